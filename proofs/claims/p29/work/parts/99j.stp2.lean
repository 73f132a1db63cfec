section
variable {N : Int} {A : AS} {nb vb : Int} {t : Nat} {X μ : nMem} {ε : nEnv} {Qw : Int → nMem → nEnv → Prop} {d d2 nm nm2 f s b a fr : Int}
theorem ds_f (f v o z b n : Int) (p : Int) : (sSet (dbSrc f v o z b n) p ↔ (z ≤ p ∨ (o ≤ p ∧ p - o < n))) ∧ sByt (dbSrc f v o z b n) p = if o ≤ p ∧ p - o < n then iAnd (jUshr b (8 * (p - o))) 255 else 0 := by
  obtain ⟨e0, e1, e3, e4, e5, e6, e7, e8, e9, e10, e11⟩ := dbSrc_f f v o z b n
  unfold sSet sByt
  rw [e0, e5, e6, e7, e9]
  exact ⟨⟨fun q => by rcases q with q | q; exact absurd q.1 (by decide); exact q.2, fun q => Or.inr ⟨by decide, q⟩⟩, rfl⟩
theorem qc_truncate {z x0 : Int} (hS : ST N A nb vb (t + 1) X μ ε 0) (hnb : nb + 1 ≤ 490) (hvb : vb + 2 ≤ 4000) (hF : LF A X d d2 nm nm2 f s b a fr) (hz : 0 ≤ z ∧ z < 100)
    (h1 : ∀ r m e, ST N A (nb + 1) (vb + 2) t X m e 0 → ((s < 0 ∧ r = -11) ∨ (0 ≤ s ∧ ¬ (z ≤ 64) ∧ r = -12)) → Qw r m e)
    (h2 : ∀ m e, ST N A (nb + 1) (vb + 2) t X m e 0 → (0 ≤ s ∧ (z ≤ 64) ∧ fr < 2) → Qw (-13) m e)
    (h3 : ∀ A1 m e, ST N A1 (nb + 1) (vb + 2) t X m e 1 → (0 ≤ s ∧ (z ≤ 64)) → Qw (-9) m e)
    (h4 : ∀ A1 r m e, Wd N A1 (nb + 1) (vb + 2) t X m e → ((0 ≤ s ∧ s < X 21 1) ∧ (z ≤ 64) ∧ (0 ≤ X 24 s ∧ X 24 s ≤ 64) ∧ r = X 24 s) → (∀ X1 : nMem, (∀ j, X1 21 j = X 21 j) → (∀ j, X1 22 j = X 22 j) → (∀ j, X1 23 j = X 23 j) → (∀ j, X1 24 j = if j = s then z else X 24 j) → (∀ i p, 0 ≤ i → i < X 21 1 → 0 ≤ p → p < 64 → cB (X1 25) i p = if i = s ∧ z ≤ p ∧ p < X 24 s then 0 else cB (X 25) i p) → JA (aF A1) X1) → (fD (aF A1) = 0 ∧ VZ (aF A1)) → Qw r m e) : SpH mL_does [(0, 133, 134, 55), (0, 133, 139, 57), (0, 133, 144, 59)] [vR 1, vI 4, vI f, vI z, vI x0] μ ε (oD Qw) := by
  obtain ⟨⟨hW, hG, hX, hi⟩, ⟨hD, hJ, hV, hZ⟩, fl, S, hP, hTS⟩ := ST_0 hS
  obtain ⟨f1, f2, f3, f4, f5, f6, f7, f8, f9⟩ := hF
  have hn0 := hX.1.1
  have hx := hP.2.2.2.2.2.2.2.1
  have hsl := GA_slot hG f
  rw [← f7] at hsl
  refine sd_truncate hW (by omega) hvb (by unfold inR; omega) (by unfold inR; omega) (fun m e W => ?_)
  by_cases c1 : isFl A f
  · obtain ⟨⟨s0, s1⟩, s2, -⟩ := hsl.resolve_left (fun z => z.2 c1)
    obtain ⟨g1, g2, g3, g4, g5⟩ := GA_f hG s0 s1
    rw [s2] at g2 g3
    by_cases c2 : z ≤ 64
    · have P := pa_trunc (z := z) hP hV c1 (by omega) (by omega) hvb
      rcases P with ⟨p1, p2, p3⟩ | ⟨p1, p2, p3⟩ | ⟨p1, p2, p3, p4⟩
      · rw [p2] at W
        rw [p1, an_S]
        have := few_fr p3
        exact h2 m e (ST_i W hJ hX hD ⟨hV, hZ⟩ hi) (by omega)
      · rw [p1]
        exact h3 _ m e (ST_d W hJ hX p2 p3.1 (ZI_BI p3.2) hi) (by omega)
      · rw [p1]
        show Qw (LN (aF A) f) m e
        refine h4 _ _ m e W ⟨⟨s0, s1⟩, c2, g5, by rw [g2]⟩ (fun X1 x1 x2 x3 x4 x5 => ?_) ⟨p2, p3⟩
        refine JA_dat hJ ⟨s0, s1⟩ s2 p4 x1 x2 x3 (fun j => by rw [x4 j]) (fun i p i0 i1 p0 p9 => ?_)
        rw [x5 i p i0 i1 p0 p9]
        obtain ⟨y1, y2⟩ := ds_f f (aD A f + 1) 0 z 0 0 p
        rw [y2]
        have hend : LN (aF A) f ≤ p → BY (aF A) f p = 0 := fun q => BY_end (PA_NS hP.2.1) hP.2.2.1 q p9
        have hb := g3 p p0 p9
        rw [← hb] at hend ⊢
        rw [g2] at *
        by_cases k1 : i = s
        · subst k1
          rw [if_pos rfl]
          by_cases k2 : z ≤ p
          · by_cases k3 : p < LN (aF A) f
            · rw [if_pos ⟨rfl, k2, k3⟩, if_pos (y1.mpr (Or.inl k2)), if_neg (by omega)]
            · rw [if_neg (fun q => k3 q.2.2), if_pos (y1.mpr (Or.inl k2)), if_neg (by omega)]; exact hend (by omega)
          · rw [if_neg (fun q => k2 q.2.1), if_neg (fun q => by have := y1.mp q; omega)]
        · rw [if_neg (by omega), if_neg k1]
    · have e9 : actTrunc A f z = (.inr xA, A) := by unfold actTrunc; rw [pI_0 (nDk hP), pI_0 (fun z => z c1), pI_1 (by omega)]
      rw [e9] at W ⊢
      rw [show ansI (Prod.fst (Sum.inr xA, A)) = -12 from an_A]
      exact h1 _ m e (ST_i W hJ hX hD ⟨hV, hZ⟩ hi) (by omega)
  · have s0 : s < 0 := by
      rcases hsl with q | q
      · omega
      · exact absurd q.2.2 c1
    have e9 : actTrunc A f z = (.inr xI, A) := by unfold actTrunc; rw [pI_0 (nDk hP), pI_1 c1]
    rw [e9] at W ⊢
    rw [show ansI (Prod.fst (Sum.inr xI, A)) = -11 from an_I]
    exact h1 _ m e (ST_i W hJ hX hD ⟨hV, hZ⟩ hi) (by omega)
theorem qc_write {o n bb : Int} (hS : ST N A nb vb (t + 1) X μ ε 0) (hnb : nb + 1 ≤ 490) (hvb : vb + 2 ≤ 4000) (hF : LF A X d d2 nm nm2 f s b a fr) (ho : 0 ≤ o ∧ o < 64) (hn : 1 ≤ n ∧ n ≤ 8)
    (h1 : ∀ r m e, ST N A (nb + 1) (vb + 2) t X m e 0 → ((s < 0 ∧ r = -11) ∨ (0 ≤ s ∧ ¬ (o + n ≤ 64) ∧ r = -12)) → Qw r m e)
    (h2 : ∀ m e, ST N A (nb + 1) (vb + 2) t X m e 0 → (0 ≤ s ∧ (o + n ≤ 64) ∧ fr < 2) → Qw (-13) m e)
    (h3 : ∀ A1 m e, ST N A1 (nb + 1) (vb + 2) t X m e 1 → (0 ≤ s ∧ (o + n ≤ 64)) → Qw (-9) m e)
    (h4 : ∀ A1 r m e, Wd N A1 (nb + 1) (vb + 2) t X m e → ((0 ≤ s ∧ s < X 21 1) ∧ (o + n ≤ 64) ∧ (0 ≤ X 24 s ∧ X 24 s ≤ 64) ∧ r = max (X 24 s) (o + n)) → (∀ X1 : nMem, (∀ j, X1 21 j = X 21 j) → (∀ j, X1 22 j = X 22 j) → (∀ j, X1 23 j = X 23 j) → (∀ j, X1 24 j = if j = s then r else X 24 j) → (∀ i p, 0 ≤ i → i < X 21 1 → 0 ≤ p → p < 64 → cB (X1 25) i p = if i = s ∧ o ≤ p ∧ p < o + n then jAnd (jShr bb (8 * (p - o))) 255 else cB (X 25) i p) → JA (aF A1) X1) → (fD (aF A1) = 0 ∧ VZ (aF A1)) → Qw r m e) : SpH mL_writes [(0, 9, 10, 55), (0, 9, 15, 57), (0, 9, 20, 59)] [vR 1, vI f, vI o, vJ bb, vI n] μ ε (oD Qw) := by
  obtain ⟨⟨hW, hG, hX, hi⟩, ⟨hD, hJ, hV, hZ⟩, fl, S, hP, hTS⟩ := ST_0 hS
  obtain ⟨f1, f2, f3, f4, f5, f6, f7, f8, f9⟩ := hF
  have hn0 := hX.1.1
  have hx := hP.2.2.2.2.2.2.2.1
  have hsl := GA_slot hG f
  rw [← f7] at hsl
  refine sd_write hW (by omega) hvb (by unfold inR; omega) (by unfold inR; omega) (by unfold inR; omega) (fun m e W => ?_)
  by_cases c1 : isFl A f
  · obtain ⟨⟨s0, s1⟩, s2, -⟩ := hsl.resolve_left (fun z => z.2 c1)
    obtain ⟨g1, g2, g3, g4, g5⟩ := GA_f hG s0 s1
    rw [s2] at g2 g3
    by_cases c2 : o + n ≤ 64
    · have P := pa_write (off := o) (b := bb) (n := n) hP hV c1 (by omega) (by omega) hvb
      rcases P with ⟨p1, p2, p3⟩ | ⟨p1, p2, p3⟩ | ⟨p1, p2, p3, p4⟩
      · rw [p2] at W
        rw [p1, an_S]
        have := few_fr p3
        exact h2 m e (ST_i W hJ hX hD ⟨hV, hZ⟩ hi) (by omega)
      · rw [p1]
        exact h3 _ m e (ST_d W hJ hX p2 p3.1 (ZI_BI p3.2) hi) (by omega)
      · rw [p1]
        show Qw (max (LN (aF A) f) (o + n)) m e
        refine h4 _ _ m e W ⟨⟨s0, s1⟩, c2, g5, by rw [g2]⟩ (fun X1 x1 x2 x3 x4 x5 => ?_) ⟨p2, p3⟩
        refine JA_dat hJ ⟨s0, s1⟩ s2 p4 x1 x2 x3 (fun j => by rw [x4 j]) (fun i p i0 i1 p0 p9 => ?_)
        rw [x5 i p i0 i1 p0 p9]
        obtain ⟨y1, y2⟩ := ds_f f (aD A f + 1) o (max (LN (aF A) f) (o + n)) bb n p
        rw [y2]
        have hend : LN (aF A) f ≤ p → BY (aF A) f p = 0 := fun q => BY_end (PA_NS hP.2.1) hP.2.2.1 q p9
        have hb := g3 p p0 p9
        rw [← hb] at hend ⊢
        rw [g2] at *
        by_cases k1 : i = s
        · subst k1
          rw [if_pos rfl]
          by_cases k2 : o ≤ p ∧ p < o + n
          · rw [if_pos ⟨rfl, k2⟩, if_pos (y1.mpr (Or.inr (by omega))), if_pos (by omega)]
            exact byt_k (by omega)
          · rw [if_neg (fun q => k2 q.2)]
            by_cases k3 : max (LN (aF A) f) (o + n) ≤ p
            · rw [if_pos (y1.mpr (Or.inl k3)), if_neg (by omega)]; exact hend (by omega)
            · rw [if_neg (fun q => by have := y1.mp q; omega)]
        · rw [if_neg (by omega), if_neg k1]
    · have e9 : actWrite A f o bb n = (.inr xA, A) := by unfold actWrite; rw [pI_0 (nDk hP), pI_0 (fun z => z c1), pI_1 (by omega)]
      rw [e9] at W ⊢
      rw [show ansI (Prod.fst (Sum.inr xA, A)) = -12 from an_A]
      exact h1 _ m e (ST_i W hJ hX hD ⟨hV, hZ⟩ hi) (by omega)
  · have s0 : s < 0 := by
      rcases hsl with q | q
      · omega
      · exact absurd q.2.2 c1
    have e9 : actWrite A f o bb n = (.inr xI, A) := by unfold actWrite; rw [pI_0 (nDk hP), pI_1 c1]
    rw [e9] at W ⊢
    rw [show ansI (Prod.fst (Sum.inr xI, A)) = -11 from an_I]
    exact h1 _ m e (ST_i W hJ hX hD ⟨hV, hZ⟩ hi) (by omega)
theorem zs_cl {A : AS} {fl : Int → Int} {nb vb : Int} (hP : IP A fl nb vb) : cR (fun b => b ∉ (aG A).2.1 ∧ b ≠ (aG A).1) 8 = 0 ↔ (aG A).2.2 = [] := by
  obtain ⟨-, -, -, l4, ⟨-, -, l5, l6, l7⟩, l8, -⟩ := hP.2.2.2.1
  constructor
  · intro h
    cases hc : (aG A).2.2 with
    | nil => rfl
    | cons x xs =>
      exfalso
      have hx : x ∈ (aG A).2.2 := by rw [hc]; exact List.mem_cons_self
      have hb := (l4 x hx).1
      have := cR_pos (p := fun b => b ∉ (aG A).2.1 ∧ b ≠ (aG A).1) (k := 8) hb.1 (by omega) ⟨fun z => l5 x z hx, fun z => l7 (by rw [← z]; exact hx)⟩
      omega
  · intro h
    refine cR_0 (fun r r0 r1 q => ?_)
    rcases l8 r r0 (by omega) with z | z | z
    · exact q.2 z
    · exact q.1 z
    · rw [h] at z; exact absurd z List.not_mem_nil
theorem qc_collect {dr x0 x1 c : Int} (hS : ST N A nb vb (t + 1) X μ ε 0) (hnb : nb + 1 ≤ 490) (hvb : vb + 2 ≤ 4000) (hF : LF A X d d2 nm nm2 f s b a fr) (hdr : 0 ≤ dr ∧ dr ≤ 127) (hc : c = cR (fun b => b ∉ (aG A).2.1 ∧ b ≠ (aG A).1) 8)
    (h1 : ∀ m e, ST N A (nb + 1) (vb + 2) t X m e 0 → (c = 0 ∨ fr < 1) → Qw (-13) m e)
    (h3 : ∀ A1 m e, ST N A1 (nb + 1) (vb + 2) t X m e 1 → c ≠ 0 → Qw (-9) m e)
    (h4 : ∀ A1 r m e, ST N A1 (nb + 1) (vb + 2) t X m e 0 → c ≠ 0 → (0 ≤ r ∧ r < 8) → r ∈ (aG A1).2.1 → ¬ dk A1 → Qw r m e) : SpH mL_does [(0, 133, 134, 55), (0, 133, 139, 57), (0, 133, 144, 59)] [vR 1, vI 5, vI dr, vI x0, vI x1] μ ε (oD Qw) := by
  obtain ⟨⟨hW, hG, hX, hi⟩, ⟨hD, hJ, hV, hZ⟩, fl, S, hP, hTS⟩ := ST_0 hS
  obtain ⟨f1, f2, f3, f4, f5, f6, f7, f8, f9⟩ := hF
  have hn0 := hX.1.1
  have hx := hP.2.2.2.2.2.2.2.1
  have hz := zs_cl hP
  rw [← hc] at hz
  refine sd_collect hW (by omega) hvb (by unfold inR; omega) (fun m e W => ?_)
  rcases pa_collect hP hTS hV hdr with ⟨p1, p2, p3⟩ | ⟨p0, p1, p2, p3, p4⟩ | ⟨p0, r, p1, p2, p3, p4, p5, p6⟩
  · rw [p2] at W
    rw [p1, an_S]
    have := frN_le A
    exact h1 m e (ST_i W hJ hX hD ⟨hV, hZ⟩ hi) (by
      rcases p3 with q | q
      · exact Or.inl (hz.mpr q)
      · right; omega)
  · rw [p1]
    exact h3 _ m e (ST_d W hJ hX p2 p3 p4 hi) (fun q => p0 (hz.mp q))
  · rw [p1]
    exact h4 _ _ m e (ST_i W (JA_EQ hJ p4) hX p3 p5 hi) (fun q => p0 (hz.mp q)) p2 p6 (fun z => by have : fD _ = 1 := z; omega)
end
