/-! ### a step of the law: what is answered, what is told after -/
def LF (A : AS) (X : nMem) (d d2 nm nm2 f s b a fr : Int) : Prop := (1 ≤ d ∧ d < 2000) ∧ ((b = 1 ∧ isDr A d) ∨ (b = 0 ∧ ¬ isDr A d)) ∧ (isDr A d2 ∧ 1 ≤ d2 ∧ d2 < 2000) ∧ (0 ≤ nm ∧ nm ≤ 6) ∧ (1 ≤ nm2 ∧ nm2 ≤ 6) ∧ (2 ≤ f ∧ f < 2000) ∧ s = lsP (pZ (X 23) f) (X 21 1).toNat ∧ a = lsP (pF (X 22) d nm) (X 21 0).toNat ∧ fr = frN A 8
theorem an_I : ansI (.inr xI) = -11 := by show (if xI = xI then (-11 : Int) else if xI = xA then -12 else -13) = -11; exact if_pos rfl
theorem an_A : ansI (.inr xA) = -12 := by show (if xA = xI then (-11 : Int) else if xA = xA then -12 else -13) = -12; rw [if_neg (by decide), if_pos rfl]
theorem an_S : ansI (.inr xS) = -13 := by show (if xS = xI then (-11 : Int) else if xS = xA then -12 else -13) = -13; rw [if_neg (by decide), if_neg (by decide)]
theorem ST_i {N : Int} {A : AS} {nb vb : Int} {t : Nat} {X μ : nMem} {ε : nEnv} (W : Wd N A nb vb t X μ ε) (hJ : JA (aF A) X) (hX : LXs X) (hD : fD (aF A) = 0) (hV : VZ (aF A)) (hi : ∀ j, inR (X (-1) j)) : ST N A nb vb t X μ ε 0 := ⟨W, ⟨hJ, hX⟩, ⟨hV.1, ZI_BI hV.2⟩, Or.inl ⟨rfl, hD, hV.2⟩, hi⟩
theorem ST_d {N : Int} {F : Fl} {A : AS} {nb vb : Int} {t : Nat} {X μ : nMem} {ε : nEnv} (W : Wd N A nb vb t X μ ε) (hJ : JA F X) (hX : LXs X) (hd : drk F (aF A)) (hV : VI (aF A)) (hB : BI (aF A)) (hi : ∀ j, inR (X (-1) j)) : ST N A nb vb t X μ ε 1 := ⟨W, ⟨JA_EQ hJ hd.2, hX⟩, ⟨hV, hB⟩, Or.inr ⟨rfl, hd.1⟩, hi⟩
theorem ST_0 {N : Int} {A : AS} {nb vb : Int} {t : Nat} {X μ : nMem} {ε : nEnv} (hS : ST N A nb vb t X μ ε 0) : (Wd N A nb vb t X μ ε ∧ GA A X ∧ LXs X ∧ (∀ j, inR (X (-1) j))) ∧ (fD (aF A) = 0 ∧ JA (aF A) X ∧ VI (aF A) ∧ ZI (aF A)) ∧ ∃ fl S, IP A fl nb vb ∧ TSA A fl S := by
  obtain ⟨hW, ⟨hJ, hX⟩, ⟨hV, hB⟩, hz, hi⟩ := hS
  obtain ⟨hD, hZ⟩ : fD (aF A) = 0 ∧ ZI (aF A) := by
    rcases hz with z | z
    · exact z.2
    · exact absurd z.1 (by decide)
  obtain ⟨S, -, -, -, -, -, hon⟩ := id hW.1
  obtain ⟨fl, hP, hTS⟩ := hon hD
  exact ⟨⟨hW, GA_of hW hD hJ hX.1, hX, hi⟩, ⟨hD, hJ, hV, hZ⟩, fl, S, hP, hTS⟩
theorem few_fr {A : AS} (h : few A) : frN A 8 < 2 := by have := frN_le A; have h : (aG A).2.1.length < 2 := h; omega
theorem fa_i {A : AS} {X : nMem} (hG : GA A X) {d nm : Int} (c1 : isDr A d) (c2 : nmR nm) : (TG (aF A) d nm = 0 ∧ lsP (pF (X 22) d nm) (X 21 0).toNat = -1) ∨ (TG (aF A) d nm ≠ 0 ∧ (0 ≤ lsP (pF (X 22) d nm) (X 21 0).toNat ∧ lsP (pF (X 22) d nm) (X 21 0).toNat < X 21 0) ∧ (X 22 (4 * lsP (pF (X 22) d nm) (X 21 0).toNat) = d ∧ X 22 (4 * lsP (pF (X 22) d nm) (X 21 0).toNat + 1) = nm) ∧ TG (aF A) d nm = X 22 (4 * lsP (pF (X 22) d nm) (X 21 0).toNat + 2) ∧ TD (aF A) d nm = X 22 (4 * lsP (pF (X 22) d nm) (X 21 0).toNat + 3)) := by
  rcases GA_find hG d nm with ⟨a, b⟩ | ⟨a, b, c⟩
  · exact Or.inl ⟨b c1 c2, a⟩
  · obtain ⟨⟨e1, e2, e3, e4⟩, e5, -⟩ := GA_e hG a.1 a.2
    rw [b, c] at e3 e4
    exact Or.inr ⟨by rw [e3]; omega, a, ⟨b, c⟩, e3, e4⟩
theorem cR_ex {p : Int → Prop} {k : Nat} (h : cR p k ≠ 0) : ∃ r : Int, (0 ≤ r ∧ r < k) ∧ p r := Classical.byContradiction (fun z => h (cR_0 (fun r r0 r1 q => z ⟨r, ⟨r0, r1⟩, q⟩)))
theorem hn_iff {A : AS} {X : nMem} (hG : GA A X) {a : Int} (a0 : 0 ≤ a) (a1 : a < X 21 0) : hasNm A (X 22 (4 * a)) (X 22 (4 * a + 1)) ↔ X 22 (4 * a + 3) ≠ 0 ∧ cR (pD (X 22) (X 22 (4 * a + 2))) (X 21 0).toNat ≠ 0 := by
  obtain ⟨⟨e1, e2, e3, e4⟩, e5, e6, e7⟩ := GA_e hG a0 a1
  unfold hasNm
  rw [e3, e4]
  have hn := hG.1.2.2.1
  constructor
  · rintro ⟨h1, x, hx, h2⟩
    obtain ⟨k1, hd⟩ := e7.resolve_right (fun z => by have := z.1; omega)
    obtain ⟨i, i1, i2, i3⟩ := hG.1.2.1.1.2.1 _ _ hd hx h2
    have := cR_pos (p := pD (X 22) (X 22 (4 * a + 2))) (k := (X 21 0).toNat) i1.1 (by omega) i2
    exact ⟨by omega, by omega⟩
  · rintro ⟨h1, h2⟩
    obtain ⟨i, i1, i2⟩ := cR_ex h2
    obtain ⟨⟨g1, g2, g3, g4⟩, g5, -⟩ := GA_e hG i1.1 (by omega)
    have i2 : X 22 (4 * i) = X 22 (4 * a + 2) := i2
    rw [i2] at g3
    exact ⟨by rcases e7 with z | z; exact z.1; exact absurd z.1 h1, _, g2, by rw [g3]; omega⟩
theorem RK_of {A : AS} {fl : Int → Int} {nb vb : Int} (hP : IP A fl nb vb) : RK (TG (aF A)) (TD (aF A)) := by
  rw [flOK_TD (PA_NS hP.2.1) hP.2.2.2.2.2.1]; exact hP.2.2.2.2.2.2.1.2.2.2.1
theorem fl_of {A : AS} {fl : Int → Int} {nb vb : Int} (hP : IP A fl nb vb) : ∃ fl : Int → Int, ∀ x y, TG (aF A) x y ≠ 0 → TD (aF A) x y = fl (TG (aF A) x y) := ⟨fl, fun _ _ q => TD_fl (PA_NS hP.2.1) hP.2.2.2.2.2.1 q⟩
theorem T1_of {A : AS} {fl : Int → Int} {nb vb : Int} (hP : IP A fl nb vb) (d nm : Int) : TG (aF A) d nm ≠ 1 := by have := hP.2.2.2.2.2.2.1.2.2.1 d nm; omega
theorem nx_lk {A : AS} {fl : Int → Int} {nb vb : Int} {X : nMem} (hP : IP A fl nb vb) (hG : GA A X) : cR (pT (X 22) (aX A)) (X 21 0).toNat = 0 := cR_0 (fun r r0 r1 z => by
  obtain ⟨⟨e1, e2, e3, e4⟩, -⟩ := GA_e hG r0 (by omega)
  have z : X 22 (4 * r + 2) = aX A := z
  exact TG_new hP.2.2.2.2.2.2.1 _ _ (e3.trans z))
def lwA (X : nMem) (d v t q : Int) : nMem := fun x j => if x = 21 ∧ j = 0 then X 21 0 + 1 else if x = 22 then (if j = 4 * X 21 0 then d else if j = 4 * X 21 0 + 1 then v else if j = 4 * X 21 0 + 2 then t else if j = 4 * X 21 0 + 3 then q else X 22 j) else X x j
theorem lwA_v (X : nMem) (d v t q x j : Int) : lwA X d v t q x j = if x = 21 ∧ j = 0 then X 21 0 + 1 else if x = 22 then (if j = 4 * X 21 0 then d else if j = 4 * X 21 0 + 1 then v else if j = 4 * X 21 0 + 2 then t else if j = 4 * X 21 0 + 3 then q else X 22 j) else X x j := rfl
theorem lwA_X (X : nMem) (d v t q : Int) : adX X (lwA X d v t q) d v t q := by
  refine ⟨by rw [lwA_v, if_pos ⟨rfl, rfl⟩], by rw [lwA_v, if_neg (by omega), if_neg (by omega)], fun j => by rw [lwA_v, if_neg (by omega), if_pos rfl], fun j => ⟨?_, ?_, ?_⟩⟩ <;> rw [lwA_v, if_neg (by omega), if_neg (by omega)]
theorem pIT {c : Prop} {a b : Ans × AS} {r : Ans × AS} (h : c) (e : a = r) : pI c a b = r := (pI_1 h).trans e
section
variable {N : Int} {A : AS} {nb vb : Int} {t : Nat} {X μ : nMem} {ε : nEnv} {Qw : Int → nMem → nEnv → Prop} {d d2 nm nm2 f s b a fr : Int}
theorem qc_create {x0 : Int} (hS : ST N A nb vb (t + 1) X μ ε 0) (hnb : nb + 1 ≤ 490) (hvb : vb + 2 ≤ 4000) (hF : LF A X d d2 nm nm2 f s b a fr)
    (h1 : ∀ r m e, ST N A (nb + 1) (vb + 2) t X m e 0 → ((b = 0 ∧ r = -11) ∨ (b = 1 ∧ nm = 0 ∧ r = -12) ∨ (b = 1 ∧ nm ≠ 0 ∧ 0 ≤ a ∧ r = -13)) → Qw r m e)
    (h2 : ∀ m e, ST N A (nb + 1) (vb + 2) t X m e 0 → (b = 1 ∧ nm ≠ 0 ∧ a < 0 ∧ fr < 2) → Qw (-13) m e)
    (h3 : ∀ A1 m e, ST N A1 (nb + 1) (vb + 2) t X m e 1 → (b = 1 ∧ nm ≠ 0 ∧ a < 0) → Qw (-9) m e)
    (h4 : ∀ A1 r m e, Wd N A1 (nb + 1) (vb + 2) t X m e → (b = 1 ∧ nm ≠ 0 ∧ a < 0 ∧ 2 ≤ r ∧ r < 500) → cR (pT (X 22) r) (X 21 0).toNat = 0 → (∀ X1 X2, adX X X1 d nm r 0 → opX X1 X2 r → JA (aF A1) X2) → (fD (aF A1) = 0 ∧ VZ (aF A1)) → Qw r m e) : SpH mL_does [(0, 133, 134, 55), (0, 133, 139, 57), (0, 133, 144, 59)] [vR 1, vI 0, vI d, vI nm, vI x0] μ ε (oD Qw) := by
  obtain ⟨⟨hW, hG, hX, hi⟩, ⟨hD, hJ, hV, hZ⟩, fl, S, hP, hTS⟩ := ST_0 hS
  obtain ⟨f1, f2, f3, f4, f5, f6, f7, f8, f9⟩ := hF
  have hn0 := hX.1.1
  have hx := hP.2.2.2.2.2.2.2.1
  refine sd_create hW (by omega) hvb (by unfold inR; omega) (by unfold inR; omega) (fun m e W => ?_)
  by_cases c1 : isDr A d
  · have b1 : b = 1 := by
      rcases f2 with q | q
      · exact q.1
      · exact absurd c1 q.2
    by_cases c2 : nm = 0
    · have e9 : actCreate A d nm = (.inr xA, A) := by unfold actCreate; rw [pI_0 (nDk hP), pI_0 (fun z => z c1), pI_1 (by omega)]
      rw [e9] at W ⊢
      rw [show ansI (Prod.fst (Sum.inr xA, A)) = -12 from an_A]
      exact h1 _ m e (ST_i W hJ hX hD ⟨hV, hZ⟩ hi) (by omega)
    · have hm : nmR nm := by omega
      have hfa := fa_i hG c1 hm
      rw [← f8] at hfa
      by_cases c3 : TG (aF A) d nm = 0
      · have a0 : a < 0 := by omega
        have P := pa_create hP hV c1 hm c3 (by omega) hvb
        rcases P with ⟨p1, p2, p3⟩ | ⟨p1, p2, p3⟩ | ⟨p1, p2, p3, p4⟩
        · rw [p2] at W
          rw [p1, an_S]
          have := few_fr p3
          exact h2 m e (ST_i W hJ hX hD ⟨hV, hZ⟩ hi) (by omega)
        · rw [p1]
          exact h3 _ m e (ST_d W hJ hX p2 p3.1 (ZI_BI p3.2) hi) (by omega)
        · rw [p1]
          show Qw (aX A) m e
          refine h4 _ _ m e W (by omega) (nx_lk hP hG) ?_ ⟨p2, p3⟩
          obtain ⟨n1, n2⟩ := LN_new hP.2.2.2.2.1 (Int.le_refl (aX A))
          exact fun X1 X2 ad op => JA_new hJ hn0.1 hX.1.2.1.1 c1 hm c3 (by omega) (fun z => by have := fl_b hP z; omega) p4 n1 n2 ad op
      · have e9 : actCreate A d nm = (.inr xS, A) := by unfold actCreate; rw [pI_0 (nDk hP), pI_0 (fun z => z c1), pI_0 (fun z => z hm), pI_1 c3]
        rw [e9] at W ⊢
        rw [show ansI (Prod.fst (Sum.inr xS, A)) = -13 from an_S]
        exact h1 _ m e (ST_i W hJ hX hD ⟨hV, hZ⟩ hi) (by omega)
  · have b1 : b = 0 := by
      rcases f2 with q | q
      · exact absurd q.2 c1
      · exact q.1
    have e9 : actCreate A d nm = (.inr xI, A) := by unfold actCreate; rw [pI_0 (nDk hP), pI_1 c1]
    rw [e9] at W ⊢
    rw [show ansI (Prod.fst (Sum.inr xI, A)) = -11 from an_I]
    exact h1 _ m e (ST_i W hJ hX hD ⟨hV, hZ⟩ hi) (by omega)
theorem qc_makeDirectory {x0 : Int} (hS : ST N A nb vb (t + 1) X μ ε 0) (hnb : nb + 1 ≤ 490) (hvb : vb + 2 ≤ 4000) (hF : LF A X d d2 nm nm2 f s b a fr)
    (h1 : ∀ r m e, ST N A (nb + 1) (vb + 2) t X m e 0 → ((b = 0 ∧ r = -11) ∨ (b = 1 ∧ nm = 0 ∧ r = -12) ∨ (b = 1 ∧ nm ≠ 0 ∧ 0 ≤ a ∧ r = -13)) → Qw r m e)
    (h2 : ∀ m e, ST N A (nb + 1) (vb + 2) t X m e 0 → (b = 1 ∧ nm ≠ 0 ∧ a < 0 ∧ fr < 2) → Qw (-13) m e)
    (h3 : ∀ A1 m e, ST N A1 (nb + 1) (vb + 2) t X m e 1 → (b = 1 ∧ nm ≠ 0 ∧ a < 0) → Qw (-9) m e)
    (h4 : ∀ A1 r m e, Wd N A1 (nb + 1) (vb + 2) t X m e → (b = 1 ∧ nm ≠ 0 ∧ a < 0 ∧ 2 ≤ r ∧ r < 500) → cR (pT (X 22) r) (X 21 0).toNat = 0 → (∀ X1, adX X X1 d nm r 1 → JA (aF A1) X1) → (fD (aF A1) = 0 ∧ VZ (aF A1)) → Qw r m e) : SpH mL_does [(0, 133, 134, 55), (0, 133, 139, 57), (0, 133, 144, 59)] [vR 1, vI 1, vI d, vI nm, vI x0] μ ε (oD Qw) := by
  obtain ⟨⟨hW, hG, hX, hi⟩, ⟨hD, hJ, hV, hZ⟩, fl, S, hP, hTS⟩ := ST_0 hS
  obtain ⟨f1, f2, f3, f4, f5, f6, f7, f8, f9⟩ := hF
  have hn0 := hX.1.1
  have hx := hP.2.2.2.2.2.2.2.1
  refine sd_makeDirectory hW (by omega) hvb (by unfold inR; omega) (by unfold inR; omega) (fun m e W => ?_)
  by_cases c1 : isDr A d
  · have b1 : b = 1 := by
      rcases f2 with q | q
      · exact q.1
      · exact absurd c1 q.2
    by_cases c2 : nm = 0
    · have e9 : actMkdir A d nm = (.inr xA, A) := by unfold actMkdir; rw [pI_0 (nDk hP), pI_0 (fun z => z c1), pI_1 (by omega)]
      rw [e9] at W ⊢
      rw [show ansI (Prod.fst (Sum.inr xA, A)) = -12 from an_A]
      exact h1 _ m e (ST_i W hJ hX hD ⟨hV, hZ⟩ hi) (by omega)
    · have hm : nmR nm := by omega
      have hfa := fa_i hG c1 hm
      rw [← f8] at hfa
      by_cases c3 : TG (aF A) d nm = 0
      · have a0 : a < 0 := by omega
        have P := pa_mkdir hP hV c1 hm c3 (by omega) hvb
        rcases P with ⟨p1, p2, p3⟩ | ⟨p1, p2, p3⟩ | ⟨p1, p2, p3, p4⟩
        · rw [p2] at W
          rw [p1, an_S]
          have := few_fr p3
          exact h2 m e (ST_i W hJ hX hD ⟨hV, hZ⟩ hi) (by omega)
        · rw [p1]
          exact h3 _ m e (ST_d W hJ hX p2 p3.1 (ZI_BI p3.2) hi) (by omega)
        · rw [p1]
          show Qw (aX A) m e
          refine h4 _ _ m e W (by omega) (nx_lk hP hG) ?_ ⟨p2, p3⟩
          exact fun X1 ad => JA_add hJ hn0.1 c1 hm c3 (by omega) p4 (Or.inr (Or.inl ⟨rfl, by have := dr_b hP c1; omega, fun x _ => by have := hP.2.2.2.2.2.2.1.2.2.1 (aX A) x; omega⟩)) ad
      · have e9 : actMkdir A d nm = (.inr xS, A) := by unfold actMkdir; rw [pI_0 (nDk hP), pI_0 (fun z => z c1), pI_0 (fun z => z hm), pI_1 c3]
        rw [e9] at W ⊢
        rw [show ansI (Prod.fst (Sum.inr xS, A)) = -13 from an_S]
        exact h1 _ m e (ST_i W hJ hX hD ⟨hV, hZ⟩ hi) (by omega)
  · have b1 : b = 0 := by
      rcases f2 with q | q
      · exact absurd q.2 c1
      · exact q.1
    have e9 : actMkdir A d nm = (.inr xI, A) := by unfold actMkdir; rw [pI_0 (nDk hP), pI_1 c1]
    rw [e9] at W ⊢
    rw [show ansI (Prod.fst (Sum.inr xI, A)) = -11 from an_I]
    exact h1 _ m e (ST_i W hJ hX hD ⟨hV, hZ⟩ hi) (by omega)
theorem qc_link (hS : ST N A nb vb (t + 1) X μ ε 0) (hnb : nb + 1 ≤ 490) (hvb : vb + 2 ≤ 4000) (hF : LF A X d d2 nm nm2 f s b a fr)
    (h1 : ∀ r m e, ST N A (nb + 1) (vb + 2) t X m e 0 → (((b = 0 ∨ s < 0) ∧ r = -11) ∨ (b = 1 ∧ 0 ≤ s ∧ nm = 0 ∧ r = -12) ∨ (b = 1 ∧ 0 ≤ s ∧ nm ≠ 0 ∧ 0 ≤ a ∧ r = -13)) → Qw r m e)
    (h2 : ∀ m e, ST N A (nb + 1) (vb + 2) t X m e 0 → (b = 1 ∧ 0 ≤ s ∧ nm ≠ 0 ∧ a < 0 ∧ fr < 2) → Qw (-13) m e)
    (h3 : ∀ A1 m e, ST N A1 (nb + 1) (vb + 2) t X m e 1 → (b = 1 ∧ 0 ≤ s ∧ nm ≠ 0 ∧ a < 0) → Qw (-9) m e)
    (h4 : ∀ A1 r m e, Wd N A1 (nb + 1) (vb + 2) t X m e → (b = 1 ∧ 0 ≤ s ∧ nm ≠ 0 ∧ a < 0) → r = cR (pT (X 22) f) (X 21 0).toNat + 1 → (∀ X1, adX X X1 d nm f 0 → JA (aF A1) X1) → (fD (aF A1) = 0 ∧ VZ (aF A1)) → Qw r m e) : SpH mL_does [(0, 133, 134, 55), (0, 133, 139, 57), (0, 133, 144, 59)] [vR 1, vI 2, vI d, vI nm, vI f] μ ε (oD Qw) := by
  obtain ⟨⟨hW, hG, hX, hi⟩, ⟨hD, hJ, hV, hZ⟩, fl, S, hP, hTS⟩ := ST_0 hS
  obtain ⟨f1, f2, f3, f4, f5, f6, f7, f8, f9⟩ := hF
  have hn0 := hX.1.1
  have hx := hP.2.2.2.2.2.2.2.1
  have hsl := GA_slot hG f
  rw [← f7] at hsl
  refine sd_link hW (by omega) hvb (by unfold inR; omega) (by unfold inR; omega) (by unfold inR; omega) (fun m e W => ?_)
  by_cases c1 : isDr A d
  · have b1 : b = 1 := by
      rcases f2 with q | q
      · exact q.1
      · exact absurd c1 q.2
    by_cases c4 : isFl A f
    · have s0 : 0 ≤ s := by
        rcases hsl with q | q
        · exact absurd c4 q.2
        · exact q.1.1
      by_cases c2 : nm = 0
      · have e9 : actLink A d nm f = (.inr xA, A) := by unfold actLink; rw [pI_0 (nDk hP), pI_0 (fun z => z c1), pI_0 (fun z => z c4), pI_1 (by omega)]
        rw [e9] at W ⊢
        rw [show ansI (Prod.fst (Sum.inr xA, A)) = -12 from an_A]
        exact h1 _ m e (ST_i W hJ hX hD ⟨hV, hZ⟩ hi) (by omega)
      · have hm : nmR nm := by omega
        have hfa := fa_i hG c1 hm
        rw [← f8] at hfa
        by_cases c3 : TG (aF A) d nm = 0
        · have a0 : a < 0 := by omega
          have P := pa_link hP hV c1 c4 hm c3 (by omega) hvb
          rcases P with ⟨p1, p2, p3⟩ | ⟨p1, p2, p3⟩ | ⟨p1, p2, p3, p4⟩
          · rw [p2] at W
            rw [p1, an_S]
            have := few_fr p3
            exact h2 m e (ST_i W hJ hX hD ⟨hV, hZ⟩ hi) (by omega)
          · rw [p1]
            exact h3 _ m e (ST_d W hJ hX p2 p3.1 (ZI_BI p3.2) hi) (by omega)
          · rw [p1]
            have hJA : ∀ X1, adX X X1 d nm f 0 → JA (aF (actLink A d nm f).2) X1 := fun X1 ad => JA_add hJ hn0.1 c1 hm c3 (by omega) p4 (Or.inl ⟨rfl, c4⟩) ad
            refine h4 _ _ m e W (by omega) ?_ hJA ⟨p2, p3⟩
            obtain ⟨S9, -, -, -, -, -, hon9⟩ := id W.1
            obtain ⟨fl9, hP9, -⟩ := hon9 p2
            have hx9 := hP9.2.2.2.2.2.2.2.1
            have hj := hJA _ (lwA_X X d nm f 0)
            have hl := JE_links hj.1 (fun z hz => by have := dr_b hP9 hz; omega) (v := f) (by omega)
            obtain ⟨g1, g2, g3, g4⟩ := lwA_X X d nm f 0
            show ((lk _ _ f 2048 : Nat) : Int) = _
            rw [hl, g1, show (X 21 0 + 1).toNat = (X 21 0).toNat + 1 by omega, cR_s]
            have q1 : lwA X d nm f 0 22 (4 * ((X 21 0).toNat : Int) + 2) = f := by
              rw [g3, if_neg (by omega), if_neg (by omega), if_pos (by omega)]
            rw [pI_1 q1]
            congr 1
            refine cR_cg _ (fun r r0 r1 => ?_)
            show lwA X d nm f 0 22 (4 * r + 2) = f ↔ X 22 (4 * r + 2) = f
            rw [g3, if_neg (by omega), if_neg (by omega), if_neg (by omega), if_neg (by omega)]
        · have e9 : actLink A d nm f = (.inr xS, A) := by unfold actLink; rw [pI_0 (nDk hP), pI_0 (fun z => z c1), pI_0 (fun z => z c4), pI_0 (fun z => z hm), pI_1 c3]
          rw [e9] at W ⊢
          rw [show ansI (Prod.fst (Sum.inr xS, A)) = -13 from an_S]
          exact h1 _ m e (ST_i W hJ hX hD ⟨hV, hZ⟩ hi) (by omega)
    · have s0 : s < 0 := by
        rcases hsl with q | q
        · omega
        · exact absurd q.2.2 c4
      have e9 : actLink A d nm f = (.inr xI, A) := by unfold actLink; rw [pI_0 (nDk hP), pI_0 (fun z => z c1), pI_1 c4]
      rw [e9] at W ⊢
      rw [show ansI (Prod.fst (Sum.inr xI, A)) = -11 from an_I]
      exact h1 _ m e (ST_i W hJ hX hD ⟨hV, hZ⟩ hi) (by omega)
  · have b1 : b = 0 := by
      rcases f2 with q | q
      · exact absurd q.2 c1
      · exact q.1
    have e9 : actLink A d nm f = (.inr xI, A) := by unfold actLink; rw [pI_0 (nDk hP), pI_1 c1]
    rw [e9] at W ⊢
    rw [show ansI (Prod.fst (Sum.inr xI, A)) = -11 from an_I]
    exact h1 _ m e (ST_i W hJ hX hD ⟨hV, hZ⟩ hi) (by omega)
theorem qc_unlink {x0 : Int} (hS : ST N A nb vb (t + 1) X μ ε 0) (hnb : nb + 1 ≤ 490) (hvb : vb + 2 ≤ 4000) (hF : LF A X d d2 nm nm2 f s b a fr)
    (h1 : ∀ r m e, ST N A (nb + 1) (vb + 2) t X m e 0 → ¬ (b = 1 ∧ 0 ≤ a ∧ (X 22 (4 * a + 3) = 0 ∨ cR (pD (X 22) (X 22 (4 * a + 2))) (X 21 0).toNat = 0)) → ((b = 0 ∧ r = -11) ∨ (b = 1 ∧ nm = 0 ∧ r = -12) ∨ (b = 1 ∧ nm ≠ 0 ∧ r = -13)) → Qw r m e)
    (h2 : ∀ m e, ST N A (nb + 1) (vb + 2) t X m e 0 → (b = 1 ∧ 0 ≤ a ∧ (X 22 (4 * a + 3) = 0 ∨ cR (pD (X 22) (X 22 (4 * a + 2))) (X 21 0).toNat = 0)) → fr < 2 → Qw (-13) m e)
    (h3 : ∀ A1 m e, ST N A1 (nb + 1) (vb + 2) t X m e 1 → (b = 1 ∧ 0 ≤ a ∧ (X 22 (4 * a + 3) = 0 ∨ cR (pD (X 22) (X 22 (4 * a + 2))) (X 21 0).toNat = 0)) → Qw (-9) m e)
    (h4 : ∀ A1 r m e, Wd N A1 (nb + 1) (vb + 2) t X m e → (b = 1 ∧ 0 ≤ a ∧ (X 22 (4 * a + 3) = 0 ∨ cR (pD (X 22) (X 22 (4 * a + 2))) (X 21 0).toNat = 0)) → (r = X 22 (4 * a + 2) ∧ 2 ≤ r) → (0 ≤ a ∧ a < X 21 0) → (∀ X1, tkX X X1 a → JA (aF A1) X1) → (fD (aF A1) = 0 ∧ VZ (aF A1)) → Qw r m e) : SpH mL_does [(0, 133, 134, 55), (0, 133, 139, 57), (0, 133, 144, 59)] [vR 1, vI 3, vI d, vI nm, vI x0] μ ε (oD Qw) := by
  obtain ⟨⟨hW, hG, hX, hi⟩, ⟨hD, hJ, hV, hZ⟩, fl, S, hP, hTS⟩ := ST_0 hS
  obtain ⟨f1, f2, f3, f4, f5, f6, f7, f8, f9⟩ := hF
  have hn0 := hX.1.1
  have hx := hP.2.2.2.2.2.2.2.1
  refine sd_unlink hW (by omega) hvb (by unfold inR; omega) (by unfold inR; omega) (fun m e W => ?_)
  by_cases c1 : isDr A d
  · have b1 : b = 1 := by
      rcases f2 with q | q
      · exact q.1
      · exact absurd c1 q.2
    by_cases c2 : nm = 0
    · have a9 : a < 0 := by
        have hg := GA_find hG d nm
        rw [← f8] at hg
        rcases hg with q | q
        · omega
        · obtain ⟨⟨e1, e2, e3, e4⟩, e5, -⟩ := GA_e hG q.1.1 q.1.2
          omega
      have e9 : actUnlink A d nm = (.inr xA, A) := by unfold actUnlink; rw [pI_0 (nDk hP), pI_0 (fun z => z c1), pI_1 (by omega)]
      rw [e9] at W ⊢
      rw [show ansI (Prod.fst (Sum.inr xA, A)) = -12 from an_A]
      exact h1 _ m e (ST_i W hJ hX hD ⟨hV, hZ⟩ hi) (by omega) (by omega)
    · have hm : nmR nm := by omega
      have hfa := fa_i hG c1 hm
      rw [← f8] at hfa
      by_cases c3 : TG (aF A) d nm = 0
      · have a9 : a < 0 := by omega
        have e9 : actUnlink A d nm = (.inr xS, A) := by unfold actUnlink; rw [pI_0 (nDk hP), pI_0 (fun z => z c1), pI_0 (fun z => z hm), pI_1 c3]
        rw [e9] at W ⊢
        rw [show ansI (Prod.fst (Sum.inr xS, A)) = -13 from an_S]
        exact h1 _ m e (ST_i W hJ hX hD ⟨hV, hZ⟩ hi) (by omega) (by omega)
      · obtain ⟨-, ⟨a0, a1⟩, ⟨g1, g2⟩, g3, g4⟩ := hfa.resolve_left (fun z => c3 z.1)
        have hni := hn_iff hG a0 a1
        rw [g1, g2] at hni
        have ht := hP.2.2.2.2.2.2.1.2.2.1 d nm
        by_cases c5 : hasNm A d nm
        · have q5 := hni.mp c5
          have e9 : actUnlink A d nm = (.inr xS, A) := by unfold actUnlink; rw [pI_0 (nDk hP), pI_0 (fun z => z c1), pI_0 (fun z => z hm), pI_0 c3, pI_1 c5]
          rw [e9] at W ⊢
          rw [show ansI (Prod.fst (Sum.inr xS, A)) = -13 from an_S]
          exact h1 _ m e (ST_i W hJ hX hD ⟨hV, hZ⟩ hi) (fun z => z.2.2.elim q5.1 q5.2) (by omega)
        · have q5 : X 22 (4 * a + 3) = 0 ∨ cR (pD (X 22) (X 22 (4 * a + 2))) (X 21 0).toNat = 0 := by
            by_cases k : X 22 (4 * a + 3) = 0
            · exact Or.inl k
            · exact Or.inr (Classical.byContradiction (fun z => c5 (hni.mpr ⟨k, z⟩)))
          have P := pa_unlink hP hV c1 hm c3 c5 (by omega) hvb
          rcases P with ⟨p1, p2, p3⟩ | ⟨p1, p2, p3⟩ | ⟨p1, p2, p3, p4⟩
          · rw [p2] at W
            rw [p1, an_S]
            have := few_fr p3
            exact h2 m e (ST_i W hJ hX hD ⟨hV, hZ⟩ hi) ⟨b1, a0, q5⟩ (by omega)
          · rw [p1]
            exact h3 _ m e (ST_d W hJ hX p2 p3.1 (ZI_BI p3.2) hi) ⟨b1, a0, q5⟩
          · rw [p1]
            refine h4 _ _ m e W ⟨b1, a0, q5⟩ (by show TG (aF A) d nm = _ ∧ _ ≤ TG (aF A) d nm; omega) ⟨a0, a1⟩ (fun X1 tk => ?_) ⟨p2, p3⟩
            refine JA_del hJ hX.1 ⟨a0, a1⟩ g1 g2 (RK_of hP) (fl_of hP) (T1_of hP _ _) p4 (fun q => Or.inl (fun x hx => ?_)) tk
            exact Classical.byContradiction (fun z => c5 ⟨q, x, hx, z⟩)
  · have b1 : b = 0 := by
      rcases f2 with q | q
      · exact absurd q.2 c1
      · exact q.1
    have e9 : actUnlink A d nm = (.inr xI, A) := by unfold actUnlink; rw [pI_0 (nDk hP), pI_1 c1]
    rw [e9] at W ⊢
    rw [show ansI (Prod.fst (Sum.inr xI, A)) = -11 from an_I]
    exact h1 _ m e (ST_i W hJ hX hD ⟨hV, hZ⟩ hi) (by omega) (by omega)
end
