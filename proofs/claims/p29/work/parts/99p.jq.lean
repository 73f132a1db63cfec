/-! ### names told, freely: between two steps of a rename -/
abbrev Tq : Type := (Int → Int → Int) × (Int → Int → Int) × (Int → Int) × (Int → Int → Int)
def zqT (F : Tq) : Int → Int → Int := F.1
def zqD (F : Tq) : Int → Int → Int := F.2.1
def zqL (F : Tq) : Int → Int := F.2.2.1
def zqB (F : Tq) : Int → Int → Int := F.2.2.2
abbrev zqDf (F : Tq) (d : Int) : Prop := thD (zqT F) (zqD F) d
abbrev zqFf (F : Tq) (f : Int) : Prop := thF (zqT F) (zqD F) f
def JQ (F : Tq) (X : nMem) : Prop := JE (zqT F) (zqD F) (X 21 0) (X 22) ∧ JZ (zqFf F) (zqL F) (zqB F) (X 21 1) (X 23) (X 24) (X 25)
def tQ (F F' : Tq) (d nm t k : Int) : Prop := zqT F' = gup (zqT F) d nm t ∧ zqD F' = gup (zqD F) d nm k ∧ zqL F' = zqL F ∧ zqB F' = zqB F
noncomputable def tq (F : Fl) : Tq := (TG F, TD F, LN F, BY F)
theorem add_Dq {F F' : Tq} {d nm t k : Int} (hd : zqDf F d) (hm : nmR nm) (h0 : zqT F d nm = 0) (ht : t ≠ 0) (tn : tQ F F' d nm t k) (hk : k = 0 ∨ (k = 1 ∧ t ≠ d ∧ ∀ x, nmR x → zqT F t x = 0) ∨ (k = 1 ∧ zqDf F t)) : zqDf F' d ∧ (∀ x, zqDf F x → zqDf F' x) ∧ ∀ x, zqDf F' x → zqDf F x ∨ ∀ y, nmR y → zqT F' x y = 0 := by
  obtain ⟨t1, t2, -, -⟩ := tn
  have ho : ¬ dE (zqT F) (zqD F) d nm := fun z => z.1 h0
  unfold zqDf
  rw [t1, t2]
  rcases hk with k0 | ⟨k1, htd, hem⟩ | ⟨k1, htt⟩
  · have e := G1 (T := zqT F) (D := zqD F) (d0 := d) (n0 := nm) (t := t) (f := k) ho (Or.inr (by omega))
    exact ⟨(e d).mpr hd, fun x hx => (e x).mpr hx, fun x hx => Or.inl ((e x).mp hx)⟩
  · rw [k1]
    have e := G3 (T := zqT F) (D := zqD F) ho hd hm ht hem htd
    refine ⟨(e d).mpr (Or.inl hd), fun x hx => (e x).mpr (Or.inl hx), fun x hx => ?_⟩
    rcases (e x).mp hx with q | q
    · exact Or.inl q
    · refine Or.inr (fun y hy => ?_)
      rw [q, gup_n _ _ (fun z => htd z.1)]; exact hem y hy
  · have e := G2 (T := zqT F) (D := zqD F) (d0 := d) (n0 := nm) (t := t) (f := k) ho htt
    exact ⟨(e d).mpr hd, fun x hx => (e x).mpr hx, fun x hx => Or.inl ((e x).mp hx)⟩
theorem JE_adq {F F' : Tq} {X X' : nMem} {d nm t k : Int} (h : JQ F X) (hn : 0 ≤ X 21 0) (hd : zqDf F d) (hm : nmR nm) (h0 : zqT F d nm = 0) (ht : t ≠ 0) (tn : tQ F F' d nm t k) (hk : k = 0 ∨ (k = 1 ∧ t ≠ d ∧ ∀ x, nmR x → zqT F t x = 0) ∨ (k = 1 ∧ zqDf F t)) (ad : adX X X' d nm t k) : JE (zqT F') (zqD F') (X' 21 0) (X' 22) := by
  obtain ⟨c1, c2, c3⟩ := add_Dq hd hm h0 ht tn hk
  obtain ⟨r1, r2, r3, r4, r5⟩ := ad_rows ad hn
  rw [ad.1]
  exact JE_add h.1 hn c1 hm h0 ht tn.1 tn.2.1 c2 c3 r1 r2 r3 r4 r5
theorem file_adq {F F' : Tq} {X X' : nMem} {d nm t k : Int} (h : JQ F X) (hn : 0 ≤ X 21 0) (hJ : JE (zqT F') (zqD F') (X' 21 0) (X' 22)) (ad : adX X X' d nm t k) (f : Int) : zqFf F' f ↔ zqFf F f ∨ (f = t ∧ k = 0) := by
  obtain ⟨r1, r2, r3, r4, r5⟩ := ad_rows ad hn
  have a := JE_file hJ f
  have b := JE_file h.1 f
  unfold zqFf
  rw [a, b, ad.1]
  have old : ∀ i, 0 ≤ i → i < X 21 0 → eT (X' 22) i = eT (X 22) i ∧ eK (X' 22) i = eK (X 22) i := fun i i0 i1 => ⟨r1 _ (by omega) (by omega), r1 _ (by omega) (by omega)⟩
  constructor
  · rintro ⟨i, i1, i2, i3⟩
    by_cases c : i = X 21 0
    · rw [c] at i2 i3
      exact Or.inr ⟨i2.symm.trans r4, r5.symm.trans i3⟩
    · obtain ⟨x, y⟩ := old i i1.1 (by omega)
      exact Or.inl ⟨i, ⟨i1.1, by omega⟩, by rw [← x]; exact i2, by rw [← y]; exact i3⟩
  · rintro (⟨i, i1, i2, i3⟩ | ⟨q1, q2⟩)
    · obtain ⟨x, y⟩ := old i i1.1 i1.2
      exact ⟨i, ⟨i1.1, by omega⟩, by rw [x]; exact i2, by rw [y]; exact i3⟩
    · exact ⟨X 21 0, ⟨hn, by omega⟩, by rw [r4, q1], by rw [r5, q2]⟩
theorem JA_addq {F F' : Tq} {X X' : nMem} {d nm t k : Int} (h : JQ F X) (hn : 0 ≤ X 21 0) (hd : zqDf F d) (hm : nmR nm) (h0 : zqT F d nm = 0) (ht : t ≠ 0) (tn : tQ F F' d nm t k) (hk : (k = 0 ∧ zqFf F t) ∨ (k = 1 ∧ t ≠ d ∧ ∀ x, nmR x → zqT F t x = 0) ∨ (k = 1 ∧ zqDf F t)) (ad : adX X X' d nm t k) : JQ F' X' := by
  have hJ := JE_adq h hn hd hm h0 ht tn (hk.imp (fun q => q.1) id) ad
  refine ⟨hJ, ?_⟩
  have e1 : X' 23 = X 23 := funext (fun j => (ad.2.2.2 j).1)
  have e2 : X' 24 = X 24 := funext (fun j => (ad.2.2.2 j).2.1)
  have e3 : X' 25 = X 25 := funext (fun j => (ad.2.2.2 j).2.2)
  rw [ad.2.1, e1, e2, e3, tn.2.2.1, tn.2.2.2]
  refine JZ_cg h.2 (fun f => (file_adq h hn hJ ad f).trans ⟨fun q => ?_, Or.inl⟩) (fun f _ => ⟨rfl, fun _ _ _ => rfl⟩)
  rcases q with q | ⟨q1, q2⟩
  · exact q
  · rcases hk with z | z | z
    · rw [q1]; exact z.2
    · omega
    · omega
theorem del_Dq {F F' : Tq} {d nm : Int} (hr : RK (zqT F) (zqD F)) (h1 : zqT F d nm ≠ 1) (tn : tQ F F' d nm 0 0) (he : zqD F d nm = 1 → (∀ x, nmR x → zqT F (zqT F d nm) x = 0) ∨ ∃ x y, zqDf F x ∧ nmR y ∧ ¬ (x = d ∧ y = nm) ∧ zqT F x y = zqT F d nm ∧ zqD F x y = 1) (h0 : zqT F d nm ≠ 0) : (∀ x, zqDf F' x → zqDf F x) ∧ ∀ x, zqDf F x → zqDf F' x ∨ ∀ y, nmR y → zqT F x y = 0 := by
  obtain ⟨t1, t2, -, -⟩ := tn
  unfold zqDf
  rw [t1, t2]
  refine ⟨fun x hx => G4_sub hx, fun x hx => ?_⟩
  by_cases ho : dE (zqT F) (zqD F) d nm
  · by_cases hz : ∃ d' nm', thD (zqT F) (zqD F) d' ∧ nmR nm' ∧ ¬ (d' = d ∧ nm' = nm) ∧ zqT F d' nm' = zqT F d nm ∧ dE (zqT F) (zqD F) d' nm'
    · exact Or.inl ((G4a hr hz x).mpr hx)
    · have hem : ∀ x, nmR x → zqT F (zqT F d nm) x = 0 := by
        rcases he ho.2 with q | ⟨x, y, q1, q2, q3, q4, q5⟩
        · exact q
        · exact absurd ⟨x, y, q1, q2, q3, q4, by rw [q4]; exact h0, q5⟩ hz
      by_cases c : x = zqT F d nm
      · rw [c]; exact Or.inr hem
      · exact Or.inl ((G4b ho hz h1 hem x).mpr ⟨hx, c⟩)
  · exact Or.inl ((G1 ho (Or.inl rfl) x).mpr hx)
theorem JA_delq {F F' : Tq} {X X' : nMem} {d nm a : Int} (h : JQ F X) (hX : LX X) (ha : 0 ≤ a ∧ a < X 21 0) (ka : eD (X 22) a = d) (kb : eN (X 22) a = nm) (hr : RK (zqT F) (zqD F)) (hc : ∃ fl : Int → Int, ∀ x y, zqT F x y ≠ 0 → zqD F x y = fl (zqT F x y)) (h1 : zqT F d nm ≠ 1) (tn : tQ F F' d nm 0 0) (he : zqD F d nm = 1 → (∀ x, nmR x → zqT F (zqT F d nm) x = 0) ∨ ∃ x y, zqDf F x ∧ nmR y ∧ ¬ (x = d ∧ y = nm) ∧ zqT F x y = zqT F d nm ∧ zqD F x y = 1) (tk : tkX X X' a) : JQ F' X' := by
  obtain ⟨fl, hc⟩ := hc
  obtain ⟨k1, k2, k3, k4⟩ := tk
  obtain ⟨p1, p2, p3, p4, p5⟩ := h.1.1 a ha.1 ha.2
  rw [ka, kb] at p3 p5
  have h0 : zqT F d nm ≠ 0 := by rw [p3]; exact p4
  obtain ⟨c1, c2⟩ := del_Dq hr h1 tn he h0
  have hJ : JE (zqT F') (zqD F') (X 21 0 - 1) (X' 22) := JE_del h.1 ha ka kb tn.1 tn.2.1 c1 c2 (fun j j0 j1 => by
    rw [k2]
    by_cases q : j < 4 * a
    · rw [if_neg (by omega), if_pos q]
    · rw [if_pos (by omega), if_neg q])
  refine ⟨by rw [k1]; exact hJ, ?_⟩
  have hK : ∀ i, 0 ≤ i → i < X 21 0 → eK (X 22) i = fl (eT (X 22) i) := fun i i0 i1 => by
    obtain ⟨-, -, q3, q4, q5⟩ := h.1.1 i i0 i1
    rw [← q5, hc _ _ (by rw [q3]; exact q4), q3]
  -- rows there and here
  have hs : ∀ i, 0 ≤ i → i < X 21 0 - 1 → eT (X' 22) i = eT (X 22) (if i < a then i else i + 1) ∧ eK (X' 22) i = eK (X 22) (if i < a then i else i + 1) := fun i i0 i1 => by
    unfold eT eK
    rw [k2, k2]
    by_cases q : i < a
    · rw [if_pos q, if_neg (by omega), if_neg (by omega)]; exact ⟨rfl, rfl⟩
    · rw [if_neg q, if_pos (by omega), if_pos (by omega)]
      exact ⟨by congr 1; omega, by congr 1; omega⟩
  have to : ∀ f, (∃ i, (0 ≤ i ∧ i < X 21 0 - 1) ∧ eT (X' 22) i = f ∧ eK (X' 22) i = 0) → zqFf F f := fun f ⟨i, i1, i2, i3⟩ => by
    obtain ⟨x, y⟩ := hs i i1.1 i1.2
    refine (JE_file h.1 f).mpr ⟨if i < a then i else i + 1, by split <;> omega, x.symm.trans i2, y.symm.trans i3⟩
  have fro : ∀ i, 0 ≤ i → i < X 21 0 → i ≠ a → eK (X 22) i = 0 → ∃ j, (0 ≤ j ∧ j < X 21 0 - 1) ∧ eT (X' 22) j = eT (X 22) i ∧ eK (X' 22) j = 0 := fun i i0 i1 hi hk => by
    by_cases q : i < a
    · obtain ⟨x, y⟩ := hs i i0 (by omega)
      rw [if_pos q] at x y
      exact ⟨i, ⟨i0, by omega⟩, x, y.trans hk⟩
    · obtain ⟨x, y⟩ := hs (i - 1) (by omega) (by omega)
      rw [if_neg (by omega), show i - 1 + 1 = i by omega] at x y
      exact ⟨i - 1, ⟨by omega, by omega⟩, x, y.trans hk⟩
  have hF' : ∀ f, zqFf F' f ↔ ∃ i, (0 ≤ i ∧ i < X 21 0 - 1) ∧ eT (X' 22) i = f ∧ eK (X' 22) i = 0 := fun f => JE_file hJ f
  have hsl := lsP_b (pZ (X 23) (X 22 (4 * a + 2))) (X 21 1).toNat
  have hm0 := hX.2.1
  by_cases c : txD X X' a
  · obtain ⟨d1, d2, d3⟩ := k3 c
    have c0 : 0 ≤ lsP (pZ (X 23) (X 22 (4 * a + 2))) (X 21 1).toNat := c.1
    obtain ⟨s1, s2⟩ := hsl.resolve_left (fun z => by omega)
    have hcnt := c.2
    have none : ∀ i, 0 ≤ i → i < X 21 0 - 1 → eT (X' 22) i ≠ eT (X 22) a := fun i i0 i1 z => by
      have := cR_pos (p := pT (X' 22) (X 22 (4 * a + 2))) (k := (X 21 0 - 1).toNat) i0 (by omega) z
      omega
    have ss : txS X a = lsP (pZ (X 23) (X 22 (4 * a + 2))) (X 21 1).toNat := rfl
    rw [ss] at d2 d3
    generalize lsP (pZ (X 23) (X 22 (4 * a + 2))) (X 21 1).toNat = s at s1 s2 d2 d3 c0
    have s2 : X 23 s = X 22 (4 * a + 2) := s2
    rw [d1, tn.2.2.1, tn.2.2.2]
    refine JZ_del h.2 (a0 := s) (by omega) (fun f => (hF' f).trans ⟨fun q => ⟨to f q, fun z => ?_⟩, fun q => ?_⟩) (fun i i0 i1 => ?_) (fun k k0 k1' => ?_)
    · obtain ⟨i, i1, i2, -⟩ := q
      exact none i i1.1 i1.2 (by rw [i2, z]; exact s2)
    · obtain ⟨i, i1, i2, i3⟩ := (JE_file h.1 f).mp q.1
      obtain ⟨j, j1, j2, j3⟩ := fro i i1.1 i1.2 (fun z => q.2 (by rw [← i2, z]; exact s2.symm)) i3
      exact ⟨j, j1, j2.trans i2, j3⟩
    · rw [(d2 i).1, (d2 i).2]
      by_cases q : i < s
      · rw [if_pos q, if_neg (by omega), if_neg (by omega)]; exact ⟨rfl, rfl⟩
      · rw [if_neg q, if_pos (by omega), if_pos (by omega)]; exact ⟨rfl, rfl⟩
    · rw [d3]
      by_cases q : k < 8 * s
      · rw [if_pos q, if_neg (by omega)]
      · rw [if_neg q, if_pos (by omega)]
  · obtain ⟨d1, d2⟩ := k4 c
    have e1 : X' 23 = X 23 := funext (fun j => (d2 j).1)
    have e2 : X' 24 = X 24 := funext (fun j => (d2 j).2.1)
    have e3 : X' 25 = X 25 := funext (fun j => (d2 j).2.2)
    rw [d1, e1, e2, e3, tn.2.2.1, tn.2.2.2]
    refine JZ_cg h.2 (fun f => (hF' f).trans ⟨to f, fun q => ?_⟩) (fun f _ => ⟨rfl, fun _ _ _ => rfl⟩)
    obtain ⟨i, i1, i2, i3⟩ := (JE_file h.1 f).mp q
    by_cases z : i = a
    · rw [z] at i2 i3
      -- another row names it
      have hslot : 0 ≤ lsP (pZ (X 23) (X 22 (4 * a + 2))) (X 21 1).toNat := by
        rcases hsl with ⟨-, w⟩ | w
        · obtain ⟨l, l1, l2⟩ := h.2.2.1 f q
          exact absurd (show X 23 l = X 22 (4 * a + 2) by rw [l2]; exact i2.symm) (w l l1.1 (by omega))
        · exact w.1.1
      have hcnt : cR (pT (X' 22) (X 22 (4 * a + 2))) (X 21 0 - 1).toNat ≠ 0 := fun w => c ⟨hslot, w⟩
      have : ∃ j, (0 ≤ j ∧ j < X 21 0 - 1) ∧ eT (X' 22) j = eT (X 22) a := Classical.byContradiction (fun w => hcnt (cR_0 (fun r r0 r1 v => w ⟨r, ⟨r0, by omega⟩, v⟩)))
      obtain ⟨j, j1, j2⟩ := this
      refine ⟨j, j1, j2.trans i2, ?_⟩
      obtain ⟨x, y⟩ := hs j j1.1 j1.2
      rw [y, hK _ (by split <;> omega) (by split <;> omega), ← x, j2, ← hK a ha.1 ha.2]; exact i3
    · obtain ⟨j, j1, j2, j3⟩ := fro i i1.1 i1.2 z i3
      exact ⟨j, j1, j2.trans i2, j3⟩
theorem md_add {A : AS} {X X1 X2 : nMem} {fl : Int → Int} {nb vb d d2 nm nm2 a o : Int} {Fm : Fl} (hG : GA A X) (hP : IP A fl nb vb) (hd : isDr A d) (hd2 : isDr A d2) (hm : nmR nm) (hm2 : nmR nm2)
    (ho : o = lsP (pF (X 22) d2 nm2) (X 21 0).toNat) (hae : a = lsP (pF (X 22) d nm) (X 21 0).toNat) (ha : 0 ≤ a) (hc : o < 0 ∨ (X 22 (4 * a + 2) ≠ X 22 (4 * o + 2) ∧ X 22 (4 * a + 3) + X 22 (4 * o + 3) = 0))
    (tn : tN (aF A) Fm d2 nm2 (X 22 (4 * a + 2)) (X 22 (4 * a + 3))) (hk : (o < 0 ∧ X1 = X) ∨ (0 ≤ o ∧ tkX X X1 o)) (ad : adX X1 X2 d2 nm2 (X 22 (4 * a + 2)) (X 22 (4 * a + 3))) : JA Fm X2 ∧ thDf Fm d ∧ thDf Fm d2 := by
  have fa := fa_i hG hd hm
  have fo := fa_i hG hd2 hm2
  rw [← hae] at fa
  rw [← ho] at fo
  obtain ⟨q0, ⟨-, a1⟩, ⟨a2, a3⟩, a4, a5⟩ := fa.resolve_left (fun z => by omega)
  obtain ⟨⟨e1, e2, e3, e4⟩, e5, e6, e7⟩ := GA_e hG ha a1
  have hJ := hG.1.2.1
  have hJq : JQ (tq (aF A)) X := hJ
  have hn0 := hG.1.2.2.1.1
  have key : ∀ F0 : Tq, JQ F0 X1 → 0 ≤ X1 21 0 → zqDf F0 d → zqDf F0 d2 → zqT F0 d2 nm2 = 0 → ((X 22 (4 * a + 3) = 0 ∧ zqFf F0 (X 22 (4 * a + 2))) ∨ (X 22 (4 * a + 3) = 1 ∧ zqDf F0 (X 22 (4 * a + 2)))) → tQ F0 (tq Fm) d2 nm2 (X 22 (4 * a + 2)) (X 22 (4 * a + 3)) → JA Fm X2 ∧ thDf Fm d ∧ thDf Fm d2 := fun F0 j0 j1 j2 j3 j4 j5 j6 => by
    obtain ⟨c1, c2, -⟩ := add_Dq j3 hm2 j4 (by omega) j6 (j5.imp (fun z => z.1) (fun z => Or.inr z))
    exact ⟨JA_addq j0 j1 j3 hm2 j4 (by omega) j6 (j5.imp id (fun z => Or.inr z)) ad, c2 d j2, c1⟩
  rcases hk with ⟨o0, hx⟩ | ⟨o0, tk⟩
  · have z0 : TG (aF A) d2 nm2 = 0 := by
      rcases fo with z | z
      · exact z.1
      · omega
    subst hx
    refine key (tq (aF A)) hJq hn0 hd hd2 z0 ?_ tn
    rcases e7 with z | z
    · exact Or.inr ⟨z.1, z.2⟩
    · exact Or.inl ⟨z.1, z.2.1⟩
  · obtain ⟨p0, ⟨-, o1⟩, ⟨o2, o3⟩, o4, o5⟩ := fo.resolve_left (fun z => by omega)
    obtain ⟨hne, hks⟩ := hc.resolve_left (by omega)
    obtain ⟨⟨g1, g2, g3, g4⟩, g5, g6, g7⟩ := GA_e hG o0 o1
    have hka : X 22 (4 * a + 3) = 0 := by omega
    have hao : a ≠ o := fun z => hne (by rw [z])
    have hko : X 22 (4 * o + 3) = 0 := by omega
    let F0 : Tq := (gup (TG (aF A)) d2 nm2 0, gup (TD (aF A)) d2 nm2 0, LN (aF A), BY (aF A))
    have t0 : tQ (tq (aF A)) F0 d2 nm2 0 0 := ⟨rfl, rfl, rfl, rfl⟩
    have hTD2 : TD (aF A) d2 nm2 = 0 := o5.trans hko
    have he : zqD (tq (aF A)) d2 nm2 = 1 → (∀ x, nmR x → zqT (tq (aF A)) (zqT (tq (aF A)) d2 nm2) x = 0) ∨ ∃ x y, zqDf (tq (aF A)) x ∧ nmR y ∧ ¬ (x = d2 ∧ y = nm2) ∧ zqT (tq (aF A)) x y = zqT (tq (aF A)) d2 nm2 ∧ zqD (tq (aF A)) x y = 1 := fun z => by
      have z : TD (aF A) d2 nm2 = 1 := z
      omega
    have hj0 : JQ F0 X1 := JA_delq hJq hG.1.2.2 ⟨o0, o1⟩ o2 o3 (RK_of hP) (fl_of hP) (T1_of hP _ _) t0 he tk
    obtain ⟨d0, d1⟩ := del_Dq (F := tq (aF A)) (F' := F0) (RK_of hP) (T1_of hP _ _) t0 he p0
    have hdq : zqDf F0 d := (d1 d hd).resolve_right (fun z => q0 (z nm hm))
    have hd2q : zqDf F0 d2 := (d1 d2 hd2).resolve_right (fun z => p0 (z nm2 hm2))
    refine key F0 hj0 (by rw [tk.1]; omega) hdq hd2q (gup_e _ _ _ _) (Or.inl ⟨hka, ?_⟩) ?_
    · refine (JE_file hj0.1 _).mpr ⟨if a < o then a else a - 1, ?_, ?_, ?_⟩
      · rw [tk.1]; split <;> omega
      · unfold eT
        rw [tk.2.1]
        by_cases q : a < o
        · rw [if_pos q, if_neg (by omega)]
        · have : a ≠ o := fun z => hne (by rw [z])
          rw [if_neg q, if_pos (by omega), show 4 * (a - 1) + 2 + 4 = 4 * a + 2 by omega]
      · unfold eK
        rw [tk.2.1]
        by_cases q : a < o
        · rw [if_pos q, if_neg (by omega)]; exact hka
        · have : a ≠ o := fun z => hne (by rw [z])
          rw [if_neg q, if_pos (by omega), show 4 * (a - 1) + 3 + 4 = 4 * a + 3 by omega]; exact hka
    · obtain ⟨t1, t2, t3, t4⟩ := tn
      refine ⟨?_, ?_, t3, t4⟩
      · refine t1.trans ?_
        funext x y
        show gup _ _ _ _ x y = gup (gup _ _ _ _) _ _ _ x y
        unfold gup
        split <;> rfl
      · refine t2.trans ?_
        funext x y
        show gup _ _ _ _ x y = gup (gup _ _ _ _) _ _ _ x y
        unfold gup
        split <;> rfl
theorem rB_thB {A : AS} {X : nMem} (hG : GA A X) {h x : Int} (hh : isDr A h) : rB (X 22) (X 21 0) h x ↔ thB (TG (aF A)) (TD (aF A)) h x := by
  constructor
  · intro r P p0 p1
    refine r P p0 (fun i i0 i1 q k => ?_)
    obtain ⟨⟨e1, e2, e3, e4⟩, e5, -⟩ := GA_e hG i0 i1
    have := p1 _ _ q e2 (by rw [e3]; omega) (e4.trans k)
    rw [e3] at this; exact this
  · intro r P p0 p1
    refine (r (fun y => P y ∧ isDr A y) ⟨p0, hh⟩ (fun d nm q hm h0 h1 => ?_)).1
    obtain ⟨i, i1, i2, i3, i4, i5⟩ := JE_at hG.1.2.1.1 q.2 hm h0
    have := p1 i i1.1 i1.2 (by rw [show X 22 (4 * i) = d from i2]; exact q.1) (i5.trans h1)
    rw [show X 22 (4 * i + 2) = TG (aF A) d nm from i4] at this
    exact ⟨this, thD_s q.2 hm h0 h1⟩
