/-! ### the law's rows written, the world told -/
section
variable {N : Int} {A : AS} {nb vb : Int} {t : Nat} {X μ : nMem} {ε : nEnv} {Q : nOut → nMem → nEnv → Prop}
theorem sW_adds {d v u q : Int} (hW : Wd N A nb vb t X μ ε) (n0 : 0 ≤ X 21 0) (n1 : X 21 0 ≤ 14) (h : ∀ μ9, Wd N A nb vb t μ9 μ9 ε → adX X μ9 d v u q → (∀ j, μ9 (-1) j = X (-1) j) → Q (.inl none) μ9 ε) : Sp mL_adds [vR 21, vR 22, vI d, vI v, vI u, vI q] μ ε Q := by
  have e := fun x (hx : 21 ≤ x ∧ x ≤ 25) j => congrFun (Wd_x hW hx) j
  refine sp_L_adds hW.2.2.1 (by rw [e 21 (by omega)]; exact n0) (by rw [e 21 (by omega)]; exact n1) (fun μ9 g => ?_)
  obtain ⟨g1, g2, g3⟩ := g
  obtain ⟨w1, w2⟩ := Wd_w hW (μ9 := μ9) (fun x j hx => g1 x j (by omega) (by omega))
  rw [e 21 (by omega)] at g2 g3
  exact h μ9 w1 ⟨g2, by rw [g1 21 1 (by omega) (by omega)]; exact e 21 (by omega) 1, fun j => by rw [g3 j, e 22 (by omega)], fun j => ⟨by rw [g1 23 j (by omega) (by omega)]; exact e 23 (by omega) j, by rw [g1 24 j (by omega) (by omega)]; exact e 24 (by omega) j, by rw [g1 25 j (by omega) (by omega)]; exact e 25 (by omega) j⟩⟩ w2
theorem sW_opens {f : Int} (hW : Wd N A nb vb t X μ ε) (n0 : 0 ≤ X 21 1) (n1 : X 21 1 ≤ 7) (h : ∀ μ9, Wd N A nb vb t μ9 μ9 ε → opX X μ9 f → (∀ j, μ9 (-1) j = X (-1) j) → Q (.inl none) μ9 ε) : Sp mL_opens [vR 21, vR 23, vR 24, vR 25, vI f] μ ε Q := by
  have e := fun x (hx : 21 ≤ x ∧ x ≤ 25) j => congrFun (Wd_x hW hx) j
  refine sp_L_opens hW.2.2.1 (by rw [e 21 (by omega)]; exact n0) (by rw [e 21 (by omega)]; exact n1) (fun μ9 g => ?_)
  obtain ⟨g1, g2, g3, g4, g5⟩ := g
  obtain ⟨w1, w2⟩ := Wd_w hW (μ9 := μ9) (fun x j hx => g1 x j (by omega) (by omega) (by omega) (by omega))
  rw [e 21 (by omega)] at g2 g3 g4 g5
  exact h μ9 w1 ⟨by rw [g1 21 0 (by omega) (by omega) (by omega) (by omega)]; exact e 21 (by omega) 0, g2, fun j => by rw [g1 22 j (by omega) (by omega) (by omega) (by omega)]; exact e 22 (by omega) j, fun j => by rw [g3 j, e 23 (by omega)], fun j => by rw [g4 j, e 24 (by omega)], fun j => by rw [g5 j, e 25 (by omega)]⟩ w2
theorem sW_takes {a : Int} (hW : Wd N A nb vb t X μ ε) (hX : LX X) (ha : 0 ≤ a ∧ a < X 21 0) (h : ∀ μ9, Wd N A nb vb t μ9 μ9 ε → tkX X μ9 a → (∀ j, μ9 (-1) j = X (-1) j) → Q (.inl none) μ9 ε) : Sp mL_takes [vR 21, vR 22, vR 23, vR 24, vR 25, vI a] μ ε Q := by
  have e := fun x (hx : 21 ≤ x ∧ x ≤ 25) => Wd_x hW hx
  obtain ⟨b1, b2, b3, b4, b5⟩ := hX
  refine sp_L_takes hW.2.2.1 (by rw [e 21 (by omega)]; omega) (by rw [e 21 (by omega)]; exact ha) (by rw [e 21 (by omega)]; exact b2.1) (by rw [e 21 (by omega)]; exact b2.2) (by rw [e 22 (by omega)]; exact b3) (by rw [e 23 (by omega)]; exact b4) (fun μ9 g => ?_)
  obtain ⟨g1, g2, g3, g4, g5⟩ := g
  obtain ⟨w1, w2⟩ := Wd_w hW (μ9 := μ9) (fun x j hx => g1 x j (by omega))
  unfold tkD tkS at g4 g5
  rw [e 21 (by omega), e 22 (by omega), e 23 (by omega), e 24 (by omega), e 25 (by omega)] at g4 g5
  rw [e 21 (by omega)] at g2 g3
  rw [e 22 (by omega)] at g3
  exact h μ9 w1 ⟨g2, g3, g4, g5⟩ w2
/-- one place of a content -/
def lyX (X X' : nMem) (i p v : Int) : Prop := (∀ x j, 21 ≤ x → x ≤ 24 → X' x j = X x j) ∧ ∀ j, X' 25 j = if j = 8 * i + p / 8 then layJ (X 25 (8 * i + p / 8)) (8 * (p % 8)) v else X 25 j
theorem sW_lays {i p v : Int} (hW : Wd N A nb vb t X μ ε) (i0 : 0 ≤ i ∧ i < 8) (p0 : 0 ≤ p ∧ p < 64) (h : ∀ μ9, Wd N A nb vb t μ9 μ9 ε → lyX X μ9 i p v → (∀ j, μ9 (-1) j = X (-1) j) → Q (.inl none) μ9 ε) : Sp mL_lays [vR 25, vI i, vI p, vJ v] μ ε Q := by
  have e := fun x (hx : 21 ≤ x ∧ x ≤ 25) => Wd_x hW hx
  refine sp_L_lays hW.2.2.1 i0 p0 ?_
  have hm : ∀ x j, x ≠ 25 → wr μ 25 (8 * i + p / 8) (layJ (μ 25 (8 * i + p / 8)) (8 * (p % 8)) v) x j = μ x j := fun x j hx => wr_n _ _ (fun z => hx z.1)
  have h25 : ∀ j, wr μ 25 (8 * i + p / 8) (layJ (μ 25 (8 * i + p / 8)) (8 * (p % 8)) v) 25 j = if j = 8 * i + p / 8 then layJ (μ 25 (8 * i + p / 8)) (8 * (p % 8)) v else μ 25 j := fun j => by
    by_cases c : j = 8 * i + p / 8
    · rw [if_pos c, c, wr_s]
    · rw [if_neg c, wr_n _ _ (fun z => c z.2)]
  generalize wr μ 25 (8 * i + p / 8) (layJ (μ 25 (8 * i + p / 8)) (8 * (p % 8)) v) = μ9 at hm h25 ⊢
  obtain ⟨w1, w2⟩ := Wd_w hW (μ9 := μ9) (fun x j hx => hm x j (by omega))
  rw [e 25 (by omega)] at h25
  exact h μ9 w1 ⟨fun x j x0 x1 => by rw [hm x j (by omega)]; exact congrFun (e x (by omega)) j, h25⟩ w2
end
/-- what the law's rows say of the state -/
def GA (A : AS) (X : nMem) : Prop := (¬ dk A ∧ JA (aF A) X ∧ LX X) ∧ (∀ d, isDr A d → 1 ≤ d ∧ d < 2000) ∧ (∀ d nm, TG (aF A) d nm = 0 ∨ (2 ≤ TG (aF A) d nm ∧ TG (aF A) d nm < 2000)) ∧ (∃ fl : Int → Int, fl 1 = 1 ∧ (∀ n, fl n = 0 ∨ fl n = 1) ∧ ∀ d nm, TG (aF A) d nm ≠ 0 → TD (aF A) d nm = fl (TG (aF A) d nm)) ∧ ∀ f, 0 ≤ LN (aF A) f ∧ LN (aF A) f ≤ 64
theorem GA_of {N : Int} {A : AS} {nb vb : Int} {t : Nat} {X μ : nMem} {ε : nEnv} (hW : Wd N A nb vb t X μ ε) (hd : fD (aF A) = 0) (hJ : JA (aF A) X) (hX : LX X) : GA A X := by
  obtain ⟨S, -, -, -, -, -, hon⟩ := hW.1
  obtain ⟨fl, hP, -⟩ := hon hd
  have hW := hP.2.2.2.2.2.2.1
  have hx := hP.2.2.2.2.2.2.2.1
  refine ⟨⟨nDk hP, hJ, hX⟩, fun d q => ?_, fun d nm => ?_, ⟨fl, hW.1, hW.2.1, fun d nm q => TD_fl (PA_NS hP.2.1) hP.2.2.2.2.2.1 q⟩, fun f => LN_b (PA_NS hP.2.1) f⟩
  · have := dr_b hP q
    have := hW.2.2.2.2.2
    omega
  · have := hW.2.2.1 d nm
    have := hW.2.2.2.2.2
    omega
/-- an entry -/
theorem GA_e {A : AS} {X : nMem} (h : GA A X) {i : Int} (i0 : 0 ≤ i) (i1 : i < X 21 0) : (isDr A (X 22 (4 * i)) ∧ nmR (X 22 (4 * i + 1)) ∧ TG (aF A) (X 22 (4 * i)) (X 22 (4 * i + 1)) = X 22 (4 * i + 2) ∧ TD (aF A) (X 22 (4 * i)) (X 22 (4 * i + 1)) = X 22 (4 * i + 3)) ∧ (2 ≤ X 22 (4 * i + 2) ∧ X 22 (4 * i + 2) < 2000) ∧ (1 ≤ X 22 (4 * i) ∧ X 22 (4 * i) < 2000) ∧ ((X 22 (4 * i + 3) = 1 ∧ isDr A (X 22 (4 * i + 2))) ∨ (X 22 (4 * i + 3) = 0 ∧ isFl A (X 22 (4 * i + 2)) ∧ ¬ isDr A (X 22 (4 * i + 2)))) := by
  obtain ⟨⟨-, hJ, hX⟩, hd, hT, ⟨fl, f1, f2, f3⟩, -⟩ := h
  obtain ⟨p1, p2, p3, p4, p5⟩ := hJ.1.1 i i0 i1
  have ht := hT (X 22 (4 * i)) (X 22 (4 * i + 1))
  have p3' : TG (aF A) (X 22 (4 * i)) (X 22 (4 * i + 1)) = X 22 (4 * i + 2) := p3
  have p4' : X 22 (4 * i + 2) ≠ 0 := p4
  have p5' : TD (aF A) (X 22 (4 * i)) (X 22 (4 * i + 1)) = X 22 (4 * i + 3) := p5
  have hk : X 22 (4 * i + 3) = fl (X 22 (4 * i + 2)) := by rw [← p5', f3 _ _ (by rw [p3']; exact p4'), p3']
  refine ⟨⟨p1, p2, p3', p5'⟩, by rw [p3'] at ht; omega, hd _ p1, ?_⟩
  rcases f2 (X 22 (4 * i + 2)) with q | q
  · refine Or.inr ⟨hk.trans q, ⟨_, _, p1, p2, p3', p4', p5'.trans (hk.trans q)⟩, fun z => ?_⟩
    rcases thD_c z with w | ⟨d, nm, h1, h2, h3, h4, h5⟩
    · rw [p3'] at ht; omega
    · have := f3 d nm (by rw [h3]; exact h4)
      rw [h3, h5] at this; omega
  · refine Or.inl ⟨hk.trans q, ?_⟩
    have := thD_s p1 p2 (by rw [p3']; exact p4') (p5'.trans (hk.trans q))
    rw [p3'] at this; exact this
theorem GA_dr {A : AS} {X : nMem} (h : GA A X) (d : Int) : qY (X 22) d (X 21 0) ↔ isDr A d := (JE_dir h.1.2.1.1 d).symm
theorem isDr_1 (A : AS) : isDr A 1 := thD_1 _ _
theorem cR_r {p : Int → Prop} {n : Int} (h : n ≤ 15) : inR (cR p n.toNat) := by
  have := cR_b p n.toNat
  unfold inR; omega
theorem GA_names {A : AS} {X : nMem} (h : GA A X) {d : Int} (hd : isDr A d) : cntN (TG (aF A) d) 99 = cR (pD (X 22) d) (X 21 0).toNat := JE_names h.1.2.1.1 hd
theorem GA_links {A : AS} {X : nMem} (h : GA A X) {v : Int} (hv : v ≠ 0) : lkA A v = cR (pT (X 22) v) (X 21 0).toNat := JE_links h.1.2.1.1 (fun d q => by have := h.2.1 d q; omega) hv
theorem GA_links1 {A : AS} {X : nMem} (h : GA A X) : lkA A 1 = 0 := by
  rw [GA_links h (by omega)]
  refine cR_0 (fun r r0 r1 z => ?_)
  have := (GA_e h r0 (by omega)).2.1
  have z : X 22 (4 * r + 2) = 1 := z
  omega
theorem GA_place {A : AS} {X : nMem} (h : GA A X) {i : Int} (i0 : 0 ≤ i) (i1 : i < X 21 0) : nmAt (TG (aF A) (X 22 (4 * i))) (cR (fun j => X 22 (4 * j) = X 22 (4 * i) ∧ X 22 (4 * j + 1) < X 22 (4 * i + 1)) (X 21 0).toNat) 99 = X 22 (4 * i + 1) ∧ cR (fun j => X 22 (4 * j) = X 22 (4 * i) ∧ X 22 (4 * j + 1) < X 22 (4 * i + 1)) (X 21 0).toNat < cntN (TG (aF A) (X 22 (4 * i))) 99 := by
  obtain ⟨⟨e1, e2, e3, e4⟩, e5, -⟩ := GA_e h i0 i1
  obtain ⟨q, hq⟩ : ∃ q : Nat, X 22 (4 * i + 1) = q := ⟨(X 22 (4 * i + 1)).toNat, by omega⟩
  have hp := JE_place h.1.2.1.1 e1 (q := q - 1) (by omega)
  have hp2 : cR (fun j => X 22 (4 * j) = X 22 (4 * i) ∧ X 22 (4 * j + 1) < X 22 (4 * i + 1)) (X 21 0).toNat = cntN (TG (aF A) (X 22 (4 * i))) (q - 1) := by
    rw [hp]
    refine cR_cg _ (fun r r0 r1 => and_congr_right (fun _ => ?_))
    show X 22 (4 * r + 1) < X 22 (4 * i + 1) ↔ X 22 (4 * r + 1) < ((q - 1 : Nat) : Int) + 1
    omega
  have hne : TG (aF A) (X 22 (4 * i)) q ≠ 0 := by rw [← hq, e3]; omega
  rw [hp2]
  refine ⟨?_, ?_⟩
  · rw [hq]; exact nmAt_is (by omega) hne rfl 99 (by omega)
  · have a := cntN_s (TG (aF A) (X 22 (4 * i))) (q - 1)
    rw [show q - 1 + 1 = q by omega, show ((q - 1 : Nat) : Int) + 1 = q by omega, if_pos hne] at a
    have b := cntN_mn (TG (aF A) (X 22 (4 * i))) q 99 (by omega)
    omega
theorem GA_find {A : AS} {X : nMem} (h : GA A X) (d nm : Int) : (lsP (pF (X 22) d nm) (X 21 0).toNat = -1 ∧ (isDr A d → nmR nm → TG (aF A) d nm = 0)) ∨ ((0 ≤ lsP (pF (X 22) d nm) (X 21 0).toNat ∧ lsP (pF (X 22) d nm) (X 21 0).toNat < X 21 0) ∧ X 22 (4 * lsP (pF (X 22) d nm) (X 21 0).toNat) = d ∧ X 22 (4 * lsP (pF (X 22) d nm) (X 21 0).toNat + 1) = nm) := by
  rcases lsP_b (pF (X 22) d nm) (X 21 0).toNat with ⟨a, b⟩ | ⟨a, b⟩
  · refine Or.inl ⟨a, fun hd hm => Classical.byContradiction (fun z => ?_)⟩
    obtain ⟨i, i1, i2, i3⟩ := h.1.2.1.1.2.1 d nm hd hm z
    exact b i i1.1 (by omega) ⟨i2, i3⟩
  · exact Or.inr ⟨by omega, b⟩
theorem GA_slot {A : AS} {X : nMem} (h : GA A X) (f : Int) : (lsP (pZ (X 23) f) (X 21 1).toNat = -1 ∧ ¬ isFl A f) ∨ ((0 ≤ lsP (pZ (X 23) f) (X 21 1).toNat ∧ lsP (pZ (X 23) f) (X 21 1).toNat < X 21 1) ∧ X 23 (lsP (pZ (X 23) f) (X 21 1).toNat) = f ∧ isFl A f) := by
  rcases lsP_b (pZ (X 23) f) (X 21 1).toNat with ⟨a, b⟩ | ⟨a, b⟩
  · refine Or.inl ⟨a, fun z => ?_⟩
    obtain ⟨i, i1, i2⟩ := h.1.2.1.2.2.1 f z
    exact b i i1.1 (by omega) i2
  · have b : X 23 (lsP (pZ (X 23) f) (X 21 1).toNat) = f := b
    refine Or.inr ⟨by omega, b, ?_⟩
    have := (h.1.2.1.2.1 _ a.1 (by omega)).1
    rw [b] at this; exact this
theorem GA_f {A : AS} {X : nMem} (h : GA A X) {i : Int} (i0 : 0 ≤ i) (i1 : i < X 21 1) : isFl A (X 23 i) ∧ X 24 i = LN (aF A) (X 23 i) ∧ (∀ p, 0 ≤ p → p < 64 → cB (X 25) i p = BY (aF A) (X 23 i) p) ∧ (2 ≤ X 23 i ∧ X 23 i < 2000) ∧ 0 ≤ X 24 i ∧ X 24 i ≤ 64 := by
  obtain ⟨a, b, c⟩ := h.1.2.1.2.1 i i0 i1
  have hL := h.2.2.2.2 (X 23 i)
  refine ⟨a, b, c, ?_, by rw [b]; exact hL⟩
  obtain ⟨d, nm, -, -, e, e0, -⟩ := a
  have := h.2.2.1 d nm
  omega
