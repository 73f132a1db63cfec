theorem not_TI {μ : nMem} {ε : nEnv} (hi : nItems μ ε) {x : Int} (h2 : eKind ε x ≠ 2) (h11 : eKind ε x ≠ 11 ∨ (x ≠ 16 ∧ x ≤ 25)) : ¬ isTI μ ε x := by
  rintro ⟨i, i0, i1, i2, i3⟩
  obtain ⟨s1, s2, s3⟩ := hi.1 i i0 i1 i2
  rcases i3 with e | e
  · rw [e] at h2; exact h2 s1.1
  · rcases h11 with q | q
    · rw [e] at q; exact q s1.2.1
    · omega
theorem CF_extE {F : Fl} {μ : nMem} {ε ε1 : nEnv} (hC : CF F μ ε) (he : ∀ x, eKind ε x ≠ 0 → eKind ε1 x = eKind ε x ∧ eLen ε1 x = eLen ε x ∧ ∀ k, eFin ε1 x k = eFin ε x k) : CF F μ ε1 := by
  obtain ⟨c1, c2, c3⟩ := hC
  refine ⟨SkP_ext c1 he, ⟨fun i i0 i1 i2 => ?_, c2.2⟩, c3⟩
  obtain ⟨a, b⟩ := c2.1 i i0 i1 i2
  exact ⟨a, (he _ (by rw [b]; decide)).1.trans b⟩
theorem CF_mem2 {F : Fl} {μ μ1 : nMem} {ε : nEnv} (hC : CF F μ ε) (h : ∀ x, x ≠ 0 → (x = 2 ∨ x = 3 ∨ x = 4 ∨ x = 5 ∨ x = 6 ∨ x = 7 ∨ isRow μ x) → ∀ j, μ1 x j = μ x j) : CF F μ1 ε := by
  obtain ⟨c1, c2, c3, c4, c5, c6, c7, c8⟩ := hC
  have h3 : ∀ j, μ1 3 j = μ 3 j := h 3 (by omega) (by omega)
  have hn : ∀ i j, μ1 (nRow μ i) j = μ (nRow μ i) j := by
    intro i j
    rcases nRow_far c2 i with e | ⟨e, e2, e3, e4⟩
    · exact h _ (by omega) (by omega) j
    · exact h _ (by omega) (by right; right; right; right; right; right; exact ⟨i, e3, e4, e2.symm⟩) j
  refine ⟨c1, nRows_congr c2 h3 (fun i => nB_of (hn i) (c2.2.2 i)), fun i i0 i1 k k0 k1 => by rw [nRow_congr h3, hn]; exact c3 i i0 i1 k k0 k1, fun i => by rw [nRow_congr h3, hn]; exact c4 i, fun b b0 b1 => by rw [h 4 (by omega) (by omega), h 5 (by omega) (by omega), h 6 (by omega) (by omega)]; exact c5 b b0 b1, by rw [h 2 (by omega) (by omega)]; exact c6, by rw [h 2 (by omega) (by omega)]; exact c7, fun k k0 k1 => by rw [h 7 (by omega) (by omega)]; exact c8 k k0 k1⟩
/-- the tree's changes leave the flash -/
theorem CF_FrT {F : Fl} {μ μ1 : nMem} {ε ε1 : nEnv} (hC : CF F μ ε) (hi : nItems μ ε) (hF : FrT μ ε μ1 ε1) : CF F μ1 ε1 := by
  have c1 := hC.1
  have k2 := (c1 2 1 0 _ rfl (by decide)).1
  have k3 := (c1 3 15 128 _ rfl (by decide)).1
  have k4 := (c1 4 11 8 _ rfl (by decide)).1
  have k5 := (c1 5 11 8 _ rfl (by decide)).1
  have k6 := (c1 6 11 8 _ rfl (by decide)).1
  have k7 := (c1 7 5 0 _ rfl (by decide)).1
  refine CF_extE (CF_mem2 (ε := ε) hC (fun x e0 hx j => ?_)) hF.2.1
  have hk : eKind ε x ≠ 0 ∧ eKind ε x ≠ 2 ∧ (eKind ε x ≠ 11 ∨ (x ≠ 16 ∧ x ≤ 25)) ∧ x ≠ 12 ∧ x ≠ 13 ∧ x ≠ 14 := by
    rcases hx with e | e | e | e | e | e | ⟨i, i0, i1, e⟩
    · subst e; rw [k2]; omega
    · subst e; rw [k3]; omega
    · subst e; rw [k4]; omega
    · subst e; rw [k5]; omega
    · subst e; rw [k6]; omega
    · subst e; rw [k7]; omega
    · obtain ⟨a, b⟩ := hC.2.1.1 i i0 i1 (by rw [e]; exact e0)
      rw [e] at a b; rw [b]; omega
  exact hF.1 x (Or.inl hk.1) hk.2.2.2.1 hk.2.2.2.2.1 hk.2.2.2.2.2 (not_TI hi hk.2.1 hk.2.2.1) j
theorem CL_FrT {g : Lg} {μ μ1 : nMem} {ε ε1 : nEnv} (hs : SkP skC ε) (hL : CL g μ) (hi : nItems μ ε) (hF : FrT μ ε μ1 ε1) : CL g μ1 := by
  have e : ∀ x, x = 8 ∨ x = 10 ∨ x = 11 → ∀ j, μ1 x j = μ x j := by
    intro x hx j
    have k8 := (hs 8 4 0 _ rfl (by decide)).1
    have k10 := (hs 10 11 8 _ rfl (by decide)).1
    have k11 := (hs 11 11 8 _ rfl (by decide)).1
    have hk : eKind ε x ≠ 0 ∧ eKind ε x ≠ 2 := by
      rcases hx with q | q | q <;> subst q <;> omega
    exact hF.1 x (Or.inl hk.1) (by omega) (by omega) (by omega) (not_TI hi hk.2 (Or.inr (by omega))) j
  exact CL_mem hL ⟨e 8 (by omega) 4, e 8 (by omega) 5, e 8 (by omega) 6⟩ (e 10 (by omega)) (e 11 (by omega))
/-- the flash's and the log's changes leave the tree -/
theorem CT_FrX {S : Tr} {X : Int → Prop} {μ μ1 : nMem} {ε ε1 : nEnv} (hX : ∀ x, X x → x ≤ 11) (hT : CT S μ ε) (hr : nRows μ ε) (hF : FrX X μ ε μ1 ε1) : CT S μ1 ε1 ∧ (∀ b q, tAt S μ b q → tAt S μ1 b q) := by
  obtain ⟨c1, c2, c3, c4, c5, c6, c7⟩ := id hT
  have he := hF.2.1
  have k12 := (c1 12 6 0 _ rfl (by decide)).1
  have k13 := (c1 13 14 129 _ rfl (by decide)).1
  have m : ∀ x, 11 < x → eKind ε x ≠ 0 → eKind ε x ≠ 5 → ∀ j, μ1 x j = μ x j := fun x h1 h2 h3 j => hF.1 x (Or.inl h2) (fun q => by have := hX x q; omega) (not_row hr (by omega) (Or.inl h3)) j
  have m12 := m 12 (by omega) (by rw [k12]; omega) (by rw [k12]; omega)
  have m13 := m 13 (by omega) (by rw [k13]; omega) (by rw [k13]; omega)
  have hsh : ∀ i : Int, 0 ≤ i → i < 129 → μ 13 i ≠ 0 → isItm ε1 (μ 13 i) ∧ eFin ε1 (μ 13 i) 0 = eFin ε (μ 13 i) 0 := fun i i0 i1 i2 => isItm_ext (c2.1 i i0 i1 i2).1 he
  refine ⟨⟨SkP_ext c1 he, ⟨fun i i0 i1 i2 => ?_, fun i j i0 i1 j0 j1 => ?_, fun i j i0 i1 j0 j1 i2 j2 => ?_⟩, c3, c4, by rw [m12]; exact c5, by rw [m12]; exact c6, fun i hi => ?_⟩, fun b q ⟨i, i0, i1, i2⟩ => ⟨i, i0, i1, by rw [m13]; exact i2⟩⟩
  · rw [m13] at i2 ⊢
    obtain ⟨s1, s2⟩ := hsh i i0 i1 i2
    exact ⟨s1, (c2.1 i i0 i1 i2).2.1, by rw [s2]; exact (c2.1 i i0 i1 i2).2.2⟩
  · rw [m13, m13]; exact c2.2.1 i j i0 i1 j0 j1
  · rw [m13] at i2 j2
    rw [m13, m13, (hsh i i0 i1 i2).2, (hsh j j0 j1 j2).2]; exact c2.2.2 i j i0 i1 j0 j1 i2 j2
  · obtain ⟨d0, d1, d2, d3⟩ := c7 i hi
    obtain ⟨s1, s2, s3⟩ := c2.1 i (by omega) (by omega) d0
    have t := (hsh i (by omega) (by omega) d0).2
    rw [m13]
    have u := m (μ 13 i) (by omega) (by rw [s1.1]; omega) (by rw [s1.1]; omega)
    have v := m (eFin ε (μ 13 i) 0) (by omega) (by rw [s1.2.1]; omega) (by rw [s1.2.1]; omega)
    exact ⟨d0, by rw [u]; exact d1, fun k k0 k1 => by rw [u]; exact d2 k k0 k1, fun j j0 j1 => by rw [t, v]; exact d3 j j0 j1⟩
