/-! ### what holds of the blocks at all times, and of the log while there is power -/
def sOK (s : Int → Int) : Prop :=
  (s 0 = 1 ∧ s 1 = 2 + s 6 ∧ (0 ≤ s 6 ∧ s 6 ≤ 8) ∧ (2 ≤ s 3 ∧ s 3 ≤ 2000) ∧ (1 ≤ s 4 ∧ s 4 ≤ 4000) ∧ 0 ≤ s 5 ∧ s 5 ≤ 63 ∧ s 5 + s 6 ≤ s 9 ∧ s 9 ≤ 64 ∧ s 8 = jShl (jShl 1 (s 6) - 1) (s 5) ∧ s 10 = 0 ∧ s 11 = 0) ∨
  (s 0 = 2 ∧ s 1 = 3 ∧ (1 ≤ s 3 ∧ s 3 ≤ 2000) ∧ (1 ≤ s 4 ∧ s 4 ≤ 4000) ∧ (1 ≤ s 5 ∧ s 5 ≤ 99) ∧ (s 10 = 0 ∨ 2 ≤ s 10) ∧ s 10 ≤ 2000 ∧ (s 11 = 0 ∨ s 11 = 1) ∧ (s 10 = 0 → s 11 = 0) ∧ s 6 = 0 ∧ s 7 = 0 ∧ s 8 = 0 ∧ s 9 = 0)
theorem sOK_congr {s r : Int → Int} (h : ∀ k, k ≠ 2 → r k = s k) : sOK s → sOK r := by
  unfold sOK
  rw [h 0 (by omega), h 1 (by omega), h 3 (by omega), h 4 (by omega), h 5 (by omega), h 6 (by omega), h 7 (by omega), h 8 (by omega), h 9 (by omega), h 10 (by omega), h 11 (by omega)]
  exact id
theorem sOK_k {s : Int → Int} (h : sOK s) : (s 0 = 1 ∨ s 0 = 2) ∧ 2 ≤ s 1 ∧ s 1 ≤ 10 ∧ 1 ≤ s 3 ∧ s 3 ≤ 2000 ∧ 1 ≤ s 4 ∧ s 4 ≤ 4000 ∧ 0 ≤ s 5 ∧ s 5 ≤ 99 ∧ 0 ≤ s 6 ∧ s 6 ≤ 8 ∧ 0 ≤ s 9 ∧ s 9 ≤ 64 ∧ 0 ≤ s 10 ∧ s 10 ≤ 2000 ∧ (s 11 = 0 ∨ s 11 = 1) := by
  unfold sOK at h; omega
abbrev isSm (s : Int → Int) (c : Int) : Prop := s 0 = 3 ∧ s 1 = 1 + c ∧ ∀ k, 3 ≤ k → k ≤ 11 → s k = 0
def nodeOK (F : Fl) (i p : Int) : Prop := (sOK (fN F i) ∨ isSm (fN F i) p) ∧ 1 ≤ fN F i 2 ∧ fN F i 2 ≤ fN F i 1
def allW (F : Fl) (b : Int) : Prop := ∀ p : Int, 0 ≤ p → p < fC F b → fN F (b * 16 + p) 0 ≠ 3 ∧ wWhole F (b * 16 + p)
def PB (F : Fl) (b : Int) : Prop :=
  ((0 ≤ fC F b ∧ fC F b ≤ 13) ∧ (0 ≤ fU F b ∧ fU F b ≤ 40)) ∧ ((fC F b = 0 ∧ fU F b ≤ 1) ∨ (0 < fC F b ∧ 2 ≤ fU F b)) ∧
  (∀ p, 0 ≤ p → p < fC F b → nodeOK F (b * 16 + p) p) ∧ (∀ p, fC F b ≤ p → p < 16 → ∀ k, 0 ≤ k → k ≤ 11 → fN F (b * 16 + p) k = 0) ∧
  (∀ p, 0 ≤ p → p + 1 < fC F b → fN F (b * 16 + p) 0 ≠ 3 ∧ wWhole F (b * 16 + p)) ∧ (allW F b → 0 < fC F b → 1 + 2 * fC F b ≤ fU F b ∧ fU F b + fC F b + 1 ≤ 40)
abbrev PA (F : Fl) : Prop := ∀ b, 0 ≤ b → b < 8 → PB F b
theorem nodeOK_k {F : Fl} {i p : Int} (h : nodeOK F i p) : fN F i 0 ≠ 0 := by
  obtain ⟨h, -⟩ := h
  rcases h with h | h
  · have := (sOK_k h).1; omega
  · have := h.1; omega
theorem PA_bd {F : Fl} (h : PA F) : fBd F := fun b b0 b1 => by
  obtain ⟨⟨a, c⟩, -⟩ := h b b0 b1
  omega
theorem PA_blkK {F : Fl} (h : PA F) {b : Int} (b0 : 0 ≤ b) (b1 : b < 8) : blkK F b := fun p p0 p1 => nodeOK_k ((h b b0 b1).2.2.1 p p0 p1)
theorem allW_g {F : Fl} {b : Int} (h0 : 0 ≤ fC F b) : gAll F b (fC F b).toNat ↔ allW F b := by
  constructor
  · intro h p p0 p1
    have := h p.toNat (by omega)
    rw [show ((p.toNat : Nat) : Int) = p by omega] at this
    exact this
  · intro h p hp
    exact h p (by omega) (by omega)
abbrev PL (F : Fl) (g : Lg) : Prop :=
  (g.1 = -1 ∨ (0 ≤ g.1 ∧ g.1 < 8)) ∧ (g.1 ≠ -1 → allW F g.1 ∧ 1 ≤ fU F g.1) ∧ (∀ b ∈ g.2.1, (0 ≤ b ∧ b < 8) ∧ fU F b = 1 ∧ fC F b = 0) ∧
  (∀ b ∈ g.2.2, (0 ≤ b ∧ b < 8) ∧ 1 ≤ fC F b) ∧ (g.2.1.Nodup ∧ g.2.2.Nodup ∧ (∀ b ∈ g.2.1, b ∉ g.2.2) ∧ g.1 ∉ g.2.1 ∧ g.1 ∉ g.2.2) ∧
  (∀ b, 0 ≤ b → b < 8 → b = g.1 ∨ b ∈ g.2.1 ∨ b ∈ g.2.2) ∧ (-1 ≤ fL F ∧ fL F ≤ 1000)
theorem len8 {l : List Int} (h : l.Nodup) (h2 : ∀ b ∈ l, 0 ≤ b ∧ b < 8) : l.length ≤ 8 := by
  have := sub_len (r := [0, 1, 2, 3, 4, 5, 6, 7]) h (fun q hq => by have := h2 q hq; simp; omega)
  exact this
theorem PL_wfP {F : Fl} {g : Lg} (hA : PA F) (h : PL F g) : wfP F g := by
  obtain ⟨h1, h2, h3, h4, ⟨h5, h6, h7, h8, h9⟩, h10, h11⟩ := h
  refine ⟨h11, h1, fun q => ?_, fun b hb => ⟨(h3 b hb).2.2, fun e => h8 (by rw [← e]; exact hb)⟩⟩
  obtain ⟨⟨a, c⟩, -⟩ := hA g.1 (by omega) (by omega)
  have : (g.1 :: g.2.2).length ≤ 8 := len8 (List.nodup_cons.mpr ⟨h9, h6⟩) (fun b hb => by
    rcases List.mem_cons.mp hb with e | e
    · omega
    · exact (h4 b e).1)
  rw [List.length_cons] at this
  omega
/-- a DATA or NAME node that is whole -/
abbrev rW (F : Fl) (i : Int) : Prop := (fN F i 0 = 1 ∨ fN F i 0 = 2) ∧ fN F i 2 = fN F i 1
theorem app_N (F : Fl) (b : Int) (s : Int → Int) {j : Nat} (hj : j ≠ 0) (i k : Int) : fN (fApp F b s j) i k = if i = b * 16 + fC F b then (if k = 2 then (j : Int) else s k) else fN F i k := by
  unfold fApp; rw [if_neg hj]; rfl
theorem app_U (F : Fl) (b : Int) (s : Int → Int) {j : Nat} (hj : j ≠ 0) (c : Int) : fU (fApp F b s j) c = if c = b then fU F b + j else fU F c := by
  unfold fApp; rw [if_neg hj]; rfl
theorem app_C (F : Fl) (b : Int) (s : Int → Int) {j : Nat} (hj : j ≠ 0) (c : Int) : fC (fApp F b s j) c = if c = b then fC F b + 1 else fC F c := by
  unfold fApp; rw [if_neg hj]; rfl
theorem app_DE (F : Fl) (b : Int) (s : Int → Int) (j : Nat) : fD (fApp F b s j) = fD F ∧ fE (fApp F b s j) = fE F := by
  unfold fApp; split <;> exact ⟨rfl, rfl⟩
theorem PB_congr {F F' : Fl} {b : Int} (hN : ∀ p, 0 ≤ p → p < 16 → ∀ k, fN F' (b * 16 + p) k = fN F (b * 16 + p) k) (hU : fU F' b = fU F b) (hC : fC F' b = fC F b) (h : PB F b) : PB F' b := by
  obtain ⟨h1, h2, h3, h4, h5, h6⟩ := h
  unfold PB
  rw [hU, hC]
  have hw : ∀ p, 0 ≤ p → p < 16 → (wWhole F' (b * 16 + p) ↔ wWhole F (b * 16 + p)) := fun p p0 p1 => by unfold wWhole; rw [hN p p0 p1, hN p p0 p1, hN p p0 p1]
  refine ⟨h1, h2, fun p p0 p1 => ?_, fun p p0 p1 k k0 k1 => by rw [hN p (by omega) p1]; exact h4 p p0 p1 k k0 k1, fun p p0 p1 => ?_, fun hA => h6 (fun p p0 p1 => ?_)⟩
  · have e : fN F' (b * 16 + p) = fN F (b * 16 + p) := funext (hN p p0 (by omega))
    have := h3 p p0 p1
    unfold nodeOK at this ⊢
    rw [e]; exact this
  · have := h5 p p0 p1
    rw [hN p p0 (by omega), hw p p0 (by omega)]; exact this
  · have := hA p p0 (by rw [hC]; exact p1)
    rw [hN p p0 (by omega), hw p p0 (by omega)] at this; exact this
theorem PB_app {F : Fl} {b : Int} {s : Int → Int} {j : Nat} (hP : PB F b) (hW : allW F b) (hz : 1 ≤ fU F b) (hs : (sOK s ∧ fU F b + s 1 + fC F b + 2 ≤ 40) ∨ isSm s (fC F b)) (hj : j ≠ 0) (hj2 : (j : Int) ≤ s 1) : PB (fApp F b s j) b := by
  obtain ⟨⟨⟨h1, h1a⟩, h1b, h1c⟩, h2, h3, h4, h5, h6⟩ := hP
  have hN := app_N F b s hj
  have e0 : ∀ p : Int, p ≠ fC F b → ∀ k, fN (fApp F b s j) (b * 16 + p) k = fN F (b * 16 + p) k := fun p hp k => by rw [hN, if_neg (by omega)]
  have e1 : ∀ k, fN (fApp F b s j) (b * 16 + fC F b) k = if k = 2 then (j : Int) else s k := fun k => by rw [hN, if_pos rfl]
  have h6' := h6 hW
  have hk : 1 ≤ s 1 ∧ s 1 ≤ 14 ∧ (s 0 = 3 ∨ ((s 0 = 1 ∨ s 0 = 2) ∧ 2 ≤ s 1)) := by
    rcases hs with ⟨a, -⟩ | a
    · have := sOK_k a; omega
    · have := a.1; have := a.2.1; omega
  unfold PB
  rw [app_U F b s hj, app_C F b s hj, if_pos rfl, if_pos rfl]
  refine ⟨⟨⟨by omega, ?_⟩, by omega, ?_⟩, Or.inr ⟨by omega, by omega⟩, fun p p0 p1 => ?_, fun p p0 p1 k k0 k1 => ?_, fun p p0 p1 => ?_, fun hA hpos => ?_⟩
  · rcases hs with ⟨a, a2⟩ | a
    · have := sOK_k a; omega
    · omega
  · rcases hs with ⟨a, a2⟩ | a
    · omega
    · have := a.2.1; omega
  · by_cases e : p = fC F b
    · subst e
      refine ⟨?_, by rw [e1, if_pos rfl]; omega, by rw [e1, e1, if_pos rfl, if_neg (by omega)]; exact hj2⟩
      rcases hs with ⟨a, a2⟩ | a
      · exact Or.inl (sOK_congr (fun k hk => by rw [e1, if_neg hk]) a)
      · refine Or.inr ⟨by rw [e1, if_neg (by omega)]; exact a.1, by rw [e1, if_neg (by omega)]; exact a.2.1, fun k k0 k1 => by rw [e1, if_neg (by omega)]; exact a.2.2 k k0 k1⟩
    · have := h3 p p0 (by omega)
      unfold nodeOK at this ⊢
      rw [funext (e0 p e)]; exact this
  · rw [e0 p (by omega)]; exact h4 p (by omega) p1 k k0 k1
  · have := hW p p0 (by omega)
    unfold wWhole at this ⊢
    rw [e0 p (by omega), e0 p (by omega), e0 p (by omega)]; exact this
  · have hl := hA (fC F b) h1 (by rw [app_C F b s hj, if_pos rfl]; omega)
    unfold wWhole at hl
    rw [e1, e1, e1, if_neg (by omega), if_pos rfl, if_neg (by omega)] at hl
    rcases hs with ⟨a, a2⟩ | a
    · have := sOK_k a; omega
    · have := a.1; omega
theorem PA_app {F : Fl} {b : Int} {s : Int → Int} {j : Nat} (hA : PA F) (hb : 0 ≤ b ∧ b < 8) (hW : allW F b) (hz : 1 ≤ fU F b) (hs : (sOK s ∧ fU F b + s 1 + fC F b + 2 ≤ 40) ∨ isSm s (fC F b)) (hj2 : (j : Int) ≤ s 1) : PA (fApp F b s j) := by
  by_cases hj : j = 0
  · subst hj; unfold fApp; rw [if_pos rfl]; exact hA
  intro c c0 c1
  by_cases e : c = b
  · subst e; exact PB_app (hA c c0 c1) hW hz hs hj hj2
  · have := (hA b hb.1 hb.2).1.1
    exact PB_congr (fun p p0 p1 k => by rw [app_N F b s hj, if_neg (by omega)]) (by rw [app_U F b s hj, if_neg e]) (by rw [app_C F b s hj, if_neg e]) (hA c c0 c1)
theorem PB_Dk {F : Fl} {b : Int} (h : PB F b) : PB (fDark F) b := h
theorem apR_1 {F : Fl} {b : Int} {s : Int → Int} (h : ¬ (0 ≤ fL F ∧ fL F < s 1)) : fApR F b s = (fApp F b s (s 1).toNat, true) := by unfold fApR; rw [if_neg h]
theorem apR_0 {F : Fl} {b : Int} {s : Int → Int} (h : 0 ≤ fL F ∧ fL F < s 1) : fApR F b s = (fDark (fApp F b s (fL F).toNat), false) := by unfold fApR; rw [if_pos h]
theorem PA_apR {F : Fl} {b : Int} {s : Int → Int} (hA : PA F) (hb : 0 ≤ b ∧ b < 8) (hW : allW F b) (hz : 1 ≤ fU F b) (hs : (sOK s ∧ fU F b + s 1 + fC F b + 2 ≤ 40) ∨ isSm s (fC F b)) : PA (fApR F b s).1 := by
  have h1 : 1 ≤ s 1 := by
    rcases hs with ⟨a, -⟩ | a
    · have := sOK_k a; omega
    · have := a.2.1; have := (hA b hb.1 hb.2).1.1; omega
  by_cases h : 0 ≤ fL F ∧ fL F < s 1
  · rw [apR_0 h]
    exact fun c c0 c1 => PB_Dk (PA_app hA hb hW hz hs (by omega) c c0 c1)
  · rw [apR_1 h]
    exact PA_app hA hb hW hz hs (by omega)
