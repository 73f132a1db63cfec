/-! ### a mount by the reference -/
theorem gCur_D (F : Fl) (v : Int) : ∀ k : Nat, gCur (fSetD F v) k = gCur F k
  | 0 => rfl
  | k + 1 => by rw [gCur_s, gCur_s, gCur_D F v k]; rfl
theorem gFree_D (F : Fl) (v : Int) : ∀ k : Nat, gFree (fSetD F v) k = gFree F k
  | 0 => rfl
  | k + 1 => by rw [gFree_s, gFree_s, gFree_D F v k]; rfl
theorem gClosed_D (F : Fl) (v c : Int) : ∀ k : Nat, gClosed (fSetD F v) c k = gClosed F c k
  | 0 => rfl
  | k + 1 => by rw [gClosed_s, gClosed_s, gClosed_D F v c k]; rfl
theorem gOf_D (F : Fl) (v : Int) : gOf (fSetD F v) = gOf F := by
  unfold gOf
  rw [gCur_D, gFree_D, gClosed_D]
theorem PB_D {F : Fl} {v : Int} (h : PA F) : PA (fSetD F v) := h
theorem RM_D1 {F : Fl} {μ : nMem} (h : RM F μ) (v : Int) : RM (fSetD F v) μ := h
theorem erR_E (F : Fl) (b c : Int) (h : c ≠ b) : fE (fErR F b).1 c = fE F c := by
  unfold fErR
  split
  · rfl
  · split
    · show (if c = b then fE (fSpd F) b + 1 else fE (fSpd F) c) = _
      rw [if_neg h]; rfl
    · show (if c = b then fE (fSpd F) b + 1 else fE (fSpd F) c) = _
      rw [if_neg h]; rfl
theorem lBrk_E (F : Fl) (g : Lg) : ∀ k : Nat, ∀ c : Int, (k : Int) ≤ c → fE (lBrk F g k).1 c = fE F c
  | 0, _, _ => rfl
  | k + 1, c, h => by
    have ih := lBrk_E F g k c (by omega)
    rw [lBrk_s]
    split
    · exact ih
    · split
      · show fE (fErR (lBrk F g k).1 k).1 c = _
        rw [erR_E _ _ _ (by omega)]; exact ih
      · exact ih
/-- a block's summary and torn nodes -/
theorem sum_iff {F : Fl} {μ : nMem} {b : Int} (hA : PA F) (hR : RM F μ) (hb : 0 ≤ b ∧ b < 8) : (mSum μ b ∧ ¬ mTorn μ b ↔ 0 < fC F b ∧ jSm F (b * 16 + (fC F b - 1))) ∧ (¬ mSum μ b ∧ ¬ mTorn μ b ↔ gAll F b (fC F b).toNat) := by
  obtain ⟨⟨⟨c0, c1⟩, u0, u1⟩, p2, p3, p4, p5, p6⟩ := hA b hb.1 hb.2
  have q34 := (hR.1 b hb.1 hb.2).1
  have row : ∀ p, 0 ≤ p → p < fC F b → μ 22 (16 * b + p) = fN F (b * 16 + p) 0 ∧ μ 33 (16 * b + p) = fN F (b * 16 + p) 2 ∧ μ 32 (16 * b + p) = fN F (b * 16 + p) 1 := fun p p0 p1 => by
    have := (hR.2 (16 * b + p) (by omega) (by omega) (by rw [show (16 * b + p) / 16 = b by omega]; omega)).1
    rw [show b * 16 + p = 16 * b + p by omega]
    exact ⟨this.1, this.2.2.2.2, this.2.2.2.1⟩
  have hs : mSum μ b ↔ ∃ p, 0 ≤ p ∧ p < fC F b ∧ fN F (b * 16 + p) 0 = 3 := by
    unfold mSum
    rw [q34]
    refine exists_congr (fun p => ⟨fun ⟨a, c, d⟩ => ⟨a, c, by rw [← (row p a c).1]; exact d⟩, fun ⟨a, c, d⟩ => ⟨a, c, by rw [(row p a c).1]; exact d⟩⟩)
  have ht : mTorn μ b ↔ ∃ p, 0 ≤ p ∧ p < fC F b ∧ fN F (b * 16 + p) 2 ≠ fN F (b * 16 + p) 1 := by
    unfold mTorn
    rw [q34]
    refine exists_congr (fun p => ⟨fun ⟨a, c, d⟩ => ⟨a, c, by rw [← (row p a c).2.1, ← (row p a c).2.2]; exact d⟩, fun ⟨a, c, d⟩ => ⟨a, c, by rw [(row p a c).2.1, (row p a c).2.2]; exact d⟩⟩)
  rw [hs, ht]
  constructor
  · constructor
    · rintro ⟨⟨p, a, c, d⟩, hn⟩
      have hl : p + 1 = fC F b := by
        by_cases z : p + 1 < fC F b
        · exact absurd d (p5 p a z).1
        · omega
      refine ⟨by omega, ?_⟩
      rw [show fC F b - 1 = p by omega]
      exact ⟨d, Classical.byContradiction (fun z => hn ⟨p, a, c, z⟩)⟩
    · rintro ⟨a, c, d⟩
      refine ⟨⟨fC F b - 1, by omega, by omega, c⟩, ?_⟩
      rintro ⟨p, x, y, z⟩
      by_cases w : p + 1 < fC F b
      · exact z (p5 p x w).2.2
      · rw [show p = fC F b - 1 by omega] at z
        exact z d
  · constructor
    · rintro ⟨h1, h2⟩ p hp
      have hp2 : (p : Int) < fC F b := by omega
      exact ⟨fun z => h1 ⟨p, by omega, hp2, z⟩, nodeOK_k (p3 p (by omega) hp2), Classical.byContradiction (fun z => h2 ⟨p, by omega, hp2, z⟩)⟩
    · intro h
      refine ⟨?_, ?_⟩
      · rintro ⟨p, a, c, d⟩
        have := (h p.toNat (by omega)).1
        rw [show ((p.toNat : Nat) : Int) = p by omega] at this
        exact this d
      · rintro ⟨p, a, c, d⟩
        have := (h p.toNat (by omega)).2.2
        rw [show ((p.toNat : Nat) : Int) = p by omega] at this
        exact d this
theorem uRd_1 {F : Fl} {b s : Int} (h : s ≠ 0 ∧ 0 < fC F b ∧ jSm F (b * 16 + (fC F b - 1))) : uRd F b s = fN F (b * 16 + (fC F b - 1)) 1 + 1 := if_pos h
theorem uRd_0 {F : Fl} {b s : Int} (h : ¬ (s ≠ 0 ∧ 0 < fC F b ∧ jSm F (b * 16 + (fC F b - 1)))) : uRd F b s = fU F b := if_neg h
theorem gClosed_len (F : Fl) (c : Int) : ∀ k : Nat, (gClosed F c k).length ≤ k
  | 0 => Nat.le_refl _
  | k + 1 => by
    have ih := gClosed_len F c k
    rw [gClosed_s]
    split
    · rw [List.length_append]; show (gClosed F c k).length + 1 ≤ k + 1; omega
    · omega
