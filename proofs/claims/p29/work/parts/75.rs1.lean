/-! ### names by rows -/
/-- a node that counts for its name -/
abbrev asgR (F : Fl) (r : Int) : Prop := rT F r 2 (fN F r 3) ∧ rnAsg F (fN F r 3) r
noncomputable def cR (p : Int → Prop) : Nat → Int
  | 0 => 0
  | k + 1 => cR p k + pI (p k) 1 0
theorem cR_s (p : Int → Prop) (k : Nat) : cR p (k + 1) = cR p k + pI (p k) 1 0 := rfl
theorem cR_b (p : Int → Prop) : ∀ k : Nat, 0 ≤ cR p k ∧ cR p k ≤ k
  | 0 => ⟨by show (0 : Int) ≤ 0; omega, by show (0 : Int) ≤ 0; omega⟩
  | k + 1 => by
    have := cR_b p k
    rw [cR_s]
    by_cases c : p k
    · rw [pI_1 c]; omega
    · rw [pI_0 c]; omega
theorem cR_cg {p q : Int → Prop} : ∀ k : Nat, (∀ r : Int, 0 ≤ r → r < k → (p r ↔ q r)) → cR p k = cR q k
  | 0, _ => rfl
  | k + 1, h => by
    rw [cR_s, cR_s, cR_cg k (fun r r0 r1 => h r r0 (by omega))]
    have := h k (by omega) (by omega)
    by_cases c : p k
    · rw [pI_1 c, pI_1 (this.mp c)]
    · rw [pI_0 c, pI_0 (fun z => c (this.mpr z))]
/-- one row more -/
theorem cR_one {p q : Int → Prop} {a : Int} : ∀ k : Nat, 0 ≤ a → a < k → ¬ p a → (∀ r : Int, 0 ≤ r → r < k → (q r ↔ p r ∨ r = a)) → cR q k = cR p k + 1
  | 0, h0, h1, _, _ => by omega
  | k + 1, h0, h1, hn, h => by
    rw [cR_s, cR_s]
    by_cases e : a = k
    · have := cR_cg (p := q) (q := p) k (fun r r0 r1 => by rw [h r r0 (by omega)]; exact ⟨fun z => z.resolve_right (by omega), Or.inl⟩)
      rw [this, ← e, pI_1 ((h a h0 h1).mpr (Or.inr rfl)), pI_0 hn]; omega
    · have := cR_one (p := p) (q := q) (a := a) k h0 (by omega) hn (fun r r0 r1 => h r r0 (by omega))
      have hk := h k (by omega) (by omega)
      rw [this]
      by_cases c : p k
      · rw [pI_1 c, pI_1 (hk.mpr (Or.inl c))] <;> omega
      · rw [pI_0 c, pI_0 (fun z => (hk.mp z).elim c (fun w => e w.symm))] <;> omega
theorem cR_or {p q s : Int → Prop} : ∀ k : Nat, (∀ r : Int, 0 ≤ r → r < k → (s r ↔ p r ∨ q r) ∧ ¬ (p r ∧ q r)) → cR s k = cR p k + cR q k
  | 0, _ => rfl
  | k + 1, h => by
    rw [cR_s, cR_s, cR_s, cR_or (p := p) (q := q) k (fun r r0 r1 => h r r0 (by omega))]
    obtain ⟨a, b⟩ := h k (by omega) (by omega)
    by_cases c : p k
    · rw [pI_1 c, pI_1 (a.mpr (Or.inl c)), pI_0 (fun z => b ⟨c, z⟩)]; omega
    · by_cases d : q k
      · rw [pI_0 c, pI_1 (a.mpr (Or.inr d)), pI_1 d]; omega
      · rw [pI_0 c, pI_0 (fun z => (a.mp z).elim c d), pI_0 d]; omega
theorem cR_0 {p : Int → Prop} {k : Nat} (h : ∀ r : Int, 0 ≤ r → r < k → ¬ p r) : cR p k = 0 := by
  induction k with
  | zero => rfl
  | succ k ih => rw [cR_s, ih (fun r r0 r1 => h r r0 (by omega)), pI_0 (h k (by omega) (by omega))]; rfl
theorem cR_pos {p : Int → Prop} {k : Nat} {r : Int} (r0 : 0 ≤ r) (r1 : r < k) (h : p r) : 0 < cR p k := by
  induction k with
  | zero => omega
  | succ k ih =>
    rw [cR_s]
    have := cR_b p k
    by_cases e : r = k
    · rw [← e, pI_1 h]; omega
    · have := ih (by omega)
      by_cases c : p k
      · rw [pI_1 c]; omega
      · rw [pI_0 c]; omega
theorem asgR_TG {F : Fl} {r : Int} (r0 : 0 ≤ r) (h : asgR F r) : TG F (fN F r 3) (fN F r 5) = fN F r 10 := by
  unfold TG qTgt
  have e : qNew F 2 (fN F r 3) (fN F r 5) 2147483647 128 = r := h.2.2
  rw [e, if_neg (by omega)]
theorem TG_asgR {F : Fl} {d nm : Int} (h : TG F d nm ≠ 0) : (0 ≤ qNew F 2 d nm 2147483647 128 ∧ qNew F 2 d nm 2147483647 128 < 128) ∧ asgR F (qNew F 2 d nm 2147483647 128) ∧ fN F (qNew F 2 d nm 2147483647 128) 3 = d ∧ fN F (qNew F 2 d nm 2147483647 128) 5 = nm ∧ fN F (qNew F 2 d nm 2147483647 128) 10 = TG F d nm := by
  obtain ⟨i, i0, i1, hT, h5, h10, -, hq, -⟩ := TG_row h
  rw [hq]
  have w := (rT_W (Or.inr rfl)).mp hT
  refine ⟨⟨i0, i1⟩, ⟨by rw [w.2.2]; exact hT, by rw [h10]; exact h, by rw [w.2.2, h5]; exact hq⟩, w.2.2, h5, h10⟩
theorem asgR_u {F : Fl} {r q : Int} (hr : asgR F r) (hq : asgR F q) (h3 : fN F r 3 = fN F q 3) (h5 : fN F r 5 = fN F q 5) : r = q := by
  have a := hr.2.2
  have b := hq.2.2
  rw [h3, h5] at a
  exact a.symm.trans b
/-- how many names a directory has, by rows -/
theorem nmRow {F : Fl} (d : Int) : ∀ k : Nat, cntN (TG F d) k = cR (fun r => asgR F r ∧ fN F r 3 = d ∧ 1 ≤ fN F r 5 ∧ fN F r 5 ≤ k) 128
  | 0 => (cR_0 (fun r _ _ h => by omega)).symm
  | k + 1 => by
    rw [cntN_s, nmRow d k]
    by_cases c : TG F d ((k : Int) + 1) = 0
    · rw [if_neg (fun z => z c)]
      rw [Int.add_zero]
      refine cR_cg 128 (fun r r0 r1 => ⟨fun h => ⟨h.1, h.2.1, h.2.2.1, by omega⟩, fun h => ⟨h.1, h.2.1, h.2.2.1, ?_⟩⟩)
      by_cases e : fN F r 5 = (k : Int) + 1
      · have := asgR_TG r0 h.1
        rw [h.2.1, e, c] at this
        exact absurd this.symm h.1.2.1
      · omega
    · rw [if_pos c]
      obtain ⟨a1, a2, a3, a4, a5⟩ := TG_asgR c
      refine (cR_one (a := qNew F 2 d ((k : Int) + 1) 2147483647 128) 128 a1.1 a1.2 (fun h => by omega) (fun r r0 r1 => ⟨fun h => ?_, fun h => ?_⟩)).symm
      · by_cases e : fN F r 5 = (k : Int) + 1
        · exact Or.inr (asgR_u h.1 a2 (by omega) (by omega))
        · exact Or.inl ⟨h.1, h.2.1, h.2.2.1, by omega⟩
      · rcases h with h | h
        · exact ⟨h.1, h.2.1, h.2.2.1, by omega⟩
        · rw [h]; exact ⟨a2, a3, by omega, by omega⟩
theorem ceqRow {F : Fl} (d : Int) {n : Int} (hn : n ≠ 0) : ∀ k : Nat, ((ceq (TG F d) n k : Nat) : Int) = cR (fun r => asgR F r ∧ fN F r 3 = d ∧ fN F r 10 = n ∧ 1 ≤ fN F r 5 ∧ fN F r 5 ≤ k) 128
  | 0 => (cR_0 (fun r _ _ h => by omega)).symm
  | k + 1 => by
    have ih := ceqRow (F := F) d hn k
    rw [ceq_s]
    by_cases c : TG F d ((k : Int) + 1) = n
    · rw [if_pos c]
      obtain ⟨a1, a2, a3, a4, a5⟩ := TG_asgR (F := F) (d := d) (nm := (k : Int) + 1) (by rw [c]; exact hn)
      have := cR_one (p := fun r => asgR F r ∧ fN F r 3 = d ∧ fN F r 10 = n ∧ 1 ≤ fN F r 5 ∧ fN F r 5 ≤ k) (q := fun r => asgR F r ∧ fN F r 3 = d ∧ fN F r 10 = n ∧ 1 ≤ fN F r 5 ∧ fN F r 5 ≤ ((k + 1 : Nat) : Int)) (a := qNew F 2 d ((k : Int) + 1) 2147483647 128) 128 a1.1 a1.2 (fun h => by omega) (fun r r0 r1 => ⟨fun h => ?_, fun h => ?_⟩)
      · rw [this]; omega
      · by_cases e : fN F r 5 = (k : Int) + 1
        · exact Or.inr (asgR_u h.1 a2 (by omega) (by omega))
        · exact Or.inl ⟨h.1, h.2.1, h.2.2.1, h.2.2.2.1, by omega⟩
      · rcases h with h | h
        · exact ⟨h.1, h.2.1, h.2.2.1, h.2.2.2.1, by omega⟩
        · rw [h]; exact ⟨a2, a3, a5.trans c, by omega, by omega⟩
    · rw [if_neg c, Nat.add_zero, ih]
      refine cR_cg 128 (fun r r0 r1 => ⟨fun h => ⟨h.1, h.2.1, h.2.2.1, h.2.2.2.1, by omega⟩, fun h => ⟨h.1, h.2.1, h.2.2.1, h.2.2.2.1, ?_⟩⟩)
      by_cases e : fN F r 5 = (k : Int) + 1
      · have := asgR_TG r0 h.1
        rw [h.2.1, e, h.2.2.1] at this
        exact absurd this c
      · omega
/-- how many names a number has, by rows -/
theorem lkRow {F : Fl} (D : Int → Int → Int) {n : Int} (hn : n ≠ 0) : ∀ k : Nat, ((lk (TG F) D n k : Nat) : Int) = cR (fun r => asgR F r ∧ thD (TG F) D (fN F r 3) ∧ fN F r 10 = n ∧ (1 ≤ fN F r 5 ∧ fN F r 5 ≤ 99) ∧ 0 ≤ fN F r 3 ∧ fN F r 3 < k) 128
  | 0 => (cR_0 (fun r _ _ h => by omega)).symm
  | k + 1 => by
    have ih := lkRow (F := F) D hn k
    rw [lk_s]
    by_cases c : thD (TG F) D (k : Int)
    · rw [if_pos c]
      have e := ceqRow (F := F) (k : Int) hn 99
      have := cR_or (p := fun r => asgR F r ∧ thD (TG F) D (fN F r 3) ∧ fN F r 10 = n ∧ (1 ≤ fN F r 5 ∧ fN F r 5 ≤ 99) ∧ 0 ≤ fN F r 3 ∧ fN F r 3 < k) (q := fun r => asgR F r ∧ fN F r 3 = (k : Int) ∧ fN F r 10 = n ∧ 1 ≤ fN F r 5 ∧ fN F r 5 ≤ ((99 : Nat) : Int)) (s := fun r => asgR F r ∧ thD (TG F) D (fN F r 3) ∧ fN F r 10 = n ∧ (1 ≤ fN F r 5 ∧ fN F r 5 ≤ 99) ∧ 0 ≤ fN F r 3 ∧ fN F r 3 < ((k + 1 : Nat) : Int)) 128 (fun r r0 r1 => ⟨⟨fun h => ?_, fun h => ?_⟩, fun h => by omega⟩)
      · rw [this, ← ih, ← e]; omega
      · by_cases z : fN F r 3 = (k : Int)
        · exact Or.inr ⟨h.1, z, h.2.2.1, h.2.2.2.1.1, h.2.2.2.1.2⟩
        · exact Or.inl ⟨h.1, h.2.1, h.2.2.1, h.2.2.2.1, by omega, by omega⟩
      · rcases h with h | h
        · exact ⟨h.1, h.2.1, h.2.2.1, h.2.2.2.1, by omega, by omega⟩
        · exact ⟨h.1, by rw [h.2.1]; exact c, h.2.2.1, ⟨h.2.2.2.1, h.2.2.2.2⟩, by omega, by omega⟩
    · rw [if_neg c, Nat.add_zero, ih]
      refine cR_cg 128 (fun r r0 r1 => ⟨fun h => ⟨h.1, h.2.1, h.2.2.1, h.2.2.2.1, by omega, by omega⟩, fun h => ⟨h.1, h.2.1, h.2.2.1, h.2.2.2.1, by omega, ?_⟩⟩)
      by_cases z : fN F r 3 = (k : Int)
      · rw [z] at h; exact absurd h.2.1 c
      · omega
/-- the greatest version -/
def mxV (F : Fl) (kd x : Int) : Nat → Int
  | 0 => 0
  | k + 1 => if rT F k kd x then max (mxV F kd x k) (fN F k 4) else mxV F kd x k
theorem mxV_s (F : Fl) (kd x : Int) (k : Nat) : mxV F kd x (k + 1) = if rT F k kd x then max (mxV F kd x k) (fN F k 4) else mxV F kd x k := rfl
theorem mxV_le {F : Fl} {kd x : Int} : ∀ k : Nat, 0 ≤ mxV F kd x k ∧ ∀ r : Int, 0 ≤ r → r < k → rT F r kd x → fN F r 4 ≤ mxV F kd x k
  | 0 => ⟨by show (0 : Int) ≤ 0; omega, fun r r0 r1 => by omega⟩
  | k + 1 => by
    obtain ⟨a, b⟩ := mxV_le (F := F) (kd := kd) (x := x) k
    rw [mxV_s]
    by_cases c : rT F k kd x
    · rw [if_pos c]
      refine ⟨by omega, fun r r0 r1 h => ?_⟩
      by_cases e : r = k
      · subst e; omega
      · have := b r r0 (by omega) h; omega
    · rw [if_neg c]
      refine ⟨a, fun r r0 r1 h => ?_⟩
      by_cases e : r = k
      · subst e; exact absurd h c
      · exact b r r0 (by omega) h
theorem mxV_ub {F : Fl} {kd x v : Int} (hv : 0 ≤ v) : ∀ k : Nat, (∀ r : Int, 0 ≤ r → r < k → rT F r kd x → fN F r 4 ≤ v) → mxV F kd x k ≤ v
  | 0, _ => hv
  | k + 1, h => by
    have ih := mxV_ub hv (F := F) (kd := kd) (x := x) k (fun r r0 r1 => h r r0 (by omega))
    rw [mxV_s]
    split
    · rename_i c
      have := h k (by omega) (by omega) c
      omega
    · exact ih
