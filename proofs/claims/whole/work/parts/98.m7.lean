/-! ### bounds of the reference's arrays, and what the present nodes tell -/
def hiM (x : Int) : Int := if x = 22 then 3 else if x = 23 then 2001 else if x = 24 then 5000 else if x = 25 then 63 else if x = 26 then 8 else if x = 28 then 64 else if x = 29 then 99 else if x = 30 then 2001 else if x = 31 then 1 else if x = 32 then 20 else if x = 33 then 20 else if x = 34 then 16 else if x = 35 then 40 else if x = 36 then 200000 else if x = 37 then 7 else if x = 38 then 7 else if x = 39 then 5000 else if x = 40 then 5000 else if x = 41 then 1 else if x = 42 then 1 else if x = 43 then 300000 else if x = 44 then 5000 else if x = 45 then 128 else if x = 46 then 2001 else if x = 47 then 64 else if x = 48 then 128 else if x = 49 then 255 else if x = 50 then 5000 else if x = 51 then 1 else if x = 52 then 20 else if x = 53 then 1 else if x = 54 then 127 else 1
/-- all the reference's arrays are within bounds -/
def mB (μ : nMem) : Prop := ∀ x j, 22 ≤ x → x ≤ 55 → x ≠ 27 → 0 ≤ μ x j ∧ μ x j ≤ hiM x
theorem hiM_r (x : Int) : 0 ≤ hiM x ∧ hiM x ≤ 300000 := by
  unfold hiM
  (repeat' split) <;> omega
theorem mR_of {μ : nMem} (h : mB μ) : mR μ := fun x j x0 x1 x2 => by
  have a := h x j x0 x1 x2
  have b := hiM_r x
  unfold inR
  omega
theorem mB_wr {μ : nMem} {x j v : Int} (h : mB μ) (hv : x = 27 ∨ x = 21 ∨ (0 ≤ v ∧ v ≤ hiM x)) : mB (wr μ x j v) := fun y i y0 y1 y2 => by
  by_cases c : y = x ∧ i = j
  · obtain ⟨c1, c2⟩ := c
    subst c1 c2
    rw [wr_s]
    omega
  · rw [wr_n _ v c]; exact h y i y0 y1 y2
theorem b22 {μ : nMem} (h : mB μ) (j : Int) : 0 ≤ μ 22 j ∧ μ 22 j ≤ 3 := h 22 j (by decide) (by decide) (by decide)
theorem b23 {μ : nMem} (h : mB μ) (j : Int) : 0 ≤ μ 23 j ∧ μ 23 j ≤ 2001 := h 23 j (by decide) (by decide) (by decide)
theorem b24 {μ : nMem} (h : mB μ) (j : Int) : 0 ≤ μ 24 j ∧ μ 24 j ≤ 5000 := h 24 j (by decide) (by decide) (by decide)
theorem b25 {μ : nMem} (h : mB μ) (j : Int) : 0 ≤ μ 25 j ∧ μ 25 j ≤ 63 := h 25 j (by decide) (by decide) (by decide)
theorem b26 {μ : nMem} (h : mB μ) (j : Int) : 0 ≤ μ 26 j ∧ μ 26 j ≤ 8 := h 26 j (by decide) (by decide) (by decide)
theorem b28 {μ : nMem} (h : mB μ) (j : Int) : 0 ≤ μ 28 j ∧ μ 28 j ≤ 64 := h 28 j (by decide) (by decide) (by decide)
theorem b29 {μ : nMem} (h : mB μ) (j : Int) : 0 ≤ μ 29 j ∧ μ 29 j ≤ 99 := h 29 j (by decide) (by decide) (by decide)
theorem b30 {μ : nMem} (h : mB μ) (j : Int) : 0 ≤ μ 30 j ∧ μ 30 j ≤ 2001 := h 30 j (by decide) (by decide) (by decide)
theorem b31 {μ : nMem} (h : mB μ) (j : Int) : 0 ≤ μ 31 j ∧ μ 31 j ≤ 1 := h 31 j (by decide) (by decide) (by decide)
theorem b32 {μ : nMem} (h : mB μ) (j : Int) : 0 ≤ μ 32 j ∧ μ 32 j ≤ 20 := h 32 j (by decide) (by decide) (by decide)
theorem b33 {μ : nMem} (h : mB μ) (j : Int) : 0 ≤ μ 33 j ∧ μ 33 j ≤ 20 := h 33 j (by decide) (by decide) (by decide)
theorem b34 {μ : nMem} (h : mB μ) (j : Int) : 0 ≤ μ 34 j ∧ μ 34 j ≤ 16 := h 34 j (by decide) (by decide) (by decide)
theorem b35 {μ : nMem} (h : mB μ) (j : Int) : 0 ≤ μ 35 j ∧ μ 35 j ≤ 40 := h 35 j (by decide) (by decide) (by decide)
theorem b36 {μ : nMem} (h : mB μ) (j : Int) : 0 ≤ μ 36 j ∧ μ 36 j ≤ 200000 := h 36 j (by decide) (by decide) (by decide)
theorem b37 {μ : nMem} (h : mB μ) (j : Int) : 0 ≤ μ 37 j ∧ μ 37 j ≤ 7 := h 37 j (by decide) (by decide) (by decide)
theorem b38 {μ : nMem} (h : mB μ) (j : Int) : 0 ≤ μ 38 j ∧ μ 38 j ≤ 7 := h 38 j (by decide) (by decide) (by decide)
theorem b39 {μ : nMem} (h : mB μ) (j : Int) : 0 ≤ μ 39 j ∧ μ 39 j ≤ 5000 := h 39 j (by decide) (by decide) (by decide)
theorem b40 {μ : nMem} (h : mB μ) (j : Int) : 0 ≤ μ 40 j ∧ μ 40 j ≤ 5000 := h 40 j (by decide) (by decide) (by decide)
theorem b41 {μ : nMem} (h : mB μ) (j : Int) : 0 ≤ μ 41 j ∧ μ 41 j ≤ 1 := h 41 j (by decide) (by decide) (by decide)
theorem b42 {μ : nMem} (h : mB μ) (j : Int) : 0 ≤ μ 42 j ∧ μ 42 j ≤ 1 := h 42 j (by decide) (by decide) (by decide)
theorem b43 {μ : nMem} (h : mB μ) (j : Int) : 0 ≤ μ 43 j ∧ μ 43 j ≤ 300000 := h 43 j (by decide) (by decide) (by decide)
theorem b44 {μ : nMem} (h : mB μ) (j : Int) : 0 ≤ μ 44 j ∧ μ 44 j ≤ 5000 := h 44 j (by decide) (by decide) (by decide)
theorem b45 {μ : nMem} (h : mB μ) (j : Int) : 0 ≤ μ 45 j ∧ μ 45 j ≤ 128 := h 45 j (by decide) (by decide) (by decide)
theorem b46 {μ : nMem} (h : mB μ) (j : Int) : 0 ≤ μ 46 j ∧ μ 46 j ≤ 2001 := h 46 j (by decide) (by decide) (by decide)
theorem b47 {μ : nMem} (h : mB μ) (j : Int) : 0 ≤ μ 47 j ∧ μ 47 j ≤ 64 := h 47 j (by decide) (by decide) (by decide)
theorem b48 {μ : nMem} (h : mB μ) (j : Int) : 0 ≤ μ 48 j ∧ μ 48 j ≤ 128 := h 48 j (by decide) (by decide) (by decide)
theorem b49 {μ : nMem} (h : mB μ) (j : Int) : 0 ≤ μ 49 j ∧ μ 49 j ≤ 255 := h 49 j (by decide) (by decide) (by decide)
theorem b50 {μ : nMem} (h : mB μ) (j : Int) : 0 ≤ μ 50 j ∧ μ 50 j ≤ 5000 := h 50 j (by decide) (by decide) (by decide)
theorem b51 {μ : nMem} (h : mB μ) (j : Int) : 0 ≤ μ 51 j ∧ μ 51 j ≤ 1 := h 51 j (by decide) (by decide) (by decide)
theorem b52 {μ : nMem} (h : mB μ) (j : Int) : 0 ≤ μ 52 j ∧ μ 52 j ≤ 20 := h 52 j (by decide) (by decide) (by decide)
theorem b53 {μ : nMem} (h : mB μ) (j : Int) : 0 ≤ μ 53 j ∧ μ 53 j ≤ 1 := h 53 j (by decide) (by decide) (by decide)
theorem b54 {μ : nMem} (h : mB μ) (j : Int) : 0 ≤ μ 54 j ∧ μ 54 j ≤ 127 := h 54 j (by decide) (by decide) (by decide)
theorem b55 {μ : nMem} (h : mB μ) (j : Int) : 0 ≤ μ 55 j ∧ μ 55 j ≤ 1 := h 55 j (by decide) (by decide) (by decide)
/-- the present nodes are the whole ones of a flash -/
def PrM (F : Fl) (μ : nMem) : Prop := ∀ i, 0 ≤ i → i < 128 → (μ 41 i ≠ 0 ↔ rW F i) ∧ (rW F i → (μ 22 i = fN F i 0 ∧ μ 23 i = fN F i 3 ∧ μ 24 i = fN F i 4) ∧ (fN F i 0 = 1 → μ 25 i = fN F i 5 ∧ μ 26 i = fN F i 6 ∧ μ 27 i = fN F i 7 ∧ μ 28 i = fN F i 9) ∧ (fN F i 0 = 2 → μ 29 i = fN F i 5 ∧ μ 30 i = fN F i 10 ∧ μ 31 i = fN F i 11))
theorem PrM_cg {F : Fl} {μ m : nMem} (h : PrM F μ) (e : ∀ x j, ¬ (42 ≤ x ∧ x ≤ 51) → m x j = μ x j) : PrM F m := fun i i0 i1 => by
  obtain ⟨a, b⟩ := h i i0 i1
  rw [e 41 i (by omega), e 22 i (by omega), e 23 i (by omega), e 24 i (by omega), e 25 i (by omega), e 26 i (by omega), e 27 i (by omega), e 28 i (by omega), e 29 i (by omega), e 30 i (by omega), e 31 i (by omega)]
  exact ⟨a, b⟩
/-- a row that is a name node -/
theorem PrM_2 {F : Fl} {μ : nMem} {i : Int} (h : PrM F μ) (i0 : 0 ≤ i) (i1 : i < 128) (hp : μ 41 i ≠ 0) (hk : μ 22 i = 2) : rW F i ∧ fN F i 0 = 2 ∧ μ 23 i = fN F i 3 ∧ μ 24 i = fN F i 4 ∧ μ 29 i = fN F i 5 ∧ μ 30 i = fN F i 10 ∧ μ 31 i = fN F i 11 := by
  obtain ⟨a, b⟩ := h i i0 i1
  have w := a.mp hp
  obtain ⟨⟨c1, c2, c3⟩, -, c5⟩ := b w
  have k2 : fN F i 0 = 2 := c1.symm.trans hk
  obtain ⟨d1, d2, d3⟩ := c5 k2
  exact ⟨w, k2, c2, c3, d1, d2, d3⟩
theorem PrM_2' {F : Fl} {μ : nMem} {i : Int} (h : PrM F μ) (i0 : 0 ≤ i) (i1 : i < 128) (w : rW F i) (k2 : fN F i 0 = 2) : μ 41 i ≠ 0 ∧ μ 22 i = 2 ∧ μ 23 i = fN F i 3 ∧ μ 24 i = fN F i 4 ∧ μ 29 i = fN F i 5 ∧ μ 30 i = fN F i 10 ∧ μ 31 i = fN F i 11 := by
  obtain ⟨a, b⟩ := h i i0 i1
  obtain ⟨⟨c1, c2, c3⟩, -, c5⟩ := b w
  obtain ⟨d1, d2, d3⟩ := c5 k2
  exact ⟨a.mpr w, c1.trans k2, c2, c3, d1, d2, d3⟩
/-- the reference's counting node is the newest of its name -/
theorem mCnt_iff {F : Fl} {μ : nMem} {i : Int} (h : PrM F μ) (hS : NS F) (i0 : 0 ≤ i) (i1 : i < 128) : mCnt μ i ↔ rT F i 2 (fN F i 3) ∧ qNew F 2 (fN F i 3) (fN F i 5) 2147483647 128 = i := by
  constructor
  · rintro ⟨⟨a, b⟩, c⟩
    obtain ⟨w, k2, e3, e4, e5, e10, e11⟩ := PrM_2 h i0 i1 a b
    have hr : rT F i 2 (fN F i 3) := (rT_W (Or.inr rfl)).mpr ⟨w, k2, rfl⟩
    have hs := sOK_k (hS i i0 i1 w)
    refine ⟨hr, qNew_is i0 i1 ⟨hr, by omega, Or.inl ⟨k2, rfl⟩⟩ (fun j j0 j1 hq => ?_)⟩
    obtain ⟨q1, q2, q3⟩ := hq
    obtain ⟨w', k2', n3⟩ := (rT_W (Or.inr rfl)).mp q1
    have n5 : fN F j 5 = fN F i 5 := by rcases q3 with q | q; exact q.2; omega
    obtain ⟨p1, p2, p3, p4, p5, -, -⟩ := PrM_2' h j0 j1 w' k2'
    have := c j j0 j1
    unfold mBlk at this
    have z : μ 24 j < μ 24 i ∨ (μ 24 j = μ 24 i ∧ ¬ j < i) := Classical.byContradiction (fun z => this ⟨p1, p2, by omega, by omega, z⟩)
    omega
  · rintro ⟨hr, hq⟩
    obtain ⟨w, k2, -⟩ := (rT_W (Or.inr rfl)).mp hr
    obtain ⟨p1, p2, p3, p4, p5, -, -⟩ := PrM_2' h i0 i1 w k2
    refine ⟨⟨p1, p2⟩, fun j j0 j1 hb => ?_⟩
    obtain ⟨b1, b2, b3, b4, b5⟩ := hb
    obtain ⟨w', k2', e3, e4, e5, -, -⟩ := PrM_2 h j0 j1 b1 b2
    have hs := sOK_k (hS j j0 j1 w')
    have sp := qNew_sp F 2 (fN F i 3) (fN F i 5) 2147483647 128
    have hc : qC F 2 (fN F i 3) (fN F i 5) 2147483647 j := ⟨(rT_W (Or.inr rfl)).mpr ⟨w', k2', by omega⟩, by omega, Or.inl ⟨k2', by omega⟩⟩
    rcases sp with ⟨z, -⟩ | ⟨z0, z1, z2⟩
    · omega
    · rw [hq] at z2
      have := z2 j j0 (by omega) hc
      omega
theorem asgR_TD {F : Fl} {r : Int} (r0 : 0 ≤ r) (h : asgR F r) : TD F (fN F r 3) (fN F r 5) = fN F r 11 := by
  unfold TD
  have e : qNew F 2 (fN F r 3) (fN F r 5) 2147483647 128 = r := h.2.2
  rw [e, if_neg (by omega)]
theorem asgR_rW {F : Fl} {r : Int} (h : asgR F r) : rW F r ∧ fN F r 0 = 2 := by
  have := (rT_W (Or.inr rfl)).mp h.1
  exact ⟨this.1, this.2.1⟩
/-- an edge of a row -/
theorem thD_row {F : Fl} {r : Int} (hS : NS F) (r0 : 0 ≤ r) (r1 : r < 128) (h : asgR F r) (h11 : fN F r 11 = 1) (hd : thD (TG F) (TD F) (fN F r 3)) : thD (TG F) (TD F) (fN F r 10) := by
  have hw := asgR_rW h
  have hs := hS r r0 r1 hw.1
  have e := asgR_TG r0 h
  rw [← e]
  refine thD_s hd ?_ (by rw [e]; exact h.2.1) (by rw [asgR_TD r0 h]; exact h11)
  rcases hs with q | q
  · omega
  · exact ⟨q.2.2.2.2.1.1, q.2.2.2.2.1.2⟩
/-- rows that are closed hold all that is there -/
theorem thD_all {F : Fl} {P : Int → Prop} (hS : NS F) (h1 : P 1) (h : ∀ r, 0 ≤ r → r < 128 → asgR F r → fN F r 11 = 1 → P (fN F r 3) → P (fN F r 10)) {n : Int} (hn : thD (TG F) (TD F) n) : P n := by
  refine hn P h1 (fun d nm hd hm h0 hD => ?_)
  obtain ⟨a1, a2, a3, a4, a5⟩ := TG_asgR h0
  rw [← a5]
  refine h _ a1.1 a1.2 a2 ?_ (by rw [a3]; exact hd)
  rw [← asgR_TD a1.1 a2, a3, a4]; exact hD
theorem thD_b {F : Fl} (hS : NS F) {n : Int} (hn : thD (TG F) (TD F) n) : 1 ≤ n ∧ n ≤ 2000 := by
  refine thD_all (P := fun n => 1 ≤ n ∧ n ≤ 2000) hS (by omega) (fun r r0 r1 h _ _ => ?_) hn
  have hs := sOK_k (hS r r0 r1 (asgR_rW h).1)
  have h1 : fN F r 10 ≠ 0 := h.2.1
  omega
theorem sp_X7_layThere {μ : nMem} {ε : nEnv} {Q : nOut → nMem → nEnv → Prop} {F : Fl} (hs : SkP skM ε) (hb : mB μ) (hP : PrM F μ) (hS : NS F) (h : ∀ m, mB m → (∀ x i, x ≠ 42 → x ≠ 51 → m x i = μ x i) → (∀ i, 0 ≤ i → i < 128 → (m 51 i ≠ 0 ↔ asgR F i)) → (∀ n, 0 ≤ n → n < 2048 → (m 42 n ≠ 0 ↔ thD (TG F) (TD F) n)) → Q (.inl none) m ε) : Sp mX7_layThere [vR 21] μ ε Q := by
  refine Sp_of (L := [(0, vR 21)]) (by decide) rfl rfl (Nat.le_of_ble_eq_true rfl) ?_
  refine wq_iconst (pc := 0) dX7_layThere_0 ?_
  refine wq_istore_n (pc := 1) (L' := [(1, _), (0, _)]) dX7_layThere_1 rfl rfl (by decide) ?_
  have loop1 : ∀ (n k : Nat), ∀ (m : nMem) (j : Int), k ≤ 2048 → 2048 < k + n → j = (k : Int) → mB m → (∀ x i, x ≠ 42 → m x i = μ x i) → (∀ i : Int, 0 ≤ i → i < (k : Int) → (m 42 i ≠ 0 ↔ i = 1)) → wp mX7_layThere 2 [(0, vR 21), (1, vI j)] [] m ε Q := by
    intro n
    induction n with
    | zero => intro k m j hk1 hk2 e0 e1 e2 e3; exact absurd hk2 (by omega)
    | succ n ih =>
      intro k m j hk1 hk2 e0 e1 e2 e3
      subst e0
      have rk : inR (k : Int) := by unfold inR; omega
      refine wq_iload_n (pc := 2) dX7_layThere_2 rfl rfl ?_
      refine wq_sipush (pc := 3) dX7_layThere_3 (by decide) (by decide) ?_
      refine wq_icmp_ge (pc := 6) (tgt := 31) dX7_layThere_6 (by decide) (by first | (unfold inR; omega) | assumption) (by first | (unfold inR; omega) | assumption) (fun c2 => ?_) (fun c2 => ?_)
      · skip
        refine wq_iconst (pc := 31) dX7_layThere_31 ?_
        refine wq_istore_n (pc := 32) (L' := [(1, _), (0, _)]) dX7_layThere_32 rfl rfl (by decide) ?_
        have loop3 : ∀ (n k : Nat), ∀ (m : nMem) (j : Int), k ≤ 128 → 128 < k + n → j = (k : Int) → mB m → (∀ x i, x ≠ 42 → x ≠ 51 → m x i = μ x i) → (∀ i : Int, 0 ≤ i → i < 2048 → (m 42 i ≠ 0 ↔ i = 1)) → (∀ i : Int, 0 ≤ i → i < (k : Int) → (m 51 i ≠ 0 ↔ asgR F i)) → wp mX7_layThere 33 [(0, vR 21), (1, vI j)] [] m ε Q := by
          intro n
          induction n with
          | zero => intro k m j hk1 hk2 e0 e1 e2 e3 e4; exact absurd hk2 (by omega)
          | succ n ih =>
            intro k m j hk1 hk2 e0 e1 e2 e3 e4
            subst e0
            have rk : inR (k : Int) := by unfold inR; omega
            have hPm := PrM_cg hP (fun x j hx => e2 x j (by omega) (by omega))
            have g30 := b30 e1 (k : Int)
            have r30 : inR (m 30 (k : Int)) := by unfold inR; omega
            refine wq_iload_n (pc := 33) dX7_layThere_33 rfl rfl ?_
            refine wq_sipush (pc := 34) dX7_layThere_34 (by decide) (by decide) ?_
            refine wq_icmp_ge (pc := 37) (tgt := 74) dX7_layThere_37 (by decide) (by first | (unfold inR; omega) | assumption) (by first | (unfold inR; omega) | assumption) (fun c4 => ?_) (fun c4 => ?_)
            · skip
              refine wq_iconst (pc := 74) dX7_layThere_74 ?_
              refine wq_istore_n (pc := 75) (L' := [(1, _), (0, _)]) dX7_layThere_75 rfl rfl (by decide) ?_
              have lpo5 : ∀ (n k : Nat), ∀ (m : nMem) (w : Int), k ≤ 2049 → 2049 < k + n → w = 0 ∨ w = 1 → mB m → (∀ x i, x ≠ 42 → x ≠ 51 → m x i = μ x i) → (∀ i : Int, 0 ≤ i → i < 128 → (m 51 i ≠ 0 ↔ asgR F i)) → m 42 1 ≠ 0 → (∀ i : Int, 0 ≤ i → i < 2048 → m 42 i ≠ 0 → thD (TG F) (TD F) i) → (w ≠ 0 → (k : Int) ≤ cR (fun r => m 42 r ≠ 0) 2048) → (w = 0 → ∀ i : Int, 0 ≤ i → i < 128 → (m 51 i ≠ 0 → m 31 i ≠ 0 → m 42 (m 23 i) ≠ 0 → m 42 (m 30 i) ≠ 0)) → wp mX7_layThere 76 [(0, vR 21), (1, vI w)] [] m ε Q := by
                intro n
                induction n with
                | zero => intro k m w hk1 hk2 e0 e1 e2 e3 e4 e5 e6 e7; exact absurd hk2 (by omega)
                | succ n ih =>
                  intro k m w hk1 hk2 e0 e1 e2 e3 e4 e5 e6 e7
                  have hcn : w ≠ 0 → (k : Int) ≤ cR (fun r => m 42 r ≠ 0) 2048 := e6
                  have rw1 : inR w := by unfold inR; omega
                  have hcb := cR_b (fun r => m 42 r ≠ 0) 2048
                  let K := k
                  have hK : K = k := rfl
                  have ihO := ih
                  refine wq_iload_n (pc := 76) dX7_layThere_76 rfl rfl ?_
                  refine wq_if_eq (pc := 77) (tgt := 160) dX7_layThere_77 (by decide) (by first | (unfold inR; omega) | assumption) (fun c6 => ?_) (fun c6 => ?_)
                  · skip
                    refine wq_vret (pc := 160) dX7_layThere_160 rfl ?_
                    refine h m e1 e2 e3 (fun n n0 n1 => ⟨e5 n n0 n1, fun hn => ?_⟩)
                    refine (thD_all (P := fun n => 1 ≤ n ∧ n ≤ 2000 ∧ m 42 n ≠ 0) hS ⟨by omega, by omega, e4⟩ (fun r r0 r1 ha h11 hz => ?_) hn).2.2
                    have hPm := PrM_cg hP (fun x j hx => e2 x j (by omega) (by omega))
                    obtain ⟨w9, k9⟩ := asgR_rW ha
                    obtain ⟨-, -, p23, -, -, p30, p31⟩ := PrM_2' hPm r0 r1 w9 k9
                    have hs9 := sOK_k (hS r r0 r1 w9)
                    have h10 : fN F r 10 ≠ 0 := ha.2.1
                    have := e7 (by assumption) r r0 r1 ((e3 r r0 r1).mpr ha) (by omega) (by rw [p23]; exact hz.2.2)
                    rw [p30] at this
                    exact ⟨by omega, by omega, this⟩
                  · skip
                    refine wq_iconst (pc := 80) dX7_layThere_80 ?_
                    refine wq_istore_n (pc := 81) (L' := [(1, _), (0, _)]) dX7_layThere_81 rfl rfl (by decide) ?_
                    refine wq_iconst (pc := 82) dX7_layThere_82 ?_
                    refine wq_istore_n (pc := 83) (L' := [(2, _), (1, _), (0, _)]) dX7_layThere_83 rfl rfl (by decide) ?_
                    have lpi7 : ∀ (n k : Nat), ∀ (m : nMem) (w : Int) (j : Int), k ≤ 128 → 128 < k + n → j = (k : Int) → w = 0 ∨ w = 1 → mB m → (∀ x i, x ≠ 42 → x ≠ 51 → m x i = μ x i) → (∀ i : Int, 0 ≤ i → i < 128 → (m 51 i ≠ 0 ↔ asgR F i)) → m 42 1 ≠ 0 → (∀ i : Int, 0 ≤ i → i < 2048 → m 42 i ≠ 0 → thD (TG F) (TD F) i) → (K : Int) ≤ cR (fun r => m 42 r ≠ 0) 2048 → (w ≠ 0 → (K : Int) + 1 ≤ cR (fun r => m 42 r ≠ 0) 2048) → (w = 0 → ∀ i : Int, 0 ≤ i → i < (k : Int) → (m 51 i ≠ 0 → m 31 i ≠ 0 → m 42 (m 23 i) ≠ 0 → m 42 (m 30 i) ≠ 0)) → wp mX7_layThere 84 [(0, vR 21), (1, vI w), (2, vI j)] [] m ε Q := by
                      intro n
                      induction n with
                      | zero => intro k m w j hk1 hk2 e0 e1 e2 e3 e4 e5 e6 e7 e8 e9; exact absurd hk2 (by omega)
                      | succ n ih =>
                        intro k m w j hk1 hk2 e0 e1 e2 e3 e4 e5 e6 e7 e8 e9
                        subst e0
                        have rk : inR (k : Int) := by unfold inR; omega
                        have rw1 : inR w := by unfold inR; omega
                        have g30 := b30 e2 (k : Int)
                        have g23 := b23 e2 (k : Int)
                        have g31 := b31 e2 (k : Int)
                        have g51 := b51 e2 (k : Int)
                        have g42 := b42 e2 (m 23 (k : Int))
                        have g42b := b42 e2 (m 30 (k : Int))
                        have r51 : inR (m 51 (k : Int)) := by unfold inR; omega
                        have r31 : inR (m 31 (k : Int)) := by unfold inR; omega
                        have r42 : inR (m 42 (m 23 (k : Int))) := by unfold inR; omega
                        have r42b : inR (m 42 (m 30 (k : Int))) := by unfold inR; omega
                        refine wq_iload_n (pc := 84) dX7_layThere_84 rfl rfl ?_
                        refine wq_sipush (pc := 85) dX7_layThere_85 (by decide) (by decide) ?_
                        refine wq_icmp_ge (pc := 88) (tgt := 157) dX7_layThere_88 (by decide) (by first | (unfold inR; omega) | assumption) (by first | (unfold inR; omega) | assumption) (fun c8 => ?_) (fun c8 => ?_)
                        · skip
                          refine wq_goto (pc := 157) (tgt := 76) dX7_layThere_157 (by decide) ?_
                          refine wq_sub1 (L' := [(0, _), (1, _)]) ⟨rfl, rfl, trivial⟩ ?_
                          have hcb9 := (cR_b (fun r => m 42 r ≠ 0) 2048).2
                          exact ihO (K + 1) _ _ (by omega) (by omega) e1 e2 e3 e4 e5 e6 (fun z => by have := e8 z; omega) (fun z i i0 i1 => e9 z i i0 (by omega))
                        · skip
                          refine wq_aload_n (pc := 91) dX7_layThere_91 rfl rfl ?_
                          refine wq_getS (pc := 92) dX7_layThere_92 hs (gf_X7_99 _ rfl) rfl rfl rfl rfl rfl ?_
                          refine wq_iload_n (pc := 95) dX7_layThere_95 rfl rfl ?_
                          refine wq_zaldK (pc := 96) dX7_layThere_96 hs rfl (by omega) (by omega) ?_
                          refine wq_if_eq (pc := 97) (tgt := 151) dX7_layThere_97 (by decide) (by first | (unfold inR; omega) | assumption) (fun c9 => ?_) (fun c9 => ?_)
                          · skip
                            refine wq_iinc (pc := 151) (L' := [(2, _), (0, _), (1, _)]) dX7_layThere_151 rfl rfl (by decide) ?_
                            refine wq_goto (pc := 154) (tgt := 84) dX7_layThere_154 (by decide) ?_
                            refine wq_sub1 (L' := [(0, _), (1, _), (2, _)]) ⟨rfl, rfl, rfl, trivial⟩ ?_
                            first
                              | exact ih (k + 1) _ _ _ (by omega) (by omega) (by omega) e1 e2 e3 e4 e5 e6 e7 e8 (fun z i i0 i1 h1 h2 h3 => by
                                  by_cases c9 : i = (k : Int)
                                  · subst c9; omega
                                  · exact e9 z i i0 (by omega) h1 h2 h3)
                              | (have hPm := PrM_cg hP (fun x j hx => e3 x j (by omega) (by omega))
                                 have ha := (e4 k (by omega) (by omega)).mp (by assumption)
                                 obtain ⟨w9, k9⟩ := asgR_rW ha
                                 obtain ⟨-, -, p23, -, -, p30, p31⟩ := PrM_2' hPm (by omega) (by omega) w9 k9
                                 have hs9 := sOK_k (hS k (by omega) (by omega) w9)
                                 have hth : thD (TG F) (TD F) (m 30 (k : Int)) := by
                                   rw [p30]
                                   exact thD_row hS (by omega) (by omega) ha (by omega) (by rw [← p23]; exact e6 _ (by omega) (by omega) (by assumption))
                                 have hone := cR_one (p := fun r => m 42 r ≠ 0) (q := fun r => wr m 42 (m 30 (k : Int)) 1 42 r ≠ 0) (a := m 30 (k : Int)) 2048 (by omega) (by omega) (by omega) (fun r r0 r1 => by
                                   by_cases c9 : r = m 30 (k : Int)
                                   · rw [c9, wr_s]; exact ⟨fun _ => Or.inr rfl, fun _ => by decide⟩
                                   · rw [wr_n _ _ (by omega)]; exact ⟨Or.inl, fun z => z.resolve_right c9⟩)
                                 exact ih (k + 1) _ _ _ (by omega) (by omega) (by omega) (Or.inr rfl) (mB_wr e2 (by right; right; decide)) (fun x i hx hx2 => by rw [wr_n _ _ (by omega)]; exact e3 x i hx hx2) (fun i i0 i1 => by rw [wr_n _ _ (by omega)]; exact e4 i i0 i1) (by
                                   by_cases c9 : (1 : Int) = m 30 (k : Int)
                                   · rw [← c9, wr_s]; decide
                                   · rw [wr_n _ _ (by omega)]; exact e5) (fun i i0 i1 hz => by
                                   by_cases c9 : i = m 30 (k : Int)
                                   · rw [c9]; exact hth
                                   · rw [wr_n _ _ (by omega)] at hz; exact e6 i i0 i1 hz) (by rw [hone]; omega) (fun _ => by rw [hone]; omega) (fun z => absurd z (by decide)))
                          · skip
                            refine wq_aload_n (pc := 100) dX7_layThere_100 rfl rfl ?_
                            refine wq_getS (pc := 101) dX7_layThere_101 hs (gf_X7_38 _ rfl) rfl rfl rfl rfl rfl ?_
                            refine wq_iload_n (pc := 104) dX7_layThere_104 rfl rfl ?_
                            refine wq_zaldK (pc := 105) dX7_layThere_105 hs rfl (by omega) (by omega) ?_
                            refine wq_if_eq (pc := 106) (tgt := 151) dX7_layThere_106 (by decide) (by first | (unfold inR; omega) | assumption) (fun c10 => ?_) (fun c10 => ?_)
                            · skip
                              refine wq_iinc (pc := 151) (L' := [(2, _), (0, _), (1, _)]) dX7_layThere_151 rfl rfl (by decide) ?_
                              refine wq_goto (pc := 154) (tgt := 84) dX7_layThere_154 (by decide) ?_
                              refine wq_sub1 (L' := [(0, _), (1, _), (2, _)]) ⟨rfl, rfl, rfl, trivial⟩ ?_
                              first
                                | exact ih (k + 1) _ _ _ (by omega) (by omega) (by omega) e1 e2 e3 e4 e5 e6 e7 e8 (fun z i i0 i1 h1 h2 h3 => by
                                    by_cases c9 : i = (k : Int)
                                    · subst c9; omega
                                    · exact e9 z i i0 (by omega) h1 h2 h3)
                                | (have hPm := PrM_cg hP (fun x j hx => e3 x j (by omega) (by omega))
                                   have ha := (e4 k (by omega) (by omega)).mp (by assumption)
                                   obtain ⟨w9, k9⟩ := asgR_rW ha
                                   obtain ⟨-, -, p23, -, -, p30, p31⟩ := PrM_2' hPm (by omega) (by omega) w9 k9
                                   have hs9 := sOK_k (hS k (by omega) (by omega) w9)
                                   have hth : thD (TG F) (TD F) (m 30 (k : Int)) := by
                                     rw [p30]
                                     exact thD_row hS (by omega) (by omega) ha (by omega) (by rw [← p23]; exact e6 _ (by omega) (by omega) (by assumption))
                                   have hone := cR_one (p := fun r => m 42 r ≠ 0) (q := fun r => wr m 42 (m 30 (k : Int)) 1 42 r ≠ 0) (a := m 30 (k : Int)) 2048 (by omega) (by omega) (by omega) (fun r r0 r1 => by
                                     by_cases c9 : r = m 30 (k : Int)
                                     · rw [c9, wr_s]; exact ⟨fun _ => Or.inr rfl, fun _ => by decide⟩
                                     · rw [wr_n _ _ (by omega)]; exact ⟨Or.inl, fun z => z.resolve_right c9⟩)
                                   exact ih (k + 1) _ _ _ (by omega) (by omega) (by omega) (Or.inr rfl) (mB_wr e2 (by right; right; decide)) (fun x i hx hx2 => by rw [wr_n _ _ (by omega)]; exact e3 x i hx hx2) (fun i i0 i1 => by rw [wr_n _ _ (by omega)]; exact e4 i i0 i1) (by
                                     by_cases c9 : (1 : Int) = m 30 (k : Int)
                                     · rw [← c9, wr_s]; decide
                                     · rw [wr_n _ _ (by omega)]; exact e5) (fun i i0 i1 hz => by
                                     by_cases c9 : i = m 30 (k : Int)
                                     · rw [c9]; exact hth
                                     · rw [wr_n _ _ (by omega)] at hz; exact e6 i i0 i1 hz) (by rw [hone]; omega) (fun _ => by rw [hone]; omega) (fun z => absurd z (by decide)))
                            · skip
                              refine wq_aload_n (pc := 109) dX7_layThere_109 rfl rfl ?_
                              refine wq_getS (pc := 110) dX7_layThere_110 hs (gf_X7_72 _ rfl) rfl rfl rfl rfl rfl ?_
                              refine wq_aload_n (pc := 113) dX7_layThere_113 rfl rfl ?_
                              refine wq_getS (pc := 114) dX7_layThere_114 hs (gf_X7_13 _ rfl) rfl rfl rfl rfl rfl ?_
                              refine wq_iload_n (pc := 117) dX7_layThere_117 rfl rfl ?_
                              refine wq_ialdK (pc := 118) dX7_layThere_118 hs rfl (by omega) (by omega) ?_
                              refine wq_zaldK (pc := 119) dX7_layThere_119 hs rfl (by omega) (by omega) ?_
                              refine wq_if_eq (pc := 120) (tgt := 151) dX7_layThere_120 (by decide) (by first | (unfold inR; omega) | assumption) (fun c11 => ?_) (fun c11 => ?_)
                              · skip
                                refine wq_iinc (pc := 151) (L' := [(2, _), (0, _), (1, _)]) dX7_layThere_151 rfl rfl (by decide) ?_
                                refine wq_goto (pc := 154) (tgt := 84) dX7_layThere_154 (by decide) ?_
                                refine wq_sub1 (L' := [(0, _), (1, _), (2, _)]) ⟨rfl, rfl, rfl, trivial⟩ ?_
                                first
                                  | exact ih (k + 1) _ _ _ (by omega) (by omega) (by omega) e1 e2 e3 e4 e5 e6 e7 e8 (fun z i i0 i1 h1 h2 h3 => by
                                      by_cases c9 : i = (k : Int)
                                      · subst c9; omega
                                      · exact e9 z i i0 (by omega) h1 h2 h3)
                                  | (have hPm := PrM_cg hP (fun x j hx => e3 x j (by omega) (by omega))
                                     have ha := (e4 k (by omega) (by omega)).mp (by assumption)
                                     obtain ⟨w9, k9⟩ := asgR_rW ha
                                     obtain ⟨-, -, p23, -, -, p30, p31⟩ := PrM_2' hPm (by omega) (by omega) w9 k9
                                     have hs9 := sOK_k (hS k (by omega) (by omega) w9)
                                     have hth : thD (TG F) (TD F) (m 30 (k : Int)) := by
                                       rw [p30]
                                       exact thD_row hS (by omega) (by omega) ha (by omega) (by rw [← p23]; exact e6 _ (by omega) (by omega) (by assumption))
                                     have hone := cR_one (p := fun r => m 42 r ≠ 0) (q := fun r => wr m 42 (m 30 (k : Int)) 1 42 r ≠ 0) (a := m 30 (k : Int)) 2048 (by omega) (by omega) (by omega) (fun r r0 r1 => by
                                       by_cases c9 : r = m 30 (k : Int)
                                       · rw [c9, wr_s]; exact ⟨fun _ => Or.inr rfl, fun _ => by decide⟩
                                       · rw [wr_n _ _ (by omega)]; exact ⟨Or.inl, fun z => z.resolve_right c9⟩)
                                     exact ih (k + 1) _ _ _ (by omega) (by omega) (by omega) (Or.inr rfl) (mB_wr e2 (by right; right; decide)) (fun x i hx hx2 => by rw [wr_n _ _ (by omega)]; exact e3 x i hx hx2) (fun i i0 i1 => by rw [wr_n _ _ (by omega)]; exact e4 i i0 i1) (by
                                       by_cases c9 : (1 : Int) = m 30 (k : Int)
                                       · rw [← c9, wr_s]; decide
                                       · rw [wr_n _ _ (by omega)]; exact e5) (fun i i0 i1 hz => by
                                       by_cases c9 : i = m 30 (k : Int)
                                       · rw [c9]; exact hth
                                       · rw [wr_n _ _ (by omega)] at hz; exact e6 i i0 i1 hz) (by rw [hone]; omega) (fun _ => by rw [hone]; omega) (fun z => absurd z (by decide)))
                              · skip
                                refine wq_aload_n (pc := 123) dX7_layThere_123 rfl rfl ?_
                                refine wq_getS (pc := 124) dX7_layThere_124 hs (gf_X7_72 _ rfl) rfl rfl rfl rfl rfl ?_
                                refine wq_aload_n (pc := 127) dX7_layThere_127 rfl rfl ?_
                                refine wq_getS (pc := 128) dX7_layThere_128 hs (gf_X7_35 _ rfl) rfl rfl rfl rfl rfl ?_
                                refine wq_iload_n (pc := 131) dX7_layThere_131 rfl rfl ?_
                                refine wq_ialdK (pc := 132) dX7_layThere_132 hs rfl (by omega) (by omega) ?_
                                refine wq_zaldK (pc := 133) dX7_layThere_133 hs rfl (by omega) (by omega) ?_
                                refine wq_if_ne (pc := 134) (tgt := 151) dX7_layThere_134 (by decide) (by first | (unfold inR; omega) | assumption) (fun c12 => ?_) (fun c12 => ?_)
                                · skip
                                  refine wq_iinc (pc := 151) (L' := [(2, _), (0, _), (1, _)]) dX7_layThere_151 rfl rfl (by decide) ?_
                                  refine wq_goto (pc := 154) (tgt := 84) dX7_layThere_154 (by decide) ?_
                                  refine wq_sub1 (L' := [(0, _), (1, _), (2, _)]) ⟨rfl, rfl, rfl, trivial⟩ ?_
                                  first
                                    | exact ih (k + 1) _ _ _ (by omega) (by omega) (by omega) e1 e2 e3 e4 e5 e6 e7 e8 (fun z i i0 i1 h1 h2 h3 => by
                                        by_cases c9 : i = (k : Int)
                                        · subst c9; omega
                                        · exact e9 z i i0 (by omega) h1 h2 h3)
                                    | (have hPm := PrM_cg hP (fun x j hx => e3 x j (by omega) (by omega))
                                       have ha := (e4 k (by omega) (by omega)).mp (by assumption)
                                       obtain ⟨w9, k9⟩ := asgR_rW ha
                                       obtain ⟨-, -, p23, -, -, p30, p31⟩ := PrM_2' hPm (by omega) (by omega) w9 k9
                                       have hs9 := sOK_k (hS k (by omega) (by omega) w9)
                                       have hth : thD (TG F) (TD F) (m 30 (k : Int)) := by
                                         rw [p30]
                                         exact thD_row hS (by omega) (by omega) ha (by omega) (by rw [← p23]; exact e6 _ (by omega) (by omega) (by assumption))
                                       have hone := cR_one (p := fun r => m 42 r ≠ 0) (q := fun r => wr m 42 (m 30 (k : Int)) 1 42 r ≠ 0) (a := m 30 (k : Int)) 2048 (by omega) (by omega) (by omega) (fun r r0 r1 => by
                                         by_cases c9 : r = m 30 (k : Int)
                                         · rw [c9, wr_s]; exact ⟨fun _ => Or.inr rfl, fun _ => by decide⟩
                                         · rw [wr_n _ _ (by omega)]; exact ⟨Or.inl, fun z => z.resolve_right c9⟩)
                                       exact ih (k + 1) _ _ _ (by omega) (by omega) (by omega) (Or.inr rfl) (mB_wr e2 (by right; right; decide)) (fun x i hx hx2 => by rw [wr_n _ _ (by omega)]; exact e3 x i hx hx2) (fun i i0 i1 => by rw [wr_n _ _ (by omega)]; exact e4 i i0 i1) (by
                                         by_cases c9 : (1 : Int) = m 30 (k : Int)
                                         · rw [← c9, wr_s]; decide
                                         · rw [wr_n _ _ (by omega)]; exact e5) (fun i i0 i1 hz => by
                                         by_cases c9 : i = m 30 (k : Int)
                                         · rw [c9]; exact hth
                                         · rw [wr_n _ _ (by omega)] at hz; exact e6 i i0 i1 hz) (by rw [hone]; omega) (fun _ => by rw [hone]; omega) (fun z => absurd z (by decide)))
                                · skip
                                  refine wq_aload_n (pc := 137) dX7_layThere_137 rfl rfl ?_
                                  refine wq_getS (pc := 138) dX7_layThere_138 hs (gf_X7_72 _ rfl) rfl rfl rfl rfl rfl ?_
                                  refine wq_aload_n (pc := 141) dX7_layThere_141 rfl rfl ?_
                                  refine wq_getS (pc := 142) dX7_layThere_142 hs (gf_X7_35 _ rfl) rfl rfl rfl rfl rfl ?_
                                  refine wq_iload_n (pc := 145) dX7_layThere_145 rfl rfl ?_
                                  refine wq_ialdK (pc := 146) dX7_layThere_146 hs rfl (by omega) (by omega) ?_
                                  refine wq_iconst (pc := 147) dX7_layThere_147 ?_
                                  refine wq_zastK (pc := 148) dX7_layThere_148 hs rfl (by omega) (by omega) (by first | omega | (simp; done) | assumption) ?_
                                  refine wq_iconst (pc := 149) dX7_layThere_149 ?_
                                  refine wq_istore_n (pc := 150) (L' := [(1, _), (0, _), (2, _)]) dX7_layThere_150 rfl rfl (by decide) ?_
                                  refine wq_iinc (pc := 151) (L' := [(2, _), (1, _), (0, _)]) dX7_layThere_151 rfl rfl (by decide) ?_
                                  refine wq_goto (pc := 154) (tgt := 84) dX7_layThere_154 (by decide) ?_
                                  refine wq_sub1 (L' := [(0, _), (1, _), (2, _)]) ⟨rfl, rfl, rfl, trivial⟩ ?_
                                  first
                                    | exact ih (k + 1) _ _ _ (by omega) (by omega) (by omega) e1 e2 e3 e4 e5 e6 e7 e8 (fun z i i0 i1 h1 h2 h3 => by
                                        by_cases c9 : i = (k : Int)
                                        · subst c9; omega
                                        · exact e9 z i i0 (by omega) h1 h2 h3)
                                    | (have hPm := PrM_cg hP (fun x j hx => e3 x j (by omega) (by omega))
                                       have ha := (e4 k (by omega) (by omega)).mp (by assumption)
                                       obtain ⟨w9, k9⟩ := asgR_rW ha
                                       obtain ⟨-, -, p23, -, -, p30, p31⟩ := PrM_2' hPm (by omega) (by omega) w9 k9
                                       have hs9 := sOK_k (hS k (by omega) (by omega) w9)
                                       have hth : thD (TG F) (TD F) (m 30 (k : Int)) := by
                                         rw [p30]
                                         exact thD_row hS (by omega) (by omega) ha (by omega) (by rw [← p23]; exact e6 _ (by omega) (by omega) (by assumption))
                                       have hone := cR_one (p := fun r => m 42 r ≠ 0) (q := fun r => wr m 42 (m 30 (k : Int)) 1 42 r ≠ 0) (a := m 30 (k : Int)) 2048 (by omega) (by omega) (by omega) (fun r r0 r1 => by
                                         by_cases c9 : r = m 30 (k : Int)
                                         · rw [c9, wr_s]; exact ⟨fun _ => Or.inr rfl, fun _ => by decide⟩
                                         · rw [wr_n _ _ (by omega)]; exact ⟨Or.inl, fun z => z.resolve_right c9⟩)
                                       exact ih (k + 1) _ _ _ (by omega) (by omega) (by omega) (Or.inr rfl) (mB_wr e2 (by right; right; decide)) (fun x i hx hx2 => by rw [wr_n _ _ (by omega)]; exact e3 x i hx hx2) (fun i i0 i1 => by rw [wr_n _ _ (by omega)]; exact e4 i i0 i1) (by
                                         by_cases c9 : (1 : Int) = m 30 (k : Int)
                                         · rw [← c9, wr_s]; decide
                                         · rw [wr_n _ _ (by omega)]; exact e5) (fun i i0 i1 hz => by
                                         by_cases c9 : i = m 30 (k : Int)
                                         · rw [c9]; exact hth
                                         · rw [wr_n _ _ (by omega)] at hz; exact e6 i i0 i1 hz) (by rw [hone]; omega) (fun _ => by rw [hone]; omega) (fun z => absurd z (by decide)))
                    refine wq_sub1 (L' := [(0, _), (1, _), (2, _)]) ⟨rfl, rfl, rfl, trivial⟩ ?_
                    exact lpi7 129 0 _ _ _ (by omega) (by omega) (by omega) (Or.inl rfl) e1 e2 e3 e4 e5 (hcn (by assumption)) (fun z => absurd rfl z) (fun _ i i0 i1 => by omega)
              refine wq_sub1 (L' := [(0, _), (1, _)]) ⟨rfl, rfl, trivial⟩ ?_
              exact lpo5 2050 0 _ _ (by omega) (by omega) (Or.inr rfl) e1 e2 (fun i i0 i1 => e4 i i0 (by omega)) ((e3 1 (by omega) (by omega)).mpr rfl) (fun i i0 i1 z => by rw [(e3 i i0 i1).mp z]; exact thD_1 _ _) (fun _ => (cR_b _ _).1) (fun z => absurd z (by decide))
            · skip
              refine wq_aload_n (pc := 40) dX7_layThere_40 rfl rfl ?_
              refine wq_getS (pc := 41) dX7_layThere_41 hs (gf_X7_99 _ rfl) rfl rfl rfl rfl rfl ?_
              refine wq_iload_n (pc := 44) dX7_layThere_44 rfl rfl ?_
              refine wq_aload_n (pc := 45) dX7_layThere_45 rfl rfl ?_
              refine wq_iload_n (pc := 46) dX7_layThere_46 rfl rfl ?_
              refine cVK_1 (pc := 47) dX7_layThere_47 hs (cw_X7_130 _ rfl) (by decide) rfl ⟨by decide, by decide⟩ (Nat.le_of_ble_eq_true rfl) (sp_X7_counts hs (mR_of e1) (by omega) (by omega) (fun hw => ?_) (fun hw => ?_))
              · skip
                refine kr_s ?_
                refine wq_if_eq (pc := 50) (tgt := 66) dX7_layThere_50 (by decide) (by first | (unfold inR; omega) | assumption) (fun c => absurd c (by decide)) (fun _ => ?_)
                refine wq_aload_n (pc := 53) dX7_layThere_53 rfl rfl ?_
                refine wq_getS (pc := 54) dX7_layThere_54 hs (gf_X7_35 _ rfl) rfl rfl rfl rfl rfl ?_
                refine wq_iload_n (pc := 57) dX7_layThere_57 rfl rfl ?_
                refine wq_ialdK (pc := 58) dX7_layThere_58 hs rfl (by omega) (by omega) ?_
                refine wq_if_le (pc := 59) (tgt := 66) dX7_layThere_59 (by decide) (by first | (unfold inR; omega) | assumption) (fun c16 => ?_) (fun c16 => ?_)
                · skip
                  refine wq_iconst (pc := 66) dX7_layThere_66 ?_
                  refine wq_zastK (pc := 67) dX7_layThere_67 hs rfl (by omega) (by omega) (by first | omega | (simp; done) | assumption) ?_
                  refine wq_iinc (pc := 68) (L' := [(1, _), (0, _)]) dX7_layThere_68 rfl rfl (by decide) ?_
                  refine wq_goto (pc := 71) (tgt := 33) dX7_layThere_71 (by decide) ?_
                  refine wq_sub1 (L' := [(0, _), (1, _)]) ⟨rfl, rfl, trivial⟩ ?_
                  refine ih (k + 1) _ _ (by omega) (by omega) (by omega) (mB_wr e1 (by first | (right; right; decide) | omega)) (fun x i hx hx2 => by rw [wr_n _ _ (by omega)]; exact e2 x i hx hx2) (fun i i0 i1 => by rw [wr_n _ _ (by omega)]; exact e3 i i0 i1) (fun i i0 i1 => ?_)
                  by_cases c9 : i = (k : Int)
                  · subst c9
                    rw [wr_s]
                    first
                      | exact ⟨fun z => absurd rfl z, fun z => absurd ((mCnt_iff hPm hS (by omega) (by omega)).mpr ⟨z.1, z.2.2⟩) (by assumption)⟩
                      | (obtain ⟨q1, q2⟩ := (mCnt_iff hPm hS (by omega) (by omega)).mp (by assumption)
                         obtain ⟨w9, k9, -⟩ := (rT_W (Or.inr rfl)).mp q1
                         obtain ⟨-, -, -, -, -, p30, -⟩ := PrM_2' hPm (by omega) (by omega) w9 k9
                         first
                           | exact ⟨fun _ => ⟨q1, by omega, q2⟩, fun _ => by decide⟩
                           | exact ⟨fun z => absurd rfl z, fun z => absurd z.2.1 (by omega)⟩)
                  · rw [wr_n _ _ (by omega)]; exact e4 i i0 (by omega)
                · skip
                  refine wq_iconst (pc := 62) dX7_layThere_62 ?_
                  refine wq_goto (pc := 63) (tgt := 67) dX7_layThere_63 (by decide) ?_
                  refine wq_zastK (pc := 67) dX7_layThere_67 hs rfl (by omega) (by omega) (by first | omega | (simp; done) | assumption) ?_
                  refine wq_iinc (pc := 68) (L' := [(1, _), (0, _)]) dX7_layThere_68 rfl rfl (by decide) ?_
                  refine wq_goto (pc := 71) (tgt := 33) dX7_layThere_71 (by decide) ?_
                  refine wq_sub1 (L' := [(0, _), (1, _)]) ⟨rfl, rfl, trivial⟩ ?_
                  refine ih (k + 1) _ _ (by omega) (by omega) (by omega) (mB_wr e1 (by first | (right; right; decide) | omega)) (fun x i hx hx2 => by rw [wr_n _ _ (by omega)]; exact e2 x i hx hx2) (fun i i0 i1 => by rw [wr_n _ _ (by omega)]; exact e3 i i0 i1) (fun i i0 i1 => ?_)
                  by_cases c9 : i = (k : Int)
                  · subst c9
                    rw [wr_s]
                    first
                      | exact ⟨fun z => absurd rfl z, fun z => absurd ((mCnt_iff hPm hS (by omega) (by omega)).mpr ⟨z.1, z.2.2⟩) (by assumption)⟩
                      | (obtain ⟨q1, q2⟩ := (mCnt_iff hPm hS (by omega) (by omega)).mp (by assumption)
                         obtain ⟨w9, k9, -⟩ := (rT_W (Or.inr rfl)).mp q1
                         obtain ⟨-, -, -, -, -, p30, -⟩ := PrM_2' hPm (by omega) (by omega) w9 k9
                         first
                           | exact ⟨fun _ => ⟨q1, by omega, q2⟩, fun _ => by decide⟩
                           | exact ⟨fun z => absurd rfl z, fun z => absurd z.2.1 (by omega)⟩)
                  · rw [wr_n _ _ (by omega)]; exact e4 i i0 (by omega)
              · skip
                refine kr_s ?_
                refine wq_if_eq (pc := 50) (tgt := 66) dX7_layThere_50 (by decide) (by first | (unfold inR; omega) | assumption) (fun _ => ?_) (fun c => absurd c (by decide))
                refine wq_iconst (pc := 66) dX7_layThere_66 ?_
                refine wq_zastK (pc := 67) dX7_layThere_67 hs rfl (by omega) (by omega) (by first | omega | (simp; done) | assumption) ?_
                refine wq_iinc (pc := 68) (L' := [(1, _), (0, _)]) dX7_layThere_68 rfl rfl (by decide) ?_
                refine wq_goto (pc := 71) (tgt := 33) dX7_layThere_71 (by decide) ?_
                refine wq_sub1 (L' := [(0, _), (1, _)]) ⟨rfl, rfl, trivial⟩ ?_
                refine ih (k + 1) _ _ (by omega) (by omega) (by omega) (mB_wr e1 (by first | (right; right; decide) | omega)) (fun x i hx hx2 => by rw [wr_n _ _ (by omega)]; exact e2 x i hx hx2) (fun i i0 i1 => by rw [wr_n _ _ (by omega)]; exact e3 i i0 i1) (fun i i0 i1 => ?_)
                by_cases c9 : i = (k : Int)
                · subst c9
                  rw [wr_s]
                  first
                    | exact ⟨fun z => absurd rfl z, fun z => absurd ((mCnt_iff hPm hS (by omega) (by omega)).mpr ⟨z.1, z.2.2⟩) (by assumption)⟩
                    | (obtain ⟨q1, q2⟩ := (mCnt_iff hPm hS (by omega) (by omega)).mp (by assumption)
                       obtain ⟨w9, k9, -⟩ := (rT_W (Or.inr rfl)).mp q1
                       obtain ⟨-, -, -, -, -, p30, -⟩ := PrM_2' hPm (by omega) (by omega) w9 k9
                       first
                         | exact ⟨fun _ => ⟨q1, by omega, q2⟩, fun _ => by decide⟩
                         | exact ⟨fun z => absurd rfl z, fun z => absurd z.2.1 (by omega)⟩)
                · rw [wr_n _ _ (by omega)]; exact e4 i i0 (by omega)
        refine wq_sub1 (L' := [(0, _), (1, _)]) ⟨rfl, rfl, trivial⟩ ?_
        exact loop3 129 0 _ _ (by omega) (by omega) (by omega) e1 (fun x i hx _ => e2 x i hx) (fun i i0 i1 => e3 i i0 (by omega)) (fun i i0 i1 => by omega)
      · skip
        refine wq_aload_n (pc := 9) dX7_layThere_9 rfl rfl ?_
        refine wq_getS (pc := 10) dX7_layThere_10 hs (gf_X7_72 _ rfl) rfl rfl rfl rfl rfl ?_
        refine wq_iload_n (pc := 13) dX7_layThere_13 rfl rfl ?_
        refine wq_iload_n (pc := 14) dX7_layThere_14 rfl rfl ?_
        refine wq_iconst (pc := 15) dX7_layThere_15 ?_
        refine wq_icmp_ne (pc := 16) (tgt := 23) dX7_layThere_16 (by decide) (by first | (unfold inR; omega) | assumption) (by first | (unfold inR; omega) | assumption) (fun c18 => ?_) (fun c18 => ?_)
        · skip
          refine wq_iconst (pc := 23) dX7_layThere_23 ?_
          refine wq_zastK (pc := 24) dX7_layThere_24 hs rfl (by omega) (by omega) (by first | omega | (simp; done) | assumption) ?_
          refine wq_iinc (pc := 25) (L' := [(1, _), (0, _)]) dX7_layThere_25 rfl rfl (by decide) ?_
          refine wq_goto (pc := 28) (tgt := 2) dX7_layThere_28 (by decide) ?_
          refine wq_sub1 (L' := [(0, _), (1, _)]) ⟨rfl, rfl, trivial⟩ ?_
          refine ih (k + 1) _ _ (by omega) (by omega) (by omega) (mB_wr e1 (by first | (right; right; decide) | omega)) (fun x i hx => by rw [wr_n _ _ (by omega)]; exact e2 x i hx) (fun i i0 i1 => ?_)
          by_cases c9 : i = (k : Int)
          · subst c9; rw [wr_s]; omega
          · rw [wr_n _ _ (by omega)]; exact e3 i i0 (by omega)
        · skip
          refine wq_iconst (pc := 19) dX7_layThere_19 ?_
          refine wq_goto (pc := 20) (tgt := 24) dX7_layThere_20 (by decide) ?_
          refine wq_zastK (pc := 24) dX7_layThere_24 hs rfl (by omega) (by omega) (by first | omega | (simp; done) | assumption) ?_
          refine wq_iinc (pc := 25) (L' := [(1, _), (0, _)]) dX7_layThere_25 rfl rfl (by decide) ?_
          refine wq_goto (pc := 28) (tgt := 2) dX7_layThere_28 (by decide) ?_
          refine wq_sub1 (L' := [(0, _), (1, _)]) ⟨rfl, rfl, trivial⟩ ?_
          refine ih (k + 1) _ _ (by omega) (by omega) (by omega) (mB_wr e1 (by first | (right; right; decide) | omega)) (fun x i hx => by rw [wr_n _ _ (by omega)]; exact e2 x i hx) (fun i i0 i1 => ?_)
          by_cases c9 : i = (k : Int)
          · subst c9; rw [wr_s]; omega
          · rw [wr_n _ _ (by omega)]; exact e3 i i0 (by omega)
  refine wq_sub1 (L' := [(0, _), (1, _)]) ⟨rfl, rfl, trivial⟩ ?_
  exact loop1 2049 0 _ _ (by omega) (by omega) (by omega) hb (fun _ _ _ => rfl) (fun i i0 i1 => by omega)
