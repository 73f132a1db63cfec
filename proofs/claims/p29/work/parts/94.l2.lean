/-! ### the law's own methods: rows written -/
def AD (μ μ9 : nMem) (d v t q : Int) : Prop := (∀ x j, x ≠ 22 → ¬ (x = 21 ∧ j = 0) → μ9 x j = μ x j) ∧ μ9 21 0 = μ 21 0 + 1 ∧ ∀ j, μ9 22 j = if j = 4 * μ 21 0 then d else if j = 4 * μ 21 0 + 1 then v else if j = 4 * μ 21 0 + 2 then t else if j = 4 * μ 21 0 + 3 then q else μ 22 j
def OP (μ μ9 : nMem) (f : Int) : Prop := (∀ x j, x ≠ 23 → x ≠ 24 → x ≠ 25 → ¬ (x = 21 ∧ j = 1) → μ9 x j = μ x j) ∧ μ9 21 1 = μ 21 1 + 1 ∧ (∀ j, μ9 23 j = if j = μ 21 1 then f else μ 23 j) ∧ (∀ j, μ9 24 j = if j = μ 21 1 then 0 else μ 24 j) ∧ ∀ j, μ9 25 j = if 8 * μ 21 1 ≤ j ∧ j < 8 * μ 21 1 + 8 then 0 else μ 25 j
noncomputable abbrev tkS (μ : nMem) (a : Int) : Int := lsP (pZ (μ 23) (μ 22 (4 * a + 2))) (μ 21 1).toNat
abbrev tkD (μ μ9 : nMem) (a : Int) : Prop := 0 ≤ tkS μ a ∧ cR (pT (μ9 22) (μ 22 (4 * a + 2))) (μ 21 0 - 1).toNat = 0
def TK (μ μ9 : nMem) (a : Int) : Prop := (∀ x j, ¬ (21 ≤ x ∧ x ≤ 25) → μ9 x j = μ x j) ∧ μ9 21 0 = μ 21 0 - 1 ∧ (∀ j, μ9 22 j = if 4 * a ≤ j ∧ j < 4 * (μ 21 0 - 1) then μ 22 (j + 4) else μ 22 j) ∧
  (tkD μ μ9 a → μ9 21 1 = μ 21 1 - 1 ∧ (∀ j, μ9 23 j = (if tkS μ a ≤ j ∧ j < μ 21 1 - 1 then μ 23 (j + 1) else μ 23 j) ∧ μ9 24 j = (if tkS μ a ≤ j ∧ j < μ 21 1 - 1 then μ 24 (j + 1) else μ 24 j)) ∧ ∀ j, μ9 25 j = if 8 * tkS μ a ≤ j ∧ j < 8 * (μ 21 1 - 1) then μ 25 (j + 8) else μ 25 j) ∧
  (¬ tkD μ μ9 a → μ9 21 1 = μ 21 1 ∧ ∀ j, μ9 23 j = μ 23 j ∧ μ9 24 j = μ 24 j ∧ μ9 25 j = μ 25 j)
theorem w21 (μ : nMem) (k v j : Int) : wr μ 22 k v 21 j = μ 21 j := wr_n _ _ (by omega)
theorem w21b (μ : nMem) (k v j : Int) : wr μ 23 k v 21 j = μ 21 j := wr_n _ _ (by omega)
theorem w21c (μ : nMem) (k v j : Int) : wr μ 24 k v 21 j = μ 21 j := wr_n _ _ (by omega)
theorem sp_L_adds {μ : nMem} {ε : nEnv} {Q : nOut → nMem → nEnv → Prop} {d v t q : Int} (hs : SkP skM ε) (n0 : 0 ≤ μ 21 0) (n1 : μ 21 0 ≤ 14) (h : ∀ μ9, AD μ μ9 d v t q → Q (.inl none) μ9 ε) : Sp mL_adds [vR 21, vR 22, vI d, vI v, vI t, vI q] μ ε Q := by
  refine Sp_of (L := [(0, vR 21), (1, vR 22), (2, vI d), (3, vI v), (4, vI t), (5, vI q)]) (by decide) rfl rfl (Nat.le_of_ble_eq_true rfl) ?_
  refine wq_aload_n (pc := 0) dL_adds_0 rfl rfl ?_
  refine wq_iconst (pc := 1) dL_adds_1 ?_
  refine wq_aload_n (pc := 2) dL_adds_2 rfl rfl ?_
  refine wq_iconst (pc := 3) dL_adds_3 ?_
  refine wq_ialdK (pc := 4) dL_adds_4 hs rfl (by omega) (by omega) ?_
  refine wq_imul (pc := 5) dL_adds_5 ?_
  refine wq_iload_n (pc := 6) dL_adds_6 rfl rfl ?_
  refine wq_iastK (pc := 7) dL_adds_7 hs rfl (by omega) (by omega) ?_
  refine wq_aload_n (pc := 8) dL_adds_8 rfl rfl ?_
  refine wq_iconst (pc := 9) dL_adds_9 ?_
  refine wq_aload_n (pc := 10) dL_adds_10 rfl rfl ?_
  refine wq_iconst (pc := 11) dL_adds_11 ?_
  refine wq_ialdK (pc := 12) dL_adds_12 hs rfl (by omega) (by omega) ?_
  simp only [w21]
  refine wq_imul (pc := 13) dL_adds_13 ?_
  refine wq_iconst (pc := 14) dL_adds_14 ?_
  refine wq_iadd (pc := 15) dL_adds_15 ?_
  refine wq_iload_n (pc := 16) dL_adds_16 rfl rfl ?_
  refine wq_iastK (pc := 17) dL_adds_17 hs rfl (by omega) (by omega) ?_
  refine wq_aload_n (pc := 18) dL_adds_18 rfl rfl ?_
  refine wq_iconst (pc := 19) dL_adds_19 ?_
  refine wq_aload_n (pc := 20) dL_adds_20 rfl rfl ?_
  refine wq_iconst (pc := 21) dL_adds_21 ?_
  refine wq_ialdK (pc := 22) dL_adds_22 hs rfl (by omega) (by omega) ?_
  simp only [w21]
  refine wq_imul (pc := 23) dL_adds_23 ?_
  refine wq_iconst (pc := 24) dL_adds_24 ?_
  refine wq_iadd (pc := 25) dL_adds_25 ?_
  refine wq_iload (pc := 26) dL_adds_26 rfl ?_
  refine wq_iastK (pc := 28) dL_adds_28 hs rfl (by omega) (by omega) ?_
  refine wq_aload_n (pc := 29) dL_adds_29 rfl rfl ?_
  refine wq_iconst (pc := 30) dL_adds_30 ?_
  refine wq_aload_n (pc := 31) dL_adds_31 rfl rfl ?_
  refine wq_iconst (pc := 32) dL_adds_32 ?_
  refine wq_ialdK (pc := 33) dL_adds_33 hs rfl (by omega) (by omega) ?_
  simp only [w21]
  refine wq_imul (pc := 34) dL_adds_34 ?_
  refine wq_iconst (pc := 35) dL_adds_35 ?_
  refine wq_iadd (pc := 36) dL_adds_36 ?_
  refine wq_iload (pc := 37) dL_adds_37 rfl ?_
  refine wq_iastK (pc := 39) dL_adds_39 hs rfl (by omega) (by omega) ?_
  refine wq_aload_n (pc := 40) dL_adds_40 rfl rfl ?_
  refine wq_iconst (pc := 41) dL_adds_41 ?_
  refine wq_dup2 (pc := 42) dL_adds_42 rfl rfl ?_
  refine wq_ialdK (pc := 43) dL_adds_43 hs rfl (by omega) (by omega) ?_
  simp only [w21]
  refine wq_iconst (pc := 44) dL_adds_44 ?_
  refine wq_iadd (pc := 45) dL_adds_45 ?_
  refine wq_iastK (pc := 46) dL_adds_46 hs rfl (by omega) (by omega) ?_
  refine wq_vret (pc := 47) dL_adds_47 rfl ?_
  refine h _ ⟨fun x j h1 h2 => ?_, ?_, fun j => ?_⟩
  · rw [wr_n _ _ h2, wr_n _ _ (fun z => h1 z.1), wr_n _ _ (fun z => h1 z.1), wr_n _ _ (fun z => h1 z.1), wr_n _ _ (fun z => h1 z.1)]
  · rw [wr_s]
  · rw [wr_n _ _ (by omega)]
    unfold wr
    simp only [true_and]
    (repeat' split) <;> first | rfl | omega
theorem sp_L_opens {μ : nMem} {ε : nEnv} {Q : nOut → nMem → nEnv → Prop} {f : Int} (hs : SkP skM ε) (m0 : 0 ≤ μ 21 1) (m1 : μ 21 1 ≤ 7) (h : ∀ μ9, OP μ μ9 f → Q (.inl none) μ9 ε) : Sp mL_opens [vR 21, vR 23, vR 24, vR 25, vI f] μ ε Q := by
  refine Sp_of (L := [(0, vR 21), (1, vR 23), (2, vR 24), (3, vR 25), (4, vI f)]) (by decide) rfl rfl (Nat.le_of_ble_eq_true rfl) ?_
  refine wq_aload_n (pc := 0) dL_opens_0 rfl rfl ?_
  refine wq_aload_n (pc := 1) dL_opens_1 rfl rfl ?_
  refine wq_iconst (pc := 2) dL_opens_2 ?_
  refine wq_ialdK (pc := 3) dL_opens_3 hs rfl (by omega) (by omega) ?_
  refine wq_iload (pc := 4) dL_opens_4 rfl ?_
  refine wq_iastK (pc := 6) dL_opens_6 hs rfl (by omega) (by omega) ?_
  refine wq_aload_n (pc := 7) dL_opens_7 rfl rfl ?_
  refine wq_aload_n (pc := 8) dL_opens_8 rfl rfl ?_
  refine wq_iconst (pc := 9) dL_opens_9 ?_
  refine wq_ialdK (pc := 10) dL_opens_10 hs rfl (by omega) (by omega) ?_
  simp only [w21b]
  refine wq_iconst (pc := 11) dL_opens_11 ?_
  refine wq_iastK (pc := 12) dL_opens_12 hs rfl (by omega) (by omega) ?_
  have g1 : ∀ j, wr (wr μ 23 (μ 21 1) f) 24 (μ 21 1) 0 23 j = (if j = μ 21 1 then f else μ 23 j) ∧ wr (wr μ 23 (μ 21 1) f) 24 (μ 21 1) 0 24 j = (if j = μ 21 1 then 0 else μ 24 j) := fun j => by
    constructor
    · rw [wr_n _ _ (by omega)]; unfold wr; simp only [true_and]
    · by_cases e : j = μ 21 1
      · rw [e, wr_s, if_pos rfl]
      · rw [wr_n _ _ (fun z => e z.2), wr_n _ _ (by omega), if_neg e]
  have g2 : ∀ x j, x ≠ 23 → x ≠ 24 → wr (wr μ 23 (μ 21 1) f) 24 (μ 21 1) 0 x j = μ x j := fun x j h1 h2 => by rw [wr_n _ _ (fun z => h2 z.1), wr_n _ _ (fun z => h1 z.1)]
  generalize wr (wr μ 23 (μ 21 1) f) 24 (μ 21 1) 0 = m2 at g1 g2 ⊢
  have g3 := g2 21 1 (by omega) (by omega)
  refine wq_bipush (pc := 13) dL_opens_13 (by decide) (by decide) ?_
  refine wq_aload_n (pc := 15) dL_opens_15 rfl rfl ?_
  refine wq_iconst (pc := 16) dL_opens_16 ?_
  refine wq_ialdK (pc := 17) dL_opens_17 hs rfl (by omega) (by omega) ?_
  rw [g3]
  refine wq_imul (pc := 18) dL_opens_18 ?_
  refine wq_istore (pc := 19) (L' := [(5, _), (0, _), (1, _), (2, _), (3, _), (4, _)]) dL_opens_19 rfl (by decide) ?_
  have loop1 : ∀ (n k : Nat), ∀ (mm : nMem) (i : Int), k ≤ (8 * μ 21 1 + 8).toNat → (8 * μ 21 1 + 8).toNat < k + n → i = (k : Int) → 8 * μ 21 1 ≤ (k : Int) → (∀ x j, x ≠ 25 → mm x j = m2 x j) → (∀ j : Int, 8 * μ 21 1 ≤ j → j < (k : Int) → mm 25 j = 0) → (∀ j : Int, (j < 8 * μ 21 1 ∨ (k : Int) ≤ j) → mm 25 j = m2 25 j) → wp mL_opens 21 [(0, vR 21), (1, vR 23), (2, vR 24), (3, vR 25), (4, vI f), (5, vI i)] [] mm ε Q := by
    intro n
    induction n with
    | zero => intro k mm i hk1 hk2 e0 e1 e2 e3 e4; exact absurd hk2 (by omega)
    | succ n ih =>
      intro k mm i hk1 hk2 e0 e1 e2 e3 e4
      subst e0
      have q21 : mm 21 1 = μ 21 1 := (e2 21 1 (by omega)).trans (g2 21 1 (by omega) (by omega))
      refine wq_iload (pc := 21) dL_opens_21 rfl ?_
      refine wq_bipush (pc := 23) dL_opens_23 (by decide) (by decide) ?_
      refine wq_aload_n (pc := 25) dL_opens_25 rfl rfl ?_
      refine wq_iconst (pc := 26) dL_opens_26 ?_
      refine wq_ialdK (pc := 27) dL_opens_27 hs rfl (by omega) (by omega) ?_
      refine wq_imul (pc := 28) dL_opens_28 ?_
      refine wq_bipush (pc := 29) dL_opens_29 (by decide) (by decide) ?_
      refine wq_iadd (pc := 31) dL_opens_31 ?_
      refine wq_icmp_ge (pc := 32) (tgt := 46) dL_opens_32 (by decide) (by first | (unfold inR; omega) | assumption | exact hr2 _ | exact hr3 _ | exact hr4 _) (by first | (unfold inR; omega) | assumption | exact hr2 _ | exact hr3 _ | exact hr4 _) (fun c2 => ?_) (fun c2 => ?_)
      · skip
        refine wq_aload_n (pc := 46) dL_opens_46 rfl rfl ?_
        refine wq_iconst (pc := 47) dL_opens_47 ?_
        refine wq_dup2 (pc := 48) dL_opens_48 rfl rfl ?_
        refine wq_ialdK (pc := 49) dL_opens_49 hs rfl (by omega) (by omega) ?_
        rw [q21]
        refine wq_iconst (pc := 50) dL_opens_50 ?_
        refine wq_iadd (pc := 51) dL_opens_51 ?_
        refine wq_iastK (pc := 52) dL_opens_52 hs rfl (by omega) (by omega) ?_
        refine wq_vret (pc := 53) dL_opens_53 rfl ?_
        refine h _ ⟨fun x j h1 h2 h3 h4 => ?_, wr_s _ _ _ _, fun j => ?_, fun j => ?_, fun j => ?_⟩
        · rw [wr_n _ _ h4, e2 x j h3]; exact g2 x j h1 h2
        · rw [wr_n _ _ (by omega), e2 23 j (by omega)]; exact (g1 j).1
        · rw [wr_n _ _ (by omega), e2 24 j (by omega)]; exact (g1 j).2
        · rw [wr_n _ _ (by omega)]
          by_cases e : 8 * μ 21 1 ≤ j ∧ j < 8 * μ 21 1 + 8
          · rw [if_pos e]; exact e3 j e.1 (by omega)
          · rw [if_neg e, e4 j (by omega)]; exact g2 25 j (by omega) (by omega)
      · skip
        refine wq_aload_n (pc := 35) dL_opens_35 rfl rfl ?_
        refine wq_iload (pc := 36) dL_opens_36 rfl ?_
        refine wq_lconst (pc := 38) (v := 0) dL_opens_38 rfl ?_
        refine wq_lastK (pc := 39) dL_opens_39 hs rfl (by omega) (by omega) ?_
        refine wq_iinc (pc := 40) (L' := [(5, _), (0, _), (1, _), (2, _), (3, _), (4, _)]) dL_opens_40 rfl rfl (by decide) ?_
        refine wq_goto (pc := 43) (tgt := 21) dL_opens_43 (by decide) ?_
        refine wq_sub1 (L' := [(0, _), (1, _), (2, _), (3, _), (4, _), (5, _)]) ⟨rfl, rfl, rfl, rfl, rfl, rfl, trivial⟩ ?_
        refine ih (k + 1) _ _ (by omega) (by omega) (by omega) (by omega) (fun x j hx => by rw [wr_n _ _ (fun z => hx z.1)]; exact e2 x j hx) (fun j j0 j1 => ?_) (fun j hj => by rw [wr_n _ _ (by omega)]; exact e4 j (by omega))
        by_cases e : j = k
        · rw [e]; exact wr_s _ _ _ _
        · rw [wr_n _ _ (fun z => e z.2)]; exact e3 j j0 (by omega)
  refine wq_sub1 (L' := [(0, _), (1, _), (2, _), (3, _), (4, _), (5, _)]) ⟨rfl, rfl, rfl, rfl, rfl, rfl, trivial⟩ ?_
  exact loop1 ((8 * μ 21 1 + 8).toNat + 1) (8 * μ 21 1).toNat _ _ (by omega) (by omega) (by omega) (by omega) (fun x j _ => rfl) (fun j j0 j1 => absurd j1 (by omega)) (fun j _ => rfl)
theorem sp_L_takes {μ : nMem} {ε : nEnv} {Q : nOut → nMem → nEnv → Prop} {a : Int} (hs : SkP skM ε) (n1 : μ 21 0 ≤ 15) (a0 : 0 ≤ a ∧ a < μ 21 0) (m0 : 0 ≤ μ 21 1) (m1 : μ 21 1 ≤ 8) (hr2 : ∀ j, inR (μ 22 j)) (hr3 : ∀ j, inR (μ 23 j)) (h : ∀ μ9, TK μ μ9 a → Q (.inl none) μ9 ε) : Sp mL_takes [vR 21, vR 22, vR 23, vR 24, vR 25, vI a] μ ε Q := by
  refine Sp_of (L := [(0, vR 21), (1, vR 22), (2, vR 23), (3, vR 24), (4, vR 25), (5, vI a)]) (by decide) rfl rfl (Nat.le_of_ble_eq_true rfl) ?_
  refine wq_aload_n (pc := 0) dL_takes_0 rfl rfl ?_
  refine wq_iconst (pc := 1) dL_takes_1 ?_
  refine wq_iload (pc := 2) dL_takes_2 rfl ?_
  refine wq_imul (pc := 4) dL_takes_4 ?_
  refine wq_iconst (pc := 5) dL_takes_5 ?_
  refine wq_iadd (pc := 6) dL_takes_6 ?_
  refine wq_ialdK (pc := 7) dL_takes_7 hs rfl (by omega) (by omega) ?_
  refine wq_istore (pc := 8) (L' := [(6, _), (0, _), (1, _), (2, _), (3, _), (4, _), (5, _)]) dL_takes_8 rfl (by decide) ?_
  refine wq_aload_n (pc := 10) dL_takes_10 rfl rfl ?_
  refine wq_iconst (pc := 11) dL_takes_11 ?_
  refine wq_dup2 (pc := 12) dL_takes_12 rfl rfl ?_
  refine wq_ialdK (pc := 13) dL_takes_13 hs rfl (by omega) (by omega) ?_
  refine wq_iconst (pc := 14) dL_takes_14 ?_
  refine wq_isub (pc := 15) dL_takes_15 ?_
  refine wq_iastK (pc := 16) dL_takes_16 hs rfl (by omega) (by omega) ?_
  have g1 : ∀ x j, ¬ (x = 21 ∧ j = 0) → wr μ 21 0 (μ 21 0 - 1) x j = μ x j := fun x j hx => wr_n _ _ hx
  have g2 : wr μ 21 0 (μ 21 0 - 1) 21 0 = μ 21 0 - 1 := wr_s _ _ _ _
  generalize wr μ 21 0 (μ 21 0 - 1) = mb at g1 g2 ⊢
  refine wq_iconst (pc := 17) dL_takes_17 ?_
  refine wq_iload (pc := 18) dL_takes_18 rfl ?_
  refine wq_imul (pc := 20) dL_takes_20 ?_
  refine wq_istore (pc := 21) (L' := [(7, _), (6, _), (0, _), (1, _), (2, _), (3, _), (4, _), (5, _)]) dL_takes_21 rfl (by decide) ?_
  have loop1 : ∀ (n k : Nat), ∀ (mm : nMem) (i : Int), k ≤ (4 * (μ 21 0 - 1)).toNat → (4 * (μ 21 0 - 1)).toNat < k + n → i = (k : Int) → 4 * a ≤ (k : Int) → (∀ x j, x ≠ 22 → mm x j = mb x j) → (∀ j : Int, 4 * a ≤ j → j < (k : Int) → mm 22 j = μ 22 (j + 4)) → (∀ j : Int, (j < 4 * a ∨ (k : Int) ≤ j) → mm 22 j = μ 22 j) → wp mL_takes 23 [(0, vR 21), (1, vR 22), (2, vR 23), (3, vR 24), (4, vR 25), (5, vI a), (6, vI (μ 22 (4 * a + 2))), (7, vI i)] [] mm ε Q := by
    intro n
    induction n with
    | zero => intro k mm i hk1 hk2 e0 e1 e2 e3 e4; exact absurd hk2 (by omega)
    | succ n ih =>
      intro k mm i hk1 hk2 e0 e1 e2 e3 e4
      subst e0
      have q21 : mm 21 0 = μ 21 0 - 1 := (e2 21 0 (by omega)).trans g2
      refine wq_iload (pc := 23) dL_takes_23 rfl ?_
      refine wq_iconst (pc := 25) dL_takes_25 ?_
      refine wq_aload_n (pc := 26) dL_takes_26 rfl rfl ?_
      refine wq_iconst (pc := 27) dL_takes_27 ?_
      refine wq_ialdK (pc := 28) dL_takes_28 hs rfl (by omega) (by omega) ?_
      refine wq_imul (pc := 29) dL_takes_29 ?_
      refine wq_icmp_ge (pc := 30) (tgt := 49) dL_takes_30 (by decide) (by first | (unfold inR; omega) | assumption | exact hr2 _ | exact hr3 _ | exact hr4 _) (by first | (unfold inR; omega) | assumption | exact hr2 _ | exact hr3 _ | exact hr4 _) (fun c2 => ?_) (fun c2 => ?_)
      · skip
        have q211 : mm 21 1 = μ 21 1 := (e2 21 1 (by omega)).trans (g1 21 1 (by omega))
        have q23 : mm 23 = μ 23 := funext (fun j => (e2 23 j (by omega)).trans (g1 23 j (by omega)))
        have q24 : ∀ j, mm 24 j = μ 24 j := fun j => (e2 24 j (by omega)).trans (g1 24 j (by omega))
        have q25 : ∀ j, mm 25 j = μ 25 j := fun j => (e2 25 j (by omega)).trans (g1 25 j (by omega))
        have qx : ∀ x j, ¬ (21 ≤ x ∧ x ≤ 25) → mm x j = μ x j := fun x j hx => (e2 x j (by omega)).trans (g1 x j (by omega))
        have q22 : ∀ j, mm 22 j = if 4 * a ≤ j ∧ j < 4 * (μ 21 0 - 1) then μ 22 (j + 4) else μ 22 j := fun j => by
          by_cases e : 4 * a ≤ j ∧ j < 4 * (μ 21 0 - 1)
          · rw [if_pos e]; exact e3 j e.1 (by omega)
          · rw [if_neg e]; exact e4 j (by omega)
        have hr3m : ∀ j, inR (mm 23 j) := fun j => by rw [q23]; exact hr3 j
        have hr2m : ∀ j, inR (mm 22 j) := fun j => by rw [q22]; split <;> exact hr2 _
        have rtg := hr2 (4 * a + 2)
        clear e2 e3 e4 g1 g2 ih
        refine wq_aload_n (pc := 49) dL_takes_49 rfl rfl ?_
        refine wq_aload_n (pc := 50) dL_takes_50 rfl rfl ?_
        refine wq_iload (pc := 51) dL_takes_51 rfl ?_
        refine cS_3 (pc := 53) dL_takes_53 (cw_L_7 _ rfl) ⟨by decide, by decide⟩ (Nat.le_of_ble_eq_true rfl) (sp_L_slot hs (by omega) (by omega) hr3m rtg ?_)
        refine kr_s ?_
        have sb := lsP_b (pZ (mm 23) (μ 22 (4 * a + 2))) (mm 21 1).toNat
        have hsl : lsP (pZ (mm 23) (μ 22 (4 * a + 2))) (mm 21 1).toNat = tkS μ a := by rw [q23, q211]
        rw [hsl] at sb ⊢
        generalize hts : tkS μ a = sl at sb hsl ⊢
        have rsl : inR sl := by unfold inR; omega
        refine wq_istore (pc := 56) (L' := [(7, _), (0, _), (1, _), (2, _), (3, _), (4, _), (5, _), (6, _)]) dL_takes_56 rfl (by decide) ?_
        refine wq_iload (pc := 58) dL_takes_58 rfl ?_
        refine wq_if_lt (pc := 60) (tgt := 157) dL_takes_60 (by decide) (by first | (unfold inR; omega) | assumption | exact hr2 _ | exact hr3 _ | exact hr4 _) (fun c3 => ?_) (fun c3 => ?_)
        · skip
          refine wq_vret (pc := 157) dL_takes_157 rfl ?_
          first
            | (exact h _ ⟨qx, q21, q22, fun z => absurd z (by rintro ⟨z1, z2⟩; omega), fun _ => ⟨q211, fun j => ⟨congrFun q23 j, q24 j, q25 j⟩⟩⟩)
            | (have gx : ∀ x j, ¬ (21 ≤ x ∧ x ≤ 25) → m3 x j = μ x j := fun x j hx => by rw [e2 x j (by omega) (by omega) (by omega), g3 x j (by omega)]; exact qx x j hx
               have g22 : ∀ j, m3 22 j = mm 22 j := fun j => by rw [e2 22 j (by omega) (by omega) (by omega), g3 22 j (by omega)]
               have gc : m3 22 = mm 22 := funext g22
               refine h _ ⟨gx, by rw [e2 21 0 (by omega) (by omega) (by omega), g3 21 0 (by omega)]; exact q21, fun j => by rw [g22]; exact q22 j, fun _ => ⟨q2, fun j => ?_, fun j => ?_⟩, fun z => absurd (show tkD μ m3 a from ⟨by rw [hts]; omega, by rw [gc, hlk]; omega⟩) z⟩
               · rw [hts]
                 by_cases e : sl ≤ j ∧ j < μ 21 1 - 1
                 · have := e3 j e.1 (by omega)
                   rw [if_pos e, if_pos e, this.1, this.2, g3 23 _ (by omega), g3 24 _ (by omega), q23, q24]; exact ⟨rfl, rfl⟩
                 · have := e4 j (by omega)
                   rw [if_neg e, if_neg e, this.1, this.2, g3 23 _ (by omega), g3 24 _ (by omega), q23, q24]; exact ⟨rfl, rfl⟩
               · rw [hts]
                 by_cases e : 8 * sl ≤ j ∧ j < 8 * (μ 21 1 - 1)
                 · rw [if_pos e, e5 j e.1 (by omega), g3 25 _ (by omega), q25]
                 · rw [if_neg e, e6 j (by omega), g3 25 _ (by omega), q25])
        · skip
          refine wq_aload_n (pc := 63) dL_takes_63 rfl rfl ?_
          refine wq_aload_n (pc := 64) dL_takes_64 rfl rfl ?_
          refine wq_iload (pc := 65) dL_takes_65 rfl ?_
          refine cS_3 (pc := 67) dL_takes_67 (cw_L_13 _ rfl) ⟨by decide, by decide⟩ (Nat.le_of_ble_eq_true rfl) (sp_L_links hs (by omega) (by omega) hr2m rtg ?_)
          refine kr_s ?_
          have lb := cR_b (pT (mm 22) (μ 22 (4 * a + 2))) (mm 21 0).toNat
          rw [q21] at lb ⊢
          generalize hlk : cR (pT (mm 22) (μ 22 (4 * a + 2))) (μ 21 0 - 1).toNat = lk9 at lb ⊢
          have rlk : inR lk9 := by unfold inR; omega
          refine wq_if_ne (pc := 70) (tgt := 157) dL_takes_70 (by decide) (by first | (unfold inR; omega) | assumption | exact hr2 _ | exact hr3 _ | exact hr4 _) (fun c4 => ?_) (fun c4 => ?_)
          · skip
            refine wq_vret (pc := 157) dL_takes_157 rfl ?_
            first
              | (exact h _ ⟨qx, q21, q22, fun z => absurd z (by rintro ⟨z1, z2⟩; omega), fun _ => ⟨q211, fun j => ⟨congrFun q23 j, q24 j, q25 j⟩⟩⟩)
              | (have gx : ∀ x j, ¬ (21 ≤ x ∧ x ≤ 25) → m3 x j = μ x j := fun x j hx => by rw [e2 x j (by omega) (by omega) (by omega), g3 x j (by omega)]; exact qx x j hx
                 have g22 : ∀ j, m3 22 j = mm 22 j := fun j => by rw [e2 22 j (by omega) (by omega) (by omega), g3 22 j (by omega)]
                 have gc : m3 22 = mm 22 := funext g22
                 refine h _ ⟨gx, by rw [e2 21 0 (by omega) (by omega) (by omega), g3 21 0 (by omega)]; exact q21, fun j => by rw [g22]; exact q22 j, fun _ => ⟨q2, fun j => ?_, fun j => ?_⟩, fun z => absurd (show tkD μ m3 a from ⟨by rw [hts]; omega, by rw [gc, hlk]; omega⟩) z⟩
                 · rw [hts]
                   by_cases e : sl ≤ j ∧ j < μ 21 1 - 1
                   · have := e3 j e.1 (by omega)
                     rw [if_pos e, if_pos e, this.1, this.2, g3 23 _ (by omega), g3 24 _ (by omega), q23, q24]; exact ⟨rfl, rfl⟩
                   · have := e4 j (by omega)
                     rw [if_neg e, if_neg e, this.1, this.2, g3 23 _ (by omega), g3 24 _ (by omega), q23, q24]; exact ⟨rfl, rfl⟩
                 · rw [hts]
                   by_cases e : 8 * sl ≤ j ∧ j < 8 * (μ 21 1 - 1)
                   · rw [if_pos e, e5 j e.1 (by omega), g3 25 _ (by omega), q25]
                   · rw [if_neg e, e6 j (by omega), g3 25 _ (by omega), q25])
          · skip
            refine wq_aload_n (pc := 73) dL_takes_73 rfl rfl ?_
            refine wq_iconst (pc := 74) dL_takes_74 ?_
            refine wq_dup2 (pc := 75) dL_takes_75 rfl rfl ?_
            refine wq_ialdK (pc := 76) dL_takes_76 hs rfl (by omega) (by omega) ?_
            refine wq_iconst (pc := 77) dL_takes_77 ?_
            refine wq_isub (pc := 78) dL_takes_78 ?_
            refine wq_iastK (pc := 79) dL_takes_79 hs rfl (by omega) (by omega) ?_
            have g3 : ∀ x j, ¬ (x = 21 ∧ j = 1) → wr mm 21 1 (mm 21 1 - 1) x j = mm x j := fun x j hx => wr_n _ _ hx
            have g4 : wr mm 21 1 (mm 21 1 - 1) 21 1 = μ 21 1 - 1 := by rw [wr_s, q211]
            generalize wr mm 21 1 (mm 21 1 - 1) = m2 at g3 g4 ⊢
            refine wq_iload (pc := 80) dL_takes_80 rfl ?_
            refine wq_istore (pc := 82) (L' := [(8, _), (7, _), (0, _), (1, _), (2, _), (3, _), (4, _), (5, _), (6, _)]) dL_takes_82 rfl (by decide) ?_
            have loop5 : ∀ (n k : Nat), ∀ (m3 : nMem) (i : Int), k ≤ (μ 21 1 - 1).toNat → (μ 21 1 - 1).toNat < k + n → i = (k : Int) → sl ≤ (k : Int) → (∀ x j, x ≠ 23 → x ≠ 24 → x ≠ 25 → m3 x j = m2 x j) → (∀ j : Int, sl ≤ j → j < (k : Int) → m3 23 j = m2 23 (j + 1) ∧ m3 24 j = m2 24 (j + 1)) → (∀ j : Int, (j < sl ∨ (k : Int) ≤ j) → m3 23 j = m2 23 j ∧ m3 24 j = m2 24 j) → (∀ j : Int, 8 * sl ≤ j → j < 8 * (k : Int) → m3 25 j = m2 25 (j + 8)) → (∀ j : Int, (j < 8 * sl ∨ 8 * (k : Int) ≤ j) → m3 25 j = m2 25 j) → wp mL_takes 84 [(0, vR 21), (1, vR 22), (2, vR 23), (3, vR 24), (4, vR 25), (5, vI a), (6, vI (μ 22 (4 * a + 2))), (7, vI sl), (8, vI i)] [] m3 ε Q := by
              intro n
              induction n with
              | zero => intro k m3 i hk1 hk2 e0 e1 e2 e3 e4 e5 e6; exact absurd hk2 (by omega)
              | succ n ih =>
                intro k m3 i hk1 hk2 e0 e1 e2 e3 e4 e5 e6
                subst e0
                have q2 : m3 21 1 = μ 21 1 - 1 := (e2 21 1 (by omega) (by omega) (by omega)).trans g4
                have ihO := ih
                have hkO := hk2
                obtain ⟨kN, hkN⟩ : ∃ kN : Nat, kN = k := ⟨k, rfl⟩
                have f1 := e1
                have f2 := e2
                have f3 := e3
                have f4 := e4
                have f5 := e5
                have f6 := e6
                refine wq_iload (pc := 84) dL_takes_84 rfl ?_
                refine wq_aload_n (pc := 86) dL_takes_86 rfl rfl ?_
                refine wq_iconst (pc := 87) dL_takes_87 ?_
                refine wq_ialdK (pc := 88) dL_takes_88 hs rfl (by omega) (by omega) ?_
                refine wq_icmp_ge (pc := 89) (tgt := 157) dL_takes_89 (by decide) (by first | (unfold inR; omega) | assumption | exact hr2 _ | exact hr3 _ | exact hr4 _) (by first | (unfold inR; omega) | assumption | exact hr2 _ | exact hr3 _ | exact hr4 _) (fun c6 => ?_) (fun c6 => ?_)
                · skip
                  refine wq_vret (pc := 157) dL_takes_157 rfl ?_
                  first
                    | (exact h _ ⟨qx, q21, q22, fun z => absurd z (by rintro ⟨z1, z2⟩; omega), fun _ => ⟨q211, fun j => ⟨congrFun q23 j, q24 j, q25 j⟩⟩⟩)
                    | (have gx : ∀ x j, ¬ (21 ≤ x ∧ x ≤ 25) → m3 x j = μ x j := fun x j hx => by rw [e2 x j (by omega) (by omega) (by omega), g3 x j (by omega)]; exact qx x j hx
                       have g22 : ∀ j, m3 22 j = mm 22 j := fun j => by rw [e2 22 j (by omega) (by omega) (by omega), g3 22 j (by omega)]
                       have gc : m3 22 = mm 22 := funext g22
                       refine h _ ⟨gx, by rw [e2 21 0 (by omega) (by omega) (by omega), g3 21 0 (by omega)]; exact q21, fun j => by rw [g22]; exact q22 j, fun _ => ⟨q2, fun j => ?_, fun j => ?_⟩, fun z => absurd (show tkD μ m3 a from ⟨by rw [hts]; omega, by rw [gc, hlk]; omega⟩) z⟩
                       · rw [hts]
                         by_cases e : sl ≤ j ∧ j < μ 21 1 - 1
                         · have := e3 j e.1 (by omega)
                           rw [if_pos e, if_pos e, this.1, this.2, g3 23 _ (by omega), g3 24 _ (by omega), q23, q24]; exact ⟨rfl, rfl⟩
                         · have := e4 j (by omega)
                           rw [if_neg e, if_neg e, this.1, this.2, g3 23 _ (by omega), g3 24 _ (by omega), q23, q24]; exact ⟨rfl, rfl⟩
                       · rw [hts]
                         by_cases e : 8 * sl ≤ j ∧ j < 8 * (μ 21 1 - 1)
                         · rw [if_pos e, e5 j e.1 (by omega), g3 25 _ (by omega), q25]
                         · rw [if_neg e, e6 j (by omega), g3 25 _ (by omega), q25])
                · skip
                  refine wq_aload_n (pc := 92) dL_takes_92 rfl rfl ?_
                  refine wq_iload (pc := 93) dL_takes_93 rfl ?_
                  refine wq_aload_n (pc := 95) dL_takes_95 rfl rfl ?_
                  refine wq_iload (pc := 96) dL_takes_96 rfl ?_
                  refine wq_iconst (pc := 98) dL_takes_98 ?_
                  refine wq_iadd (pc := 99) dL_takes_99 ?_
                  refine wq_ialdK (pc := 100) dL_takes_100 hs rfl (by omega) (by omega) ?_
                  refine wq_iastK (pc := 101) dL_takes_101 hs rfl (by omega) (by omega) ?_
                  refine wq_aload_n (pc := 102) dL_takes_102 rfl rfl ?_
                  refine wq_iload (pc := 103) dL_takes_103 rfl ?_
                  refine wq_aload_n (pc := 105) dL_takes_105 rfl rfl ?_
                  refine wq_iload (pc := 106) dL_takes_106 rfl ?_
                  refine wq_iconst (pc := 108) dL_takes_108 ?_
                  refine wq_iadd (pc := 109) dL_takes_109 ?_
                  refine wq_ialdK (pc := 110) dL_takes_110 hs rfl (by omega) (by omega) ?_
                  refine wq_iastK (pc := 111) dL_takes_111 hs rfl (by omega) (by omega) ?_
                  have hA1 : ∀ x j, x ≠ 23 → x ≠ 24 → wr (wr m3 23 (k : Int) (m3 23 ((k : Int) + 1))) 24 (k : Int) (wr m3 23 (k : Int) (m3 23 ((k : Int) + 1)) 24 ((k : Int) + 1)) x j = m3 x j := fun x j h1 h2 => by rw [wr_n _ _ (fun z => h2 z.1), wr_n _ _ (fun z => h1 z.1)]
                  have hA2 : ∀ j, wr (wr m3 23 (k : Int) (m3 23 ((k : Int) + 1))) 24 (k : Int) (wr m3 23 (k : Int) (m3 23 ((k : Int) + 1)) 24 ((k : Int) + 1)) 23 j = if j = k then m3 23 ((k : Int) + 1) else m3 23 j := fun j => by
                    rw [wr_n _ _ (by omega)]
                    by_cases e : j = k
                    · rw [e, wr_s, if_pos rfl]
                    · rw [wr_n _ _ (fun z => e z.2), if_neg e]
                  have hA3 : ∀ j, wr (wr m3 23 (k : Int) (m3 23 ((k : Int) + 1))) 24 (k : Int) (wr m3 23 (k : Int) (m3 23 ((k : Int) + 1)) 24 ((k : Int) + 1)) 24 j = if j = k then m3 24 ((k : Int) + 1) else m3 24 j := fun j => by
                    by_cases e : j = k
                    · rw [e, wr_s, if_pos rfl, wr_n _ _ (by omega)]
                    · rw [wr_n _ _ (fun z => e z.2), if_neg e, wr_n _ _ (by omega)]
                  generalize wr (wr m3 23 (k : Int) (m3 23 ((k : Int) + 1))) 24 (k : Int) (wr m3 23 (k : Int) (m3 23 ((k : Int) + 1)) 24 ((k : Int) + 1)) = mA at hA1 hA2 hA3 ⊢
                  rw [← hkN] at hA2 hA3 hk1 f1 f3 f4 f5 f6 hkO ⊢
                  refine wq_bipush (pc := 112) dL_takes_112 (by decide) (by decide) ?_
                  refine wq_iload (pc := 114) dL_takes_114 rfl ?_
                  refine wq_imul (pc := 116) dL_takes_116 ?_
                  refine wq_istore (pc := 117) (L' := [(9, _), (0, _), (1, _), (2, _), (3, _), (4, _), (5, _), (6, _), (7, _), (8, _)]) dL_takes_117 rfl (by decide) ?_
                  have loop7 : ∀ (n k : Nat), ∀ (m4 : nMem) (i : Int), k ≤ (8 * kN + 8) → (8 * kN + 8) < k + n → i = (k : Int) → 8 * kN ≤ k → (∀ x j, x ≠ 25 → m4 x j = mA x j) → (∀ j : Int, 8 * (kN : Int) ≤ j → j < (k : Int) → m4 25 j = m3 25 (j + 8)) → (∀ j : Int, (j < 8 * (kN : Int) ∨ (k : Int) ≤ j) → m4 25 j = m3 25 j) → wp mL_takes 119 [(0, vR 21), (1, vR 22), (2, vR 23), (3, vR 24), (4, vR 25), (5, vI a), (6, vI (μ 22 (4 * a + 2))), (7, vI sl), (8, vI (kN : Int)), (9, vI i)] [] m4 ε Q := by
                    intro n
                    induction n with
                    | zero => intro k m4 i hk1 hk2 e0 e1 e2 e3 e4; exact absurd hk2 (by omega)
                    | succ n ih =>
                      intro k m4 i hk1 hk2 e0 e1 e2 e3 e4
                      subst e0
                      refine wq_iload (pc := 119) dL_takes_119 rfl ?_
                      refine wq_bipush (pc := 121) dL_takes_121 (by decide) (by decide) ?_
                      refine wq_iload (pc := 123) dL_takes_123 rfl ?_
                      refine wq_imul (pc := 125) dL_takes_125 ?_
                      refine wq_bipush (pc := 126) dL_takes_126 (by decide) (by decide) ?_
                      refine wq_iadd (pc := 128) dL_takes_128 ?_
                      refine wq_icmp_ge (pc := 129) (tgt := 151) dL_takes_129 (by decide) (by first | (unfold inR; omega) | assumption | exact hr2 _ | exact hr3 _ | exact hr4 _) (by first | (unfold inR; omega) | assumption | exact hr2 _ | exact hr3 _ | exact hr4 _) (fun c8 => ?_) (fun c8 => ?_)
                      · skip
                        refine wq_iinc (pc := 151) (L' := [(8, _), (0, _), (1, _), (2, _), (3, _), (4, _), (5, _), (6, _), (7, _), (9, _)]) dL_takes_151 rfl rfl (by decide) ?_
                        refine wq_goto (pc := 154) (tgt := 84) dL_takes_154 (by decide) ?_
                        refine wq_sub1 (L' := [(0, _), (1, _), (2, _), (3, _), (4, _), (5, _), (6, _), (7, _), (8, _)]) ⟨rfl, rfl, rfl, rfl, rfl, rfl, rfl, rfl, rfl, trivial⟩ ?_
                        refine ihO (kN + 1) _ _ (by omega) (by omega) (by omega) (by omega) (fun x j h1 h2 h3 => by rw [e2 x j h3, hA1 x j h1 h2]; exact f2 x j h1 h2 h3) (fun j j0 j1 => ?_) (fun j hj => ?_) (fun j j0 j1 => ?_) (fun j hj => ?_)
                        · rw [e2 23 j (by omega), e2 24 j (by omega), hA2, hA3]
                          by_cases e : j = kN
                          · rw [if_pos e, if_pos e, e]; exact f4 _ (by omega)
                          · rw [if_neg e, if_neg e]; exact f3 j j0 (by omega)
                        · rw [e2 23 j (by omega), e2 24 j (by omega), hA2, hA3, if_neg (by omega), if_neg (by omega)]; exact f4 j (by omega)
                        · by_cases e : 8 * (kN : Int) ≤ j
                          · rw [e3 j e (by omega)]; exact f6 _ (by omega)
                          · rw [e4 j (by omega)]; exact f5 j j0 (by omega)
                        · rw [e4 j (by omega)]; exact f6 j (by omega)
                      · skip
                        refine wq_aload (pc := 132) dL_takes_132 rfl ?_
                        refine wq_iload (pc := 134) dL_takes_134 rfl ?_
                        refine wq_aload (pc := 136) dL_takes_136 rfl ?_
                        refine wq_iload (pc := 138) dL_takes_138 rfl ?_
                        refine wq_bipush (pc := 140) dL_takes_140 (by decide) (by decide) ?_
                        refine wq_iadd (pc := 142) dL_takes_142 ?_
                        refine wq_laldK (pc := 143) dL_takes_143 hs rfl (by omega) (by omega) ?_
                        refine wq_lastK (pc := 144) dL_takes_144 hs rfl (by omega) (by omega) ?_
                        refine wq_iinc (pc := 145) (L' := [(9, _), (0, _), (1, _), (2, _), (3, _), (4, _), (5, _), (6, _), (7, _), (8, _)]) dL_takes_145 rfl rfl (by decide) ?_
                        refine wq_goto (pc := 148) (tgt := 119) dL_takes_148 (by decide) ?_
                        refine wq_sub1 (L' := [(0, _), (1, _), (2, _), (3, _), (4, _), (5, _), (6, _), (7, _), (8, _), (9, _)]) ⟨rfl, rfl, rfl, rfl, rfl, rfl, rfl, rfl, rfl, rfl, trivial⟩ ?_
                        refine ih (k + 1) _ _ (by omega) (by omega) (by omega) (by omega) (fun x j hx => by rw [wr_n _ _ (fun z => hx z.1)]; exact e2 x j hx) (fun j j0 j1 => ?_) (fun j hj => by rw [wr_n _ _ (by omega)]; exact e4 j (by omega))
                        by_cases e : j = k
                        · rw [e, wr_s]; exact e4 _ (by omega)
                        · rw [wr_n _ _ (fun z => e z.2)]; exact e3 j j0 (by omega)
                  refine wq_sub1 (L' := [(0, _), (1, _), (2, _), (3, _), (4, _), (5, _), (6, _), (7, _), (8, _), (9, _)]) ⟨rfl, rfl, rfl, rfl, rfl, rfl, rfl, rfl, rfl, rfl, trivial⟩ ?_
                  exact loop7 (8 * kN + 8 + 1) (8 * kN) _ _ (by omega) (by omega) (by omega) (by omega) (fun x j _ => rfl) (fun j j0 j1 => absurd j1 (by omega)) (fun j _ => hA1 25 j (by omega) (by omega))
            refine wq_sub1 (L' := [(0, _), (1, _), (2, _), (3, _), (4, _), (5, _), (6, _), (7, _), (8, _)]) ⟨rfl, rfl, rfl, rfl, rfl, rfl, rfl, rfl, rfl, trivial⟩ ?_
            exact loop5 ((μ 21 1 - 1).toNat + 1) sl.toNat _ _ (by omega) (by omega) (by omega) (by omega) (fun x j _ _ _ => rfl) (fun j j0 j1 => absurd j1 (by omega)) (fun j _ => ⟨rfl, rfl⟩) (fun j j0 j1 => absurd j1 (by omega)) (fun j _ => rfl)
      · skip
        refine wq_aload_n (pc := 33) dL_takes_33 rfl rfl ?_
        refine wq_iload (pc := 34) dL_takes_34 rfl ?_
        refine wq_aload_n (pc := 36) dL_takes_36 rfl rfl ?_
        refine wq_iload (pc := 37) dL_takes_37 rfl ?_
        refine wq_iconst (pc := 39) dL_takes_39 ?_
        refine wq_iadd (pc := 40) dL_takes_40 ?_
        refine wq_ialdK (pc := 41) dL_takes_41 hs rfl (by omega) (by omega) ?_
        refine wq_iastK (pc := 42) dL_takes_42 hs rfl (by omega) (by omega) ?_
        refine wq_iinc (pc := 43) (L' := [(7, _), (0, _), (1, _), (2, _), (3, _), (4, _), (5, _), (6, _)]) dL_takes_43 rfl rfl (by decide) ?_
        refine wq_goto (pc := 46) (tgt := 23) dL_takes_46 (by decide) ?_
        refine wq_sub1 (L' := [(0, _), (1, _), (2, _), (3, _), (4, _), (5, _), (6, _), (7, _)]) ⟨rfl, rfl, rfl, rfl, rfl, rfl, rfl, rfl, trivial⟩ ?_
        refine ih (k + 1) _ _ (by omega) (by omega) (by omega) (by omega) (fun x j hx => by rw [wr_n _ _ (fun z => hx z.1)]; exact e2 x j hx) (fun j j0 j1 => ?_) (fun j hj => by rw [wr_n _ _ (by omega)]; exact e4 j (by omega))
        by_cases e : j = k
        · rw [e, wr_s]; exact e4 _ (by omega)
        · rw [wr_n _ _ (fun z => e z.2)]; exact e3 j j0 (by omega)
  refine wq_sub1 (L' := [(0, _), (1, _), (2, _), (3, _), (4, _), (5, _), (6, _), (7, _)]) ⟨rfl, rfl, rfl, rfl, rfl, rfl, rfl, rfl, trivial⟩ ?_
  exact loop1 ((4 * (μ 21 0 - 1)).toNat + 1) (4 * a).toNat _ _ (by omega) (by omega) (by omega) (by omega) (fun x j _ => rfl) (fun j j0 j1 => absurd j1 (by omega)) (fun j _ => g1 22 j (by omega))
