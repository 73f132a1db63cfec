def E3 (ε ε9 : nEnv) : Prop := (eSz ε9 = 11 ∧ eSl ε9 ≤ eSl ε + 400) ∧ (∀ x, eKind ε9 x = if x = 9 then 5 else if x = 10 ∨ x = 11 then 11 else eKind ε x) ∧ (∀ x, eLen ε9 x = if x = 9 then 0 else if x = 10 ∨ x = 11 then 8 else eLen ε x) ∧ (∀ x j, eFin ε9 x j = if x = 8 ∧ j = 0 then 2 else if x = 8 ∧ j = 1 then 9 else if x = 8 ∧ j = 2 then 10 else if x = 8 ∧ j = 3 then 11 else if 9 ≤ x ∧ x ≤ 11 then 0 else eFin ε x j)
def M3 (μ μ9 : nMem) : Prop := (∀ x j, ¬ (9 ≤ x ∧ x ≤ 11) → ¬ (x = 8 ∧ (j = 4 ∨ j = 5)) → μ9 x j = μ x j) ∧ μ9 8 4 = -1 ∧ μ9 8 5 = 8 ∧ (∀ x j, (x = 9 ∨ x = 11) → μ9 x j = 0) ∧ (∀ b, 0 ≤ b → b < 8 → μ9 10 b = b)
theorem sp_X3_init {μ : nMem} {ε : nEnv} {Q : nOut → nMem → nEnv → Prop}  (hz : eSz ε = 8) (hl : eSl ε ≤ 7000000) (hk8 : eKind ε 8 = 4) (h : ∀ μ9 ε9, E3 ε ε9 → M3 μ μ9 → Q (.inl none) μ9 ε9) : Sp mX3_init [vR 8, vR 2] μ ε Q := by
  refine Sp_of (L := [(0, vR 8), (1, vR 2)]) (by decide) rfl rfl (Nat.le_of_ble_eq_true rfl) ?_
  refine wq_aload_n (pc := 0) dX3_init_0 rfl rfl ?_
  refine wq_oinit (pc := 1) dX3_init_1 (by omega) (co_X3_3 mX3_init rfl).1 (co_X3_3 mX3_init rfl).2.1 (co_X3_3 mX3_init rfl).2.2 (by decide) (by decide) (Nat.le_of_ble_eq_true rfl) ?_
  refine wq_aload_n (pc := 4) dX3_init_4 rfl rfl ?_
  refine wq_new (pc := 5) (ci := 4) dX3_init_5 (by decide) rfl (kl_X3_9 _ rfl) ki_4.1 ki_4.2 (by first | (unfold nCAP nSCAP; omega) | (rw [cT4]; unfold nCAP nSCAP; omega)) ?_
  refine wq_dup (pc := 8) dX3_init_8 rfl ?_
  refine cI_0 (pc := 9) dX3_init_9 (cw_X3_11 _ rfl) (by omega) ⟨by decide, by decide⟩ (Nat.le_of_ble_eq_true rfl) (sp_X4_init (by omega) ?_)
  refine kr_v ?_
  refine wq_putF (pc := 12) (ci := 3) (k := 1) dX3_init_12 (by first | with_reducible assumption | (show (if (8 : Int) = _ then _ else _) = _; rw [if_neg (by omega)]; assumption)) (by decide) (by decide) (wOK_1 175 (by decide +kernel) (by decide +kernel)) rfl rfl rfl rfl (fun _ => ⟨by first | rfl | exact (putOK_O _ _ _).1 | exact (putOK_A _ _ _).1, by first | rfl | exact (putOK_O _ _ _).2 | exact (putOK_A _ _ _).2⟩) ?_
  have A1 := Al_i ε (4 + 1) 0 (cTab 4).2.2 8 1
  have e1 : ((eSz ε : Nat) : Int) + 1 = 9 := by rw [hz]; rfl
  generalize wrF (alF ε (4 + 1) 0 (cTab 4).2.2) 8 1 ((eSz ε : Int) + 1) = ε1 at A1 ⊢
  unfold Al at A1
  rw [e1] at A1 ⊢
  have z1 : eSz ε1 = 9 := by rw [A1.1, hz]
  have l1 := A1.2.1
  have hk8_1 : eKind ε1 8 = 4 := by rw [A1.2.2.1, if_neg (by decide)]; exact hk8
  rw [cT4] at l1
  refine wq_aload_n (pc := 15) dX3_init_15 rfl rfl ?_
  refine wq_bipush (pc := 16) dX3_init_16 (by decide) (by decide) ?_
  refine wq_newI (pc := 18) dX3_init_18 ka_int (by omega) (by omega) (by first | (unfold nCAP nSCAP; omega) | (rw [cT4]; unfold nCAP nSCAP; omega)) ?_
  refine wq_putF (pc := 20) (ci := 3) (k := 2) dX3_init_20 (by first | with_reducible assumption | (show (if (8 : Int) = _ then _ else _) = _; rw [if_neg (by omega)]; assumption)) (by decide) (by decide) (wOK_1 176 (by decide +kernel) (by decide +kernel)) rfl rfl rfl rfl (fun _ => ⟨by first | rfl | exact (putOK_O _ _ _).1 | exact (putOK_A _ _ _).1, by first | rfl | exact (putOK_O _ _ _).2 | exact (putOK_A _ _ _).2⟩) ?_
  have A2 := Al_i ε1 11 8 (8 : Int).toNat 8 2
  have e2 : ((eSz ε1 : Nat) : Int) + 1 = 10 := by rw [z1]; rfl
  generalize wrF (alF ε1 11 8 (8 : Int).toNat) 8 2 ((eSz ε1 : Int) + 1) = ε2 at A2 ⊢
  unfold Al at A2
  rw [e2] at A2 ⊢
  have z2 : eSz ε2 = 10 := by rw [A2.1, z1]
  have l2 := A2.2.1
  have hk8_2 : eKind ε2 8 = 4 := by rw [A2.2.2.1, if_neg (by decide)]; exact hk8_1
  refine wq_aload_n (pc := 23) dX3_init_23 rfl rfl ?_
  refine wq_bipush (pc := 24) dX3_init_24 (by decide) (by decide) ?_
  refine wq_newI (pc := 26) dX3_init_26 ka_int (by omega) (by omega) (by first | (unfold nCAP nSCAP; omega) | (rw [cT4]; unfold nCAP nSCAP; omega)) ?_
  refine wq_putF (pc := 28) (ci := 3) (k := 3) dX3_init_28 (by first | with_reducible assumption | (show (if (8 : Int) = _ then _ else _) = _; rw [if_neg (by omega)]; assumption)) (by decide) (by decide) (wOK_1 177 (by decide +kernel) (by decide +kernel)) rfl rfl rfl rfl (fun _ => ⟨by first | rfl | exact (putOK_O _ _ _).1 | exact (putOK_A _ _ _).1, by first | rfl | exact (putOK_O _ _ _).2 | exact (putOK_A _ _ _).2⟩) ?_
  have A3 := Al_i ε2 11 8 (8 : Int).toNat 8 3
  have e3 : ((eSz ε2 : Nat) : Int) + 1 = 11 := by rw [z2]; rfl
  generalize wrF (alF ε2 11 8 (8 : Int).toNat) 8 3 ((eSz ε2 : Int) + 1) = ε3 at A3 ⊢
  unfold Al at A3
  rw [e3] at A3 ⊢
  have z3 : eSz ε3 = 11 := by rw [A3.1, z2]
  have l3 := A3.2.1
  have hk8_3 : eKind ε3 8 = 4 := by rw [A3.2.2.1, if_neg (by decide)]; exact hk8_2
  refine wq_aload_n (pc := 31) dX3_init_31 rfl rfl ?_
  refine wq_iconst (pc := 32) dX3_init_32 ?_
  refine wq_putI (pc := 33) (kk := 4) dX3_init_33 (gf_X3_25 _ rfl) (by first | with_reducible assumption | (show (if (8 : Int) = _ then _ else _) = _; rw [if_neg (by omega)]; assumption)) rfl rfl rfl rfl ?_
  refine wq_aload_n (pc := 36) dX3_init_36 rfl rfl ?_
  refine wq_aload_n (pc := 37) dX3_init_37 rfl rfl ?_
  refine wq_putF (pc := 38) (ci := 3) (k := 0) dX3_init_38 (by first | with_reducible assumption | (show (if (8 : Int) = _ then _ else _) = _; rw [if_neg (by omega)]; assumption)) (by decide) (by decide) (wOK_1 174 (by decide +kernel) (by decide +kernel)) rfl rfl rfl rfl (fun _ => ⟨by first | rfl | exact (putOK_O _ _ _).1 | exact (putOK_A _ _ _).1, by first | rfl | exact (putOK_O _ _ _).2 | exact (putOK_A _ _ _).2⟩) ?_
  have A4 := Aw_i ε3 8 0 2
  generalize wrF ε3 8 0 2 = ε4 at A4 ⊢
  unfold Aw at A4
  have z4 : eSz ε4 = 11 := by rw [A4.1, z3]
  have l4 := A4.2.1
  have hk8_4 : eKind ε4 8 = 4 := by rw [A4.2.2.1]; exact hk8_3
  have f82 : eFin ε4 8 2 = 10 := by rw [A4.2.2.2.2, if_neg (by decide), A3.2.2.2.2, if_neg (by decide), if_neg (by decide), A2.2.2.2.2, if_pos ⟨rfl, rfl⟩]
  have k10 : eKind ε4 10 = 11 := by rw [A4.2.2.1, A3.2.2.1, if_neg (by decide), A2.2.2.1, if_pos rfl]
  have n10 : eLen ε4 10 = 8 := by rw [A4.2.2.2.1, A3.2.2.2.1, if_neg (by decide), A2.2.2.2.1, if_pos rfl]
  refine wq_iconst (pc := 41) dX3_init_41 ?_
  refine wq_istore_n (pc := 42) (L' := [(2, _), (0, _), (1, _)]) dX3_init_42 rfl rfl (by decide) ?_
  have loop1 : ∀ (n k : Nat), ∀ (m : nMem) (i : Int), k ≤ 8 → 8 < k + n → i = (k : Int) → (∀ x j, ¬ (9 ≤ x ∧ x ≤ 11) → ¬ (x = 8 ∧ j = 4) → m x j = μ x j) → m 8 4 = -1 → (∀ x j, (x = 9 ∨ x = 11) → m x j = 0) → (∀ b : Int, 0 ≤ b → b < k → m 10 b = b) → wp mX3_init 43 [(0, vR 8), (1, vR 2), (2, vI i)] [] m ε4 Q := by
    intro n
    induction n with
    | zero => intro k m i hk1 hk2 e0 e1 e2 e3 e4; exact absurd hk2 (by omega)
    | succ n ih =>
      intro k m i hk1 hk2 e0 e1 e2 e3 e4
      subst e0
      refine wq_iload_n (pc := 43) dX3_init_43 rfl rfl ?_
      refine wq_bipush (pc := 44) dX3_init_44 (by decide) (by decide) ?_
      refine wq_icmp_ge (pc := 46) (tgt := 62) dX3_init_46 (by decide) (by first | (unfold inR; omega) | assumption) (by first | (unfold inR; omega) | assumption) (fun c2 => ?_) (fun c2 => ?_)
      · skip
        refine wq_aload_n (pc := 62) dX3_init_62 rfl rfl ?_
        refine wq_bipush (pc := 63) dX3_init_63 (by decide) (by decide) ?_
        refine wq_putI (pc := 65) (kk := 5) dX3_init_65 (gf_X3_33 _ rfl) (by first | with_reducible assumption | (show (if (8 : Int) = _ then _ else _) = _; rw [if_neg (by omega)]; assumption)) rfl rfl rfl rfl ?_
        refine wq_vret (pc := 68) dX3_init_68 rfl ?_
        refine h _ _ ⟨⟨z4, by omega⟩, fun x => ?_, fun x => ?_, fun x j => ?_⟩ ⟨fun x j h1 h2 => by rw [wr_n _ _ (by omega)]; exact e1 x j h1 (by omega), by rw [wr_n _ _ (by omega)]; exact e2, wr_s _ _ _ _, fun x j h1 => by rw [wr_n _ _ (by omega)]; exact e3 x j h1, fun b b0 b1 => by rw [wr_n _ _ (by omega)]; exact e4 b b0 (by omega)⟩
        · rw [A4.2.2.1, A3.2.2.1, A2.2.2.1, A1.2.2.1]
          (repeat' split) <;> first | rfl | omega
        · rw [A4.2.2.2.1, A3.2.2.2.1, A2.2.2.2.1, A1.2.2.2.1]
          (repeat' split) <;> first | rfl | omega
        · rw [A4.2.2.2.2, A3.2.2.2.2, A2.2.2.2.2, A1.2.2.2.2]
          (repeat' split) <;> first | rfl | omega
      · skip
        refine wq_aload_n (pc := 49) dX3_init_49 rfl rfl ?_
        refine wq_getR (pc := 50) (kk := 2) dX3_init_50 (gf_X3_18 _ rfl) (by first | with_reducible assumption | (show (if (8 : Int) = _ then _ else _) = _; rw [if_neg (by omega)]; assumption)) rfl rfl rfl ?_
        rw [f82]
        refine wq_iload_n (pc := 53) dX3_init_53 rfl rfl ?_
        refine wq_iload_n (pc := 54) dX3_init_54 rfl rfl ?_
        refine wq_iast (pc := 55) dX3_init_55 (by first | with_reducible assumption | (show (if (8 : Int) = _ then _ else _) = _; rw [if_neg (by omega)]; assumption)) (by omega) (by omega) ?_
        refine wq_iinc (pc := 56) (L' := [(2, _), (0, _), (1, _)]) dX3_init_56 rfl rfl (by decide) ?_
        refine wq_goto (pc := 59) (tgt := 43) dX3_init_59 (by decide) ?_
        refine wq_sub1 (L' := [(0, _), (1, _), (2, _)]) ⟨rfl, rfl, rfl, trivial⟩ ?_
        refine ih (k + 1) _ _ (by omega) (by omega) (by omega) (fun x j h1 h2 => ?_) ?_ (fun x j h1 => ?_) (fun b b0 b1 => ?_)
        · rw [wr_n _ _ (by omega)]; exact e1 x j h1 h2
        · rw [wr_n _ _ (by omega)]; exact e2
        · rw [wr_n _ _ (by omega)]; exact e3 x j h1
        · by_cases c : b = k
          · rw [c, wr_s]
          · rw [wr_n _ _ (by omega)]; exact e4 b b0 (by omega)
  refine wq_sub1 (L' := [(0, _), (1, _), (2, _)]) ⟨rfl, rfl, rfl, trivial⟩ ?_
  exact loop1 9 0 _ _ (by omega) (by omega) (by omega) (fun x j h1 h2 => by rw [wr_n _ _ h2]; simp only [zr_v]; (repeat' split) <;> first | omega | rfl) (wr_s _ _ _ _) (fun x j h1 => by rw [wr_n _ _ (by omega)]; simp only [zr_v]; (repeat' split) <;> first | rfl | omega) (fun b b0 b1 => absurd b1 (by omega))
