/-! ### the making -/
/-- an object made and kept in a field -/
def Al (ε ε1 : nEnv) (kd : Nat) (ln : Int) (n : Nat) (a k : Int) : Prop := eSz ε1 = eSz ε + 1 ∧ eSl ε1 = eSl ε + n ∧ (∀ x, eKind ε1 x = if x = (eSz ε : Int) + 1 then kd else eKind ε x) ∧ (∀ x, eLen ε1 x = if x = (eSz ε : Int) + 1 then ln else eLen ε x) ∧ ∀ x j, eFin ε1 x j = if x = a ∧ j = k then (eSz ε : Int) + 1 else if x = (eSz ε : Int) + 1 then 0 else eFin ε x j
theorem Al_i (ε : nEnv) (kd : Nat) (ln : Int) (n : Nat) (a k : Int) : Al ε (wrF (alF ε kd ln n) a k ((eSz ε : Int) + 1)) kd ln n a k := ⟨rfl, rfl, fun _ => rfl, fun _ => rfl, fun _ _ => rfl⟩
/-- an object made -/
def Am (ε ε1 : nEnv) (kd : Nat) (ln : Int) (n : Nat) : Prop := eSz ε1 = eSz ε + 1 ∧ eSl ε1 = eSl ε + n ∧ (∀ x, eKind ε1 x = if x = (eSz ε : Int) + 1 then kd else eKind ε x) ∧ (∀ x, eLen ε1 x = if x = (eSz ε : Int) + 1 then ln else eLen ε x) ∧ ∀ x j, eFin ε1 x j = if x = (eSz ε : Int) + 1 then 0 else eFin ε x j
theorem Am_i (ε : nEnv) (kd : Nat) (ln : Int) (n : Nat) : Am ε (alF ε kd ln n) kd ln n := ⟨rfl, rfl, fun _ => rfl, fun _ => rfl, fun _ _ => rfl⟩
/-- an address kept in a field -/
def Aw (ε ε1 : nEnv) (a k v : Int) : Prop := eSz ε1 = eSz ε ∧ eSl ε1 = eSl ε ∧ (∀ x, eKind ε1 x = eKind ε x) ∧ (∀ x, eLen ε1 x = eLen ε x) ∧ ∀ x j, eFin ε1 x j = if x = a ∧ j = k then v else eFin ε x j
theorem Aw_i (ε : nEnv) (a k v : Int) : Aw ε (wrF ε a k v) a k v := ⟨rfl, rfl, fun _ => rfl, fun _ => rfl, fun _ _ => rfl⟩
theorem zr_v (μ : nMem) (a x j : Int) : zr μ a x j = if x = a then 0 else μ x j := rfl
theorem cT4 : (cTab 4).2.2 = 14 := by decide
def E0 (ε ε9 : nEnv) : Prop := (eSz ε9 = 7 ∧ eSl ε9 ≤ eSl ε + 400) ∧ (∀ x, eKind ε9 x = if x = 3 then 15 else if x = 4 ∨ x = 5 ∨ x = 6 then 11 else if x = 7 then 5 else eKind ε x) ∧ (∀ x, eLen ε9 x = if x = 3 then 128 else if x = 4 ∨ x = 5 ∨ x = 6 then 8 else if x = 7 then 0 else eLen ε x) ∧ (∀ x j, eFin ε9 x j = if x = 2 ∧ j = 0 then 3 else if x = 2 ∧ j = 1 then 4 else if x = 2 ∧ j = 2 then 5 else if x = 2 ∧ j = 3 then 6 else if x = 2 ∧ j = 4 then 7 else if 3 ≤ x ∧ x ≤ 7 then 0 else eFin ε x j)
def M0 (μ μ9 : nMem) : Prop := (∀ x j, ¬ (3 ≤ x ∧ x ≤ 7) → ¬ (x = 2 ∧ j = 5) → μ9 x j = μ x j) ∧ μ9 2 5 = -1 ∧ (∀ x j, (x = 3 ∨ x = 5 ∨ x = 6 ∨ x = 7) → μ9 x j = 0) ∧ (∀ b, 0 ≤ b → b < 8 → μ9 4 b = 1)
theorem sp_X0_init {μ : nMem} {ε : nEnv} {Q : nOut → nMem → nEnv → Prop}  (hz : eSz ε = 2) (hl : eSl ε ≤ 7000000) (hk2 : eKind ε 2 = 1) (h : ∀ μ9 ε9, E0 ε ε9 → M0 μ μ9 → Q (.inl none) μ9 ε9) : Sp mX0_init [vR 2] μ ε Q := by
  refine Sp_of (L := [(0, vR 2)]) (by decide) rfl rfl (Nat.le_of_ble_eq_true rfl) ?_
  refine wq_aload_n (pc := 0) dX0_init_0 rfl rfl ?_
  refine wq_oinit (pc := 1) dX0_init_1 (by omega) (co_X0_3 mX0_init rfl).1 (co_X0_3 mX0_init rfl).2.1 (co_X0_3 mX0_init rfl).2.2 (by decide) (by decide) (Nat.le_of_ble_eq_true rfl) ?_
  refine wq_aload_n (pc := 4) dX0_init_4 rfl rfl ?_
  refine wq_sipush (pc := 5) dX0_init_5 (by decide) (by decide) ?_
  refine wq_newQN (pc := 8) dX0_init_8 (kl_X0_9 _ rfl) kv_4 (by omega) (by omega) (by first | (unfold nCAP nSCAP; omega) | (rw [cT4]; unfold nCAP nSCAP; omega)) ?_
  refine wq_putF (pc := 11) (ci := 0) (k := 0) dX0_init_11 (by first | with_reducible assumption | (show (if (2 : Int) = _ then _ else _) = _; rw [if_neg (by omega)]; assumption)) (by decide) (by decide) (wOK_1 142 (by decide +kernel) (by decide +kernel)) rfl rfl rfl rfl (fun _ => ⟨by first | rfl | exact (putOK_O _ _ _).1 | exact (putOK_A _ _ _).1, by first | rfl | exact (putOK_O _ _ _).2 | exact (putOK_A _ _ _).2⟩) ?_
  have A1 := Al_i ε 15 128 (128 : Int).toNat 2 0
  have e1 : ((eSz ε : Nat) : Int) + 1 = 3 := by rw [hz]; rfl
  generalize wrF (alF ε 15 128 (128 : Int).toNat) 2 0 ((eSz ε : Int) + 1) = ε1 at A1 ⊢
  unfold Al at A1
  rw [e1] at A1 ⊢
  have z1 : eSz ε1 = 3 := by rw [A1.1, hz]
  have l1 := A1.2.1
  have hk2_1 : eKind ε1 2 = 1 := by rw [A1.2.2.1, if_neg (by decide)]; exact hk2
  refine wq_aload_n (pc := 14) dX0_init_14 rfl rfl ?_
  refine wq_bipush (pc := 15) dX0_init_15 (by decide) (by decide) ?_
  refine wq_newI (pc := 17) dX0_init_17 ka_int (by omega) (by omega) (by first | (unfold nCAP nSCAP; omega) | (rw [cT4]; unfold nCAP nSCAP; omega)) ?_
  refine wq_putF (pc := 19) (ci := 0) (k := 1) dX0_init_19 (by first | with_reducible assumption | (show (if (2 : Int) = _ then _ else _) = _; rw [if_neg (by omega)]; assumption)) (by decide) (by decide) (wOK_1 143 (by decide +kernel) (by decide +kernel)) rfl rfl rfl rfl (fun _ => ⟨by first | rfl | exact (putOK_O _ _ _).1 | exact (putOK_A _ _ _).1, by first | rfl | exact (putOK_O _ _ _).2 | exact (putOK_A _ _ _).2⟩) ?_
  have A2 := Al_i ε1 11 8 (8 : Int).toNat 2 1
  have e2 : ((eSz ε1 : Nat) : Int) + 1 = 4 := by rw [z1]; rfl
  generalize wrF (alF ε1 11 8 (8 : Int).toNat) 2 1 ((eSz ε1 : Int) + 1) = ε2 at A2 ⊢
  unfold Al at A2
  rw [e2] at A2 ⊢
  have z2 : eSz ε2 = 4 := by rw [A2.1, z1]
  have l2 := A2.2.1
  have hk2_2 : eKind ε2 2 = 1 := by rw [A2.2.2.1, if_neg (by decide)]; exact hk2_1
  refine wq_aload_n (pc := 22) dX0_init_22 rfl rfl ?_
  refine wq_bipush (pc := 23) dX0_init_23 (by decide) (by decide) ?_
  refine wq_newI (pc := 25) dX0_init_25 ka_int (by omega) (by omega) (by first | (unfold nCAP nSCAP; omega) | (rw [cT4]; unfold nCAP nSCAP; omega)) ?_
  refine wq_putF (pc := 27) (ci := 0) (k := 2) dX0_init_27 (by first | with_reducible assumption | (show (if (2 : Int) = _ then _ else _) = _; rw [if_neg (by omega)]; assumption)) (by decide) (by decide) (wOK_1 144 (by decide +kernel) (by decide +kernel)) rfl rfl rfl rfl (fun _ => ⟨by first | rfl | exact (putOK_O _ _ _).1 | exact (putOK_A _ _ _).1, by first | rfl | exact (putOK_O _ _ _).2 | exact (putOK_A _ _ _).2⟩) ?_
  have A3 := Al_i ε2 11 8 (8 : Int).toNat 2 2
  have e3 : ((eSz ε2 : Nat) : Int) + 1 = 5 := by rw [z2]; rfl
  generalize wrF (alF ε2 11 8 (8 : Int).toNat) 2 2 ((eSz ε2 : Int) + 1) = ε3 at A3 ⊢
  unfold Al at A3
  rw [e3] at A3 ⊢
  have z3 : eSz ε3 = 5 := by rw [A3.1, z2]
  have l3 := A3.2.1
  have hk2_3 : eKind ε3 2 = 1 := by rw [A3.2.2.1, if_neg (by decide)]; exact hk2_2
  refine wq_aload_n (pc := 30) dX0_init_30 rfl rfl ?_
  refine wq_bipush (pc := 31) dX0_init_31 (by decide) (by decide) ?_
  refine wq_newI (pc := 33) dX0_init_33 ka_int (by omega) (by omega) (by first | (unfold nCAP nSCAP; omega) | (rw [cT4]; unfold nCAP nSCAP; omega)) ?_
  refine wq_putF (pc := 35) (ci := 0) (k := 3) dX0_init_35 (by first | with_reducible assumption | (show (if (2 : Int) = _ then _ else _) = _; rw [if_neg (by omega)]; assumption)) (by decide) (by decide) (wOK_1 145 (by decide +kernel) (by decide +kernel)) rfl rfl rfl rfl (fun _ => ⟨by first | rfl | exact (putOK_O _ _ _).1 | exact (putOK_A _ _ _).1, by first | rfl | exact (putOK_O _ _ _).2 | exact (putOK_A _ _ _).2⟩) ?_
  have A4 := Al_i ε3 11 8 (8 : Int).toNat 2 3
  have e4 : ((eSz ε3 : Nat) : Int) + 1 = 6 := by rw [z3]; rfl
  generalize wrF (alF ε3 11 8 (8 : Int).toNat) 2 3 ((eSz ε3 : Int) + 1) = ε4 at A4 ⊢
  unfold Al at A4
  rw [e4] at A4 ⊢
  have z4 : eSz ε4 = 6 := by rw [A4.1, z3]
  have l4 := A4.2.1
  have hk2_4 : eKind ε4 2 = 1 := by rw [A4.2.2.1, if_neg (by decide)]; exact hk2_3
  refine wq_aload_n (pc := 38) dX0_init_38 rfl rfl ?_
  refine wq_new (pc := 39) (ci := 4) dX0_init_39 (by decide) rfl (kl_X0_9 _ rfl) ki_4.1 ki_4.2 (by first | (unfold nCAP nSCAP; omega) | (rw [cT4]; unfold nCAP nSCAP; omega)) ?_
  refine wq_dup (pc := 42) dX0_init_42 rfl ?_
  refine cI_0 (pc := 43) dX0_init_43 (cw_X0_27 _ rfl) (by omega) ⟨by decide, by decide⟩ (Nat.le_of_ble_eq_true rfl) (sp_X4_init (by omega) ?_)
  refine kr_v ?_
  refine wq_putF (pc := 46) (ci := 0) (k := 4) dX0_init_46 (by first | with_reducible assumption | (show (if (2 : Int) = _ then _ else _) = _; rw [if_neg (by omega)]; assumption)) (by decide) (by decide) (wOK_1 146 (by decide +kernel) (by decide +kernel)) rfl rfl rfl rfl (fun _ => ⟨by first | rfl | exact (putOK_O _ _ _).1 | exact (putOK_A _ _ _).1, by first | rfl | exact (putOK_O _ _ _).2 | exact (putOK_A _ _ _).2⟩) ?_
  have A5 := Al_i ε4 (4 + 1) 0 (cTab 4).2.2 2 4
  have e5 : ((eSz ε4 : Nat) : Int) + 1 = 7 := by rw [z4]; rfl
  generalize wrF (alF ε4 (4 + 1) 0 (cTab 4).2.2) 2 4 ((eSz ε4 : Int) + 1) = ε5 at A5 ⊢
  unfold Al at A5
  rw [e5] at A5 ⊢
  have z5 : eSz ε5 = 7 := by rw [A5.1, z4]
  have l5 := A5.2.1
  have hk2_5 : eKind ε5 2 = 1 := by rw [A5.2.2.1, if_neg (by decide)]; exact hk2_4
  rw [cT4] at l5
  have f21 : eFin ε5 2 1 = 4 := by rw [A5.2.2.2.2, if_neg (by decide), if_neg (by decide), A4.2.2.2.2, if_neg (by decide), if_neg (by decide), A3.2.2.2.2, if_neg (by decide), if_neg (by decide), A2.2.2.2.2, if_pos ⟨rfl, rfl⟩]
  have k4 : eKind ε5 4 = 11 := by rw [A5.2.2.1, if_neg (by decide), A4.2.2.1, if_neg (by decide), A3.2.2.1, if_neg (by decide), A2.2.2.1, if_pos rfl]
  have n4 : eLen ε5 4 = 8 := by rw [A5.2.2.2.1, if_neg (by decide), A4.2.2.2.1, if_neg (by decide), A3.2.2.2.1, if_neg (by decide), A2.2.2.2.1, if_pos rfl]
  refine wq_aload_n (pc := 49) dX0_init_49 rfl rfl ?_
  refine wq_iconst (pc := 50) dX0_init_50 ?_
  refine wq_putI (pc := 51) (kk := 5) dX0_init_51 (gf_X0_32 _ rfl) (by first | with_reducible assumption | (show (if (2 : Int) = _ then _ else _) = _; rw [if_neg (by omega)]; assumption)) rfl rfl rfl rfl ?_
  refine wq_iconst (pc := 54) dX0_init_54 ?_
  refine wq_istore_n (pc := 55) (L' := [(1, _), (0, _)]) dX0_init_55 rfl rfl (by decide) ?_
  have loop1 : ∀ (n k : Nat), ∀ (m : nMem) (i : Int), k ≤ 8 → 8 < k + n → i = (k : Int) → (∀ x j, ¬ (3 ≤ x ∧ x ≤ 7) → ¬ (x = 2 ∧ j = 5) → m x j = μ x j) → m 2 5 = -1 → (∀ x j, (x = 3 ∨ x = 5 ∨ x = 6 ∨ x = 7) → m x j = 0) → (∀ b : Int, 0 ≤ b → b < k → m 4 b = 1) → wp mX0_init 56 [(0, vR 2), (1, vI i)] [] m ε5 Q := by
    intro n
    induction n with
    | zero => intro k m i hk1 hk2 e0 e1 e2 e3 e4; exact absurd hk2 (by omega)
    | succ n ih =>
      intro k m i hk1 hk2 e0 e1 e2 e3 e4
      subst e0
      refine wq_iload_n (pc := 56) dX0_init_56 rfl rfl ?_
      refine wq_bipush (pc := 57) dX0_init_57 (by decide) (by decide) ?_
      refine wq_icmp_ge (pc := 59) (tgt := 75) dX0_init_59 (by decide) (by first | (unfold inR; omega) | assumption) (by first | (unfold inR; omega) | assumption) (fun c2 => ?_) (fun c2 => ?_)
      · skip
        refine wq_vret (pc := 75) dX0_init_75 rfl ?_
        refine h _ _ ⟨⟨z5, by omega⟩, fun x => ?_, fun x => ?_, fun x j => ?_⟩ ⟨e1, e2, e3, fun b b0 b1 => e4 b b0 (by omega)⟩
        · rw [A5.2.2.1, A4.2.2.1, A3.2.2.1, A2.2.2.1, A1.2.2.1]
          (repeat' split) <;> first | rfl | omega
        · rw [A5.2.2.2.1, A4.2.2.2.1, A3.2.2.2.1, A2.2.2.2.1, A1.2.2.2.1]
          (repeat' split) <;> first | rfl | omega
        · rw [A5.2.2.2.2, A4.2.2.2.2, A3.2.2.2.2, A2.2.2.2.2, A1.2.2.2.2]
          (repeat' split) <;> first | rfl | omega
      · skip
        refine wq_aload_n (pc := 62) dX0_init_62 rfl rfl ?_
        refine wq_getR (pc := 63) (kk := 1) dX0_init_63 (gf_X0_17 _ rfl) (by first | with_reducible assumption | (show (if (2 : Int) = _ then _ else _) = _; rw [if_neg (by omega)]; assumption)) rfl rfl rfl ?_
        rw [f21]
        refine wq_iload_n (pc := 66) dX0_init_66 rfl rfl ?_
        refine wq_iconst (pc := 67) dX0_init_67 ?_
        refine wq_iast (pc := 68) dX0_init_68 (by first | with_reducible assumption | (show (if (2 : Int) = _ then _ else _) = _; rw [if_neg (by omega)]; assumption)) (by omega) (by omega) ?_
        refine wq_iinc (pc := 69) (L' := [(1, _), (0, _)]) dX0_init_69 rfl rfl (by decide) ?_
        refine wq_goto (pc := 72) (tgt := 56) dX0_init_72 (by decide) ?_
        refine wq_sub1 (L' := [(0, _), (1, _)]) ⟨rfl, rfl, trivial⟩ ?_
        refine ih (k + 1) _ _ (by omega) (by omega) (by omega) (fun x j h1 h2 => ?_) ?_ (fun x j h1 => ?_) (fun b b0 b1 => ?_)
        · rw [wr_n _ _ (by omega)]; exact e1 x j h1 h2
        · rw [wr_n _ _ (by omega)]; exact e2
        · rw [wr_n _ _ (by omega)]; exact e3 x j h1
        · by_cases c : b = k
          · rw [c, wr_s]
          · rw [wr_n _ _ (by omega)]; exact e4 b b0 (by omega)
  refine wq_sub1 (L' := [(0, _), (1, _)]) ⟨rfl, rfl, trivial⟩ ?_
  exact loop1 9 0 _ _ (by omega) (by omega) (by omega) (fun x j h1 h2 => by rw [wr_n _ _ h2]; simp only [zr_v]; (repeat' split) <;> first | omega | rfl) (wr_s _ _ _ _) (fun x j h1 => by rw [wr_n _ _ (by omega)]; simp only [zr_v]; (repeat' split) <;> first | rfl | omega) (fun b b0 b1 => absurd b1 (by omega))
