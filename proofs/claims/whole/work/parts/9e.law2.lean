/-- the reference as it is made, also beyond its rows' ends -/
def M72 (μ m : nMem) (e : nEnv) (ε : nEnv) : Prop := M7 μ m e ε ∧ ∀ b, ¬ (0 ≤ b ∧ b < 8) → m 35 b = 0 ∧ m 37 b = 0
theorem sn_X7_init {μ : nMem} {ε : nEnv} {Q : nOut → nMem → nEnv → Prop}  (hz : eSz ε = 21) (hl : eSl ε ≤ 6000000) (hk21 : eKind ε 21 = 8) (h : ∀ μ9 ε9, M72 μ μ9 ε9 ε → Q (.inl none) μ9 ε9) : Sp mX7_init [vR 21] μ ε Q := by
  refine Sp_of (L := [(0, vR 21)]) (by decide) rfl rfl (Nat.le_of_ble_eq_true rfl) ?_
  refine wq_aload_n (pc := 0) dX7_init_0 rfl rfl ?_
  refine wq_oinit (pc := 1) dX7_init_1 (by omega) (co_X7_1 mX7_init rfl).1 (co_X7_1 mX7_init rfl).2.1 (co_X7_1 mX7_init rfl).2.2 (by decide) (by decide) (Nat.le_of_ble_eq_true rfl) ?_
  refine wq_aload_n (pc := 4) dX7_init_4 rfl rfl ?_
  have B0 := Ar_0 (μ := μ) hz
  have z0 := hz
  have l0 := B0.2.1
  have q0 := hk21
  refine wq_sipush (pc := 5) dX7_init_5 (by decide) (by decide) ?_
  refine wq_newI (pc := 8) dX7_init_8 ka_int (by omega) (by omega) (by unfold nCAP nSCAP; omega) ?_
  refine wq_putF (pc := 10) (ci := 7) (k := 0) dX7_init_10 (by first | with_reducible assumption | (show (if (21 : Int) = _ then _ else _) = _; rw [if_neg (by omega)]; assumption)) (by decide) (by decide) (wOK_1 1054 (by decide +kernel) (by decide +kernel)) rfl rfl rfl rfl (fun _ => ⟨by first | rfl | exact (putOK_O _ _ _).1 | exact (putOK_A _ _ _).1, by first | rfl | exact (putOK_O _ _ _).2 | exact (putOK_A _ _ _).2⟩) ?_
  have B1 : Ar μ ε 1 _ _ := Ar_s B0 rfl (Al_i ε 11 128 (128 : Int).toNat 21 0) (by decide)
  generalize wrF (alF ε 11 128 (128 : Int).toNat) 21 0 ((eSz ε : Int) + 1) = ε1 at B1 ⊢
  generalize zr μ ((eSz ε : Int) + 1) = m1 at B1 ⊢
  clear B0 z0 l0 q0
  have z1 : eSz ε1 = 21 + 1 := B1.1
  have l1 : eSl ε1 ≤ eSl ε + 20000 * 1 := B1.2.1
  have q1 : eKind ε1 21 = 8 := by rw [(B1.2.2.1 21 (by omega)).2.1]; exact hk21
  refine wq_aload_n (pc := 13) dX7_init_13 rfl rfl ?_
  refine wq_sipush (pc := 14) dX7_init_14 (by decide) (by decide) ?_
  refine wq_newI (pc := 17) dX7_init_17 ka_int (by omega) (by omega) (by unfold nCAP nSCAP; omega) ?_
  refine wq_putF (pc := 19) (ci := 7) (k := 1) dX7_init_19 (by first | with_reducible assumption | (show (if (21 : Int) = _ then _ else _) = _; rw [if_neg (by omega)]; assumption)) (by decide) (by decide) (wOK_1 1055 (by decide +kernel) (by decide +kernel)) rfl rfl rfl rfl (fun _ => ⟨by first | rfl | exact (putOK_O _ _ _).1 | exact (putOK_A _ _ _).1, by first | rfl | exact (putOK_O _ _ _).2 | exact (putOK_A _ _ _).2⟩) ?_
  have B2 : Ar μ ε 2 _ _ := Ar_s B1 rfl (Al_i ε1 11 128 (128 : Int).toNat 21 1) (by decide)
  generalize wrF (alF ε1 11 128 (128 : Int).toNat) 21 1 ((eSz ε1 : Int) + 1) = ε2 at B2 ⊢
  generalize zr m1 ((eSz ε1 : Int) + 1) = m2 at B2 ⊢
  clear B1 z1 l1 q1
  have z2 : eSz ε2 = 21 + 2 := B2.1
  have l2 : eSl ε2 ≤ eSl ε + 20000 * 2 := B2.2.1
  have q2 : eKind ε2 21 = 8 := by rw [(B2.2.2.1 21 (by omega)).2.1]; exact hk21
  refine wq_aload_n (pc := 22) dX7_init_22 rfl rfl ?_
  refine wq_sipush (pc := 23) dX7_init_23 (by decide) (by decide) ?_
  refine wq_newI (pc := 26) dX7_init_26 ka_int (by omega) (by omega) (by unfold nCAP nSCAP; omega) ?_
  refine wq_putF (pc := 28) (ci := 7) (k := 2) dX7_init_28 (by first | with_reducible assumption | (show (if (21 : Int) = _ then _ else _) = _; rw [if_neg (by omega)]; assumption)) (by decide) (by decide) (wOK_1 1056 (by decide +kernel) (by decide +kernel)) rfl rfl rfl rfl (fun _ => ⟨by first | rfl | exact (putOK_O _ _ _).1 | exact (putOK_A _ _ _).1, by first | rfl | exact (putOK_O _ _ _).2 | exact (putOK_A _ _ _).2⟩) ?_
  have B3 : Ar μ ε 3 _ _ := Ar_s B2 rfl (Al_i ε2 11 128 (128 : Int).toNat 21 2) (by decide)
  generalize wrF (alF ε2 11 128 (128 : Int).toNat) 21 2 ((eSz ε2 : Int) + 1) = ε3 at B3 ⊢
  generalize zr m2 ((eSz ε2 : Int) + 1) = m3 at B3 ⊢
  clear B2 z2 l2 q2
  have z3 : eSz ε3 = 21 + 3 := B3.1
  have l3 : eSl ε3 ≤ eSl ε + 20000 * 3 := B3.2.1
  have q3 : eKind ε3 21 = 8 := by rw [(B3.2.2.1 21 (by omega)).2.1]; exact hk21
  refine wq_aload_n (pc := 31) dX7_init_31 rfl rfl ?_
  refine wq_sipush (pc := 32) dX7_init_32 (by decide) (by decide) ?_
  refine wq_newI (pc := 35) dX7_init_35 ka_int (by omega) (by omega) (by unfold nCAP nSCAP; omega) ?_
  refine wq_putF (pc := 37) (ci := 7) (k := 3) dX7_init_37 (by first | with_reducible assumption | (show (if (21 : Int) = _ then _ else _) = _; rw [if_neg (by omega)]; assumption)) (by decide) (by decide) (wOK_1 1057 (by decide +kernel) (by decide +kernel)) rfl rfl rfl rfl (fun _ => ⟨by first | rfl | exact (putOK_O _ _ _).1 | exact (putOK_A _ _ _).1, by first | rfl | exact (putOK_O _ _ _).2 | exact (putOK_A _ _ _).2⟩) ?_
  have B4 : Ar μ ε 4 _ _ := Ar_s B3 rfl (Al_i ε3 11 128 (128 : Int).toNat 21 3) (by decide)
  generalize wrF (alF ε3 11 128 (128 : Int).toNat) 21 3 ((eSz ε3 : Int) + 1) = ε4 at B4 ⊢
  generalize zr m3 ((eSz ε3 : Int) + 1) = m4 at B4 ⊢
  clear B3 z3 l3 q3
  have z4 : eSz ε4 = 21 + 4 := B4.1
  have l4 : eSl ε4 ≤ eSl ε + 20000 * 4 := B4.2.1
  have q4 : eKind ε4 21 = 8 := by rw [(B4.2.2.1 21 (by omega)).2.1]; exact hk21
  refine wq_aload_n (pc := 40) dX7_init_40 rfl rfl ?_
  refine wq_sipush (pc := 41) dX7_init_41 (by decide) (by decide) ?_
  refine wq_newI (pc := 44) dX7_init_44 ka_int (by omega) (by omega) (by unfold nCAP nSCAP; omega) ?_
  refine wq_putF (pc := 46) (ci := 7) (k := 4) dX7_init_46 (by first | with_reducible assumption | (show (if (21 : Int) = _ then _ else _) = _; rw [if_neg (by omega)]; assumption)) (by decide) (by decide) (wOK_1 1058 (by decide +kernel) (by decide +kernel)) rfl rfl rfl rfl (fun _ => ⟨by first | rfl | exact (putOK_O _ _ _).1 | exact (putOK_A _ _ _).1, by first | rfl | exact (putOK_O _ _ _).2 | exact (putOK_A _ _ _).2⟩) ?_
  have B5 : Ar μ ε 5 _ _ := Ar_s B4 rfl (Al_i ε4 11 128 (128 : Int).toNat 21 4) (by decide)
  generalize wrF (alF ε4 11 128 (128 : Int).toNat) 21 4 ((eSz ε4 : Int) + 1) = ε5 at B5 ⊢
  generalize zr m4 ((eSz ε4 : Int) + 1) = m5 at B5 ⊢
  clear B4 z4 l4 q4
  have z5 : eSz ε5 = 21 + 5 := B5.1
  have l5 : eSl ε5 ≤ eSl ε + 20000 * 5 := B5.2.1
  have q5 : eKind ε5 21 = 8 := by rw [(B5.2.2.1 21 (by omega)).2.1]; exact hk21
  refine wq_aload_n (pc := 49) dX7_init_49 rfl rfl ?_
  refine wq_sipush (pc := 50) dX7_init_50 (by decide) (by decide) ?_
  refine wq_newJ (pc := 53) dX7_init_53 ka_long (by omega) (by omega) (by unfold nCAP nSCAP; omega) ?_
  refine wq_putF (pc := 55) (ci := 7) (k := 5) dX7_init_55 (by first | with_reducible assumption | (show (if (21 : Int) = _ then _ else _) = _; rw [if_neg (by omega)]; assumption)) (by decide) (by decide) (wOK_1 1059 (by decide +kernel) (by decide +kernel)) rfl rfl rfl rfl (fun _ => ⟨by first | rfl | exact (putOK_O _ _ _).1 | exact (putOK_A _ _ _).1, by first | rfl | exact (putOK_O _ _ _).2 | exact (putOK_A _ _ _).2⟩) ?_
  have B6 : Ar μ ε 6 _ _ := Ar_s B5 rfl (Al_i ε5 12 128 (128 : Int).toNat 21 5) (by decide)
  generalize wrF (alF ε5 12 128 (128 : Int).toNat) 21 5 ((eSz ε5 : Int) + 1) = ε6 at B6 ⊢
  generalize zr m5 ((eSz ε5 : Int) + 1) = m6 at B6 ⊢
  clear B5 z5 l5 q5
  have z6 : eSz ε6 = 21 + 6 := B6.1
  have l6 : eSl ε6 ≤ eSl ε + 20000 * 6 := B6.2.1
  have q6 : eKind ε6 21 = 8 := by rw [(B6.2.2.1 21 (by omega)).2.1]; exact hk21
  refine wq_aload_n (pc := 58) dX7_init_58 rfl rfl ?_
  refine wq_sipush (pc := 59) dX7_init_59 (by decide) (by decide) ?_
  refine wq_newI (pc := 62) dX7_init_62 ka_int (by omega) (by omega) (by unfold nCAP nSCAP; omega) ?_
  refine wq_putF (pc := 64) (ci := 7) (k := 6) dX7_init_64 (by first | with_reducible assumption | (show (if (21 : Int) = _ then _ else _) = _; rw [if_neg (by omega)]; assumption)) (by decide) (by decide) (wOK_1 1060 (by decide +kernel) (by decide +kernel)) rfl rfl rfl rfl (fun _ => ⟨by first | rfl | exact (putOK_O _ _ _).1 | exact (putOK_A _ _ _).1, by first | rfl | exact (putOK_O _ _ _).2 | exact (putOK_A _ _ _).2⟩) ?_
  have B7 : Ar μ ε 7 _ _ := Ar_s B6 rfl (Al_i ε6 11 128 (128 : Int).toNat 21 6) (by decide)
  generalize wrF (alF ε6 11 128 (128 : Int).toNat) 21 6 ((eSz ε6 : Int) + 1) = ε7 at B7 ⊢
  generalize zr m6 ((eSz ε6 : Int) + 1) = m7 at B7 ⊢
  clear B6 z6 l6 q6
  have z7 : eSz ε7 = 21 + 7 := B7.1
  have l7 : eSl ε7 ≤ eSl ε + 20000 * 7 := B7.2.1
  have q7 : eKind ε7 21 = 8 := by rw [(B7.2.2.1 21 (by omega)).2.1]; exact hk21
  refine wq_aload_n (pc := 67) dX7_init_67 rfl rfl ?_
  refine wq_sipush (pc := 68) dX7_init_68 (by decide) (by decide) ?_
  refine wq_newI (pc := 71) dX7_init_71 ka_int (by omega) (by omega) (by unfold nCAP nSCAP; omega) ?_
  refine wq_putF (pc := 73) (ci := 7) (k := 7) dX7_init_73 (by first | with_reducible assumption | (show (if (21 : Int) = _ then _ else _) = _; rw [if_neg (by omega)]; assumption)) (by decide) (by decide) (wOK_1 1061 (by decide +kernel) (by decide +kernel)) rfl rfl rfl rfl (fun _ => ⟨by first | rfl | exact (putOK_O _ _ _).1 | exact (putOK_A _ _ _).1, by first | rfl | exact (putOK_O _ _ _).2 | exact (putOK_A _ _ _).2⟩) ?_
  have B8 : Ar μ ε 8 _ _ := Ar_s B7 rfl (Al_i ε7 11 128 (128 : Int).toNat 21 7) (by decide)
  generalize wrF (alF ε7 11 128 (128 : Int).toNat) 21 7 ((eSz ε7 : Int) + 1) = ε8 at B8 ⊢
  generalize zr m7 ((eSz ε7 : Int) + 1) = m8 at B8 ⊢
  clear B7 z7 l7 q7
  have z8 : eSz ε8 = 21 + 8 := B8.1
  have l8 : eSl ε8 ≤ eSl ε + 20000 * 8 := B8.2.1
  have q8 : eKind ε8 21 = 8 := by rw [(B8.2.2.1 21 (by omega)).2.1]; exact hk21
  refine wq_aload_n (pc := 76) dX7_init_76 rfl rfl ?_
  refine wq_sipush (pc := 77) dX7_init_77 (by decide) (by decide) ?_
  refine wq_newI (pc := 80) dX7_init_80 ka_int (by omega) (by omega) (by unfold nCAP nSCAP; omega) ?_
  refine wq_putF (pc := 82) (ci := 7) (k := 8) dX7_init_82 (by first | with_reducible assumption | (show (if (21 : Int) = _ then _ else _) = _; rw [if_neg (by omega)]; assumption)) (by decide) (by decide) (wOK_1 1062 (by decide +kernel) (by decide +kernel)) rfl rfl rfl rfl (fun _ => ⟨by first | rfl | exact (putOK_O _ _ _).1 | exact (putOK_A _ _ _).1, by first | rfl | exact (putOK_O _ _ _).2 | exact (putOK_A _ _ _).2⟩) ?_
  have B9 : Ar μ ε 9 _ _ := Ar_s B8 rfl (Al_i ε8 11 128 (128 : Int).toNat 21 8) (by decide)
  generalize wrF (alF ε8 11 128 (128 : Int).toNat) 21 8 ((eSz ε8 : Int) + 1) = ε9 at B9 ⊢
  generalize zr m8 ((eSz ε8 : Int) + 1) = m9 at B9 ⊢
  clear B8 z8 l8 q8
  have z9 : eSz ε9 = 21 + 9 := B9.1
  have l9 : eSl ε9 ≤ eSl ε + 20000 * 9 := B9.2.1
  have q9 : eKind ε9 21 = 8 := by rw [(B9.2.2.1 21 (by omega)).2.1]; exact hk21
  refine wq_aload_n (pc := 85) dX7_init_85 rfl rfl ?_
  refine wq_sipush (pc := 86) dX7_init_86 (by decide) (by decide) ?_
  refine wq_newZ (pc := 89) dX7_init_89 ka_boolean (by omega) (by omega) (by unfold nCAP nSCAP; omega) ?_
  refine wq_putF (pc := 91) (ci := 7) (k := 9) dX7_init_91 (by first | with_reducible assumption | (show (if (21 : Int) = _ then _ else _) = _; rw [if_neg (by omega)]; assumption)) (by decide) (by decide) (wOK_1 1063 (by decide +kernel) (by decide +kernel)) rfl rfl rfl rfl (fun _ => ⟨by first | rfl | exact (putOK_O _ _ _).1 | exact (putOK_A _ _ _).1, by first | rfl | exact (putOK_O _ _ _).2 | exact (putOK_A _ _ _).2⟩) ?_
  have B10 : Ar μ ε 10 _ _ := Ar_s B9 rfl (Al_i ε9 13 128 (128 : Int).toNat 21 9) (by decide)
  generalize wrF (alF ε9 13 128 (128 : Int).toNat) 21 9 ((eSz ε9 : Int) + 1) = ε10 at B10 ⊢
  generalize zr m9 ((eSz ε9 : Int) + 1) = m10 at B10 ⊢
  clear B9 z9 l9 q9
  have z10 : eSz ε10 = 21 + 10 := B10.1
  have l10 : eSl ε10 ≤ eSl ε + 20000 * 10 := B10.2.1
  have q10 : eKind ε10 21 = 8 := by rw [(B10.2.2.1 21 (by omega)).2.1]; exact hk21
  refine wq_aload_n (pc := 94) dX7_init_94 rfl rfl ?_
  refine wq_sipush (pc := 95) dX7_init_95 (by decide) (by decide) ?_
  refine wq_newI (pc := 98) dX7_init_98 ka_int (by omega) (by omega) (by unfold nCAP nSCAP; omega) ?_
  refine wq_putF (pc := 100) (ci := 7) (k := 10) dX7_init_100 (by first | with_reducible assumption | (show (if (21 : Int) = _ then _ else _) = _; rw [if_neg (by omega)]; assumption)) (by decide) (by decide) (wOK_1 1064 (by decide +kernel) (by decide +kernel)) rfl rfl rfl rfl (fun _ => ⟨by first | rfl | exact (putOK_O _ _ _).1 | exact (putOK_A _ _ _).1, by first | rfl | exact (putOK_O _ _ _).2 | exact (putOK_A _ _ _).2⟩) ?_
  have B11 : Ar μ ε 11 _ _ := Ar_s B10 rfl (Al_i ε10 11 128 (128 : Int).toNat 21 10) (by decide)
  generalize wrF (alF ε10 11 128 (128 : Int).toNat) 21 10 ((eSz ε10 : Int) + 1) = ε11 at B11 ⊢
  generalize zr m10 ((eSz ε10 : Int) + 1) = m11 at B11 ⊢
  clear B10 z10 l10 q10
  have z11 : eSz ε11 = 21 + 11 := B11.1
  have l11 : eSl ε11 ≤ eSl ε + 20000 * 11 := B11.2.1
  have q11 : eKind ε11 21 = 8 := by rw [(B11.2.2.1 21 (by omega)).2.1]; exact hk21
  refine wq_aload_n (pc := 103) dX7_init_103 rfl rfl ?_
  refine wq_sipush (pc := 104) dX7_init_104 (by decide) (by decide) ?_
  refine wq_newI (pc := 107) dX7_init_107 ka_int (by omega) (by omega) (by unfold nCAP nSCAP; omega) ?_
  refine wq_putF (pc := 109) (ci := 7) (k := 11) dX7_init_109 (by first | with_reducible assumption | (show (if (21 : Int) = _ then _ else _) = _; rw [if_neg (by omega)]; assumption)) (by decide) (by decide) (wOK_1 1065 (by decide +kernel) (by decide +kernel)) rfl rfl rfl rfl (fun _ => ⟨by first | rfl | exact (putOK_O _ _ _).1 | exact (putOK_A _ _ _).1, by first | rfl | exact (putOK_O _ _ _).2 | exact (putOK_A _ _ _).2⟩) ?_
  have B12 : Ar μ ε 12 _ _ := Ar_s B11 rfl (Al_i ε11 11 128 (128 : Int).toNat 21 11) (by decide)
  generalize wrF (alF ε11 11 128 (128 : Int).toNat) 21 11 ((eSz ε11 : Int) + 1) = ε12 at B12 ⊢
  generalize zr m11 ((eSz ε11 : Int) + 1) = m12 at B12 ⊢
  clear B11 z11 l11 q11
  have z12 : eSz ε12 = 21 + 12 := B12.1
  have l12 : eSl ε12 ≤ eSl ε + 20000 * 12 := B12.2.1
  have q12 : eKind ε12 21 = 8 := by rw [(B12.2.2.1 21 (by omega)).2.1]; exact hk21
  refine wq_aload_n (pc := 112) dX7_init_112 rfl rfl ?_
  refine wq_bipush (pc := 113) dX7_init_113 (by decide) (by decide) ?_
  refine wq_newI (pc := 115) dX7_init_115 ka_int (by omega) (by omega) (by unfold nCAP nSCAP; omega) ?_
  refine wq_putF (pc := 117) (ci := 7) (k := 12) dX7_init_117 (by first | with_reducible assumption | (show (if (21 : Int) = _ then _ else _) = _; rw [if_neg (by omega)]; assumption)) (by decide) (by decide) (wOK_1 1066 (by decide +kernel) (by decide +kernel)) rfl rfl rfl rfl (fun _ => ⟨by first | rfl | exact (putOK_O _ _ _).1 | exact (putOK_A _ _ _).1, by first | rfl | exact (putOK_O _ _ _).2 | exact (putOK_A _ _ _).2⟩) ?_
  have B13 : Ar μ ε 13 _ _ := Ar_s B12 rfl (Al_i ε12 11 8 (8 : Int).toNat 21 12) (by decide)
  generalize wrF (alF ε12 11 8 (8 : Int).toNat) 21 12 ((eSz ε12 : Int) + 1) = ε13 at B13 ⊢
  generalize zr m12 ((eSz ε12 : Int) + 1) = m13 at B13 ⊢
  clear B12 z12 l12 q12
  have z13 : eSz ε13 = 21 + 13 := B13.1
  have l13 : eSl ε13 ≤ eSl ε + 20000 * 13 := B13.2.1
  have q13 : eKind ε13 21 = 8 := by rw [(B13.2.2.1 21 (by omega)).2.1]; exact hk21
  refine wq_aload_n (pc := 120) dX7_init_120 rfl rfl ?_
  refine wq_bipush (pc := 121) dX7_init_121 (by decide) (by decide) ?_
  refine wq_newI (pc := 123) dX7_init_123 ka_int (by omega) (by omega) (by unfold nCAP nSCAP; omega) ?_
  refine wq_putF (pc := 125) (ci := 7) (k := 13) dX7_init_125 (by first | with_reducible assumption | (show (if (21 : Int) = _ then _ else _) = _; rw [if_neg (by omega)]; assumption)) (by decide) (by decide) (wOK_1 1067 (by decide +kernel) (by decide +kernel)) rfl rfl rfl rfl (fun _ => ⟨by first | rfl | exact (putOK_O _ _ _).1 | exact (putOK_A _ _ _).1, by first | rfl | exact (putOK_O _ _ _).2 | exact (putOK_A _ _ _).2⟩) ?_
  have B14 : Ar μ ε 14 _ _ := Ar_s B13 rfl (Al_i ε13 11 8 (8 : Int).toNat 21 13) (by decide)
  generalize wrF (alF ε13 11 8 (8 : Int).toNat) 21 13 ((eSz ε13 : Int) + 1) = ε14 at B14 ⊢
  generalize zr m13 ((eSz ε13 : Int) + 1) = m14 at B14 ⊢
  clear B13 z13 l13 q13
  have z14 : eSz ε14 = 21 + 14 := B14.1
  have l14 : eSl ε14 ≤ eSl ε + 20000 * 14 := B14.2.1
  have q14 : eKind ε14 21 = 8 := by rw [(B14.2.2.1 21 (by omega)).2.1]; exact hk21
  refine wq_aload_n (pc := 128) dX7_init_128 rfl rfl ?_
  refine wq_bipush (pc := 129) dX7_init_129 (by decide) (by decide) ?_
  refine wq_newI (pc := 131) dX7_init_131 ka_int (by omega) (by omega) (by unfold nCAP nSCAP; omega) ?_
  refine wq_putF (pc := 133) (ci := 7) (k := 14) dX7_init_133 (by first | with_reducible assumption | (show (if (21 : Int) = _ then _ else _) = _; rw [if_neg (by omega)]; assumption)) (by decide) (by decide) (wOK_1 1068 (by decide +kernel) (by decide +kernel)) rfl rfl rfl rfl (fun _ => ⟨by first | rfl | exact (putOK_O _ _ _).1 | exact (putOK_A _ _ _).1, by first | rfl | exact (putOK_O _ _ _).2 | exact (putOK_A _ _ _).2⟩) ?_
  have B15 : Ar μ ε 15 _ _ := Ar_s B14 rfl (Al_i ε14 11 8 (8 : Int).toNat 21 14) (by decide)
  generalize wrF (alF ε14 11 8 (8 : Int).toNat) 21 14 ((eSz ε14 : Int) + 1) = ε15 at B15 ⊢
  generalize zr m14 ((eSz ε14 : Int) + 1) = m15 at B15 ⊢
  clear B14 z14 l14 q14
  have z15 : eSz ε15 = 21 + 15 := B15.1
  have l15 : eSl ε15 ≤ eSl ε + 20000 * 15 := B15.2.1
  have q15 : eKind ε15 21 = 8 := by rw [(B15.2.2.1 21 (by omega)).2.1]; exact hk21
  refine wq_aload_n (pc := 136) dX7_init_136 rfl rfl ?_
  refine wq_bipush (pc := 137) dX7_init_137 (by decide) (by decide) ?_
  refine wq_newI (pc := 139) dX7_init_139 ka_int (by omega) (by omega) (by unfold nCAP nSCAP; omega) ?_
  refine wq_putF (pc := 141) (ci := 7) (k := 15) dX7_init_141 (by first | with_reducible assumption | (show (if (21 : Int) = _ then _ else _) = _; rw [if_neg (by omega)]; assumption)) (by decide) (by decide) (wOK_1 1069 (by decide +kernel) (by decide +kernel)) rfl rfl rfl rfl (fun _ => ⟨by first | rfl | exact (putOK_O _ _ _).1 | exact (putOK_A _ _ _).1, by first | rfl | exact (putOK_O _ _ _).2 | exact (putOK_A _ _ _).2⟩) ?_
  have B16 : Ar μ ε 16 _ _ := Ar_s B15 rfl (Al_i ε15 11 8 (8 : Int).toNat 21 15) (by decide)
  generalize wrF (alF ε15 11 8 (8 : Int).toNat) 21 15 ((eSz ε15 : Int) + 1) = ε16 at B16 ⊢
  generalize zr m15 ((eSz ε15 : Int) + 1) = m16 at B16 ⊢
  clear B15 z15 l15 q15
  have z16 : eSz ε16 = 21 + 16 := B16.1
  have l16 : eSl ε16 ≤ eSl ε + 20000 * 16 := B16.2.1
  have q16 : eKind ε16 21 = 8 := by rw [(B16.2.2.1 21 (by omega)).2.1]; exact hk21
  refine wq_aload_n (pc := 144) dX7_init_144 rfl rfl ?_
  refine wq_bipush (pc := 145) dX7_init_145 (by decide) (by decide) ?_
  refine wq_newI (pc := 147) dX7_init_147 ka_int (by omega) (by omega) (by unfold nCAP nSCAP; omega) ?_
  refine wq_putF (pc := 149) (ci := 7) (k := 18) dX7_init_149 (by first | with_reducible assumption | (show (if (21 : Int) = _ then _ else _) = _; rw [if_neg (by omega)]; assumption)) (by decide) (by decide) (wOK_1 1072 (by decide +kernel) (by decide +kernel)) rfl rfl rfl rfl (fun _ => ⟨by first | rfl | exact (putOK_O _ _ _).1 | exact (putOK_A _ _ _).1, by first | rfl | exact (putOK_O _ _ _).2 | exact (putOK_A _ _ _).2⟩) ?_
  have B17 : Ar μ ε 17 _ _ := Ar_s B16 rfl (Al_i ε16 11 8 (8 : Int).toNat 21 18) (by decide)
  generalize wrF (alF ε16 11 8 (8 : Int).toNat) 21 18 ((eSz ε16 : Int) + 1) = ε17 at B17 ⊢
  generalize zr m16 ((eSz ε16 : Int) + 1) = m17 at B17 ⊢
  clear B16 z16 l16 q16
  have z17 : eSz ε17 = 21 + 17 := B17.1
  have l17 : eSl ε17 ≤ eSl ε + 20000 * 17 := B17.2.1
  have q17 : eKind ε17 21 = 8 := by rw [(B17.2.2.1 21 (by omega)).2.1]; exact hk21
  refine wq_aload_n (pc := 152) dX7_init_152 rfl rfl ?_
  refine wq_sipush (pc := 153) dX7_init_153 (by decide) (by decide) ?_
  refine wq_newI (pc := 156) dX7_init_156 ka_int (by omega) (by omega) (by unfold nCAP nSCAP; omega) ?_
  refine wq_putF (pc := 158) (ci := 7) (k := 23) dX7_init_158 (by first | with_reducible assumption | (show (if (21 : Int) = _ then _ else _) = _; rw [if_neg (by omega)]; assumption)) (by decide) (by decide) (wOK_1 1077 (by decide +kernel) (by decide +kernel)) rfl rfl rfl rfl (fun _ => ⟨by first | rfl | exact (putOK_O _ _ _).1 | exact (putOK_A _ _ _).1, by first | rfl | exact (putOK_O _ _ _).2 | exact (putOK_A _ _ _).2⟩) ?_
  have B18 : Ar μ ε 18 _ _ := Ar_s B17 rfl (Al_i ε17 11 2048 (2048 : Int).toNat 21 23) (by decide)
  generalize wrF (alF ε17 11 2048 (2048 : Int).toNat) 21 23 ((eSz ε17 : Int) + 1) = ε18 at B18 ⊢
  generalize zr m17 ((eSz ε17 : Int) + 1) = m18 at B18 ⊢
  clear B17 z17 l17 q17
  have z18 : eSz ε18 = 21 + 18 := B18.1
  have l18 : eSl ε18 ≤ eSl ε + 20000 * 18 := B18.2.1
  have q18 : eKind ε18 21 = 8 := by rw [(B18.2.2.1 21 (by omega)).2.1]; exact hk21
  refine wq_aload_n (pc := 161) dX7_init_161 rfl rfl ?_
  refine wq_sipush (pc := 162) dX7_init_162 (by decide) (by decide) ?_
  refine wq_newI (pc := 165) dX7_init_165 ka_int (by omega) (by omega) (by unfold nCAP nSCAP; omega) ?_
  refine wq_putF (pc := 167) (ci := 7) (k := 24) dX7_init_167 (by first | with_reducible assumption | (show (if (21 : Int) = _ then _ else _) = _; rw [if_neg (by omega)]; assumption)) (by decide) (by decide) (wOK_1 1078 (by decide +kernel) (by decide +kernel)) rfl rfl rfl rfl (fun _ => ⟨by first | rfl | exact (putOK_O _ _ _).1 | exact (putOK_A _ _ _).1, by first | rfl | exact (putOK_O _ _ _).2 | exact (putOK_A _ _ _).2⟩) ?_
  have B19 : Ar μ ε 19 _ _ := Ar_s B18 rfl (Al_i ε18 11 2048 (2048 : Int).toNat 21 24) (by decide)
  generalize wrF (alF ε18 11 2048 (2048 : Int).toNat) 21 24 ((eSz ε18 : Int) + 1) = ε19 at B19 ⊢
  generalize zr m18 ((eSz ε18 : Int) + 1) = m19 at B19 ⊢
  clear B18 z18 l18 q18
  have z19 : eSz ε19 = 21 + 19 := B19.1
  have l19 : eSl ε19 ≤ eSl ε + 20000 * 19 := B19.2.1
  have q19 : eKind ε19 21 = 8 := by rw [(B19.2.2.1 21 (by omega)).2.1]; exact hk21
  refine wq_aload_n (pc := 170) dX7_init_170 rfl rfl ?_
  refine wq_sipush (pc := 171) dX7_init_171 (by decide) (by decide) ?_
  refine wq_newZ (pc := 174) dX7_init_174 ka_boolean (by omega) (by omega) (by unfold nCAP nSCAP; omega) ?_
  refine wq_putF (pc := 176) (ci := 7) (k := 26) dX7_init_176 (by first | with_reducible assumption | (show (if (21 : Int) = _ then _ else _) = _; rw [if_neg (by omega)]; assumption)) (by decide) (by decide) (wOK_1 1080 (by decide +kernel) (by decide +kernel)) rfl rfl rfl rfl (fun _ => ⟨by first | rfl | exact (putOK_O _ _ _).1 | exact (putOK_A _ _ _).1, by first | rfl | exact (putOK_O _ _ _).2 | exact (putOK_A _ _ _).2⟩) ?_
  have B20 : Ar μ ε 20 _ _ := Ar_s B19 rfl (Al_i ε19 13 128 (128 : Int).toNat 21 26) (by decide)
  generalize wrF (alF ε19 13 128 (128 : Int).toNat) 21 26 ((eSz ε19 : Int) + 1) = ε20 at B20 ⊢
  generalize zr m19 ((eSz ε19 : Int) + 1) = m20 at B20 ⊢
  clear B19 z19 l19 q19
  have z20 : eSz ε20 = 21 + 20 := B20.1
  have l20 : eSl ε20 ≤ eSl ε + 20000 * 20 := B20.2.1
  have q20 : eKind ε20 21 = 8 := by rw [(B20.2.2.1 21 (by omega)).2.1]; exact hk21
  refine wq_aload_n (pc := 179) dX7_init_179 rfl rfl ?_
  refine wq_sipush (pc := 180) dX7_init_180 (by decide) (by decide) ?_
  refine wq_newZ (pc := 183) dX7_init_183 ka_boolean (by omega) (by omega) (by unfold nCAP nSCAP; omega) ?_
  refine wq_putF (pc := 185) (ci := 7) (k := 28) dX7_init_185 (by first | with_reducible assumption | (show (if (21 : Int) = _ then _ else _) = _; rw [if_neg (by omega)]; assumption)) (by decide) (by decide) (wOK_1 1082 (by decide +kernel) (by decide +kernel)) rfl rfl rfl rfl (fun _ => ⟨by first | rfl | exact (putOK_O _ _ _).1 | exact (putOK_A _ _ _).1, by first | rfl | exact (putOK_O _ _ _).2 | exact (putOK_A _ _ _).2⟩) ?_
  have B21 : Ar μ ε 21 _ _ := Ar_s B20 rfl (Al_i ε20 13 2048 (2048 : Int).toNat 21 28) (by decide)
  generalize wrF (alF ε20 13 2048 (2048 : Int).toNat) 21 28 ((eSz ε20 : Int) + 1) = ε21 at B21 ⊢
  generalize zr m20 ((eSz ε20 : Int) + 1) = m21 at B21 ⊢
  clear B20 z20 l20 q20
  have z21 : eSz ε21 = 21 + 21 := B21.1
  have l21 : eSl ε21 ≤ eSl ε + 20000 * 21 := B21.2.1
  have q21 : eKind ε21 21 = 8 := by rw [(B21.2.2.1 21 (by omega)).2.1]; exact hk21
  refine wq_aload_n (pc := 188) dX7_init_188 rfl rfl ?_
  refine wq_sipush (pc := 189) dX7_init_189 (by decide) (by decide) ?_
  refine wq_newI (pc := 192) dX7_init_192 ka_int (by omega) (by omega) (by unfold nCAP nSCAP; omega) ?_
  refine wq_putF (pc := 194) (ci := 7) (k := 29) dX7_init_194 (by first | with_reducible assumption | (show (if (21 : Int) = _ then _ else _) = _; rw [if_neg (by omega)]; assumption)) (by decide) (by decide) (wOK_1 1083 (by decide +kernel) (by decide +kernel)) rfl rfl rfl rfl (fun _ => ⟨by first | rfl | exact (putOK_O _ _ _).1 | exact (putOK_A _ _ _).1, by first | rfl | exact (putOK_O _ _ _).2 | exact (putOK_A _ _ _).2⟩) ?_
  have B22 : Ar μ ε 22 _ _ := Ar_s B21 rfl (Al_i ε21 11 256 (256 : Int).toNat 21 29) (by decide)
  generalize wrF (alF ε21 11 256 (256 : Int).toNat) 21 29 ((eSz ε21 : Int) + 1) = ε22 at B22 ⊢
  generalize zr m21 ((eSz ε21 : Int) + 1) = m22 at B22 ⊢
  clear B21 z21 l21 q21
  have z22 : eSz ε22 = 21 + 22 := B22.1
  have l22 : eSl ε22 ≤ eSl ε + 20000 * 22 := B22.2.1
  have q22 : eKind ε22 21 = 8 := by rw [(B22.2.2.1 21 (by omega)).2.1]; exact hk21
  refine wq_aload_n (pc := 197) dX7_init_197 rfl rfl ?_
  refine wq_sipush (pc := 198) dX7_init_198 (by decide) (by decide) ?_
  refine wq_newI (pc := 201) dX7_init_201 ka_int (by omega) (by omega) (by unfold nCAP nSCAP; omega) ?_
  refine wq_putF (pc := 203) (ci := 7) (k := 30) dX7_init_203 (by first | with_reducible assumption | (show (if (21 : Int) = _ then _ else _) = _; rw [if_neg (by omega)]; assumption)) (by decide) (by decide) (wOK_1 1084 (by decide +kernel) (by decide +kernel)) rfl rfl rfl rfl (fun _ => ⟨by first | rfl | exact (putOK_O _ _ _).1 | exact (putOK_A _ _ _).1, by first | rfl | exact (putOK_O _ _ _).2 | exact (putOK_A _ _ _).2⟩) ?_
  have B23 : Ar μ ε 23 _ _ := Ar_s B22 rfl (Al_i ε22 11 256 (256 : Int).toNat 21 30) (by decide)
  generalize wrF (alF ε22 11 256 (256 : Int).toNat) 21 30 ((eSz ε22 : Int) + 1) = ε23 at B23 ⊢
  generalize zr m22 ((eSz ε22 : Int) + 1) = m23 at B23 ⊢
  clear B22 z22 l22 q22
  have z23 : eSz ε23 = 21 + 23 := B23.1
  have l23 : eSl ε23 ≤ eSl ε + 20000 * 23 := B23.2.1
  have q23 : eKind ε23 21 = 8 := by rw [(B23.2.2.1 21 (by omega)).2.1]; exact hk21
  refine wq_aload_n (pc := 206) dX7_init_206 rfl rfl ?_
  refine wq_iconst (pc := 207) dX7_init_207 ?_
  refine wq_newI (pc := 208) dX7_init_208 ka_int (by omega) (by omega) (by unfold nCAP nSCAP; omega) ?_
  refine wq_putF (pc := 210) (ci := 7) (k := 31) dX7_init_210 (by first | with_reducible assumption | (show (if (21 : Int) = _ then _ else _) = _; rw [if_neg (by omega)]; assumption)) (by decide) (by decide) (wOK_1 1085 (by decide +kernel) (by decide +kernel)) rfl rfl rfl rfl (fun _ => ⟨by first | rfl | exact (putOK_O _ _ _).1 | exact (putOK_A _ _ _).1, by first | rfl | exact (putOK_O _ _ _).2 | exact (putOK_A _ _ _).2⟩) ?_
  have B24 : Ar μ ε 24 _ _ := Ar_s B23 rfl (Al_i ε23 11 2 (2 : Int).toNat 21 31) (by decide)
  generalize wrF (alF ε23 11 2 (2 : Int).toNat) 21 31 ((eSz ε23 : Int) + 1) = ε24 at B24 ⊢
  generalize zr m23 ((eSz ε23 : Int) + 1) = m24 at B24 ⊢
  clear B23 z23 l23 q23
  have z24 : eSz ε24 = 21 + 24 := B24.1
  have l24 : eSl ε24 ≤ eSl ε + 20000 * 24 := B24.2.1
  have q24 : eKind ε24 21 = 8 := by rw [(B24.2.2.1 21 (by omega)).2.1]; exact hk21
  refine wq_aload_n (pc := 213) dX7_init_213 rfl rfl ?_
  refine wq_sipush (pc := 214) dX7_init_214 (by decide) (by decide) ?_
  refine wq_newI (pc := 217) dX7_init_217 ka_int (by omega) (by omega) (by unfold nCAP nSCAP; omega) ?_
  refine wq_putF (pc := 219) (ci := 7) (k := 32) dX7_init_219 (by first | with_reducible assumption | (show (if (21 : Int) = _ then _ else _) = _; rw [if_neg (by omega)]; assumption)) (by decide) (by decide) (wOK_1 1086 (by decide +kernel) (by decide +kernel)) rfl rfl rfl rfl (fun _ => ⟨by first | rfl | exact (putOK_O _ _ _).1 | exact (putOK_A _ _ _).1, by first | rfl | exact (putOK_O _ _ _).2 | exact (putOK_A _ _ _).2⟩) ?_
  have B25 : Ar μ ε 25 _ _ := Ar_s B24 rfl (Al_i ε24 11 256 (256 : Int).toNat 21 32) (by decide)
  generalize wrF (alF ε24 11 256 (256 : Int).toNat) 21 32 ((eSz ε24 : Int) + 1) = ε25 at B25 ⊢
  generalize zr m24 ((eSz ε24 : Int) + 1) = m25 at B25 ⊢
  clear B24 z24 l24 q24
  have z25 : eSz ε25 = 21 + 25 := B25.1
  have l25 : eSl ε25 ≤ eSl ε + 20000 * 25 := B25.2.1
  have q25 : eKind ε25 21 = 8 := by rw [(B25.2.2.1 21 (by omega)).2.1]; exact hk21
  refine wq_aload_n (pc := 222) dX7_init_222 rfl rfl ?_
  refine wq_sipush (pc := 223) dX7_init_223 (by decide) (by decide) ?_
  refine wq_newI (pc := 226) dX7_init_226 ka_int (by omega) (by omega) (by unfold nCAP nSCAP; omega) ?_
  refine wq_putF (pc := 228) (ci := 7) (k := 33) dX7_init_228 (by first | with_reducible assumption | (show (if (21 : Int) = _ then _ else _) = _; rw [if_neg (by omega)]; assumption)) (by decide) (by decide) (wOK_1 1087 (by decide +kernel) (by decide +kernel)) rfl rfl rfl rfl (fun _ => ⟨by first | rfl | exact (putOK_O _ _ _).1 | exact (putOK_A _ _ _).1, by first | rfl | exact (putOK_O _ _ _).2 | exact (putOK_A _ _ _).2⟩) ?_
  have B26 : Ar μ ε 26 _ _ := Ar_s B25 rfl (Al_i ε25 11 256 (256 : Int).toNat 21 33) (by decide)
  generalize wrF (alF ε25 11 256 (256 : Int).toNat) 21 33 ((eSz ε25 : Int) + 1) = ε26 at B26 ⊢
  generalize zr m25 ((eSz ε25 : Int) + 1) = m26 at B26 ⊢
  clear B25 z25 l25 q25
  have z26 : eSz ε26 = 21 + 26 := B26.1
  have l26 : eSl ε26 ≤ eSl ε + 20000 * 26 := B26.2.1
  have q26 : eKind ε26 21 = 8 := by rw [(B26.2.2.1 21 (by omega)).2.1]; exact hk21
  refine wq_aload_n (pc := 231) dX7_init_231 rfl rfl ?_
  refine wq_iconst (pc := 232) dX7_init_232 ?_
  refine wq_newI (pc := 233) dX7_init_233 ka_int (by omega) (by omega) (by unfold nCAP nSCAP; omega) ?_
  refine wq_putF (pc := 235) (ci := 7) (k := 34) dX7_init_235 (by first | with_reducible assumption | (show (if (21 : Int) = _ then _ else _) = _; rw [if_neg (by omega)]; assumption)) (by decide) (by decide) (wOK_1 1088 (by decide +kernel) (by decide +kernel)) rfl rfl rfl rfl (fun _ => ⟨by first | rfl | exact (putOK_O _ _ _).1 | exact (putOK_A _ _ _).1, by first | rfl | exact (putOK_O _ _ _).2 | exact (putOK_A _ _ _).2⟩) ?_
  have B27 : Ar μ ε 27 _ _ := Ar_s B26 rfl (Al_i ε26 11 2 (2 : Int).toNat 21 34) (by decide)
  generalize wrF (alF ε26 11 2 (2 : Int).toNat) 21 34 ((eSz ε26 : Int) + 1) = ε27 at B27 ⊢
  generalize zr m26 ((eSz ε26 : Int) + 1) = m27 at B27 ⊢
  clear B26 z26 l26 q26
  have z27 : eSz ε27 = 21 + 27 := B27.1
  have l27 : eSl ε27 ≤ eSl ε + 20000 * 27 := B27.2.1
  have q27 : eKind ε27 21 = 8 := by rw [(B27.2.2.1 21 (by omega)).2.1]; exact hk21
  refine wq_aload_n (pc := 238) dX7_init_238 rfl rfl ?_
  refine wq_sipush (pc := 239) dX7_init_239 (by decide) (by decide) ?_
  refine wq_newI (pc := 242) dX7_init_242 ka_int (by omega) (by omega) (by unfold nCAP nSCAP; omega) ?_
  refine wq_putF (pc := 244) (ci := 7) (k := 35) dX7_init_244 (by first | with_reducible assumption | (show (if (21 : Int) = _ then _ else _) = _; rw [if_neg (by omega)]; assumption)) (by decide) (by decide) (wOK_1 1089 (by decide +kernel) (by decide +kernel)) rfl rfl rfl rfl (fun _ => ⟨by first | rfl | exact (putOK_O _ _ _).1 | exact (putOK_A _ _ _).1, by first | rfl | exact (putOK_O _ _ _).2 | exact (putOK_A _ _ _).2⟩) ?_
  have B28 : Ar μ ε 28 _ _ := Ar_s B27 rfl (Al_i ε27 11 16384 (16384 : Int).toNat 21 35) (by decide)
  generalize wrF (alF ε27 11 16384 (16384 : Int).toNat) 21 35 ((eSz ε27 : Int) + 1) = ε28 at B28 ⊢
  generalize zr m27 ((eSz ε27 : Int) + 1) = m28 at B28 ⊢
  clear B27 z27 l27 q27
  have z28 : eSz ε28 = 21 + 28 := B28.1
  have l28 : eSl ε28 ≤ eSl ε + 20000 * 28 := B28.2.1
  have q28 : eKind ε28 21 = 8 := by rw [(B28.2.2.1 21 (by omega)).2.1]; exact hk21
  refine wq_aload_n (pc := 247) dX7_init_247 rfl rfl ?_
  refine wq_sipush (pc := 248) dX7_init_248 (by decide) (by decide) ?_
  refine wq_newI (pc := 251) dX7_init_251 ka_int (by omega) (by omega) (by unfold nCAP nSCAP; omega) ?_
  refine wq_putF (pc := 253) (ci := 7) (k := 36) dX7_init_253 (by first | with_reducible assumption | (show (if (21 : Int) = _ then _ else _) = _; rw [if_neg (by omega)]; assumption)) (by decide) (by decide) (wOK_1 1090 (by decide +kernel) (by decide +kernel)) rfl rfl rfl rfl (fun _ => ⟨by first | rfl | exact (putOK_O _ _ _).1 | exact (putOK_A _ _ _).1, by first | rfl | exact (putOK_O _ _ _).2 | exact (putOK_A _ _ _).2⟩) ?_
  have B29 : Ar μ ε 29 _ _ := Ar_s B28 rfl (Al_i ε28 11 16384 (16384 : Int).toNat 21 36) (by decide)
  generalize wrF (alF ε28 11 16384 (16384 : Int).toNat) 21 36 ((eSz ε28 : Int) + 1) = ε29 at B29 ⊢
  generalize zr m28 ((eSz ε28 : Int) + 1) = m29 at B29 ⊢
  clear B28 z28 l28 q28
  have z29 : eSz ε29 = 21 + 29 := B29.1
  have l29 : eSl ε29 ≤ eSl ε + 20000 * 29 := B29.2.1
  have q29 : eKind ε29 21 = 8 := by rw [(B29.2.2.1 21 (by omega)).2.1]; exact hk21
  refine wq_aload_n (pc := 256) dX7_init_256 rfl rfl ?_
  refine wq_sipush (pc := 257) dX7_init_257 (by decide) (by decide) ?_
  refine wq_newZ (pc := 260) dX7_init_260 ka_boolean (by omega) (by omega) (by unfold nCAP nSCAP; omega) ?_
  refine wq_putF (pc := 262) (ci := 7) (k := 37) dX7_init_262 (by first | with_reducible assumption | (show (if (21 : Int) = _ then _ else _) = _; rw [if_neg (by omega)]; assumption)) (by decide) (by decide) (wOK_1 1091 (by decide +kernel) (by decide +kernel)) rfl rfl rfl rfl (fun _ => ⟨by first | rfl | exact (putOK_O _ _ _).1 | exact (putOK_A _ _ _).1, by first | rfl | exact (putOK_O _ _ _).2 | exact (putOK_A _ _ _).2⟩) ?_
  have B30 : Ar μ ε 30 _ _ := Ar_s B29 rfl (Al_i ε29 13 128 (128 : Int).toNat 21 37) (by decide)
  generalize wrF (alF ε29 13 128 (128 : Int).toNat) 21 37 ((eSz ε29 : Int) + 1) = ε30 at B30 ⊢
  generalize zr m29 ((eSz ε29 : Int) + 1) = m30 at B30 ⊢
  clear B29 z29 l29 q29
  have z30 : eSz ε30 = 21 + 30 := B30.1
  have l30 : eSl ε30 ≤ eSl ε + 20000 * 30 := B30.2.1
  have q30 : eKind ε30 21 = 8 := by rw [(B30.2.2.1 21 (by omega)).2.1]; exact hk21
  refine wq_aload_n (pc := 265) dX7_init_265 rfl rfl ?_
  refine wq_bipush (pc := 266) dX7_init_266 (by decide) (by decide) ?_
  refine wq_newI (pc := 268) dX7_init_268 ka_int (by omega) (by omega) (by unfold nCAP nSCAP; omega) ?_
  refine wq_putF (pc := 270) (ci := 7) (k := 38) dX7_init_270 (by first | with_reducible assumption | (show (if (21 : Int) = _ then _ else _) = _; rw [if_neg (by omega)]; assumption)) (by decide) (by decide) (wOK_1 1092 (by decide +kernel) (by decide +kernel)) rfl rfl rfl rfl (fun _ => ⟨by first | rfl | exact (putOK_O _ _ _).1 | exact (putOK_A _ _ _).1, by first | rfl | exact (putOK_O _ _ _).2 | exact (putOK_A _ _ _).2⟩) ?_
  have B31 : Ar μ ε 31 _ _ := Ar_s B30 rfl (Al_i ε30 11 16 (16 : Int).toNat 21 38) (by decide)
  generalize wrF (alF ε30 11 16 (16 : Int).toNat) 21 38 ((eSz ε30 : Int) + 1) = ε31 at B31 ⊢
  generalize zr m30 ((eSz ε30 : Int) + 1) = m31 at B31 ⊢
  clear B30 z30 l30 q30
  have z31 : eSz ε31 = 21 + 31 := B31.1
  have l31 : eSl ε31 ≤ eSl ε + 20000 * 31 := B31.2.1
  have q31 : eKind ε31 21 = 8 := by rw [(B31.2.2.1 21 (by omega)).2.1]; exact hk21
  refine wq_aload_n (pc := 273) dX7_init_273 rfl rfl ?_
  refine wq_sipush (pc := 274) dX7_init_274 (by decide) (by decide) ?_
  refine wq_newZ (pc := 277) dX7_init_277 ka_boolean (by omega) (by omega) (by unfold nCAP nSCAP; omega) ?_
  refine wq_putF (pc := 279) (ci := 7) (k := 39) dX7_init_279 (by first | with_reducible assumption | (show (if (21 : Int) = _ then _ else _) = _; rw [if_neg (by omega)]; assumption)) (by decide) (by decide) (wOK_1 1093 (by decide +kernel) (by decide +kernel)) rfl rfl rfl rfl (fun _ => ⟨by first | rfl | exact (putOK_O _ _ _).1 | exact (putOK_A _ _ _).1, by first | rfl | exact (putOK_O _ _ _).2 | exact (putOK_A _ _ _).2⟩) ?_
  have B32 : Ar μ ε 32 _ _ := Ar_s B31 rfl (Al_i ε31 13 2048 (2048 : Int).toNat 21 39) (by decide)
  generalize wrF (alF ε31 13 2048 (2048 : Int).toNat) 21 39 ((eSz ε31 : Int) + 1) = ε32 at B32 ⊢
  generalize zr m31 ((eSz ε31 : Int) + 1) = m32 at B32 ⊢
  clear B31 z31 l31 q31
  have z32 : eSz ε32 = 21 + 32 := B32.1
  have l32 : eSl ε32 ≤ eSl ε + 20000 * 32 := B32.2.1
  have q32 : eKind ε32 21 = 8 := by rw [(B32.2.2.1 21 (by omega)).2.1]; exact hk21
  refine wq_aload_n (pc := 282) dX7_init_282 rfl rfl ?_
  refine wq_bipush (pc := 283) dX7_init_283 (by decide) (by decide) ?_
  refine wq_newI (pc := 285) dX7_init_285 ka_int (by omega) (by omega) (by unfold nCAP nSCAP; omega) ?_
  refine wq_putF (pc := 287) (ci := 7) (k := 40) dX7_init_287 (by first | with_reducible assumption | (show (if (21 : Int) = _ then _ else _) = _; rw [if_neg (by omega)]; assumption)) (by decide) (by decide) (wOK_1 1094 (by decide +kernel) (by decide +kernel)) rfl rfl rfl rfl (fun _ => ⟨by first | rfl | exact (putOK_O _ _ _).1 | exact (putOK_A _ _ _).1, by first | rfl | exact (putOK_O _ _ _).2 | exact (putOK_A _ _ _).2⟩) ?_
  have B33 : Ar μ ε 33 _ _ := Ar_s B32 rfl (Al_i ε32 11 16 (16 : Int).toNat 21 40) (by decide)
  generalize wrF (alF ε32 11 16 (16 : Int).toNat) 21 40 ((eSz ε32 : Int) + 1) = ε33 at B33 ⊢
  generalize zr m32 ((eSz ε32 : Int) + 1) = m33 at B33 ⊢
  clear B32 z32 l32 q32
  have z33 : eSz ε33 = 21 + 33 := B33.1
  have l33 : eSl ε33 ≤ eSl ε + 20000 * 33 := B33.2.1
  have q33 : eKind ε33 21 = 8 := by rw [(B33.2.2.1 21 (by omega)).2.1]; exact hk21
  refine wq_aload_n (pc := 290) dX7_init_290 rfl rfl ?_
  refine wq_bipush (pc := 291) dX7_init_291 (by decide) (by decide) ?_
  refine wq_newZ (pc := 293) dX7_init_293 ka_boolean (by omega) (by omega) (by unfold nCAP nSCAP; omega) ?_
  refine wq_putF (pc := 295) (ci := 7) (k := 41) dX7_init_295 (by first | with_reducible assumption | (show (if (21 : Int) = _ then _ else _) = _; rw [if_neg (by omega)]; assumption)) (by decide) (by decide) (wOK_1 1095 (by decide +kernel) (by decide +kernel)) rfl rfl rfl rfl (fun _ => ⟨by first | rfl | exact (putOK_O _ _ _).1 | exact (putOK_A _ _ _).1, by first | rfl | exact (putOK_O _ _ _).2 | exact (putOK_A _ _ _).2⟩) ?_
  have B34 : Ar μ ε 34 _ _ := Ar_s B33 rfl (Al_i ε33 13 16 (16 : Int).toNat 21 41) (by decide)
  generalize wrF (alF ε33 13 16 (16 : Int).toNat) 21 41 ((eSz ε33 : Int) + 1) = ε34 at B34 ⊢
  generalize zr m33 ((eSz ε33 : Int) + 1) = m34 at B34 ⊢
  clear B33 z33 l33 q33
  have z34 : eSz ε34 = 21 + 34 := B34.1
  have l34 : eSl ε34 ≤ eSl ε + 20000 * 34 := B34.2.1
  have q34 : eKind ε34 21 = 8 := by rw [(B34.2.2.1 21 (by omega)).2.1]; exact hk21
  have s35 : eFin ε34 21 13 = 35 := (B34.2.2.2 13 _ _ _ (by decide) rfl).2.2.2
  have s37 : eFin ε34 21 15 = 37 := (B34.2.2.2 15 _ _ _ (by decide) rfl).2.2.2
  have k35 : eKind ε34 35 = 11 := (B34.2.2.2 13 _ _ _ (by decide) rfl).1
  have k37 : eKind ε34 37 = 11 := (B34.2.2.2 15 _ _ _ (by decide) rfl).1
  have n35 : eLen ε34 35 = 8 := (B34.2.2.2 13 _ _ _ (by decide) rfl).2.1
  have n37 : eLen ε34 37 = 8 := (B34.2.2.2 15 _ _ _ (by decide) rfl).2.1
  refine wq_iconst (pc := 298) dX7_init_298 ?_
  refine wq_istore_n (pc := 299) (L' := [(1, _), (0, _)]) dX7_init_299 rfl rfl (by decide) ?_
  have loop1 : ∀ (n k : Nat), ∀ (m : nMem) (i : Int), k ≤ 8 → 8 < k + n → i = (k : Int) → (∀ x j, x ≠ 35 → x ≠ 37 → m x j = m34 x j) → (∀ b : Int, 0 ≤ b → b < k → m 35 b = 1 ∧ m 37 b = b) → (∀ b : Int, ¬ (0 ≤ b ∧ b < 8) → m 35 b = 0 ∧ m 37 b = 0) → wp mX7_init 300 [(0, vR 21), (1, vI i)] [] m ε34 Q := by
    intro n
    induction n with
    | zero => intro k m i hk1 hk2 e0 e1 e2 e3; exact absurd hk2 (by omega)
    | succ n ih =>
      intro k m i hk1 hk2 e0 e1 e2 e3
      subst e0
      refine wq_iload_n (pc := 300) dX7_init_300 rfl rfl ?_
      refine wq_bipush (pc := 301) dX7_init_301 (by decide) (by decide) ?_
      refine wq_icmp_ge (pc := 303) (tgt := 326) dX7_init_303 (by decide) (by first | (unfold inR; omega) | assumption) (by first | (unfold inR; omega) | assumption) (fun c2 => ?_) (fun c2 => ?_)
      · skip
        refine wq_aload_n (pc := 326) dX7_init_326 rfl rfl ?_
        refine wq_bipush (pc := 327) dX7_init_327 (by decide) (by decide) ?_
        refine wq_putI (pc := 329) (kk := 16) dX7_init_329 (gf_X7_114 _ rfl) (by first | with_reducible assumption | (show (if (21 : Int) = _ then _ else _) = _; rw [if_neg (by omega)]; assumption)) rfl rfl rfl rfl ?_
        refine wq_aload_n (pc := 332) dX7_init_332 rfl rfl ?_
        refine wq_iconst (pc := 333) dX7_init_333 ?_
        refine wq_putI (pc := 334) (kk := 17) dX7_init_334 (gf_X7_118 _ rfl) (by first | with_reducible assumption | (show (if (21 : Int) = _ then _ else _) = _; rw [if_neg (by omega)]; assumption)) rfl rfl rfl rfl ?_
        refine wq_aload_n (pc := 337) dX7_init_337 rfl rfl ?_
        refine wq_iconst (pc := 338) dX7_init_338 ?_
        refine wq_putI (pc := 339) (kk := 20) dX7_init_339 (gf_X7_121 _ rfl) (by first | with_reducible assumption | (show (if (21 : Int) = _ then _ else _) = _; rw [if_neg (by omega)]; assumption)) rfl rfl rfl rfl ?_
        refine wq_aload_n (pc := 342) dX7_init_342 rfl rfl ?_
        refine wq_iconst (pc := 343) dX7_init_343 ?_
        refine wq_putI (pc := 344) (kk := 22) dX7_init_344 (gf_X7_124 _ rfl) (by first | with_reducible assumption | (show (if (21 : Int) = _ then _ else _) = _; rw [if_neg (by omega)]; assumption)) rfl rfl rfl rfl ?_
        refine wq_vret (pc := 347) dX7_init_347 rfl ?_
        obtain ⟨-, -, t3, t4⟩ := id B34
        refine h _ _ ⟨⟨z34, l34, fun x hx => ?_, fun i kd ln f hi hi2 => ?_, fun x x0 x1 x2 x3 j => ?_, fun b b0 b1 => ?_, ⟨?_, ?_, ?_, ?_⟩, fun j j1 j2 j3 j4 => ?_⟩, fun b hb => ?_⟩
        · obtain ⟨b1, b2, b3, b4⟩ := t3 x (by omega)
          exact ⟨fun q j => by rw [wr_n _ _ (by omega), wr_n _ _ (by omega), wr_n _ _ (by omega), wr_n _ _ (by omega), e1 x j (by omega) (by omega)]; exact b1 j, b2, b3, b4⟩
        · obtain ⟨b1, b2, -, b4⟩ := t4 i kd ln f hi hi2
          exact ⟨b1, b2, b4⟩
        · rw [wr_n _ _ (by omega), wr_n _ _ (by omega), wr_n _ _ (by omega), wr_n _ _ (by omega), e1 x j x2 x3]
          obtain ⟨i, hi⟩ : ∃ i : Nat, x = 22 + (i : Int) := ⟨(x - 22).toNat, by omega⟩
          have hl : i < mTab.length := by show i < 34; omega
          rw [hi]; exact (t4 i _ _ _ (by omega) (List.getElem?_eq_getElem hl)).2.2.1 j
        · rw [wr_n _ _ (by omega), wr_n _ _ (by omega), wr_n _ _ (by omega), wr_n _ _ (by omega), wr_n _ _ (by omega), wr_n _ _ (by omega), wr_n _ _ (by omega), wr_n _ _ (by omega)]; exact e2 b b0 (by omega)
        · rw [wr_n _ _ (by omega), wr_n _ _ (by omega), wr_n _ _ (by omega), wr_s]
        · rw [wr_n _ _ (by omega), wr_n _ _ (by omega), wr_s]
        · rw [wr_n _ _ (by omega), wr_s]
        · rw [wr_s]
        · rw [wr_n _ _ (by omega), wr_n _ _ (by omega), wr_n _ _ (by omega), wr_n _ _ (by omega), e1 21 j (by omega) (by omega)]; exact (t3 21 (by omega)).1 j
        · rw [wr_n _ _ (by omega), wr_n _ _ (by omega), wr_n _ _ (by omega), wr_n _ _ (by omega), wr_n _ _ (by omega), wr_n _ _ (by omega), wr_n _ _ (by omega), wr_n _ _ (by omega)]; exact e3 b hb
      · skip
        refine wq_aload_n (pc := 306) dX7_init_306 rfl rfl ?_
        refine wq_getR (pc := 307) (kk := 13) dX7_init_307 (gf_X7_51 _ rfl) (by first | with_reducible assumption | (show (if (21 : Int) = _ then _ else _) = _; rw [if_neg (by omega)]; assumption)) rfl rfl rfl ?_
        rw [s35]
        refine wq_iload_n (pc := 310) dX7_init_310 rfl rfl ?_
        refine wq_iconst (pc := 311) dX7_init_311 ?_
        refine wq_iast (pc := 312) dX7_init_312 (by first | with_reducible assumption | (show (if (21 : Int) = _ then _ else _) = _; rw [if_neg (by omega)]; assumption)) (by omega) (by omega) ?_
        refine wq_aload_n (pc := 313) dX7_init_313 rfl rfl ?_
        refine wq_getR (pc := 314) (kk := 15) dX7_init_314 (gf_X7_57 _ rfl) (by first | with_reducible assumption | (show (if (21 : Int) = _ then _ else _) = _; rw [if_neg (by omega)]; assumption)) rfl rfl rfl ?_
        rw [s37]
        refine wq_iload_n (pc := 317) dX7_init_317 rfl rfl ?_
        refine wq_iload_n (pc := 318) dX7_init_318 rfl rfl ?_
        refine wq_iast (pc := 319) dX7_init_319 (by first | with_reducible assumption | (show (if (21 : Int) = _ then _ else _) = _; rw [if_neg (by omega)]; assumption)) (by omega) (by omega) ?_
        refine wq_iinc (pc := 320) (L' := [(1, _), (0, _)]) dX7_init_320 rfl rfl (by decide) ?_
        refine wq_goto (pc := 323) (tgt := 300) dX7_init_323 (by decide) ?_
        refine wq_sub1 (L' := [(0, _), (1, _)]) ⟨rfl, rfl, trivial⟩ ?_
        refine ih (k + 1) _ _ (by omega) (by omega) (by omega) (fun x j h1 h2 => ?_) (fun b b0 b1 => ?_) (fun b hb => ?_)
        · rw [wr_n _ _ (by omega), wr_n _ _ (by omega)]; exact e1 x j h1 h2
        · by_cases c : b = k
          · rw [c]; exact ⟨by rw [wr_n _ _ (by omega), wr_s], wr_s _ _ _ _⟩
          · rw [wr_n _ _ (by omega), wr_n _ _ (by omega), wr_n _ _ (by omega), wr_n _ _ (by omega)]; exact e2 b b0 (by omega)
        · rw [wr_n _ _ (by omega), wr_n _ _ (by omega), wr_n _ _ (by omega), wr_n _ _ (by omega)]; exact e3 b hb
  refine wq_sub1 (L' := [(0, _), (1, _)]) ⟨rfl, rfl, trivial⟩ ?_
  exact loop1 9 0 _ _ (by omega) (by omega) (by omega) (fun x j _ _ => rfl) (fun b b0 b1 => absurd b1 (by omega)) (fun b _ => ⟨(B34.2.2.2 13 _ _ _ (by decide) rfl).2.2.1 b, (B34.2.2.2 15 _ _ _ (by decide) rfl).2.2.1 b⟩)
def St1 (μ0 : nMem) (N : Int) (μ : nMem) (ε : nEnv) : Prop := MC nA0 2 0 μ ε ∧ R7 ε ∧ (eKind ε 56 = 12 ∧ eLen ε 56 = 1) ∧ (∀ j, μ (-1) j = μ0 (-1) j) ∧ eLen ε (-1) = N ∧ Cap μ ε 600000 ∧
  (∀ x, 22 ≤ x → x ≤ 55 → x ≠ 35 → x ≠ 37 → ∀ j, μ x j = 0) ∧ (∀ b, 0 ≤ b → b < 8 → μ 35 b = 1 ∧ μ 37 b = b) ∧
  (μ 21 16 = 8 ∧ μ 21 17 = -1 ∧ μ 21 20 = -1 ∧ μ 21 22 = 2) ∧ (∀ j, j ≠ 16 → j ≠ 17 → j ≠ 20 → j ≠ 22 → μ 21 j = 0) ∧ ∀ b, ¬ (0 ≤ b ∧ b < 8) → μ 35 b = 0 ∧ μ 37 b = 0
theorem law_start1 {μ0 : nMem} {N : Int} {Q : nOut → nMem → nEnv → Prop} (h : ∀ μ ε, St1 μ0 N μ ε → wpL 23 [(4, vI 0), (3, vR 56), (2, vR 21), (1, vR 1), (0, vR (-1))] [] μ ε Q) : wpL 0 [(0, vR (-1))] [] μ0 (ε0 N) Q := by
  have c6 := cTn 6 (by decide)
  have c7 := cTn 7 (by decide)
  have z0 : eSz (ε0 N) = 0 := rfl
  have l0 : eSl (ε0 N) = 0 := rfl
  refine wq_new (pc := 0) (ci := 6) dL_law_0 (by decide) rfl (kl_L_8 _ rfl) ki_6.1 ki_6.2 (by unfold nCAP nSCAP; omega) ?_
  have A1 := Am_i (ε0 N) (6 + 1) 0 (cTab 6).2.2
  have e1 : ((eSz (ε0 N) : Nat) : Int) + 1 = 1 := by rw [z0]; rfl
  generalize alF (ε0 N) (6 + 1) 0 (cTab 6).2.2 = ε1 at A1 ⊢
  unfold Am at A1
  rw [e1] at A1 ⊢
  have z1 : eSz ε1 = 1 := by rw [A1.1, z0]
  have l1 : eSl ε1 ≤ 50 := by have := A1.2.1; omega
  have g1 : ∀ j, zr μ0 1 (-1) j = μ0 (-1) j := fun j => by rw [zr_v, if_neg (by decide)]
  have g2 : eLen ε1 (-1) = N := by rw [A1.2.2.2.1, if_neg (by decide)]; rfl
  have k1 : eKind ε1 1 = 7 := by rw [A1.2.2.1, if_pos rfl]
  have k0 : ∀ x : Int, x ≠ 1 → eKind ε1 x = 0 := fun x hx => by rw [A1.2.2.1, if_neg hx]; rfl
  have n1 : eLen ε1 1 = 0 := by rw [A1.2.2.2.1, if_pos rfl]
  clear A1 e1
  generalize zr μ0 1 = m1 at g1 ⊢
  refine wq_dup (pc := 3) dL_law_3 rfl ?_
  refine wl_callI0 (pc := 4) dL_law_4 (cw_L_94 _ rfl) (by omega) ⟨by decide, by decide⟩ (Nat.le_of_ble_eq_true rfl) (sp_X6_init z1 (by omega) k1 n1 k0 (fun m2 ε2 h6 z2 l2 hm1 hn1 hm3 hm13 hkz => ?_))
  show wpL 7 _ _ _ _ _
  refine wq_astore_n (pc := 7) (L' := [(1, _), (0, _)]) dL_law_7 rfl rfl (by decide) ?_
  refine wq_new (pc := 8) (ci := 7) dL_law_8 (by decide) rfl (kl_L_95 _ rfl) ki_7.1 ki_7.2 (by unfold nCAP nSCAP; omega) ?_
  have A3 := Am_i ε2 (7 + 1) 0 (cTab 7).2.2
  have e3 : ((eSz ε2 : Nat) : Int) + 1 = 21 := by rw [z2]; rfl
  generalize alF ε2 (7 + 1) 0 (cTab 7).2.2 = ε3 at A3 ⊢
  unfold Am at A3
  rw [e3] at A3 ⊢
  have z3 : eSz ε3 = 21 := by rw [A3.1, z2]
  have l3 : eSl ε3 ≤ 3100 := by have := A3.2.1; omega
  have k3 : eKind ε3 21 = 8 := by rw [A3.2.2.1, if_pos rfl]
  have Z3 := zr_v m2 21
  generalize zr m2 21 = m3 at Z3 ⊢
  refine wq_dup (pc := 11) dL_law_11 rfl ?_
  refine wl_callI0 (pc := 12) dL_law_12 (cw_L_97 _ rfl) (by omega) ⟨by decide, by decide⟩ (Nat.le_of_ble_eq_true rfl) (sn_X7_init z3 (by omega) k3 (fun m4 ε4 h7 => ?_))
  show wpL 15 _ _ _ _ _
  obtain ⟨⟨z4, l4, t1, t2, t3, t4, t5, t6⟩, t7⟩ := h7
  refine wq_astore_n (pc := 15) (L' := [(2, _), (1, _), (0, _)]) dL_law_15 rfl rfl (by decide) ?_
  refine wq_iconst (pc := 16) dL_law_16 ?_
  refine wq_newJ (pc := 17) dL_law_17 ka_long (by omega) (by omega) (by unfold nCAP nSCAP; omega) ?_
  have A5 := Am_i ε4 12 1 (1 : Int).toNat
  have e5 : ((eSz ε4 : Nat) : Int) + 1 = 56 := by rw [z4]; rfl
  generalize alF ε4 12 1 (1 : Int).toNat = ε5 at A5 ⊢
  unfold Am at A5
  rw [e5] at A5 ⊢
  obtain ⟨z5, l5, K5, N5, V5⟩ := A5
  have Z5 := zr_v m4 56
  generalize zr m4 56 = m5 at Z5 ⊢
  refine wq_astore_n (pc := 19) (L' := [(3, _), (2, _), (1, _), (0, _)]) dL_law_19 rfl rfl (by decide) ?_
  refine wq_iconst (pc := 20) dL_law_20 ?_
  refine wq_istore (pc := 21) (L' := [(4, _), (3, _), (2, _), (1, _), (0, _)]) dL_law_21 rfl (by decide) ?_
  have mm : ∀ x, (x ≤ 20) → ∀ j, m5 x j = m2 x j := fun x hx j => by rw [Z5, if_neg (by omega), (t1 x (by omega)).1 (by omega), Z3, if_neg (by omega)]
  refine h _ _ ⟨?_, ⟨?_, fun i kd ln f hi hi2 => ?_⟩, ⟨?_, ?_⟩, fun j => ?_, ?_, ?_, fun x x0 x1 x2 x3 j => ?_, fun b b0 b1 => ?_, ?_, fun j j1 j2 j3 j4 => ?_, fun b hb => ?_⟩
  · refine MC_0 (C6_new h6 (fun x hx => ?_)) (by rw [K5, if_pos rfl]; decide)
    have hx2 : x ≤ 20 := by
      rcases Int.lt_or_le 20 x with q | q
      · exact absurd (hkz x q) hx
      · exact q
    have u := t1 x (by omega)
    exact ⟨mm x hx2, by rw [K5, if_neg (by omega), u.2.1, A3.2.2.1, if_neg (by omega)], by rw [N5, if_neg (by omega), u.2.2.1, A3.2.2.2.1, if_neg (by omega)], fun j => by rw [V5, if_neg (by omega), u.2.2.2 (by omega) j, A3.2.2.2.2, if_neg (by omega)]⟩
  · exact ⟨by rw [K5, if_neg (by decide), (t1 21 (by decide)).2.1]; exact k3, by rw [N5, if_neg (by decide), (t1 21 (by decide)).2.2.1, A3.2.2.2.1, if_pos rfl]⟩
  · obtain ⟨b1, b2, b3⟩ := t2 i kd ln f hi hi2
    exact ⟨by rw [K5, if_neg (by omega)]; exact b1, by rw [N5, if_neg (by omega)]; exact b2, by rw [V5, if_neg (by decide)]; exact b3⟩
  · rw [K5, if_pos rfl]
  · rw [N5, if_pos rfl]
  · rw [mm (-1) (by decide), hm1, g1]
  · rw [N5, if_neg (by decide), (t1 (-1) (by decide)).2.2.1, A3.2.2.2.1, if_neg (by decide), hn1]; exact g2
  · have n3 := nul_le (m5 3) 128
    have n13 := nul_le (m5 13) 129
    unfold Cap
    omega
  · rw [Z5, if_neg (by omega)]; exact t3 x x0 x1 x2 x3 j
  · rw [Z5, Z5, if_neg (by decide), if_neg (by decide)]; exact t4 b b0 b1
  · rw [Z5, Z5, Z5, Z5, if_neg (by decide)]; exact t5
  · rw [Z5, if_neg (by decide), t6 j j1 j2 j3 j4, Z3, if_pos rfl]
  · rw [Z5, Z5, if_neg (by decide), if_neg (by decide)]; exact t7 b hb
