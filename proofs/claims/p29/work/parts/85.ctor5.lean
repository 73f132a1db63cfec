def nF0 : Fl := (fun _ _ => 0, fun _ => 1, fun _ => 0, fun _ => 0, -1, 0)
def ng0 : Lg := (-1, [0, 1, 2, 3, 4, 5, 6, 7], [])
theorem CF_0 {μ : nMem} {ε : nEnv} (hs : SkP skC ε) (h3 : ∀ i, μ 3 i = 0) (h4 : ∀ b, 0 ≤ b → b < 8 → μ 4 b = 1) (h5 : ∀ b, μ 5 b = 0) (h6 : ∀ b, μ 6 b = 0) (h25 : μ 2 5 = -1) (h26 : μ 2 6 = 0) (h7 : ∀ k, μ 7 k = 0) : CF nF0 μ ε := by
  have hn : ∀ i, nRow μ i = 7 := fun i => by unfold nRow; rw [if_neg (fun z => z.2.2 (h3 i))]
  refine ⟨hs, ⟨fun i _ _ q => absurd (h3 i) q, fun i j _ _ _ _ q => absurd (h3 i) q, fun i => ?_⟩, fun i _ _ k _ _ => ?_, fun i => ?_, fun b b0 b1 => ⟨h4 b b0 b1, h5 b, h6 b⟩, h25, h26, fun k _ _ => h7 k⟩
  · rw [hn]; unfold nB; simp only [h7]; decide
  · rw [hn, h7]; rfl
  · rw [hn, h7]
theorem CL_0 {μ : nMem} (h84 : μ 8 4 = -1) (h85 : μ 8 5 = 8) (h86 : μ 8 6 = 0) (h10 : ∀ b, 0 ≤ b → b < 8 → μ 10 b = b) : CL ng0 μ := by
  refine ⟨h84, h85, fun i hi => ?_, h86, fun i hi => absurd hi (Nat.not_lt_zero _), by decide, by decide, by decide, fun b hb => absurd hb List.not_mem_nil⟩
  have hi : i < 8 := hi
  rw [h10 i (by omega) (by omega)]
  have : i = 0 ∨ i = 1 ∨ i = 2 ∨ i = 3 ∨ i = 4 ∨ i = 5 ∨ i = 6 ∨ i = 7 := by omega
  rcases this with e | e | e | e | e | e | e | e <;> subst e <;> rfl
theorem CT_ext1 {S : Tr} {μ : nMem} {ε ε' : nEnv} (hT : CT S μ ε) (hs : SkP skT ε') (he : ∀ x, x ≠ 1 → eKind ε x ≠ 0 → eKind ε' x = eKind ε x ∧ eLen ε' x = eLen ε x ∧ ∀ k, eFin ε' x k = eFin ε x k) : CT S μ ε' := by
  obtain ⟨c1, c2, c3, c4, c5, c6, c7⟩ := id hT
  have hsh : ∀ i : Int, 0 ≤ i → i < 129 → μ 13 i ≠ 0 → isItm ε' (μ 13 i) ∧ eFin ε' (μ 13 i) 0 = eFin ε (μ 13 i) 0 := fun i i0 i1 i2 => by
    obtain ⟨s1, s2, s3⟩ := c2.1 i i0 i1 i2
    obtain ⟨a1, a2, a3⟩ := he (μ 13 i) (by omega) (by rw [s1.1]; decide)
    obtain ⟨b1, b2, b3⟩ := he (eFin ε (μ 13 i) 0) (by omega) (by rw [s1.2.1]; decide)
    exact ⟨⟨a1.trans s1.1, by rw [a3]; exact b1.trans s1.2.1, by rw [a3]; exact b2.trans s1.2.2⟩, a3 0⟩
  refine ⟨hs, ⟨fun i i0 i1 i2 => ?_, c2.2.1, fun i j i0 i1 j0 j1 i2 j2 => ?_⟩, c3, c4, c5, c6, fun i hi => ?_⟩
  · obtain ⟨s1, s2⟩ := hsh i i0 i1 i2
    exact ⟨s1, (c2.1 i i0 i1 i2).2.1, by rw [s2]; exact (c2.1 i i0 i1 i2).2.2⟩
  · rw [(hsh i i0 i1 i2).2, (hsh j j0 j1 j2).2]; exact c2.2.2 i j i0 i1 j0 j1 i2 j2
  · obtain ⟨d0, d1, d2, d3⟩ := c7 i hi
    exact ⟨d0, d1, d2, fun j j0 j1 => by rw [(hsh i (by omega) (by omega) d0).2]; exact d3 j j0 j1⟩
theorem cTn (ci : Nat) (h : ci < 7) : (cTab ci).2.2 ≤ 50 := by
  have : ci = 0 ∨ ci = 1 ∨ ci = 2 ∨ ci = 3 ∨ ci = 4 ∨ ci = 5 ∨ ci = 6 ∨ ci = 7 := by omega
  rcases this with e | e | e | e | e | e | e | e <;> subst e <;> decide
theorem sp_X6_init {μ : nMem} {ε : nEnv} {Q : nOut → nMem → nEnv → Prop}  (hz : eSz ε = 1) (hl : eSl ε ≤ 5000000) (hk1 : eKind ε 1 = 7) (hn1 : eLen ε 1 = 0) (h0 : ∀ x : Int, x ≠ 1 → eKind ε x = 0) (h : ∀ μ9 ε9, C6 nF0 ng0 tRoot μ9 ε9 → eSz ε9 = 20 → eSl ε9 ≤ eSl ε + 3000 → (∀ j, μ9 (-1) j = μ (-1) j) → eLen ε9 (-1) = eLen ε (-1) → (∀ i, μ9 3 i = 0) → (∀ j, j ≠ 0 → μ9 13 j = 0) → (∀ x, 20 < x → eKind ε9 x = 0) → Q (.inl none) μ9 ε9) : Sp mX6_init [vR 1] μ ε Q := by
  refine Sp_of (L := [(0, vR 1)]) (by decide) rfl rfl (Nat.le_of_ble_eq_true rfl) ?_
  refine wq_aload_n (pc := 0) dX6_init_0 rfl rfl ?_
  refine wq_oinit (pc := 1) dX6_init_1 (by omega) (co_X6_1 mX6_init rfl).1 (co_X6_1 mX6_init rfl).2.1 (co_X6_1 mX6_init rfl).2.2 (by decide) (by decide) (Nat.le_of_ble_eq_true rfl) ?_
  refine wq_aload_n (pc := 4) dX6_init_4 rfl rfl ?_
  refine wq_new (pc := 5) (ci := 0) dX6_init_5 (by decide) rfl (kl_X6_7 _ rfl) ki_0.1 ki_0.2 (by have q0 := cTn 0 (by decide); have q2 := cTn 2 (by decide); have q3 := cTn 3 (by decide); have q4 := cTn 4 (by decide); have q5 := cTn 5 (by decide); unfold nCAP nSCAP; omega) ?_
  have A1 := Am_i ε (0 + 1) 0 (cTab 0).2.2
  have e1 : ((eSz ε : Nat) : Int) + 1 = 2 := by rw [hz]; rfl
  generalize alF ε (0 + 1) 0 (cTab 0).2.2 = ε1 at A1 ⊢
  unfold Am at A1
  rw [e1] at A1 ⊢
  have z1 : eSz ε1 = 2 := by rw [A1.1, hz]
  have l1 := A1.2.1
  have ct1 := cTn 0 (by decide)
  have Z1 : ∀ x j, zr μ 2 x j = if x = 2 then 0 else μ x j := fun _ _ => rfl
  generalize zr μ 2 = m1 at Z1 ⊢
  have hk1_1 : eKind ε1 1 = 7 := by rw [A1.2.2.1, if_neg (by decide)]; exact hk1
  have hk2_1 : eKind ε1 2 = 1 := by rw [A1.2.2.1, if_pos rfl]
  refine wq_dup (pc := 8) dX6_init_8 rfl ?_
  refine cI_0 (pc := 9) dX6_init_9 (cw_X6_9 _ rfl) (by omega) ⟨by decide, by decide⟩ (Nat.le_of_ble_eq_true rfl) (sp_X0_init z1 (by omega) hk2_1 (fun m2 ε2 E0a M0a => ?_))
  refine kr_v ?_
  obtain ⟨⟨z2, l2⟩, K2, N2, V2⟩ := id E0a
  have hk1_2 : eKind ε2 1 = 7 := by rw [K2]; simp [hk1_1]
  refine wq_putF (pc := 12) (ci := 6) (k := 0) dX6_init_12 (by first | with_reducible assumption | (show (if (1 : Int) = _ then _ else _) = _; rw [if_neg (by omega)]; assumption)) (by decide) (by decide) (wOK_1 312 (by decide +kernel) (by decide +kernel)) rfl rfl rfl rfl (fun _ => ⟨by first | rfl | exact (putOK_O _ _ _).1 | exact (putOK_A _ _ _).1, by first | rfl | exact (putOK_O _ _ _).2 | exact (putOK_A _ _ _).2⟩) ?_
  have A3 := Aw_i ε2 1 0 2
  generalize wrF ε2 1 0 2 = ε3 at A3 ⊢
  unfold Aw at A3
  have z3 : eSz ε3 = 7 := by rw [A3.1, z2]
  have l3 := A3.2.1
  have hk1_3 : eKind ε3 1 = 7 := by rw [A3.2.2.1]; exact hk1_2
  refine wq_aload_n (pc := 15) dX6_init_15 rfl rfl ?_
  refine wq_new (pc := 16) (ci := 3) dX6_init_16 (by decide) rfl (kl_X6_16 _ rfl) ki_3.1 ki_3.2 (by have q0 := cTn 0 (by decide); have q2 := cTn 2 (by decide); have q3 := cTn 3 (by decide); have q4 := cTn 4 (by decide); have q5 := cTn 5 (by decide); unfold nCAP nSCAP; omega) ?_
  have A4 := Am_i ε3 (3 + 1) 0 (cTab 3).2.2
  have e4 : ((eSz ε3 : Nat) : Int) + 1 = 8 := by rw [z3]; rfl
  generalize alF ε3 (3 + 1) 0 (cTab 3).2.2 = ε4 at A4 ⊢
  unfold Am at A4
  rw [e4] at A4 ⊢
  have z4 : eSz ε4 = 8 := by rw [A4.1, z3]
  have l4 := A4.2.1
  have ct4 := cTn 3 (by decide)
  have Z4 : ∀ x j, zr m2 8 x j = if x = 8 then 0 else m2 x j := fun _ _ => rfl
  generalize zr m2 8 = m3 at Z4 ⊢
  have hk1_4 : eKind ε4 1 = 7 := by rw [A4.2.2.1, if_neg (by decide)]; exact hk1_3
  have hk8_4 : eKind ε4 8 = 4 := by rw [A4.2.2.1, if_pos rfl]
  refine wq_dup (pc := 19) dX6_init_19 rfl ?_
  refine wq_aload_n (pc := 20) dX6_init_20 rfl rfl ?_
  refine wq_getR (pc := 21) (kk := 0) dX6_init_21 (gf_X6_10 _ rfl) (by first | with_reducible assumption | (show (if (1 : Int) = _ then _ else _) = _; rw [if_neg (by omega)]; assumption)) rfl rfl rfl ?_
  have g9 : eFin ε4 1 0 = 2 := by rw [A4.2.2.2.2, if_neg (by decide), A3.2.2.2.2, if_pos ⟨rfl, rfl⟩]
  rw [g9]
  refine cI_1 (pc := 24) dX6_init_24 (cw_X6_18 _ rfl) (by omega) ⟨by decide, by decide⟩ (Nat.le_of_ble_eq_true rfl) (sp_X3_init z4 (by omega) hk8_4 (fun m4 ε5 E3a M3a => ?_))
  refine kr_v ?_
  obtain ⟨⟨z5, l5⟩, K5, N5, V5⟩ := id E3a
  have hk1_5 : eKind ε5 1 = 7 := by rw [K5]; simp [hk1_4]
  refine wq_putF (pc := 27) (ci := 6) (k := 1) dX6_init_27 (by first | with_reducible assumption | (show (if (1 : Int) = _ then _ else _) = _; rw [if_neg (by omega)]; assumption)) (by decide) (by decide) (wOK_1 313 (by decide +kernel) (by decide +kernel)) rfl rfl rfl rfl (fun _ => ⟨by first | rfl | exact (putOK_O _ _ _).1 | exact (putOK_A _ _ _).1, by first | rfl | exact (putOK_O _ _ _).2 | exact (putOK_A _ _ _).2⟩) ?_
  have A6 := Aw_i ε5 1 1 8
  generalize wrF ε5 1 1 8 = ε6 at A6 ⊢
  unfold Aw at A6
  have z6 : eSz ε6 = 11 := by rw [A6.1, z5]
  have l6 := A6.2.1
  have hk1_6 : eKind ε6 1 = 7 := by rw [A6.2.2.1]; exact hk1_5
  refine wq_aload_n (pc := 30) dX6_init_30 rfl rfl ?_
  refine wq_new (pc := 31) (ci := 5) dX6_init_31 (by decide) rfl (kl_X6_25 _ rfl) ki_5.1 ki_5.2 (by have q0 := cTn 0 (by decide); have q2 := cTn 2 (by decide); have q3 := cTn 3 (by decide); have q4 := cTn 4 (by decide); have q5 := cTn 5 (by decide); unfold nCAP nSCAP; omega) ?_
  have A7 := Am_i ε6 (5 + 1) 0 (cTab 5).2.2
  have e7 : ((eSz ε6 : Nat) : Int) + 1 = 12 := by rw [z6]; rfl
  generalize alF ε6 (5 + 1) 0 (cTab 5).2.2 = ε7 at A7 ⊢
  unfold Am at A7
  rw [e7] at A7 ⊢
  have z7 : eSz ε7 = 12 := by rw [A7.1, z6]
  have l7 := A7.2.1
  have ct7 := cTn 5 (by decide)
  have Z7 : ∀ x j, zr m4 12 x j = if x = 12 then 0 else m4 x j := fun _ _ => rfl
  generalize zr m4 12 = m5 at Z7 ⊢
  have hk1_7 : eKind ε7 1 = 7 := by rw [A7.2.2.1, if_neg (by decide)]; exact hk1_6
  have hk12_7 : eKind ε7 12 = 6 := by rw [A7.2.2.1, if_pos rfl]
  have hn12 : eLen ε7 12 = 0 := by rw [A7.2.2.2.1, if_pos rfl]
  have hno7 : ∀ x, eKind ε7 x ≠ 0 → x ≠ 13 ∧ x ≠ 14 ∧ x ≠ 15 ∧ x ≠ 16 := fun x hx => by
    refine ⟨fun z => hx ?_, fun z => hx ?_, fun z => hx ?_, fun z => hx ?_⟩ <;> rw [z, A7.2.2.1, A6.2.2.1, K5, A4.2.2.1, A3.2.2.1, K2, A1.2.2.1]
    · simp [h0 13 (by decide)]
    · simp [h0 14 (by decide)]
    · simp [h0 15 (by decide)]
    · simp [h0 16 (by decide)]
  refine wq_dup (pc := 34) dX6_init_34 rfl ?_
  refine cI_0 (pc := 35) dX6_init_35 (cw_X6_27 _ rfl) (by omega) ⟨by decide, by decide⟩ (Nat.le_of_ble_eq_true rfl) (sp_X5_init z7 (by omega) hk12_7 hn12 hno7 (fun m6 ε8 s8 K8 N8 n81 X8 J8 T8 => ?_))
  refine kr_v ?_
  obtain ⟨z8, l8⟩ := s8
  have hk1_8 : eKind ε8 1 = 7 := by rw [K8]; simp [hk1_7]
  refine wq_putF (pc := 38) (ci := 6) (k := 2) dX6_init_38 (by first | with_reducible assumption | (show (if (1 : Int) = _ then _ else _) = _; rw [if_neg (by omega)]; assumption)) (by decide) (by decide) (wOK_1 314 (by decide +kernel) (by decide +kernel)) rfl rfl rfl rfl (fun _ => ⟨by first | rfl | exact (putOK_O _ _ _).1 | exact (putOK_A _ _ _).1, by first | rfl | exact (putOK_O _ _ _).2 | exact (putOK_A _ _ _).2⟩) ?_
  have A9 := Aw_i ε8 1 2 12
  generalize wrF ε8 1 2 12 = ε9 at A9 ⊢
  unfold Aw at A9
  have z9 : eSz ε9 = 16 := by rw [A9.1, z8]
  have l9 := A9.2.1
  have hk1_9 : eKind ε9 1 = 7 := by rw [A9.2.2.1]; exact hk1_8
  refine wq_aload_n (pc := 41) dX6_init_41 rfl rfl ?_
  refine wq_new (pc := 42) (ci := 2) dX6_init_42 (by decide) rfl (kl_X6_32 _ rfl) ki_2.1 ki_2.2 (by have q0 := cTn 0 (by decide); have q2 := cTn 2 (by decide); have q3 := cTn 3 (by decide); have q4 := cTn 4 (by decide); have q5 := cTn 5 (by decide); unfold nCAP nSCAP; omega) ?_
  have A10 := Am_i ε9 (2 + 1) 0 (cTab 2).2.2
  have e10 : ((eSz ε9 : Nat) : Int) + 1 = 17 := by rw [z9]; rfl
  generalize alF ε9 (2 + 1) 0 (cTab 2).2.2 = ε10 at A10 ⊢
  unfold Am at A10
  rw [e10] at A10 ⊢
  have z10 : eSz ε10 = 17 := by rw [A10.1, z9]
  have l10 := A10.2.1
  have ct10 := cTn 2 (by decide)
  have Z10 : ∀ x j, zr m6 17 x j = if x = 17 then 0 else m6 x j := fun _ _ => rfl
  generalize zr m6 17 = m7 at Z10 ⊢
  have hk1_10 : eKind ε10 1 = 7 := by rw [A10.2.2.1, if_neg (by decide)]; exact hk1_9
  have hk17_10 : eKind ε10 17 = 3 := by rw [A10.2.2.1, if_pos rfl]
  refine wq_dup (pc := 45) dX6_init_45 rfl ?_
  refine wq_aload_n (pc := 46) dX6_init_46 rfl rfl ?_
  refine wq_getR (pc := 47) (kk := 0) dX6_init_47 (gf_X6_10 _ rfl) (by first | with_reducible assumption | (show (if (1 : Int) = _ then _ else _) = _; rw [if_neg (by omega)]; assumption)) rfl rfl rfl ?_
  have hk7n : eKind ε7 1 ≠ 0 := by rw [hk1_7]; decide
  have g10 : eFin ε10 1 0 = 2 := by rw [A10.2.2.2.2, if_neg (by decide), A9.2.2.2.2, if_neg (by decide), (N8 1 hk7n).2 0 (by decide), A7.2.2.2.2, if_neg (by decide), A6.2.2.2.2, if_neg (by decide), V5]; simp; rw [A4.2.2.2.2, if_neg (by decide), A3.2.2.2.2, if_pos ⟨rfl, rfl⟩]
  rw [g10]
  refine wq_aload_n (pc := 50) dX6_init_50 rfl rfl ?_
  refine wq_getR (pc := 51) (kk := 2) dX6_init_51 (gf_X6_28 _ rfl) (by first | with_reducible assumption | (show (if (1 : Int) = _ then _ else _) = _; rw [if_neg (by omega)]; assumption)) rfl rfl rfl ?_
  have g12 : eFin ε10 1 2 = 12 := by rw [A10.2.2.2.2, if_neg (by decide), A9.2.2.2.2, if_pos ⟨rfl, rfl⟩]
  rw [g12]
  refine cI_2 (pc := 54) dX6_init_54 (cw_X6_34 _ rfl) (by omega) ⟨by decide, by decide⟩ (Nat.le_of_ble_eq_true rfl) (sp_X2_init z10 (by omega) hk17_10 (fun m8 ε11 E2a M2a => ?_))
  refine kr_v ?_
  obtain ⟨⟨z11, l11⟩, K11, N11, V11⟩ := id E2a
  have hk1_11 : eKind ε11 1 = 7 := by rw [K11]; simp [hk1_10]
  refine wq_putF (pc := 57) (ci := 6) (k := 3) dX6_init_57 (by first | with_reducible assumption | (show (if (1 : Int) = _ then _ else _) = _; rw [if_neg (by omega)]; assumption)) (by decide) (by decide) (wOK_1 315 (by decide +kernel) (by decide +kernel)) rfl rfl rfl rfl (fun _ => ⟨by first | rfl | exact (putOK_O _ _ _).1 | exact (putOK_A _ _ _).1, by first | rfl | exact (putOK_O _ _ _).2 | exact (putOK_A _ _ _).2⟩) ?_
  have A12 := Aw_i ε11 1 3 17
  generalize wrF ε11 1 3 17 = ε12 at A12 ⊢
  unfold Aw at A12
  have z12 : eSz ε12 = 19 := by rw [A12.1, z11]
  have l12 := A12.2.1
  have hk1_12 : eKind ε12 1 = 7 := by rw [A12.2.2.1]; exact hk1_11
  refine wq_aload_n (pc := 60) dX6_init_60 rfl rfl ?_
  refine wq_new (pc := 61) (ci := 4) dX6_init_61 (by decide) rfl (kl_X6_41 _ rfl) ki_4.1 ki_4.2 (by have q0 := cTn 0 (by decide); have q2 := cTn 2 (by decide); have q3 := cTn 3 (by decide); have q4 := cTn 4 (by decide); have q5 := cTn 5 (by decide); unfold nCAP nSCAP; omega) ?_
  have A13 := Am_i ε12 (4 + 1) 0 (cTab 4).2.2
  have e13 : ((eSz ε12 : Nat) : Int) + 1 = 20 := by rw [z12]; rfl
  generalize alF ε12 (4 + 1) 0 (cTab 4).2.2 = ε13 at A13 ⊢
  unfold Am at A13
  rw [e13] at A13 ⊢
  have z13 : eSz ε13 = 20 := by rw [A13.1, z12]
  have l13 := A13.2.1
  have ct13 := cTn 4 (by decide)
  have Z13 : ∀ x j, zr m8 20 x j = if x = 20 then 0 else m8 x j := fun _ _ => rfl
  generalize zr m8 20 = m9 at Z13 ⊢
  have hk1_13 : eKind ε13 1 = 7 := by rw [A13.2.2.1, if_neg (by decide)]; exact hk1_12
  refine wq_dup (pc := 64) dX6_init_64 rfl ?_
  refine cI_0 (pc := 65) dX6_init_65 (cw_X6_43 _ rfl) (by omega) ⟨by decide, by decide⟩ (Nat.le_of_ble_eq_true rfl) (sp_X4_init (by omega) ?_)
  refine kr_v ?_
  refine wq_putF (pc := 68) (ci := 6) (k := 4) dX6_init_68 (by first | with_reducible assumption | (show (if (1 : Int) = _ then _ else _) = _; rw [if_neg (by omega)]; assumption)) (by decide) (by decide) (wOK_1 316 (by decide +kernel) (by decide +kernel)) rfl rfl rfl rfl (fun _ => ⟨by first | rfl | exact (putOK_O _ _ _).1 | exact (putOK_A _ _ _).1, by first | rfl | exact (putOK_O _ _ _).2 | exact (putOK_A _ _ _).2⟩) ?_
  have A14 := Aw_i ε13 1 4 20
  generalize wrF ε13 1 4 20 = ε14 at A14 ⊢
  unfold Aw at A14
  have z14 : eSz ε14 = 20 := by rw [A14.1, z13]
  have l14 := A14.2.1
  have hk1_14 : eKind ε14 1 = 7 := by rw [A14.2.2.1]; exact hk1_13
  refine wq_vret (pc := 71) dX6_init_71 rfl ?_
  have K14 := A14.2.2.1
  have K13 := A13.2.2.1
  have K12 := A12.2.2.1
  have K10 := A10.2.2.1
  have K9 := A9.2.2.1
  have K7 := A7.2.2.1
  have K6 := A6.2.2.1
  have K4 := A4.2.2.1
  have K3 := A3.2.2.1
  have K1 := A1.2.2.1
  have N14 := A14.2.2.2.1
  have N13 := A13.2.2.2.1
  have N12 := A12.2.2.2.1
  have N10 := A10.2.2.2.1
  have N9 := A9.2.2.2.1
  have N7 := A7.2.2.2.1
  have N6 := A6.2.2.2.1
  have N4 := A4.2.2.2.1
  have N3 := A3.2.2.2.1
  have N1 := A1.2.2.2.1
  have V14 := A14.2.2.2.2
  have V13 := A13.2.2.2.2
  have V12 := A12.2.2.2.2
  have V10 := A10.2.2.2.2
  have V9 := A9.2.2.2.2
  have V7 := A7.2.2.2.2
  have V6 := A6.2.2.2.2
  have V4 := A4.2.2.2.2
  have V3 := A3.2.2.2.2
  have V1 := A1.2.2.2.2
  have kk7 : ∀ x, eKind ε7 x = if x = 12 then 6 else if x = 9 then 5 else if x = 10 ∨ x = 11 then 11 else if x = 8 then 4 else if x = 3 then 15 else if x = 4 ∨ x = 5 ∨ x = 6 then 11 else if x = 7 then 5 else if x = 2 then 1 else eKind ε x := fun x => by rw [K7, K6, K5, K4, K3, K2, K1]
  have kk14 : ∀ x, eKind ε14 x = if x = 20 then 5 else if x = 18 then 15 else if x = 19 then 5 else if x = 17 then 3 else if x = 16 then 11 else if x = 15 then 2 else if x = 14 then 14 else if x = 13 then 14 else eKind ε7 x := fun x => by rw [K14, K13, K12, K11, K10, K9, K8]
  have n78 : ∀ x, eKind ε7 x ≠ 0 → eLen ε8 x = eLen ε7 x := fun x hx => (N8 x hx).1
  have v78 : ∀ x, eKind ε7 x ≠ 0 → ∀ j, ¬ (x = 12 ∧ (j = 0 ∨ j = 1)) → eFin ε8 x j = eFin ε7 x j := fun x hx => (N8 x hx).2
  have nn14 : ∀ x, x ≠ 20 → x ≠ 18 → x ≠ 19 → x ≠ 17 → eLen ε14 x = eLen ε8 x := fun x h1 h2 h3 h4 => by rw [N14, N13, if_neg h1, N12, N11, if_neg h2, if_neg h3, N10, if_neg h4, N9]
  have vv14 : ∀ x j, x ≠ 20 → x ≠ 18 → x ≠ 19 → x ≠ 17 → x ≠ 1 → eFin ε14 x j = eFin ε8 x j := fun x j h1 h2 h3 h4 h5 => by rw [V14, if_neg (fun z => h5 z.1), V13, if_neg h1, V12, if_neg (fun z => h5 z.1), V11, if_neg (fun z => h4 z.1), if_neg (fun z => h4 z.1), if_neg (fun z => h4 z.1), if_neg (fun z => h4 z.1), if_neg (by omega), V10, if_neg h4, V9, if_neg (fun z => h5 z.1)]
  have nn7 : ∀ x, eLen ε7 x = if x = 12 then 0 else if x = 9 then 0 else if x = 10 ∨ x = 11 then 8 else if x = 8 then 0 else if x = 3 then 128 else if x = 4 ∨ x = 5 ∨ x = 6 then 8 else if x = 7 then 0 else if x = 2 then 0 else eLen ε x := fun x => by rw [N7, N6, N5, N4, N3, N2, N1]
  have k7n : ∀ x, 1 ≤ x → x ≤ 12 → eKind ε7 x ≠ 0 := fun x x1 x2 => by
    have : x = 1 ∨ x = 2 ∨ x = 3 ∨ x = 4 ∨ x = 5 ∨ x = 6 ∨ x = 7 ∨ x = 8 ∨ x = 9 ∨ x = 10 ∨ x = 11 ∨ x = 12 := by omega
    rw [kk7]
    rcases this with e | e | e | e | e | e | e | e | e | e | e | e <;> subst e <;> simp [hk1]
  have mm : ∀ x j, (x = -1 ∨ (1 ≤ x ∧ x ≤ 11)) → m9 x j = m4 x j := fun x j hx => by
    rw [Z13, if_neg (by omega), M2a.1 x j (by omega), Z10, if_neg (by omega), X8 x j (by rcases hx with w | w; exact Or.inr w; exact Or.inl (k7n x w.1 (by omega))) (by omega), Z7, if_neg (by omega)]
  have mm2 : ∀ x j, (x = -1 ∨ (1 ≤ x ∧ x ≤ 7)) → m4 x j = m2 x j := fun x j hx => by rw [M3a.1 x j (by omega) (by omega), Z4, if_neg (by omega)]
  have q8 := T8.1
  have lT := fun x kd ln fs h hk => q8 x kd ln fs h hk
  obtain ⟨-, t12, u12⟩ := q8 12 6 0 _ rfl (by decide)
  obtain ⟨-, t13, -⟩ := q8 13 14 129 _ rfl (by decide)
  obtain ⟨-, t14, -⟩ := q8 14 14 129 _ rfl (by decide)
  have u120 := u12 0 13 rfl (by decide)
  have u121 := u12 1 14 rfl (by decide)
  have hk14 : ∀ x, eKind ε14 x = eKind ε14 x := fun _ => rfl
  have hskT14 : SkP skT ε14 := skT_of (by rw [kk14, kk7]; simp) (by rw [nn14 12 (by decide) (by decide) (by decide) (by decide)]; exact t12) (by rw [vv14 12 0 (by decide) (by decide) (by decide) (by decide) (by decide)]; exact u120) (by rw [vv14 12 1 (by decide) (by decide) (by decide) (by decide) (by decide)]; exact u121) (by rw [kk14]; simp) (by rw [nn14 13 (by decide) (by decide) (by decide) (by decide)]; exact t13) (by rw [kk14]; simp) (by rw [nn14 14 (by decide) (by decide) (by decide) (by decide)]; exact t14)
  have ln : ∀ x : Int, 1 ≤ x → x ≤ 11 → eLen ε14 x = eLen ε7 x := fun x x1 x2 => by rw [nn14 x (by omega) (by omega) (by omega) (by omega), n78 x (k7n x x1 (by omega))]
  have fn : ∀ x j : Int, 2 ≤ x → x ≤ 11 → eFin ε14 x j = eFin ε7 x j := fun x j x1 x2 => by rw [vv14 x j (by omega) (by omega) (by omega) (by omega) (by omega), v78 x (k7n x (by omega) (by omega)) j (by omega)]
  have fv7 : ∀ x j : Int, 2 ≤ x → x ≤ 11 → eFin ε7 x j = eFin ε5 x j := fun x j x1 x2 => by rw [V7, if_neg (by omega), V6, if_neg (by omega)]
  have fv5 : ∀ j : Int, eFin ε5 2 j = eFin ε2 2 j := fun j => by rw [V5, if_neg (by omega), if_neg (by omega), if_neg (by omega), if_neg (by omega), if_neg (by omega), V4, if_neg (by decide), V3, if_neg (by omega)]
  have hT14 : CT tRoot m9 ε14 := by
    refine CT_ext1 (CT_kk T8 (fun x hx j => ?_)) hskT14 (fun x x1 hx => ?_)
    · have hx2 : x ≠ 20 ∧ ¬ (18 ≤ x ∧ x ≤ 19) ∧ x ≠ 17 := by
        refine ⟨fun z => hx ?_, fun z => hx ?_, fun z => hx ?_⟩
        · rw [K8, kk7, z]; simp [h0 20 (by decide)]
        · have : x = 18 ∨ x = 19 := by omega
          rcases this with e | e <;> rw [K8, kk7, e] <;> simp [h0 18 (by decide), h0 19 (by decide)]
        · rw [K8, kk7, z]; simp [h0 17 (by decide)]
      rw [Z13, if_neg hx2.1, M2a.1 x j hx2.2.1, Z10, if_neg hx2.2.2]
    · have hx2 : x ≠ 20 ∧ x ≠ 18 ∧ x ≠ 19 ∧ x ≠ 17 := by
        refine ⟨fun z => hx ?_, fun z => hx ?_, fun z => hx ?_, fun z => hx ?_⟩ <;> rw [K8, kk7, z]
        · simp [h0 20 (by decide)]
        · simp [h0 18 (by decide)]
        · simp [h0 19 (by decide)]
        · simp [h0 17 (by decide)]
      obtain ⟨q1, q2, q3, q4⟩ := hx2
      exact ⟨by rw [K14, K13, if_neg q1, K12, K11, if_neg q2, if_neg q3, K10, if_neg q4, K9], nn14 x q1 q2 q3 q4, fun j => vv14 x j q1 q2 q3 q4 x1⟩
  have hk1e8 : eKind ε7 1 ≠ 0 := k7n 1 (by decide) (by decide)
  have f1_0 : eFin ε14 1 0 = 2 := by rw [V14, if_neg (by decide), V13, if_neg (by decide), V12, if_neg (by decide), V11]; simp; rw [V10, if_neg (by decide), V9, if_neg (by decide), v78 1 hk1e8 0 (by decide), V7, if_neg (by decide), V6, if_neg (by decide), V5]; simp; rw [V4, if_neg (by decide), V3, if_pos ⟨rfl, rfl⟩]
  have f1_1 : eFin ε14 1 1 = 8 := by rw [V14, if_neg (by decide), V13, if_neg (by decide), V12, if_neg (by decide), V11]; simp; rw [V10, if_neg (by decide), V9, if_neg (by decide), v78 1 hk1e8 1 (by decide), V7, if_neg (by decide), V6, if_pos ⟨rfl, rfl⟩]
  have f1_2 : eFin ε14 1 2 = 12 := by rw [V14, if_neg (by decide), V13, if_neg (by decide), V12, if_neg (by decide), V11]; simp; rw [V10, if_neg (by decide), V9, if_pos ⟨rfl, rfl⟩]
  have f1_3 : eFin ε14 1 3 = 17 := by rw [V14, if_neg (by decide), V13, if_neg (by decide), V12, if_pos ⟨rfl, rfl⟩]
  have f1_4 : eFin ε14 1 4 = 20 := by rw [V14, if_pos ⟨rfl, rfl⟩]
  have hskC14 : SkP skC ε14 := skC_of (by rw [kk14, kk7]; simp [hk1]) (by rw [ln 1 (by decide) (by decide), nn7]; simp [hn1]) (f1_0) (f1_1) (f1_2) (f1_3) (f1_4) (by rw [kk14, kk7]; simp [hk1]) (by rw [ln 2 (by decide) (by decide), nn7]; simp [hn1]) (by rw [fn 2 0 (by decide) (by decide), fv7 2 0 (by decide) (by decide), fv5, V2]; simp) (by rw [fn 2 1 (by decide) (by decide), fv7 2 1 (by decide) (by decide), fv5, V2]; simp) (by rw [fn 2 2 (by decide) (by decide), fv7 2 2 (by decide) (by decide), fv5, V2]; simp) (by rw [fn 2 3 (by decide) (by decide), fv7 2 3 (by decide) (by decide), fv5, V2]; simp) (by rw [fn 2 4 (by decide) (by decide), fv7 2 4 (by decide) (by decide), fv5, V2]; simp) (by rw [kk14, kk7]; simp [hk1]) (by rw [ln 3 (by decide) (by decide), nn7]; simp [hn1]) (by rw [kk14, kk7]; simp [hk1]) (by rw [ln 4 (by decide) (by decide), nn7]; simp [hn1]) (by rw [kk14, kk7]; simp [hk1]) (by rw [ln 5 (by decide) (by decide), nn7]; simp [hn1]) (by rw [kk14, kk7]; simp [hk1]) (by rw [ln 6 (by decide) (by decide), nn7]; simp [hn1]) (by rw [kk14, kk7]; simp [hk1]) (by rw [ln 7 (by decide) (by decide), nn7]; simp [hn1]) (by rw [kk14, kk7]; simp [hk1]) (by rw [ln 8 (by decide) (by decide), nn7]; simp [hn1]) (by rw [fn 8 0 (by decide) (by decide), fv7 8 0 (by decide) (by decide), V5]; simp) (by rw [fn 8 1 (by decide) (by decide), fv7 8 1 (by decide) (by decide), V5]; simp) (by rw [fn 8 2 (by decide) (by decide), fv7 8 2 (by decide) (by decide), V5]; simp) (by rw [fn 8 3 (by decide) (by decide), fv7 8 3 (by decide) (by decide), V5]; simp) (by rw [kk14, kk7]; simp [hk1]) (by rw [ln 9 (by decide) (by decide), nn7]; simp [hn1]) (by rw [kk14, kk7]; simp [hk1]) (by rw [ln 10 (by decide) (by decide), nn7]; simp [hn1]) (by rw [kk14, kk7]; simp [hk1]) (by rw [ln 11 (by decide) (by decide), nn7]; simp [hn1]) (by rw [kk14, kk7]; simp [hk1]) (by rw [nn14 12 (by decide) (by decide) (by decide) (by decide)]; exact t12) (by rw [vv14 12 0 (by decide) (by decide) (by decide) (by decide) (by decide)]; exact u120) (by rw [vv14 12 1 (by decide) (by decide) (by decide) (by decide) (by decide)]; exact u121) (by rw [kk14, kk7]; simp [hk1]) (by rw [nn14 13 (by decide) (by decide) (by decide) (by decide)]; exact t13) (by rw [kk14, kk7]; simp [hk1]) (by rw [nn14 14 (by decide) (by decide) (by decide) (by decide)]; exact t14) (by rw [kk14, kk7]; simp [hk1]) (by rw [N14, N13, N12, N11, N10]; simp) (by rw [V14, V13, V12, V11]; simp) (by rw [V14, V13, V12, V11]; simp) (by rw [V14, V13, V12, V11]; simp) (by rw [V14, V13, V12, V11]; simp) (by rw [kk14, kk7]; simp [hk1]) (by rw [N14, N13, N12, N11, N10]; simp) (by rw [kk14, kk7]; simp [hk1]) (by rw [N14, N13, N12, N11, N10]; simp) (by rw [kk14, kk7]; simp [hk1]) (by rw [N14, N13, N12, N11, N10]; simp)
  have hCF : CF nF0 m9 ε14 := CF_0 hskC14 (fun i => by rw [mm 3 i (by omega), mm2 3 i (by omega)]; exact M0a.2.2.1 3 i (by omega)) (fun b b0 b1 => by rw [mm 4 b (by omega), mm2 4 b (by omega)]; exact M0a.2.2.2 b b0 b1) (fun b => by rw [mm 5 b (by omega), mm2 5 b (by omega)]; exact M0a.2.2.1 5 b (by omega)) (fun b => by rw [mm 6 b (by omega), mm2 6 b (by omega)]; exact M0a.2.2.1 6 b (by omega)) (by rw [mm 2 5 (by omega), mm2 2 5 (by omega)]; exact M0a.2.1) (by rw [mm 2 6 (by omega), mm2 2 6 (by omega), M0a.1 2 6 (by omega) (by omega), Z1, if_pos rfl]) (fun k => by rw [mm 7 k (by omega), mm2 7 k (by omega)]; exact M0a.2.2.1 7 k (by omega))
  have hCL : CL ng0 m9 := CL_0 (by rw [mm 8 4 (by omega)]; exact M3a.2.1) (by rw [mm 8 5 (by omega)]; exact M3a.2.2.1) (by rw [mm 8 6 (by omega), M3a.1 8 6 (by omega) (by omega), Z4, if_pos rfl]) (fun b b0 b1 => by rw [mm 10 b (by omega)]; exact M3a.2.2.2.2 b b0 b1)
  refine h _ _ ⟨hCF, hCL, hT14⟩ (by omega) (by omega) (fun j => by rw [mm (-1) j (by omega), mm2 (-1) j (by omega), M0a.1 (-1) j (by omega) (by omega), Z1, if_neg (by decide)]) ?_ (fun i => by rw [mm 3 i (by omega), mm2 3 i (by omega)]; exact M0a.2.2.1 3 i (by omega)) (fun j j0 => by rw [Z13, if_neg (by decide), M2a.1 13 j (by omega), Z10, if_neg (by decide)]; exact J8 j j0) (fun x hx => by
    have q : ∀ n : Int, n ≤ 20 → x ≠ n := fun n hn z => by rw [z] at hx; exact absurd hx (Int.not_lt.mpr hn)
    rw [kk14, if_neg (q 20 (by decide)), if_neg (q 18 (by decide)), if_neg (q 19 (by decide)), if_neg (q 17 (by decide)), if_neg (q 16 (by decide)), if_neg (q 15 (by decide)), if_neg (q 14 (by decide)), if_neg (q 13 (by decide)), kk7, if_neg (q 12 (by decide)), if_neg (q 9 (by decide)), if_neg (not_or.mpr ⟨q 10 (by decide), q 11 (by decide)⟩), if_neg (q 8 (by decide)), if_neg (q 3 (by decide)), if_neg (not_or.mpr ⟨q 4 (by decide), not_or.mpr ⟨q 5 (by decide), q 6 (by decide)⟩⟩), if_neg (q 7 (by decide)), if_neg (q 2 (by decide))]; exact h0 x (q 1 (by decide)))
  rw [nn14 (-1) (by decide) (by decide) (by decide) (by decide), n81, nn7]
  simp
