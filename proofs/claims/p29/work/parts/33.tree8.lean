theorem sp_X5_assign0 {μ : nMem} {ε : nEnv} {Q : nOut → nMem → nEnv → Prop} {S : Tr} {a na nm : Int} (hT : CT S μ ε) (hB : tB S) (hA : tAt S μ a na) (hnm : 1 ≤ nm ∧ nm < 100) (h0 : (tCl S na nm) ∉ tNl S → ∀ μ9, CT (tSetC S na nm 0) μ9 ε → FrT μ ε μ9 ε → (∀ c x, tAt S μ c x → tAt (tSetC S na nm 0) μ9 c x) → Q (.inl none) μ9 ε) (h1 : (tCl S na nm) ∈ tNl S → ¬ tFd (tDec (tSetC S na nm 0) na (tCl S na nm)) (tCl S na nm) 4 = 0 → ∀ μ9, CT (tDec (tSetC S na nm 0) na (tCl S na nm)) μ9 ε → FrT μ ε μ9 ε → (∀ c x, tAt S μ c x → tAt (tDec (tSetC S na nm 0) na (tCl S na nm)) μ9 c x) → Q (.inl none) μ9 ε) (h2 : (tCl S na nm) ∈ tNl S → tFd (tDec (tSetC S na nm 0) na (tCl S na nm)) (tCl S na nm) 4 = 0 → ∀ μ9 l, tDr (tNl S) (tCl S na nm) l → CT (tNx (tDec (tSetC S na nm 0) na (tCl S na nm)), l, tFd (tDec (tSetC S na nm 0) na (tCl S na nm)), tCl (tDec (tSetC S na nm 0) na (tCl S na nm))) μ9 ε → FrT μ ε μ9 ε → (∀ c x, x ≠ (tCl S na nm) → tAt S μ c x → tAt (tNx (tDec (tSetC S na nm 0) na (tCl S na nm)), l, tFd (tDec (tSetC S na nm 0) na (tCl S na nm)), tCl (tDec (tSetC S na nm 0) na (tCl S na nm))) μ9 c x) → Q (.inl none) μ9 ε) : Sp mX5_assign [vR 12, vR a, vI nm, vR 0] μ ε Q := by
  refine Sp_of (L := [(0, vR 12), (1, vR a), (2, vI nm), (3, vR 0)]) (by decide) rfl rfl (Nat.le_of_ble_eq_true rfl) ?_
  have hs := hT.1
  obtain ⟨a0, aI, aw, -⟩ := tAt_sh hT hA
  obtain ⟨ka, -, -⟩ := id aI
  have bc := (hB.2 _ (tAt_mem hA)).2.2.2 nm (by omega) (by omega)
  refine wq_aload_n (pc := 0) dX5_assign_0 rfl rfl ?_
  refine wq_aload_n (pc := 1) dX5_assign_1 rfl rfl ?_
  refine wq_iload_n (pc := 2) dX5_assign_2 rfl rfl ?_
  refine cV_1 (pc := 3) dX5_assign_3 (cw_X5_59 _ rfl) (by decide) (by with_reducible assumption) ⟨by decide, by decide⟩ (Nat.le_of_ble_eq_true rfl) (sp_X1_cell aI (by unfold inR; omega) ?_)
  refine kr_s ?_
  rw [tAt_cell hT hA (by omega) (by omega)]
  refine cVK_1 (pc := 6) dX5_assign_6 hs (cw_X5_41 _ rfl) (by decide) rfl ⟨by decide, by decide⟩ (Nat.le_of_ble_eq_true rfl) (sp_X5_find hT hB (by unfold inR; omega) (fun p hp => ?_) (fun hn => ?_))
  · skip
    refine kr_s ?_
    obtain ⟨p0, pI, pw, -⟩ := tAt_sh hT hp
    obtain ⟨kp, -, -⟩ := id pI
    have pb := (hB.2 _ (tAt_mem hp)).2.2.1 4 (by omega) (by omega)
    refine wq_astore (pc := 9) (L' := [(4, _), (0, _), (1, _), (2, _), (3, _)]) dX5_assign_9 rfl (by decide) ?_
    refine wq_aload_n (pc := 11) dX5_assign_11 rfl rfl ?_
    refine wq_iload_n (pc := 12) dX5_assign_12 rfl rfl ?_
    refine wq_aload_n (pc := 13) dX5_assign_13 rfl rfl ?_
    refine wq_ifnonnull (pc := 14) (tgt := 21) dX5_assign_14 (by decide) (fun c => absurd rfl c) (fun _ => ?_)
    refine wq_iconst (pc := 17) dX5_assign_17 ?_
    refine wq_goto (pc := 18) (tgt := 25) dX5_assign_18 (by decide) ?_
    refine cV_2 (pc := 25) dX5_assign_25 (cw_X5_63 _ rfl) (by decide) (by with_reducible assumption) ⟨by decide, by decide⟩ (Nat.le_of_ble_eq_true rfl) (sp_X1_setCell aI (by unfold inR; omega) ?_)
    refine kr_v ?_
    obtain ⟨T2, F2, K2⟩ := CT_setC (v := 0) hT hA (j := nm) (by omega)
    generalize mCell μ ε a nm 0 = m2 at T2 F2 K2 ⊢
    have hA2 := K2 _ _ hA
    refine wq_aload_n (pc := 28) dX5_assign_28 rfl rfl ?_
    refine wq_ifnull (pc := 29) (tgt := 52) dX5_assign_29 (by decide) (fun _ => ?_) (fun c => absurd rfl c)
    refine wq_aload (pc := 52) dX5_assign_52 rfl ?_
    refine wq_ifnull (pc := 54) (tgt := 92) dX5_assign_54 (by decide)  (fun c5 => ?_) (fun c5 => ?_)
    · skip
      exfalso; omega
    · skip
      refine wq_aload (pc := 57) dX5_assign_57 rfl ?_
      refine wq_dup (pc := 59) dX5_assign_59 rfl ?_
      refine wq_getI (pc := 60) (kk := 4) dX5_assign_60 (gf_X5_67 _ rfl) (by with_reducible assumption) rfl rfl rfl ?_
      refine wq_iconst (pc := 63) dX5_assign_63 ?_
      refine wq_isub (pc := 64) dX5_assign_64 ?_
      refine wq_putI (pc := 65) (kk := 4) dX5_assign_65 (gf_X5_67 _ rfl) (by with_reducible assumption) rfl rfl rfl rfl ?_
      refine wq_aload_n (pc := 68) dX5_assign_68 rfl rfl ?_
      refine wq_dup (pc := 69) dX5_assign_69 rfl ?_
      refine wq_getI (pc := 70) (kk := 5) dX5_assign_70 (gf_X5_70 _ rfl) (by with_reducible assumption) rfl rfl rfl ?_
      refine wq_iconst (pc := 73) dX5_assign_73 ?_
      refine wq_isub (pc := 74) dX5_assign_74 ?_
      refine wq_putI (pc := 75) (kk := 5) dX5_assign_75 (gf_X5_70 _ rfl) (by with_reducible assumption) rfl rfl rfl rfl ?_
      obtain ⟨T3, F3, K3⟩ := CT_dec T2 hA2 (K2 _ _ hp)
      generalize wr (wr m2 p 4 (m2 p 4 - 1)) a 5 (wr m2 p 4 (m2 p 4 - 1) a 5 - 1) = m3 at T3 F3 K3 ⊢
      have hp3 := K3 _ _ (K2 _ _ hp)
      have v4 := (tAt_is T3 hp3).2.1 4 (by omega) (by omega)
      have bz : -10 ≤ m3 p 4 ∧ m3 p 4 ≤ 200000 := by
        have ee : ∀ x, tFd (tSetC S na nm 0) x 4 = tFd S x 4 := fun _ => rfl
        rw [v4, tDec_4]
        simp only [ee]
        omega
      refine wq_aload (pc := 78) dX5_assign_78 rfl ?_
      refine wq_getI (pc := 80) (kk := 4) dX5_assign_80 (gf_X5_67 _ rfl) (by with_reducible assumption) rfl rfl rfl ?_
      refine wq_if_ne (pc := 83) (tgt := 92) dX5_assign_83 (by decide) (by first | (unfold inR; omega) | assumption) (fun c6 => ?_) (fun c6 => ?_)
      · skip
        refine wq_vret (pc := 92) dX5_assign_92 rfl ?_
        first
          | exact h0 hn _ T2 F2 (fun c x q => (K2 _ _ q))
          | exact h2 (tAt_mem hp) (by rw [← v4]; assumption) _ _ hl1 hT4 (FrT_trans (FrT_trans F2 F3) hF4) (fun c x hx q => hk4 c x hx (K3 _ _ (K2 _ _ q)))
          | exact h1 (tAt_mem hp) (by rw [← v4]; assumption) _ T3 (FrT_trans F2 F3) (fun c x q => K3 _ _ (K2 _ _ q))
      · skip
        refine wq_aload_n (pc := 86) dX5_assign_86 rfl rfl ?_
        refine wq_aload (pc := 87) dX5_assign_87 rfl ?_
        refine cVK_1 (pc := 89) dX5_assign_89 hs (cw_X5_73 _ rfl) (by decide) rfl ⟨by decide, by decide⟩ (Nat.le_of_ble_eq_true rfl) (sp_X5_drop T3 hp3 (fun m4 l hl1 hT4 hF4 hk4 => ?_))
        refine kr_v ?_
        refine wq_vret (pc := 92) dX5_assign_92 rfl ?_
        first
          | exact h0 hn _ T2 F2 (fun c x q => (K2 _ _ q))
          | exact h2 (tAt_mem hp) (by rw [← v4]; assumption) _ _ hl1 hT4 (FrT_trans (FrT_trans F2 F3) hF4) (fun c x hx q => hk4 c x hx (K3 _ _ (K2 _ _ q)))
          | exact h1 (tAt_mem hp) (by rw [← v4]; assumption) _ T3 (FrT_trans F2 F3) (fun c x q => K3 _ _ (K2 _ _ q))
  · skip
    refine kr_s ?_
    refine wq_astore (pc := 9) (L' := [(4, _), (0, _), (1, _), (2, _), (3, _)]) dX5_assign_9 rfl (by decide) ?_
    refine wq_aload_n (pc := 11) dX5_assign_11 rfl rfl ?_
    refine wq_iload_n (pc := 12) dX5_assign_12 rfl rfl ?_
    refine wq_aload_n (pc := 13) dX5_assign_13 rfl rfl ?_
    refine wq_ifnonnull (pc := 14) (tgt := 21) dX5_assign_14 (by decide) (fun c => absurd rfl c) (fun _ => ?_)
    refine wq_iconst (pc := 17) dX5_assign_17 ?_
    refine wq_goto (pc := 18) (tgt := 25) dX5_assign_18 (by decide) ?_
    refine cV_2 (pc := 25) dX5_assign_25 (cw_X5_63 _ rfl) (by decide) (by with_reducible assumption) ⟨by decide, by decide⟩ (Nat.le_of_ble_eq_true rfl) (sp_X1_setCell aI (by unfold inR; omega) ?_)
    refine kr_v ?_
    obtain ⟨T2, F2, K2⟩ := CT_setC (v := 0) hT hA (j := nm) (by omega)
    generalize mCell μ ε a nm 0 = m2 at T2 F2 K2 ⊢
    have hA2 := K2 _ _ hA
    refine wq_aload_n (pc := 28) dX5_assign_28 rfl rfl ?_
    refine wq_ifnull (pc := 29) (tgt := 52) dX5_assign_29 (by decide) (fun _ => ?_) (fun c => absurd rfl c)
    refine wq_aload (pc := 52) dX5_assign_52 rfl ?_
    refine wq_ifnull (pc := 54) (tgt := 92) dX5_assign_54 (by decide) (fun _ => ?_) (fun c => absurd rfl c)
    refine wq_vret (pc := 92) dX5_assign_92 rfl ?_
    first
      | exact h0 hn _ T2 F2 (fun c x q => (K2 _ _ q))
      | exact h2 (tAt_mem hp) (by rw [← v4]; assumption) _ _ hl1 hT4 (FrT_trans (FrT_trans F2 F3) hF4) (fun c x hx q => hk4 c x hx (K3 _ _ (K2 _ _ q)))
      | exact h1 (tAt_mem hp) (by rw [← v4]; assumption) _ T3 (FrT_trans F2 F3) (fun c x q => K3 _ _ (K2 _ _ q))
theorem sp_X5_assign {μ : nMem} {ε : nEnv} {Q : nOut → nMem → nEnv → Prop} {S : Tr} {a na nm b nb : Int} (hT : CT S μ ε) (hB : tB S) (hA : tAt S μ a na) (hI : tAt S μ b nb) (hnm : 1 ≤ nm ∧ nm < 100) (h0 : (tCl S na nm) ∉ tNl S → ∀ μ9, CT (tInc (tSetC S na nm nb) na nb) μ9 ε → FrT μ ε μ9 ε → (∀ c x, tAt S μ c x → tAt (tInc (tSetC S na nm nb) na nb) μ9 c x) → Q (.inl none) μ9 ε) (h1 : (tCl S na nm) ∈ tNl S → ¬ tFd (tDec (tInc (tSetC S na nm nb) na nb) na (tCl S na nm)) (tCl S na nm) 4 = 0 → ∀ μ9, CT (tDec (tInc (tSetC S na nm nb) na nb) na (tCl S na nm)) μ9 ε → FrT μ ε μ9 ε → (∀ c x, tAt S μ c x → tAt (tDec (tInc (tSetC S na nm nb) na nb) na (tCl S na nm)) μ9 c x) → Q (.inl none) μ9 ε) (h2 : (tCl S na nm) ∈ tNl S → tFd (tDec (tInc (tSetC S na nm nb) na nb) na (tCl S na nm)) (tCl S na nm) 4 = 0 → ∀ μ9 l, tDr (tNl S) (tCl S na nm) l → CT (tNx (tDec (tInc (tSetC S na nm nb) na nb) na (tCl S na nm)), l, tFd (tDec (tInc (tSetC S na nm nb) na nb) na (tCl S na nm)), tCl (tDec (tInc (tSetC S na nm nb) na nb) na (tCl S na nm))) μ9 ε → FrT μ ε μ9 ε → (∀ c x, x ≠ (tCl S na nm) → tAt S μ c x → tAt (tNx (tDec (tInc (tSetC S na nm nb) na nb) na (tCl S na nm)), l, tFd (tDec (tInc (tSetC S na nm nb) na nb) na (tCl S na nm)), tCl (tDec (tInc (tSetC S na nm nb) na nb) na (tCl S na nm))) μ9 c x) → Q (.inl none) μ9 ε) : Sp mX5_assign [vR 12, vR a, vI nm, vR b] μ ε Q := by
  refine Sp_of (L := [(0, vR 12), (1, vR a), (2, vI nm), (3, vR b)]) (by decide) rfl rfl (Nat.le_of_ble_eq_true rfl) ?_
  have hs := hT.1
  obtain ⟨a0, aI, aw, -⟩ := tAt_sh hT hA
  obtain ⟨ka, -, -⟩ := id aI
  have bc := (hB.2 _ (tAt_mem hA)).2.2.2 nm (by omega) (by omega)
  obtain ⟨b0, bI, bw, -⟩ := tAt_sh hT hI
  obtain ⟨kb, -, -⟩ := id bI
  obtain ⟨ib, -, -⟩ := tAt_is hT hI
  have ibb := (hB.2 _ (tAt_mem hI)).1
  have bb := (hB.2 _ (tAt_mem hI)).2.2.1 4 (by omega) (by omega)
  refine wq_aload_n (pc := 0) dX5_assign_0 rfl rfl ?_
  refine wq_aload_n (pc := 1) dX5_assign_1 rfl rfl ?_
  refine wq_iload_n (pc := 2) dX5_assign_2 rfl rfl ?_
  refine cV_1 (pc := 3) dX5_assign_3 (cw_X5_59 _ rfl) (by decide) (by with_reducible assumption) ⟨by decide, by decide⟩ (Nat.le_of_ble_eq_true rfl) (sp_X1_cell aI (by unfold inR; omega) ?_)
  refine kr_s ?_
  rw [tAt_cell hT hA (by omega) (by omega)]
  refine cVK_1 (pc := 6) dX5_assign_6 hs (cw_X5_41 _ rfl) (by decide) rfl ⟨by decide, by decide⟩ (Nat.le_of_ble_eq_true rfl) (sp_X5_find hT hB (by unfold inR; omega) (fun p hp => ?_) (fun hn => ?_))
  · skip
    refine kr_s ?_
    obtain ⟨p0, pI, pw, -⟩ := tAt_sh hT hp
    obtain ⟨kp, -, -⟩ := id pI
    have pb := (hB.2 _ (tAt_mem hp)).2.2.1 4 (by omega) (by omega)
    refine wq_astore (pc := 9) (L' := [(4, _), (0, _), (1, _), (2, _), (3, _)]) dX5_assign_9 rfl (by decide) ?_
    refine wq_aload_n (pc := 11) dX5_assign_11 rfl rfl ?_
    refine wq_iload_n (pc := 12) dX5_assign_12 rfl rfl ?_
    refine wq_aload_n (pc := 13) dX5_assign_13 rfl rfl ?_
    refine wq_ifnonnull (pc := 14) (tgt := 21) dX5_assign_14 (by decide)  (fun c3 => ?_) (fun c3 => ?_)
    · skip
      refine wq_aload_n (pc := 21) dX5_assign_21 rfl rfl ?_
      refine wq_getI (pc := 22) (kk := 1) dX5_assign_22 (gf_X5_38 _ rfl) (by with_reducible assumption) rfl rfl rfl ?_
      refine cV_2 (pc := 25) dX5_assign_25 (cw_X5_63 _ rfl) (by decide) (by with_reducible assumption) ⟨by decide, by decide⟩ (Nat.le_of_ble_eq_true rfl) (sp_X1_setCell aI (by unfold inR; omega) ?_)
      refine kr_v ?_
      rw [ib]
      obtain ⟨T1, F1, K1⟩ := CT_setC (v := nb) hT hA (j := nm) (by omega)
      generalize mCell μ ε a nm nb = m1 at T1 F1 K1 ⊢
      have hA1 := K1 _ _ hA
      refine wq_aload_n (pc := 28) dX5_assign_28 rfl rfl ?_
      refine wq_ifnull (pc := 29) (tgt := 52) dX5_assign_29 (by decide)  (fun c4 => ?_) (fun c4 => ?_)
      · skip
        exfalso; omega
      · skip
        refine wq_aload_n (pc := 32) dX5_assign_32 rfl rfl ?_
        refine wq_dup (pc := 33) dX5_assign_33 rfl ?_
        refine wq_getI (pc := 34) (kk := 4) dX5_assign_34 (gf_X5_67 _ rfl) (by with_reducible assumption) rfl rfl rfl ?_
        refine wq_iconst (pc := 37) dX5_assign_37 ?_
        refine wq_iadd (pc := 38) dX5_assign_38 ?_
        refine wq_putI (pc := 39) (kk := 4) dX5_assign_39 (gf_X5_67 _ rfl) (by with_reducible assumption) rfl rfl rfl rfl ?_
        refine wq_aload_n (pc := 42) dX5_assign_42 rfl rfl ?_
        refine wq_dup (pc := 43) dX5_assign_43 rfl ?_
        refine wq_getI (pc := 44) (kk := 5) dX5_assign_44 (gf_X5_70 _ rfl) (by with_reducible assumption) rfl rfl rfl ?_
        refine wq_iconst (pc := 47) dX5_assign_47 ?_
        refine wq_iadd (pc := 48) dX5_assign_48 ?_
        refine wq_putI (pc := 49) (kk := 5) dX5_assign_49 (gf_X5_70 _ rfl) (by with_reducible assumption) rfl rfl rfl rfl ?_
        obtain ⟨T2, F2, K2⟩ := CT_inc T1 hA1 (K1 _ _ hI)
        generalize wr (wr m1 b 4 (m1 b 4 + 1)) a 5 (wr m1 b 4 (m1 b 4 + 1) a 5 + 1) = m2 at T2 F2 K2 ⊢
        have hA2 := K2 _ _ hA1
        refine wq_aload (pc := 52) dX5_assign_52 rfl ?_
        refine wq_ifnull (pc := 54) (tgt := 92) dX5_assign_54 (by decide)  (fun c5 => ?_) (fun c5 => ?_)
        · skip
          exfalso; omega
        · skip
          refine wq_aload (pc := 57) dX5_assign_57 rfl ?_
          refine wq_dup (pc := 59) dX5_assign_59 rfl ?_
          refine wq_getI (pc := 60) (kk := 4) dX5_assign_60 (gf_X5_67 _ rfl) (by with_reducible assumption) rfl rfl rfl ?_
          refine wq_iconst (pc := 63) dX5_assign_63 ?_
          refine wq_isub (pc := 64) dX5_assign_64 ?_
          refine wq_putI (pc := 65) (kk := 4) dX5_assign_65 (gf_X5_67 _ rfl) (by with_reducible assumption) rfl rfl rfl rfl ?_
          refine wq_aload_n (pc := 68) dX5_assign_68 rfl rfl ?_
          refine wq_dup (pc := 69) dX5_assign_69 rfl ?_
          refine wq_getI (pc := 70) (kk := 5) dX5_assign_70 (gf_X5_70 _ rfl) (by with_reducible assumption) rfl rfl rfl ?_
          refine wq_iconst (pc := 73) dX5_assign_73 ?_
          refine wq_isub (pc := 74) dX5_assign_74 ?_
          refine wq_putI (pc := 75) (kk := 5) dX5_assign_75 (gf_X5_70 _ rfl) (by with_reducible assumption) rfl rfl rfl rfl ?_
          obtain ⟨T3, F3, K3⟩ := CT_dec T2 hA2 (K2 _ _ (K1 _ _ hp))
          generalize wr (wr m2 p 4 (m2 p 4 - 1)) a 5 (wr m2 p 4 (m2 p 4 - 1) a 5 - 1) = m3 at T3 F3 K3 ⊢
          have hp3 := K3 _ _ (K2 _ _ (K1 _ _ hp))
          have v4 := (tAt_is T3 hp3).2.1 4 (by omega) (by omega)
          have bz : -10 ≤ m3 p 4 ∧ m3 p 4 ≤ 200000 := by
            have ee : ∀ x, tFd (tSetC S na nm nb) x 4 = tFd S x 4 := fun _ => rfl
            rw [v4, tDec_4, tInc_4]
            simp only [ee]
            split <;> omega
          refine wq_aload (pc := 78) dX5_assign_78 rfl ?_
          refine wq_getI (pc := 80) (kk := 4) dX5_assign_80 (gf_X5_67 _ rfl) (by with_reducible assumption) rfl rfl rfl ?_
          refine wq_if_ne (pc := 83) (tgt := 92) dX5_assign_83 (by decide) (by first | (unfold inR; omega) | assumption) (fun c6 => ?_) (fun c6 => ?_)
          · skip
            refine wq_vret (pc := 92) dX5_assign_92 rfl ?_
            first
              | exact h0 hn _ T2 (FrT_trans F1 F2) (fun c x q => (K2 _ _ (K1 _ _ q)))
              | exact h2 (tAt_mem hp) (by rw [← v4]; assumption) _ _ hl1 hT4 (FrT_trans (FrT_trans (FrT_trans F1 F2) F3) hF4) (fun c x hx q => hk4 c x hx (K3 _ _ (K2 _ _ (K1 _ _ q))))
              | exact h1 (tAt_mem hp) (by rw [← v4]; assumption) _ T3 (FrT_trans (FrT_trans F1 F2) F3) (fun c x q => K3 _ _ (K2 _ _ (K1 _ _ q)))
          · skip
            refine wq_aload_n (pc := 86) dX5_assign_86 rfl rfl ?_
            refine wq_aload (pc := 87) dX5_assign_87 rfl ?_
            refine cVK_1 (pc := 89) dX5_assign_89 hs (cw_X5_73 _ rfl) (by decide) rfl ⟨by decide, by decide⟩ (Nat.le_of_ble_eq_true rfl) (sp_X5_drop T3 hp3 (fun m4 l hl1 hT4 hF4 hk4 => ?_))
            refine kr_v ?_
            refine wq_vret (pc := 92) dX5_assign_92 rfl ?_
            first
              | exact h0 hn _ T2 (FrT_trans F1 F2) (fun c x q => (K2 _ _ (K1 _ _ q)))
              | exact h2 (tAt_mem hp) (by rw [← v4]; assumption) _ _ hl1 hT4 (FrT_trans (FrT_trans (FrT_trans F1 F2) F3) hF4) (fun c x hx q => hk4 c x hx (K3 _ _ (K2 _ _ (K1 _ _ q))))
              | exact h1 (tAt_mem hp) (by rw [← v4]; assumption) _ T3 (FrT_trans (FrT_trans F1 F2) F3) (fun c x q => K3 _ _ (K2 _ _ (K1 _ _ q)))
    · skip
      exfalso; omega
  · skip
    refine kr_s ?_
    refine wq_astore (pc := 9) (L' := [(4, _), (0, _), (1, _), (2, _), (3, _)]) dX5_assign_9 rfl (by decide) ?_
    refine wq_aload_n (pc := 11) dX5_assign_11 rfl rfl ?_
    refine wq_iload_n (pc := 12) dX5_assign_12 rfl rfl ?_
    refine wq_aload_n (pc := 13) dX5_assign_13 rfl rfl ?_
    refine wq_ifnonnull (pc := 14) (tgt := 21) dX5_assign_14 (by decide)  (fun c8 => ?_) (fun c8 => ?_)
    · skip
      refine wq_aload_n (pc := 21) dX5_assign_21 rfl rfl ?_
      refine wq_getI (pc := 22) (kk := 1) dX5_assign_22 (gf_X5_38 _ rfl) (by with_reducible assumption) rfl rfl rfl ?_
      refine cV_2 (pc := 25) dX5_assign_25 (cw_X5_63 _ rfl) (by decide) (by with_reducible assumption) ⟨by decide, by decide⟩ (Nat.le_of_ble_eq_true rfl) (sp_X1_setCell aI (by unfold inR; omega) ?_)
      refine kr_v ?_
      rw [ib]
      obtain ⟨T1, F1, K1⟩ := CT_setC (v := nb) hT hA (j := nm) (by omega)
      generalize mCell μ ε a nm nb = m1 at T1 F1 K1 ⊢
      have hA1 := K1 _ _ hA
      refine wq_aload_n (pc := 28) dX5_assign_28 rfl rfl ?_
      refine wq_ifnull (pc := 29) (tgt := 52) dX5_assign_29 (by decide)  (fun c9 => ?_) (fun c9 => ?_)
      · skip
        exfalso; omega
      · skip
        refine wq_aload_n (pc := 32) dX5_assign_32 rfl rfl ?_
        refine wq_dup (pc := 33) dX5_assign_33 rfl ?_
        refine wq_getI (pc := 34) (kk := 4) dX5_assign_34 (gf_X5_67 _ rfl) (by with_reducible assumption) rfl rfl rfl ?_
        refine wq_iconst (pc := 37) dX5_assign_37 ?_
        refine wq_iadd (pc := 38) dX5_assign_38 ?_
        refine wq_putI (pc := 39) (kk := 4) dX5_assign_39 (gf_X5_67 _ rfl) (by with_reducible assumption) rfl rfl rfl rfl ?_
        refine wq_aload_n (pc := 42) dX5_assign_42 rfl rfl ?_
        refine wq_dup (pc := 43) dX5_assign_43 rfl ?_
        refine wq_getI (pc := 44) (kk := 5) dX5_assign_44 (gf_X5_70 _ rfl) (by with_reducible assumption) rfl rfl rfl ?_
        refine wq_iconst (pc := 47) dX5_assign_47 ?_
        refine wq_iadd (pc := 48) dX5_assign_48 ?_
        refine wq_putI (pc := 49) (kk := 5) dX5_assign_49 (gf_X5_70 _ rfl) (by with_reducible assumption) rfl rfl rfl rfl ?_
        obtain ⟨T2, F2, K2⟩ := CT_inc T1 hA1 (K1 _ _ hI)
        generalize wr (wr m1 b 4 (m1 b 4 + 1)) a 5 (wr m1 b 4 (m1 b 4 + 1) a 5 + 1) = m2 at T2 F2 K2 ⊢
        have hA2 := K2 _ _ hA1
        refine wq_aload (pc := 52) dX5_assign_52 rfl ?_
        refine wq_ifnull (pc := 54) (tgt := 92) dX5_assign_54 (by decide) (fun _ => ?_) (fun c => absurd rfl c)
        refine wq_vret (pc := 92) dX5_assign_92 rfl ?_
        first
          | exact h0 hn _ T2 (FrT_trans F1 F2) (fun c x q => (K2 _ _ (K1 _ _ q)))
          | exact h2 (tAt_mem hp) (by rw [← v4]; assumption) _ _ hl1 hT4 (FrT_trans (FrT_trans (FrT_trans F1 F2) F3) hF4) (fun c x hx q => hk4 c x hx (K3 _ _ (K2 _ _ (K1 _ _ q))))
          | exact h1 (tAt_mem hp) (by rw [← v4]; assumption) _ T3 (FrT_trans (FrT_trans F1 F2) F3) (fun c x q => K3 _ _ (K2 _ _ (K1 _ _ q)))
    · skip
      exfalso; omega
