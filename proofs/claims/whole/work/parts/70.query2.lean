theorem sp_X6_state {μ : nMem} {ε : nEnv} {Q : nOut → nMem → nEnv → Prop} {A : AS} {nb vb b : Int} {t : Nat} (hM : MC A nb vb μ ε) (hcap : Cap μ ε (t + 1)) (hnb : nb + 1 ≤ 2000) (hvb : vb + 2 ≤ 4000) (r1 : inR b) (h : ∀ μ9 ε9, MC (actState A b).2 (nb + 1) (vb + 2) μ9 ε9 → Cap μ9 ε9 t → FrN μ ε μ9 ε9 → Q (oc (actState A b).1) μ9 ε9) : Sp mX6_state [vR 1, vI b] μ ε Q := by
  refine Sp_of (L := [(0, vR 1), (1, vI b)]) (by decide) rfl rfl (Nat.le_of_ble_eq_true rfl) ?_
  obtain ⟨S, hC6, hB, hIB, hDD, h56, hon⟩ := hM
  obtain ⟨hC, hL, hT⟩ := id hC6
  have hs := hC.1
  have hsT := hT.1
  have h20 := (hs 20 5 0 [] rfl (by decide)).1
  have hroom := Cap_room hcap
  have hF6 := Fr6_refl μ ε
  have hC6c := hC6
  unfold actState at h
  unfold qB at h
  refine wq_aload_n (pc := 0) dX6_state_0 rfl rfl ?_
  refine cVK_0 (pc := 1) dX6_state_1 hs (cw_X6_157 _ rfl) (by decide) rfl ⟨by decide, by decide⟩ (Nat.le_of_ble_eq_true rfl) (sp_X6_refuseInDark hC hDD hcap (fun hd => ?_) (fun hd e9 ht => ?_))
  · skip
    refine kr_v ?_
    obtain ⟨fl, hP, hS⟩ := hon hd
    have ndk : ¬ dk A := fun z => by have z : fD (aF A) = 1 := z; omega
    rw [pI_0 ndk] at h
    have hbd := PA_bd hP.2.1
    have hSS := tS_S hP hS
    have hr := hC.2.1
    refine wq_aload_n (pc := 4) dX6_state_4 rfl rfl ?_
    refine wq_iload_n (pc := 5) dX6_state_5 rfl rfl ?_
    refine cVK_1 (pc := 6) dX6_state_6 hs (cw_X6_224 _ rfl) (by decide) rfl ⟨by decide, by decide⟩ (Nat.le_of_ble_eq_true rfl) (sp_X6_refuseWrongBlock hcap (by assumption) (fun hb => ?_) (fun hb e9 ht => ?_))
    · skip
      refine kr_v ?_
      rw [pI_0 (fun q => q hb)] at h
      refine wq_aload_n (pc := 9) dX6_state_9 rfl rfl ?_
      refine wq_getS (pc := 10) dX6_state_10 hs (gf_X6_21 _ rfl) rfl rfl rfl rfl rfl ?_
      refine wq_iload_n (pc := 13) dX6_state_13 rfl rfl ?_
      refine cVK_1 (pc := 14) dX6_state_14 hs (cw_X6_227 _ rfl) (by decide) rfl ⟨by decide, by decide⟩ (Nat.le_of_ble_eq_true rfl) (sp_X3_isFree hs hL (by unfold inR; omega) (fun hfr => ?_) (fun hfr => ?_))
      · skip
        refine kr_s ?_
        rw [if_pos hfr] at h
        refine wq_if_eq (pc := 17) (tgt := 22) dX6_state_17 (by decide) (by first | (unfold inR; omega) | assumption) (fun c => absurd c (by decide)) (fun _ => ?_)
        refine wq_iconst (pc := 20) dX6_state_20 ?_
        refine wq_iret (pc := 21) dX6_state_21 rfl ?_
        first
          | (have fin := MC_q hC6 hB hIB hDD h56 hon hnb
             have fcap := Cap_mono hcap (Nat.le_succ t)
             have ffr := FrN_6 (Fr6_refl μ ε)
             exact h _ _ fin fcap ffr)
          | (have fin := MC_q hC6 hB hIB hDD h56 hon hnb
             have fcap := Cap_mono hcap (Nat.le_succ t)
             have ffr := FrN_6 (Fr6_refl μ ε)
             rw [if_neg (by omega)] at h
             exact h _ _ fin fcap ffr)
          | (have fin := MC_q hC6 hB hIB hDD h56 hon hnb
             have fcap := Cap_mono hcap (Nat.le_succ t)
             have ffr := FrN_6 (Fr6_refl μ ε)
             rw [if_pos (by omega)] at h
             exact h _ _ fin fcap ffr)
          | (obtain ⟨m9, c9, f9⟩ := MC_x hC6c hB hIB hDD h56 hon hnb hcap hF6 ht; exact h _ _ m9 c9 f9)
      · skip
        refine kr_s ?_
        rw [if_neg hfr] at h
        have hg1 := hL.1
        have hg2 := hP.2.2.2.1.1
        refine wq_if_eq (pc := 17) (tgt := 22) dX6_state_17 (by decide) (by first | (unfold inR; omega) | assumption) (fun _ => ?_) (fun c => absurd c (by decide))
        refine wq_iload_n (pc := 22) dX6_state_22 rfl rfl ?_
        refine wq_aload_n (pc := 23) dX6_state_23 rfl rfl ?_
        refine wq_getS (pc := 24) dX6_state_24 hs (gf_X6_21 _ rfl) rfl rfl rfl rfl rfl ?_
        refine wq_getIK (pc := 27) (kk := 4) dX6_state_27 hs (gf_X6_230 _ rfl) rfl rfl rfl rfl ?_
        refine wq_icmp_ne (pc := 30) (tgt := 37) dX6_state_30 (by decide) (by first | (unfold inR; omega) | assumption) (by first | (unfold inR; omega) | assumption) (fun c9 => ?_) (fun c9 => ?_)
        · skip
          refine wq_aload_n (pc := 37) dX6_state_37 rfl rfl ?_
          refine wq_getS (pc := 38) dX6_state_38 hs (gf_X6_37 _ rfl) rfl rfl rfl rfl rfl ?_
          refine wq_iload_n (pc := 41) dX6_state_41 rfl rfl ?_
          refine cVK_1 (pc := 42) dX6_state_42 hs (cw_X6_233 _ rfl) (by decide) rfl ⟨by decide, by decide⟩ (Nat.le_of_ble_eq_true rfl) (sp_X2_dirtOf hC hT hB hb (hbd b hb.1 hb.2).2.2 ?_)
          refine kr_s ?_
          rw [jDirt_cg hSS]
          refine wq_iret (pc := 45) dX6_state_45 rfl ?_
          first
            | (have fin := MC_q hC6 hB hIB hDD h56 hon hnb
               have fcap := Cap_mono hcap (Nat.le_succ t)
               have ffr := FrN_6 (Fr6_refl μ ε)
               exact h _ _ fin fcap ffr)
            | (have fin := MC_q hC6 hB hIB hDD h56 hon hnb
               have fcap := Cap_mono hcap (Nat.le_succ t)
               have ffr := FrN_6 (Fr6_refl μ ε)
               rw [if_neg (by omega)] at h
               exact h _ _ fin fcap ffr)
            | (have fin := MC_q hC6 hB hIB hDD h56 hon hnb
               have fcap := Cap_mono hcap (Nat.le_succ t)
               have ffr := FrN_6 (Fr6_refl μ ε)
               rw [if_pos (by omega)] at h
               exact h _ _ fin fcap ffr)
            | (obtain ⟨m9, c9, f9⟩ := MC_x hC6c hB hIB hDD h56 hon hnb hcap hF6 ht; exact h _ _ m9 c9 f9)
        · skip
          refine wq_iconst (pc := 33) dX6_state_33 ?_
          refine wq_goto (pc := 34) (tgt := 45) dX6_state_34 (by decide) ?_
          refine wq_iret (pc := 45) dX6_state_45 rfl ?_
          first
            | (have fin := MC_q hC6 hB hIB hDD h56 hon hnb
               have fcap := Cap_mono hcap (Nat.le_succ t)
               have ffr := FrN_6 (Fr6_refl μ ε)
               exact h _ _ fin fcap ffr)
            | (have fin := MC_q hC6 hB hIB hDD h56 hon hnb
               have fcap := Cap_mono hcap (Nat.le_succ t)
               have ffr := FrN_6 (Fr6_refl μ ε)
               rw [if_neg (by omega)] at h
               exact h _ _ fin fcap ffr)
            | (have fin := MC_q hC6 hB hIB hDD h56 hon hnb
               have fcap := Cap_mono hcap (Nat.le_succ t)
               have ffr := FrN_6 (Fr6_refl μ ε)
               rw [if_pos (by omega)] at h
               exact h _ _ fin fcap ffr)
            | (obtain ⟨m9, c9, f9⟩ := MC_x hC6c hB hIB hDD h56 hon hnb hcap hF6 ht; exact h _ _ m9 c9 f9)
    · skip
      refine kr_x ?_
      rw [pI_1 hb] at h
      first
        | (have fin := MC_q hC6 hB hIB hDD h56 hon hnb
           have fcap := Cap_mono hcap (Nat.le_succ t)
           have ffr := FrN_6 (Fr6_refl μ ε)
           exact h _ _ fin fcap ffr)
        | (have fin := MC_q hC6 hB hIB hDD h56 hon hnb
           have fcap := Cap_mono hcap (Nat.le_succ t)
           have ffr := FrN_6 (Fr6_refl μ ε)
           rw [if_neg (by omega)] at h
           exact h _ _ fin fcap ffr)
        | (have fin := MC_q hC6 hB hIB hDD h56 hon hnb
           have fcap := Cap_mono hcap (Nat.le_succ t)
           have ffr := FrN_6 (Fr6_refl μ ε)
           rw [if_pos (by omega)] at h
           exact h _ _ fin fcap ffr)
        | (obtain ⟨m9, c9, f9⟩ := MC_x hC6c hB hIB hDD h56 hon hnb hcap hF6 ht; exact h _ _ m9 c9 f9)
  · skip
    refine kr_x ?_
    rw [pI_1 (show dk A from hd)] at h
    first
      | (have fin := MC_q hC6 hB hIB hDD h56 hon hnb
         have fcap := Cap_mono hcap (Nat.le_succ t)
         have ffr := FrN_6 (Fr6_refl μ ε)
         exact h _ _ fin fcap ffr)
      | (have fin := MC_q hC6 hB hIB hDD h56 hon hnb
         have fcap := Cap_mono hcap (Nat.le_succ t)
         have ffr := FrN_6 (Fr6_refl μ ε)
         rw [if_neg (by omega)] at h
         exact h _ _ fin fcap ffr)
      | (have fin := MC_q hC6 hB hIB hDD h56 hon hnb
         have fcap := Cap_mono hcap (Nat.le_succ t)
         have ffr := FrN_6 (Fr6_refl μ ε)
         rw [if_pos (by omega)] at h
         exact h _ _ fin fcap ffr)
      | (obtain ⟨m9, c9, f9⟩ := MC_x hC6c hB hIB hDD h56 hon hnb hcap hF6 ht; exact h _ _ m9 c9 f9)
theorem sp_X6_dead {μ : nMem} {ε : nEnv} {Q : nOut → nMem → nEnv → Prop} {A : AS} {nb vb b : Int} {t : Nat} (hM : MC A nb vb μ ε) (hcap : Cap μ ε (t + 1)) (hnb : nb + 1 ≤ 2000) (hvb : vb + 2 ≤ 4000) (r1 : inR b) (h : ∀ μ9 ε9, MC (actDead A b).2 (nb + 1) (vb + 2) μ9 ε9 → Cap μ9 ε9 t → FrN μ ε μ9 ε9 → Q (oc (actDead A b).1) μ9 ε9) : Sp mX6_dead [vR 1, vI b] μ ε Q := by
  refine Sp_of (L := [(0, vR 1), (1, vI b)]) (by decide) rfl rfl (Nat.le_of_ble_eq_true rfl) ?_
  obtain ⟨S, hC6, hB, hIB, hDD, h56, hon⟩ := hM
  obtain ⟨hC, hL, hT⟩ := id hC6
  have hs := hC.1
  have hsT := hT.1
  have h20 := (hs 20 5 0 [] rfl (by decide)).1
  have hroom := Cap_room hcap
  have hF6 := Fr6_refl μ ε
  have hC6c := hC6
  unfold actDead at h
  unfold qB at h
  refine wq_aload_n (pc := 0) dX6_dead_0 rfl rfl ?_
  refine cVK_0 (pc := 1) dX6_dead_1 hs (cw_X6_157 _ rfl) (by decide) rfl ⟨by decide, by decide⟩ (Nat.le_of_ble_eq_true rfl) (sp_X6_refuseInDark hC hDD hcap (fun hd => ?_) (fun hd e9 ht => ?_))
  · skip
    refine kr_v ?_
    obtain ⟨fl, hP, hS⟩ := hon hd
    have ndk : ¬ dk A := fun z => by have z : fD (aF A) = 1 := z; omega
    rw [pI_0 ndk] at h
    have hbd := PA_bd hP.2.1
    have hSS := tS_S hP hS
    have hr := hC.2.1
    refine wq_aload_n (pc := 4) dX6_dead_4 rfl rfl ?_
    refine wq_iload_n (pc := 5) dX6_dead_5 rfl rfl ?_
    refine cVK_1 (pc := 6) dX6_dead_6 hs (cw_X6_224 _ rfl) (by decide) rfl ⟨by decide, by decide⟩ (Nat.le_of_ble_eq_true rfl) (sp_X6_refuseWrongBlock hcap (by assumption) (fun hb => ?_) (fun hb e9 ht => ?_))
    · skip
      refine kr_v ?_
      rw [pI_0 (fun q => q hb)] at h
      refine wq_aload_n (pc := 9) dX6_dead_9 rfl rfl ?_
      refine wq_getS (pc := 10) dX6_dead_10 hs (gf_X6_37 _ rfl) rfl rfl rfl rfl rfl ?_
      refine wq_iload_n (pc := 13) dX6_dead_13 rfl rfl ?_
      refine cVK_1 (pc := 14) dX6_dead_14 hs (cw_X6_236 _ rfl) (by decide) rfl ⟨by decide, by decide⟩ (Nat.le_of_ble_eq_true rfl) (sp_X2_deadUnits hC hT hB hb (hbd b hb.1 hb.2).2.2 ?_)
      refine kr_s ?_
      rw [jSum_cg hSS]
      refine wq_iret (pc := 17) dX6_dead_17 rfl ?_
      first
        | (have fin := MC_q hC6 hB hIB hDD h56 hon hnb
           have fcap := Cap_mono hcap (Nat.le_succ t)
           have ffr := FrN_6 (Fr6_refl μ ε)
           exact h _ _ fin fcap ffr)
        | (obtain ⟨m9, c9, f9⟩ := MC_x hC6c hB hIB hDD h56 hon hnb hcap hF6 ht; exact h _ _ m9 c9 f9)
    · skip
      refine kr_x ?_
      rw [pI_1 hb] at h
      first
        | (have fin := MC_q hC6 hB hIB hDD h56 hon hnb
           have fcap := Cap_mono hcap (Nat.le_succ t)
           have ffr := FrN_6 (Fr6_refl μ ε)
           exact h _ _ fin fcap ffr)
        | (obtain ⟨m9, c9, f9⟩ := MC_x hC6c hB hIB hDD h56 hon hnb hcap hF6 ht; exact h _ _ m9 c9 f9)
  · skip
    refine kr_x ?_
    rw [pI_1 (show dk A from hd)] at h
    first
      | (have fin := MC_q hC6 hB hIB hDD h56 hon hnb
         have fcap := Cap_mono hcap (Nat.le_succ t)
         have ffr := FrN_6 (Fr6_refl μ ε)
         exact h _ _ fin fcap ffr)
      | (obtain ⟨m9, c9, f9⟩ := MC_x hC6c hB hIB hDD h56 hon hnb hcap hF6 ht; exact h _ _ m9 c9 f9)
theorem sp_X6_toCopy {μ : nMem} {ε : nEnv} {Q : nOut → nMem → nEnv → Prop} {A : AS} {nb vb b : Int} {t : Nat} (hM : MC A nb vb μ ε) (hcap : Cap μ ε (t + 1)) (hnb : nb + 1 ≤ 2000) (hvb : vb + 2 ≤ 4000) (r1 : inR b) (h : ∀ μ9 ε9, MC (actToCopy A b).2 (nb + 1) (vb + 2) μ9 ε9 → Cap μ9 ε9 t → FrN μ ε μ9 ε9 → Q (oc (actToCopy A b).1) μ9 ε9) : Sp mX6_toCopy [vR 1, vI b] μ ε Q := by
  refine Sp_of (L := [(0, vR 1), (1, vI b)]) (by decide) rfl rfl (Nat.le_of_ble_eq_true rfl) ?_
  obtain ⟨S, hC6, hB, hIB, hDD, h56, hon⟩ := hM
  obtain ⟨hC, hL, hT⟩ := id hC6
  have hs := hC.1
  have hsT := hT.1
  have h20 := (hs 20 5 0 [] rfl (by decide)).1
  have hroom := Cap_room hcap
  have hF6 := Fr6_refl μ ε
  have hC6c := hC6
  unfold actToCopy at h
  unfold qB at h
  refine wq_aload_n (pc := 0) dX6_toCopy_0 rfl rfl ?_
  refine cVK_0 (pc := 1) dX6_toCopy_1 hs (cw_X6_157 _ rfl) (by decide) rfl ⟨by decide, by decide⟩ (Nat.le_of_ble_eq_true rfl) (sp_X6_refuseInDark hC hDD hcap (fun hd => ?_) (fun hd e9 ht => ?_))
  · skip
    refine kr_v ?_
    obtain ⟨fl, hP, hS⟩ := hon hd
    have ndk : ¬ dk A := fun z => by have z : fD (aF A) = 1 := z; omega
    rw [pI_0 ndk] at h
    have hbd := PA_bd hP.2.1
    have hSS := tS_S hP hS
    have hr := hC.2.1
    refine wq_aload_n (pc := 4) dX6_toCopy_4 rfl rfl ?_
    refine wq_iload_n (pc := 5) dX6_toCopy_5 rfl rfl ?_
    refine cVK_1 (pc := 6) dX6_toCopy_6 hs (cw_X6_224 _ rfl) (by decide) rfl ⟨by decide, by decide⟩ (Nat.le_of_ble_eq_true rfl) (sp_X6_refuseWrongBlock hcap (by assumption) (fun hb => ?_) (fun hb e9 ht => ?_))
    · skip
      refine kr_v ?_
      rw [pI_0 (fun q => q hb)] at h
      refine wq_aload_n (pc := 9) dX6_toCopy_9 rfl rfl ?_
      refine wq_getS (pc := 10) dX6_toCopy_10 hs (gf_X6_37 _ rfl) rfl rfl rfl rfl rfl ?_
      refine wq_iload_n (pc := 13) dX6_toCopy_13 rfl rfl ?_
      refine cVK_1 (pc := 14) dX6_toCopy_14 hs (cw_X6_167 _ rfl) (by decide) rfl ⟨by decide, by decide⟩ (Nat.le_of_ble_eq_true rfl) (sp_X2_choose hC hT hB hb (hbd b hb.1 hb.2).2.2 (PA_blkK hP.2.1 hb.1 hb.2) (fun m1 C1 T1 J1 F1 => ?_))
      refine kr_s ?_
      rw [ck_cg hSS]
      have C61 : C6 (aF A) (aG A) S m1 ε := ⟨C1, CL_FrJ hL hr F1, T1⟩
      have R1 := Fr6_J hr F1
      have fin := MC_q C61 hB hIB hDD h56 hon hnb
      have fcap := Cap_mono (R1.2.2.2 _ hcap) (Nat.le_succ t)
      have ffr := FrN_6 R1
      refine wq_iret (pc := 17) dX6_toCopy_17 rfl ?_
      first | (obtain ⟨m9, c9, f9⟩ := MC_x hC6c hB hIB hDD h56 hon hnb hcap hF6 ht; exact h _ _ m9 c9 f9) | exact h _ _ fin fcap ffr
    · skip
      refine kr_x ?_
      rw [pI_1 hb] at h
      first | (obtain ⟨m9, c9, f9⟩ := MC_x hC6c hB hIB hDD h56 hon hnb hcap hF6 ht; exact h _ _ m9 c9 f9) | exact h _ _ fin fcap ffr
  · skip
    refine kr_x ?_
    rw [pI_1 (show dk A from hd)] at h
    first | (obtain ⟨m9, c9, f9⟩ := MC_x hC6c hB hIB hDD h56 hon hnb hcap hF6 ht; exact h _ _ m9 c9 f9) | exact h _ _ fin fcap ffr
theorem sp_X6_written {μ : nMem} {ε : nEnv} {Q : nOut → nMem → nEnv → Prop} {A : AS} {nb vb b : Int} {t : Nat} (hM : MC A nb vb μ ε) (hcap : Cap μ ε (t + 1)) (hnb : nb + 1 ≤ 2000) (hvb : vb + 2 ≤ 4000) (r1 : inR b) (h : ∀ μ9 ε9, MC (actWritten A b).2 (nb + 1) (vb + 2) μ9 ε9 → Cap μ9 ε9 t → FrN μ ε μ9 ε9 → Q (oc (actWritten A b).1) μ9 ε9) : Sp mX6_written [vR 1, vI b] μ ε Q := by
  refine Sp_of (L := [(0, vR 1), (1, vI b)]) (by decide) rfl rfl (Nat.le_of_ble_eq_true rfl) ?_
  obtain ⟨S, hC6, hB, hIB, hDD, h56, hon⟩ := hM
  obtain ⟨hC, hL, hT⟩ := id hC6
  have hs := hC.1
  have hsT := hT.1
  have h20 := (hs 20 5 0 [] rfl (by decide)).1
  have hroom := Cap_room hcap
  have hF6 := Fr6_refl μ ε
  have hC6c := hC6
  unfold actWritten at h
  unfold qb at h
  refine wq_aload_n (pc := 0) dX6_written_0 rfl rfl ?_
  refine wq_iload_n (pc := 1) dX6_written_1 rfl rfl ?_
  refine cVK_1 (pc := 2) dX6_written_2 hs (cw_X6_224 _ rfl) (by decide) rfl ⟨by decide, by decide⟩ (Nat.le_of_ble_eq_true rfl) (sp_X6_refuseWrongBlock hcap (by assumption) (fun hb => ?_) (fun hb e9 ht => ?_))
  · skip
    refine kr_v ?_
    rw [pI_0 (fun q => q hb)] at h
    refine wq_aload_n (pc := 5) dX6_written_5 rfl rfl ?_
    refine wq_getS (pc := 6) dX6_written_6 hs (gf_X6_10 _ rfl) rfl rfl rfl rfl rfl ?_
    refine wq_iload_n (pc := 9) dX6_written_9 rfl rfl ?_
    refine cVK_1 (pc := 10) dX6_written_10 hs (cw_X6_239 _ rfl) (by decide) rfl ⟨by decide, by decide⟩ (Nat.le_of_ble_eq_true rfl) (sq_X0_usedOf hs hb ?_)
    refine kr_s ?_
    rw [(hC.2.2.2.2.1 b hb.1 hb.2).1]
    refine wq_iret (pc := 13) dX6_written_13 rfl ?_
    first
      | (have fin := MC_q hC6 hB hIB hDD h56 hon hnb
         have fcap := Cap_mono hcap (Nat.le_succ t)
         have ffr := FrN_6 (Fr6_refl μ ε)
         exact h _ _ fin fcap ffr)
      | (obtain ⟨m9, c9, f9⟩ := MC_x hC6c hB hIB hDD h56 hon hnb hcap hF6 ht; exact h _ _ m9 c9 f9)
  · skip
    refine kr_x ?_
    rw [pI_1 hb] at h
    first
      | (have fin := MC_q hC6 hB hIB hDD h56 hon hnb
         have fcap := Cap_mono hcap (Nat.le_succ t)
         have ffr := FrN_6 (Fr6_refl μ ε)
         exact h _ _ fin fcap ffr)
      | (obtain ⟨m9, c9, f9⟩ := MC_x hC6c hB hIB hDD h56 hon hnb hcap hF6 ht; exact h _ _ m9 c9 f9)
theorem sp_X6_nodes {μ : nMem} {ε : nEnv} {Q : nOut → nMem → nEnv → Prop} {A : AS} {nb vb b : Int} {t : Nat} (hM : MC A nb vb μ ε) (hcap : Cap μ ε (t + 1)) (hnb : nb + 1 ≤ 2000) (hvb : vb + 2 ≤ 4000) (r1 : inR b) (h : ∀ μ9 ε9, MC (actNodes A b).2 (nb + 1) (vb + 2) μ9 ε9 → Cap μ9 ε9 t → FrN μ ε μ9 ε9 → Q (oc (actNodes A b).1) μ9 ε9) : Sp mX6_nodes [vR 1, vI b] μ ε Q := by
  refine Sp_of (L := [(0, vR 1), (1, vI b)]) (by decide) rfl rfl (Nat.le_of_ble_eq_true rfl) ?_
  obtain ⟨S, hC6, hB, hIB, hDD, h56, hon⟩ := hM
  obtain ⟨hC, hL, hT⟩ := id hC6
  have hs := hC.1
  have hsT := hT.1
  have h20 := (hs 20 5 0 [] rfl (by decide)).1
  have hroom := Cap_room hcap
  have hF6 := Fr6_refl μ ε
  have hC6c := hC6
  unfold actNodes at h
  unfold qb at h
  refine wq_aload_n (pc := 0) dX6_nodes_0 rfl rfl ?_
  refine wq_iload_n (pc := 1) dX6_nodes_1 rfl rfl ?_
  refine cVK_1 (pc := 2) dX6_nodes_2 hs (cw_X6_224 _ rfl) (by decide) rfl ⟨by decide, by decide⟩ (Nat.le_of_ble_eq_true rfl) (sp_X6_refuseWrongBlock hcap (by assumption) (fun hb => ?_) (fun hb e9 ht => ?_))
  · skip
    refine kr_v ?_
    rw [pI_0 (fun q => q hb)] at h
    refine wq_aload_n (pc := 5) dX6_nodes_5 rfl rfl ?_
    refine wq_getS (pc := 6) dX6_nodes_6 hs (gf_X6_10 _ rfl) rfl rfl rfl rfl rfl ?_
    refine wq_iload_n (pc := 9) dX6_nodes_9 rfl rfl ?_
    refine cVK_1 (pc := 10) dX6_nodes_10 hs (cw_X6_242 _ rfl) (by decide) rfl ⟨by decide, by decide⟩ (Nat.le_of_ble_eq_true rfl) (sq_X0_countOf hs hb ?_)
    refine kr_s ?_
    rw [(hC.2.2.2.2.1 b hb.1 hb.2).2.1]
    refine wq_iret (pc := 13) dX6_nodes_13 rfl ?_
    first
      | (have fin := MC_q hC6 hB hIB hDD h56 hon hnb
         have fcap := Cap_mono hcap (Nat.le_succ t)
         have ffr := FrN_6 (Fr6_refl μ ε)
         exact h _ _ fin fcap ffr)
      | (obtain ⟨m9, c9, f9⟩ := MC_x hC6c hB hIB hDD h56 hon hnb hcap hF6 ht; exact h _ _ m9 c9 f9)
  · skip
    refine kr_x ?_
    rw [pI_1 hb] at h
    first
      | (have fin := MC_q hC6 hB hIB hDD h56 hon hnb
         have fcap := Cap_mono hcap (Nat.le_succ t)
         have ffr := FrN_6 (Fr6_refl μ ε)
         exact h _ _ fin fcap ffr)
      | (obtain ⟨m9, c9, f9⟩ := MC_x hC6c hB hIB hDD h56 hon hnb hcap hF6 ht; exact h _ _ m9 c9 f9)
theorem sp_X6_erased {μ : nMem} {ε : nEnv} {Q : nOut → nMem → nEnv → Prop} {A : AS} {nb vb b : Int} {t : Nat} (hM : MC A nb vb μ ε) (hcap : Cap μ ε (t + 1)) (hnb : nb + 1 ≤ 2000) (hvb : vb + 2 ≤ 4000) (r1 : inR b) (h : ∀ μ9 ε9, MC (actErased A b).2 (nb + 1) (vb + 2) μ9 ε9 → Cap μ9 ε9 t → FrN μ ε μ9 ε9 → Q (oc (actErased A b).1) μ9 ε9) : Sp mX6_erased [vR 1, vI b] μ ε Q := by
  refine Sp_of (L := [(0, vR 1), (1, vI b)]) (by decide) rfl rfl (Nat.le_of_ble_eq_true rfl) ?_
  obtain ⟨S, hC6, hB, hIB, hDD, h56, hon⟩ := hM
  obtain ⟨hC, hL, hT⟩ := id hC6
  have hs := hC.1
  have hsT := hT.1
  have h20 := (hs 20 5 0 [] rfl (by decide)).1
  have hroom := Cap_room hcap
  have hF6 := Fr6_refl μ ε
  have hC6c := hC6
  unfold actErased at h
  unfold qb at h
  refine wq_aload_n (pc := 0) dX6_erased_0 rfl rfl ?_
  refine wq_iload_n (pc := 1) dX6_erased_1 rfl rfl ?_
  refine cVK_1 (pc := 2) dX6_erased_2 hs (cw_X6_224 _ rfl) (by decide) rfl ⟨by decide, by decide⟩ (Nat.le_of_ble_eq_true rfl) (sp_X6_refuseWrongBlock hcap (by assumption) (fun hb => ?_) (fun hb e9 ht => ?_))
  · skip
    refine kr_v ?_
    rw [pI_0 (fun q => q hb)] at h
    refine wq_aload_n (pc := 5) dX6_erased_5 rfl rfl ?_
    refine wq_getS (pc := 6) dX6_erased_6 hs (gf_X6_10 _ rfl) rfl rfl rfl rfl rfl ?_
    refine wq_iload_n (pc := 9) dX6_erased_9 rfl rfl ?_
    refine cVK_1 (pc := 10) dX6_erased_10 hs (cw_X6_270 _ rfl) (by decide) rfl ⟨by decide, by decide⟩ (Nat.le_of_ble_eq_true rfl) (sq_X0_erasuresOf hs hb ?_)
    refine kr_s ?_
    rw [(hC.2.2.2.2.1 b hb.1 hb.2).2.2]
    refine wq_iret (pc := 13) dX6_erased_13 rfl ?_
    first
      | (have fin := MC_q hC6 hB hIB hDD h56 hon hnb
         have fcap := Cap_mono hcap (Nat.le_succ t)
         have ffr := FrN_6 (Fr6_refl μ ε)
         exact h _ _ fin fcap ffr)
      | (obtain ⟨m9, c9, f9⟩ := MC_x hC6c hB hIB hDD h56 hon hnb hcap hF6 ht; exact h _ _ m9 c9 f9)
  · skip
    refine kr_x ?_
    rw [pI_1 hb] at h
    first
      | (have fin := MC_q hC6 hB hIB hDD h56 hon hnb
         have fcap := Cap_mono hcap (Nat.le_succ t)
         have ffr := FrN_6 (Fr6_refl μ ε)
         exact h _ _ fin fcap ffr)
      | (obtain ⟨m9, c9, f9⟩ := MC_x hC6c hB hIB hDD h56 hon hnb hcap hF6 ht; exact h _ _ m9 c9 f9)
theorem sp_X6_node {μ : nMem} {ε : nEnv} {Q : nOut → nMem → nEnv → Prop} {A : AS} {nb vb b p : Int} {t : Nat} (hM : MC A nb vb μ ε) (hcap : Cap μ ε (t + 1)) (hnb : nb + 1 ≤ 2000) (hvb : vb + 2 ≤ 4000) (r1 : inR b) (r2 : inR p) (h : ∀ μ9 ε9, MC (actNode A b p).2 (nb + 1) (vb + 2) μ9 ε9 → Cap μ9 ε9 t → FrN μ ε μ9 ε9 → Q (ocJ (actNode A b p).1) μ9 ε9) : Sp mX6_node [vR 1, vI b, vI p] μ ε Q := by
  refine Sp_of (L := [(0, vR 1), (1, vI b), (2, vI p)]) (by decide) rfl rfl (Nat.le_of_ble_eq_true rfl) ?_
  obtain ⟨S, hC6, hB, hIB, hDD, h56, hon⟩ := hM
  obtain ⟨hC, hL, hT⟩ := id hC6
  have hs := hC.1
  have hsT := hT.1
  have h20 := (hs 20 5 0 [] rfl (by decide)).1
  have hroom := Cap_room hcap
  have hF6 := Fr6_refl μ ε
  have hC6c := hC6
  unfold actNode at h
  unfold qb at h
  have hr := hC.2.1
  refine wq_aload_n (pc := 0) dX6_node_0 rfl rfl ?_
  refine wq_iload_n (pc := 1) dX6_node_1 rfl rfl ?_
  refine cVK_1 (pc := 2) dX6_node_2 hs (cw_X6_224 _ rfl) (by decide) rfl ⟨by decide, by decide⟩ (Nat.le_of_ble_eq_true rfl) (sp_X6_refuseWrongBlock hcap (by assumption) (fun hb => ?_) (fun hb e9 ht => ?_))
  · skip
    refine kr_v ?_
    rw [pI_0 (fun q => q hb)] at h
    refine wq_iload_n (pc := 5) dX6_node_5 rfl rfl ?_
    refine wq_if_lt (pc := 6) (tgt := 21) dX6_node_6 (by decide) (by first | (unfold inR; omega) | assumption) (fun c3 => ?_) (fun c3 => ?_)
    · skip
      rw [pI_1 (show ¬ (0 ≤ p ∧ p < fC (aF A) b) by omega)] at h
      refine wq_throw (pc := 21) dX6_node_21 dX6_node_24 dX6_node_25 dX6_node_27 dX6_node_30 rfl th_X ks_X6_245 (by decide) (by decide) (Nat.le_of_ble_eq_true rfl) hroom (fun ε' ht => ?_)
      first
        | (have fin := MC_q hC6 hB hIB hDD h56 hon hnb
           have fcap := Cap_mono hcap (Nat.le_succ t)
           have ffr := FrN_6 (Fr6_refl μ ε)
           rw [if_pos (by omega), ← f0, ← f2, ← f3, ← f4] at h
           exact h _ _ fin fcap ffr)
        | (have fin := MC_q hC6 hB hIB hDD h56 hon hnb
           have fcap := Cap_mono hcap (Nat.le_succ t)
           have ffr := FrN_6 (Fr6_refl μ ε)
           rw [if_neg (by omega), ← f2] at h
           exact h _ _ fin fcap ffr)
        | (obtain ⟨m9, c9, f9⟩ := MC_x hC6c hB hIB hDD h56 hon hnb hcap hF6 ht; exact h _ _ m9 c9 f9)
    · skip
      refine wq_iload_n (pc := 9) dX6_node_9 rfl rfl ?_
      refine wq_aload_n (pc := 10) dX6_node_10 rfl rfl ?_
      refine wq_getS (pc := 11) dX6_node_11 hs (gf_X6_10 _ rfl) rfl rfl rfl rfl rfl ?_
      refine wq_iload_n (pc := 14) dX6_node_14 rfl rfl ?_
      refine cVK_1 (pc := 15) dX6_node_15 hs (cw_X6_242 _ rfl) (by decide) rfl ⟨by decide, by decide⟩ (Nat.le_of_ble_eq_true rfl) (sq_X0_countOf hs hb ?_)
      refine kr_s ?_
      rw [(hC.2.2.2.2.1 b hb.1 hb.2).2.1]
      have hcb := (PA_bd hIB.1 b hb.1 hb.2).2.2
      refine wq_icmp_lt (pc := 18) (tgt := 31) dX6_node_18 (by decide) (by first | (unfold inR; omega) | assumption) (by first | (unfold inR; omega) | assumption) (fun c4 => ?_) (fun c4 => ?_)
      · skip
        have hp9 : 0 ≤ p ∧ p < fC (aF A) b := by omega
        rw [pI_0 (fun q => q hp9)] at h
        refine wq_aload_n (pc := 31) dX6_node_31 rfl rfl ?_
        refine wq_getS (pc := 32) dX6_node_32 hs (gf_X6_10 _ rfl) rfl rfl rfl rfl rfl ?_
        refine wq_iload_n (pc := 35) dX6_node_35 rfl rfl ?_
        refine wq_iload_n (pc := 36) dX6_node_36 rfl rfl ?_
        refine cVK_2 (pc := 37) dX6_node_37 hs (cw_X6_247 _ rfl) (by decide) rfl ⟨by decide, by decide⟩ (Nat.le_of_ble_eq_true rfl) (sp_X0_at hs (by unfold inR; omega) (by unfold inR; omega) ?_)
        refine kr_s ?_
        rw [nAtB_in hb (by omega)]
        have hak := nRow_kd hs hr (b * 16 + p)
        have hab := nRow_nB hr (b * 16 + p)
        obtain ⟨ra, -⟩ := CF_row hC (i := b * 16 + p) (by omega) (by omega)
        generalize nRow μ (b * 16 + p) = a at hak hab ra ⊢
        have f0 := ra 0 (by omega) (by omega)
        have f1 := ra 1 (by omega) (by omega)
        have f2 := ra 2 (by omega) (by omega)
        have f3 := ra 3 (by omega) (by omega)
        have f4 := ra 4 (by omega) (by omega)
        have hk0 := PA_blkK hIB.1 hb.1 hb.2 p hp9.1 hp9.2
        obtain ⟨n0, n1, n2, n3, n4, n5, n6, n9, n10, n11, n12, n13⟩ := id hab
        refine wq_astore_n (pc := 40) (L' := [(3, _), (0, _), (1, _), (2, _)]) dX6_node_40 rfl rfl (by decide) ?_
        refine wq_aload_n (pc := 41) dX6_node_41 rfl rfl ?_
        refine cV_0 (pc := 42) dX6_node_42 (cw_X6_251 _ rfl) (by decide) (by with_reducible assumption) ⟨by decide, by decide⟩ (Nat.le_of_ble_eq_true rfl) (sp_X4_isWhole hak hab (fun hw => ?_) (fun hw => ?_))
        · skip
          refine kr_s ?_
          refine wq_if_ne (pc := 45) (tgt := 62) dX6_node_45 (by decide) (by first | (unfold inR; omega) | assumption) (fun _ => ?_) (fun c => absurd c (by decide))
          refine wq_aload_n (pc := 62) dX6_node_62 rfl rfl ?_
          refine wq_getI (pc := 63) (kk := 0) dX6_node_63 (gf_X6_261 _ rfl) (by with_reducible assumption) rfl rfl rfl ?_
          refine wq_i2l (pc := 66) dX6_node_66 (by first | (unfold inR; omega) | assumption) ?_
          refine wq_ldc2 (pc := 67) dX6_node_67 (kc_X6_256 _ rfl) ?_
          refine wq_aload_n (pc := 70) dX6_node_70 rfl rfl ?_
          refine wq_getI (pc := 71) (kk := 2) dX6_node_71 (gf_X6_258 _ rfl) (by with_reducible assumption) rfl rfl rfl ?_
          refine wq_i2l (pc := 74) dX6_node_74 (by first | (unfold inR; omega) | assumption) ?_
          refine wq_lmul (pc := 75) dX6_node_75 ?_
          refine wq_ladd (pc := 76) dX6_node_76 ?_
          refine wq_ldc2 (pc := 77) dX6_node_77 (kc_X6_264 _ rfl) ?_
          refine wq_aload_n (pc := 80) dX6_node_80 rfl rfl ?_
          refine wq_getI (pc := 81) (kk := 3) dX6_node_81 (gf_X6_266 _ rfl) (by with_reducible assumption) rfl rfl rfl ?_
          refine wq_i2l (pc := 84) dX6_node_84 (by first | (unfold inR; omega) | assumption) ?_
          refine wq_lmul (pc := 85) dX6_node_85 ?_
          refine wq_ladd (pc := 86) dX6_node_86 ?_
          refine wq_ldc2 (pc := 87) dX6_node_87 (kc_X6_267 _ rfl) ?_
          refine wq_aload_n (pc := 90) dX6_node_90 rfl rfl ?_
          refine wq_getI (pc := 91) (kk := 4) dX6_node_91 (gf_X6_269 _ rfl) (by with_reducible assumption) rfl rfl rfl ?_
          refine wq_i2l (pc := 94) dX6_node_94 (by first | (unfold inR; omega) | assumption) ?_
          refine wq_lmul (pc := 95) dX6_node_95 ?_
          refine wq_ladd (pc := 96) dX6_node_96 ?_
          refine wq_lret (pc := 97) dX6_node_97 rfl ?_
          first
            | (have fin := MC_q hC6 hB hIB hDD h56 hon hnb
               have fcap := Cap_mono hcap (Nat.le_succ t)
               have ffr := FrN_6 (Fr6_refl μ ε)
               rw [if_pos (by omega), ← f0, ← f2, ← f3, ← f4] at h
               exact h _ _ fin fcap ffr)
            | (have fin := MC_q hC6 hB hIB hDD h56 hon hnb
               have fcap := Cap_mono hcap (Nat.le_succ t)
               have ffr := FrN_6 (Fr6_refl μ ε)
               rw [if_neg (by omega), ← f2] at h
               exact h _ _ fin fcap ffr)
            | (obtain ⟨m9, c9, f9⟩ := MC_x hC6c hB hIB hDD h56 hon hnb hcap hF6 ht; exact h _ _ m9 c9 f9)
        · skip
          refine kr_s ?_
          refine wq_if_ne (pc := 45) (tgt := 62) dX6_node_45 (by decide) (by first | (unfold inR; omega) | assumption) (fun c => absurd c (by decide)) (fun _ => ?_)
          refine wq_ldc2 (pc := 48) dX6_node_48 (kc_X6_254 _ rfl) ?_
          refine wq_ldc2 (pc := 51) dX6_node_51 (kc_X6_256 _ rfl) ?_
          refine wq_aload_n (pc := 54) dX6_node_54 rfl rfl ?_
          refine wq_getI (pc := 55) (kk := 2) dX6_node_55 (gf_X6_258 _ rfl) (by with_reducible assumption) rfl rfl rfl ?_
          refine wq_i2l (pc := 58) dX6_node_58 (by first | (unfold inR; omega) | assumption) ?_
          refine wq_lmul (pc := 59) dX6_node_59 ?_
          refine wq_ladd (pc := 60) dX6_node_60 ?_
          refine wq_lret (pc := 61) dX6_node_61 rfl ?_
          first
            | (have fin := MC_q hC6 hB hIB hDD h56 hon hnb
               have fcap := Cap_mono hcap (Nat.le_succ t)
               have ffr := FrN_6 (Fr6_refl μ ε)
               rw [if_pos (by omega), ← f0, ← f2, ← f3, ← f4] at h
               exact h _ _ fin fcap ffr)
            | (have fin := MC_q hC6 hB hIB hDD h56 hon hnb
               have fcap := Cap_mono hcap (Nat.le_succ t)
               have ffr := FrN_6 (Fr6_refl μ ε)
               rw [if_neg (by omega), ← f2] at h
               exact h _ _ fin fcap ffr)
            | (obtain ⟨m9, c9, f9⟩ := MC_x hC6c hB hIB hDD h56 hon hnb hcap hF6 ht; exact h _ _ m9 c9 f9)
      · skip
        rw [pI_1 (show ¬ (0 ≤ p ∧ p < fC (aF A) b) by omega)] at h
        refine wq_throw (pc := 21) dX6_node_21 dX6_node_24 dX6_node_25 dX6_node_27 dX6_node_30 rfl th_X ks_X6_245 (by decide) (by decide) (Nat.le_of_ble_eq_true rfl) hroom (fun ε' ht => ?_)
        first
          | (have fin := MC_q hC6 hB hIB hDD h56 hon hnb
             have fcap := Cap_mono hcap (Nat.le_succ t)
             have ffr := FrN_6 (Fr6_refl μ ε)
             rw [if_pos (by omega), ← f0, ← f2, ← f3, ← f4] at h
             exact h _ _ fin fcap ffr)
          | (have fin := MC_q hC6 hB hIB hDD h56 hon hnb
             have fcap := Cap_mono hcap (Nat.le_succ t)
             have ffr := FrN_6 (Fr6_refl μ ε)
             rw [if_neg (by omega), ← f2] at h
             exact h _ _ fin fcap ffr)
          | (obtain ⟨m9, c9, f9⟩ := MC_x hC6c hB hIB hDD h56 hon hnb hcap hF6 ht; exact h _ _ m9 c9 f9)
  · skip
    refine kr_x ?_
    rw [pI_1 hb] at h
    first
      | (have fin := MC_q hC6 hB hIB hDD h56 hon hnb
         have fcap := Cap_mono hcap (Nat.le_succ t)
         have ffr := FrN_6 (Fr6_refl μ ε)
         rw [if_pos (by omega), ← f0, ← f2, ← f3, ← f4] at h
         exact h _ _ fin fcap ffr)
      | (have fin := MC_q hC6 hB hIB hDD h56 hon hnb
         have fcap := Cap_mono hcap (Nat.le_succ t)
         have ffr := FrN_6 (Fr6_refl μ ε)
         rw [if_neg (by omega), ← f2] at h
         exact h _ _ fin fcap ffr)
      | (obtain ⟨m9, c9, f9⟩ := MC_x hC6c hB hIB hDD h56 hon hnb hcap hF6 ht; exact h _ _ m9 c9 f9)
