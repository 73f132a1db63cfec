theorem sp_X6_state {μ : nMem} {ε : nEnv} {Q : nOut → nMem → nEnv → Prop} {A : AS} {nb vb b : Int} {t : Nat} (hM : MC A nb vb μ ε) (hcap : Cap μ ε (t + 1)) (hnb : nb + 1 ≤ 2000) (hvb : vb + 2 ≤ 4000) (r1 : inR b) (h : ∀ μ9 ε9, MC (actState A b).2 (nb + 1) (vb + 2) μ9 ε9 → Cap μ9 ε9 t → FrN μ ε μ9 ε9 → Q (oc (actState A b).1) μ9 ε9) : Sp mX6_state [vR 1, vI b] μ ε Q := by
  refine Sp_of (L := [(0, vR 1), (1, vI b)]) (by decide) rfl rfl (Nat.le_of_ble_eq_true rfl) ?_
  obtain ⟨S, hC6, hB, hIB, hDD, h56, hon⟩ := hM
  obtain ⟨hC, hL, hT⟩ := id hC6
  have hs := hC.1
  have hsT := hT.1
  have h20 := (hs 20 5 0 [] rfl (by decide)).1
  have hroom := Cap_room hcap
  have hF6 := Fr6_refl μ ε
  have hC6c := hC6
  unfold actState at h
  unfold qB at h
  refine wq_aload_n (pc := 0) dX6_state_0 rfl rfl ?_
  refine cVK_0 (pc := 1) dX6_state_1 hs (cw_X6_157 _ rfl) (by decide) rfl ⟨by decide, by decide⟩ (Nat.le_of_ble_eq_true rfl) (sp_X6_refuseInDark hC hDD hcap (fun hd => ?_) (fun hd e9 ht => ?_))
  · skip
    refine kr_v ?_
    obtain ⟨fl, hP, hS⟩ := hon hd
    have ndk : ¬ dk A := fun z => by have z : fD (aF A) = 1 := z; omega
    rw [pI_0 ndk] at h
    have hbd := PA_bd hP.2.1
    have hSS := tS_S hP hS
    have hr := hC.2.1
    refine wq_aload_n (pc := 4) dX6_state_4 rfl rfl ?_
    refine wq_iload_n (pc := 5) dX6_state_5 rfl rfl ?_
    refine cVK_1 (pc := 6) dX6_state_6 hs (cw_X6_224 _ rfl) (by decide) rfl ⟨by decide, by decide⟩ (Nat.le_of_ble_eq_true rfl) (sp_X6_refuseWrongBlock hcap (by assumption) (fun hb => ?_) (fun hb e9 ht => ?_))
    · skip
      refine kr_v ?_
      rw [pI_0 (fun q => q hb)] at h
      refine wq_aload_n (pc := 9) dX6_state_9 rfl rfl ?_
      refine wq_getS (pc := 10) dX6_state_10 hs (gf_X6_21 _ rfl) rfl rfl rfl rfl rfl ?_
      refine wq_iload_n (pc := 13) dX6_state_13 rfl rfl ?_
      refine cVK_1 (pc := 14) dX6_state_14 hs (cw_X6_227 _ rfl) (by decide) rfl ⟨by decide, by decide⟩ (Nat.le_of_ble_eq_true rfl) (sp_X3_isFree hs hL (by unfold inR; omega) (fun hfr => ?_) (fun hfr => ?_))
      · skip
        refine kr_s ?_
        rw [if_pos hfr] at h
        refine wq_if_eq (pc := 17) (tgt := 22) dX6_state_17 (by decide) (by first | (unfold inR; omega) | assumption) (fun c => absurd c (by decide)) (fun _ => ?_)
        refine wq_iconst (pc := 20) dX6_state_20 ?_
        refine wq_iret (pc := 21) dX6_state_21 rfl ?_
        first
          | (have fin := MC_q hC6 hB hIB hDD h56 hon hnb
             have fcap := Cap_mono hcap (Nat.le_succ t)
             have ffr := FrN_6 (Fr6_refl μ ε)
             exact h _ _ fin fcap ffr)
          | (have fin := MC_q hC6 hB hIB hDD h56 hon hnb
             have fcap := Cap_mono hcap (Nat.le_succ t)
             have ffr := FrN_6 (Fr6_refl μ ε)
             rw [if_neg (by omega)] at h
             exact h _ _ fin fcap ffr)
          | (have fin := MC_q hC6 hB hIB hDD h56 hon hnb
             have fcap := Cap_mono hcap (Nat.le_succ t)
             have ffr := FrN_6 (Fr6_refl μ ε)
             rw [if_pos (by omega)] at h
             exact h _ _ fin fcap ffr)
          | (obtain ⟨m9, c9, f9⟩ := MC_x hC6c hB hIB hDD h56 hon hnb hcap hF6 ht; exact h _ _ m9 c9 f9)
      · skip
        refine kr_s ?_
        rw [if_neg hfr] at h
        have hg1 := hL.1
        have hg2 := hP.2.2.2.1.1
        refine wq_if_eq (pc := 17) (tgt := 22) dX6_state_17 (by decide) (by first | (unfold inR; omega) | assumption) (fun _ => ?_) (fun c => absurd c (by decide))
        refine wq_iload_n (pc := 22) dX6_state_22 rfl rfl ?_
        refine wq_aload_n (pc := 23) dX6_state_23 rfl rfl ?_
        refine wq_getS (pc := 24) dX6_state_24 hs (gf_X6_21 _ rfl) rfl rfl rfl rfl rfl ?_
        refine wq_getIK (pc := 27) (kk := 4) dX6_state_27 hs (gf_X6_230 _ rfl) rfl rfl rfl rfl ?_
        refine wq_icmp_ne (pc := 30) (tgt := 37) dX6_state_30 (by decide) (by first | (unfold inR; omega) | assumption) (by first | (unfold inR; omega) | assumption) (fun c9 => ?_) (fun c9 => ?_)
        · skip
          refine wq_aload_n (pc := 37) dX6_state_37 rfl rfl ?_
          refine wq_getS (pc := 38) dX6_state_38 hs (gf_X6_37 _ rfl) rfl rfl rfl rfl rfl ?_
          refine wq_iload_n (pc := 41) dX6_state_41 rfl rfl ?_
          refine cVK_1 (pc := 42) dX6_state_42 hs (cw_X6_233 _ rfl) (by decide) rfl ⟨by decide, by decide⟩ (Nat.le_of_ble_eq_true rfl) (sp_X2_dirtOf hC hT hB hb (hbd b hb.1 hb.2).2.2 ?_)
          refine kr_s ?_
          rw [jDirt_cg hSS]
          refine wq_iret (pc := 45) dX6_state_45 rfl ?_
          first
            | (have fin := MC_q hC6 hB hIB hDD h56 hon hnb
               have fcap := Cap_mono hcap (Nat.le_succ t)
               have ffr := FrN_6 (Fr6_refl μ ε)
               exact h _ _ fin fcap ffr)
            | (have fin := MC_q hC6 hB hIB hDD h56 hon hnb
               have fcap := Cap_mono hcap (Nat.le_succ t)
               have ffr := FrN_6 (Fr6_refl μ ε)
               rw [if_neg (by omega)] at h
               exact h _ _ fin fcap ffr)
            | (have fin := MC_q hC6 hB hIB hDD h56 hon hnb
               have fcap := Cap_mono hcap (Nat.le_succ t)
               have ffr := FrN_6 (Fr6_refl μ ε)
               rw [if_pos (by omega)] at h
               exact h _ _ fin fcap ffr)
            | (obtain ⟨m9, c9, f9⟩ := MC_x hC6c hB hIB hDD h56 hon hnb hcap hF6 ht; exact h _ _ m9 c9 f9)
        · skip
          refine wq_iconst (pc := 33) dX6_state_33 ?_
          refine wq_goto (pc := 34) (tgt := 45) dX6_state_34 (by decide) ?_
          refine wq_iret (pc := 45) dX6_state_45 rfl ?_
          first
            | (have fin := MC_q hC6 hB hIB hDD h56 hon hnb
               have fcap := Cap_mono hcap (Nat.le_succ t)
               have ffr := FrN_6 (Fr6_refl μ ε)
               exact h _ _ fin fcap ffr)
            | (have fin := MC_q hC6 hB hIB hDD h56 hon hnb
               have fcap := Cap_mono hcap (Nat.le_succ t)
               have ffr := FrN_6 (Fr6_refl μ ε)
               rw [if_neg (by omega)] at h
               exact h _ _ fin fcap ffr)
            | (have fin := MC_q hC6 hB hIB hDD h56 hon hnb
               have fcap := Cap_mono hcap (Nat.le_succ t)
               have ffr := FrN_6 (Fr6_refl μ ε)
               rw [if_pos (by omega)] at h
               exact h _ _ fin fcap ffr)
            | (obtain ⟨m9, c9, f9⟩ := MC_x hC6c hB hIB hDD h56 hon hnb hcap hF6 ht; exact h _ _ m9 c9 f9)
    · skip
      refine kr_x ?_
      rw [pI_1 hb] at h
      first
        | (have fin := MC_q hC6 hB hIB hDD h56 hon hnb
           have fcap := Cap_mono hcap (Nat.le_succ t)
           have ffr := FrN_6 (Fr6_refl μ ε)
           exact h _ _ fin fcap ffr)
        | (have fin := MC_q hC6 hB hIB hDD h56 hon hnb
           have fcap := Cap_mono hcap (Nat.le_succ t)
           have ffr := FrN_6 (Fr6_refl μ ε)
           rw [if_neg (by omega)] at h
           exact h _ _ fin fcap ffr)
        | (have fin := MC_q hC6 hB hIB hDD h56 hon hnb
           have fcap := Cap_mono hcap (Nat.le_succ t)
           have ffr := FrN_6 (Fr6_refl μ ε)
           rw [if_pos (by omega)] at h
           exact h _ _ fin fcap ffr)
        | (obtain ⟨m9, c9, f9⟩ := MC_x hC6c hB hIB hDD h56 hon hnb hcap hF6 ht; exact h _ _ m9 c9 f9)
  · skip
    refine kr_x ?_
    rw [pI_1 (show dk A from hd)] at h
    first
      | (have fin := MC_q hC6 hB hIB hDD h56 hon hnb
         have fcap := Cap_mono hcap (Nat.le_succ t)
         have ffr := FrN_6 (Fr6_refl μ ε)
         exact h _ _ fin fcap ffr)
      | (have fin := MC_q hC6 hB hIB hDD h56 hon hnb
         have fcap := Cap_mono hcap (Nat.le_succ t)
         have ffr := FrN_6 (Fr6_refl μ ε)
         rw [if_neg (by omega)] at h
         exact h _ _ fin fcap ffr)
      | (have fin := MC_q hC6 hB hIB hDD h56 hon hnb
         have fcap := Cap_mono hcap (Nat.le_succ t)
         have ffr := FrN_6 (Fr6_refl μ ε)
         rw [if_pos (by omega)] at h
         exact h _ _ fin fcap ffr)
      | (obtain ⟨m9, c9, f9⟩ := MC_x hC6c hB hIB hDD h56 hon hnb hcap hF6 ht; exact h _ _ m9 c9 f9)