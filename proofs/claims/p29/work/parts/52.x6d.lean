theorem sp_X6_victim {μ : nMem} {ε : nEnv} {Q : nOut → nMem → nEnv → Prop} {F : Fl} {g : Lg} {S : Tr} {dr : Int} (hC : CF F μ ε) (hL : CL g μ) (hT : CT S μ ε) (hB : tB S) (hbd : fBd F) (rd : inR dr) (h : Q (.inl (some (vI (vc F S g (wantOf dr) g.2.2.length).1))) μ ε) : Sp mX6_victim [vR 1, vI dr] μ ε Q := by
  refine Sp_of (L := [(0, vR 1), (1, vI dr)]) (by decide) rfl rfl (Nat.le_of_ble_eq_true rfl) ?_
  have hs := hC.1
  have hsT := hT.1
  have hcl := hL.2.2.2.1
  have hcl8 := hL.2.2.2.2.2.2.1
  refine wq_iload_n (pc := 0) dX6_victim_0 rfl rfl ?_
  refine wq_bipush (pc := 1) dX6_victim_1 (by decide) (by decide) ?_
  refine wq_icmp_ge (pc := 3) (tgt := 10) dX6_victim_3 (by decide) (by first | (unfold inR; omega) | assumption) (by first | (unfold inR; omega) | assumption) (fun c1 => ?_) (fun c1 => ?_)
  · skip
    refine wq_iload_n (pc := 10) dX6_victim_10 rfl rfl ?_
    refine wq_bipush (pc := 11) dX6_victim_11 (by decide) (by decide) ?_
    refine wq_icmp_ge (pc := 13) (tgt := 20) dX6_victim_13 (by decide) (by first | (unfold inR; omega) | assumption) (by first | (unfold inR; omega) | assumption) (fun c2 => ?_) (fun c2 => ?_)
    · skip
      refine wq_iconst (pc := 20) dX6_victim_20 ?_
      refine wq_istore_n (pc := 21) (L' := [(2, _), (0, _), (1, _)]) dX6_victim_21 rfl rfl (by decide) ?_
      refine wq_iconst (pc := 22) dX6_victim_22 ?_
      refine wq_istore_n (pc := 23) (L' := [(3, _), (2, _), (0, _), (1, _)]) dX6_victim_23 rfl rfl (by decide) ?_
      refine wq_iconst (pc := 24) dX6_victim_24 ?_
      refine wq_istore (pc := 25) (L' := [(4, _), (3, _), (2, _), (0, _), (1, _)]) dX6_victim_25 rfl (by decide) ?_
      refine wq_iconst (pc := 27) dX6_victim_27 ?_
      refine wq_istore (pc := 28) (L' := [(5, _), (4, _), (3, _), (2, _), (0, _), (1, _)]) dX6_victim_28 rfl (by decide) ?_
      have loop3 : ∀ (n k : Nat), ∀ (i w best rk : Int), k ≤ g.2.2.length → g.2.2.length < k + n → i = (k : Int) → w = wantOf dr → best = (vc F S g (wantOf dr) k).1 → rk = (vc F S g (wantOf dr) k).2 → 0 ≤ rk ∧ rk ≤ 3 → wp mX6_victim 30 [(0, vR 1), (2, vI w), (3, vI best), (4, vI rk), (5, vI i)] [] μ ε Q := by
        intro n
        induction n with
        | zero => intro k i w best rk hk1 hk2 e0 e1 e2 e3 e4; exact absurd hk2 (by omega)
        | succ n ih =>
          intro k i w best rk hk1 hk2 e0 e1 e2 e3 e4
          subst e0
          have hw3 : 0 ≤ w ∧ w ≤ 2 := by rw [e1]; unfold wantOf; split; omega; split <;> omega
          refine wq_iload (pc := 30) dX6_victim_30 rfl ?_
          refine wq_aload_n (pc := 32) dX6_victim_32 rfl rfl ?_
          refine wq_getS (pc := 33) dX6_victim_33 hs (gf_X6_21 _ rfl) rfl rfl rfl rfl rfl ?_
          refine wq_getIK (pc := 36) (kk := 6) dX6_victim_36 hs (gf_X6_325 _ rfl) rfl rfl rfl rfl ?_
          refine wq_icmp_ge (pc := 39) (tgt := 92) dX6_victim_39 (by decide) (by first | (unfold inR; omega) | assumption) (by first | (unfold inR; omega) | assumption) (fun c4 => ?_) (fun c4 => ?_)
          · skip
            refine wq_iload_n (pc := 92) dX6_victim_92 rfl rfl ?_
            refine wq_iret (pc := 93) dX6_victim_93 rfl ?_
            have ek : k = g.2.2.length := by omega
            rw [← ek, ← e2] at h; exact h
          · skip
            refine wq_aload_n (pc := 42) dX6_victim_42 rfl rfl ?_
            refine wq_getS (pc := 43) dX6_victim_43 hs (gf_X6_21 _ rfl) rfl rfl rfl rfl rfl ?_
            refine wq_iload (pc := 46) dX6_victim_46 rfl ?_
            refine cVK_1 (pc := 48) dX6_victim_48 hs (cw_X6_328 _ rfl) (by decide) rfl ⟨by decide, by decide⟩ (Nat.le_of_ble_eq_true rfl) (sp_X3_closedAt hs hL (by omega) ?_)
            refine kr_s ?_
            rw [Int.toNat_natCast]
            have hbm := hL.2.2.2.2.2.2.2.2 _ (getD_mem (l := g.2.2) (i := k) (by omega))
            have hbb := hbd _ hbm.1 hbm.2
            refine wq_istore (pc := 51) (L' := [(6, _), (0, _), (2, _), (3, _), (4, _), (5, _)]) dX6_victim_51 rfl (by decide) ?_
            refine wq_iconst (pc := 53) dX6_victim_53 ?_
            refine wq_aload_n (pc := 54) dX6_victim_54 rfl rfl ?_
            refine wq_getS (pc := 55) dX6_victim_55 hs (gf_X6_37 _ rfl) rfl rfl rfl rfl rfl ?_
            refine wq_iload (pc := 58) dX6_victim_58 rfl ?_
            refine cVK_1 (pc := 60) dX6_victim_60 hs (cw_X6_233 _ rfl) (by decide) rfl ⟨by decide, by decide⟩ (Nat.le_of_ble_eq_true rfl) (sp_X2_dirtOf hC hT hB hbm hbb.2.2 ?_)
            refine kr_s ?_
            have hdr := jDirt_r F S (g.2.2.getD k 0)
            refine wq_isub (pc := 63) dX6_victim_63 ?_
            refine wq_iload_n (pc := 64) dX6_victim_64 rfl rfl ?_
            refine wq_isub (pc := 65) dX6_victim_65 ?_
            refine wq_iconst (pc := 66) dX6_victim_66 ?_
            refine cS_2 (pc := 67) dX6_victim_67 (cw_X6_331 _ rfl) ⟨by decide, by decide⟩ (Nat.le_of_ble_eq_true rfl) (sp_J9_floorMod (by omega) rfl ?_)
            refine kr_s ?_
            refine wq_istore (pc := 70) (L' := [(7, _), (6, _), (0, _), (2, _), (3, _), (4, _), (5, _)]) dX6_victim_70 rfl (by decide) ?_
            refine wq_iload (pc := 72) dX6_victim_72 rfl ?_
            refine wq_iload (pc := 74) dX6_victim_74 rfl ?_
            refine wq_icmp_ge (pc := 76) (tgt := 86) dX6_victim_76 (by decide) (by first | (unfold inR; omega) | assumption) (by first | (unfold inR; omega) | assumption) (fun c5 => ?_) (fun c5 => ?_)
            · skip
              refine wq_iinc (pc := 86) (L' := [(5, _), (7, _), (6, _), (0, _), (2, _), (3, _), (4, _)]) dX6_victim_86 rfl rfl (by decide) ?_
              refine wq_goto (pc := 89) (tgt := 30) dX6_victim_89 (by decide) ?_
              refine wq_sub1 (L' := [(0, _), (2, _), (3, _), (4, _), (5, _)]) ⟨rfl, rfl, rfl, rfl, rfl, trivial⟩ ?_
              refine ih (k + 1) _ w _ _ (by omega) (by omega) (by omega) e1 ?_ ?_ (by omega)
              all_goals (rw [vc_s]; unfold vcS; rw [← e1])
              all_goals (rw [← e1] at e2 e3)
              all_goals first | (rw [if_pos (by omega)]; done) | (rw [if_neg (by omega)]; assumption)
            · skip
              refine wq_iload (pc := 79) dX6_victim_79 rfl ?_
              refine wq_istore_n (pc := 81) (L' := [(3, _), (7, _), (6, _), (0, _), (2, _), (4, _), (5, _)]) dX6_victim_81 rfl rfl (by decide) ?_
              refine wq_iload (pc := 82) dX6_victim_82 rfl ?_
              refine wq_istore (pc := 84) (L' := [(4, _), (3, _), (7, _), (6, _), (0, _), (2, _), (5, _)]) dX6_victim_84 rfl (by decide) ?_
              refine wq_iinc (pc := 86) (L' := [(5, _), (4, _), (3, _), (7, _), (6, _), (0, _), (2, _)]) dX6_victim_86 rfl rfl (by decide) ?_
              refine wq_goto (pc := 89) (tgt := 30) dX6_victim_89 (by decide) ?_
              refine wq_sub1 (L' := [(0, _), (2, _), (3, _), (4, _), (5, _)]) ⟨rfl, rfl, rfl, rfl, rfl, trivial⟩ ?_
              refine ih (k + 1) _ w _ _ (by omega) (by omega) (by omega) e1 ?_ ?_ (by omega)
              all_goals (rw [vc_s]; unfold vcS; rw [← e1])
              all_goals (rw [← e1] at e2 e3)
              all_goals first | (rw [if_pos (by omega)]; done) | (rw [if_neg (by omega)]; assumption)
      refine wq_sub1 (L' := [(0, _), (2, _), (3, _), (4, _), (5, _)]) ⟨rfl, rfl, rfl, rfl, rfl, trivial⟩ ?_
      exact loop3 (g.2.2.length + 1) 0 _ _ _ _ (by omega) (by omega) (by omega) (by unfold wantOf; first | (rw [if_pos (by omega)]; done) | (rw [if_neg (by omega), if_pos (by omega)]; done) | (rw [if_neg (by omega), if_neg (by omega)]; done)) rfl rfl (by omega)
    · skip
      refine wq_iconst (pc := 16) dX6_victim_16 ?_
      refine wq_goto (pc := 17) (tgt := 21) dX6_victim_17 (by decide) ?_
      refine wq_istore_n (pc := 21) (L' := [(2, _), (0, _), (1, _)]) dX6_victim_21 rfl rfl (by decide) ?_
      refine wq_iconst (pc := 22) dX6_victim_22 ?_
      refine wq_istore_n (pc := 23) (L' := [(3, _), (2, _), (0, _), (1, _)]) dX6_victim_23 rfl rfl (by decide) ?_
      refine wq_iconst (pc := 24) dX6_victim_24 ?_
      refine wq_istore (pc := 25) (L' := [(4, _), (3, _), (2, _), (0, _), (1, _)]) dX6_victim_25 rfl (by decide) ?_
      refine wq_iconst (pc := 27) dX6_victim_27 ?_
      refine wq_istore (pc := 28) (L' := [(5, _), (4, _), (3, _), (2, _), (0, _), (1, _)]) dX6_victim_28 rfl (by decide) ?_
      have loop6 : ∀ (n k : Nat), ∀ (i w best rk : Int), k ≤ g.2.2.length → g.2.2.length < k + n → i = (k : Int) → w = wantOf dr → best = (vc F S g (wantOf dr) k).1 → rk = (vc F S g (wantOf dr) k).2 → 0 ≤ rk ∧ rk ≤ 3 → wp mX6_victim 30 [(0, vR 1), (2, vI w), (3, vI best), (4, vI rk), (5, vI i)] [] μ ε Q := by
        intro n
        induction n with
        | zero => intro k i w best rk hk1 hk2 e0 e1 e2 e3 e4; exact absurd hk2 (by omega)
        | succ n ih =>
          intro k i w best rk hk1 hk2 e0 e1 e2 e3 e4
          subst e0
          have hw3 : 0 ≤ w ∧ w ≤ 2 := by rw [e1]; unfold wantOf; split; omega; split <;> omega
          refine wq_iload (pc := 30) dX6_victim_30 rfl ?_
          refine wq_aload_n (pc := 32) dX6_victim_32 rfl rfl ?_
          refine wq_getS (pc := 33) dX6_victim_33 hs (gf_X6_21 _ rfl) rfl rfl rfl rfl rfl ?_
          refine wq_getIK (pc := 36) (kk := 6) dX6_victim_36 hs (gf_X6_325 _ rfl) rfl rfl rfl rfl ?_
          refine wq_icmp_ge (pc := 39) (tgt := 92) dX6_victim_39 (by decide) (by first | (unfold inR; omega) | assumption) (by first | (unfold inR; omega) | assumption) (fun c7 => ?_) (fun c7 => ?_)
          · skip
            refine wq_iload_n (pc := 92) dX6_victim_92 rfl rfl ?_
            refine wq_iret (pc := 93) dX6_victim_93 rfl ?_
            have ek : k = g.2.2.length := by omega
            rw [← ek, ← e2] at h; exact h
          · skip
            refine wq_aload_n (pc := 42) dX6_victim_42 rfl rfl ?_
            refine wq_getS (pc := 43) dX6_victim_43 hs (gf_X6_21 _ rfl) rfl rfl rfl rfl rfl ?_
            refine wq_iload (pc := 46) dX6_victim_46 rfl ?_
            refine cVK_1 (pc := 48) dX6_victim_48 hs (cw_X6_328 _ rfl) (by decide) rfl ⟨by decide, by decide⟩ (Nat.le_of_ble_eq_true rfl) (sp_X3_closedAt hs hL (by omega) ?_)
            refine kr_s ?_
            rw [Int.toNat_natCast]
            have hbm := hL.2.2.2.2.2.2.2.2 _ (getD_mem (l := g.2.2) (i := k) (by omega))
            have hbb := hbd _ hbm.1 hbm.2
            refine wq_istore (pc := 51) (L' := [(6, _), (0, _), (2, _), (3, _), (4, _), (5, _)]) dX6_victim_51 rfl (by decide) ?_
            refine wq_iconst (pc := 53) dX6_victim_53 ?_
            refine wq_aload_n (pc := 54) dX6_victim_54 rfl rfl ?_
            refine wq_getS (pc := 55) dX6_victim_55 hs (gf_X6_37 _ rfl) rfl rfl rfl rfl rfl ?_
            refine wq_iload (pc := 58) dX6_victim_58 rfl ?_
            refine cVK_1 (pc := 60) dX6_victim_60 hs (cw_X6_233 _ rfl) (by decide) rfl ⟨by decide, by decide⟩ (Nat.le_of_ble_eq_true rfl) (sp_X2_dirtOf hC hT hB hbm hbb.2.2 ?_)
            refine kr_s ?_
            have hdr := jDirt_r F S (g.2.2.getD k 0)
            refine wq_isub (pc := 63) dX6_victim_63 ?_
            refine wq_iload_n (pc := 64) dX6_victim_64 rfl rfl ?_
            refine wq_isub (pc := 65) dX6_victim_65 ?_
            refine wq_iconst (pc := 66) dX6_victim_66 ?_
            refine cS_2 (pc := 67) dX6_victim_67 (cw_X6_331 _ rfl) ⟨by decide, by decide⟩ (Nat.le_of_ble_eq_true rfl) (sp_J9_floorMod (by omega) rfl ?_)
            refine kr_s ?_
            refine wq_istore (pc := 70) (L' := [(7, _), (6, _), (0, _), (2, _), (3, _), (4, _), (5, _)]) dX6_victim_70 rfl (by decide) ?_
            refine wq_iload (pc := 72) dX6_victim_72 rfl ?_
            refine wq_iload (pc := 74) dX6_victim_74 rfl ?_
            refine wq_icmp_ge (pc := 76) (tgt := 86) dX6_victim_76 (by decide) (by first | (unfold inR; omega) | assumption) (by first | (unfold inR; omega) | assumption) (fun c8 => ?_) (fun c8 => ?_)
            · skip
              refine wq_iinc (pc := 86) (L' := [(5, _), (7, _), (6, _), (0, _), (2, _), (3, _), (4, _)]) dX6_victim_86 rfl rfl (by decide) ?_
              refine wq_goto (pc := 89) (tgt := 30) dX6_victim_89 (by decide) ?_
              refine wq_sub1 (L' := [(0, _), (2, _), (3, _), (4, _), (5, _)]) ⟨rfl, rfl, rfl, rfl, rfl, trivial⟩ ?_
              refine ih (k + 1) _ w _ _ (by omega) (by omega) (by omega) e1 ?_ ?_ (by omega)
              all_goals (rw [vc_s]; unfold vcS; rw [← e1])
              all_goals (rw [← e1] at e2 e3)
              all_goals first | (rw [if_pos (by omega)]; done) | (rw [if_neg (by omega)]; assumption)
            · skip
              refine wq_iload (pc := 79) dX6_victim_79 rfl ?_
              refine wq_istore_n (pc := 81) (L' := [(3, _), (7, _), (6, _), (0, _), (2, _), (4, _), (5, _)]) dX6_victim_81 rfl rfl (by decide) ?_
              refine wq_iload (pc := 82) dX6_victim_82 rfl ?_
              refine wq_istore (pc := 84) (L' := [(4, _), (3, _), (7, _), (6, _), (0, _), (2, _), (5, _)]) dX6_victim_84 rfl (by decide) ?_
              refine wq_iinc (pc := 86) (L' := [(5, _), (4, _), (3, _), (7, _), (6, _), (0, _), (2, _)]) dX6_victim_86 rfl rfl (by decide) ?_
              refine wq_goto (pc := 89) (tgt := 30) dX6_victim_89 (by decide) ?_
              refine wq_sub1 (L' := [(0, _), (2, _), (3, _), (4, _), (5, _)]) ⟨rfl, rfl, rfl, rfl, rfl, trivial⟩ ?_
              refine ih (k + 1) _ w _ _ (by omega) (by omega) (by omega) e1 ?_ ?_ (by omega)
              all_goals (rw [vc_s]; unfold vcS; rw [← e1])
              all_goals (rw [← e1] at e2 e3)
              all_goals first | (rw [if_pos (by omega)]; done) | (rw [if_neg (by omega)]; assumption)
      refine wq_sub1 (L' := [(0, _), (2, _), (3, _), (4, _), (5, _)]) ⟨rfl, rfl, rfl, rfl, rfl, trivial⟩ ?_
      exact loop6 (g.2.2.length + 1) 0 _ _ _ _ (by omega) (by omega) (by omega) (by unfold wantOf; first | (rw [if_pos (by omega)]; done) | (rw [if_neg (by omega), if_pos (by omega)]; done) | (rw [if_neg (by omega), if_neg (by omega)]; done)) rfl rfl (by omega)
  · skip
    refine wq_iconst (pc := 6) dX6_victim_6 ?_
    refine wq_goto (pc := 7) (tgt := 21) dX6_victim_7 (by decide) ?_
    refine wq_istore_n (pc := 21) (L' := [(2, _), (0, _), (1, _)]) dX6_victim_21 rfl rfl (by decide) ?_
    refine wq_iconst (pc := 22) dX6_victim_22 ?_
    refine wq_istore_n (pc := 23) (L' := [(3, _), (2, _), (0, _), (1, _)]) dX6_victim_23 rfl rfl (by decide) ?_
    refine wq_iconst (pc := 24) dX6_victim_24 ?_
    refine wq_istore (pc := 25) (L' := [(4, _), (3, _), (2, _), (0, _), (1, _)]) dX6_victim_25 rfl (by decide) ?_
    refine wq_iconst (pc := 27) dX6_victim_27 ?_
    refine wq_istore (pc := 28) (L' := [(5, _), (4, _), (3, _), (2, _), (0, _), (1, _)]) dX6_victim_28 rfl (by decide) ?_
    have loop9 : ∀ (n k : Nat), ∀ (i w best rk : Int), k ≤ g.2.2.length → g.2.2.length < k + n → i = (k : Int) → w = wantOf dr → best = (vc F S g (wantOf dr) k).1 → rk = (vc F S g (wantOf dr) k).2 → 0 ≤ rk ∧ rk ≤ 3 → wp mX6_victim 30 [(0, vR 1), (2, vI w), (3, vI best), (4, vI rk), (5, vI i)] [] μ ε Q := by
      intro n
      induction n with
      | zero => intro k i w best rk hk1 hk2 e0 e1 e2 e3 e4; exact absurd hk2 (by omega)
      | succ n ih =>
        intro k i w best rk hk1 hk2 e0 e1 e2 e3 e4
        subst e0
        have hw3 : 0 ≤ w ∧ w ≤ 2 := by rw [e1]; unfold wantOf; split; omega; split <;> omega
        refine wq_iload (pc := 30) dX6_victim_30 rfl ?_
        refine wq_aload_n (pc := 32) dX6_victim_32 rfl rfl ?_
        refine wq_getS (pc := 33) dX6_victim_33 hs (gf_X6_21 _ rfl) rfl rfl rfl rfl rfl ?_
        refine wq_getIK (pc := 36) (kk := 6) dX6_victim_36 hs (gf_X6_325 _ rfl) rfl rfl rfl rfl ?_
        refine wq_icmp_ge (pc := 39) (tgt := 92) dX6_victim_39 (by decide) (by first | (unfold inR; omega) | assumption) (by first | (unfold inR; omega) | assumption) (fun c10 => ?_) (fun c10 => ?_)
        · skip
          refine wq_iload_n (pc := 92) dX6_victim_92 rfl rfl ?_
          refine wq_iret (pc := 93) dX6_victim_93 rfl ?_
          have ek : k = g.2.2.length := by omega
          rw [← ek, ← e2] at h; exact h
        · skip
          refine wq_aload_n (pc := 42) dX6_victim_42 rfl rfl ?_
          refine wq_getS (pc := 43) dX6_victim_43 hs (gf_X6_21 _ rfl) rfl rfl rfl rfl rfl ?_
          refine wq_iload (pc := 46) dX6_victim_46 rfl ?_
          refine cVK_1 (pc := 48) dX6_victim_48 hs (cw_X6_328 _ rfl) (by decide) rfl ⟨by decide, by decide⟩ (Nat.le_of_ble_eq_true rfl) (sp_X3_closedAt hs hL (by omega) ?_)
          refine kr_s ?_
          rw [Int.toNat_natCast]
          have hbm := hL.2.2.2.2.2.2.2.2 _ (getD_mem (l := g.2.2) (i := k) (by omega))
          have hbb := hbd _ hbm.1 hbm.2
          refine wq_istore (pc := 51) (L' := [(6, _), (0, _), (2, _), (3, _), (4, _), (5, _)]) dX6_victim_51 rfl (by decide) ?_
          refine wq_iconst (pc := 53) dX6_victim_53 ?_
          refine wq_aload_n (pc := 54) dX6_victim_54 rfl rfl ?_
          refine wq_getS (pc := 55) dX6_victim_55 hs (gf_X6_37 _ rfl) rfl rfl rfl rfl rfl ?_
          refine wq_iload (pc := 58) dX6_victim_58 rfl ?_
          refine cVK_1 (pc := 60) dX6_victim_60 hs (cw_X6_233 _ rfl) (by decide) rfl ⟨by decide, by decide⟩ (Nat.le_of_ble_eq_true rfl) (sp_X2_dirtOf hC hT hB hbm hbb.2.2 ?_)
          refine kr_s ?_
          have hdr := jDirt_r F S (g.2.2.getD k 0)
          refine wq_isub (pc := 63) dX6_victim_63 ?_
          refine wq_iload_n (pc := 64) dX6_victim_64 rfl rfl ?_
          refine wq_isub (pc := 65) dX6_victim_65 ?_
          refine wq_iconst (pc := 66) dX6_victim_66 ?_
          refine cS_2 (pc := 67) dX6_victim_67 (cw_X6_331 _ rfl) ⟨by decide, by decide⟩ (Nat.le_of_ble_eq_true rfl) (sp_J9_floorMod (by omega) rfl ?_)
          refine kr_s ?_
          refine wq_istore (pc := 70) (L' := [(7, _), (6, _), (0, _), (2, _), (3, _), (4, _), (5, _)]) dX6_victim_70 rfl (by decide) ?_
          refine wq_iload (pc := 72) dX6_victim_72 rfl ?_
          refine wq_iload (pc := 74) dX6_victim_74 rfl ?_
          refine wq_icmp_ge (pc := 76) (tgt := 86) dX6_victim_76 (by decide) (by first | (unfold inR; omega) | assumption) (by first | (unfold inR; omega) | assumption) (fun c11 => ?_) (fun c11 => ?_)
          · skip
            refine wq_iinc (pc := 86) (L' := [(5, _), (7, _), (6, _), (0, _), (2, _), (3, _), (4, _)]) dX6_victim_86 rfl rfl (by decide) ?_
            refine wq_goto (pc := 89) (tgt := 30) dX6_victim_89 (by decide) ?_
            refine wq_sub1 (L' := [(0, _), (2, _), (3, _), (4, _), (5, _)]) ⟨rfl, rfl, rfl, rfl, rfl, trivial⟩ ?_
            refine ih (k + 1) _ w _ _ (by omega) (by omega) (by omega) e1 ?_ ?_ (by omega)
            all_goals (rw [vc_s]; unfold vcS; rw [← e1])
            all_goals (rw [← e1] at e2 e3)
            all_goals first | (rw [if_pos (by omega)]; done) | (rw [if_neg (by omega)]; assumption)
          · skip
            refine wq_iload (pc := 79) dX6_victim_79 rfl ?_
            refine wq_istore_n (pc := 81) (L' := [(3, _), (7, _), (6, _), (0, _), (2, _), (4, _), (5, _)]) dX6_victim_81 rfl rfl (by decide) ?_
            refine wq_iload (pc := 82) dX6_victim_82 rfl ?_
            refine wq_istore (pc := 84) (L' := [(4, _), (3, _), (7, _), (6, _), (0, _), (2, _), (5, _)]) dX6_victim_84 rfl (by decide) ?_
            refine wq_iinc (pc := 86) (L' := [(5, _), (4, _), (3, _), (7, _), (6, _), (0, _), (2, _)]) dX6_victim_86 rfl rfl (by decide) ?_
            refine wq_goto (pc := 89) (tgt := 30) dX6_victim_89 (by decide) ?_
            refine wq_sub1 (L' := [(0, _), (2, _), (3, _), (4, _), (5, _)]) ⟨rfl, rfl, rfl, rfl, rfl, trivial⟩ ?_
            refine ih (k + 1) _ w _ _ (by omega) (by omega) (by omega) e1 ?_ ?_ (by omega)
            all_goals (rw [vc_s]; unfold vcS; rw [← e1])
            all_goals (rw [← e1] at e2 e3)
            all_goals first | (rw [if_pos (by omega)]; done) | (rw [if_neg (by omega)]; assumption)
    refine wq_sub1 (L' := [(0, _), (2, _), (3, _), (4, _), (5, _)]) ⟨rfl, rfl, rfl, rfl, rfl, trivial⟩ ?_
    exact loop9 (g.2.2.length + 1) 0 _ _ _ _ (by omega) (by omega) (by omega) (by unfold wantOf; first | (rw [if_pos (by omega)]; done) | (rw [if_neg (by omega), if_pos (by omega)]; done) | (rw [if_neg (by omega), if_neg (by omega)]; done)) rfl rfl (by omega)
theorem sp_X6_unitsToRead {μ : nMem} {ε : nEnv} {Q : nOut → nMem → nEnv → Prop} {F : Fl} {b s : Int} (hC : CF F μ ε) (hb : 0 ≤ b ∧ b < 8) (hbd : fBd F) (r2 : s = 0 ∨ s = 1) (h : Q (.inl (some (vI (uRd F b s)))) μ ε) : Sp mX6_unitsToRead [vR 1, vI b, vI s] μ ε Q := by
  refine Sp_of (L := [(0, vR 1), (1, vI b), (2, vI s)]) (by decide) rfl rfl (Nat.le_of_ble_eq_true rfl) ?_
  have hs := hC.1
  have hr := hC.2.1
  have hcnt := (hbd b hb.1 hb.2).2.2
  have hcn := (hC.2.2.2.2.1 b hb.1 hb.2).2.1
  have hun := (hC.2.2.2.2.1 b hb.1 hb.2).1
  refine wq_aload_n (pc := 0) dX6_unitsToRead_0 rfl rfl ?_
  refine wq_getS (pc := 1) dX6_unitsToRead_1 hs (gf_X6_10 _ rfl) rfl rfl rfl rfl rfl ?_
  refine wq_iload_n (pc := 4) dX6_unitsToRead_4 rfl rfl ?_
  refine wq_aload_n (pc := 5) dX6_unitsToRead_5 rfl rfl ?_
  refine wq_getS (pc := 6) dX6_unitsToRead_6 hs (gf_X6_10 _ rfl) rfl rfl rfl rfl rfl ?_
  refine wq_iload_n (pc := 9) dX6_unitsToRead_9 rfl rfl ?_
  refine cVK_1 (pc := 10) dX6_unitsToRead_10 hs (cw_X6_242 _ rfl) (by decide) rfl ⟨by decide, by decide⟩ (Nat.le_of_ble_eq_true rfl) (sq_X0_countOf hs hb ?_)
  refine kr_s ?_
  rw [hcn]
  refine wq_iconst (pc := 13) dX6_unitsToRead_13 ?_
  refine wq_isub (pc := 14) dX6_unitsToRead_14 ?_
  refine cVK_2 (pc := 15) dX6_unitsToRead_15 hs (cw_X6_247 _ rfl) (by decide) rfl ⟨by decide, by decide⟩ (Nat.le_of_ble_eq_true rfl) (sp_X0_at hs (by unfold inR; omega) (by unfold inR; omega) ?_)
  refine kr_s ?_
  have hak := nAtB_kd hs hr b (fC F b - 1)
  have hab := nAtB_nB hr b (fC F b - 1)
  have hfa : (0 < fC F b → ∀ k, 0 ≤ k → k ≤ 11 → μ (nAtB μ b (fC F b - 1)) k = fN F (b * 16 + (fC F b - 1)) k) ∧ (¬ 0 < fC F b → μ (nAtB μ b (fC F b - 1)) 0 = 0) := by
    refine ⟨fun q => ?_, fun q => ?_⟩
    · rw [nAtB_in hb (by omega)]; exact (CF_row hC (by omega) (by omega)).1
    · unfold nAtB; rw [if_neg (by omega)]; exact hC.2.2.2.2.2.2.2 0 (by omega) (by omega)
  generalize nAtB μ b (fC F b - 1) = a at hak hab hfa ⊢
  obtain ⟨n0, n1, n2, n3, n4, n5, n6, n9, n10, n11, n12, n13⟩ := id hab
  refine wq_astore_n (pc := 18) (L' := [(3, _), (0, _), (1, _), (2, _)]) dX6_unitsToRead_18 rfl rfl (by decide) ?_
  refine wq_aload_n (pc := 19) dX6_unitsToRead_19 rfl rfl ?_
  refine wq_getI (pc := 20) (kk := 0) dX6_unitsToRead_20 (gf_X6_261 _ rfl) (by with_reducible assumption) rfl rfl rfl ?_
  refine wq_iconst (pc := 23) dX6_unitsToRead_23 ?_
  refine wq_icmp_ne (pc := 24) (tgt := 38) dX6_unitsToRead_24 (by decide) (by first | (unfold inR; omega) | assumption) (by first | (unfold inR; omega) | assumption) (fun c1 => ?_) (fun c1 => ?_)
  · skip
    refine wq_iconst (pc := 38) dX6_unitsToRead_38 ?_
    refine wq_istore (pc := 39) (L' := [(4, _), (3, _), (0, _), (1, _), (2, _)]) dX6_unitsToRead_39 rfl (by decide) ?_
    refine wq_iload_n (pc := 41) dX6_unitsToRead_41 rfl rfl ?_
    refine wq_if_eq (pc := 42) (tgt := 59) dX6_unitsToRead_42 (by decide) (by first | (unfold inR; omega) | assumption) (fun c2 => ?_) (fun c2 => ?_)
    · skip
      refine wq_aload_n (pc := 59) dX6_unitsToRead_59 rfl rfl ?_
      refine wq_getS (pc := 60) dX6_unitsToRead_60 hs (gf_X6_10 _ rfl) rfl rfl rfl rfl rfl ?_
      refine wq_iload_n (pc := 63) dX6_unitsToRead_63 rfl rfl ?_
      refine cVK_1 (pc := 64) dX6_unitsToRead_64 hs (cw_X6_239 _ rfl) (by decide) rfl ⟨by decide, by decide⟩ (Nat.le_of_ble_eq_true rfl) (sq_X0_usedOf hs hb ?_)
      refine kr_s ?_
      rw [hun]
      refine wq_iret (pc := 67) dX6_unitsToRead_67 rfl ?_
      unfold uRd at h
      by_cases hc0 : 0 < fC F b
      · have g0 := hfa.1 hc0 0 (by omega) (by omega)
        have g1 := hfa.1 hc0 1 (by omega) (by omega)
        have g2 := hfa.1 hc0 2 (by omega) (by omega)
        first
          | (exfalso; omega)
          | (rw [if_pos ⟨by omega, hc0, by omega, by omega⟩, ← g1] at h; exact h)
          | (rw [if_neg (by omega)] at h; exact h)
      · have g0 := hfa.2 hc0
        first
          | (exfalso; omega)
          | (rw [if_neg (by omega)] at h; exact h)
    · skip
      refine wq_iload (pc := 45) dX6_unitsToRead_45 rfl ?_
      refine wq_if_eq (pc := 47) (tgt := 59) dX6_unitsToRead_47 (by decide) (by first | (unfold inR; omega) | assumption) (fun _ => ?_) (fun c => absurd c (by decide))
      refine wq_aload_n (pc := 59) dX6_unitsToRead_59 rfl rfl ?_
      refine wq_getS (pc := 60) dX6_unitsToRead_60 hs (gf_X6_10 _ rfl) rfl rfl rfl rfl rfl ?_
      refine wq_iload_n (pc := 63) dX6_unitsToRead_63 rfl rfl ?_
      refine cVK_1 (pc := 64) dX6_unitsToRead_64 hs (cw_X6_239 _ rfl) (by decide) rfl ⟨by decide, by decide⟩ (Nat.le_of_ble_eq_true rfl) (sq_X0_usedOf hs hb ?_)
      refine kr_s ?_
      rw [hun]
      refine wq_iret (pc := 67) dX6_unitsToRead_67 rfl ?_
      unfold uRd at h
      by_cases hc0 : 0 < fC F b
      · have g0 := hfa.1 hc0 0 (by omega) (by omega)
        have g1 := hfa.1 hc0 1 (by omega) (by omega)
        have g2 := hfa.1 hc0 2 (by omega) (by omega)
        first
          | (exfalso; omega)
          | (rw [if_pos ⟨by omega, hc0, by omega, by omega⟩, ← g1] at h; exact h)
          | (rw [if_neg (by omega)] at h; exact h)
      · have g0 := hfa.2 hc0
        first
          | (exfalso; omega)
          | (rw [if_neg (by omega)] at h; exact h)
  · skip
    refine wq_aload_n (pc := 27) dX6_unitsToRead_27 rfl rfl ?_
    refine cV_0 (pc := 28) dX6_unitsToRead_28 (cw_X6_251 _ rfl) (by decide) (by with_reducible assumption) ⟨by decide, by decide⟩ (Nat.le_of_ble_eq_true rfl) (sp_X4_isWhole hak hab (fun hw => ?_) (fun hw => ?_))
    · skip
      refine kr_s ?_
      refine wq_if_eq (pc := 31) (tgt := 38) dX6_unitsToRead_31 (by decide) (by first | (unfold inR; omega) | assumption) (fun c => absurd c (by decide)) (fun _ => ?_)
      refine wq_iconst (pc := 34) dX6_unitsToRead_34 ?_
      refine wq_goto (pc := 35) (tgt := 39) dX6_unitsToRead_35 (by decide) ?_
      refine wq_istore (pc := 39) (L' := [(4, _), (3, _), (0, _), (1, _), (2, _)]) dX6_unitsToRead_39 rfl (by decide) ?_
      refine wq_iload_n (pc := 41) dX6_unitsToRead_41 rfl rfl ?_
      refine wq_if_eq (pc := 42) (tgt := 59) dX6_unitsToRead_42 (by decide) (by first | (unfold inR; omega) | assumption) (fun c7 => ?_) (fun c7 => ?_)
      · skip
        refine wq_aload_n (pc := 59) dX6_unitsToRead_59 rfl rfl ?_
        refine wq_getS (pc := 60) dX6_unitsToRead_60 hs (gf_X6_10 _ rfl) rfl rfl rfl rfl rfl ?_
        refine wq_iload_n (pc := 63) dX6_unitsToRead_63 rfl rfl ?_
        refine cVK_1 (pc := 64) dX6_unitsToRead_64 hs (cw_X6_239 _ rfl) (by decide) rfl ⟨by decide, by decide⟩ (Nat.le_of_ble_eq_true rfl) (sq_X0_usedOf hs hb ?_)
        refine kr_s ?_
        rw [hun]
        refine wq_iret (pc := 67) dX6_unitsToRead_67 rfl ?_
        unfold uRd at h
        by_cases hc0 : 0 < fC F b
        · have g0 := hfa.1 hc0 0 (by omega) (by omega)
          have g1 := hfa.1 hc0 1 (by omega) (by omega)
          have g2 := hfa.1 hc0 2 (by omega) (by omega)
          first
            | (exfalso; omega)
            | (rw [if_pos ⟨by omega, hc0, by omega, by omega⟩, ← g1] at h; exact h)
            | (rw [if_neg (by omega)] at h; exact h)
        · have g0 := hfa.2 hc0
          first
            | (exfalso; omega)
            | (rw [if_neg (by omega)] at h; exact h)
      · skip
        refine wq_iload (pc := 45) dX6_unitsToRead_45 rfl ?_
        refine wq_if_eq (pc := 47) (tgt := 59) dX6_unitsToRead_47 (by decide) (by first | (unfold inR; omega) | assumption) (fun c => absurd c (by decide)) (fun _ => ?_)
        refine wq_aload_n (pc := 50) dX6_unitsToRead_50 rfl rfl ?_
        refine wq_getI (pc := 51) (kk := 1) dX6_unitsToRead_51 (gf_X6_312 _ rfl) (by with_reducible assumption) rfl rfl rfl ?_
        refine wq_iconst (pc := 54) dX6_unitsToRead_54 ?_
        refine wq_iadd (pc := 55) dX6_unitsToRead_55 ?_
        refine wq_goto (pc := 56) (tgt := 67) dX6_unitsToRead_56 (by decide) ?_
        refine wq_iret (pc := 67) dX6_unitsToRead_67 rfl ?_
        unfold uRd at h
        by_cases hc0 : 0 < fC F b
        · have g0 := hfa.1 hc0 0 (by omega) (by omega)
          have g1 := hfa.1 hc0 1 (by omega) (by omega)
          have g2 := hfa.1 hc0 2 (by omega) (by omega)
          first
            | (exfalso; omega)
            | (rw [if_pos ⟨by omega, hc0, by omega, by omega⟩, ← g1] at h; exact h)
            | (rw [if_neg (by omega)] at h; exact h)
        · have g0 := hfa.2 hc0
          first
            | (exfalso; omega)
            | (rw [if_neg (by omega)] at h; exact h)
    · skip
      refine kr_s ?_
      refine wq_if_eq (pc := 31) (tgt := 38) dX6_unitsToRead_31 (by decide) (by first | (unfold inR; omega) | assumption) (fun _ => ?_) (fun c => absurd c (by decide))
      refine wq_iconst (pc := 38) dX6_unitsToRead_38 ?_
      refine wq_istore (pc := 39) (L' := [(4, _), (3, _), (0, _), (1, _), (2, _)]) dX6_unitsToRead_39 rfl (by decide) ?_
      refine wq_iload_n (pc := 41) dX6_unitsToRead_41 rfl rfl ?_
      refine wq_if_eq (pc := 42) (tgt := 59) dX6_unitsToRead_42 (by decide) (by first | (unfold inR; omega) | assumption) (fun c10 => ?_) (fun c10 => ?_)
      · skip
        refine wq_aload_n (pc := 59) dX6_unitsToRead_59 rfl rfl ?_
        refine wq_getS (pc := 60) dX6_unitsToRead_60 hs (gf_X6_10 _ rfl) rfl rfl rfl rfl rfl ?_
        refine wq_iload_n (pc := 63) dX6_unitsToRead_63 rfl rfl ?_
        refine cVK_1 (pc := 64) dX6_unitsToRead_64 hs (cw_X6_239 _ rfl) (by decide) rfl ⟨by decide, by decide⟩ (Nat.le_of_ble_eq_true rfl) (sq_X0_usedOf hs hb ?_)
        refine kr_s ?_
        rw [hun]
        refine wq_iret (pc := 67) dX6_unitsToRead_67 rfl ?_
        unfold uRd at h
        by_cases hc0 : 0 < fC F b
        · have g0 := hfa.1 hc0 0 (by omega) (by omega)
          have g1 := hfa.1 hc0 1 (by omega) (by omega)
          have g2 := hfa.1 hc0 2 (by omega) (by omega)
          first
            | (exfalso; omega)
            | (rw [if_pos ⟨by omega, hc0, by omega, by omega⟩, ← g1] at h; exact h)
            | (rw [if_neg (by omega)] at h; exact h)
        · have g0 := hfa.2 hc0
          first
            | (exfalso; omega)
            | (rw [if_neg (by omega)] at h; exact h)
      · skip
        refine wq_iload (pc := 45) dX6_unitsToRead_45 rfl ?_
        refine wq_if_eq (pc := 47) (tgt := 59) dX6_unitsToRead_47 (by decide) (by first | (unfold inR; omega) | assumption) (fun _ => ?_) (fun c => absurd c (by decide))
        refine wq_aload_n (pc := 59) dX6_unitsToRead_59 rfl rfl ?_
        refine wq_getS (pc := 60) dX6_unitsToRead_60 hs (gf_X6_10 _ rfl) rfl rfl rfl rfl rfl ?_
        refine wq_iload_n (pc := 63) dX6_unitsToRead_63 rfl rfl ?_
        refine cVK_1 (pc := 64) dX6_unitsToRead_64 hs (cw_X6_239 _ rfl) (by decide) rfl ⟨by decide, by decide⟩ (Nat.le_of_ble_eq_true rfl) (sq_X0_usedOf hs hb ?_)
        refine kr_s ?_
        rw [hun]
        refine wq_iret (pc := 67) dX6_unitsToRead_67 rfl ?_
        unfold uRd at h
        by_cases hc0 : 0 < fC F b
        · have g0 := hfa.1 hc0 0 (by omega) (by omega)
          have g1 := hfa.1 hc0 1 (by omega) (by omega)
          have g2 := hfa.1 hc0 2 (by omega) (by omega)
          first
            | (exfalso; omega)
            | (rw [if_pos ⟨by omega, hc0, by omega, by omega⟩, ← g1] at h; exact h)
            | (rw [if_neg (by omega)] at h; exact h)
        · have g0 := hfa.2 hc0
          first
            | (exfalso; omega)
            | (rw [if_neg (by omega)] at h; exact h)
