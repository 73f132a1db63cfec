theorem sp_X7_state {μ : nMem} {ε : nEnv} {Q : nOut → nMem → nEnv → Prop} {A : AS} {nb vb b : Int} (hC : CM A μ ε) (hO : AOK A nb vb) (r1 : inR b) (h : ∀ m v, CM (actState A b).2 m ε → FrM μ m → anM (actState A b).1 [xI, xS] v m → Q (.inl (some (vI v))) m ε) : Sp mX7_state [vR 21, vI b] μ ε Q := by
  refine Sp_of (L := [(0, vR 21), (1, vI b)]) (by decide) rfl rfl (Nat.le_of_ble_eq_true rfl) ?_
  have hs := hC.1.1
  have q21 := hC.2.1.2
  have hD := hO.2.1
  unfold actState qB at h
  refine wq_aload_n (pc := 0) dX7_state_0 rfl rfl ?_
  refine wq_iload_n (pc := 1) dX7_state_1 rfl rfl ?_
  refine cVK_1 (pc := 2) dX7_state_2 hs (cw_X7_304 _ rfl) (by decide) rfl ⟨by decide, by decide⟩ (Nat.le_of_ble_eq_true rfl) (sp_X7_asksFor hs r1 (by omega) (fun hz => ?_) (fun hz hb => ?_) (fun hz hb => ?_))
  · skip
    refine kr_s ?_
    have hz9 := hz
    refine wq_if_eq (pc := 5) (tgt := 16) dX7_state_5 (by decide) (by first | (unfold inR; omega) | assumption) (fun _ => ?_) (fun c => absurd c (by decide))
    refine wq_iconst (pc := 16) dX7_state_16 ?_
    refine wq_iret (pc := 17) dX7_state_17 rfl ?_
    first
      | (rw [pI_on (by omega), pI_0 (fun z => z (by omega)), ← ev] at h
         exact h _ _ C2 (FrM_t (FrM_w (by omega)) F2) (anM_v (by rw [t2, wr_s])))
      | (rw [pI_on (by omega), pI_1 (by omega)] at h
         exact h _ _ (CM_25 hC) (FrM_w (by omega)) (anM_x 0 rfl (wr_s _ _ _ _)))
      | (rw [pI_1 (show dk A by show fD (aF A) = 1; omega)] at h
         exact h _ _ (CM_25 hC) (FrM_w (by omega)) (anM_x 1 rfl (wr_s _ _ _ _)))
  · skip
    refine kr_s ?_
    have hz9 := hz
    obtain ⟨fl, S0, hP, hT⟩ := hO.2.2 (by omega)
    have hf := hP.2.2.2.2.2.1
    refine wq_if_eq (pc := 5) (tgt := 16) dX7_state_5 (by decide) (by first | (unfold inR; omega) | assumption) (fun c => absurd c (by decide)) (fun _ => ?_)
    refine wq_aload_n (pc := 8) dX7_state_8 rfl rfl ?_
    refine wq_iload_n (pc := 9) dX7_state_9 rfl rfl ?_
    refine cVK_1 (pc := 10) dX7_state_10 hs (cw_X7_264 _ rfl) (by decide) rfl ⟨by decide, by decide⟩ (Nat.le_of_ble_eq_true rfl) (sp_X7_stateOf (CM_25 hC) (AOK_KP hO) hf (by omega) hP.2.2.2.1 (by omega) (fun m2 v C2 F2 t2 ev => ?_))
    refine kr_s ?_
    refine wq_goto (pc := 13) (tgt := 17) dX7_state_13 (by decide) ?_
    refine wq_iret (pc := 17) dX7_state_17 rfl ?_
    first
      | (rw [pI_on (by omega), pI_0 (fun z => z (by omega)), ← ev] at h
         exact h _ _ C2 (FrM_t (FrM_w (by omega)) F2) (anM_v (by rw [t2, wr_s])))
      | (rw [pI_on (by omega), pI_1 (by omega)] at h
         exact h _ _ (CM_25 hC) (FrM_w (by omega)) (anM_x 0 rfl (wr_s _ _ _ _)))
      | (rw [pI_1 (show dk A by show fD (aF A) = 1; omega)] at h
         exact h _ _ (CM_25 hC) (FrM_w (by omega)) (anM_x 1 rfl (wr_s _ _ _ _)))
  · skip
    refine kr_s ?_
    have hz9 := hz
    refine wq_if_eq (pc := 5) (tgt := 16) dX7_state_5 (by decide) (by first | (unfold inR; omega) | assumption) (fun _ => ?_) (fun c => absurd c (by decide))
    refine wq_iconst (pc := 16) dX7_state_16 ?_
    refine wq_iret (pc := 17) dX7_state_17 rfl ?_
    first
      | (rw [pI_on (by omega), pI_0 (fun z => z (by omega)), ← ev] at h
         exact h _ _ C2 (FrM_t (FrM_w (by omega)) F2) (anM_v (by rw [t2, wr_s])))
      | (rw [pI_on (by omega), pI_1 (by omega)] at h
         exact h _ _ (CM_25 hC) (FrM_w (by omega)) (anM_x 0 rfl (wr_s _ _ _ _)))
      | (rw [pI_1 (show dk A by show fD (aF A) = 1; omega)] at h
         exact h _ _ (CM_25 hC) (FrM_w (by omega)) (anM_x 1 rfl (wr_s _ _ _ _)))
theorem sp_X7_dead {μ : nMem} {ε : nEnv} {Q : nOut → nMem → nEnv → Prop} {A : AS} {nb vb b : Int} (hC : CM A μ ε) (hO : AOK A nb vb) (r1 : inR b) (h : ∀ m v, CM (actDead A b).2 m ε → FrM μ m → anM (actDead A b).1 [xI, xS] v m → Q (.inl (some (vI v))) m ε) : Sp mX7_dead [vR 21, vI b] μ ε Q := by
  refine Sp_of (L := [(0, vR 21), (1, vI b)]) (by decide) rfl rfl (Nat.le_of_ble_eq_true rfl) ?_
  have hs := hC.1.1
  have q21 := hC.2.1.2
  have hD := hO.2.1
  unfold actDead qB at h
  refine wq_aload_n (pc := 0) dX7_dead_0 rfl rfl ?_
  refine wq_iload_n (pc := 1) dX7_dead_1 rfl rfl ?_
  refine cVK_1 (pc := 2) dX7_dead_2 hs (cw_X7_304 _ rfl) (by decide) rfl ⟨by decide, by decide⟩ (Nat.le_of_ble_eq_true rfl) (sp_X7_asksFor hs r1 (by omega) (fun hz => ?_) (fun hz hb => ?_) (fun hz hb => ?_))
  · skip
    refine kr_s ?_
    have hz9 := hz
    refine wq_if_eq (pc := 5) (tgt := 16) dX7_dead_5 (by decide) (by first | (unfold inR; omega) | assumption) (fun _ => ?_) (fun c => absurd c (by decide))
    refine wq_iconst (pc := 16) dX7_dead_16 ?_
    refine wq_iret (pc := 17) dX7_dead_17 rfl ?_
    first
      | (rw [pI_on (by omega), pI_0 (fun z => z (by omega))] at h
         exact h _ _ C2 (FrM_t (FrM_w (by omega)) (FrM_Y Y2)) (anM_v (by rw [Y2 21 25 (by omega) (by omega), wr_s])))
      | (rw [pI_on (by omega), pI_1 (by omega)] at h
         exact h _ _ (CM_25 hC) (FrM_w (by omega)) (anM_x 0 rfl (wr_s _ _ _ _)))
      | (rw [pI_1 (show dk A by show fD (aF A) = 1; omega)] at h
         exact h _ _ (CM_25 hC) (FrM_w (by omega)) (anM_x 1 rfl (wr_s _ _ _ _)))
  · skip
    refine kr_s ?_
    have hz9 := hz
    obtain ⟨fl, S0, hP, hT⟩ := hO.2.2 (by omega)
    have hf := hP.2.2.2.2.2.1
    refine wq_if_eq (pc := 5) (tgt := 16) dX7_dead_5 (by decide) (by first | (unfold inR; omega) | assumption) (fun c => absurd c (by decide)) (fun _ => ?_)
    refine wq_aload_n (pc := 8) dX7_dead_8 rfl rfl ?_
    refine wq_iload_n (pc := 9) dX7_dead_9 rfl rfl ?_
    refine cVK_1 (pc := 10) dX7_dead_10 hs (cw_X7_258 _ rfl) (by decide) rfl ⟨by decide, by decide⟩ (Nat.le_of_ble_eq_true rfl) (sp_X7_deadOf (CM_25 hC).1 (AOK_KP hO) hf (by omega) (fun m2 K2 Y2 sb => ?_))
    refine kr_s ?_
    have C2 := CM_Y (CM_25 hC) K2 Y2
    refine wq_goto (pc := 13) (tgt := 17) dX7_dead_13 (by decide) ?_
    refine wq_iret (pc := 17) dX7_dead_17 rfl ?_
    first
      | (rw [pI_on (by omega), pI_0 (fun z => z (by omega))] at h
         exact h _ _ C2 (FrM_t (FrM_w (by omega)) (FrM_Y Y2)) (anM_v (by rw [Y2 21 25 (by omega) (by omega), wr_s])))
      | (rw [pI_on (by omega), pI_1 (by omega)] at h
         exact h _ _ (CM_25 hC) (FrM_w (by omega)) (anM_x 0 rfl (wr_s _ _ _ _)))
      | (rw [pI_1 (show dk A by show fD (aF A) = 1; omega)] at h
         exact h _ _ (CM_25 hC) (FrM_w (by omega)) (anM_x 1 rfl (wr_s _ _ _ _)))
  · skip
    refine kr_s ?_
    have hz9 := hz
    refine wq_if_eq (pc := 5) (tgt := 16) dX7_dead_5 (by decide) (by first | (unfold inR; omega) | assumption) (fun _ => ?_) (fun c => absurd c (by decide))
    refine wq_iconst (pc := 16) dX7_dead_16 ?_
    refine wq_iret (pc := 17) dX7_dead_17 rfl ?_
    first
      | (rw [pI_on (by omega), pI_0 (fun z => z (by omega))] at h
         exact h _ _ C2 (FrM_t (FrM_w (by omega)) (FrM_Y Y2)) (anM_v (by rw [Y2 21 25 (by omega) (by omega), wr_s])))
      | (rw [pI_on (by omega), pI_1 (by omega)] at h
         exact h _ _ (CM_25 hC) (FrM_w (by omega)) (anM_x 0 rfl (wr_s _ _ _ _)))
      | (rw [pI_1 (show dk A by show fD (aF A) = 1; omega)] at h
         exact h _ _ (CM_25 hC) (FrM_w (by omega)) (anM_x 1 rfl (wr_s _ _ _ _)))
theorem sp_X7_node {μ : nMem} {ε : nEnv} {Q : nOut → nMem → nEnv → Prop} {A : AS} {b p : Int} (hC : CM A μ ε) (hA : KP (aF A)) (r1 : inR b) (r2 : inR p) (h : ∀ m v, CM (actNode A b p).2 m ε → FrM μ m → anM (actNode A b p).1 [xI] v m → Q (.inl (some (vJ v))) m ε) : Sp mX7_node [vR 21, vI b, vI p] μ ε Q := by
  refine Sp_of (L := [(0, vR 21), (1, vI b), (2, vI p)]) (by decide) rfl rfl (Nat.le_of_ble_eq_true rfl) ?_
  have hs := hC.1.1
  unfold actNode qb at h
  have g34 := b34 hC.1.2.1 b
  have hRb := fun h0 h1 => (hC.1.2.2.1.1 b h0 h1).1
  have cut1 : ∀ (m : nMem), (CM A m ε) → (FrM μ m) → (m 21 25 = 0) → (0 ≤ b ∧ b < 8) → (0 ≤ p ∧ p < fC (aF A) b) → wp mX7_node 44 [(0, vR 21), (1, vI b), (2, vI p)] [] m ε Q := by
    intro m e0 e1 e2 e3 e4
    have hs := e0.1.1
    have hR := e0.1.2.2.1
    have hcb := (hA.1 b e3.1 e3.2).1.1
    have hbi : b * 16 + p = 16 * b + p := by omega
    have hrow := (hR.2 (16 * b + p) (by omega) (by omega) (by rw [show (16 * b + p) / 16 = b by omega]; omega)).1
    obtain ⟨p22, p23, p24, p32, p33⟩ := hrow
    have hwi := wh_iff hA.1 hR (i := 16 * b + p) (by omega) (by omega)
    have r22 : inR (m 22 (16 * b + p)) := (mR_of e0.1.2.1) 22 _ (by decide) (by decide) (by decide)
    have r23 : inR (m 23 (16 * b + p)) := (mR_of e0.1.2.1) 23 _ (by decide) (by decide) (by decide)
    have r24 : inR (m 24 (16 * b + p)) := (mR_of e0.1.2.1) 24 _ (by decide) (by decide) (by decide)
    have r33 : inR (m 33 (16 * b + p)) := (mR_of e0.1.2.1) 33 _ (by decide) (by decide) (by decide)
    rw [pI_0 (fun z => z e3), pI_0 (fun z => z e4), hbi] at h
    have hk := (PA_in hA.1 (i := 16 * b + p) (by omega) (by omega) (by rw [show (16 * b + p) / 16 = b by omega]; omega)).1
    refine wq_bipush (pc := 44) dX7_node_44 (by decide) (by decide) ?_
    refine wq_iload_n (pc := 46) dX7_node_46 rfl rfl ?_
    refine wq_imul (pc := 47) dX7_node_47 ?_
    refine wq_iload_n (pc := 48) dX7_node_48 rfl rfl ?_
    refine wq_iadd (pc := 49) dX7_node_49 ?_
    refine wq_istore_n (pc := 50) (L' := [(3, _), (0, _), (1, _), (2, _)]) dX7_node_50 rfl rfl (by decide) ?_
    refine wq_aload_n (pc := 51) dX7_node_51 rfl rfl ?_
    refine wq_iload_n (pc := 52) dX7_node_52 rfl rfl ?_
    refine cVK_1 (pc := 53) dX7_node_53 hs (cw_X7_155 _ rfl) (by decide) rfl ⟨by decide, by decide⟩ (Nat.le_of_ble_eq_true rfl) (sp_X7_isWhole hs (by omega) (by omega) ((mR_of e0.1.2.1) 34 _ (by decide) (by decide) (by decide)) ((mR_of e0.1.2.1) 33 _ (by decide) (by decide) (by decide)) ((mR_of e0.1.2.1) 32 _ (by decide) (by decide) (by decide)) (fun hwh => ?_) (fun hwh => ?_))
    · skip
      refine kr_s ?_
      have hwh9 := hwi.mp hwh
      refine wq_if_eq (pc := 56) (tgt := 69) dX7_node_56 (by decide) (by first | (unfold inR; omega) | assumption) (fun c => absurd c (by decide)) (fun _ => ?_)
      refine wq_aload_n (pc := 59) dX7_node_59 rfl rfl ?_
      refine wq_getS (pc := 60) dX7_node_60 hs (gf_X7_7 _ rfl) rfl rfl rfl rfl rfl ?_
      refine wq_iload_n (pc := 63) dX7_node_63 rfl rfl ?_
      refine wq_ialdK (pc := 64) dX7_node_64 hs rfl (by omega) (by omega) ?_
      refine wq_iconst (pc := 65) dX7_node_65 ?_
      refine wq_icmp_ne (pc := 66) (tgt := 96) dX7_node_66 (by decide) (by first | (unfold inR; omega) | assumption) (by first | (unfold inR; omega) | assumption) (fun c5 => ?_) (fun c5 => ?_)
      · skip
        refine wq_aload_n (pc := 96) dX7_node_96 rfl rfl ?_
        refine wq_getS (pc := 97) dX7_node_97 hs (gf_X7_7 _ rfl) rfl rfl rfl rfl rfl ?_
        refine wq_iload_n (pc := 100) dX7_node_100 rfl rfl ?_
        refine wq_ialdK (pc := 101) dX7_node_101 hs rfl (by omega) (by omega) ?_
        refine wq_i2l (pc := 102) dX7_node_102 (by first | (unfold inR; omega) | assumption) ?_
        refine wq_ldc2 (pc := 103) dX7_node_103 (kc_X7_310 _ rfl) ?_
        refine wq_aload_n (pc := 106) dX7_node_106 rfl rfl ?_
        refine wq_getS (pc := 107) dX7_node_107 hs (gf_X7_45 _ rfl) rfl rfl rfl rfl rfl ?_
        refine wq_iload_n (pc := 110) dX7_node_110 rfl rfl ?_
        refine wq_ialdK (pc := 111) dX7_node_111 hs rfl (by omega) (by omega) ?_
        refine wq_i2l (pc := 112) dX7_node_112 (by first | (unfold inR; omega) | assumption) ?_
        refine wq_lmul (pc := 113) dX7_node_113 ?_
        refine wq_ladd (pc := 114) dX7_node_114 ?_
        refine wq_ldc2 (pc := 115) dX7_node_115 (kc_X7_312 _ rfl) ?_
        refine wq_aload_n (pc := 118) dX7_node_118 rfl rfl ?_
        refine wq_getS (pc := 119) dX7_node_119 hs (gf_X7_13 _ rfl) rfl rfl rfl rfl rfl ?_
        refine wq_iload_n (pc := 122) dX7_node_122 rfl rfl ?_
        refine wq_ialdK (pc := 123) dX7_node_123 hs rfl (by omega) (by omega) ?_
        refine wq_i2l (pc := 124) dX7_node_124 (by first | (unfold inR; omega) | assumption) ?_
        refine wq_lmul (pc := 125) dX7_node_125 ?_
        refine wq_ladd (pc := 126) dX7_node_126 ?_
        refine wq_ldc2 (pc := 127) dX7_node_127 (kc_X7_314 _ rfl) ?_
        refine wq_aload_n (pc := 130) dX7_node_130 rfl rfl ?_
        refine wq_getS (pc := 131) dX7_node_131 hs (gf_X7_16 _ rfl) rfl rfl rfl rfl rfl ?_
        refine wq_iload_n (pc := 134) dX7_node_134 rfl rfl ?_
        refine wq_ialdK (pc := 135) dX7_node_135 hs rfl (by omega) (by omega) ?_
        refine wq_i2l (pc := 136) dX7_node_136 (by first | (unfold inR; omega) | assumption) ?_
        refine wq_lmul (pc := 137) dX7_node_137 ?_
        refine wq_ladd (pc := 138) dX7_node_138 ?_
        refine wq_lret (pc := 139) dX7_node_139 rfl ?_
        first
          | (rw [if_pos hwh9.2] at h
             have e9 : m 22 (16 * b + p) + 10 * m 33 (16 * b + p) + 1000 * m 23 (16 * b + p) + 1000000 * m 24 (16 * b + p) = fN (aF A) (16 * b + p) 0 + 10 * fN (aF A) (16 * b + p) 2 + 1000 * fN (aF A) (16 * b + p) 3 + 1000000 * fN (aF A) (16 * b + p) 4 := by rw [p22, p33, p23, p24]
             rw [e9]
             exact h _ _ e0 e1 (anM_v e2))
          | (rw [if_pos hwh9.2] at h
             have hsm : isSm (fN (aF A) (16 * b + p)) ((16 * b + p) % 16) := by
               rcases hk with q | q
               · have := sOK_k q; omega
               · exact q
             have z3 := hsm.2.2 3 (by omega) (by omega)
             have z4 := hsm.2.2 4 (by omega) (by omega)
             have e9 : 3 + 10 * m 33 (16 * b + p) = fN (aF A) (16 * b + p) 0 + 10 * fN (aF A) (16 * b + p) 2 + 1000 * fN (aF A) (16 * b + p) 3 + 1000000 * fN (aF A) (16 * b + p) 4 := by omega
             rw [e9]
             exact h _ _ e0 e1 (anM_v e2))
          | (rw [if_neg (fun z => hwh9 ⟨by omega, z⟩), ← p33] at h
             exact h _ _ e0 e1 (anM_v e2))
          | (rw [if_neg (fun z => hwh9 ⟨by rcases hk with q | q; have := sOK_k q; omega; have := q.1; omega, z⟩), ← p33] at h
             exact h _ _ e0 e1 (anM_v e2))
          | (exfalso; omega)
          | (exact absurd hwh9 (by assumption))
          | (rw [pI_0 (fun z => z (by omega)), pI_1 (by omega)] at h
             exact h _ _ (CM_25 hC) (FrM_w (by omega)) (anM_x 0 rfl (wr_s _ _ _ _)))
          | (rw [pI_1 (by omega)] at h
             exact h _ _ (CM_25 hC) (FrM_w (by omega)) (anM_x 0 rfl (wr_s _ _ _ _)))
      · skip
        refine wq_aload_n (pc := 69) dX7_node_69 rfl rfl ?_
        refine wq_iload_n (pc := 70) dX7_node_70 rfl rfl ?_
        refine cVK_1 (pc := 71) dX7_node_71 hs (cw_X7_155 _ rfl) (by decide) rfl ⟨by decide, by decide⟩ (Nat.le_of_ble_eq_true rfl) (sp_X7_isWhole hs (by omega) (by omega) ((mR_of e0.1.2.1) 34 _ (by decide) (by decide) (by decide)) ((mR_of e0.1.2.1) 33 _ (by decide) (by decide) (by decide)) ((mR_of e0.1.2.1) 32 _ (by decide) (by decide) (by decide)) (fun hwh => ?_) (fun hwh => ?_))
        · skip
          refine kr_s ?_
          have hwh9 := hwi.mp hwh
          refine wq_if_eq (pc := 74) (tgt := 81) dX7_node_74 (by decide) (by first | (unfold inR; omega) | assumption) (fun c => absurd c (by decide)) (fun _ => ?_)
          refine wq_iconst (pc := 77) dX7_node_77 ?_
          refine wq_goto (pc := 78) (tgt := 82) dX7_node_78 (by decide) ?_
          refine wq_i2l (pc := 82) dX7_node_82 (by first | (unfold inR; omega) | assumption) ?_
          refine wq_ldc2 (pc := 83) dX7_node_83 (kc_X7_310 _ rfl) ?_
          refine wq_aload_n (pc := 86) dX7_node_86 rfl rfl ?_
          refine wq_getS (pc := 87) dX7_node_87 hs (gf_X7_45 _ rfl) rfl rfl rfl rfl rfl ?_
          refine wq_iload_n (pc := 90) dX7_node_90 rfl rfl ?_
          refine wq_ialdK (pc := 91) dX7_node_91 hs rfl (by omega) (by omega) ?_
          refine wq_i2l (pc := 92) dX7_node_92 (by first | (unfold inR; omega) | assumption) ?_
          refine wq_lmul (pc := 93) dX7_node_93 ?_
          refine wq_ladd (pc := 94) dX7_node_94 ?_
          refine wq_lret (pc := 95) dX7_node_95 rfl ?_
          first
            | (rw [if_pos hwh9.2] at h
               have e9 : m 22 (16 * b + p) + 10 * m 33 (16 * b + p) + 1000 * m 23 (16 * b + p) + 1000000 * m 24 (16 * b + p) = fN (aF A) (16 * b + p) 0 + 10 * fN (aF A) (16 * b + p) 2 + 1000 * fN (aF A) (16 * b + p) 3 + 1000000 * fN (aF A) (16 * b + p) 4 := by rw [p22, p33, p23, p24]
               rw [e9]
               exact h _ _ e0 e1 (anM_v e2))
            | (rw [if_pos hwh9.2] at h
               have hsm : isSm (fN (aF A) (16 * b + p)) ((16 * b + p) % 16) := by
                 rcases hk with q | q
                 · have := sOK_k q; omega
                 · exact q
               have z3 := hsm.2.2 3 (by omega) (by omega)
               have z4 := hsm.2.2 4 (by omega) (by omega)
               have e9 : 3 + 10 * m 33 (16 * b + p) = fN (aF A) (16 * b + p) 0 + 10 * fN (aF A) (16 * b + p) 2 + 1000 * fN (aF A) (16 * b + p) 3 + 1000000 * fN (aF A) (16 * b + p) 4 := by omega
               rw [e9]
               exact h _ _ e0 e1 (anM_v e2))
            | (rw [if_neg (fun z => hwh9 ⟨by omega, z⟩), ← p33] at h
               exact h _ _ e0 e1 (anM_v e2))
            | (rw [if_neg (fun z => hwh9 ⟨by rcases hk with q | q; have := sOK_k q; omega; have := q.1; omega, z⟩), ← p33] at h
               exact h _ _ e0 e1 (anM_v e2))
            | (exfalso; omega)
            | (exact absurd hwh9 (by assumption))
            | (rw [pI_0 (fun z => z (by omega)), pI_1 (by omega)] at h
               exact h _ _ (CM_25 hC) (FrM_w (by omega)) (anM_x 0 rfl (wr_s _ _ _ _)))
            | (rw [pI_1 (by omega)] at h
               exact h _ _ (CM_25 hC) (FrM_w (by omega)) (anM_x 0 rfl (wr_s _ _ _ _)))
        · skip
          refine kr_s ?_
          have hwh9 := fun z => hwh (hwi.mpr z)
          refine wq_if_eq (pc := 74) (tgt := 81) dX7_node_74 (by decide) (by first | (unfold inR; omega) | assumption) (fun _ => ?_) (fun c => absurd c (by decide))
          refine wq_iconst (pc := 81) dX7_node_81 ?_
          refine wq_i2l (pc := 82) dX7_node_82 (by first | (unfold inR; omega) | assumption) ?_
          refine wq_ldc2 (pc := 83) dX7_node_83 (kc_X7_310 _ rfl) ?_
          refine wq_aload_n (pc := 86) dX7_node_86 rfl rfl ?_
          refine wq_getS (pc := 87) dX7_node_87 hs (gf_X7_45 _ rfl) rfl rfl rfl rfl rfl ?_
          refine wq_iload_n (pc := 90) dX7_node_90 rfl rfl ?_
          refine wq_ialdK (pc := 91) dX7_node_91 hs rfl (by omega) (by omega) ?_
          refine wq_i2l (pc := 92) dX7_node_92 (by first | (unfold inR; omega) | assumption) ?_
          refine wq_lmul (pc := 93) dX7_node_93 ?_
          refine wq_ladd (pc := 94) dX7_node_94 ?_
          refine wq_lret (pc := 95) dX7_node_95 rfl ?_
          first
            | (rw [if_pos hwh9.2] at h
               have e9 : m 22 (16 * b + p) + 10 * m 33 (16 * b + p) + 1000 * m 23 (16 * b + p) + 1000000 * m 24 (16 * b + p) = fN (aF A) (16 * b + p) 0 + 10 * fN (aF A) (16 * b + p) 2 + 1000 * fN (aF A) (16 * b + p) 3 + 1000000 * fN (aF A) (16 * b + p) 4 := by rw [p22, p33, p23, p24]
               rw [e9]
               exact h _ _ e0 e1 (anM_v e2))
            | (rw [if_pos hwh9.2] at h
               have hsm : isSm (fN (aF A) (16 * b + p)) ((16 * b + p) % 16) := by
                 rcases hk with q | q
                 · have := sOK_k q; omega
                 · exact q
               have z3 := hsm.2.2 3 (by omega) (by omega)
               have z4 := hsm.2.2 4 (by omega) (by omega)
               have e9 : 3 + 10 * m 33 (16 * b + p) = fN (aF A) (16 * b + p) 0 + 10 * fN (aF A) (16 * b + p) 2 + 1000 * fN (aF A) (16 * b + p) 3 + 1000000 * fN (aF A) (16 * b + p) 4 := by omega
               rw [e9]
               exact h _ _ e0 e1 (anM_v e2))
            | (rw [if_neg (fun z => hwh9 ⟨by omega, z⟩), ← p33] at h
               exact h _ _ e0 e1 (anM_v e2))
            | (rw [if_neg (fun z => hwh9 ⟨by rcases hk with q | q; have := sOK_k q; omega; have := q.1; omega, z⟩), ← p33] at h
               exact h _ _ e0 e1 (anM_v e2))
            | (exfalso; omega)
            | (exact absurd hwh9 (by assumption))
            | (rw [pI_0 (fun z => z (by omega)), pI_1 (by omega)] at h
               exact h _ _ (CM_25 hC) (FrM_w (by omega)) (anM_x 0 rfl (wr_s _ _ _ _)))
            | (rw [pI_1 (by omega)] at h
               exact h _ _ (CM_25 hC) (FrM_w (by omega)) (anM_x 0 rfl (wr_s _ _ _ _)))
    · skip
      refine kr_s ?_
      have hwh9 := fun z => hwh (hwi.mpr z)
      refine wq_if_eq (pc := 56) (tgt := 69) dX7_node_56 (by decide) (by first | (unfold inR; omega) | assumption) (fun _ => ?_) (fun c => absurd c (by decide))
      refine wq_aload_n (pc := 69) dX7_node_69 rfl rfl ?_
      refine wq_iload_n (pc := 70) dX7_node_70 rfl rfl ?_
      refine cVK_1 (pc := 71) dX7_node_71 hs (cw_X7_155 _ rfl) (by decide) rfl ⟨by decide, by decide⟩ (Nat.le_of_ble_eq_true rfl) (sp_X7_isWhole hs (by omega) (by omega) ((mR_of e0.1.2.1) 34 _ (by decide) (by decide) (by decide)) ((mR_of e0.1.2.1) 33 _ (by decide) (by decide) (by decide)) ((mR_of e0.1.2.1) 32 _ (by decide) (by decide) (by decide)) (fun hwh => ?_) (fun hwh => ?_))
      · skip
        refine kr_s ?_
        have hwh9 := hwi.mp hwh
        refine wq_if_eq (pc := 74) (tgt := 81) dX7_node_74 (by decide) (by first | (unfold inR; omega) | assumption) (fun c => absurd c (by decide)) (fun _ => ?_)
        refine wq_iconst (pc := 77) dX7_node_77 ?_
        refine wq_goto (pc := 78) (tgt := 82) dX7_node_78 (by decide) ?_
        refine wq_i2l (pc := 82) dX7_node_82 (by first | (unfold inR; omega) | assumption) ?_
        refine wq_ldc2 (pc := 83) dX7_node_83 (kc_X7_310 _ rfl) ?_
        refine wq_aload_n (pc := 86) dX7_node_86 rfl rfl ?_
        refine wq_getS (pc := 87) dX7_node_87 hs (gf_X7_45 _ rfl) rfl rfl rfl rfl rfl ?_
        refine wq_iload_n (pc := 90) dX7_node_90 rfl rfl ?_
        refine wq_ialdK (pc := 91) dX7_node_91 hs rfl (by omega) (by omega) ?_
        refine wq_i2l (pc := 92) dX7_node_92 (by first | (unfold inR; omega) | assumption) ?_
        refine wq_lmul (pc := 93) dX7_node_93 ?_
        refine wq_ladd (pc := 94) dX7_node_94 ?_
        refine wq_lret (pc := 95) dX7_node_95 rfl ?_
        first
          | (rw [if_pos hwh9.2] at h
             have e9 : m 22 (16 * b + p) + 10 * m 33 (16 * b + p) + 1000 * m 23 (16 * b + p) + 1000000 * m 24 (16 * b + p) = fN (aF A) (16 * b + p) 0 + 10 * fN (aF A) (16 * b + p) 2 + 1000 * fN (aF A) (16 * b + p) 3 + 1000000 * fN (aF A) (16 * b + p) 4 := by rw [p22, p33, p23, p24]
             rw [e9]
             exact h _ _ e0 e1 (anM_v e2))
          | (rw [if_pos hwh9.2] at h
             have hsm : isSm (fN (aF A) (16 * b + p)) ((16 * b + p) % 16) := by
               rcases hk with q | q
               · have := sOK_k q; omega
               · exact q
             have z3 := hsm.2.2 3 (by omega) (by omega)
             have z4 := hsm.2.2 4 (by omega) (by omega)
             have e9 : 3 + 10 * m 33 (16 * b + p) = fN (aF A) (16 * b + p) 0 + 10 * fN (aF A) (16 * b + p) 2 + 1000 * fN (aF A) (16 * b + p) 3 + 1000000 * fN (aF A) (16 * b + p) 4 := by omega
             rw [e9]
             exact h _ _ e0 e1 (anM_v e2))
          | (rw [if_neg (fun z => hwh9 ⟨by omega, z⟩), ← p33] at h
             exact h _ _ e0 e1 (anM_v e2))
          | (rw [if_neg (fun z => hwh9 ⟨by rcases hk with q | q; have := sOK_k q; omega; have := q.1; omega, z⟩), ← p33] at h
             exact h _ _ e0 e1 (anM_v e2))
          | (exfalso; omega)
          | (exact absurd hwh9 (by assumption))
          | (rw [pI_0 (fun z => z (by omega)), pI_1 (by omega)] at h
             exact h _ _ (CM_25 hC) (FrM_w (by omega)) (anM_x 0 rfl (wr_s _ _ _ _)))
          | (rw [pI_1 (by omega)] at h
             exact h _ _ (CM_25 hC) (FrM_w (by omega)) (anM_x 0 rfl (wr_s _ _ _ _)))
      · skip
        refine kr_s ?_
        have hwh9 := fun z => hwh (hwi.mpr z)
        refine wq_if_eq (pc := 74) (tgt := 81) dX7_node_74 (by decide) (by first | (unfold inR; omega) | assumption) (fun _ => ?_) (fun c => absurd c (by decide))
        refine wq_iconst (pc := 81) dX7_node_81 ?_
        refine wq_i2l (pc := 82) dX7_node_82 (by first | (unfold inR; omega) | assumption) ?_
        refine wq_ldc2 (pc := 83) dX7_node_83 (kc_X7_310 _ rfl) ?_
        refine wq_aload_n (pc := 86) dX7_node_86 rfl rfl ?_
        refine wq_getS (pc := 87) dX7_node_87 hs (gf_X7_45 _ rfl) rfl rfl rfl rfl rfl ?_
        refine wq_iload_n (pc := 90) dX7_node_90 rfl rfl ?_
        refine wq_ialdK (pc := 91) dX7_node_91 hs rfl (by omega) (by omega) ?_
        refine wq_i2l (pc := 92) dX7_node_92 (by first | (unfold inR; omega) | assumption) ?_
        refine wq_lmul (pc := 93) dX7_node_93 ?_
        refine wq_ladd (pc := 94) dX7_node_94 ?_
        refine wq_lret (pc := 95) dX7_node_95 rfl ?_
        first
          | (rw [if_pos hwh9.2] at h
             have e9 : m 22 (16 * b + p) + 10 * m 33 (16 * b + p) + 1000 * m 23 (16 * b + p) + 1000000 * m 24 (16 * b + p) = fN (aF A) (16 * b + p) 0 + 10 * fN (aF A) (16 * b + p) 2 + 1000 * fN (aF A) (16 * b + p) 3 + 1000000 * fN (aF A) (16 * b + p) 4 := by rw [p22, p33, p23, p24]
             rw [e9]
             exact h _ _ e0 e1 (anM_v e2))
          | (rw [if_pos hwh9.2] at h
             have hsm : isSm (fN (aF A) (16 * b + p)) ((16 * b + p) % 16) := by
               rcases hk with q | q
               · have := sOK_k q; omega
               · exact q
             have z3 := hsm.2.2 3 (by omega) (by omega)
             have z4 := hsm.2.2 4 (by omega) (by omega)
             have e9 : 3 + 10 * m 33 (16 * b + p) = fN (aF A) (16 * b + p) 0 + 10 * fN (aF A) (16 * b + p) 2 + 1000 * fN (aF A) (16 * b + p) 3 + 1000000 * fN (aF A) (16 * b + p) 4 := by omega
             rw [e9]
             exact h _ _ e0 e1 (anM_v e2))
          | (rw [if_neg (fun z => hwh9 ⟨by omega, z⟩), ← p33] at h
             exact h _ _ e0 e1 (anM_v e2))
          | (rw [if_neg (fun z => hwh9 ⟨by rcases hk with q | q; have := sOK_k q; omega; have := q.1; omega, z⟩), ← p33] at h
             exact h _ _ e0 e1 (anM_v e2))
          | (exfalso; omega)
          | (exact absurd hwh9 (by assumption))
          | (rw [pI_0 (fun z => z (by omega)), pI_1 (by omega)] at h
             exact h _ _ (CM_25 hC) (FrM_w (by omega)) (anM_x 0 rfl (wr_s _ _ _ _)))
          | (rw [pI_1 (by omega)] at h
             exact h _ _ (CM_25 hC) (FrM_w (by omega)) (anM_x 0 rfl (wr_s _ _ _ _)))
  refine wq_aload_n (pc := 0) dX7_node_0 rfl rfl ?_
  refine wq_iload_n (pc := 1) dX7_node_1 rfl rfl ?_
  refine wq_iconst (pc := 2) dX7_node_2 ?_
  refine wq_bipush (pc := 3) dX7_node_3 (by decide) (by decide) ?_
  refine cS_3 (pc := 5) dX7_node_5 (cw_X7_210 _ rfl) ⟨by decide, by decide⟩ (Nat.le_of_ble_eq_true rfl) (sp_X7_in r1 (by unfold inR; omega) (by unfold inR; omega) (fun hin => ?_) (fun hin => ?_))
  · skip
    refine kr_s ?_
    have hin9 := hin
    refine wq_if_eq (pc := 8) (tgt := 31) dX7_node_8 (by decide) (by first | (unfold inR; omega) | assumption) (fun c => absurd c (by decide)) (fun _ => ?_)
    refine wq_iload_n (pc := 11) dX7_node_11 rfl rfl ?_
    refine wq_iconst (pc := 12) dX7_node_12 ?_
    refine wq_aload_n (pc := 13) dX7_node_13 rfl rfl ?_
    refine wq_getS (pc := 14) dX7_node_14 hs (gf_X7_48 _ rfl) rfl rfl rfl rfl rfl ?_
    refine wq_iload_n (pc := 17) dX7_node_17 rfl rfl ?_
    refine wq_ialdK (pc := 18) dX7_node_18 hs rfl (by omega) (by omega) ?_
    rw [hRb (by omega) (by omega)] at g34 ⊢
    refine wq_iconst (pc := 19) dX7_node_19 ?_
    refine wq_isub (pc := 20) dX7_node_20 ?_
    refine cS_3 (pc := 21) dX7_node_21 (cw_X7_210 _ rfl) ⟨by decide, by decide⟩ (Nat.le_of_ble_eq_true rfl) (sp_X7_in r2 (by unfold inR; omega) (by unfold inR; omega) (fun hin2 => ?_) (fun hin2 => ?_))
    · skip
      refine kr_s ?_
      have hin29 := hin2
      refine wq_if_eq (pc := 24) (tgt := 31) dX7_node_24 (by decide) (by first | (unfold inR; omega) | assumption) (fun c => absurd c (by decide)) (fun _ => ?_)
      refine wq_iconst (pc := 27) dX7_node_27 ?_
      refine wq_goto (pc := 28) (tgt := 32) dX7_node_28 (by decide) ?_
      refine wq_putIK (pc := 32) (kk := 25) dX7_node_32 hs (gf_X7_127 _ rfl) rfl rfl rfl rfl rfl ?_
      refine wq_aload_n (pc := 35) dX7_node_35 rfl rfl ?_
      refine wq_getIK (pc := 36) (kk := 25) dX7_node_36 hs (gf_X7_127 _ rfl) rfl rfl rfl rfl ?_
      rw [wr_s]
      refine wq_if_le (pc := 39) (tgt := 44) dX7_node_39 (by decide) (by first | (unfold inR; omega) | assumption) (fun c21 => ?_) (fun c21 => ?_)
      · skip
        refine wq_sub1 (L' := [(0, _), (1, _), (2, _)]) ⟨rfl, rfl, rfl, trivial⟩ ?_
        first
          | (exfalso; omega)
          | exact cut1 _ (CM_25 hC) (FrM_w (by omega)) (wr_s _ _ _ _) (by omega) (by omega)
      · skip
        refine wq_lconst (pc := 42) (v := 0) dX7_node_42 rfl ?_
        refine wq_lret (pc := 43) dX7_node_43 rfl ?_
        first
          | (rw [if_pos hwh9.2] at h
             have e9 : m 22 (16 * b + p) + 10 * m 33 (16 * b + p) + 1000 * m 23 (16 * b + p) + 1000000 * m 24 (16 * b + p) = fN (aF A) (16 * b + p) 0 + 10 * fN (aF A) (16 * b + p) 2 + 1000 * fN (aF A) (16 * b + p) 3 + 1000000 * fN (aF A) (16 * b + p) 4 := by rw [p22, p33, p23, p24]
             rw [e9]
             exact h _ _ e0 e1 (anM_v e2))
          | (rw [if_pos hwh9.2] at h
             have hsm : isSm (fN (aF A) (16 * b + p)) ((16 * b + p) % 16) := by
               rcases hk with q | q
               · have := sOK_k q; omega
               · exact q
             have z3 := hsm.2.2 3 (by omega) (by omega)
             have z4 := hsm.2.2 4 (by omega) (by omega)
             have e9 : 3 + 10 * m 33 (16 * b + p) = fN (aF A) (16 * b + p) 0 + 10 * fN (aF A) (16 * b + p) 2 + 1000 * fN (aF A) (16 * b + p) 3 + 1000000 * fN (aF A) (16 * b + p) 4 := by omega
             rw [e9]
             exact h _ _ e0 e1 (anM_v e2))
          | (rw [if_neg (fun z => hwh9 ⟨by omega, z⟩), ← p33] at h
             exact h _ _ e0 e1 (anM_v e2))
          | (rw [if_neg (fun z => hwh9 ⟨by rcases hk with q | q; have := sOK_k q; omega; have := q.1; omega, z⟩), ← p33] at h
             exact h _ _ e0 e1 (anM_v e2))
          | (exfalso; omega)
          | (exact absurd hwh9 (by assumption))
          | (rw [pI_0 (fun z => z (by omega)), pI_1 (by omega)] at h
             exact h _ _ (CM_25 hC) (FrM_w (by omega)) (anM_x 0 rfl (wr_s _ _ _ _)))
          | (rw [pI_1 (by omega)] at h
             exact h _ _ (CM_25 hC) (FrM_w (by omega)) (anM_x 0 rfl (wr_s _ _ _ _)))
    · skip
      refine kr_s ?_
      have hin29 := hin2
      refine wq_if_eq (pc := 24) (tgt := 31) dX7_node_24 (by decide) (by first | (unfold inR; omega) | assumption) (fun _ => ?_) (fun c => absurd c (by decide))
      refine wq_iconst (pc := 31) dX7_node_31 ?_
      refine wq_putIK (pc := 32) (kk := 25) dX7_node_32 hs (gf_X7_127 _ rfl) rfl rfl rfl rfl rfl ?_
      refine wq_aload_n (pc := 35) dX7_node_35 rfl rfl ?_
      refine wq_getIK (pc := 36) (kk := 25) dX7_node_36 hs (gf_X7_127 _ rfl) rfl rfl rfl rfl ?_
      rw [wr_s]
      refine wq_if_le (pc := 39) (tgt := 44) dX7_node_39 (by decide) (by first | (unfold inR; omega) | assumption) (fun c23 => ?_) (fun c23 => ?_)
      · skip
        refine wq_sub1 (L' := [(0, _), (1, _), (2, _)]) ⟨rfl, rfl, rfl, trivial⟩ ?_
        first
          | (exfalso; omega)
          | exact cut1 _ (CM_25 hC) (FrM_w (by omega)) (wr_s _ _ _ _) (by omega) (by omega)
      · skip
        refine wq_lconst (pc := 42) (v := 0) dX7_node_42 rfl ?_
        refine wq_lret (pc := 43) dX7_node_43 rfl ?_
        first
          | (rw [if_pos hwh9.2] at h
             have e9 : m 22 (16 * b + p) + 10 * m 33 (16 * b + p) + 1000 * m 23 (16 * b + p) + 1000000 * m 24 (16 * b + p) = fN (aF A) (16 * b + p) 0 + 10 * fN (aF A) (16 * b + p) 2 + 1000 * fN (aF A) (16 * b + p) 3 + 1000000 * fN (aF A) (16 * b + p) 4 := by rw [p22, p33, p23, p24]
             rw [e9]
             exact h _ _ e0 e1 (anM_v e2))
          | (rw [if_pos hwh9.2] at h
             have hsm : isSm (fN (aF A) (16 * b + p)) ((16 * b + p) % 16) := by
               rcases hk with q | q
               · have := sOK_k q; omega
               · exact q
             have z3 := hsm.2.2 3 (by omega) (by omega)
             have z4 := hsm.2.2 4 (by omega) (by omega)
             have e9 : 3 + 10 * m 33 (16 * b + p) = fN (aF A) (16 * b + p) 0 + 10 * fN (aF A) (16 * b + p) 2 + 1000 * fN (aF A) (16 * b + p) 3 + 1000000 * fN (aF A) (16 * b + p) 4 := by omega
             rw [e9]
             exact h _ _ e0 e1 (anM_v e2))
          | (rw [if_neg (fun z => hwh9 ⟨by omega, z⟩), ← p33] at h
             exact h _ _ e0 e1 (anM_v e2))
          | (rw [if_neg (fun z => hwh9 ⟨by rcases hk with q | q; have := sOK_k q; omega; have := q.1; omega, z⟩), ← p33] at h
             exact h _ _ e0 e1 (anM_v e2))
          | (exfalso; omega)
          | (exact absurd hwh9 (by assumption))
          | (rw [pI_0 (fun z => z (by omega)), pI_1 (by omega)] at h
             exact h _ _ (CM_25 hC) (FrM_w (by omega)) (anM_x 0 rfl (wr_s _ _ _ _)))
          | (rw [pI_1 (by omega)] at h
             exact h _ _ (CM_25 hC) (FrM_w (by omega)) (anM_x 0 rfl (wr_s _ _ _ _)))
  · skip
    refine kr_s ?_
    have hin9 := hin
    refine wq_if_eq (pc := 8) (tgt := 31) dX7_node_8 (by decide) (by first | (unfold inR; omega) | assumption) (fun _ => ?_) (fun c => absurd c (by decide))
    refine wq_iconst (pc := 31) dX7_node_31 ?_
    refine wq_putIK (pc := 32) (kk := 25) dX7_node_32 hs (gf_X7_127 _ rfl) rfl rfl rfl rfl rfl ?_
    refine wq_aload_n (pc := 35) dX7_node_35 rfl rfl ?_
    refine wq_getIK (pc := 36) (kk := 25) dX7_node_36 hs (gf_X7_127 _ rfl) rfl rfl rfl rfl ?_
    rw [wr_s]
    refine wq_if_le (pc := 39) (tgt := 44) dX7_node_39 (by decide) (by first | (unfold inR; omega) | assumption) (fun c25 => ?_) (fun c25 => ?_)
    · skip
      refine wq_sub1 (L' := [(0, _), (1, _), (2, _)]) ⟨rfl, rfl, rfl, trivial⟩ ?_
      first
        | (exfalso; omega)
        | exact cut1 _ (CM_25 hC) (FrM_w (by omega)) (wr_s _ _ _ _) (by omega) (by omega)
    · skip
      refine wq_lconst (pc := 42) (v := 0) dX7_node_42 rfl ?_
      refine wq_lret (pc := 43) dX7_node_43 rfl ?_
      first
        | (rw [if_pos hwh9.2] at h
           have e9 : m 22 (16 * b + p) + 10 * m 33 (16 * b + p) + 1000 * m 23 (16 * b + p) + 1000000 * m 24 (16 * b + p) = fN (aF A) (16 * b + p) 0 + 10 * fN (aF A) (16 * b + p) 2 + 1000 * fN (aF A) (16 * b + p) 3 + 1000000 * fN (aF A) (16 * b + p) 4 := by rw [p22, p33, p23, p24]
           rw [e9]
           exact h _ _ e0 e1 (anM_v e2))
        | (rw [if_pos hwh9.2] at h
           have hsm : isSm (fN (aF A) (16 * b + p)) ((16 * b + p) % 16) := by
             rcases hk with q | q
             · have := sOK_k q; omega
             · exact q
           have z3 := hsm.2.2 3 (by omega) (by omega)
           have z4 := hsm.2.2 4 (by omega) (by omega)
           have e9 : 3 + 10 * m 33 (16 * b + p) = fN (aF A) (16 * b + p) 0 + 10 * fN (aF A) (16 * b + p) 2 + 1000 * fN (aF A) (16 * b + p) 3 + 1000000 * fN (aF A) (16 * b + p) 4 := by omega
           rw [e9]
           exact h _ _ e0 e1 (anM_v e2))
        | (rw [if_neg (fun z => hwh9 ⟨by omega, z⟩), ← p33] at h
           exact h _ _ e0 e1 (anM_v e2))
        | (rw [if_neg (fun z => hwh9 ⟨by rcases hk with q | q; have := sOK_k q; omega; have := q.1; omega, z⟩), ← p33] at h
           exact h _ _ e0 e1 (anM_v e2))
        | (exfalso; omega)
        | (exact absurd hwh9 (by assumption))
        | (rw [pI_0 (fun z => z (by omega)), pI_1 (by omega)] at h
           exact h _ _ (CM_25 hC) (FrM_w (by omega)) (anM_x 0 rfl (wr_s _ _ _ _)))
        | (rw [pI_1 (by omega)] at h
           exact h _ _ (CM_25 hC) (FrM_w (by omega)) (anM_x 0 rfl (wr_s _ _ _ _)))
