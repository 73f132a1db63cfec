theorem CL_cur {g : Lg} {μ : nMem} {b : Int} (h : CL g μ) : CL (b, g.2) (wr μ 8 4 b) := by
  obtain ⟨c1, c2, c3, c4, c5, c6⟩ := h
  exact ⟨wr_s _ _ _ _, by rw [wr_n _ _ (by omega)]; exact c2, lsAt_far c3 (by omega), by rw [wr_n _ _ (by omega)]; exact c4, lsAt_far c5 (by omega), c6⟩
theorem CL_none {μ : nMem} : CL (-1, [], []) (wr (wr (wr μ 8 4 (-1)) 8 5 0) 8 6 0) :=
  ⟨by rw [wr_n _ _ (by omega), wr_n _ _ (by omega), wr_s], by rw [wr_n _ _ (by omega), wr_s]; rfl, fun i hi => absurd hi (by simp), by rw [wr_s]; rfl, fun i hi => absurd hi (by simp), by simp, by simp, fun x hx => absurd hx (by simp), fun x hx => absurd hx (by simp)⟩
/-- the log as a restart finds it -/
def gOf (F : Fl) : Lg := (gCur F 8, gFree F 8, gClosed F (gCur F 8) 8)
theorem sp_X3_restart {μ : nMem} {ε : nEnv} {Q : nOut → nMem → nEnv → Prop} {F : Fl} (hC : CF F μ ε) (hbd : fBd F) (h : ∀ μ9, CF F μ9 ε → CL (gOf F) μ9 → FrX XP μ ε μ9 ε → Q (.inl none) μ9 ε) : Sp mX3_restart [vR 8] μ ε Q := by
  refine Sp_of (L := [(0, vR 8)]) (by decide) rfl rfl (Nat.le_of_ble_eq_true rfl) ?_
  have hs := hC.1
  refine wq_aload_n (pc := 0) dX3_restart_0 rfl rfl ?_
  refine wq_iconst (pc := 1) dX3_restart_1 ?_
  refine wq_putIK (pc := 2) (kk := 4) dX3_restart_2 hs (gf_X3_25 _ rfl) rfl rfl rfl rfl rfl ?_
  refine wq_aload_n (pc := 5) dX3_restart_5 rfl rfl ?_
  refine wq_iconst (pc := 6) dX3_restart_6 ?_
  refine wq_putIK (pc := 7) (kk := 5) dX3_restart_7 hs (gf_X3_33 _ rfl) rfl rfl rfl rfl rfl ?_
  refine wq_aload_n (pc := 10) dX3_restart_10 rfl rfl ?_
  refine wq_iconst (pc := 11) dX3_restart_11 ?_
  refine wq_putIK (pc := 12) (kk := 6) dX3_restart_12 hs (gf_X3_36 _ rfl) rfl rfl rfl rfl rfl ?_
  refine wq_iconst (pc := 15) dX3_restart_15 ?_
  refine wq_istore_n (pc := 16) (L' := [(1, _), (0, _)]) dX3_restart_16 rfl rfl (by decide) ?_
  have loop1 : ∀ (n k : Nat), ∀ (m : nMem) (i : Int), k ≤ 8 → 8 < k + n → i = (k : Int) → CF F m ε → CL (gCur F k, [], []) m → FrX XP μ ε m ε → wp mX3_restart 17 [(0, vR 8), (1, vI i)] [] m ε Q := by
    intro n
    induction n with
    | zero => intro k m i hk1 hk2 e0 e1 e2 e3; exact absurd hk2 (by omega)
    | succ n ih =>
      intro k m i hk1 hk2 e0 e1 e2 e3
      subst e0
      have hs := e1.1
      have u0 : ∀ b, 0 ≤ b → b < 8 → m 4 b = fU F b ∧ 0 ≤ m 4 b ∧ m 4 b ≤ 40 := fun b b0 b1 => by
        have h9 := (CF_UC e1 (b := b) ⟨b0, b1⟩).1
        rw [h9]
        have := hbd b b0 b1
        exact ⟨rfl, this.1, this.2.1⟩
      have gr := gCur_r F k
      have gz : m 8 4 = gCur F k := e2.1
      have hk8 : k < 8 ∨ k = 8 := by omega
      refine wq_iload_n (pc := 17) dX3_restart_17 rfl rfl ?_
      refine wq_bipush (pc := 18) dX3_restart_18 (by decide) (by decide) ?_
      refine wq_icmp_ge (pc := 20) (tgt := 82) dX3_restart_20 (by decide) (by first | (unfold inR; omega) | assumption) (by first | (unfold inR; omega) | assumption) (fun c2 => ?_) (fun c2 => ?_)
      · skip
        refine wq_iconst (pc := 82) dX3_restart_82 ?_
        refine wq_istore_n (pc := 83) (L' := [(1, _), (0, _)]) dX3_restart_83 rfl rfl (by decide) ?_
        have loop3 : ∀ (n k : Nat), ∀ (m : nMem) (i : Int), k ≤ 8 → 8 < k + n → i = (k : Int) → CF F m ε → CL (gCur F 8, gFree F k, gClosed F (gCur F 8) k) m → FrX XP μ ε m ε → wp mX3_restart 84 [(0, vR 8), (1, vI i)] [] m ε Q := by
          intro n
          induction n with
          | zero => intro k m i hk1 hk2 e0 e1 e2 e3; exact absurd hk2 (by omega)
          | succ n ih =>
            intro k m i hk1 hk2 e0 e1 e2 e3
            subst e0
            have hs := e1.1
            have u0 : ∀ b, 0 ≤ b → b < 8 → m 4 b = fU F b ∧ 0 ≤ m 4 b ∧ m 4 b ≤ 40 := fun b b0 b1 => by
              have h9 := (CF_UC e1 (b := b) ⟨b0, b1⟩).1
              rw [h9]
              have := hbd b b0 b1
              exact ⟨rfl, this.1, this.2.1⟩
            have gr := gCur_r F 8
            have gz : m 8 4 = gCur F 8 := e2.1
            
            refine wq_iload_n (pc := 84) dX3_restart_84 rfl rfl ?_
            refine wq_bipush (pc := 85) dX3_restart_85 (by decide) (by decide) ?_
            refine wq_icmp_ge (pc := 87) (tgt := 141) dX3_restart_87 (by decide) (by first | (unfold inR; omega) | assumption) (by first | (unfold inR; omega) | assumption) (fun c4 => ?_) (fun c4 => ?_)
            · skip
              refine wq_vret (pc := 141) dX3_restart_141 rfl ?_
              have hk9 : k = 8 := by omega
              subst hk9
              exact h _ e1 e2 e3
            · skip
              have uk := u0 k (by omega) (by omega)
              refine wq_aload_n (pc := 90) dX3_restart_90 rfl rfl ?_
              refine wq_getS (pc := 91) dX3_restart_91 hs (gf_X3_29 _ rfl) rfl rfl rfl rfl rfl ?_
              refine wq_iload_n (pc := 94) dX3_restart_94 rfl rfl ?_
              refine cVK_1 (pc := 95) dX3_restart_95 hs (cw_X3_39 _ rfl) (by decide) rfl ⟨by decide, by decide⟩ (Nat.le_of_ble_eq_true rfl) (sq_X0_usedOf hs (by omega) ?_)
              refine kr_s ?_
              refine wq_iconst (pc := 98) dX3_restart_98 ?_
              refine wq_icmp_ne (pc := 99) (tgt := 110) dX3_restart_99 (by decide) (by first | (unfold inR; omega) | assumption) (by first | (unfold inR; omega) | assumption) (fun c5 => ?_) (fun c5 => ?_)
              · skip
                refine wq_aload_n (pc := 110) dX3_restart_110 rfl rfl ?_
                refine wq_getS (pc := 111) dX3_restart_111 hs (gf_X3_29 _ rfl) rfl rfl rfl rfl rfl ?_
                refine wq_iload_n (pc := 114) dX3_restart_114 rfl rfl ?_
                refine cVK_1 (pc := 115) dX3_restart_115 hs (cw_X3_39 _ rfl) (by decide) rfl ⟨by decide, by decide⟩ (Nat.le_of_ble_eq_true rfl) (sq_X0_usedOf hs (by omega) ?_)
                refine kr_s ?_
                refine wq_iconst (pc := 118) dX3_restart_118 ?_
                refine wq_icmp_le (pc := 119) (tgt := 135) dX3_restart_119 (by decide) (by first | (unfold inR; omega) | assumption) (by first | (unfold inR; omega) | assumption) (fun c6 => ?_) (fun c6 => ?_)
                · skip
                  refine wq_iinc (pc := 135) (L' := [(1, _), (0, _)]) dX3_restart_135 rfl rfl (by decide) ?_
                  refine wq_goto (pc := 138) (tgt := 84) dX3_restart_138 (by decide) ?_
                  refine wq_sub1 (L' := [(0, _), (1, _)]) ⟨rfl, rfl, trivial⟩ ?_
                  have hf : m 4 k = fU F k := (u0 k (by omega) (by omega)).1
                  first
                    | (have es : gFree F (k + 1) = gFree F k ++ [(k : Int)] := by rw [gFree_s, if_pos (by omega)]
                       have et : gClosed F (gCur F 8) (k + 1) = gClosed F (gCur F 8) k := by rw [gClosed_s, if_neg (by omega)]
                       exact ih (k + 1) _ _ (by omega) (by omega) (by omega) hCc (by rw [es, et]; exact hL3) hXc)
                    | (have es : gFree F (k + 1) = gFree F k := by rw [gFree_s, if_neg (by omega)]
                       have et : gClosed F (gCur F 8) (k + 1) = gClosed F (gCur F 8) k ++ [(k : Int)] := by rw [gClosed_s, if_pos (by omega)]
                       exact ih (k + 1) _ _ (by omega) (by omega) (by omega) hCc (by rw [es, et]; exact hL3) hXc)
                    | (have es : gFree F (k + 1) = gFree F k := by rw [gFree_s, if_neg (by omega)]
                       have et : gClosed F (gCur F 8) (k + 1) = gClosed F (gCur F 8) k := by rw [gClosed_s, if_neg (by omega)]
                       exact ih (k + 1) _ _ (by omega) (by omega) (by omega) e1 (by rw [es, et]; exact e2) e3)
                · skip
                  refine wq_iload_n (pc := 122) dX3_restart_122 rfl rfl ?_
                  refine wq_aload_n (pc := 123) dX3_restart_123 rfl rfl ?_
                  refine wq_getIK (pc := 124) (kk := 4) dX3_restart_124 hs (gf_X3_25 _ rfl) rfl rfl rfl rfl ?_
                  refine wq_icmp_eq (pc := 127) (tgt := 135) dX3_restart_127 (by decide) (by first | (unfold inR; omega) | assumption) (by first | (unfold inR; omega) | assumption) (fun c7 => ?_) (fun c7 => ?_)
                  · skip
                    refine wq_iinc (pc := 135) (L' := [(1, _), (0, _)]) dX3_restart_135 rfl rfl (by decide) ?_
                    refine wq_goto (pc := 138) (tgt := 84) dX3_restart_138 (by decide) ?_
                    refine wq_sub1 (L' := [(0, _), (1, _)]) ⟨rfl, rfl, trivial⟩ ?_
                    have hf : m 4 k = fU F k := (u0 k (by omega) (by omega)).1
                    first
                      | (have es : gFree F (k + 1) = gFree F k ++ [(k : Int)] := by rw [gFree_s, if_pos (by omega)]
                         have et : gClosed F (gCur F 8) (k + 1) = gClosed F (gCur F 8) k := by rw [gClosed_s, if_neg (by omega)]
                         exact ih (k + 1) _ _ (by omega) (by omega) (by omega) hCc (by rw [es, et]; exact hL3) hXc)
                      | (have es : gFree F (k + 1) = gFree F k := by rw [gFree_s, if_neg (by omega)]
                         have et : gClosed F (gCur F 8) (k + 1) = gClosed F (gCur F 8) k ++ [(k : Int)] := by rw [gClosed_s, if_pos (by omega)]
                         exact ih (k + 1) _ _ (by omega) (by omega) (by omega) hCc (by rw [es, et]; exact hL3) hXc)
                      | (have es : gFree F (k + 1) = gFree F k := by rw [gFree_s, if_neg (by omega)]
                         have et : gClosed F (gCur F 8) (k + 1) = gClosed F (gCur F 8) k := by rw [gClosed_s, if_neg (by omega)]
                         exact ih (k + 1) _ _ (by omega) (by omega) (by omega) e1 (by rw [es, et]; exact e2) e3)
                  · skip
                    refine wq_aload_n (pc := 130) dX3_restart_130 rfl rfl ?_
                    refine wq_iload_n (pc := 131) dX3_restart_131 rfl rfl ?_
                    refine cVK_1 (pc := 132) dX3_restart_132 hs (cw_X3_76 _ rfl) (by decide) rfl ⟨by decide, by decide⟩ (Nat.le_of_ble_eq_true rfl) (sp_X3_addClosed hs e2 (by omega) (by have := gClosed_n F (gCur F 8) k; show (gClosed F (gCur F 8) k).length < 8; omega) (fun m3 hL3 hC3 hX3 => ?_))
                    refine kr_v ?_
                    have hCc := hC3 _ e1
                    have hXc := FrX_trans e1.2.1 e3 (XP_L hX3)
                    have hs := hCc.1
                    refine wq_iinc (pc := 135) (L' := [(1, _), (0, _)]) dX3_restart_135 rfl rfl (by decide) ?_
                    refine wq_goto (pc := 138) (tgt := 84) dX3_restart_138 (by decide) ?_
                    refine wq_sub1 (L' := [(0, _), (1, _)]) ⟨rfl, rfl, trivial⟩ ?_
                    have hf : m 4 k = fU F k := (u0 k (by omega) (by omega)).1
                    first
                      | (have es : gFree F (k + 1) = gFree F k ++ [(k : Int)] := by rw [gFree_s, if_pos (by omega)]
                         have et : gClosed F (gCur F 8) (k + 1) = gClosed F (gCur F 8) k := by rw [gClosed_s, if_neg (by omega)]
                         exact ih (k + 1) _ _ (by omega) (by omega) (by omega) hCc (by rw [es, et]; exact hL3) hXc)
                      | (have es : gFree F (k + 1) = gFree F k := by rw [gFree_s, if_neg (by omega)]
                         have et : gClosed F (gCur F 8) (k + 1) = gClosed F (gCur F 8) k ++ [(k : Int)] := by rw [gClosed_s, if_pos (by omega)]
                         exact ih (k + 1) _ _ (by omega) (by omega) (by omega) hCc (by rw [es, et]; exact hL3) hXc)
                      | (have es : gFree F (k + 1) = gFree F k := by rw [gFree_s, if_neg (by omega)]
                         have et : gClosed F (gCur F 8) (k + 1) = gClosed F (gCur F 8) k := by rw [gClosed_s, if_neg (by omega)]
                         exact ih (k + 1) _ _ (by omega) (by omega) (by omega) e1 (by rw [es, et]; exact e2) e3)
              · skip
                refine wq_aload_n (pc := 102) dX3_restart_102 rfl rfl ?_
                refine wq_iload_n (pc := 103) dX3_restart_103 rfl rfl ?_
                refine cVK_1 (pc := 104) dX3_restart_104 hs (cw_X3_90 _ rfl) (by decide) rfl ⟨by decide, by decide⟩ (Nat.le_of_ble_eq_true rfl) (sp_X3_addFree hs e2 (by omega) (by have := gFree_n F k; show (gFree F k).length < 8; omega) (fun m3 hL3 hC3 hX3 => ?_))
                refine kr_v ?_
                have hCc := hC3 _ e1
                have hXc := FrX_trans e1.2.1 e3 (XP_L hX3)
                have hs := hCc.1
                refine wq_goto (pc := 107) (tgt := 135) dX3_restart_107 (by decide) ?_
                refine wq_iinc (pc := 135) (L' := [(1, _), (0, _)]) dX3_restart_135 rfl rfl (by decide) ?_
                refine wq_goto (pc := 138) (tgt := 84) dX3_restart_138 (by decide) ?_
                refine wq_sub1 (L' := [(0, _), (1, _)]) ⟨rfl, rfl, trivial⟩ ?_
                have hf : m 4 k = fU F k := (u0 k (by omega) (by omega)).1
                first
                  | (have es : gFree F (k + 1) = gFree F k ++ [(k : Int)] := by rw [gFree_s, if_pos (by omega)]
                     have et : gClosed F (gCur F 8) (k + 1) = gClosed F (gCur F 8) k := by rw [gClosed_s, if_neg (by omega)]
                     exact ih (k + 1) _ _ (by omega) (by omega) (by omega) hCc (by rw [es, et]; exact hL3) hXc)
                  | (have es : gFree F (k + 1) = gFree F k := by rw [gFree_s, if_neg (by omega)]
                     have et : gClosed F (gCur F 8) (k + 1) = gClosed F (gCur F 8) k ++ [(k : Int)] := by rw [gClosed_s, if_pos (by omega)]
                     exact ih (k + 1) _ _ (by omega) (by omega) (by omega) hCc (by rw [es, et]; exact hL3) hXc)
                  | (have es : gFree F (k + 1) = gFree F k := by rw [gFree_s, if_neg (by omega)]
                     have et : gClosed F (gCur F 8) (k + 1) = gClosed F (gCur F 8) k := by rw [gClosed_s, if_neg (by omega)]
                     exact ih (k + 1) _ _ (by omega) (by omega) (by omega) e1 (by rw [es, et]; exact e2) e3)
        refine wq_sub1 (L' := [(0, _), (1, _)]) ⟨rfl, rfl, trivial⟩ ?_
        exact loop3 9 0 m _ (by omega) (by omega) (by omega) e1 (by rw [show (8 : Nat) = k by omega]; exact e2) e3
      · skip
        have uk := u0 k (by omega) (by omega)
        refine wq_aload_n (pc := 23) dX3_restart_23 rfl rfl ?_
        refine wq_getIK (pc := 24) (kk := 4) dX3_restart_24 hs (gf_X3_25 _ rfl) rfl rfl rfl rfl ?_
        refine wq_iconst (pc := 27) dX3_restart_27 ?_
        refine wq_icmp_eq (pc := 28) (tgt := 53) dX3_restart_28 (by decide) (by first | (unfold inR; omega) | assumption) (by first | (unfold inR; omega) | assumption) (fun c10 => ?_) (fun c10 => ?_)
        · skip
          refine wq_iconst (pc := 53) dX3_restart_53 ?_
          refine wq_goto (pc := 54) (tgt := 58) dX3_restart_54 (by decide) ?_
          refine wq_istore_n (pc := 58) (L' := [(2, _), (0, _), (1, _)]) dX3_restart_58 rfl rfl (by decide) ?_
          refine wq_iload_n (pc := 59) dX3_restart_59 rfl rfl ?_
          refine wq_if_eq (pc := 60) (tgt := 76) dX3_restart_60 (by decide) (by first | (unfold inR; omega) | assumption) (fun c => absurd c (by decide)) (fun _ => ?_)
          refine wq_aload_n (pc := 63) dX3_restart_63 rfl rfl ?_
          refine wq_iload_n (pc := 64) dX3_restart_64 rfl rfl ?_
          refine cVK_1 (pc := 65) dX3_restart_65 hs (cw_X3_93 _ rfl) (by decide) rfl ⟨by decide, by decide⟩ (Nat.le_of_ble_eq_true rfl) (sp_X3_canGoOn e1 hbd (by omega) (fun hg12 => ?_) (fun hg13 => ?_))
          · skip
            refine kr_s ?_
            refine wq_if_eq (pc := 68) (tgt := 76) dX3_restart_68 (by decide) (by first | (unfold inR; omega) | assumption) (fun c => absurd c (by decide)) (fun _ => ?_)
            refine wq_aload_n (pc := 71) dX3_restart_71 rfl rfl ?_
            refine wq_iload_n (pc := 72) dX3_restart_72 rfl rfl ?_
            refine wq_putIK (pc := 73) (kk := 4) dX3_restart_73 hs (gf_X3_25 _ rfl) rfl rfl rfl rfl rfl ?_
            refine wq_iinc (pc := 76) (L' := [(1, _), (2, _), (0, _)]) dX3_restart_76 rfl rfl (by decide) ?_
            refine wq_goto (pc := 79) (tgt := 17) dX3_restart_79 (by decide) ?_
            refine wq_sub1 (L' := [(0, _), (1, _)]) ⟨rfl, rfl, trivial⟩ ?_
            first
              | (have es : gCur F (k + 1) = (k : Int) := by rw [gCur_s, if_pos ⟨by first | (left; omega) | (right; rw [← gz]; omega), by assumption⟩]
                 exact ih (k + 1) _ _ (by omega) (by omega) (by omega) (CF_wrx e1 (by omega)) (by rw [es]; exact CL_cur e2) (FrX_trans e1.2.1 e3 (FrX_wr (by unfold XP; omega) (by omega) (by omega))))
              | (have es : gCur F (k + 1) = gCur F k := by
                   rw [gCur_s, if_neg]
                   rintro ⟨q1, q2⟩
                   first
                     | contradiction
                     | (rcases q1 with q1 | q1
                        · omega
                        · rw [← gz] at q1; omega)
                     | omega
                 exact ih (k + 1) _ _ (by omega) (by omega) (by omega) e1 (by rw [es]; exact e2) e3)
          · skip
            refine kr_s ?_
            refine wq_if_eq (pc := 68) (tgt := 76) dX3_restart_68 (by decide) (by first | (unfold inR; omega) | assumption) (fun _ => ?_) (fun c => absurd c (by decide))
            refine wq_iinc (pc := 76) (L' := [(1, _), (2, _), (0, _)]) dX3_restart_76 rfl rfl (by decide) ?_
            refine wq_goto (pc := 79) (tgt := 17) dX3_restart_79 (by decide) ?_
            refine wq_sub1 (L' := [(0, _), (1, _)]) ⟨rfl, rfl, trivial⟩ ?_
            first
              | (have es : gCur F (k + 1) = (k : Int) := by rw [gCur_s, if_pos ⟨by first | (left; omega) | (right; rw [← gz]; omega), by assumption⟩]
                 exact ih (k + 1) _ _ (by omega) (by omega) (by omega) (CF_wrx e1 (by omega)) (by rw [es]; exact CL_cur e2) (FrX_trans e1.2.1 e3 (FrX_wr (by unfold XP; omega) (by omega) (by omega))))
              | (have es : gCur F (k + 1) = gCur F k := by
                   rw [gCur_s, if_neg]
                   rintro ⟨q1, q2⟩
                   first
                     | contradiction
                     | (rcases q1 with q1 | q1
                        · omega
                        · rw [← gz] at q1; omega)
                     | omega
                 exact ih (k + 1) _ _ (by omega) (by omega) (by omega) e1 (by rw [es]; exact e2) e3)
        · skip
          have uc := u0 (m 8 4) (by omega) (by omega)
          refine wq_aload_n (pc := 31) dX3_restart_31 rfl rfl ?_
          refine wq_getS (pc := 32) dX3_restart_32 hs (gf_X3_29 _ rfl) rfl rfl rfl rfl rfl ?_
          refine wq_iload_n (pc := 35) dX3_restart_35 rfl rfl ?_
          refine cVK_1 (pc := 36) dX3_restart_36 hs (cw_X3_39 _ rfl) (by decide) rfl ⟨by decide, by decide⟩ (Nat.le_of_ble_eq_true rfl) (sq_X0_usedOf hs (by omega) ?_)
          refine kr_s ?_
          refine wq_aload_n (pc := 39) dX3_restart_39 rfl rfl ?_
          refine wq_getS (pc := 40) dX3_restart_40 hs (gf_X3_29 _ rfl) rfl rfl rfl rfl rfl ?_
          refine wq_aload_n (pc := 43) dX3_restart_43 rfl rfl ?_
          refine wq_getIK (pc := 44) (kk := 4) dX3_restart_44 hs (gf_X3_25 _ rfl) rfl rfl rfl rfl ?_
          refine cVK_1 (pc := 47) dX3_restart_47 hs (cw_X3_39 _ rfl) (by decide) rfl ⟨by decide, by decide⟩ (Nat.le_of_ble_eq_true rfl) (sq_X0_usedOf hs (by omega) ?_)
          refine kr_s ?_
          refine wq_icmp_ge (pc := 50) (tgt := 57) dX3_restart_50 (by decide) (by first | (unfold inR; omega) | assumption) (by first | (unfold inR; omega) | assumption) (fun c16 => ?_) (fun c16 => ?_)
          · skip
            refine wq_iconst (pc := 57) dX3_restart_57 ?_
            refine wq_istore_n (pc := 58) (L' := [(2, _), (0, _), (1, _)]) dX3_restart_58 rfl rfl (by decide) ?_
            refine wq_iload_n (pc := 59) dX3_restart_59 rfl rfl ?_
            refine wq_if_eq (pc := 60) (tgt := 76) dX3_restart_60 (by decide) (by first | (unfold inR; omega) | assumption) (fun _ => ?_) (fun c => absurd c (by decide))
            refine wq_iinc (pc := 76) (L' := [(1, _), (2, _), (0, _)]) dX3_restart_76 rfl rfl (by decide) ?_
            refine wq_goto (pc := 79) (tgt := 17) dX3_restart_79 (by decide) ?_
            refine wq_sub1 (L' := [(0, _), (1, _)]) ⟨rfl, rfl, trivial⟩ ?_
            first
              | (have es : gCur F (k + 1) = (k : Int) := by rw [gCur_s, if_pos ⟨by first | (left; omega) | (right; rw [← gz]; omega), by assumption⟩]
                 exact ih (k + 1) _ _ (by omega) (by omega) (by omega) (CF_wrx e1 (by omega)) (by rw [es]; exact CL_cur e2) (FrX_trans e1.2.1 e3 (FrX_wr (by unfold XP; omega) (by omega) (by omega))))
              | (have es : gCur F (k + 1) = gCur F k := by
                   rw [gCur_s, if_neg]
                   rintro ⟨q1, q2⟩
                   first
                     | contradiction
                     | (rcases q1 with q1 | q1
                        · omega
                        · rw [← gz] at q1; omega)
                     | omega
                 exact ih (k + 1) _ _ (by omega) (by omega) (by omega) e1 (by rw [es]; exact e2) e3)
          · skip
            refine wq_iconst (pc := 53) dX3_restart_53 ?_
            refine wq_goto (pc := 54) (tgt := 58) dX3_restart_54 (by decide) ?_
            refine wq_istore_n (pc := 58) (L' := [(2, _), (0, _), (1, _)]) dX3_restart_58 rfl rfl (by decide) ?_
            refine wq_iload_n (pc := 59) dX3_restart_59 rfl rfl ?_
            refine wq_if_eq (pc := 60) (tgt := 76) dX3_restart_60 (by decide) (by first | (unfold inR; omega) | assumption) (fun c => absurd c (by decide)) (fun _ => ?_)
            refine wq_aload_n (pc := 63) dX3_restart_63 rfl rfl ?_
            refine wq_iload_n (pc := 64) dX3_restart_64 rfl rfl ?_
            refine cVK_1 (pc := 65) dX3_restart_65 hs (cw_X3_93 _ rfl) (by decide) rfl ⟨by decide, by decide⟩ (Nat.le_of_ble_eq_true rfl) (sp_X3_canGoOn e1 hbd (by omega) (fun hg19 => ?_) (fun hg20 => ?_))
            · skip
              refine kr_s ?_
              refine wq_if_eq (pc := 68) (tgt := 76) dX3_restart_68 (by decide) (by first | (unfold inR; omega) | assumption) (fun c => absurd c (by decide)) (fun _ => ?_)
              refine wq_aload_n (pc := 71) dX3_restart_71 rfl rfl ?_
              refine wq_iload_n (pc := 72) dX3_restart_72 rfl rfl ?_
              refine wq_putIK (pc := 73) (kk := 4) dX3_restart_73 hs (gf_X3_25 _ rfl) rfl rfl rfl rfl rfl ?_
              refine wq_iinc (pc := 76) (L' := [(1, _), (2, _), (0, _)]) dX3_restart_76 rfl rfl (by decide) ?_
              refine wq_goto (pc := 79) (tgt := 17) dX3_restart_79 (by decide) ?_
              refine wq_sub1 (L' := [(0, _), (1, _)]) ⟨rfl, rfl, trivial⟩ ?_
              first
                | (have es : gCur F (k + 1) = (k : Int) := by rw [gCur_s, if_pos ⟨by first | (left; omega) | (right; rw [← gz]; omega), by assumption⟩]
                   exact ih (k + 1) _ _ (by omega) (by omega) (by omega) (CF_wrx e1 (by omega)) (by rw [es]; exact CL_cur e2) (FrX_trans e1.2.1 e3 (FrX_wr (by unfold XP; omega) (by omega) (by omega))))
                | (have es : gCur F (k + 1) = gCur F k := by
                     rw [gCur_s, if_neg]
                     rintro ⟨q1, q2⟩
                     first
                       | contradiction
                       | (rcases q1 with q1 | q1
                          · omega
                          · rw [← gz] at q1; omega)
                       | omega
                   exact ih (k + 1) _ _ (by omega) (by omega) (by omega) e1 (by rw [es]; exact e2) e3)
            · skip
              refine kr_s ?_
              refine wq_if_eq (pc := 68) (tgt := 76) dX3_restart_68 (by decide) (by first | (unfold inR; omega) | assumption) (fun _ => ?_) (fun c => absurd c (by decide))
              refine wq_iinc (pc := 76) (L' := [(1, _), (2, _), (0, _)]) dX3_restart_76 rfl rfl (by decide) ?_
              refine wq_goto (pc := 79) (tgt := 17) dX3_restart_79 (by decide) ?_
              refine wq_sub1 (L' := [(0, _), (1, _)]) ⟨rfl, rfl, trivial⟩ ?_
              first
                | (have es : gCur F (k + 1) = (k : Int) := by rw [gCur_s, if_pos ⟨by first | (left; omega) | (right; rw [← gz]; omega), by assumption⟩]
                   exact ih (k + 1) _ _ (by omega) (by omega) (by omega) (CF_wrx e1 (by omega)) (by rw [es]; exact CL_cur e2) (FrX_trans e1.2.1 e3 (FrX_wr (by unfold XP; omega) (by omega) (by omega))))
                | (have es : gCur F (k + 1) = gCur F k := by
                     rw [gCur_s, if_neg]
                     rintro ⟨q1, q2⟩
                     first
                       | contradiction
                       | (rcases q1 with q1 | q1
                          · omega
                          · rw [← gz] at q1; omega)
                       | omega
                   exact ih (k + 1) _ _ (by omega) (by omega) (by omega) e1 (by rw [es]; exact e2) e3)
  refine wq_sub1 (L' := [(0, _), (1, _)]) ⟨rfl, rfl, trivial⟩ ?_
  exact loop1 9 0 (wr (wr (wr μ 8 4 (-1)) 8 5 0) 8 6 0) _ (by omega) (by omega) (by omega) (CF_wrx (CF_wrx (CF_wrx hC (by omega)) (by omega)) (by omega)) CL_none (FrX_mem (fun x hx j => by rw [wr_n _ _ (fun q => hx (by unfold XP; omega)), wr_n _ _ (fun q => hx (by unfold XP; omega)), wr_n _ _ (fun q => hx (by unfold XP; omega))]) (fun j => by rw [wr_n _ _ (by omega), wr_n _ _ (by omega), wr_n _ _ (by omega)]) (fun j => by rw [wr_n _ _ (by omega), wr_n _ _ (by omega), wr_n _ _ (by omega)]))
