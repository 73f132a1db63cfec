theorem sp_X7_thrown {μ : nMem} {ε : nEnv} {Q : nOut → nMem → nEnv → Prop}  (hs : SkP skM ε) (h : Q (.inl (some (vI (μ 21 25)))) μ ε) : Sp mX7_thrown [vR 21] μ ε Q := by
  refine Sp_of (L := [(0, vR 21)]) (by decide) rfl rfl (Nat.le_of_ble_eq_true rfl) ?_
  refine wq_aload_n (pc := 0) dX7_thrown_0 rfl rfl ?_
  refine wq_getIK (pc := 1) (kk := 25) dX7_thrown_1 hs (gf_X7_127 _ rfl) rfl rfl rfl rfl ?_
  refine wq_iret (pc := 4) dX7_thrown_4 rfl ?_
  exact h
theorem sp_X7_in {μ : nMem} {ε : nEnv} {Q : nOut → nMem → nEnv → Prop} {a lo hi : Int} (r1 : inR a) (r2 : inR lo) (r3 : inR hi) (h1 : lo ≤ a ∧ a ≤ hi → Q (.inl (some (vI 1))) μ ε) (h2 : ¬ (lo ≤ a ∧ a ≤ hi) → Q (.inl (some (vI 0))) μ ε) : Sp mX7_in [vI a, vI lo, vI hi] μ ε Q := by
  refine Sp_of (L := [(0, vI a), (1, vI lo), (2, vI hi)]) (by decide) rfl rfl (Nat.le_of_ble_eq_true rfl) ?_
  refine wq_iload_n (pc := 0) dX7_in_0 rfl rfl ?_
  refine wq_iload_n (pc := 1) dX7_in_1 rfl rfl ?_
  refine wq_icmp_lt (pc := 2) (tgt := 14) dX7_in_2 (by decide) (by first | (unfold inR; omega) | assumption) (by first | (unfold inR; omega) | assumption) (fun c1 => ?_) (fun c1 => ?_)
  · skip
    refine wq_iconst (pc := 14) dX7_in_14 ?_
    refine wq_zret (pc := 15) dX7_in_15 rfl (by first | omega | (simp; done) | assumption) ?_
    first | exact h1 (by omega) | exact h2 (by omega)
  · skip
    refine wq_iload_n (pc := 5) dX7_in_5 rfl rfl ?_
    refine wq_iload_n (pc := 6) dX7_in_6 rfl rfl ?_
    refine wq_icmp_gt (pc := 7) (tgt := 14) dX7_in_7 (by decide) (by first | (unfold inR; omega) | assumption) (by first | (unfold inR; omega) | assumption) (fun c2 => ?_) (fun c2 => ?_)
    · skip
      refine wq_iconst (pc := 14) dX7_in_14 ?_
      refine wq_zret (pc := 15) dX7_in_15 rfl (by first | omega | (simp; done) | assumption) ?_
      first | exact h1 (by omega) | exact h2 (by omega)
    · skip
      refine wq_iconst (pc := 10) dX7_in_10 ?_
      refine wq_goto (pc := 11) (tgt := 15) dX7_in_11 (by decide) ?_
      refine wq_zret (pc := 15) dX7_in_15 rfl (by first | omega | (simp; done) | assumption) ?_
      first | exact h1 (by omega) | exact h2 (by omega)
theorem sp_X7_isDark {μ : nMem} {ε : nEnv} {Q : nOut → nMem → nEnv → Prop}  (hs : SkP skM ε) (r1 : μ 21 21 = 0 ∨ μ 21 21 = 1) (h : Q (.inl (some (vI (μ 21 21)))) (wr μ 21 25 0) ε) : Sp mX7_isDark [vR 21] μ ε Q := by
  refine Sp_of (L := [(0, vR 21)]) (by decide) rfl rfl (Nat.le_of_ble_eq_true rfl) ?_
  refine wq_aload_n (pc := 0) dX7_isDark_0 rfl rfl ?_
  refine wq_iconst (pc := 1) dX7_isDark_1 ?_
  refine wq_putIK (pc := 2) (kk := 25) dX7_isDark_2 hs (gf_X7_127 _ rfl) rfl rfl rfl rfl rfl ?_
  refine wq_aload_n (pc := 5) dX7_isDark_5 rfl rfl ?_
  refine wq_getIK (pc := 6) (kk := 21) dX7_isDark_6 hs (gf_X7_174 _ rfl) rfl rfl rfl rfl ?_
  have e9 : wr μ 21 25 0 21 21 = μ 21 21 := wr_n _ _ (by omega)
  rw [e9]
  refine wq_zret (pc := 9) dX7_isDark_9 rfl (by first | omega | (simp; done) | assumption) ?_
  exact h
theorem sp_X7_isName {μ : nMem} {ε : nEnv} {Q : nOut → nMem → nEnv → Prop} {a : Int} (r1 : inR a) (h1 : 1 ≤ a ∧ a ≤ 99 → Q (.inl (some (vI 1))) μ ε) (h2 : ¬ (1 ≤ a ∧ a ≤ 99) → Q (.inl (some (vI 0))) μ ε) : Sp mX7_isName [vI a] μ ε Q := by
  refine Sp_of (L := [(0, vI a)]) (by decide) rfl rfl (Nat.le_of_ble_eq_true rfl) ?_
  refine wq_iload_n (pc := 0) dX7_isName_0 rfl rfl ?_
  refine wq_iconst (pc := 1) dX7_isName_1 ?_
  refine wq_bipush (pc := 2) dX7_isName_2 (by decide) (by decide) ?_
  refine cS_3 (pc := 4) dX7_isName_4 (cw_X7_210 _ rfl) ⟨by decide, by decide⟩ (Nat.le_of_ble_eq_true rfl) (sp_X7_in (by assumption) (by unfold inR; omega) (by unfold inR; omega) (fun hin => ?_) (fun hin => ?_))
  · skip
    refine kr_s ?_
    refine wq_zret (pc := 7) dX7_isName_7 rfl (by first | omega | (simp; done) | assumption) ?_
    first | exact h1 (by assumption) | exact h2 (by assumption)
  · skip
    refine kr_s ?_
    refine wq_zret (pc := 7) dX7_isName_7 rfl (by first | omega | (simp; done) | assumption) ?_
    first | exact h1 (by assumption) | exact h2 (by assumption)
theorem sp_X7_isBlock {μ : nMem} {ε : nEnv} {Q : nOut → nMem → nEnv → Prop} {b : Int} (hs : SkP skM ε) (r1 : inR b) (h1 : 0 ≤ b ∧ b ≤ 7 → Q (.inl (some (vI 1))) (wr μ 21 25 0) ε) (h2 : ¬ (0 ≤ b ∧ b ≤ 7) → Q (.inl (some (vI 0))) (wr μ 21 25 1) ε) : Sp mX7_isBlock [vR 21, vI b] μ ε Q := by
  refine Sp_of (L := [(0, vR 21), (1, vI b)]) (by decide) rfl rfl (Nat.le_of_ble_eq_true rfl) ?_
  refine wq_aload_n (pc := 0) dX7_isBlock_0 rfl rfl ?_
  refine wq_iload_n (pc := 1) dX7_isBlock_1 rfl rfl ?_
  refine wq_iconst (pc := 2) dX7_isBlock_2 ?_
  refine wq_bipush (pc := 3) dX7_isBlock_3 (by decide) (by decide) ?_
  refine cS_3 (pc := 5) dX7_isBlock_5 (cw_X7_210 _ rfl) ⟨by decide, by decide⟩ (Nat.le_of_ble_eq_true rfl) (sp_X7_in (by assumption) (by unfold inR; omega) (by unfold inR; omega) (fun hin => ?_) (fun hin => ?_))
  · skip
    refine kr_s ?_
    refine wq_if_eq (pc := 8) (tgt := 15) dX7_isBlock_8 (by decide) (by first | (unfold inR; omega) | assumption) (fun c => absurd c (by decide)) (fun _ => ?_)
    refine wq_iconst (pc := 11) dX7_isBlock_11 ?_
    refine wq_goto (pc := 12) (tgt := 16) dX7_isBlock_12 (by decide) ?_
    refine wq_putIK (pc := 16) (kk := 25) dX7_isBlock_16 hs (gf_X7_127 _ rfl) rfl rfl rfl rfl rfl ?_
    refine wq_aload_n (pc := 19) dX7_isBlock_19 rfl rfl ?_
    refine wq_getIK (pc := 20) (kk := 25) dX7_isBlock_20 hs (gf_X7_127 _ rfl) rfl rfl rfl rfl ?_
    rw [wr_s]
    refine wq_if_ne (pc := 23) (tgt := 30) dX7_isBlock_23 (by decide) (by first | (unfold inR; omega) | assumption) (fun c4 => ?_) (fun c4 => ?_)
    · skip
      refine wq_iconst (pc := 30) dX7_isBlock_30 ?_
      refine wq_zret (pc := 31) dX7_isBlock_31 rfl (by first | omega | (simp; done) | assumption) ?_
      first | (exfalso; omega) | exact h1 (by assumption) | exact h2 (by assumption)
    · skip
      refine wq_iconst (pc := 26) dX7_isBlock_26 ?_
      refine wq_goto (pc := 27) (tgt := 31) dX7_isBlock_27 (by decide) ?_
      refine wq_zret (pc := 31) dX7_isBlock_31 rfl (by first | omega | (simp; done) | assumption) ?_
      first | (exfalso; omega) | exact h1 (by assumption) | exact h2 (by assumption)
  · skip
    refine kr_s ?_
    refine wq_if_eq (pc := 8) (tgt := 15) dX7_isBlock_8 (by decide) (by first | (unfold inR; omega) | assumption) (fun _ => ?_) (fun c => absurd c (by decide))
    refine wq_iconst (pc := 15) dX7_isBlock_15 ?_
    refine wq_putIK (pc := 16) (kk := 25) dX7_isBlock_16 hs (gf_X7_127 _ rfl) rfl rfl rfl rfl rfl ?_
    refine wq_aload_n (pc := 19) dX7_isBlock_19 rfl rfl ?_
    refine wq_getIK (pc := 20) (kk := 25) dX7_isBlock_20 hs (gf_X7_127 _ rfl) rfl rfl rfl rfl ?_
    rw [wr_s]
    refine wq_if_ne (pc := 23) (tgt := 30) dX7_isBlock_23 (by decide) (by first | (unfold inR; omega) | assumption) (fun c6 => ?_) (fun c6 => ?_)
    · skip
      refine wq_iconst (pc := 30) dX7_isBlock_30 ?_
      refine wq_zret (pc := 31) dX7_isBlock_31 rfl (by first | omega | (simp; done) | assumption) ?_
      first | (exfalso; omega) | exact h1 (by assumption) | exact h2 (by assumption)
    · skip
      refine wq_iconst (pc := 26) dX7_isBlock_26 ?_
      refine wq_goto (pc := 27) (tgt := 31) dX7_isBlock_27 (by decide) ?_
      refine wq_zret (pc := 31) dX7_isBlock_31 rfl (by first | omega | (simp; done) | assumption) ?_
      first | (exfalso; omega) | exact h1 (by assumption) | exact h2 (by assumption)
theorem sp_X7_isWhole {μ : nMem} {ε : nEnv} {Q : nOut → nMem → nEnv → Prop} {i : Int} (hs : SkP skM ε) (i0 : 0 ≤ i) (i1 : i < 128) (rn : inR (μ 34 (i / 16))) (rp : inR (μ 33 i)) (ru : inR (μ 32 i)) (h1 : i % 16 < μ 34 (i / 16) ∧ μ 33 i = μ 32 i → Q (.inl (some (vI 1))) μ ε) (h2 : ¬ (i % 16 < μ 34 (i / 16) ∧ μ 33 i = μ 32 i) → Q (.inl (some (vI 0))) μ ε) : Sp mX7_isWhole [vR 21, vI i] μ ε Q := by
  refine Sp_of (L := [(0, vR 21), (1, vI i)]) (by decide) rfl rfl (Nat.le_of_ble_eq_true rfl) ?_
  have ri : inR i := by unfold inR; omega
  refine wq_iload_n (pc := 0) dX7_isWhole_0 rfl rfl ?_
  refine wq_bipush (pc := 1) dX7_isWhole_1 (by decide) (by decide) ?_
  refine wq_irem (pc := 3) dX7_isWhole_3 (by omega) (by omega) ?_
  refine wq_aload_n (pc := 4) dX7_isWhole_4 rfl rfl ?_
  refine wq_getS (pc := 5) dX7_isWhole_5 hs (gf_X7_48 _ rfl) rfl rfl rfl rfl rfl ?_
  refine wq_iload_n (pc := 8) dX7_isWhole_8 rfl rfl ?_
  refine wq_bipush (pc := 9) dX7_isWhole_9 (by decide) (by decide) ?_
  refine wq_idiv (pc := 11) dX7_isWhole_11 (by omega) (by omega) ?_
  refine wq_ialdK (pc := 12) dX7_isWhole_12 hs rfl (by omega) (by omega) ?_
  refine wq_icmp_ge (pc := 13) (tgt := 35) dX7_isWhole_13 (by decide) (by first | (unfold inR; omega) | assumption) (by first | (unfold inR; omega) | assumption) (fun c1 => ?_) (fun c1 => ?_)
  · skip
    refine wq_iconst (pc := 35) dX7_isWhole_35 ?_
    refine wq_zret (pc := 36) dX7_isWhole_36 rfl (by first | omega | (simp; done) | assumption) ?_
    first | (exfalso; omega) | exact h1 (by omega) | exact h2 (by omega)
  · skip
    refine wq_aload_n (pc := 16) dX7_isWhole_16 rfl rfl ?_
    refine wq_getS (pc := 17) dX7_isWhole_17 hs (gf_X7_45 _ rfl) rfl rfl rfl rfl rfl ?_
    refine wq_iload_n (pc := 20) dX7_isWhole_20 rfl rfl ?_
    refine wq_ialdK (pc := 21) dX7_isWhole_21 hs rfl (by omega) (by omega) ?_
    refine wq_aload_n (pc := 22) dX7_isWhole_22 rfl rfl ?_
    refine wq_getS (pc := 23) dX7_isWhole_23 hs (gf_X7_42 _ rfl) rfl rfl rfl rfl rfl ?_
    refine wq_iload_n (pc := 26) dX7_isWhole_26 rfl rfl ?_
    refine wq_ialdK (pc := 27) dX7_isWhole_27 hs rfl (by omega) (by omega) ?_
    refine wq_icmp_ne (pc := 28) (tgt := 35) dX7_isWhole_28 (by decide) (by first | (unfold inR; omega) | assumption) (by first | (unfold inR; omega) | assumption) (fun c2 => ?_) (fun c2 => ?_)
    · skip
      refine wq_iconst (pc := 35) dX7_isWhole_35 ?_
      refine wq_zret (pc := 36) dX7_isWhole_36 rfl (by first | omega | (simp; done) | assumption) ?_
      first | (exfalso; omega) | exact h1 (by omega) | exact h2 (by omega)
    · skip
      refine wq_iconst (pc := 31) dX7_isWhole_31 ?_
      refine wq_goto (pc := 32) (tgt := 36) dX7_isWhole_32 (by decide) ?_
      refine wq_zret (pc := 36) dX7_isWhole_36 rfl (by first | omega | (simp; done) | assumption) ?_
      first | (exfalso; omega) | exact h1 (by omega) | exact h2 (by omega)
