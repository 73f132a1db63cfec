/-- the reference's ints are ints -/
abbrev mR (μ : nMem) : Prop := ∀ x j, 22 ≤ x → x ≤ 55 → x ≠ 27 → inR (μ x j)
theorem sp_X7_areCopies {μ : nMem} {ε : nEnv} {Q : nOut → nMem → nEnv → Prop} {i j : Int} (hs : SkP skM ε) (hr : mR μ) (i0 : 0 ≤ i) (i1 : i < 128) (j0 : 0 ≤ j) (j1 : j < 128) (h1 : μ 22 i = μ 22 j ∧ μ 23 i = μ 23 j ∧ μ 24 i = μ 24 j → Q (.inl (some (vI 1))) μ ε) (h2 : ¬ (μ 22 i = μ 22 j ∧ μ 23 i = μ 23 j ∧ μ 24 i = μ 24 j) → Q (.inl (some (vI 0))) μ ε) : Sp mX7_areCopies [vR 21, vI i, vI j] μ ε Q := by
  refine Sp_of (L := [(0, vR 21), (1, vI i), (2, vI j)]) (by decide) rfl rfl (Nat.le_of_ble_eq_true rfl) ?_
  have r22i := hr 22 i (by decide) (by decide) (by decide)
  have r22j := hr 22 j (by decide) (by decide) (by decide)
  have r23i := hr 23 i (by decide) (by decide) (by decide)
  have r23j := hr 23 j (by decide) (by decide) (by decide)
  have r24i := hr 24 i (by decide) (by decide) (by decide)
  have r24j := hr 24 j (by decide) (by decide) (by decide)
  refine wq_aload_n (pc := 0) dX7_areCopies_0 rfl rfl ?_
  refine wq_getS (pc := 1) dX7_areCopies_1 hs (gf_X7_7 _ rfl) rfl rfl rfl rfl rfl ?_
  refine wq_iload_n (pc := 4) dX7_areCopies_4 rfl rfl ?_
  refine wq_ialdK (pc := 5) dX7_areCopies_5 hs rfl (by omega) (by omega) ?_
  refine wq_aload_n (pc := 6) dX7_areCopies_6 rfl rfl ?_
  refine wq_getS (pc := 7) dX7_areCopies_7 hs (gf_X7_7 _ rfl) rfl rfl rfl rfl rfl ?_
  refine wq_iload_n (pc := 10) dX7_areCopies_10 rfl rfl ?_
  refine wq_ialdK (pc := 11) dX7_areCopies_11 hs rfl (by omega) (by omega) ?_
  refine wq_icmp_ne (pc := 12) (tgt := 49) dX7_areCopies_12 (by decide) (by first | (unfold inR; omega) | assumption) (by first | (unfold inR; omega) | assumption) (fun c1 => ?_) (fun c1 => ?_)
  · skip
    refine wq_iconst (pc := 49) dX7_areCopies_49 ?_
    refine wq_zret (pc := 50) dX7_areCopies_50 rfl (by first | omega | (simp; done) | assumption) ?_
    first | (exfalso; omega) | exact h1 (by omega) | exact h2 (by omega)
  · skip
    refine wq_aload_n (pc := 15) dX7_areCopies_15 rfl rfl ?_
    refine wq_getS (pc := 16) dX7_areCopies_16 hs (gf_X7_13 _ rfl) rfl rfl rfl rfl rfl ?_
    refine wq_iload_n (pc := 19) dX7_areCopies_19 rfl rfl ?_
    refine wq_ialdK (pc := 20) dX7_areCopies_20 hs rfl (by omega) (by omega) ?_
    refine wq_aload_n (pc := 21) dX7_areCopies_21 rfl rfl ?_
    refine wq_getS (pc := 22) dX7_areCopies_22 hs (gf_X7_13 _ rfl) rfl rfl rfl rfl rfl ?_
    refine wq_iload_n (pc := 25) dX7_areCopies_25 rfl rfl ?_
    refine wq_ialdK (pc := 26) dX7_areCopies_26 hs rfl (by omega) (by omega) ?_
    refine wq_icmp_ne (pc := 27) (tgt := 49) dX7_areCopies_27 (by decide) (by first | (unfold inR; omega) | assumption) (by first | (unfold inR; omega) | assumption) (fun c2 => ?_) (fun c2 => ?_)
    · skip
      refine wq_iconst (pc := 49) dX7_areCopies_49 ?_
      refine wq_zret (pc := 50) dX7_areCopies_50 rfl (by first | omega | (simp; done) | assumption) ?_
      first | (exfalso; omega) | exact h1 (by omega) | exact h2 (by omega)
    · skip
      refine wq_aload_n (pc := 30) dX7_areCopies_30 rfl rfl ?_
      refine wq_getS (pc := 31) dX7_areCopies_31 hs (gf_X7_16 _ rfl) rfl rfl rfl rfl rfl ?_
      refine wq_iload_n (pc := 34) dX7_areCopies_34 rfl rfl ?_
      refine wq_ialdK (pc := 35) dX7_areCopies_35 hs rfl (by omega) (by omega) ?_
      refine wq_aload_n (pc := 36) dX7_areCopies_36 rfl rfl ?_
      refine wq_getS (pc := 37) dX7_areCopies_37 hs (gf_X7_16 _ rfl) rfl rfl rfl rfl rfl ?_
      refine wq_iload_n (pc := 40) dX7_areCopies_40 rfl rfl ?_
      refine wq_ialdK (pc := 41) dX7_areCopies_41 hs rfl (by omega) (by omega) ?_
      refine wq_icmp_ne (pc := 42) (tgt := 49) dX7_areCopies_42 (by decide) (by first | (unfold inR; omega) | assumption) (by first | (unfold inR; omega) | assumption) (fun c3 => ?_) (fun c3 => ?_)
      · skip
        refine wq_iconst (pc := 49) dX7_areCopies_49 ?_
        refine wq_zret (pc := 50) dX7_areCopies_50 rfl (by first | omega | (simp; done) | assumption) ?_
        first | (exfalso; omega) | exact h1 (by omega) | exact h2 (by omega)
      · skip
        refine wq_iconst (pc := 45) dX7_areCopies_45 ?_
        refine wq_goto (pc := 46) (tgt := 50) dX7_areCopies_46 (by decide) ?_
        refine wq_zret (pc := 50) dX7_areCopies_50 rfl (by first | omega | (simp; done) | assumption) ?_
        first | (exfalso; omega) | exact h1 (by omega) | exact h2 (by omega)
theorem sp_X7_asksFor {μ : nMem} {ε : nEnv} {Q : nOut → nMem → nEnv → Prop} {b : Int} (hs : SkP skM ε) (r1 : inR b) (r2 : μ 21 21 = 0 ∨ μ 21 21 = 1) (h0 : μ 21 21 ≠ 0 → Q (.inl (some (vI 0))) (wr μ 21 25 2) ε) (h1 : μ 21 21 = 0 → 0 ≤ b ∧ b ≤ 7 → Q (.inl (some (vI 1))) (wr μ 21 25 0) ε) (h2 : μ 21 21 = 0 → ¬ (0 ≤ b ∧ b ≤ 7) → Q (.inl (some (vI 0))) (wr μ 21 25 1) ε) : Sp mX7_asksFor [vR 21, vI b] μ ε Q := by
  refine Sp_of (L := [(0, vR 21), (1, vI b)]) (by decide) rfl rfl (Nat.le_of_ble_eq_true rfl) ?_
  have r3 : inR (μ 21 21) := by unfold inR; omega
  refine wq_aload_n (pc := 0) dX7_asksFor_0 rfl rfl ?_
  refine wq_aload_n (pc := 1) dX7_asksFor_1 rfl rfl ?_
  refine wq_getIK (pc := 2) (kk := 21) dX7_asksFor_2 hs (gf_X7_174 _ rfl) rfl rfl rfl rfl ?_
  refine wq_if_eq (pc := 5) (tgt := 12) dX7_asksFor_5 (by decide) (by first | (unfold inR; omega) | assumption) (fun c1 => ?_) (fun c1 => ?_)
  · skip
    refine wq_iload_n (pc := 12) dX7_asksFor_12 rfl rfl ?_
    refine wq_iconst (pc := 13) dX7_asksFor_13 ?_
    refine wq_bipush (pc := 14) dX7_asksFor_14 (by decide) (by decide) ?_
    refine cS_3 (pc := 16) dX7_asksFor_16 (cw_X7_210 _ rfl) ⟨by decide, by decide⟩ (Nat.le_of_ble_eq_true rfl) (sp_X7_in (by assumption) (by unfold inR; omega) (by unfold inR; omega) (fun hin => ?_) (fun hin => ?_))
    · skip
      refine kr_s ?_
      refine wq_if_ne (pc := 19) (tgt := 26) dX7_asksFor_19 (by decide) (by first | (unfold inR; omega) | assumption) (fun _ => ?_) (fun c => absurd c (by decide))
      refine wq_iconst (pc := 26) dX7_asksFor_26 ?_
      refine wq_putIK (pc := 27) (kk := 25) dX7_asksFor_27 hs (gf_X7_127 _ rfl) rfl rfl rfl rfl rfl ?_
      refine wq_aload_n (pc := 30) dX7_asksFor_30 rfl rfl ?_
      refine wq_getIK (pc := 31) (kk := 25) dX7_asksFor_31 hs (gf_X7_127 _ rfl) rfl rfl rfl rfl ?_
      rw [wr_s]
      refine wq_if_ne (pc := 34) (tgt := 41) dX7_asksFor_34 (by decide) (by first | (unfold inR; omega) | assumption) (fun c5 => ?_) (fun c5 => ?_)
      · skip
        refine wq_iconst (pc := 41) dX7_asksFor_41 ?_
        refine wq_zret (pc := 42) dX7_asksFor_42 rfl (by first | omega | (simp; done) | assumption) ?_
        first | (exfalso; omega) | exact h0 (by assumption) | exact h1 (by assumption) (by assumption) | exact h2 (by assumption) (by assumption)
      · skip
        refine wq_iconst (pc := 37) dX7_asksFor_37 ?_
        refine wq_goto (pc := 38) (tgt := 42) dX7_asksFor_38 (by decide) ?_
        refine wq_zret (pc := 42) dX7_asksFor_42 rfl (by first | omega | (simp; done) | assumption) ?_
        first | (exfalso; omega) | exact h0 (by assumption) | exact h1 (by assumption) (by assumption) | exact h2 (by assumption) (by assumption)
    · skip
      refine kr_s ?_
      refine wq_if_ne (pc := 19) (tgt := 26) dX7_asksFor_19 (by decide) (by first | (unfold inR; omega) | assumption) (fun c => absurd c (by decide)) (fun _ => ?_)
      refine wq_iconst (pc := 22) dX7_asksFor_22 ?_
      refine wq_goto (pc := 23) (tgt := 27) dX7_asksFor_23 (by decide) ?_
      refine wq_putIK (pc := 27) (kk := 25) dX7_asksFor_27 hs (gf_X7_127 _ rfl) rfl rfl rfl rfl rfl ?_
      refine wq_aload_n (pc := 30) dX7_asksFor_30 rfl rfl ?_
      refine wq_getIK (pc := 31) (kk := 25) dX7_asksFor_31 hs (gf_X7_127 _ rfl) rfl rfl rfl rfl ?_
      rw [wr_s]
      refine wq_if_ne (pc := 34) (tgt := 41) dX7_asksFor_34 (by decide) (by first | (unfold inR; omega) | assumption) (fun c7 => ?_) (fun c7 => ?_)
      · skip
        refine wq_iconst (pc := 41) dX7_asksFor_41 ?_
        refine wq_zret (pc := 42) dX7_asksFor_42 rfl (by first | omega | (simp; done) | assumption) ?_
        first | (exfalso; omega) | exact h0 (by assumption) | exact h1 (by assumption) (by assumption) | exact h2 (by assumption) (by assumption)
      · skip
        refine wq_iconst (pc := 37) dX7_asksFor_37 ?_
        refine wq_goto (pc := 38) (tgt := 42) dX7_asksFor_38 (by decide) ?_
        refine wq_zret (pc := 42) dX7_asksFor_42 rfl (by first | omega | (simp; done) | assumption) ?_
        first | (exfalso; omega) | exact h0 (by assumption) | exact h1 (by assumption) (by assumption) | exact h2 (by assumption) (by assumption)
  · skip
    refine wq_iconst (pc := 8) dX7_asksFor_8 ?_
    refine wq_goto (pc := 9) (tgt := 27) dX7_asksFor_9 (by decide) ?_
    refine wq_putIK (pc := 27) (kk := 25) dX7_asksFor_27 hs (gf_X7_127 _ rfl) rfl rfl rfl rfl rfl ?_
    refine wq_aload_n (pc := 30) dX7_asksFor_30 rfl rfl ?_
    refine wq_getIK (pc := 31) (kk := 25) dX7_asksFor_31 hs (gf_X7_127 _ rfl) rfl rfl rfl rfl ?_
    rw [wr_s]
    refine wq_if_ne (pc := 34) (tgt := 41) dX7_asksFor_34 (by decide) (by first | (unfold inR; omega) | assumption) (fun c8 => ?_) (fun c8 => ?_)
    · skip
      refine wq_iconst (pc := 41) dX7_asksFor_41 ?_
      refine wq_zret (pc := 42) dX7_asksFor_42 rfl (by first | omega | (simp; done) | assumption) ?_
      first | (exfalso; omega) | exact h0 (by assumption) | exact h1 (by assumption) (by assumption) | exact h2 (by assumption) (by assumption)
    · skip
      refine wq_iconst (pc := 37) dX7_asksFor_37 ?_
      refine wq_goto (pc := 38) (tgt := 42) dX7_asksFor_38 (by decide) ?_
      refine wq_zret (pc := 42) dX7_asksFor_42 rfl (by first | omega | (simp; done) | assumption) ?_
      first | (exfalso; omega) | exact h0 (by assumption) | exact h1 (by assumption) (by assumption) | exact h2 (by assumption) (by assumption)
theorem sp_X7_freshNode {μ : nMem} {ε : nEnv} {Q : nOut → nMem → nEnv → Prop}  (hs : SkP skM ε) (c0 : 0 ≤ μ 21 17) (c1 : μ 21 17 < 8) (c2 : 0 ≤ μ 34 (μ 21 17)) (c3 : μ 34 (μ 21 17) ≤ 16) (h : Q (.inl (some (vI (16 * μ 21 17 + μ 34 (μ 21 17))))) μ ε) : Sp mX7_freshNode [vR 21] μ ε Q := by
  refine Sp_of (L := [(0, vR 21)]) (by decide) rfl rfl (Nat.le_of_ble_eq_true rfl) ?_
  refine wq_bipush (pc := 0) dX7_freshNode_0 (by decide) (by decide) ?_
  refine wq_aload_n (pc := 2) dX7_freshNode_2 rfl rfl ?_
  refine wq_getIK (pc := 3) (kk := 17) dX7_freshNode_3 hs (gf_X7_118 _ rfl) rfl rfl rfl rfl ?_
  refine wq_imul (pc := 6) dX7_freshNode_6 ?_
  refine wq_aload_n (pc := 7) dX7_freshNode_7 rfl rfl ?_
  refine wq_getS (pc := 8) dX7_freshNode_8 hs (gf_X7_48 _ rfl) rfl rfl rfl rfl rfl ?_
  refine wq_aload_n (pc := 11) dX7_freshNode_11 rfl rfl ?_
  refine wq_getIK (pc := 12) (kk := 17) dX7_freshNode_12 hs (gf_X7_118 _ rfl) rfl rfl rfl rfl ?_
  refine wq_ialdK (pc := 15) dX7_freshNode_15 hs rfl (by omega) (by omega) ?_
  refine wq_iadd (pc := 16) dX7_freshNode_16 ?_
  refine wq_iret (pc := 17) dX7_freshNode_17 rfl ?_
  exact h
theorem sp_X7_spends {μ : nMem} {ε : nEnv} {Q : nOut → nMem → nEnv → Prop}  (hs : SkP skM ε) (c0 : -1 ≤ μ 21 20) (c1 : μ 21 20 ≤ 1000) (h0 : μ 21 20 = 0 → Q (.inl (some (vI 0))) (wr (wr μ 21 21 1) 21 20 (-1)) ε) (h1 : μ 21 20 ≠ 0 → Q (.inl (some (vI 1))) (wr μ 21 20 (if 0 < μ 21 20 then μ 21 20 - 1 else μ 21 20)) ε) : Sp mX7_spends [vR 21] μ ε Q := by
  refine Sp_of (L := [(0, vR 21)]) (by decide) rfl rfl (Nat.le_of_ble_eq_true rfl) ?_
  refine wq_aload_n (pc := 0) dX7_spends_0 rfl rfl ?_
  refine wq_getIK (pc := 1) (kk := 20) dX7_spends_1 hs (gf_X7_121 _ rfl) rfl rfl rfl rfl ?_
  refine wq_if_ne (pc := 4) (tgt := 19) dX7_spends_4 (by decide) (by first | (unfold inR; omega) | assumption) (fun c1 => ?_) (fun c1 => ?_)
  · skip
    refine wq_aload_n (pc := 19) dX7_spends_19 rfl rfl ?_
    refine wq_dup (pc := 20) dX7_spends_20 rfl ?_
    refine wq_getIK (pc := 21) (kk := 20) dX7_spends_21 hs (gf_X7_121 _ rfl) rfl rfl rfl rfl ?_
    refine wq_aload_n (pc := 24) dX7_spends_24 rfl rfl ?_
    refine wq_getIK (pc := 25) (kk := 20) dX7_spends_25 hs (gf_X7_121 _ rfl) rfl rfl rfl rfl ?_
    refine wq_if_le (pc := 28) (tgt := 35) dX7_spends_28 (by decide) (by first | (unfold inR; omega) | assumption) (fun c2 => ?_) (fun c2 => ?_)
    · skip
      refine wq_iconst (pc := 35) dX7_spends_35 ?_
      refine wq_isub (pc := 36) dX7_spends_36 ?_
      refine wq_putIK (pc := 37) (kk := 20) dX7_spends_37 hs (gf_X7_121 _ rfl) rfl rfl rfl rfl rfl ?_
      refine wq_iconst (pc := 40) dX7_spends_40 ?_
      refine wq_zret (pc := 41) dX7_spends_41 rfl (by first | omega | (simp; done) | assumption) ?_
      first | exact h0 (by omega) | (rw [if_pos (by omega)] at h1; exact h1 (by omega)) | (rw [if_neg (by omega), ← Int.sub_zero (μ 21 20)] at h1; exact h1 (by omega)) | (rw [if_neg (by omega)] at h1; rw [Int.sub_zero]; exact h1 (by omega))
    · skip
      refine wq_iconst (pc := 31) dX7_spends_31 ?_
      refine wq_goto (pc := 32) (tgt := 36) dX7_spends_32 (by decide) ?_
      refine wq_isub (pc := 36) dX7_spends_36 ?_
      refine wq_putIK (pc := 37) (kk := 20) dX7_spends_37 hs (gf_X7_121 _ rfl) rfl rfl rfl rfl rfl ?_
      refine wq_iconst (pc := 40) dX7_spends_40 ?_
      refine wq_zret (pc := 41) dX7_spends_41 rfl (by first | omega | (simp; done) | assumption) ?_
      first | exact h0 (by omega) | (rw [if_pos (by omega)] at h1; exact h1 (by omega)) | (rw [if_neg (by omega), ← Int.sub_zero (μ 21 20)] at h1; exact h1 (by omega)) | (rw [if_neg (by omega)] at h1; rw [Int.sub_zero]; exact h1 (by omega))
  · skip
    refine wq_aload_n (pc := 7) dX7_spends_7 rfl rfl ?_
    refine wq_iconst (pc := 8) dX7_spends_8 ?_
    refine wq_putZK (pc := 9) (kk := 21) dX7_spends_9 hs (gf_X7_174 _ rfl) rfl rfl rfl rfl rfl (by first | omega | (simp; done) | assumption) ?_
    refine wq_aload_n (pc := 12) dX7_spends_12 rfl rfl ?_
    refine wq_iconst (pc := 13) dX7_spends_13 ?_
    refine wq_putIK (pc := 14) (kk := 20) dX7_spends_14 hs (gf_X7_121 _ rfl) rfl rfl rfl rfl rfl ?_
    refine wq_iconst (pc := 17) dX7_spends_17 ?_
    refine wq_zret (pc := 18) dX7_spends_18 rfl (by first | omega | (simp; done) | assumption) ?_
    first | exact h0 (by omega) | (rw [if_pos (by omega)] at h1; exact h1 (by omega)) | (rw [if_neg (by omega), ← Int.sub_zero (μ 21 20)] at h1; exact h1 (by omega)) | (rw [if_neg (by omega)] at h1; rw [Int.sub_zero]; exact h1 (by omega))
