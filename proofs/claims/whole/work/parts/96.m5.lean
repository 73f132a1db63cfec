def mSum (μ : nMem) (b : Int) : Prop := ∃ p : Int, 0 ≤ p ∧ p < μ 34 b ∧ μ 22 (16 * b + p) = 3
theorem mSum_n {μ : nMem} {b : Int} (h : mSum μ b) : 1 ≤ μ 34 b := by
  obtain ⟨p, p0, p1, -⟩ := h; omega
theorem sp_X7_hasSummary {μ : nMem} {ε : nEnv} {Q : nOut → nMem → nEnv → Prop} {b : Int} (hs : SkP skM ε) (hr : mR μ) (b0 : 0 ≤ b) (b1 : b < 8) (n0 : 0 ≤ μ 34 b) (n1 : μ 34 b ≤ 16) (h1 : mSum μ b → Q (.inl (some (vI 1))) μ ε) (h2 : ¬ mSum μ b → Q (.inl (some (vI 0))) μ ε) : Sp mX7_hasSummary [vR 21, vI b] μ ε Q := by
  refine Sp_of (L := [(0, vR 21), (1, vI b)]) (by decide) rfl rfl (Nat.le_of_ble_eq_true rfl) ?_
  refine wq_iconst (pc := 0) dX7_hasSummary_0 ?_
  refine wq_istore_n (pc := 1) (L' := [(2, _), (0, _), (1, _)]) dX7_hasSummary_1 rfl rfl (by decide) ?_
  refine wq_bipush (pc := 2) dX7_hasSummary_2 (by decide) (by decide) ?_
  refine wq_iload_n (pc := 4) dX7_hasSummary_4 rfl rfl ?_
  refine wq_imul (pc := 5) dX7_hasSummary_5 ?_
  refine wq_istore_n (pc := 6) (L' := [(3, _), (2, _), (0, _), (1, _)]) dX7_hasSummary_6 rfl rfl (by decide) ?_
  have loop1 : ∀ (n k : Nat), ∀ (w : Int) (j : Int), k ≤ 16 → 16 < k + n → j = 16 * b + (k : Int) → w = 0 ∨ w = 1 → (w ≠ 0 → mSum μ b) → (w = 0 → ∀ p : Int, 0 ≤ p → p < (k : Int) → ¬ μ 22 (16 * b + p) = 3) → wp mX7_hasSummary 7 [(0, vR 21), (1, vI b), (2, vI w), (3, vI j)] [] μ ε Q := by
    intro n
    induction n with
    | zero => intro k w j hk1 hk2 e0 e1 e2 e3; exact absurd hk2 (by omega)
    | succ n ih =>
      intro k w j hk1 hk2 e0 e1 e2 e3
      subst e0
      have rw1 : inR w := by unfold inR; omega
      have rk : inR (16 * b + (k : Int)) := by unfold inR; omega
      have r22 := hr 22 (16 * b + (k : Int)) (by decide) (by decide) (by decide)
      refine wq_iload_n (pc := 7) dX7_hasSummary_7 rfl rfl ?_
      refine wq_bipush (pc := 8) dX7_hasSummary_8 (by decide) (by decide) ?_
      refine wq_iload_n (pc := 10) dX7_hasSummary_10 rfl rfl ?_
      refine wq_imul (pc := 11) dX7_hasSummary_11 ?_
      refine wq_aload_n (pc := 12) dX7_hasSummary_12 rfl rfl ?_
      refine wq_getS (pc := 13) dX7_hasSummary_13 hs (gf_X7_48 _ rfl) rfl rfl rfl rfl rfl ?_
      refine wq_iload_n (pc := 16) dX7_hasSummary_16 rfl rfl ?_
      refine wq_ialdK (pc := 17) dX7_hasSummary_17 hs rfl (by omega) (by omega) ?_
      refine wq_iadd (pc := 18) dX7_hasSummary_18 ?_
      refine wq_icmp_ge (pc := 19) (tgt := 48) dX7_hasSummary_19 (by decide) (by first | (unfold inR; omega) | assumption) (by first | (unfold inR; omega) | assumption) (fun c2 => ?_) (fun c2 => ?_)
      · skip
        refine wq_iload_n (pc := 48) dX7_hasSummary_48 rfl rfl ?_
        refine wq_zret (pc := 49) dX7_hasSummary_49 rfl (by first | omega | (simp; done) | assumption) ?_
        rcases e1 with c | c
        · rw [c]; exact h2 (fun ⟨p, p0, p1, p2⟩ => (e3 c p p0 (by omega)) p2)
        · rw [c]; exact h1 (e2 (by omega))
      · skip
        refine wq_iload_n (pc := 22) dX7_hasSummary_22 rfl rfl ?_
        refine wq_if_ne (pc := 23) (tgt := 36) dX7_hasSummary_23 (by decide) (by first | (unfold inR; omega) | assumption) (fun c3 => ?_) (fun c3 => ?_)
        · skip
          refine wq_iconst (pc := 36) dX7_hasSummary_36 ?_
          refine wq_goto (pc := 37) (tgt := 41) dX7_hasSummary_37 (by decide) ?_
          refine wq_istore_n (pc := 41) (L' := [(2, _), (0, _), (1, _), (3, _)]) dX7_hasSummary_41 rfl rfl (by decide) ?_
          refine wq_iinc (pc := 42) (L' := [(3, _), (2, _), (0, _), (1, _)]) dX7_hasSummary_42 rfl rfl (by decide) ?_
          refine wq_goto (pc := 45) (tgt := 7) dX7_hasSummary_45 (by decide) ?_
          refine wq_sub1 (L' := [(0, _), (1, _), (2, _), (3, _)]) ⟨rfl, rfl, rfl, rfl, trivial⟩ ?_
          first
            | (exfalso; omega)
            | exact ih (k + 1) _ _ (by omega) (by omega) (by omega) (Or.inr rfl) (fun _ => e2 (by assumption)) (fun z => absurd z (by decide))
            | exact ih (k + 1) _ _ (by omega) (by omega) (by omega) (Or.inr rfl) (fun _ => ⟨k, by omega, by omega, by omega⟩) (fun z => absurd z (by decide))
            | exact ih (k + 1) _ _ (by omega) (by omega) (by omega) (Or.inl rfl) (fun z => absurd rfl z) (fun _ p p0 p1 => by
                by_cases c : p = k
                · rw [c]; omega
                · exact e3 (by omega) p p0 (by omega))
        · skip
          refine wq_aload_n (pc := 26) dX7_hasSummary_26 rfl rfl ?_
          refine wq_getS (pc := 27) dX7_hasSummary_27 hs (gf_X7_7 _ rfl) rfl rfl rfl rfl rfl ?_
          refine wq_iload_n (pc := 30) dX7_hasSummary_30 rfl rfl ?_
          refine wq_ialdK (pc := 31) dX7_hasSummary_31 hs rfl (by omega) (by omega) ?_
          refine wq_iconst (pc := 32) dX7_hasSummary_32 ?_
          refine wq_icmp_ne (pc := 33) (tgt := 40) dX7_hasSummary_33 (by decide) (by first | (unfold inR; omega) | assumption) (by first | (unfold inR; omega) | assumption) (fun c4 => ?_) (fun c4 => ?_)
          · skip
            refine wq_iconst (pc := 40) dX7_hasSummary_40 ?_
            refine wq_istore_n (pc := 41) (L' := [(2, _), (0, _), (1, _), (3, _)]) dX7_hasSummary_41 rfl rfl (by decide) ?_
            refine wq_iinc (pc := 42) (L' := [(3, _), (2, _), (0, _), (1, _)]) dX7_hasSummary_42 rfl rfl (by decide) ?_
            refine wq_goto (pc := 45) (tgt := 7) dX7_hasSummary_45 (by decide) ?_
            refine wq_sub1 (L' := [(0, _), (1, _), (2, _), (3, _)]) ⟨rfl, rfl, rfl, rfl, trivial⟩ ?_
            first
              | (exfalso; omega)
              | exact ih (k + 1) _ _ (by omega) (by omega) (by omega) (Or.inr rfl) (fun _ => e2 (by assumption)) (fun z => absurd z (by decide))
              | exact ih (k + 1) _ _ (by omega) (by omega) (by omega) (Or.inr rfl) (fun _ => ⟨k, by omega, by omega, by omega⟩) (fun z => absurd z (by decide))
              | exact ih (k + 1) _ _ (by omega) (by omega) (by omega) (Or.inl rfl) (fun z => absurd rfl z) (fun _ p p0 p1 => by
                  by_cases c : p = k
                  · rw [c]; omega
                  · exact e3 (by omega) p p0 (by omega))
          · skip
            refine wq_iconst (pc := 36) dX7_hasSummary_36 ?_
            refine wq_goto (pc := 37) (tgt := 41) dX7_hasSummary_37 (by decide) ?_
            refine wq_istore_n (pc := 41) (L' := [(2, _), (0, _), (1, _), (3, _)]) dX7_hasSummary_41 rfl rfl (by decide) ?_
            refine wq_iinc (pc := 42) (L' := [(3, _), (2, _), (0, _), (1, _)]) dX7_hasSummary_42 rfl rfl (by decide) ?_
            refine wq_goto (pc := 45) (tgt := 7) dX7_hasSummary_45 (by decide) ?_
            refine wq_sub1 (L' := [(0, _), (1, _), (2, _), (3, _)]) ⟨rfl, rfl, rfl, rfl, trivial⟩ ?_
            first
              | (exfalso; omega)
              | exact ih (k + 1) _ _ (by omega) (by omega) (by omega) (Or.inr rfl) (fun _ => e2 (by assumption)) (fun z => absurd z (by decide))
              | exact ih (k + 1) _ _ (by omega) (by omega) (by omega) (Or.inr rfl) (fun _ => ⟨k, by omega, by omega, by omega⟩) (fun z => absurd z (by decide))
              | exact ih (k + 1) _ _ (by omega) (by omega) (by omega) (Or.inl rfl) (fun z => absurd rfl z) (fun _ p p0 p1 => by
                  by_cases c : p = k
                  · rw [c]; omega
                  · exact e3 (by omega) p p0 (by omega))
  refine wq_sub1 (L' := [(0, _), (1, _), (2, _), (3, _)]) ⟨rfl, rfl, rfl, rfl, trivial⟩ ?_
  exact loop1 17 0 _ _ (by omega) (by omega) (by omega) (Or.inl rfl) (fun z => absurd rfl z) (fun _ p p0 p1 => absurd p1 (by omega))
theorem sp_X7_readOf {μ : nMem} {ε : nEnv} {Q : nOut → nMem → nEnv → Prop} {b s : Int} (hs : SkP skM ε) (hr : mR μ) (b0 : 0 ≤ b) (b1 : b < 8) (n0 : 0 ≤ μ 34 b) (n1 : μ 34 b ≤ 16) (s01 : s = 0 ∨ s = 1) (hu : ∀ i, 0 ≤ μ 32 i ∧ μ 32 i ≤ 2000) (h1 : s ≠ 0 → mSum μ b → ¬ mTorn μ b → Q (.inl (some (vI (1 + μ 32 (16 * b + μ 34 b - 1))))) μ ε) (h2 : ¬ (s ≠ 0 ∧ mSum μ b ∧ ¬ mTorn μ b) → Q (.inl (some (vI (μ 35 b)))) μ ε) : Sp mX7_readOf [vR 21, vI b, vI s] μ ε Q := by
  refine Sp_of (L := [(0, vR 21), (1, vI b), (2, vI s)]) (by decide) rfl rfl (Nat.le_of_ble_eq_true rfl) ?_
  have rs : inR s := by unfold inR; omega
  have hu9 := hu (16 * b + μ 34 b - 1)
  refine wq_iload_n (pc := 0) dX7_readOf_0 rfl rfl ?_
  refine wq_if_eq (pc := 1) (tgt := 41) dX7_readOf_1 (by decide) (by first | (unfold inR; omega) | assumption) (fun c1 => ?_) (fun c1 => ?_)
  · skip
    refine wq_aload_n (pc := 41) dX7_readOf_41 rfl rfl ?_
    refine wq_getS (pc := 42) dX7_readOf_42 hs (gf_X7_51 _ rfl) rfl rfl rfl rfl rfl ?_
    refine wq_iload_n (pc := 45) dX7_readOf_45 rfl rfl ?_
    refine wq_ialdK (pc := 46) dX7_readOf_46 hs rfl (by omega) (by omega) ?_
    refine wq_iret (pc := 47) dX7_readOf_47 rfl ?_
    first | (exfalso; omega) | exact h1 (by assumption) (by assumption) (by assumption) | exact h2 (fun z => by first | exact z.1 (by assumption) | exact absurd z.2.1 (by assumption) | exact z.2.2 (by assumption))
  · skip
    refine wq_aload_n (pc := 4) dX7_readOf_4 rfl rfl ?_
    refine wq_iload_n (pc := 5) dX7_readOf_5 rfl rfl ?_
    refine cVK_1 (pc := 6) dX7_readOf_6 hs (cw_X7_276 _ rfl) (by decide) rfl ⟨by decide, by decide⟩ (Nat.le_of_ble_eq_true rfl) (sp_X7_hasSummary hs hr b0 b1 n0 n1 (fun hsm => ?_) (fun hsm => ?_))
    · skip
      refine kr_s ?_
      have hn1 := mSum_n hsm
      refine wq_if_eq (pc := 9) (tgt := 41) dX7_readOf_9 (by decide) (by first | (unfold inR; omega) | assumption) (fun c => absurd c (by decide)) (fun _ => ?_)
      refine wq_aload_n (pc := 12) dX7_readOf_12 rfl rfl ?_
      refine wq_iload_n (pc := 13) dX7_readOf_13 rfl rfl ?_
      refine cVK_1 (pc := 14) dX7_readOf_14 hs (cw_X7_279 _ rfl) (by decide) rfl ⟨by decide, by decide⟩ (Nat.le_of_ble_eq_true rfl) (sp_X7_hasTorn hs hr b0 b1 n0 n1 (fun htn => ?_) (fun htn => ?_))
      · skip
        refine kr_s ?_
        refine wq_if_ne (pc := 17) (tgt := 41) dX7_readOf_17 (by decide) (by first | (unfold inR; omega) | assumption) (fun _ => ?_) (fun c => absurd c (by decide))
        refine wq_aload_n (pc := 41) dX7_readOf_41 rfl rfl ?_
        refine wq_getS (pc := 42) dX7_readOf_42 hs (gf_X7_51 _ rfl) rfl rfl rfl rfl rfl ?_
        refine wq_iload_n (pc := 45) dX7_readOf_45 rfl rfl ?_
        refine wq_ialdK (pc := 46) dX7_readOf_46 hs rfl (by omega) (by omega) ?_
        refine wq_iret (pc := 47) dX7_readOf_47 rfl ?_
        first | (exfalso; omega) | exact h1 (by assumption) (by assumption) (by assumption) | exact h2 (fun z => by first | exact z.1 (by assumption) | exact absurd z.2.1 (by assumption) | exact z.2.2 (by assumption))
      · skip
        refine kr_s ?_
        refine wq_if_ne (pc := 17) (tgt := 41) dX7_readOf_17 (by decide) (by first | (unfold inR; omega) | assumption) (fun c => absurd c (by decide)) (fun _ => ?_)
        refine wq_iconst (pc := 20) dX7_readOf_20 ?_
        refine wq_aload_n (pc := 21) dX7_readOf_21 rfl rfl ?_
        refine wq_getS (pc := 22) dX7_readOf_22 hs (gf_X7_42 _ rfl) rfl rfl rfl rfl rfl ?_
        refine wq_bipush (pc := 25) dX7_readOf_25 (by decide) (by decide) ?_
        refine wq_iload_n (pc := 27) dX7_readOf_27 rfl rfl ?_
        refine wq_imul (pc := 28) dX7_readOf_28 ?_
        refine wq_aload_n (pc := 29) dX7_readOf_29 rfl rfl ?_
        refine wq_getS (pc := 30) dX7_readOf_30 hs (gf_X7_48 _ rfl) rfl rfl rfl rfl rfl ?_
        refine wq_iload_n (pc := 33) dX7_readOf_33 rfl rfl ?_
        refine wq_ialdK (pc := 34) dX7_readOf_34 hs rfl (by omega) (by omega) ?_
        refine wq_iadd (pc := 35) dX7_readOf_35 ?_
        refine wq_iconst (pc := 36) dX7_readOf_36 ?_
        refine wq_isub (pc := 37) dX7_readOf_37 ?_
        refine wq_ialdK (pc := 38) dX7_readOf_38 hs rfl (by omega) (by omega) ?_
        refine wq_iadd (pc := 39) dX7_readOf_39 ?_
        refine wq_iret (pc := 40) dX7_readOf_40 rfl ?_
        first | (exfalso; omega) | exact h1 (by assumption) (by assumption) (by assumption) | exact h2 (fun z => by first | exact z.1 (by assumption) | exact absurd z.2.1 (by assumption) | exact z.2.2 (by assumption))
    · skip
      refine kr_s ?_
      refine wq_if_eq (pc := 9) (tgt := 41) dX7_readOf_9 (by decide) (by first | (unfold inR; omega) | assumption) (fun _ => ?_) (fun c => absurd c (by decide))
      refine wq_aload_n (pc := 41) dX7_readOf_41 rfl rfl ?_
      refine wq_getS (pc := 42) dX7_readOf_42 hs (gf_X7_51 _ rfl) rfl rfl rfl rfl rfl ?_
      refine wq_iload_n (pc := 45) dX7_readOf_45 rfl rfl ?_
      refine wq_ialdK (pc := 46) dX7_readOf_46 hs rfl (by omega) (by omega) ?_
      refine wq_iret (pc := 47) dX7_readOf_47 rfl ?_
      first | (exfalso; omega) | exact h1 (by assumption) (by assumption) (by assumption) | exact h2 (fun z => by first | exact z.1 (by assumption) | exact absurd z.2.1 (by assumption) | exact z.2.2 (by assumption))
