def mBlk (μ : nMem) (i j : Int) : Prop := μ 41 j ≠ 0 ∧ μ 22 j = 2 ∧ μ 23 j = μ 23 i ∧ μ 29 j = μ 29 i ∧ ¬ (μ 24 j < μ 24 i ∨ (μ 24 j = μ 24 i ∧ ¬ j < i))
/-- a present name node with none newer -/
def mCnt (μ : nMem) (i : Int) : Prop := (μ 41 i ≠ 0 ∧ μ 22 i = 2) ∧ ∀ j, 0 ≤ j → j < 128 → ¬ mBlk μ i j
theorem mBlk_s {μ : nMem} {i : Int} {k : Nat} (h : ∀ j, 0 ≤ j → j < (k : Int) → ¬ mBlk μ i j) (hk : ¬ mBlk μ i k) : ∀ j, 0 ≤ j → j < ((k + 1 : Nat) : Int) → ¬ mBlk μ i j := fun j j0 j1 => by
  by_cases c : j = k
  · rw [c]; exact hk
  · exact h j j0 (by omega)
theorem sp_X7_counts {μ : nMem} {ε : nEnv} {Q : nOut → nMem → nEnv → Prop} {i : Int} (hs : SkP skM ε) (hr : mR μ) (i0 : 0 ≤ i) (i1 : i < 128) (h1 : mCnt μ i → Q (.inl (some (vI 1))) μ ε) (h2 : ¬ mCnt μ i → Q (.inl (some (vI 0))) μ ε) : Sp mX7_counts [vR 21, vI i] μ ε Q := by
  refine Sp_of (L := [(0, vR 21), (1, vI i)]) (by decide) rfl rfl (Nat.le_of_ble_eq_true rfl) ?_
  have s41 := hr 41 i (by decide) (by decide) (by decide)
  have s22 := hr 22 i (by decide) (by decide) (by decide)
  have s23 := hr 23 i (by decide) (by decide) (by decide)
  have s29 := hr 29 i (by decide) (by decide) (by decide)
  have s24 := hr 24 i (by decide) (by decide) (by decide)
  have ri : inR i := by unfold inR; omega
  refine wq_aload_n (pc := 0) dX7_counts_0 rfl rfl ?_
  refine wq_getS (pc := 1) dX7_counts_1 hs (gf_X7_69 _ rfl) rfl rfl rfl rfl rfl ?_
  refine wq_iload_n (pc := 4) dX7_counts_4 rfl rfl ?_
  refine wq_zaldK (pc := 5) dX7_counts_5 hs rfl (by omega) (by omega) ?_
  refine wq_if_eq (pc := 6) (tgt := 23) dX7_counts_6 (by decide) (by first | (unfold inR; omega) | assumption) (fun c1 => ?_) (fun c1 => ?_)
  · skip
    refine wq_iconst (pc := 23) dX7_counts_23 ?_
    refine wq_istore_n (pc := 24) (L' := [(2, _), (0, _), (1, _)]) dX7_counts_24 rfl rfl (by decide) ?_
    refine wq_iconst (pc := 25) dX7_counts_25 ?_
    refine wq_istore_n (pc := 26) (L' := [(3, _), (2, _), (0, _), (1, _)]) dX7_counts_26 rfl rfl (by decide) ?_
    have loop2 : ∀ (n k : Nat), ∀ (w : Int) (j : Int), k ≤ 128 → 128 < k + n → j = (k : Int) → w = 0 ∨ w = 1 → (w ≠ 0 → (μ 41 i ≠ 0 ∧ μ 22 i = 2) ∧ ∀ j : Int, 0 ≤ j → j < (k : Int) → ¬ mBlk μ i j) → (w = 0 → ¬ mCnt μ i) → wp mX7_counts 27 [(0, vR 21), (1, vI i), (2, vI w), (3, vI j)] [] μ ε Q := by
      intro n
      induction n with
      | zero => intro k w j hk1 hk2 e0 e1 e2 e3; exact absurd hk2 (by omega)
      | succ n ih =>
        intro k w j hk1 hk2 e0 e1 e2 e3
        subst e0
        have r41 := hr 41 k (by decide) (by decide) (by decide)
        have r22 := hr 22 k (by decide) (by decide) (by decide)
        have r23 := hr 23 k (by decide) (by decide) (by decide)
        have r29 := hr 29 k (by decide) (by decide) (by decide)
        have r24 := hr 24 k (by decide) (by decide) (by decide)
        have rw1 : inR w := by unfold inR; omega
        have rk : inR (k : Int) := by unfold inR; omega
        refine wq_iload_n (pc := 27) dX7_counts_27 rfl rfl ?_
        refine wq_sipush (pc := 28) dX7_counts_28 (by decide) (by decide) ?_
        refine wq_icmp_ge (pc := 31) (tgt := 134) dX7_counts_31 (by decide) (by first | (unfold inR; omega) | assumption) (by first | (unfold inR; omega) | assumption) (fun c3 => ?_) (fun c3 => ?_)
        · skip
          refine wq_iload_n (pc := 134) dX7_counts_134 rfl rfl ?_
          refine wq_zret (pc := 135) dX7_counts_135 rfl (by first | omega | (simp; done) | assumption) ?_
          rcases e1 with c | c
          · rw [c]; exact h2 (e3 c)
          · have hc : ¬ w = 0 := by omega
            rw [c]; exact h1 ⟨(e2 hc).1, fun j j0 j1 => (e2 hc).2 j j0 (by omega)⟩
        · skip
          refine wq_iload_n (pc := 34) dX7_counts_34 rfl rfl ?_
          refine wq_if_eq (pc := 35) (tgt := 134) dX7_counts_35 (by decide) (by first | (unfold inR; omega) | assumption) (fun c4 => ?_) (fun c4 => ?_)
          · skip
            refine wq_iload_n (pc := 134) dX7_counts_134 rfl rfl ?_
            refine wq_zret (pc := 135) dX7_counts_135 rfl (by first | omega | (simp; done) | assumption) ?_
            rcases e1 with c | c
            · rw [c]; exact h2 (e3 c)
            · have hc : ¬ w = 0 := by omega
              rw [c]; exact h1 ⟨(e2 hc).1, fun j j0 j1 => (e2 hc).2 j j0 (by omega)⟩
          · skip
            refine wq_aload_n (pc := 38) dX7_counts_38 rfl rfl ?_
            refine wq_getS (pc := 39) dX7_counts_39 hs (gf_X7_69 _ rfl) rfl rfl rfl rfl rfl ?_
            refine wq_iload_n (pc := 42) dX7_counts_42 rfl rfl ?_
            refine wq_zaldK (pc := 43) dX7_counts_43 hs rfl (by omega) (by omega) ?_
            refine wq_if_eq (pc := 44) (tgt := 128) dX7_counts_44 (by decide) (by first | (unfold inR; omega) | assumption) (fun c5 => ?_) (fun c5 => ?_)
            · skip
              refine wq_iinc (pc := 128) (L' := [(3, _), (0, _), (1, _), (2, _)]) dX7_counts_128 rfl rfl (by decide) ?_
              refine wq_goto (pc := 131) (tgt := 27) dX7_counts_131 (by decide) ?_
              refine wq_sub1 (L' := [(0, _), (1, _), (2, _), (3, _)]) ⟨rfl, rfl, rfl, rfl, trivial⟩ ?_
              first
                | exact ih (k + 1) _ _ (by omega) (by omega) (by omega) e1 (fun z => ⟨(e2 z).1, mBlk_s (e2 z).2 (by unfold mBlk; omega)⟩) e3
                | exact ih (k + 1) _ _ (by omega) (by omega) (by omega) (Or.inr rfl) (fun _ => ⟨(e2 (by assumption)).1, mBlk_s (e2 (by assumption)).2 (by unfold mBlk; omega)⟩) (fun z => absurd z (by decide))
                | exact ih (k + 1) _ _ (by omega) (by omega) (by omega) (Or.inl rfl) (fun z => absurd rfl z) (fun _ z => z.2 k (by omega) (by omega) (by unfold mBlk; omega))
            · skip
              refine wq_aload_n (pc := 47) dX7_counts_47 rfl rfl ?_
              refine wq_getS (pc := 48) dX7_counts_48 hs (gf_X7_7 _ rfl) rfl rfl rfl rfl rfl ?_
              refine wq_iload_n (pc := 51) dX7_counts_51 rfl rfl ?_
              refine wq_ialdK (pc := 52) dX7_counts_52 hs rfl (by omega) (by omega) ?_
              refine wq_iconst (pc := 53) dX7_counts_53 ?_
              refine wq_icmp_ne (pc := 54) (tgt := 128) dX7_counts_54 (by decide) (by first | (unfold inR; omega) | assumption) (by first | (unfold inR; omega) | assumption) (fun c6 => ?_) (fun c6 => ?_)
              · skip
                refine wq_iinc (pc := 128) (L' := [(3, _), (0, _), (1, _), (2, _)]) dX7_counts_128 rfl rfl (by decide) ?_
                refine wq_goto (pc := 131) (tgt := 27) dX7_counts_131 (by decide) ?_
                refine wq_sub1 (L' := [(0, _), (1, _), (2, _), (3, _)]) ⟨rfl, rfl, rfl, rfl, trivial⟩ ?_
                first
                  | exact ih (k + 1) _ _ (by omega) (by omega) (by omega) e1 (fun z => ⟨(e2 z).1, mBlk_s (e2 z).2 (by unfold mBlk; omega)⟩) e3
                  | exact ih (k + 1) _ _ (by omega) (by omega) (by omega) (Or.inr rfl) (fun _ => ⟨(e2 (by assumption)).1, mBlk_s (e2 (by assumption)).2 (by unfold mBlk; omega)⟩) (fun z => absurd z (by decide))
                  | exact ih (k + 1) _ _ (by omega) (by omega) (by omega) (Or.inl rfl) (fun z => absurd rfl z) (fun _ z => z.2 k (by omega) (by omega) (by unfold mBlk; omega))
              · skip
                refine wq_aload_n (pc := 57) dX7_counts_57 rfl rfl ?_
                refine wq_getS (pc := 58) dX7_counts_58 hs (gf_X7_13 _ rfl) rfl rfl rfl rfl rfl ?_
                refine wq_iload_n (pc := 61) dX7_counts_61 rfl rfl ?_
                refine wq_ialdK (pc := 62) dX7_counts_62 hs rfl (by omega) (by omega) ?_
                refine wq_aload_n (pc := 63) dX7_counts_63 rfl rfl ?_
                refine wq_getS (pc := 64) dX7_counts_64 hs (gf_X7_13 _ rfl) rfl rfl rfl rfl rfl ?_
                refine wq_iload_n (pc := 67) dX7_counts_67 rfl rfl ?_
                refine wq_ialdK (pc := 68) dX7_counts_68 hs rfl (by omega) (by omega) ?_
                refine wq_icmp_ne (pc := 69) (tgt := 128) dX7_counts_69 (by decide) (by first | (unfold inR; omega) | assumption) (by first | (unfold inR; omega) | assumption) (fun c7 => ?_) (fun c7 => ?_)
                · skip
                  refine wq_iinc (pc := 128) (L' := [(3, _), (0, _), (1, _), (2, _)]) dX7_counts_128 rfl rfl (by decide) ?_
                  refine wq_goto (pc := 131) (tgt := 27) dX7_counts_131 (by decide) ?_
                  refine wq_sub1 (L' := [(0, _), (1, _), (2, _), (3, _)]) ⟨rfl, rfl, rfl, rfl, trivial⟩ ?_
                  first
                    | exact ih (k + 1) _ _ (by omega) (by omega) (by omega) e1 (fun z => ⟨(e2 z).1, mBlk_s (e2 z).2 (by unfold mBlk; omega)⟩) e3
                    | exact ih (k + 1) _ _ (by omega) (by omega) (by omega) (Or.inr rfl) (fun _ => ⟨(e2 (by assumption)).1, mBlk_s (e2 (by assumption)).2 (by unfold mBlk; omega)⟩) (fun z => absurd z (by decide))
                    | exact ih (k + 1) _ _ (by omega) (by omega) (by omega) (Or.inl rfl) (fun z => absurd rfl z) (fun _ z => z.2 k (by omega) (by omega) (by unfold mBlk; omega))
                · skip
                  refine wq_aload_n (pc := 72) dX7_counts_72 rfl rfl ?_
                  refine wq_getS (pc := 73) dX7_counts_73 hs (gf_X7_32 _ rfl) rfl rfl rfl rfl rfl ?_
                  refine wq_iload_n (pc := 76) dX7_counts_76 rfl rfl ?_
                  refine wq_ialdK (pc := 77) dX7_counts_77 hs rfl (by omega) (by omega) ?_
                  refine wq_aload_n (pc := 78) dX7_counts_78 rfl rfl ?_
                  refine wq_getS (pc := 79) dX7_counts_79 hs (gf_X7_32 _ rfl) rfl rfl rfl rfl rfl ?_
                  refine wq_iload_n (pc := 82) dX7_counts_82 rfl rfl ?_
                  refine wq_ialdK (pc := 83) dX7_counts_83 hs rfl (by omega) (by omega) ?_
                  refine wq_icmp_ne (pc := 84) (tgt := 128) dX7_counts_84 (by decide) (by first | (unfold inR; omega) | assumption) (by first | (unfold inR; omega) | assumption) (fun c8 => ?_) (fun c8 => ?_)
                  · skip
                    refine wq_iinc (pc := 128) (L' := [(3, _), (0, _), (1, _), (2, _)]) dX7_counts_128 rfl rfl (by decide) ?_
                    refine wq_goto (pc := 131) (tgt := 27) dX7_counts_131 (by decide) ?_
                    refine wq_sub1 (L' := [(0, _), (1, _), (2, _), (3, _)]) ⟨rfl, rfl, rfl, rfl, trivial⟩ ?_
                    first
                      | exact ih (k + 1) _ _ (by omega) (by omega) (by omega) e1 (fun z => ⟨(e2 z).1, mBlk_s (e2 z).2 (by unfold mBlk; omega)⟩) e3
                      | exact ih (k + 1) _ _ (by omega) (by omega) (by omega) (Or.inr rfl) (fun _ => ⟨(e2 (by assumption)).1, mBlk_s (e2 (by assumption)).2 (by unfold mBlk; omega)⟩) (fun z => absurd z (by decide))
                      | exact ih (k + 1) _ _ (by omega) (by omega) (by omega) (Or.inl rfl) (fun z => absurd rfl z) (fun _ z => z.2 k (by omega) (by omega) (by unfold mBlk; omega))
                  · skip
                    refine wq_aload_n (pc := 87) dX7_counts_87 rfl rfl ?_
                    refine wq_getS (pc := 88) dX7_counts_88 hs (gf_X7_16 _ rfl) rfl rfl rfl rfl rfl ?_
                    refine wq_iload_n (pc := 91) dX7_counts_91 rfl rfl ?_
                    refine wq_ialdK (pc := 92) dX7_counts_92 hs rfl (by omega) (by omega) ?_
                    refine wq_aload_n (pc := 93) dX7_counts_93 rfl rfl ?_
                    refine wq_getS (pc := 94) dX7_counts_94 hs (gf_X7_16 _ rfl) rfl rfl rfl rfl rfl ?_
                    refine wq_iload_n (pc := 97) dX7_counts_97 rfl rfl ?_
                    refine wq_ialdK (pc := 98) dX7_counts_98 hs rfl (by omega) (by omega) ?_
                    refine wq_icmp_lt (pc := 99) (tgt := 122) dX7_counts_99 (by decide) (by first | (unfold inR; omega) | assumption) (by first | (unfold inR; omega) | assumption) (fun c9 => ?_) (fun c9 => ?_)
                    · skip
                      refine wq_iconst (pc := 122) dX7_counts_122 ?_
                      refine wq_goto (pc := 123) (tgt := 127) dX7_counts_123 (by decide) ?_
                      refine wq_istore_n (pc := 127) (L' := [(2, _), (0, _), (1, _), (3, _)]) dX7_counts_127 rfl rfl (by decide) ?_
                      refine wq_iinc (pc := 128) (L' := [(3, _), (2, _), (0, _), (1, _)]) dX7_counts_128 rfl rfl (by decide) ?_
                      refine wq_goto (pc := 131) (tgt := 27) dX7_counts_131 (by decide) ?_
                      refine wq_sub1 (L' := [(0, _), (1, _), (2, _), (3, _)]) ⟨rfl, rfl, rfl, rfl, trivial⟩ ?_
                      first
                        | exact ih (k + 1) _ _ (by omega) (by omega) (by omega) e1 (fun z => ⟨(e2 z).1, mBlk_s (e2 z).2 (by unfold mBlk; omega)⟩) e3
                        | exact ih (k + 1) _ _ (by omega) (by omega) (by omega) (Or.inr rfl) (fun _ => ⟨(e2 (by assumption)).1, mBlk_s (e2 (by assumption)).2 (by unfold mBlk; omega)⟩) (fun z => absurd z (by decide))
                        | exact ih (k + 1) _ _ (by omega) (by omega) (by omega) (Or.inl rfl) (fun z => absurd rfl z) (fun _ z => z.2 k (by omega) (by omega) (by unfold mBlk; omega))
                    · skip
                      refine wq_aload_n (pc := 102) dX7_counts_102 rfl rfl ?_
                      refine wq_getS (pc := 103) dX7_counts_103 hs (gf_X7_16 _ rfl) rfl rfl rfl rfl rfl ?_
                      refine wq_iload_n (pc := 106) dX7_counts_106 rfl rfl ?_
                      refine wq_ialdK (pc := 107) dX7_counts_107 hs rfl (by omega) (by omega) ?_
                      refine wq_aload_n (pc := 108) dX7_counts_108 rfl rfl ?_
                      refine wq_getS (pc := 109) dX7_counts_109 hs (gf_X7_16 _ rfl) rfl rfl rfl rfl rfl ?_
                      refine wq_iload_n (pc := 112) dX7_counts_112 rfl rfl ?_
                      refine wq_ialdK (pc := 113) dX7_counts_113 hs rfl (by omega) (by omega) ?_
                      refine wq_icmp_ne (pc := 114) (tgt := 126) dX7_counts_114 (by decide) (by first | (unfold inR; omega) | assumption) (by first | (unfold inR; omega) | assumption) (fun c10 => ?_) (fun c10 => ?_)
                      · skip
                        refine wq_iconst (pc := 126) dX7_counts_126 ?_
                        refine wq_istore_n (pc := 127) (L' := [(2, _), (0, _), (1, _), (3, _)]) dX7_counts_127 rfl rfl (by decide) ?_
                        refine wq_iinc (pc := 128) (L' := [(3, _), (2, _), (0, _), (1, _)]) dX7_counts_128 rfl rfl (by decide) ?_
                        refine wq_goto (pc := 131) (tgt := 27) dX7_counts_131 (by decide) ?_
                        refine wq_sub1 (L' := [(0, _), (1, _), (2, _), (3, _)]) ⟨rfl, rfl, rfl, rfl, trivial⟩ ?_
                        first
                          | exact ih (k + 1) _ _ (by omega) (by omega) (by omega) e1 (fun z => ⟨(e2 z).1, mBlk_s (e2 z).2 (by unfold mBlk; omega)⟩) e3
                          | exact ih (k + 1) _ _ (by omega) (by omega) (by omega) (Or.inr rfl) (fun _ => ⟨(e2 (by assumption)).1, mBlk_s (e2 (by assumption)).2 (by unfold mBlk; omega)⟩) (fun z => absurd z (by decide))
                          | exact ih (k + 1) _ _ (by omega) (by omega) (by omega) (Or.inl rfl) (fun z => absurd rfl z) (fun _ z => z.2 k (by omega) (by omega) (by unfold mBlk; omega))
                      · skip
                        refine wq_iload_n (pc := 117) dX7_counts_117 rfl rfl ?_
                        refine wq_iload_n (pc := 118) dX7_counts_118 rfl rfl ?_
                        refine wq_icmp_lt (pc := 119) (tgt := 126) dX7_counts_119 (by decide) (by first | (unfold inR; omega) | assumption) (by first | (unfold inR; omega) | assumption) (fun c11 => ?_) (fun c11 => ?_)
                        · skip
                          refine wq_iconst (pc := 126) dX7_counts_126 ?_
                          refine wq_istore_n (pc := 127) (L' := [(2, _), (0, _), (1, _), (3, _)]) dX7_counts_127 rfl rfl (by decide) ?_
                          refine wq_iinc (pc := 128) (L' := [(3, _), (2, _), (0, _), (1, _)]) dX7_counts_128 rfl rfl (by decide) ?_
                          refine wq_goto (pc := 131) (tgt := 27) dX7_counts_131 (by decide) ?_
                          refine wq_sub1 (L' := [(0, _), (1, _), (2, _), (3, _)]) ⟨rfl, rfl, rfl, rfl, trivial⟩ ?_
                          first
                            | exact ih (k + 1) _ _ (by omega) (by omega) (by omega) e1 (fun z => ⟨(e2 z).1, mBlk_s (e2 z).2 (by unfold mBlk; omega)⟩) e3
                            | exact ih (k + 1) _ _ (by omega) (by omega) (by omega) (Or.inr rfl) (fun _ => ⟨(e2 (by assumption)).1, mBlk_s (e2 (by assumption)).2 (by unfold mBlk; omega)⟩) (fun z => absurd z (by decide))
                            | exact ih (k + 1) _ _ (by omega) (by omega) (by omega) (Or.inl rfl) (fun z => absurd rfl z) (fun _ z => z.2 k (by omega) (by omega) (by unfold mBlk; omega))
                        · skip
                          refine wq_iconst (pc := 122) dX7_counts_122 ?_
                          refine wq_goto (pc := 123) (tgt := 127) dX7_counts_123 (by decide) ?_
                          refine wq_istore_n (pc := 127) (L' := [(2, _), (0, _), (1, _), (3, _)]) dX7_counts_127 rfl rfl (by decide) ?_
                          refine wq_iinc (pc := 128) (L' := [(3, _), (2, _), (0, _), (1, _)]) dX7_counts_128 rfl rfl (by decide) ?_
                          refine wq_goto (pc := 131) (tgt := 27) dX7_counts_131 (by decide) ?_
                          refine wq_sub1 (L' := [(0, _), (1, _), (2, _), (3, _)]) ⟨rfl, rfl, rfl, rfl, trivial⟩ ?_
                          first
                            | exact ih (k + 1) _ _ (by omega) (by omega) (by omega) e1 (fun z => ⟨(e2 z).1, mBlk_s (e2 z).2 (by unfold mBlk; omega)⟩) e3
                            | exact ih (k + 1) _ _ (by omega) (by omega) (by omega) (Or.inr rfl) (fun _ => ⟨(e2 (by assumption)).1, mBlk_s (e2 (by assumption)).2 (by unfold mBlk; omega)⟩) (fun z => absurd z (by decide))
                            | exact ih (k + 1) _ _ (by omega) (by omega) (by omega) (Or.inl rfl) (fun z => absurd rfl z) (fun _ z => z.2 k (by omega) (by omega) (by unfold mBlk; omega))
    refine wq_sub1 (L' := [(0, _), (1, _), (2, _), (3, _)]) ⟨rfl, rfl, rfl, rfl, trivial⟩ ?_
    exact loop2 129 0 _ _ (by omega) (by omega) (by omega) (by omega) (fun z => ⟨by first | omega | exact absurd rfl z, fun j j0 j1 => absurd j1 (by omega)⟩) (fun z q => by have := q.1; omega)
  · skip
    refine wq_aload_n (pc := 9) dX7_counts_9 rfl rfl ?_
    refine wq_getS (pc := 10) dX7_counts_10 hs (gf_X7_7 _ rfl) rfl rfl rfl rfl rfl ?_
    refine wq_iload_n (pc := 13) dX7_counts_13 rfl rfl ?_
    refine wq_ialdK (pc := 14) dX7_counts_14 hs rfl (by omega) (by omega) ?_
    refine wq_iconst (pc := 15) dX7_counts_15 ?_
    refine wq_icmp_ne (pc := 16) (tgt := 23) dX7_counts_16 (by decide) (by first | (unfold inR; omega) | assumption) (by first | (unfold inR; omega) | assumption) (fun c12 => ?_) (fun c12 => ?_)
    · skip
      refine wq_iconst (pc := 23) dX7_counts_23 ?_
      refine wq_istore_n (pc := 24) (L' := [(2, _), (0, _), (1, _)]) dX7_counts_24 rfl rfl (by decide) ?_
      refine wq_iconst (pc := 25) dX7_counts_25 ?_
      refine wq_istore_n (pc := 26) (L' := [(3, _), (2, _), (0, _), (1, _)]) dX7_counts_26 rfl rfl (by decide) ?_
      have loop13 : ∀ (n k : Nat), ∀ (w : Int) (j : Int), k ≤ 128 → 128 < k + n → j = (k : Int) → w = 0 ∨ w = 1 → (w ≠ 0 → (μ 41 i ≠ 0 ∧ μ 22 i = 2) ∧ ∀ j : Int, 0 ≤ j → j < (k : Int) → ¬ mBlk μ i j) → (w = 0 → ¬ mCnt μ i) → wp mX7_counts 27 [(0, vR 21), (1, vI i), (2, vI w), (3, vI j)] [] μ ε Q := by
        intro n
        induction n with
        | zero => intro k w j hk1 hk2 e0 e1 e2 e3; exact absurd hk2 (by omega)
        | succ n ih =>
          intro k w j hk1 hk2 e0 e1 e2 e3
          subst e0
          have r41 := hr 41 k (by decide) (by decide) (by decide)
          have r22 := hr 22 k (by decide) (by decide) (by decide)
          have r23 := hr 23 k (by decide) (by decide) (by decide)
          have r29 := hr 29 k (by decide) (by decide) (by decide)
          have r24 := hr 24 k (by decide) (by decide) (by decide)
          have rw1 : inR w := by unfold inR; omega
          have rk : inR (k : Int) := by unfold inR; omega
          refine wq_iload_n (pc := 27) dX7_counts_27 rfl rfl ?_
          refine wq_sipush (pc := 28) dX7_counts_28 (by decide) (by decide) ?_
          refine wq_icmp_ge (pc := 31) (tgt := 134) dX7_counts_31 (by decide) (by first | (unfold inR; omega) | assumption) (by first | (unfold inR; omega) | assumption) (fun c14 => ?_) (fun c14 => ?_)
          · skip
            refine wq_iload_n (pc := 134) dX7_counts_134 rfl rfl ?_
            refine wq_zret (pc := 135) dX7_counts_135 rfl (by first | omega | (simp; done) | assumption) ?_
            rcases e1 with c | c
            · rw [c]; exact h2 (e3 c)
            · have hc : ¬ w = 0 := by omega
              rw [c]; exact h1 ⟨(e2 hc).1, fun j j0 j1 => (e2 hc).2 j j0 (by omega)⟩
          · skip
            refine wq_iload_n (pc := 34) dX7_counts_34 rfl rfl ?_
            refine wq_if_eq (pc := 35) (tgt := 134) dX7_counts_35 (by decide) (by first | (unfold inR; omega) | assumption) (fun c15 => ?_) (fun c15 => ?_)
            · skip
              refine wq_iload_n (pc := 134) dX7_counts_134 rfl rfl ?_
              refine wq_zret (pc := 135) dX7_counts_135 rfl (by first | omega | (simp; done) | assumption) ?_
              rcases e1 with c | c
              · rw [c]; exact h2 (e3 c)
              · have hc : ¬ w = 0 := by omega
                rw [c]; exact h1 ⟨(e2 hc).1, fun j j0 j1 => (e2 hc).2 j j0 (by omega)⟩
            · skip
              refine wq_aload_n (pc := 38) dX7_counts_38 rfl rfl ?_
              refine wq_getS (pc := 39) dX7_counts_39 hs (gf_X7_69 _ rfl) rfl rfl rfl rfl rfl ?_
              refine wq_iload_n (pc := 42) dX7_counts_42 rfl rfl ?_
              refine wq_zaldK (pc := 43) dX7_counts_43 hs rfl (by omega) (by omega) ?_
              refine wq_if_eq (pc := 44) (tgt := 128) dX7_counts_44 (by decide) (by first | (unfold inR; omega) | assumption) (fun c16 => ?_) (fun c16 => ?_)
              · skip
                refine wq_iinc (pc := 128) (L' := [(3, _), (0, _), (1, _), (2, _)]) dX7_counts_128 rfl rfl (by decide) ?_
                refine wq_goto (pc := 131) (tgt := 27) dX7_counts_131 (by decide) ?_
                refine wq_sub1 (L' := [(0, _), (1, _), (2, _), (3, _)]) ⟨rfl, rfl, rfl, rfl, trivial⟩ ?_
                first
                  | exact ih (k + 1) _ _ (by omega) (by omega) (by omega) e1 (fun z => ⟨(e2 z).1, mBlk_s (e2 z).2 (by unfold mBlk; omega)⟩) e3
                  | exact ih (k + 1) _ _ (by omega) (by omega) (by omega) (Or.inr rfl) (fun _ => ⟨(e2 (by assumption)).1, mBlk_s (e2 (by assumption)).2 (by unfold mBlk; omega)⟩) (fun z => absurd z (by decide))
                  | exact ih (k + 1) _ _ (by omega) (by omega) (by omega) (Or.inl rfl) (fun z => absurd rfl z) (fun _ z => z.2 k (by omega) (by omega) (by unfold mBlk; omega))
              · skip
                refine wq_aload_n (pc := 47) dX7_counts_47 rfl rfl ?_
                refine wq_getS (pc := 48) dX7_counts_48 hs (gf_X7_7 _ rfl) rfl rfl rfl rfl rfl ?_
                refine wq_iload_n (pc := 51) dX7_counts_51 rfl rfl ?_
                refine wq_ialdK (pc := 52) dX7_counts_52 hs rfl (by omega) (by omega) ?_
                refine wq_iconst (pc := 53) dX7_counts_53 ?_
                refine wq_icmp_ne (pc := 54) (tgt := 128) dX7_counts_54 (by decide) (by first | (unfold inR; omega) | assumption) (by first | (unfold inR; omega) | assumption) (fun c17 => ?_) (fun c17 => ?_)
                · skip
                  refine wq_iinc (pc := 128) (L' := [(3, _), (0, _), (1, _), (2, _)]) dX7_counts_128 rfl rfl (by decide) ?_
                  refine wq_goto (pc := 131) (tgt := 27) dX7_counts_131 (by decide) ?_
                  refine wq_sub1 (L' := [(0, _), (1, _), (2, _), (3, _)]) ⟨rfl, rfl, rfl, rfl, trivial⟩ ?_
                  first
                    | exact ih (k + 1) _ _ (by omega) (by omega) (by omega) e1 (fun z => ⟨(e2 z).1, mBlk_s (e2 z).2 (by unfold mBlk; omega)⟩) e3
                    | exact ih (k + 1) _ _ (by omega) (by omega) (by omega) (Or.inr rfl) (fun _ => ⟨(e2 (by assumption)).1, mBlk_s (e2 (by assumption)).2 (by unfold mBlk; omega)⟩) (fun z => absurd z (by decide))
                    | exact ih (k + 1) _ _ (by omega) (by omega) (by omega) (Or.inl rfl) (fun z => absurd rfl z) (fun _ z => z.2 k (by omega) (by omega) (by unfold mBlk; omega))
                · skip
                  refine wq_aload_n (pc := 57) dX7_counts_57 rfl rfl ?_
                  refine wq_getS (pc := 58) dX7_counts_58 hs (gf_X7_13 _ rfl) rfl rfl rfl rfl rfl ?_
                  refine wq_iload_n (pc := 61) dX7_counts_61 rfl rfl ?_
                  refine wq_ialdK (pc := 62) dX7_counts_62 hs rfl (by omega) (by omega) ?_
                  refine wq_aload_n (pc := 63) dX7_counts_63 rfl rfl ?_
                  refine wq_getS (pc := 64) dX7_counts_64 hs (gf_X7_13 _ rfl) rfl rfl rfl rfl rfl ?_
                  refine wq_iload_n (pc := 67) dX7_counts_67 rfl rfl ?_
                  refine wq_ialdK (pc := 68) dX7_counts_68 hs rfl (by omega) (by omega) ?_
                  refine wq_icmp_ne (pc := 69) (tgt := 128) dX7_counts_69 (by decide) (by first | (unfold inR; omega) | assumption) (by first | (unfold inR; omega) | assumption) (fun c18 => ?_) (fun c18 => ?_)
                  · skip
                    refine wq_iinc (pc := 128) (L' := [(3, _), (0, _), (1, _), (2, _)]) dX7_counts_128 rfl rfl (by decide) ?_
                    refine wq_goto (pc := 131) (tgt := 27) dX7_counts_131 (by decide) ?_
                    refine wq_sub1 (L' := [(0, _), (1, _), (2, _), (3, _)]) ⟨rfl, rfl, rfl, rfl, trivial⟩ ?_
                    first
                      | exact ih (k + 1) _ _ (by omega) (by omega) (by omega) e1 (fun z => ⟨(e2 z).1, mBlk_s (e2 z).2 (by unfold mBlk; omega)⟩) e3
                      | exact ih (k + 1) _ _ (by omega) (by omega) (by omega) (Or.inr rfl) (fun _ => ⟨(e2 (by assumption)).1, mBlk_s (e2 (by assumption)).2 (by unfold mBlk; omega)⟩) (fun z => absurd z (by decide))
                      | exact ih (k + 1) _ _ (by omega) (by omega) (by omega) (Or.inl rfl) (fun z => absurd rfl z) (fun _ z => z.2 k (by omega) (by omega) (by unfold mBlk; omega))
                  · skip
                    refine wq_aload_n (pc := 72) dX7_counts_72 rfl rfl ?_
                    refine wq_getS (pc := 73) dX7_counts_73 hs (gf_X7_32 _ rfl) rfl rfl rfl rfl rfl ?_
                    refine wq_iload_n (pc := 76) dX7_counts_76 rfl rfl ?_
                    refine wq_ialdK (pc := 77) dX7_counts_77 hs rfl (by omega) (by omega) ?_
                    refine wq_aload_n (pc := 78) dX7_counts_78 rfl rfl ?_
                    refine wq_getS (pc := 79) dX7_counts_79 hs (gf_X7_32 _ rfl) rfl rfl rfl rfl rfl ?_
                    refine wq_iload_n (pc := 82) dX7_counts_82 rfl rfl ?_
                    refine wq_ialdK (pc := 83) dX7_counts_83 hs rfl (by omega) (by omega) ?_
                    refine wq_icmp_ne (pc := 84) (tgt := 128) dX7_counts_84 (by decide) (by first | (unfold inR; omega) | assumption) (by first | (unfold inR; omega) | assumption) (fun c19 => ?_) (fun c19 => ?_)
                    · skip
                      refine wq_iinc (pc := 128) (L' := [(3, _), (0, _), (1, _), (2, _)]) dX7_counts_128 rfl rfl (by decide) ?_
                      refine wq_goto (pc := 131) (tgt := 27) dX7_counts_131 (by decide) ?_
                      refine wq_sub1 (L' := [(0, _), (1, _), (2, _), (3, _)]) ⟨rfl, rfl, rfl, rfl, trivial⟩ ?_
                      first
                        | exact ih (k + 1) _ _ (by omega) (by omega) (by omega) e1 (fun z => ⟨(e2 z).1, mBlk_s (e2 z).2 (by unfold mBlk; omega)⟩) e3
                        | exact ih (k + 1) _ _ (by omega) (by omega) (by omega) (Or.inr rfl) (fun _ => ⟨(e2 (by assumption)).1, mBlk_s (e2 (by assumption)).2 (by unfold mBlk; omega)⟩) (fun z => absurd z (by decide))
                        | exact ih (k + 1) _ _ (by omega) (by omega) (by omega) (Or.inl rfl) (fun z => absurd rfl z) (fun _ z => z.2 k (by omega) (by omega) (by unfold mBlk; omega))
                    · skip
                      refine wq_aload_n (pc := 87) dX7_counts_87 rfl rfl ?_
                      refine wq_getS (pc := 88) dX7_counts_88 hs (gf_X7_16 _ rfl) rfl rfl rfl rfl rfl ?_
                      refine wq_iload_n (pc := 91) dX7_counts_91 rfl rfl ?_
                      refine wq_ialdK (pc := 92) dX7_counts_92 hs rfl (by omega) (by omega) ?_
                      refine wq_aload_n (pc := 93) dX7_counts_93 rfl rfl ?_
                      refine wq_getS (pc := 94) dX7_counts_94 hs (gf_X7_16 _ rfl) rfl rfl rfl rfl rfl ?_
                      refine wq_iload_n (pc := 97) dX7_counts_97 rfl rfl ?_
                      refine wq_ialdK (pc := 98) dX7_counts_98 hs rfl (by omega) (by omega) ?_
                      refine wq_icmp_lt (pc := 99) (tgt := 122) dX7_counts_99 (by decide) (by first | (unfold inR; omega) | assumption) (by first | (unfold inR; omega) | assumption) (fun c20 => ?_) (fun c20 => ?_)
                      · skip
                        refine wq_iconst (pc := 122) dX7_counts_122 ?_
                        refine wq_goto (pc := 123) (tgt := 127) dX7_counts_123 (by decide) ?_
                        refine wq_istore_n (pc := 127) (L' := [(2, _), (0, _), (1, _), (3, _)]) dX7_counts_127 rfl rfl (by decide) ?_
                        refine wq_iinc (pc := 128) (L' := [(3, _), (2, _), (0, _), (1, _)]) dX7_counts_128 rfl rfl (by decide) ?_
                        refine wq_goto (pc := 131) (tgt := 27) dX7_counts_131 (by decide) ?_
                        refine wq_sub1 (L' := [(0, _), (1, _), (2, _), (3, _)]) ⟨rfl, rfl, rfl, rfl, trivial⟩ ?_
                        first
                          | exact ih (k + 1) _ _ (by omega) (by omega) (by omega) e1 (fun z => ⟨(e2 z).1, mBlk_s (e2 z).2 (by unfold mBlk; omega)⟩) e3
                          | exact ih (k + 1) _ _ (by omega) (by omega) (by omega) (Or.inr rfl) (fun _ => ⟨(e2 (by assumption)).1, mBlk_s (e2 (by assumption)).2 (by unfold mBlk; omega)⟩) (fun z => absurd z (by decide))
                          | exact ih (k + 1) _ _ (by omega) (by omega) (by omega) (Or.inl rfl) (fun z => absurd rfl z) (fun _ z => z.2 k (by omega) (by omega) (by unfold mBlk; omega))
                      · skip
                        refine wq_aload_n (pc := 102) dX7_counts_102 rfl rfl ?_
                        refine wq_getS (pc := 103) dX7_counts_103 hs (gf_X7_16 _ rfl) rfl rfl rfl rfl rfl ?_
                        refine wq_iload_n (pc := 106) dX7_counts_106 rfl rfl ?_
                        refine wq_ialdK (pc := 107) dX7_counts_107 hs rfl (by omega) (by omega) ?_
                        refine wq_aload_n (pc := 108) dX7_counts_108 rfl rfl ?_
                        refine wq_getS (pc := 109) dX7_counts_109 hs (gf_X7_16 _ rfl) rfl rfl rfl rfl rfl ?_
                        refine wq_iload_n (pc := 112) dX7_counts_112 rfl rfl ?_
                        refine wq_ialdK (pc := 113) dX7_counts_113 hs rfl (by omega) (by omega) ?_
                        refine wq_icmp_ne (pc := 114) (tgt := 126) dX7_counts_114 (by decide) (by first | (unfold inR; omega) | assumption) (by first | (unfold inR; omega) | assumption) (fun c21 => ?_) (fun c21 => ?_)
                        · skip
                          refine wq_iconst (pc := 126) dX7_counts_126 ?_
                          refine wq_istore_n (pc := 127) (L' := [(2, _), (0, _), (1, _), (3, _)]) dX7_counts_127 rfl rfl (by decide) ?_
                          refine wq_iinc (pc := 128) (L' := [(3, _), (2, _), (0, _), (1, _)]) dX7_counts_128 rfl rfl (by decide) ?_
                          refine wq_goto (pc := 131) (tgt := 27) dX7_counts_131 (by decide) ?_
                          refine wq_sub1 (L' := [(0, _), (1, _), (2, _), (3, _)]) ⟨rfl, rfl, rfl, rfl, trivial⟩ ?_
                          first
                            | exact ih (k + 1) _ _ (by omega) (by omega) (by omega) e1 (fun z => ⟨(e2 z).1, mBlk_s (e2 z).2 (by unfold mBlk; omega)⟩) e3
                            | exact ih (k + 1) _ _ (by omega) (by omega) (by omega) (Or.inr rfl) (fun _ => ⟨(e2 (by assumption)).1, mBlk_s (e2 (by assumption)).2 (by unfold mBlk; omega)⟩) (fun z => absurd z (by decide))
                            | exact ih (k + 1) _ _ (by omega) (by omega) (by omega) (Or.inl rfl) (fun z => absurd rfl z) (fun _ z => z.2 k (by omega) (by omega) (by unfold mBlk; omega))
                        · skip
                          refine wq_iload_n (pc := 117) dX7_counts_117 rfl rfl ?_
                          refine wq_iload_n (pc := 118) dX7_counts_118 rfl rfl ?_
                          refine wq_icmp_lt (pc := 119) (tgt := 126) dX7_counts_119 (by decide) (by first | (unfold inR; omega) | assumption) (by first | (unfold inR; omega) | assumption) (fun c22 => ?_) (fun c22 => ?_)
                          · skip
                            refine wq_iconst (pc := 126) dX7_counts_126 ?_
                            refine wq_istore_n (pc := 127) (L' := [(2, _), (0, _), (1, _), (3, _)]) dX7_counts_127 rfl rfl (by decide) ?_
                            refine wq_iinc (pc := 128) (L' := [(3, _), (2, _), (0, _), (1, _)]) dX7_counts_128 rfl rfl (by decide) ?_
                            refine wq_goto (pc := 131) (tgt := 27) dX7_counts_131 (by decide) ?_
                            refine wq_sub1 (L' := [(0, _), (1, _), (2, _), (3, _)]) ⟨rfl, rfl, rfl, rfl, trivial⟩ ?_
                            first
                              | exact ih (k + 1) _ _ (by omega) (by omega) (by omega) e1 (fun z => ⟨(e2 z).1, mBlk_s (e2 z).2 (by unfold mBlk; omega)⟩) e3
                              | exact ih (k + 1) _ _ (by omega) (by omega) (by omega) (Or.inr rfl) (fun _ => ⟨(e2 (by assumption)).1, mBlk_s (e2 (by assumption)).2 (by unfold mBlk; omega)⟩) (fun z => absurd z (by decide))
                              | exact ih (k + 1) _ _ (by omega) (by omega) (by omega) (Or.inl rfl) (fun z => absurd rfl z) (fun _ z => z.2 k (by omega) (by omega) (by unfold mBlk; omega))
                          · skip
                            refine wq_iconst (pc := 122) dX7_counts_122 ?_
                            refine wq_goto (pc := 123) (tgt := 127) dX7_counts_123 (by decide) ?_
                            refine wq_istore_n (pc := 127) (L' := [(2, _), (0, _), (1, _), (3, _)]) dX7_counts_127 rfl rfl (by decide) ?_
                            refine wq_iinc (pc := 128) (L' := [(3, _), (2, _), (0, _), (1, _)]) dX7_counts_128 rfl rfl (by decide) ?_
                            refine wq_goto (pc := 131) (tgt := 27) dX7_counts_131 (by decide) ?_
                            refine wq_sub1 (L' := [(0, _), (1, _), (2, _), (3, _)]) ⟨rfl, rfl, rfl, rfl, trivial⟩ ?_
                            first
                              | exact ih (k + 1) _ _ (by omega) (by omega) (by omega) e1 (fun z => ⟨(e2 z).1, mBlk_s (e2 z).2 (by unfold mBlk; omega)⟩) e3
                              | exact ih (k + 1) _ _ (by omega) (by omega) (by omega) (Or.inr rfl) (fun _ => ⟨(e2 (by assumption)).1, mBlk_s (e2 (by assumption)).2 (by unfold mBlk; omega)⟩) (fun z => absurd z (by decide))
                              | exact ih (k + 1) _ _ (by omega) (by omega) (by omega) (Or.inl rfl) (fun z => absurd rfl z) (fun _ z => z.2 k (by omega) (by omega) (by unfold mBlk; omega))
      refine wq_sub1 (L' := [(0, _), (1, _), (2, _), (3, _)]) ⟨rfl, rfl, rfl, rfl, trivial⟩ ?_
      exact loop13 129 0 _ _ (by omega) (by omega) (by omega) (by omega) (fun z => ⟨by first | omega | exact absurd rfl z, fun j j0 j1 => absurd j1 (by omega)⟩) (fun z q => by have := q.1; omega)
    · skip
      refine wq_iconst (pc := 19) dX7_counts_19 ?_
      refine wq_goto (pc := 20) (tgt := 24) dX7_counts_20 (by decide) ?_
      refine wq_istore_n (pc := 24) (L' := [(2, _), (0, _), (1, _)]) dX7_counts_24 rfl rfl (by decide) ?_
      refine wq_iconst (pc := 25) dX7_counts_25 ?_
      refine wq_istore_n (pc := 26) (L' := [(3, _), (2, _), (0, _), (1, _)]) dX7_counts_26 rfl rfl (by decide) ?_
      have loop23 : ∀ (n k : Nat), ∀ (w : Int) (j : Int), k ≤ 128 → 128 < k + n → j = (k : Int) → w = 0 ∨ w = 1 → (w ≠ 0 → (μ 41 i ≠ 0 ∧ μ 22 i = 2) ∧ ∀ j : Int, 0 ≤ j → j < (k : Int) → ¬ mBlk μ i j) → (w = 0 → ¬ mCnt μ i) → wp mX7_counts 27 [(0, vR 21), (1, vI i), (2, vI w), (3, vI j)] [] μ ε Q := by
        intro n
        induction n with
        | zero => intro k w j hk1 hk2 e0 e1 e2 e3; exact absurd hk2 (by omega)
        | succ n ih =>
          intro k w j hk1 hk2 e0 e1 e2 e3
          subst e0
          have r41 := hr 41 k (by decide) (by decide) (by decide)
          have r22 := hr 22 k (by decide) (by decide) (by decide)
          have r23 := hr 23 k (by decide) (by decide) (by decide)
          have r29 := hr 29 k (by decide) (by decide) (by decide)
          have r24 := hr 24 k (by decide) (by decide) (by decide)
          have rw1 : inR w := by unfold inR; omega
          have rk : inR (k : Int) := by unfold inR; omega
          refine wq_iload_n (pc := 27) dX7_counts_27 rfl rfl ?_
          refine wq_sipush (pc := 28) dX7_counts_28 (by decide) (by decide) ?_
          refine wq_icmp_ge (pc := 31) (tgt := 134) dX7_counts_31 (by decide) (by first | (unfold inR; omega) | assumption) (by first | (unfold inR; omega) | assumption) (fun c24 => ?_) (fun c24 => ?_)
          · skip
            refine wq_iload_n (pc := 134) dX7_counts_134 rfl rfl ?_
            refine wq_zret (pc := 135) dX7_counts_135 rfl (by first | omega | (simp; done) | assumption) ?_
            rcases e1 with c | c
            · rw [c]; exact h2 (e3 c)
            · have hc : ¬ w = 0 := by omega
              rw [c]; exact h1 ⟨(e2 hc).1, fun j j0 j1 => (e2 hc).2 j j0 (by omega)⟩
          · skip
            refine wq_iload_n (pc := 34) dX7_counts_34 rfl rfl ?_
            refine wq_if_eq (pc := 35) (tgt := 134) dX7_counts_35 (by decide) (by first | (unfold inR; omega) | assumption) (fun c25 => ?_) (fun c25 => ?_)
            · skip
              refine wq_iload_n (pc := 134) dX7_counts_134 rfl rfl ?_
              refine wq_zret (pc := 135) dX7_counts_135 rfl (by first | omega | (simp; done) | assumption) ?_
              rcases e1 with c | c
              · rw [c]; exact h2 (e3 c)
              · have hc : ¬ w = 0 := by omega
                rw [c]; exact h1 ⟨(e2 hc).1, fun j j0 j1 => (e2 hc).2 j j0 (by omega)⟩
            · skip
              refine wq_aload_n (pc := 38) dX7_counts_38 rfl rfl ?_
              refine wq_getS (pc := 39) dX7_counts_39 hs (gf_X7_69 _ rfl) rfl rfl rfl rfl rfl ?_
              refine wq_iload_n (pc := 42) dX7_counts_42 rfl rfl ?_
              refine wq_zaldK (pc := 43) dX7_counts_43 hs rfl (by omega) (by omega) ?_
              refine wq_if_eq (pc := 44) (tgt := 128) dX7_counts_44 (by decide) (by first | (unfold inR; omega) | assumption) (fun c26 => ?_) (fun c26 => ?_)
              · skip
                refine wq_iinc (pc := 128) (L' := [(3, _), (0, _), (1, _), (2, _)]) dX7_counts_128 rfl rfl (by decide) ?_
                refine wq_goto (pc := 131) (tgt := 27) dX7_counts_131 (by decide) ?_
                refine wq_sub1 (L' := [(0, _), (1, _), (2, _), (3, _)]) ⟨rfl, rfl, rfl, rfl, trivial⟩ ?_
                first
                  | exact ih (k + 1) _ _ (by omega) (by omega) (by omega) e1 (fun z => ⟨(e2 z).1, mBlk_s (e2 z).2 (by unfold mBlk; omega)⟩) e3
                  | exact ih (k + 1) _ _ (by omega) (by omega) (by omega) (Or.inr rfl) (fun _ => ⟨(e2 (by assumption)).1, mBlk_s (e2 (by assumption)).2 (by unfold mBlk; omega)⟩) (fun z => absurd z (by decide))
                  | exact ih (k + 1) _ _ (by omega) (by omega) (by omega) (Or.inl rfl) (fun z => absurd rfl z) (fun _ z => z.2 k (by omega) (by omega) (by unfold mBlk; omega))
              · skip
                refine wq_aload_n (pc := 47) dX7_counts_47 rfl rfl ?_
                refine wq_getS (pc := 48) dX7_counts_48 hs (gf_X7_7 _ rfl) rfl rfl rfl rfl rfl ?_
                refine wq_iload_n (pc := 51) dX7_counts_51 rfl rfl ?_
                refine wq_ialdK (pc := 52) dX7_counts_52 hs rfl (by omega) (by omega) ?_
                refine wq_iconst (pc := 53) dX7_counts_53 ?_
                refine wq_icmp_ne (pc := 54) (tgt := 128) dX7_counts_54 (by decide) (by first | (unfold inR; omega) | assumption) (by first | (unfold inR; omega) | assumption) (fun c27 => ?_) (fun c27 => ?_)
                · skip
                  refine wq_iinc (pc := 128) (L' := [(3, _), (0, _), (1, _), (2, _)]) dX7_counts_128 rfl rfl (by decide) ?_
                  refine wq_goto (pc := 131) (tgt := 27) dX7_counts_131 (by decide) ?_
                  refine wq_sub1 (L' := [(0, _), (1, _), (2, _), (3, _)]) ⟨rfl, rfl, rfl, rfl, trivial⟩ ?_
                  first
                    | exact ih (k + 1) _ _ (by omega) (by omega) (by omega) e1 (fun z => ⟨(e2 z).1, mBlk_s (e2 z).2 (by unfold mBlk; omega)⟩) e3
                    | exact ih (k + 1) _ _ (by omega) (by omega) (by omega) (Or.inr rfl) (fun _ => ⟨(e2 (by assumption)).1, mBlk_s (e2 (by assumption)).2 (by unfold mBlk; omega)⟩) (fun z => absurd z (by decide))
                    | exact ih (k + 1) _ _ (by omega) (by omega) (by omega) (Or.inl rfl) (fun z => absurd rfl z) (fun _ z => z.2 k (by omega) (by omega) (by unfold mBlk; omega))
                · skip
                  refine wq_aload_n (pc := 57) dX7_counts_57 rfl rfl ?_
                  refine wq_getS (pc := 58) dX7_counts_58 hs (gf_X7_13 _ rfl) rfl rfl rfl rfl rfl ?_
                  refine wq_iload_n (pc := 61) dX7_counts_61 rfl rfl ?_
                  refine wq_ialdK (pc := 62) dX7_counts_62 hs rfl (by omega) (by omega) ?_
                  refine wq_aload_n (pc := 63) dX7_counts_63 rfl rfl ?_
                  refine wq_getS (pc := 64) dX7_counts_64 hs (gf_X7_13 _ rfl) rfl rfl rfl rfl rfl ?_
                  refine wq_iload_n (pc := 67) dX7_counts_67 rfl rfl ?_
                  refine wq_ialdK (pc := 68) dX7_counts_68 hs rfl (by omega) (by omega) ?_
                  refine wq_icmp_ne (pc := 69) (tgt := 128) dX7_counts_69 (by decide) (by first | (unfold inR; omega) | assumption) (by first | (unfold inR; omega) | assumption) (fun c28 => ?_) (fun c28 => ?_)
                  · skip
                    refine wq_iinc (pc := 128) (L' := [(3, _), (0, _), (1, _), (2, _)]) dX7_counts_128 rfl rfl (by decide) ?_
                    refine wq_goto (pc := 131) (tgt := 27) dX7_counts_131 (by decide) ?_
                    refine wq_sub1 (L' := [(0, _), (1, _), (2, _), (3, _)]) ⟨rfl, rfl, rfl, rfl, trivial⟩ ?_
                    first
                      | exact ih (k + 1) _ _ (by omega) (by omega) (by omega) e1 (fun z => ⟨(e2 z).1, mBlk_s (e2 z).2 (by unfold mBlk; omega)⟩) e3
                      | exact ih (k + 1) _ _ (by omega) (by omega) (by omega) (Or.inr rfl) (fun _ => ⟨(e2 (by assumption)).1, mBlk_s (e2 (by assumption)).2 (by unfold mBlk; omega)⟩) (fun z => absurd z (by decide))
                      | exact ih (k + 1) _ _ (by omega) (by omega) (by omega) (Or.inl rfl) (fun z => absurd rfl z) (fun _ z => z.2 k (by omega) (by omega) (by unfold mBlk; omega))
                  · skip
                    refine wq_aload_n (pc := 72) dX7_counts_72 rfl rfl ?_
                    refine wq_getS (pc := 73) dX7_counts_73 hs (gf_X7_32 _ rfl) rfl rfl rfl rfl rfl ?_
                    refine wq_iload_n (pc := 76) dX7_counts_76 rfl rfl ?_
                    refine wq_ialdK (pc := 77) dX7_counts_77 hs rfl (by omega) (by omega) ?_
                    refine wq_aload_n (pc := 78) dX7_counts_78 rfl rfl ?_
                    refine wq_getS (pc := 79) dX7_counts_79 hs (gf_X7_32 _ rfl) rfl rfl rfl rfl rfl ?_
                    refine wq_iload_n (pc := 82) dX7_counts_82 rfl rfl ?_
                    refine wq_ialdK (pc := 83) dX7_counts_83 hs rfl (by omega) (by omega) ?_
                    refine wq_icmp_ne (pc := 84) (tgt := 128) dX7_counts_84 (by decide) (by first | (unfold inR; omega) | assumption) (by first | (unfold inR; omega) | assumption) (fun c29 => ?_) (fun c29 => ?_)
                    · skip
                      refine wq_iinc (pc := 128) (L' := [(3, _), (0, _), (1, _), (2, _)]) dX7_counts_128 rfl rfl (by decide) ?_
                      refine wq_goto (pc := 131) (tgt := 27) dX7_counts_131 (by decide) ?_
                      refine wq_sub1 (L' := [(0, _), (1, _), (2, _), (3, _)]) ⟨rfl, rfl, rfl, rfl, trivial⟩ ?_
                      first
                        | exact ih (k + 1) _ _ (by omega) (by omega) (by omega) e1 (fun z => ⟨(e2 z).1, mBlk_s (e2 z).2 (by unfold mBlk; omega)⟩) e3
                        | exact ih (k + 1) _ _ (by omega) (by omega) (by omega) (Or.inr rfl) (fun _ => ⟨(e2 (by assumption)).1, mBlk_s (e2 (by assumption)).2 (by unfold mBlk; omega)⟩) (fun z => absurd z (by decide))
                        | exact ih (k + 1) _ _ (by omega) (by omega) (by omega) (Or.inl rfl) (fun z => absurd rfl z) (fun _ z => z.2 k (by omega) (by omega) (by unfold mBlk; omega))
                    · skip
                      refine wq_aload_n (pc := 87) dX7_counts_87 rfl rfl ?_
                      refine wq_getS (pc := 88) dX7_counts_88 hs (gf_X7_16 _ rfl) rfl rfl rfl rfl rfl ?_
                      refine wq_iload_n (pc := 91) dX7_counts_91 rfl rfl ?_
                      refine wq_ialdK (pc := 92) dX7_counts_92 hs rfl (by omega) (by omega) ?_
                      refine wq_aload_n (pc := 93) dX7_counts_93 rfl rfl ?_
                      refine wq_getS (pc := 94) dX7_counts_94 hs (gf_X7_16 _ rfl) rfl rfl rfl rfl rfl ?_
                      refine wq_iload_n (pc := 97) dX7_counts_97 rfl rfl ?_
                      refine wq_ialdK (pc := 98) dX7_counts_98 hs rfl (by omega) (by omega) ?_
                      refine wq_icmp_lt (pc := 99) (tgt := 122) dX7_counts_99 (by decide) (by first | (unfold inR; omega) | assumption) (by first | (unfold inR; omega) | assumption) (fun c30 => ?_) (fun c30 => ?_)
                      · skip
                        refine wq_iconst (pc := 122) dX7_counts_122 ?_
                        refine wq_goto (pc := 123) (tgt := 127) dX7_counts_123 (by decide) ?_
                        refine wq_istore_n (pc := 127) (L' := [(2, _), (0, _), (1, _), (3, _)]) dX7_counts_127 rfl rfl (by decide) ?_
                        refine wq_iinc (pc := 128) (L' := [(3, _), (2, _), (0, _), (1, _)]) dX7_counts_128 rfl rfl (by decide) ?_
                        refine wq_goto (pc := 131) (tgt := 27) dX7_counts_131 (by decide) ?_
                        refine wq_sub1 (L' := [(0, _), (1, _), (2, _), (3, _)]) ⟨rfl, rfl, rfl, rfl, trivial⟩ ?_
                        first
                          | exact ih (k + 1) _ _ (by omega) (by omega) (by omega) e1 (fun z => ⟨(e2 z).1, mBlk_s (e2 z).2 (by unfold mBlk; omega)⟩) e3
                          | exact ih (k + 1) _ _ (by omega) (by omega) (by omega) (Or.inr rfl) (fun _ => ⟨(e2 (by assumption)).1, mBlk_s (e2 (by assumption)).2 (by unfold mBlk; omega)⟩) (fun z => absurd z (by decide))
                          | exact ih (k + 1) _ _ (by omega) (by omega) (by omega) (Or.inl rfl) (fun z => absurd rfl z) (fun _ z => z.2 k (by omega) (by omega) (by unfold mBlk; omega))
                      · skip
                        refine wq_aload_n (pc := 102) dX7_counts_102 rfl rfl ?_
                        refine wq_getS (pc := 103) dX7_counts_103 hs (gf_X7_16 _ rfl) rfl rfl rfl rfl rfl ?_
                        refine wq_iload_n (pc := 106) dX7_counts_106 rfl rfl ?_
                        refine wq_ialdK (pc := 107) dX7_counts_107 hs rfl (by omega) (by omega) ?_
                        refine wq_aload_n (pc := 108) dX7_counts_108 rfl rfl ?_
                        refine wq_getS (pc := 109) dX7_counts_109 hs (gf_X7_16 _ rfl) rfl rfl rfl rfl rfl ?_
                        refine wq_iload_n (pc := 112) dX7_counts_112 rfl rfl ?_
                        refine wq_ialdK (pc := 113) dX7_counts_113 hs rfl (by omega) (by omega) ?_
                        refine wq_icmp_ne (pc := 114) (tgt := 126) dX7_counts_114 (by decide) (by first | (unfold inR; omega) | assumption) (by first | (unfold inR; omega) | assumption) (fun c31 => ?_) (fun c31 => ?_)
                        · skip
                          refine wq_iconst (pc := 126) dX7_counts_126 ?_
                          refine wq_istore_n (pc := 127) (L' := [(2, _), (0, _), (1, _), (3, _)]) dX7_counts_127 rfl rfl (by decide) ?_
                          refine wq_iinc (pc := 128) (L' := [(3, _), (2, _), (0, _), (1, _)]) dX7_counts_128 rfl rfl (by decide) ?_
                          refine wq_goto (pc := 131) (tgt := 27) dX7_counts_131 (by decide) ?_
                          refine wq_sub1 (L' := [(0, _), (1, _), (2, _), (3, _)]) ⟨rfl, rfl, rfl, rfl, trivial⟩ ?_
                          first
                            | exact ih (k + 1) _ _ (by omega) (by omega) (by omega) e1 (fun z => ⟨(e2 z).1, mBlk_s (e2 z).2 (by unfold mBlk; omega)⟩) e3
                            | exact ih (k + 1) _ _ (by omega) (by omega) (by omega) (Or.inr rfl) (fun _ => ⟨(e2 (by assumption)).1, mBlk_s (e2 (by assumption)).2 (by unfold mBlk; omega)⟩) (fun z => absurd z (by decide))
                            | exact ih (k + 1) _ _ (by omega) (by omega) (by omega) (Or.inl rfl) (fun z => absurd rfl z) (fun _ z => z.2 k (by omega) (by omega) (by unfold mBlk; omega))
                        · skip
                          refine wq_iload_n (pc := 117) dX7_counts_117 rfl rfl ?_
                          refine wq_iload_n (pc := 118) dX7_counts_118 rfl rfl ?_
                          refine wq_icmp_lt (pc := 119) (tgt := 126) dX7_counts_119 (by decide) (by first | (unfold inR; omega) | assumption) (by first | (unfold inR; omega) | assumption) (fun c32 => ?_) (fun c32 => ?_)
                          · skip
                            refine wq_iconst (pc := 126) dX7_counts_126 ?_
                            refine wq_istore_n (pc := 127) (L' := [(2, _), (0, _), (1, _), (3, _)]) dX7_counts_127 rfl rfl (by decide) ?_
                            refine wq_iinc (pc := 128) (L' := [(3, _), (2, _), (0, _), (1, _)]) dX7_counts_128 rfl rfl (by decide) ?_
                            refine wq_goto (pc := 131) (tgt := 27) dX7_counts_131 (by decide) ?_
                            refine wq_sub1 (L' := [(0, _), (1, _), (2, _), (3, _)]) ⟨rfl, rfl, rfl, rfl, trivial⟩ ?_
                            first
                              | exact ih (k + 1) _ _ (by omega) (by omega) (by omega) e1 (fun z => ⟨(e2 z).1, mBlk_s (e2 z).2 (by unfold mBlk; omega)⟩) e3
                              | exact ih (k + 1) _ _ (by omega) (by omega) (by omega) (Or.inr rfl) (fun _ => ⟨(e2 (by assumption)).1, mBlk_s (e2 (by assumption)).2 (by unfold mBlk; omega)⟩) (fun z => absurd z (by decide))
                              | exact ih (k + 1) _ _ (by omega) (by omega) (by omega) (Or.inl rfl) (fun z => absurd rfl z) (fun _ z => z.2 k (by omega) (by omega) (by unfold mBlk; omega))
                          · skip
                            refine wq_iconst (pc := 122) dX7_counts_122 ?_
                            refine wq_goto (pc := 123) (tgt := 127) dX7_counts_123 (by decide) ?_
                            refine wq_istore_n (pc := 127) (L' := [(2, _), (0, _), (1, _), (3, _)]) dX7_counts_127 rfl rfl (by decide) ?_
                            refine wq_iinc (pc := 128) (L' := [(3, _), (2, _), (0, _), (1, _)]) dX7_counts_128 rfl rfl (by decide) ?_
                            refine wq_goto (pc := 131) (tgt := 27) dX7_counts_131 (by decide) ?_
                            refine wq_sub1 (L' := [(0, _), (1, _), (2, _), (3, _)]) ⟨rfl, rfl, rfl, rfl, trivial⟩ ?_
                            first
                              | exact ih (k + 1) _ _ (by omega) (by omega) (by omega) e1 (fun z => ⟨(e2 z).1, mBlk_s (e2 z).2 (by unfold mBlk; omega)⟩) e3
                              | exact ih (k + 1) _ _ (by omega) (by omega) (by omega) (Or.inr rfl) (fun _ => ⟨(e2 (by assumption)).1, mBlk_s (e2 (by assumption)).2 (by unfold mBlk; omega)⟩) (fun z => absurd z (by decide))
                              | exact ih (k + 1) _ _ (by omega) (by omega) (by omega) (Or.inl rfl) (fun z => absurd rfl z) (fun _ z => z.2 k (by omega) (by omega) (by unfold mBlk; omega))
      refine wq_sub1 (L' := [(0, _), (1, _), (2, _), (3, _)]) ⟨rfl, rfl, rfl, rfl, trivial⟩ ?_
      exact loop23 129 0 _ _ (by omega) (by omega) (by omega) (by omega) (fun z => ⟨by first | omega | exact absurd rfl z, fun j j0 j1 => absurd j1 (by omega)⟩) (fun z q => by have := q.1; omega)
def mBlC (μ : nMem) (i j : Int) : Prop := μ 41 j ≠ 0 ∧ μ 22 j = 2 ∧ μ 23 j = μ 23 i ∧ μ 29 j = μ 29 i ∧ μ 24 i < μ 24 j
/-- a name node that names something, with no present newer one -/
def mCnC (μ : nMem) (i : Int) : Prop := 0 < μ 30 i ∧ ∀ j, 0 ≤ j → j < 128 → ¬ mBlC μ i j
theorem mBlC_s {μ : nMem} {i : Int} {k : Nat} (h : ∀ j, 0 ≤ j → j < (k : Int) → ¬ mBlC μ i j) (hk : ¬ mBlC μ i k) : ∀ j, 0 ≤ j → j < ((k + 1 : Nat) : Int) → ¬ mBlC μ i j := fun j j0 j1 => by
  by_cases c : j = k
  · rw [c]; exact hk
  · exact h j j0 (by omega)
theorem sp_X7_isCounting {μ : nMem} {ε : nEnv} {Q : nOut → nMem → nEnv → Prop} {i : Int} (hs : SkP skM ε) (hr : mR μ) (i0 : 0 ≤ i) (i1 : i < 128) (h1 : mCnC μ i → Q (.inl (some (vI 1))) μ ε) (h2 : ¬ mCnC μ i → Q (.inl (some (vI 0))) μ ε) : Sp mX7_isCounting [vR 21, vI i] μ ε Q := by
  refine Sp_of (L := [(0, vR 21), (1, vI i)]) (by decide) rfl rfl (Nat.le_of_ble_eq_true rfl) ?_
  have s30 := hr 30 i (by decide) (by decide) (by decide)
  have s22 := hr 22 i (by decide) (by decide) (by decide)
  have s23 := hr 23 i (by decide) (by decide) (by decide)
  have s29 := hr 29 i (by decide) (by decide) (by decide)
  have s24 := hr 24 i (by decide) (by decide) (by decide)
  have ri : inR i := by unfold inR; omega
  refine wq_aload_n (pc := 0) dX7_isCounting_0 rfl rfl ?_
  refine wq_getS (pc := 1) dX7_isCounting_1 hs (gf_X7_35 _ rfl) rfl rfl rfl rfl rfl ?_
  refine wq_iload_n (pc := 4) dX7_isCounting_4 rfl rfl ?_
  refine wq_ialdK (pc := 5) dX7_isCounting_5 hs rfl (by omega) (by omega) ?_
  refine wq_if_le (pc := 6) (tgt := 13) dX7_isCounting_6 (by decide) (by first | (unfold inR; omega) | assumption) (fun c1 => ?_) (fun c1 => ?_)
  · skip
    refine wq_iconst (pc := 13) dX7_isCounting_13 ?_
    refine wq_istore_n (pc := 14) (L' := [(2, _), (0, _), (1, _)]) dX7_isCounting_14 rfl rfl (by decide) ?_
    refine wq_iconst (pc := 15) dX7_isCounting_15 ?_
    refine wq_istore_n (pc := 16) (L' := [(3, _), (2, _), (0, _), (1, _)]) dX7_isCounting_16 rfl rfl (by decide) ?_
    have loop2 : ∀ (n k : Nat), ∀ (w : Int) (j : Int), k ≤ 128 → 128 < k + n → j = (k : Int) → w = 0 ∨ w = 1 → (w ≠ 0 → 0 < μ 30 i ∧ ∀ j : Int, 0 ≤ j → j < (k : Int) → ¬ mBlC μ i j) → (w = 0 → ¬ mCnC μ i) → wp mX7_isCounting 17 [(0, vR 21), (1, vI i), (2, vI w), (3, vI j)] [] μ ε Q := by
      intro n
      induction n with
      | zero => intro k w j hk1 hk2 e0 e1 e2 e3; exact absurd hk2 (by omega)
      | succ n ih =>
        intro k w j hk1 hk2 e0 e1 e2 e3
        subst e0
        have r41 := hr 41 k (by decide) (by decide) (by decide)
        have r22 := hr 22 k (by decide) (by decide) (by decide)
        have r23 := hr 23 k (by decide) (by decide) (by decide)
        have r29 := hr 29 k (by decide) (by decide) (by decide)
        have r24 := hr 24 k (by decide) (by decide) (by decide)
        have rw1 : inR w := by unfold inR; omega
        have rk : inR (k : Int) := by unfold inR; omega
        refine wq_iload_n (pc := 17) dX7_isCounting_17 rfl rfl ?_
        refine wq_sipush (pc := 18) dX7_isCounting_18 (by decide) (by decide) ?_
        refine wq_icmp_ge (pc := 21) (tgt := 116) dX7_isCounting_21 (by decide) (by first | (unfold inR; omega) | assumption) (by first | (unfold inR; omega) | assumption) (fun c3 => ?_) (fun c3 => ?_)
        · skip
          refine wq_iload_n (pc := 116) dX7_isCounting_116 rfl rfl ?_
          refine wq_zret (pc := 117) dX7_isCounting_117 rfl (by first | omega | (simp; done) | assumption) ?_
          rcases e1 with c | c
          · rw [c]; exact h2 (e3 c)
          · have hc : ¬ w = 0 := by omega
            rw [c]; exact h1 ⟨(e2 hc).1, fun j j0 j1 => (e2 hc).2 j j0 (by omega)⟩
        · skip
          refine wq_iload_n (pc := 24) dX7_isCounting_24 rfl rfl ?_
          refine wq_if_eq (pc := 25) (tgt := 116) dX7_isCounting_25 (by decide) (by first | (unfold inR; omega) | assumption) (fun c4 => ?_) (fun c4 => ?_)
          · skip
            refine wq_iload_n (pc := 116) dX7_isCounting_116 rfl rfl ?_
            refine wq_zret (pc := 117) dX7_isCounting_117 rfl (by first | omega | (simp; done) | assumption) ?_
            rcases e1 with c | c
            · rw [c]; exact h2 (e3 c)
            · have hc : ¬ w = 0 := by omega
              rw [c]; exact h1 ⟨(e2 hc).1, fun j j0 j1 => (e2 hc).2 j j0 (by omega)⟩
          · skip
            refine wq_aload_n (pc := 28) dX7_isCounting_28 rfl rfl ?_
            refine wq_getS (pc := 29) dX7_isCounting_29 hs (gf_X7_69 _ rfl) rfl rfl rfl rfl rfl ?_
            refine wq_iload_n (pc := 32) dX7_isCounting_32 rfl rfl ?_
            refine wq_zaldK (pc := 33) dX7_isCounting_33 hs rfl (by omega) (by omega) ?_
            refine wq_if_eq (pc := 34) (tgt := 81) dX7_isCounting_34 (by decide) (by first | (unfold inR; omega) | assumption) (fun c5 => ?_) (fun c5 => ?_)
            · skip
              refine wq_iconst (pc := 81) dX7_isCounting_81 ?_
              refine wq_istore (pc := 82) (L' := [(4, _), (0, _), (1, _), (2, _), (3, _)]) dX7_isCounting_82 rfl (by decide) ?_
              refine wq_iload (pc := 84) dX7_isCounting_84 rfl ?_
              refine wq_if_eq (pc := 86) (tgt := 104) dX7_isCounting_86 (by decide) (by first | (unfold inR; omega) | assumption) (fun _ => ?_) (fun c => absurd c (by decide))
              refine wq_iconst (pc := 104) dX7_isCounting_104 ?_
              refine wq_goto (pc := 105) (tgt := 109) dX7_isCounting_105 (by decide) ?_
              refine wq_istore_n (pc := 109) (L' := [(2, _), (4, _), (0, _), (1, _), (3, _)]) dX7_isCounting_109 rfl rfl (by decide) ?_
              refine wq_iinc (pc := 110) (L' := [(3, _), (2, _), (4, _), (0, _), (1, _)]) dX7_isCounting_110 rfl rfl (by decide) ?_
              refine wq_goto (pc := 113) (tgt := 17) dX7_isCounting_113 (by decide) ?_
              refine wq_sub1 (L' := [(0, _), (1, _), (2, _), (3, _)]) ⟨rfl, rfl, rfl, rfl, trivial⟩ ?_
              first
                | (exfalso; omega)
                | exact ih (k + 1) _ _ (by omega) (by omega) (by omega) (Or.inr rfl) (fun _ => ⟨(e2 (by assumption)).1, mBlC_s (e2 (by assumption)).2 (by unfold mBlC; omega)⟩) (fun z => absurd z (by decide))
                | exact ih (k + 1) _ _ (by omega) (by omega) (by omega) (Or.inl rfl) (fun z => absurd rfl z) (fun _ z => z.2 k (by omega) (by omega) (by unfold mBlC; omega))
            · skip
              refine wq_aload_n (pc := 37) dX7_isCounting_37 rfl rfl ?_
              refine wq_getS (pc := 38) dX7_isCounting_38 hs (gf_X7_7 _ rfl) rfl rfl rfl rfl rfl ?_
              refine wq_iload_n (pc := 41) dX7_isCounting_41 rfl rfl ?_
              refine wq_ialdK (pc := 42) dX7_isCounting_42 hs rfl (by omega) (by omega) ?_
              refine wq_iconst (pc := 43) dX7_isCounting_43 ?_
              refine wq_icmp_ne (pc := 44) (tgt := 81) dX7_isCounting_44 (by decide) (by first | (unfold inR; omega) | assumption) (by first | (unfold inR; omega) | assumption) (fun c7 => ?_) (fun c7 => ?_)
              · skip
                refine wq_iconst (pc := 81) dX7_isCounting_81 ?_
                refine wq_istore (pc := 82) (L' := [(4, _), (0, _), (1, _), (2, _), (3, _)]) dX7_isCounting_82 rfl (by decide) ?_
                refine wq_iload (pc := 84) dX7_isCounting_84 rfl ?_
                refine wq_if_eq (pc := 86) (tgt := 104) dX7_isCounting_86 (by decide) (by first | (unfold inR; omega) | assumption) (fun _ => ?_) (fun c => absurd c (by decide))
                refine wq_iconst (pc := 104) dX7_isCounting_104 ?_
                refine wq_goto (pc := 105) (tgt := 109) dX7_isCounting_105 (by decide) ?_
                refine wq_istore_n (pc := 109) (L' := [(2, _), (4, _), (0, _), (1, _), (3, _)]) dX7_isCounting_109 rfl rfl (by decide) ?_
                refine wq_iinc (pc := 110) (L' := [(3, _), (2, _), (4, _), (0, _), (1, _)]) dX7_isCounting_110 rfl rfl (by decide) ?_
                refine wq_goto (pc := 113) (tgt := 17) dX7_isCounting_113 (by decide) ?_
                refine wq_sub1 (L' := [(0, _), (1, _), (2, _), (3, _)]) ⟨rfl, rfl, rfl, rfl, trivial⟩ ?_
                first
                  | (exfalso; omega)
                  | exact ih (k + 1) _ _ (by omega) (by omega) (by omega) (Or.inr rfl) (fun _ => ⟨(e2 (by assumption)).1, mBlC_s (e2 (by assumption)).2 (by unfold mBlC; omega)⟩) (fun z => absurd z (by decide))
                  | exact ih (k + 1) _ _ (by omega) (by omega) (by omega) (Or.inl rfl) (fun z => absurd rfl z) (fun _ z => z.2 k (by omega) (by omega) (by unfold mBlC; omega))
              · skip
                refine wq_aload_n (pc := 47) dX7_isCounting_47 rfl rfl ?_
                refine wq_getS (pc := 48) dX7_isCounting_48 hs (gf_X7_13 _ rfl) rfl rfl rfl rfl rfl ?_
                refine wq_iload_n (pc := 51) dX7_isCounting_51 rfl rfl ?_
                refine wq_ialdK (pc := 52) dX7_isCounting_52 hs rfl (by omega) (by omega) ?_
                refine wq_aload_n (pc := 53) dX7_isCounting_53 rfl rfl ?_
                refine wq_getS (pc := 54) dX7_isCounting_54 hs (gf_X7_13 _ rfl) rfl rfl rfl rfl rfl ?_
                refine wq_iload_n (pc := 57) dX7_isCounting_57 rfl rfl ?_
                refine wq_ialdK (pc := 58) dX7_isCounting_58 hs rfl (by omega) (by omega) ?_
                refine wq_icmp_ne (pc := 59) (tgt := 81) dX7_isCounting_59 (by decide) (by first | (unfold inR; omega) | assumption) (by first | (unfold inR; omega) | assumption) (fun c9 => ?_) (fun c9 => ?_)
                · skip
                  refine wq_iconst (pc := 81) dX7_isCounting_81 ?_
                  refine wq_istore (pc := 82) (L' := [(4, _), (0, _), (1, _), (2, _), (3, _)]) dX7_isCounting_82 rfl (by decide) ?_
                  refine wq_iload (pc := 84) dX7_isCounting_84 rfl ?_
                  refine wq_if_eq (pc := 86) (tgt := 104) dX7_isCounting_86 (by decide) (by first | (unfold inR; omega) | assumption) (fun _ => ?_) (fun c => absurd c (by decide))
                  refine wq_iconst (pc := 104) dX7_isCounting_104 ?_
                  refine wq_goto (pc := 105) (tgt := 109) dX7_isCounting_105 (by decide) ?_
                  refine wq_istore_n (pc := 109) (L' := [(2, _), (4, _), (0, _), (1, _), (3, _)]) dX7_isCounting_109 rfl rfl (by decide) ?_
                  refine wq_iinc (pc := 110) (L' := [(3, _), (2, _), (4, _), (0, _), (1, _)]) dX7_isCounting_110 rfl rfl (by decide) ?_
                  refine wq_goto (pc := 113) (tgt := 17) dX7_isCounting_113 (by decide) ?_
                  refine wq_sub1 (L' := [(0, _), (1, _), (2, _), (3, _)]) ⟨rfl, rfl, rfl, rfl, trivial⟩ ?_
                  first
                    | (exfalso; omega)
                    | exact ih (k + 1) _ _ (by omega) (by omega) (by omega) (Or.inr rfl) (fun _ => ⟨(e2 (by assumption)).1, mBlC_s (e2 (by assumption)).2 (by unfold mBlC; omega)⟩) (fun z => absurd z (by decide))
                    | exact ih (k + 1) _ _ (by omega) (by omega) (by omega) (Or.inl rfl) (fun z => absurd rfl z) (fun _ z => z.2 k (by omega) (by omega) (by unfold mBlC; omega))
                · skip
                  refine wq_aload_n (pc := 62) dX7_isCounting_62 rfl rfl ?_
                  refine wq_getS (pc := 63) dX7_isCounting_63 hs (gf_X7_32 _ rfl) rfl rfl rfl rfl rfl ?_
                  refine wq_iload_n (pc := 66) dX7_isCounting_66 rfl rfl ?_
                  refine wq_ialdK (pc := 67) dX7_isCounting_67 hs rfl (by omega) (by omega) ?_
                  refine wq_aload_n (pc := 68) dX7_isCounting_68 rfl rfl ?_
                  refine wq_getS (pc := 69) dX7_isCounting_69 hs (gf_X7_32 _ rfl) rfl rfl rfl rfl rfl ?_
                  refine wq_iload_n (pc := 72) dX7_isCounting_72 rfl rfl ?_
                  refine wq_ialdK (pc := 73) dX7_isCounting_73 hs rfl (by omega) (by omega) ?_
                  refine wq_icmp_ne (pc := 74) (tgt := 81) dX7_isCounting_74 (by decide) (by first | (unfold inR; omega) | assumption) (by first | (unfold inR; omega) | assumption) (fun c11 => ?_) (fun c11 => ?_)
                  · skip
                    refine wq_iconst (pc := 81) dX7_isCounting_81 ?_
                    refine wq_istore (pc := 82) (L' := [(4, _), (0, _), (1, _), (2, _), (3, _)]) dX7_isCounting_82 rfl (by decide) ?_
                    refine wq_iload (pc := 84) dX7_isCounting_84 rfl ?_
                    refine wq_if_eq (pc := 86) (tgt := 104) dX7_isCounting_86 (by decide) (by first | (unfold inR; omega) | assumption) (fun _ => ?_) (fun c => absurd c (by decide))
                    refine wq_iconst (pc := 104) dX7_isCounting_104 ?_
                    refine wq_goto (pc := 105) (tgt := 109) dX7_isCounting_105 (by decide) ?_
                    refine wq_istore_n (pc := 109) (L' := [(2, _), (4, _), (0, _), (1, _), (3, _)]) dX7_isCounting_109 rfl rfl (by decide) ?_
                    refine wq_iinc (pc := 110) (L' := [(3, _), (2, _), (4, _), (0, _), (1, _)]) dX7_isCounting_110 rfl rfl (by decide) ?_
                    refine wq_goto (pc := 113) (tgt := 17) dX7_isCounting_113 (by decide) ?_
                    refine wq_sub1 (L' := [(0, _), (1, _), (2, _), (3, _)]) ⟨rfl, rfl, rfl, rfl, trivial⟩ ?_
                    first
                      | (exfalso; omega)
                      | exact ih (k + 1) _ _ (by omega) (by omega) (by omega) (Or.inr rfl) (fun _ => ⟨(e2 (by assumption)).1, mBlC_s (e2 (by assumption)).2 (by unfold mBlC; omega)⟩) (fun z => absurd z (by decide))
                      | exact ih (k + 1) _ _ (by omega) (by omega) (by omega) (Or.inl rfl) (fun z => absurd rfl z) (fun _ z => z.2 k (by omega) (by omega) (by unfold mBlC; omega))
                  · skip
                    refine wq_iconst (pc := 77) dX7_isCounting_77 ?_
                    refine wq_goto (pc := 78) (tgt := 82) dX7_isCounting_78 (by decide) ?_
                    refine wq_istore (pc := 82) (L' := [(4, _), (0, _), (1, _), (2, _), (3, _)]) dX7_isCounting_82 rfl (by decide) ?_
                    refine wq_iload (pc := 84) dX7_isCounting_84 rfl ?_
                    refine wq_if_eq (pc := 86) (tgt := 104) dX7_isCounting_86 (by decide) (by first | (unfold inR; omega) | assumption) (fun c => absurd c (by decide)) (fun _ => ?_)
                    refine wq_aload_n (pc := 89) dX7_isCounting_89 rfl rfl ?_
                    refine wq_getS (pc := 90) dX7_isCounting_90 hs (gf_X7_16 _ rfl) rfl rfl rfl rfl rfl ?_
                    refine wq_iload_n (pc := 93) dX7_isCounting_93 rfl rfl ?_
                    refine wq_ialdK (pc := 94) dX7_isCounting_94 hs rfl (by omega) (by omega) ?_
                    refine wq_aload_n (pc := 95) dX7_isCounting_95 rfl rfl ?_
                    refine wq_getS (pc := 96) dX7_isCounting_96 hs (gf_X7_16 _ rfl) rfl rfl rfl rfl rfl ?_
                    refine wq_iload_n (pc := 99) dX7_isCounting_99 rfl rfl ?_
                    refine wq_ialdK (pc := 100) dX7_isCounting_100 hs rfl (by omega) (by omega) ?_
                    refine wq_icmp_gt (pc := 101) (tgt := 108) dX7_isCounting_101 (by decide) (by first | (unfold inR; omega) | assumption) (by first | (unfold inR; omega) | assumption) (fun c14 => ?_) (fun c14 => ?_)
                    · skip
                      refine wq_iconst (pc := 108) dX7_isCounting_108 ?_
                      refine wq_istore_n (pc := 109) (L' := [(2, _), (4, _), (0, _), (1, _), (3, _)]) dX7_isCounting_109 rfl rfl (by decide) ?_
                      refine wq_iinc (pc := 110) (L' := [(3, _), (2, _), (4, _), (0, _), (1, _)]) dX7_isCounting_110 rfl rfl (by decide) ?_
                      refine wq_goto (pc := 113) (tgt := 17) dX7_isCounting_113 (by decide) ?_
                      refine wq_sub1 (L' := [(0, _), (1, _), (2, _), (3, _)]) ⟨rfl, rfl, rfl, rfl, trivial⟩ ?_
                      first
                        | (exfalso; omega)
                        | exact ih (k + 1) _ _ (by omega) (by omega) (by omega) (Or.inr rfl) (fun _ => ⟨(e2 (by assumption)).1, mBlC_s (e2 (by assumption)).2 (by unfold mBlC; omega)⟩) (fun z => absurd z (by decide))
                        | exact ih (k + 1) _ _ (by omega) (by omega) (by omega) (Or.inl rfl) (fun z => absurd rfl z) (fun _ z => z.2 k (by omega) (by omega) (by unfold mBlC; omega))
                    · skip
                      refine wq_iconst (pc := 104) dX7_isCounting_104 ?_
                      refine wq_goto (pc := 105) (tgt := 109) dX7_isCounting_105 (by decide) ?_
                      refine wq_istore_n (pc := 109) (L' := [(2, _), (4, _), (0, _), (1, _), (3, _)]) dX7_isCounting_109 rfl rfl (by decide) ?_
                      refine wq_iinc (pc := 110) (L' := [(3, _), (2, _), (4, _), (0, _), (1, _)]) dX7_isCounting_110 rfl rfl (by decide) ?_
                      refine wq_goto (pc := 113) (tgt := 17) dX7_isCounting_113 (by decide) ?_
                      refine wq_sub1 (L' := [(0, _), (1, _), (2, _), (3, _)]) ⟨rfl, rfl, rfl, rfl, trivial⟩ ?_
                      first
                        | (exfalso; omega)
                        | exact ih (k + 1) _ _ (by omega) (by omega) (by omega) (Or.inr rfl) (fun _ => ⟨(e2 (by assumption)).1, mBlC_s (e2 (by assumption)).2 (by unfold mBlC; omega)⟩) (fun z => absurd z (by decide))
                        | exact ih (k + 1) _ _ (by omega) (by omega) (by omega) (Or.inl rfl) (fun z => absurd rfl z) (fun _ z => z.2 k (by omega) (by omega) (by unfold mBlC; omega))
    refine wq_sub1 (L' := [(0, _), (1, _), (2, _), (3, _)]) ⟨rfl, rfl, rfl, rfl, trivial⟩ ?_
    exact loop2 129 0 _ _ (by omega) (by omega) (by omega) (by omega) (fun z => ⟨by first | omega | exact absurd rfl z, fun j j0 j1 => absurd j1 (by omega)⟩) (fun z q => by have := q.1; omega)
  · skip
    refine wq_iconst (pc := 9) dX7_isCounting_9 ?_
    refine wq_goto (pc := 10) (tgt := 14) dX7_isCounting_10 (by decide) ?_
    refine wq_istore_n (pc := 14) (L' := [(2, _), (0, _), (1, _)]) dX7_isCounting_14 rfl rfl (by decide) ?_
    refine wq_iconst (pc := 15) dX7_isCounting_15 ?_
    refine wq_istore_n (pc := 16) (L' := [(3, _), (2, _), (0, _), (1, _)]) dX7_isCounting_16 rfl rfl (by decide) ?_
    have loop15 : ∀ (n k : Nat), ∀ (w : Int) (j : Int), k ≤ 128 → 128 < k + n → j = (k : Int) → w = 0 ∨ w = 1 → (w ≠ 0 → 0 < μ 30 i ∧ ∀ j : Int, 0 ≤ j → j < (k : Int) → ¬ mBlC μ i j) → (w = 0 → ¬ mCnC μ i) → wp mX7_isCounting 17 [(0, vR 21), (1, vI i), (2, vI w), (3, vI j)] [] μ ε Q := by
      intro n
      induction n with
      | zero => intro k w j hk1 hk2 e0 e1 e2 e3; exact absurd hk2 (by omega)
      | succ n ih =>
        intro k w j hk1 hk2 e0 e1 e2 e3
        subst e0
        have r41 := hr 41 k (by decide) (by decide) (by decide)
        have r22 := hr 22 k (by decide) (by decide) (by decide)
        have r23 := hr 23 k (by decide) (by decide) (by decide)
        have r29 := hr 29 k (by decide) (by decide) (by decide)
        have r24 := hr 24 k (by decide) (by decide) (by decide)
        have rw1 : inR w := by unfold inR; omega
        have rk : inR (k : Int) := by unfold inR; omega
        refine wq_iload_n (pc := 17) dX7_isCounting_17 rfl rfl ?_
        refine wq_sipush (pc := 18) dX7_isCounting_18 (by decide) (by decide) ?_
        refine wq_icmp_ge (pc := 21) (tgt := 116) dX7_isCounting_21 (by decide) (by first | (unfold inR; omega) | assumption) (by first | (unfold inR; omega) | assumption) (fun c16 => ?_) (fun c16 => ?_)
        · skip
          refine wq_iload_n (pc := 116) dX7_isCounting_116 rfl rfl ?_
          refine wq_zret (pc := 117) dX7_isCounting_117 rfl (by first | omega | (simp; done) | assumption) ?_
          rcases e1 with c | c
          · rw [c]; exact h2 (e3 c)
          · have hc : ¬ w = 0 := by omega
            rw [c]; exact h1 ⟨(e2 hc).1, fun j j0 j1 => (e2 hc).2 j j0 (by omega)⟩
        · skip
          refine wq_iload_n (pc := 24) dX7_isCounting_24 rfl rfl ?_
          refine wq_if_eq (pc := 25) (tgt := 116) dX7_isCounting_25 (by decide) (by first | (unfold inR; omega) | assumption) (fun c17 => ?_) (fun c17 => ?_)
          · skip
            refine wq_iload_n (pc := 116) dX7_isCounting_116 rfl rfl ?_
            refine wq_zret (pc := 117) dX7_isCounting_117 rfl (by first | omega | (simp; done) | assumption) ?_
            rcases e1 with c | c
            · rw [c]; exact h2 (e3 c)
            · have hc : ¬ w = 0 := by omega
              rw [c]; exact h1 ⟨(e2 hc).1, fun j j0 j1 => (e2 hc).2 j j0 (by omega)⟩
          · skip
            refine wq_aload_n (pc := 28) dX7_isCounting_28 rfl rfl ?_
            refine wq_getS (pc := 29) dX7_isCounting_29 hs (gf_X7_69 _ rfl) rfl rfl rfl rfl rfl ?_
            refine wq_iload_n (pc := 32) dX7_isCounting_32 rfl rfl ?_
            refine wq_zaldK (pc := 33) dX7_isCounting_33 hs rfl (by omega) (by omega) ?_
            refine wq_if_eq (pc := 34) (tgt := 81) dX7_isCounting_34 (by decide) (by first | (unfold inR; omega) | assumption) (fun c18 => ?_) (fun c18 => ?_)
            · skip
              refine wq_iconst (pc := 81) dX7_isCounting_81 ?_
              refine wq_istore (pc := 82) (L' := [(4, _), (0, _), (1, _), (2, _), (3, _)]) dX7_isCounting_82 rfl (by decide) ?_
              refine wq_iload (pc := 84) dX7_isCounting_84 rfl ?_
              refine wq_if_eq (pc := 86) (tgt := 104) dX7_isCounting_86 (by decide) (by first | (unfold inR; omega) | assumption) (fun _ => ?_) (fun c => absurd c (by decide))
              refine wq_iconst (pc := 104) dX7_isCounting_104 ?_
              refine wq_goto (pc := 105) (tgt := 109) dX7_isCounting_105 (by decide) ?_
              refine wq_istore_n (pc := 109) (L' := [(2, _), (4, _), (0, _), (1, _), (3, _)]) dX7_isCounting_109 rfl rfl (by decide) ?_
              refine wq_iinc (pc := 110) (L' := [(3, _), (2, _), (4, _), (0, _), (1, _)]) dX7_isCounting_110 rfl rfl (by decide) ?_
              refine wq_goto (pc := 113) (tgt := 17) dX7_isCounting_113 (by decide) ?_
              refine wq_sub1 (L' := [(0, _), (1, _), (2, _), (3, _)]) ⟨rfl, rfl, rfl, rfl, trivial⟩ ?_
              first
                | (exfalso; omega)
                | exact ih (k + 1) _ _ (by omega) (by omega) (by omega) (Or.inr rfl) (fun _ => ⟨(e2 (by assumption)).1, mBlC_s (e2 (by assumption)).2 (by unfold mBlC; omega)⟩) (fun z => absurd z (by decide))
                | exact ih (k + 1) _ _ (by omega) (by omega) (by omega) (Or.inl rfl) (fun z => absurd rfl z) (fun _ z => z.2 k (by omega) (by omega) (by unfold mBlC; omega))
            · skip
              refine wq_aload_n (pc := 37) dX7_isCounting_37 rfl rfl ?_
              refine wq_getS (pc := 38) dX7_isCounting_38 hs (gf_X7_7 _ rfl) rfl rfl rfl rfl rfl ?_
              refine wq_iload_n (pc := 41) dX7_isCounting_41 rfl rfl ?_
              refine wq_ialdK (pc := 42) dX7_isCounting_42 hs rfl (by omega) (by omega) ?_
              refine wq_iconst (pc := 43) dX7_isCounting_43 ?_
              refine wq_icmp_ne (pc := 44) (tgt := 81) dX7_isCounting_44 (by decide) (by first | (unfold inR; omega) | assumption) (by first | (unfold inR; omega) | assumption) (fun c20 => ?_) (fun c20 => ?_)
              · skip
                refine wq_iconst (pc := 81) dX7_isCounting_81 ?_
                refine wq_istore (pc := 82) (L' := [(4, _), (0, _), (1, _), (2, _), (3, _)]) dX7_isCounting_82 rfl (by decide) ?_
                refine wq_iload (pc := 84) dX7_isCounting_84 rfl ?_
                refine wq_if_eq (pc := 86) (tgt := 104) dX7_isCounting_86 (by decide) (by first | (unfold inR; omega) | assumption) (fun _ => ?_) (fun c => absurd c (by decide))
                refine wq_iconst (pc := 104) dX7_isCounting_104 ?_
                refine wq_goto (pc := 105) (tgt := 109) dX7_isCounting_105 (by decide) ?_
                refine wq_istore_n (pc := 109) (L' := [(2, _), (4, _), (0, _), (1, _), (3, _)]) dX7_isCounting_109 rfl rfl (by decide) ?_
                refine wq_iinc (pc := 110) (L' := [(3, _), (2, _), (4, _), (0, _), (1, _)]) dX7_isCounting_110 rfl rfl (by decide) ?_
                refine wq_goto (pc := 113) (tgt := 17) dX7_isCounting_113 (by decide) ?_
                refine wq_sub1 (L' := [(0, _), (1, _), (2, _), (3, _)]) ⟨rfl, rfl, rfl, rfl, trivial⟩ ?_
                first
                  | (exfalso; omega)
                  | exact ih (k + 1) _ _ (by omega) (by omega) (by omega) (Or.inr rfl) (fun _ => ⟨(e2 (by assumption)).1, mBlC_s (e2 (by assumption)).2 (by unfold mBlC; omega)⟩) (fun z => absurd z (by decide))
                  | exact ih (k + 1) _ _ (by omega) (by omega) (by omega) (Or.inl rfl) (fun z => absurd rfl z) (fun _ z => z.2 k (by omega) (by omega) (by unfold mBlC; omega))
              · skip
                refine wq_aload_n (pc := 47) dX7_isCounting_47 rfl rfl ?_
                refine wq_getS (pc := 48) dX7_isCounting_48 hs (gf_X7_13 _ rfl) rfl rfl rfl rfl rfl ?_
                refine wq_iload_n (pc := 51) dX7_isCounting_51 rfl rfl ?_
                refine wq_ialdK (pc := 52) dX7_isCounting_52 hs rfl (by omega) (by omega) ?_
                refine wq_aload_n (pc := 53) dX7_isCounting_53 rfl rfl ?_
                refine wq_getS (pc := 54) dX7_isCounting_54 hs (gf_X7_13 _ rfl) rfl rfl rfl rfl rfl ?_
                refine wq_iload_n (pc := 57) dX7_isCounting_57 rfl rfl ?_
                refine wq_ialdK (pc := 58) dX7_isCounting_58 hs rfl (by omega) (by omega) ?_
                refine wq_icmp_ne (pc := 59) (tgt := 81) dX7_isCounting_59 (by decide) (by first | (unfold inR; omega) | assumption) (by first | (unfold inR; omega) | assumption) (fun c22 => ?_) (fun c22 => ?_)
                · skip
                  refine wq_iconst (pc := 81) dX7_isCounting_81 ?_
                  refine wq_istore (pc := 82) (L' := [(4, _), (0, _), (1, _), (2, _), (3, _)]) dX7_isCounting_82 rfl (by decide) ?_
                  refine wq_iload (pc := 84) dX7_isCounting_84 rfl ?_
                  refine wq_if_eq (pc := 86) (tgt := 104) dX7_isCounting_86 (by decide) (by first | (unfold inR; omega) | assumption) (fun _ => ?_) (fun c => absurd c (by decide))
                  refine wq_iconst (pc := 104) dX7_isCounting_104 ?_
                  refine wq_goto (pc := 105) (tgt := 109) dX7_isCounting_105 (by decide) ?_
                  refine wq_istore_n (pc := 109) (L' := [(2, _), (4, _), (0, _), (1, _), (3, _)]) dX7_isCounting_109 rfl rfl (by decide) ?_
                  refine wq_iinc (pc := 110) (L' := [(3, _), (2, _), (4, _), (0, _), (1, _)]) dX7_isCounting_110 rfl rfl (by decide) ?_
                  refine wq_goto (pc := 113) (tgt := 17) dX7_isCounting_113 (by decide) ?_
                  refine wq_sub1 (L' := [(0, _), (1, _), (2, _), (3, _)]) ⟨rfl, rfl, rfl, rfl, trivial⟩ ?_
                  first
                    | (exfalso; omega)
                    | exact ih (k + 1) _ _ (by omega) (by omega) (by omega) (Or.inr rfl) (fun _ => ⟨(e2 (by assumption)).1, mBlC_s (e2 (by assumption)).2 (by unfold mBlC; omega)⟩) (fun z => absurd z (by decide))
                    | exact ih (k + 1) _ _ (by omega) (by omega) (by omega) (Or.inl rfl) (fun z => absurd rfl z) (fun _ z => z.2 k (by omega) (by omega) (by unfold mBlC; omega))
                · skip
                  refine wq_aload_n (pc := 62) dX7_isCounting_62 rfl rfl ?_
                  refine wq_getS (pc := 63) dX7_isCounting_63 hs (gf_X7_32 _ rfl) rfl rfl rfl rfl rfl ?_
                  refine wq_iload_n (pc := 66) dX7_isCounting_66 rfl rfl ?_
                  refine wq_ialdK (pc := 67) dX7_isCounting_67 hs rfl (by omega) (by omega) ?_
                  refine wq_aload_n (pc := 68) dX7_isCounting_68 rfl rfl ?_
                  refine wq_getS (pc := 69) dX7_isCounting_69 hs (gf_X7_32 _ rfl) rfl rfl rfl rfl rfl ?_
                  refine wq_iload_n (pc := 72) dX7_isCounting_72 rfl rfl ?_
                  refine wq_ialdK (pc := 73) dX7_isCounting_73 hs rfl (by omega) (by omega) ?_
                  refine wq_icmp_ne (pc := 74) (tgt := 81) dX7_isCounting_74 (by decide) (by first | (unfold inR; omega) | assumption) (by first | (unfold inR; omega) | assumption) (fun c24 => ?_) (fun c24 => ?_)
                  · skip
                    refine wq_iconst (pc := 81) dX7_isCounting_81 ?_
                    refine wq_istore (pc := 82) (L' := [(4, _), (0, _), (1, _), (2, _), (3, _)]) dX7_isCounting_82 rfl (by decide) ?_
                    refine wq_iload (pc := 84) dX7_isCounting_84 rfl ?_
                    refine wq_if_eq (pc := 86) (tgt := 104) dX7_isCounting_86 (by decide) (by first | (unfold inR; omega) | assumption) (fun _ => ?_) (fun c => absurd c (by decide))
                    refine wq_iconst (pc := 104) dX7_isCounting_104 ?_
                    refine wq_goto (pc := 105) (tgt := 109) dX7_isCounting_105 (by decide) ?_
                    refine wq_istore_n (pc := 109) (L' := [(2, _), (4, _), (0, _), (1, _), (3, _)]) dX7_isCounting_109 rfl rfl (by decide) ?_
                    refine wq_iinc (pc := 110) (L' := [(3, _), (2, _), (4, _), (0, _), (1, _)]) dX7_isCounting_110 rfl rfl (by decide) ?_
                    refine wq_goto (pc := 113) (tgt := 17) dX7_isCounting_113 (by decide) ?_
                    refine wq_sub1 (L' := [(0, _), (1, _), (2, _), (3, _)]) ⟨rfl, rfl, rfl, rfl, trivial⟩ ?_
                    first
                      | (exfalso; omega)
                      | exact ih (k + 1) _ _ (by omega) (by omega) (by omega) (Or.inr rfl) (fun _ => ⟨(e2 (by assumption)).1, mBlC_s (e2 (by assumption)).2 (by unfold mBlC; omega)⟩) (fun z => absurd z (by decide))
                      | exact ih (k + 1) _ _ (by omega) (by omega) (by omega) (Or.inl rfl) (fun z => absurd rfl z) (fun _ z => z.2 k (by omega) (by omega) (by unfold mBlC; omega))
                  · skip
                    refine wq_iconst (pc := 77) dX7_isCounting_77 ?_
                    refine wq_goto (pc := 78) (tgt := 82) dX7_isCounting_78 (by decide) ?_
                    refine wq_istore (pc := 82) (L' := [(4, _), (0, _), (1, _), (2, _), (3, _)]) dX7_isCounting_82 rfl (by decide) ?_
                    refine wq_iload (pc := 84) dX7_isCounting_84 rfl ?_
                    refine wq_if_eq (pc := 86) (tgt := 104) dX7_isCounting_86 (by decide) (by first | (unfold inR; omega) | assumption) (fun c => absurd c (by decide)) (fun _ => ?_)
                    refine wq_aload_n (pc := 89) dX7_isCounting_89 rfl rfl ?_
                    refine wq_getS (pc := 90) dX7_isCounting_90 hs (gf_X7_16 _ rfl) rfl rfl rfl rfl rfl ?_
                    refine wq_iload_n (pc := 93) dX7_isCounting_93 rfl rfl ?_
                    refine wq_ialdK (pc := 94) dX7_isCounting_94 hs rfl (by omega) (by omega) ?_
                    refine wq_aload_n (pc := 95) dX7_isCounting_95 rfl rfl ?_
                    refine wq_getS (pc := 96) dX7_isCounting_96 hs (gf_X7_16 _ rfl) rfl rfl rfl rfl rfl ?_
                    refine wq_iload_n (pc := 99) dX7_isCounting_99 rfl rfl ?_
                    refine wq_ialdK (pc := 100) dX7_isCounting_100 hs rfl (by omega) (by omega) ?_
                    refine wq_icmp_gt (pc := 101) (tgt := 108) dX7_isCounting_101 (by decide) (by first | (unfold inR; omega) | assumption) (by first | (unfold inR; omega) | assumption) (fun c27 => ?_) (fun c27 => ?_)
                    · skip
                      refine wq_iconst (pc := 108) dX7_isCounting_108 ?_
                      refine wq_istore_n (pc := 109) (L' := [(2, _), (4, _), (0, _), (1, _), (3, _)]) dX7_isCounting_109 rfl rfl (by decide) ?_
                      refine wq_iinc (pc := 110) (L' := [(3, _), (2, _), (4, _), (0, _), (1, _)]) dX7_isCounting_110 rfl rfl (by decide) ?_
                      refine wq_goto (pc := 113) (tgt := 17) dX7_isCounting_113 (by decide) ?_
                      refine wq_sub1 (L' := [(0, _), (1, _), (2, _), (3, _)]) ⟨rfl, rfl, rfl, rfl, trivial⟩ ?_
                      first
                        | (exfalso; omega)
                        | exact ih (k + 1) _ _ (by omega) (by omega) (by omega) (Or.inr rfl) (fun _ => ⟨(e2 (by assumption)).1, mBlC_s (e2 (by assumption)).2 (by unfold mBlC; omega)⟩) (fun z => absurd z (by decide))
                        | exact ih (k + 1) _ _ (by omega) (by omega) (by omega) (Or.inl rfl) (fun z => absurd rfl z) (fun _ z => z.2 k (by omega) (by omega) (by unfold mBlC; omega))
                    · skip
                      refine wq_iconst (pc := 104) dX7_isCounting_104 ?_
                      refine wq_goto (pc := 105) (tgt := 109) dX7_isCounting_105 (by decide) ?_
                      refine wq_istore_n (pc := 109) (L' := [(2, _), (4, _), (0, _), (1, _), (3, _)]) dX7_isCounting_109 rfl rfl (by decide) ?_
                      refine wq_iinc (pc := 110) (L' := [(3, _), (2, _), (4, _), (0, _), (1, _)]) dX7_isCounting_110 rfl rfl (by decide) ?_
                      refine wq_goto (pc := 113) (tgt := 17) dX7_isCounting_113 (by decide) ?_
                      refine wq_sub1 (L' := [(0, _), (1, _), (2, _), (3, _)]) ⟨rfl, rfl, rfl, rfl, trivial⟩ ?_
                      first
                        | (exfalso; omega)
                        | exact ih (k + 1) _ _ (by omega) (by omega) (by omega) (Or.inr rfl) (fun _ => ⟨(e2 (by assumption)).1, mBlC_s (e2 (by assumption)).2 (by unfold mBlC; omega)⟩) (fun z => absurd z (by decide))
                        | exact ih (k + 1) _ _ (by omega) (by omega) (by omega) (Or.inl rfl) (fun z => absurd rfl z) (fun _ z => z.2 k (by omega) (by omega) (by unfold mBlC; omega))
    refine wq_sub1 (L' := [(0, _), (1, _), (2, _), (3, _)]) ⟨rfl, rfl, rfl, rfl, trivial⟩ ?_
    exact loop15 129 0 _ _ (by omega) (by omega) (by omega) (by omega) (fun z => ⟨by first | omega | exact absurd rfl z, fun j j0 j1 => absurd j1 (by omega)⟩) (fun z q => by have := q.1; omega)
