/-- the first present data node of a file behind a version -/
def mNxt (μ : nMem) (f v : Int) : Nat → Int
  | 0 => -1
  | k + 1 => if μ 41 k ≠ 0 ∧ μ 22 k = 1 ∧ μ 23 k = f ∧ v < μ 24 k ∧ (mNxt μ f v k = -1 ∨ μ 24 k < μ 24 (mNxt μ f v k)) then (k : Int) else mNxt μ f v k
theorem mNxt_s (μ : nMem) (f v : Int) (k : Nat) : mNxt μ f v (k + 1) = if μ 41 k ≠ 0 ∧ μ 22 k = 1 ∧ μ 23 k = f ∧ v < μ 24 k ∧ (mNxt μ f v k = -1 ∨ μ 24 k < μ 24 (mNxt μ f v k)) then (k : Int) else mNxt μ f v k := rfl
theorem mNxt_r (μ : nMem) (f v : Int) : ∀ k : Nat, mNxt μ f v k = -1 ∨ (0 ≤ mNxt μ f v k ∧ mNxt μ f v k < k)
  | 0 => Or.inl rfl
  | k + 1 => by
    have := mNxt_r μ f v k
    rw [mNxt_s]
    split <;> omega
theorem sp_X7_fits {μ : nMem} {ε : nEnv} {Q : nOut → nMem → nEnv → Prop} {a b d : Int} (a0 : 0 ≤ a) (a1 : a ≤ 1000) (b0 : 0 ≤ b) (b1 : b ≤ 1000) (d0 : 0 ≤ d) (d1 : d ≤ 1000) (h1 : a + b + d + 2 ≤ 40 → Q (.inl (some (vI 1))) μ ε) (h2 : ¬ a + b + d + 2 ≤ 40 → Q (.inl (some (vI 0))) μ ε) : Sp mX7_fits [vI a, vI b, vI d] μ ε Q := by
  refine Sp_of (L := [(0, vI a), (1, vI b), (2, vI d)]) (by decide) rfl rfl (Nat.le_of_ble_eq_true rfl) ?_
  refine wq_iload_n (pc := 0) dX7_fits_0 rfl rfl ?_
  refine wq_iload_n (pc := 1) dX7_fits_1 rfl rfl ?_
  refine wq_iadd (pc := 2) dX7_fits_2 ?_
  refine wq_iload_n (pc := 3) dX7_fits_3 rfl rfl ?_
  refine wq_iadd (pc := 4) dX7_fits_4 ?_
  refine wq_iconst (pc := 5) dX7_fits_5 ?_
  refine wq_iadd (pc := 6) dX7_fits_6 ?_
  refine wq_bipush (pc := 7) dX7_fits_7 (by decide) (by decide) ?_
  refine wq_icmp_gt (pc := 9) (tgt := 16) dX7_fits_9 (by decide) (by first | (unfold inR; omega) | assumption) (by first | (unfold inR; omega) | assumption) (fun c1 => ?_) (fun c1 => ?_)
  · skip
    refine wq_iconst (pc := 16) dX7_fits_16 ?_
    refine wq_zret (pc := 17) dX7_fits_17 rfl (by first | omega | (simp; done) | assumption) ?_
    first | exact h1 (by omega) | exact h2 (by omega)
  · skip
    refine wq_iconst (pc := 12) dX7_fits_12 ?_
    refine wq_goto (pc := 13) (tgt := 17) dX7_fits_13 (by decide) ?_
    refine wq_zret (pc := 17) dX7_fits_17 rfl (by first | omega | (simp; done) | assumption) ?_
    first | exact h1 (by omega) | exact h2 (by omega)
theorem sp_X7_nextData {μ : nMem} {ε : nEnv} {Q : nOut → nMem → nEnv → Prop} {f v : Int} (hs : SkP skM ε) (hr : mR μ) (rf : inR f) (rv : inR v) (h : Q (.inl (some (vI (mNxt μ f v 128)))) μ ε) : Sp mX7_nextData [vR 21, vI f, vI v] μ ε Q := by
  refine Sp_of (L := [(0, vR 21), (1, vI f), (2, vI v)]) (by decide) rfl rfl (Nat.le_of_ble_eq_true rfl) ?_
  refine wq_iconst (pc := 0) dX7_nextData_0 ?_
  refine wq_istore_n (pc := 1) (L' := [(3, _), (0, _), (1, _), (2, _)]) dX7_nextData_1 rfl rfl (by decide) ?_
  refine wq_iconst (pc := 2) dX7_nextData_2 ?_
  refine wq_istore (pc := 3) (L' := [(4, _), (3, _), (0, _), (1, _), (2, _)]) dX7_nextData_3 rfl (by decide) ?_
  have loop1 : ∀ (n k : Nat), ∀ (w : Int) (j : Int), k ≤ 128 → 128 < k + n → j = (k : Int) → w = mNxt μ f v k → wp mX7_nextData 5 [(0, vR 21), (1, vI f), (2, vI v), (3, vI w), (4, vI j)] [] μ ε Q := by
    intro n
    induction n with
    | zero => intro k w j hk1 hk2 e0 e1; exact absurd hk2 (by omega)
    | succ n ih =>
      intro k w j hk1 hk2 e0 e1
      subst e0
      have hb : w = -1 ∨ (0 ≤ w ∧ w < (k : Int)) := by rw [e1]; exact mNxt_r μ f v k
      have r41 := hr 41 k (by decide) (by decide) (by decide)
      have r22 := hr 22 k (by decide) (by decide) (by decide)
      have r23 := hr 23 k (by decide) (by decide) (by decide)
      have r24 := hr 24 k (by decide) (by decide) (by decide)
      have r24w := hr 24 w (by decide) (by decide) (by decide)
      have rw1 : inR w := by unfold inR; omega
      have rk : inR (k : Int) := by unfold inR; omega
      refine wq_iload (pc := 5) dX7_nextData_5 rfl ?_
      refine wq_sipush (pc := 7) dX7_nextData_7 (by decide) (by decide) ?_
      refine wq_icmp_ge (pc := 10) (tgt := 102) dX7_nextData_10 (by decide) (by first | (unfold inR; omega) | assumption) (by first | (unfold inR; omega) | assumption) (fun c2 => ?_) (fun c2 => ?_)
      · skip
        refine wq_iload_n (pc := 102) dX7_nextData_102 rfl rfl ?_
        refine wq_iret (pc := 103) dX7_nextData_103 rfl ?_
        have hk : k = 128 := by omega
        subst hk
        rw [e1]; exact h
      · skip
        refine wq_aload_n (pc := 13) dX7_nextData_13 rfl rfl ?_
        refine wq_getS (pc := 14) dX7_nextData_14 hs (gf_X7_69 _ rfl) rfl rfl rfl rfl rfl ?_
        refine wq_iload (pc := 17) dX7_nextData_17 rfl ?_
        refine wq_zaldK (pc := 19) dX7_nextData_19 hs rfl (by omega) (by omega) ?_
        refine wq_if_eq (pc := 20) (tgt := 60) dX7_nextData_20 (by decide) (by first | (unfold inR; omega) | assumption) (fun c3 => ?_) (fun c3 => ?_)
        · skip
          refine wq_iconst (pc := 60) dX7_nextData_60 ?_
          refine wq_istore (pc := 61) (L' := [(5, _), (0, _), (1, _), (2, _), (3, _), (4, _)]) dX7_nextData_61 rfl (by decide) ?_
          refine wq_iload (pc := 63) dX7_nextData_63 rfl ?_
          refine wq_if_eq (pc := 65) (tgt := 94) dX7_nextData_65 (by decide) (by first | (unfold inR; omega) | assumption) (fun _ => ?_) (fun c => absurd c (by decide))
          refine wq_iload_n (pc := 94) dX7_nextData_94 rfl rfl ?_
          refine wq_istore_n (pc := 95) (L' := [(3, _), (5, _), (0, _), (1, _), (2, _), (4, _)]) dX7_nextData_95 rfl rfl (by decide) ?_
          refine wq_iinc (pc := 96) (L' := [(4, _), (3, _), (5, _), (0, _), (1, _), (2, _)]) dX7_nextData_96 rfl rfl (by decide) ?_
          refine wq_goto (pc := 99) (tgt := 5) dX7_nextData_99 (by decide) ?_
          refine wq_sub1 (L' := [(0, _), (1, _), (2, _), (3, _), (4, _)]) ⟨rfl, rfl, rfl, rfl, rfl, trivial⟩ ?_
          first
            | (exfalso; omega)
            | exact ih (k + 1) _ _ (by omega) (by omega) (by omega) (by rw [mNxt_s, ← e1, if_pos (by omega)])
            | exact ih (k + 1) _ _ (by omega) (by omega) (by omega) (by rw [mNxt_s, ← e1, if_neg (by omega)])
        · skip
          refine wq_aload_n (pc := 23) dX7_nextData_23 rfl rfl ?_
          refine wq_getS (pc := 24) dX7_nextData_24 hs (gf_X7_7 _ rfl) rfl rfl rfl rfl rfl ?_
          refine wq_iload (pc := 27) dX7_nextData_27 rfl ?_
          refine wq_ialdK (pc := 29) dX7_nextData_29 hs rfl (by omega) (by omega) ?_
          refine wq_iconst (pc := 30) dX7_nextData_30 ?_
          refine wq_icmp_ne (pc := 31) (tgt := 60) dX7_nextData_31 (by decide) (by first | (unfold inR; omega) | assumption) (by first | (unfold inR; omega) | assumption) (fun c5 => ?_) (fun c5 => ?_)
          · skip
            refine wq_iconst (pc := 60) dX7_nextData_60 ?_
            refine wq_istore (pc := 61) (L' := [(5, _), (0, _), (1, _), (2, _), (3, _), (4, _)]) dX7_nextData_61 rfl (by decide) ?_
            refine wq_iload (pc := 63) dX7_nextData_63 rfl ?_
            refine wq_if_eq (pc := 65) (tgt := 94) dX7_nextData_65 (by decide) (by first | (unfold inR; omega) | assumption) (fun _ => ?_) (fun c => absurd c (by decide))
            refine wq_iload_n (pc := 94) dX7_nextData_94 rfl rfl ?_
            refine wq_istore_n (pc := 95) (L' := [(3, _), (5, _), (0, _), (1, _), (2, _), (4, _)]) dX7_nextData_95 rfl rfl (by decide) ?_
            refine wq_iinc (pc := 96) (L' := [(4, _), (3, _), (5, _), (0, _), (1, _), (2, _)]) dX7_nextData_96 rfl rfl (by decide) ?_
            refine wq_goto (pc := 99) (tgt := 5) dX7_nextData_99 (by decide) ?_
            refine wq_sub1 (L' := [(0, _), (1, _), (2, _), (3, _), (4, _)]) ⟨rfl, rfl, rfl, rfl, rfl, trivial⟩ ?_
            first
              | (exfalso; omega)
              | exact ih (k + 1) _ _ (by omega) (by omega) (by omega) (by rw [mNxt_s, ← e1, if_pos (by omega)])
              | exact ih (k + 1) _ _ (by omega) (by omega) (by omega) (by rw [mNxt_s, ← e1, if_neg (by omega)])
          · skip
            refine wq_aload_n (pc := 34) dX7_nextData_34 rfl rfl ?_
            refine wq_getS (pc := 35) dX7_nextData_35 hs (gf_X7_13 _ rfl) rfl rfl rfl rfl rfl ?_
            refine wq_iload (pc := 38) dX7_nextData_38 rfl ?_
            refine wq_ialdK (pc := 40) dX7_nextData_40 hs rfl (by omega) (by omega) ?_
            refine wq_iload_n (pc := 41) dX7_nextData_41 rfl rfl ?_
            refine wq_icmp_ne (pc := 42) (tgt := 60) dX7_nextData_42 (by decide) (by first | (unfold inR; omega) | assumption) (by first | (unfold inR; omega) | assumption) (fun c7 => ?_) (fun c7 => ?_)
            · skip
              refine wq_iconst (pc := 60) dX7_nextData_60 ?_
              refine wq_istore (pc := 61) (L' := [(5, _), (0, _), (1, _), (2, _), (3, _), (4, _)]) dX7_nextData_61 rfl (by decide) ?_
              refine wq_iload (pc := 63) dX7_nextData_63 rfl ?_
              refine wq_if_eq (pc := 65) (tgt := 94) dX7_nextData_65 (by decide) (by first | (unfold inR; omega) | assumption) (fun _ => ?_) (fun c => absurd c (by decide))
              refine wq_iload_n (pc := 94) dX7_nextData_94 rfl rfl ?_
              refine wq_istore_n (pc := 95) (L' := [(3, _), (5, _), (0, _), (1, _), (2, _), (4, _)]) dX7_nextData_95 rfl rfl (by decide) ?_
              refine wq_iinc (pc := 96) (L' := [(4, _), (3, _), (5, _), (0, _), (1, _), (2, _)]) dX7_nextData_96 rfl rfl (by decide) ?_
              refine wq_goto (pc := 99) (tgt := 5) dX7_nextData_99 (by decide) ?_
              refine wq_sub1 (L' := [(0, _), (1, _), (2, _), (3, _), (4, _)]) ⟨rfl, rfl, rfl, rfl, rfl, trivial⟩ ?_
              first
                | (exfalso; omega)
                | exact ih (k + 1) _ _ (by omega) (by omega) (by omega) (by rw [mNxt_s, ← e1, if_pos (by omega)])
                | exact ih (k + 1) _ _ (by omega) (by omega) (by omega) (by rw [mNxt_s, ← e1, if_neg (by omega)])
            · skip
              refine wq_aload_n (pc := 45) dX7_nextData_45 rfl rfl ?_
              refine wq_getS (pc := 46) dX7_nextData_46 hs (gf_X7_16 _ rfl) rfl rfl rfl rfl rfl ?_
              refine wq_iload (pc := 49) dX7_nextData_49 rfl ?_
              refine wq_ialdK (pc := 51) dX7_nextData_51 hs rfl (by omega) (by omega) ?_
              refine wq_iload_n (pc := 52) dX7_nextData_52 rfl rfl ?_
              refine wq_icmp_le (pc := 53) (tgt := 60) dX7_nextData_53 (by decide) (by first | (unfold inR; omega) | assumption) (by first | (unfold inR; omega) | assumption) (fun c9 => ?_) (fun c9 => ?_)
              · skip
                refine wq_iconst (pc := 60) dX7_nextData_60 ?_
                refine wq_istore (pc := 61) (L' := [(5, _), (0, _), (1, _), (2, _), (3, _), (4, _)]) dX7_nextData_61 rfl (by decide) ?_
                refine wq_iload (pc := 63) dX7_nextData_63 rfl ?_
                refine wq_if_eq (pc := 65) (tgt := 94) dX7_nextData_65 (by decide) (by first | (unfold inR; omega) | assumption) (fun _ => ?_) (fun c => absurd c (by decide))
                refine wq_iload_n (pc := 94) dX7_nextData_94 rfl rfl ?_
                refine wq_istore_n (pc := 95) (L' := [(3, _), (5, _), (0, _), (1, _), (2, _), (4, _)]) dX7_nextData_95 rfl rfl (by decide) ?_
                refine wq_iinc (pc := 96) (L' := [(4, _), (3, _), (5, _), (0, _), (1, _), (2, _)]) dX7_nextData_96 rfl rfl (by decide) ?_
                refine wq_goto (pc := 99) (tgt := 5) dX7_nextData_99 (by decide) ?_
                refine wq_sub1 (L' := [(0, _), (1, _), (2, _), (3, _), (4, _)]) ⟨rfl, rfl, rfl, rfl, rfl, trivial⟩ ?_
                first
                  | (exfalso; omega)
                  | exact ih (k + 1) _ _ (by omega) (by omega) (by omega) (by rw [mNxt_s, ← e1, if_pos (by omega)])
                  | exact ih (k + 1) _ _ (by omega) (by omega) (by omega) (by rw [mNxt_s, ← e1, if_neg (by omega)])
              · skip
                refine wq_iconst (pc := 56) dX7_nextData_56 ?_
                refine wq_goto (pc := 57) (tgt := 61) dX7_nextData_57 (by decide) ?_
                refine wq_istore (pc := 61) (L' := [(5, _), (0, _), (1, _), (2, _), (3, _), (4, _)]) dX7_nextData_61 rfl (by decide) ?_
                refine wq_iload (pc := 63) dX7_nextData_63 rfl ?_
                refine wq_if_eq (pc := 65) (tgt := 94) dX7_nextData_65 (by decide) (by first | (unfold inR; omega) | assumption) (fun c => absurd c (by decide)) (fun _ => ?_)
                refine wq_iload_n (pc := 68) dX7_nextData_68 rfl rfl ?_
                refine wq_iconst (pc := 69) dX7_nextData_69 ?_
                refine wq_icmp_eq (pc := 70) (tgt := 89) dX7_nextData_70 (by decide) (by first | (unfold inR; omega) | assumption) (by first | (unfold inR; omega) | assumption) (fun c12 => ?_) (fun c12 => ?_)
                · skip
                  refine wq_iload (pc := 89) dX7_nextData_89 rfl ?_
                  refine wq_goto (pc := 91) (tgt := 95) dX7_nextData_91 (by decide) ?_
                  refine wq_istore_n (pc := 95) (L' := [(3, _), (5, _), (0, _), (1, _), (2, _), (4, _)]) dX7_nextData_95 rfl rfl (by decide) ?_
                  refine wq_iinc (pc := 96) (L' := [(4, _), (3, _), (5, _), (0, _), (1, _), (2, _)]) dX7_nextData_96 rfl rfl (by decide) ?_
                  refine wq_goto (pc := 99) (tgt := 5) dX7_nextData_99 (by decide) ?_
                  refine wq_sub1 (L' := [(0, _), (1, _), (2, _), (3, _), (4, _)]) ⟨rfl, rfl, rfl, rfl, rfl, trivial⟩ ?_
                  first
                    | (exfalso; omega)
                    | exact ih (k + 1) _ _ (by omega) (by omega) (by omega) (by rw [mNxt_s, ← e1, if_pos (by omega)])
                    | exact ih (k + 1) _ _ (by omega) (by omega) (by omega) (by rw [mNxt_s, ← e1, if_neg (by omega)])
                · skip
                  refine wq_aload_n (pc := 73) dX7_nextData_73 rfl rfl ?_
                  refine wq_getS (pc := 74) dX7_nextData_74 hs (gf_X7_16 _ rfl) rfl rfl rfl rfl rfl ?_
                  refine wq_iload (pc := 77) dX7_nextData_77 rfl ?_
                  refine wq_ialdK (pc := 79) dX7_nextData_79 hs rfl (by omega) (by omega) ?_
                  refine wq_aload_n (pc := 80) dX7_nextData_80 rfl rfl ?_
                  refine wq_getS (pc := 81) dX7_nextData_81 hs (gf_X7_16 _ rfl) rfl rfl rfl rfl rfl ?_
                  refine wq_iload_n (pc := 84) dX7_nextData_84 rfl rfl ?_
                  refine wq_ialdK (pc := 85) dX7_nextData_85 hs rfl (by omega) (by omega) ?_
                  refine wq_icmp_ge (pc := 86) (tgt := 94) dX7_nextData_86 (by decide) (by first | (unfold inR; omega) | assumption) (by first | (unfold inR; omega) | assumption) (fun c13 => ?_) (fun c13 => ?_)
                  · skip
                    refine wq_iload_n (pc := 94) dX7_nextData_94 rfl rfl ?_
                    refine wq_istore_n (pc := 95) (L' := [(3, _), (5, _), (0, _), (1, _), (2, _), (4, _)]) dX7_nextData_95 rfl rfl (by decide) ?_
                    refine wq_iinc (pc := 96) (L' := [(4, _), (3, _), (5, _), (0, _), (1, _), (2, _)]) dX7_nextData_96 rfl rfl (by decide) ?_
                    refine wq_goto (pc := 99) (tgt := 5) dX7_nextData_99 (by decide) ?_
                    refine wq_sub1 (L' := [(0, _), (1, _), (2, _), (3, _), (4, _)]) ⟨rfl, rfl, rfl, rfl, rfl, trivial⟩ ?_
                    first
                      | (exfalso; omega)
                      | exact ih (k + 1) _ _ (by omega) (by omega) (by omega) (by rw [mNxt_s, ← e1, if_pos (by omega)])
                      | exact ih (k + 1) _ _ (by omega) (by omega) (by omega) (by rw [mNxt_s, ← e1, if_neg (by omega)])
                  · skip
                    refine wq_iload (pc := 89) dX7_nextData_89 rfl ?_
                    refine wq_goto (pc := 91) (tgt := 95) dX7_nextData_91 (by decide) ?_
                    refine wq_istore_n (pc := 95) (L' := [(3, _), (5, _), (0, _), (1, _), (2, _), (4, _)]) dX7_nextData_95 rfl rfl (by decide) ?_
                    refine wq_iinc (pc := 96) (L' := [(4, _), (3, _), (5, _), (0, _), (1, _), (2, _)]) dX7_nextData_96 rfl rfl (by decide) ?_
                    refine wq_goto (pc := 99) (tgt := 5) dX7_nextData_99 (by decide) ?_
                    refine wq_sub1 (L' := [(0, _), (1, _), (2, _), (3, _), (4, _)]) ⟨rfl, rfl, rfl, rfl, rfl, trivial⟩ ?_
                    first
                      | (exfalso; omega)
                      | exact ih (k + 1) _ _ (by omega) (by omega) (by omega) (by rw [mNxt_s, ← e1, if_pos (by omega)])
                      | exact ih (k + 1) _ _ (by omega) (by omega) (by omega) (by rw [mNxt_s, ← e1, if_neg (by omega)])
  refine wq_sub1 (L' := [(0, _), (1, _), (2, _), (3, _), (4, _)]) ⟨rfl, rfl, rfl, rfl, rfl, trivial⟩ ?_
  exact loop1 129 0 _ _ (by omega) (by omega) (by omega) rfl
def mTorn (μ : nMem) (b : Int) : Prop := ∃ p : Int, 0 ≤ p ∧ p < μ 34 b ∧ μ 33 (16 * b + p) ≠ μ 32 (16 * b + p)
theorem sp_X7_hasTorn {μ : nMem} {ε : nEnv} {Q : nOut → nMem → nEnv → Prop} {b : Int} (hs : SkP skM ε) (hr : mR μ) (b0 : 0 ≤ b) (b1 : b < 8) (n0 : 0 ≤ μ 34 b) (n1 : μ 34 b ≤ 16) (h1 : mTorn μ b → Q (.inl (some (vI 1))) μ ε) (h2 : ¬ mTorn μ b → Q (.inl (some (vI 0))) μ ε) : Sp mX7_hasTorn [vR 21, vI b] μ ε Q := by
  refine Sp_of (L := [(0, vR 21), (1, vI b)]) (by decide) rfl rfl (Nat.le_of_ble_eq_true rfl) ?_
  refine wq_iconst (pc := 0) dX7_hasTorn_0 ?_
  refine wq_istore_n (pc := 1) (L' := [(2, _), (0, _), (1, _)]) dX7_hasTorn_1 rfl rfl (by decide) ?_
  refine wq_bipush (pc := 2) dX7_hasTorn_2 (by decide) (by decide) ?_
  refine wq_iload_n (pc := 4) dX7_hasTorn_4 rfl rfl ?_
  refine wq_imul (pc := 5) dX7_hasTorn_5 ?_
  refine wq_istore_n (pc := 6) (L' := [(3, _), (2, _), (0, _), (1, _)]) dX7_hasTorn_6 rfl rfl (by decide) ?_
  have loop1 : ∀ (n k : Nat), ∀ (w : Int) (j : Int), k ≤ 16 → 16 < k + n → j = 16 * b + (k : Int) → w = 0 ∨ w = 1 → (w ≠ 0 → mTorn μ b) → (w = 0 → ∀ p : Int, 0 ≤ p → p < (k : Int) → μ 33 (16 * b + p) = μ 32 (16 * b + p)) → wp mX7_hasTorn 7 [(0, vR 21), (1, vI b), (2, vI w), (3, vI j)] [] μ ε Q := by
    intro n
    induction n with
    | zero => intro k w j hk1 hk2 e0 e1 e2 e3; exact absurd hk2 (by omega)
    | succ n ih =>
      intro k w j hk1 hk2 e0 e1 e2 e3
      subst e0
      have rw1 : inR w := by unfold inR; omega
      have rk : inR (16 * b + (k : Int)) := by unfold inR; omega
      refine wq_iload_n (pc := 7) dX7_hasTorn_7 rfl rfl ?_
      refine wq_bipush (pc := 8) dX7_hasTorn_8 (by decide) (by decide) ?_
      refine wq_iload_n (pc := 10) dX7_hasTorn_10 rfl rfl ?_
      refine wq_imul (pc := 11) dX7_hasTorn_11 ?_
      refine wq_aload_n (pc := 12) dX7_hasTorn_12 rfl rfl ?_
      refine wq_getS (pc := 13) dX7_hasTorn_13 hs (gf_X7_48 _ rfl) rfl rfl rfl rfl rfl ?_
      refine wq_iload_n (pc := 16) dX7_hasTorn_16 rfl rfl ?_
      refine wq_ialdK (pc := 17) dX7_hasTorn_17 hs rfl (by omega) (by omega) ?_
      refine wq_iadd (pc := 18) dX7_hasTorn_18 ?_
      refine wq_icmp_ge (pc := 19) (tgt := 46) dX7_hasTorn_19 (by decide) (by first | (unfold inR; omega) | assumption) (by first | (unfold inR; omega) | assumption) (fun c2 => ?_) (fun c2 => ?_)
      · skip
        refine wq_iload_n (pc := 46) dX7_hasTorn_46 rfl rfl ?_
        refine wq_zret (pc := 47) dX7_hasTorn_47 rfl (by first | omega | (simp; done) | assumption) ?_
        rcases e1 with c | c
        · rw [c]; exact h2 (fun ⟨p, p0, p1, p2⟩ => p2 (e3 c p p0 (by omega)))
        · rw [c]; exact h1 (e2 (by omega))
      · skip
        refine wq_iload_n (pc := 22) dX7_hasTorn_22 rfl rfl ?_
        refine wq_if_ne (pc := 23) (tgt := 34) dX7_hasTorn_23 (by decide) (by first | (unfold inR; omega) | assumption) (fun c3 => ?_) (fun c3 => ?_)
        · skip
          refine wq_iconst (pc := 34) dX7_hasTorn_34 ?_
          refine wq_goto (pc := 35) (tgt := 39) dX7_hasTorn_35 (by decide) ?_
          refine wq_istore_n (pc := 39) (L' := [(2, _), (0, _), (1, _), (3, _)]) dX7_hasTorn_39 rfl rfl (by decide) ?_
          refine wq_iinc (pc := 40) (L' := [(3, _), (2, _), (0, _), (1, _)]) dX7_hasTorn_40 rfl rfl (by decide) ?_
          refine wq_goto (pc := 43) (tgt := 7) dX7_hasTorn_43 (by decide) ?_
          refine wq_sub1 (L' := [(0, _), (1, _), (2, _), (3, _)]) ⟨rfl, rfl, rfl, rfl, trivial⟩ ?_
          first
            | (exfalso; omega)
            | exact ih (k + 1) _ _ (by omega) (by omega) (by omega) (Or.inr rfl) (fun _ => e2 (by assumption)) (fun z => absurd z (by decide))
            | exact ih (k + 1) _ _ (by omega) (by omega) (by omega) (Or.inr rfl) (fun _ => ⟨k, by omega, by omega, by omega⟩) (fun z => absurd z (by decide))
            | exact ih (k + 1) _ _ (by omega) (by omega) (by omega) (Or.inl rfl) (fun z => absurd rfl z) (fun _ p p0 p1 => by
                by_cases c : p = k
                · rw [c]; omega
                · exact e3 (by omega) p p0 (by omega))
        · skip
          refine wq_aload_n (pc := 26) dX7_hasTorn_26 rfl rfl ?_
          refine wq_iload_n (pc := 27) dX7_hasTorn_27 rfl rfl ?_
          refine cVK_1 (pc := 28) dX7_hasTorn_28 hs (cw_X7_155 _ rfl) (by decide) rfl ⟨by decide, by decide⟩ (Nat.le_of_ble_eq_true rfl) (sp_X7_isWhole hs (by omega) (by omega) (hr 34 _ (by decide) (by decide) (by decide)) (hr 33 _ (by decide) (by decide) (by decide)) (hr 32 _ (by decide) (by decide) (by decide)) (fun hw => ?_) (fun hw => ?_))
          · skip
            refine kr_s ?_
            have hd : (16 * b + (k : Int)) / 16 = b := by omega
            rw [hd] at hw
            refine wq_if_ne (pc := 31) (tgt := 38) dX7_hasTorn_31 (by decide) (by first | (unfold inR; omega) | assumption) (fun _ => ?_) (fun c => absurd c (by decide))
            refine wq_iconst (pc := 38) dX7_hasTorn_38 ?_
            refine wq_istore_n (pc := 39) (L' := [(2, _), (0, _), (1, _), (3, _)]) dX7_hasTorn_39 rfl rfl (by decide) ?_
            refine wq_iinc (pc := 40) (L' := [(3, _), (2, _), (0, _), (1, _)]) dX7_hasTorn_40 rfl rfl (by decide) ?_
            refine wq_goto (pc := 43) (tgt := 7) dX7_hasTorn_43 (by decide) ?_
            refine wq_sub1 (L' := [(0, _), (1, _), (2, _), (3, _)]) ⟨rfl, rfl, rfl, rfl, trivial⟩ ?_
            first
              | (exfalso; omega)
              | exact ih (k + 1) _ _ (by omega) (by omega) (by omega) (Or.inr rfl) (fun _ => e2 (by assumption)) (fun z => absurd z (by decide))
              | exact ih (k + 1) _ _ (by omega) (by omega) (by omega) (Or.inr rfl) (fun _ => ⟨k, by omega, by omega, by omega⟩) (fun z => absurd z (by decide))
              | exact ih (k + 1) _ _ (by omega) (by omega) (by omega) (Or.inl rfl) (fun z => absurd rfl z) (fun _ p p0 p1 => by
                  by_cases c : p = k
                  · rw [c]; omega
                  · exact e3 (by omega) p p0 (by omega))
          · skip
            refine kr_s ?_
            have hd : (16 * b + (k : Int)) / 16 = b := by omega
            rw [hd] at hw
            refine wq_if_ne (pc := 31) (tgt := 38) dX7_hasTorn_31 (by decide) (by first | (unfold inR; omega) | assumption) (fun c => absurd c (by decide)) (fun _ => ?_)
            refine wq_iconst (pc := 34) dX7_hasTorn_34 ?_
            refine wq_goto (pc := 35) (tgt := 39) dX7_hasTorn_35 (by decide) ?_
            refine wq_istore_n (pc := 39) (L' := [(2, _), (0, _), (1, _), (3, _)]) dX7_hasTorn_39 rfl rfl (by decide) ?_
            refine wq_iinc (pc := 40) (L' := [(3, _), (2, _), (0, _), (1, _)]) dX7_hasTorn_40 rfl rfl (by decide) ?_
            refine wq_goto (pc := 43) (tgt := 7) dX7_hasTorn_43 (by decide) ?_
            refine wq_sub1 (L' := [(0, _), (1, _), (2, _), (3, _)]) ⟨rfl, rfl, rfl, rfl, trivial⟩ ?_
            first
              | (exfalso; omega)
              | exact ih (k + 1) _ _ (by omega) (by omega) (by omega) (Or.inr rfl) (fun _ => e2 (by assumption)) (fun z => absurd z (by decide))
              | exact ih (k + 1) _ _ (by omega) (by omega) (by omega) (Or.inr rfl) (fun _ => ⟨k, by omega, by omega, by omega⟩) (fun z => absurd z (by decide))
              | exact ih (k + 1) _ _ (by omega) (by omega) (by omega) (Or.inl rfl) (fun z => absurd rfl z) (fun _ p p0 p1 => by
                  by_cases c : p = k
                  · rw [c]; omega
                  · exact e3 (by omega) p p0 (by omega))
  refine wq_sub1 (L' := [(0, _), (1, _), (2, _), (3, _)]) ⟨rfl, rfl, rfl, rfl, trivial⟩ ?_
  exact loop1 17 0 _ _ (by omega) (by omega) (by omega) (Or.inl rfl) (fun z => absurd rfl z) (fun _ p p0 p1 => absurd p1 (by omega))
