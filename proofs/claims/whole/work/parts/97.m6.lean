/-- units, nodes and blocks begun, when so many sizes have been laid -/
def mRm (μ : nMem) (U N : Int) : Nat → Int × Int × Int
  | 0 => (U, N, 0)
  | k + 1 => if (mRm μ U N k).1 + (mRm μ U N k).2.1 + μ 52 k + 2 ≤ 40 then ((mRm μ U N k).1 + μ 52 k, (mRm μ U N k).2.1 + 1, (mRm μ U N k).2.2) else (1 + μ 52 k, 1, (mRm μ U N k).2.2 + 1)
theorem mRm_s (μ : nMem) (U N : Int) (k : Nat) : mRm μ U N (k + 1) = if (mRm μ U N k).1 + (mRm μ U N k).2.1 + μ 52 k + 2 ≤ 40 then ((mRm μ U N k).1 + μ 52 k, (mRm μ U N k).2.1 + 1, (mRm μ U N k).2.2) else (1 + μ 52 k, 1, (mRm μ U N k).2.2 + 1) := rfl
theorem sp_X7_hasRoom {μ : nMem} {ε : nEnv} {Q : nOut → nMem → nEnv → Prop} {q fr U N : Int} (hs : SkP skM ε) (hr : mR μ) (c0 : -1 ≤ μ 21 17) (c1 : μ 21 17 < 8) (hz : ∀ j, 0 ≤ μ 52 j ∧ μ 52 j ≤ 20) (q0 : 0 ≤ q) (q1 : q ≤ 16) (f0 : 0 ≤ fr) (f1 : fr ≤ 100) (hu : ∀ b, 0 ≤ μ 35 b ∧ μ 35 b ≤ 40) (hn : ∀ b, 0 ≤ μ 34 b ∧ μ 34 b ≤ 16) (hU : U = if μ 21 17 = -1 then 40 else μ 35 (μ 21 17)) (hN : N = if μ 21 17 = -1 then 0 else μ 34 (μ 21 17)) (h1 : (mRm μ U N q.toNat).2.2 ≤ fr → Q (.inl (some (vI 1))) μ ε) (h2 : ¬ (mRm μ U N q.toNat).2.2 ≤ fr → Q (.inl (some (vI 0))) μ ε) : Sp mX7_hasRoom [vR 21, vI q, vI fr] μ ε Q := by
  refine Sp_of (L := [(0, vR 21), (1, vI q), (2, vI fr)]) (by decide) rfl rfl (Nat.le_of_ble_eq_true rfl) ?_
  have hub := hu (μ 21 17)
  have hnb := hn (μ 21 17)
  refine wq_aload_n (pc := 0) dX7_hasRoom_0 rfl rfl ?_
  refine wq_getIK (pc := 1) (kk := 17) dX7_hasRoom_1 hs (gf_X7_118 _ rfl) rfl rfl rfl rfl ?_
  refine wq_iconst (pc := 4) dX7_hasRoom_4 ?_
  refine wq_icmp_ne (pc := 5) (tgt := 13) dX7_hasRoom_5 (by decide) (by first | (unfold inR; omega) | assumption) (by first | (unfold inR; omega) | assumption) (fun c1 => ?_) (fun c1 => ?_)
  · skip
    refine wq_aload_n (pc := 13) dX7_hasRoom_13 rfl rfl ?_
    refine wq_getS (pc := 14) dX7_hasRoom_14 hs (gf_X7_51 _ rfl) rfl rfl rfl rfl rfl ?_
    refine wq_aload_n (pc := 17) dX7_hasRoom_17 rfl rfl ?_
    refine wq_getIK (pc := 18) (kk := 17) dX7_hasRoom_18 hs (gf_X7_118 _ rfl) rfl rfl rfl rfl ?_
    refine wq_ialdK (pc := 21) dX7_hasRoom_21 hs rfl (by omega) (by omega) ?_
    refine wq_istore_n (pc := 22) (L' := [(3, _), (0, _), (1, _), (2, _)]) dX7_hasRoom_22 rfl rfl (by decide) ?_
    refine wq_aload_n (pc := 23) dX7_hasRoom_23 rfl rfl ?_
    refine wq_getIK (pc := 24) (kk := 17) dX7_hasRoom_24 hs (gf_X7_118 _ rfl) rfl rfl rfl rfl ?_
    refine wq_iconst (pc := 27) dX7_hasRoom_27 ?_
    refine wq_icmp_ne (pc := 28) (tgt := 35) dX7_hasRoom_28 (by decide) (by first | (unfold inR; omega) | assumption) (by first | (unfold inR; omega) | assumption) (fun c2 => ?_) (fun c2 => ?_)
    · skip
      refine wq_aload_n (pc := 35) dX7_hasRoom_35 rfl rfl ?_
      refine wq_getS (pc := 36) dX7_hasRoom_36 hs (gf_X7_48 _ rfl) rfl rfl rfl rfl rfl ?_
      refine wq_aload_n (pc := 39) dX7_hasRoom_39 rfl rfl ?_
      refine wq_getIK (pc := 40) (kk := 17) dX7_hasRoom_40 hs (gf_X7_118 _ rfl) rfl rfl rfl rfl ?_
      refine wq_ialdK (pc := 43) dX7_hasRoom_43 hs rfl (by omega) (by omega) ?_
      refine wq_istore (pc := 44) (L' := [(4, _), (3, _), (0, _), (1, _), (2, _)]) dX7_hasRoom_44 rfl (by decide) ?_
      refine wq_iconst (pc := 46) dX7_hasRoom_46 ?_
      refine wq_istore (pc := 47) (L' := [(5, _), (4, _), (3, _), (0, _), (1, _), (2, _)]) dX7_hasRoom_47 rfl (by decide) ?_
      refine wq_iconst (pc := 49) dX7_hasRoom_49 ?_
      refine wq_istore (pc := 50) (L' := [(6, _), (5, _), (4, _), (3, _), (0, _), (1, _), (2, _)]) dX7_hasRoom_50 rfl (by decide) ?_
      have loop3 : ∀ (n k : Nat), ∀ (u x r j : Int), k ≤ 16 → 16 < k + n → j = (k : Int) → (k : Int) ≤ q → (u, x, r) = mRm μ U N k → 0 ≤ u ∧ u ≤ 60 → 0 ≤ x ∧ x ≤ 16 + (k : Int) → 0 ≤ r ∧ r ≤ (k : Int) → wp mX7_hasRoom 52 [(0, vR 21), (1, vI q), (2, vI fr), (3, vI u), (4, vI x), (5, vI r), (6, vI j)] [] μ ε Q := by
        intro n
        induction n with
        | zero => intro k u x r j hk1 hk2 e0 e1 e2 e3 e4 e5; exact absurd hk2 (by omega)
        | succ n ih =>
          intro k u x r j hk1 hk2 e0 e1 e2 e3 e4 e5
          subst e0
          obtain ⟨hsz0, hsz1⟩ : 0 ≤ μ 52 (k : Int) ∧ μ 52 (k : Int) ≤ 20 := hz k
          have rk : inR (k : Int) := by unfold inR; omega
          refine wq_iload (pc := 52) dX7_hasRoom_52 rfl ?_
          refine wq_iload_n (pc := 54) dX7_hasRoom_54 rfl rfl ?_
          refine wq_icmp_ge (pc := 55) (tgt := 101) dX7_hasRoom_55 (by decide) (by first | (unfold inR; omega) | assumption) (by first | (unfold inR; omega) | assumption) (fun c4 => ?_) (fun c4 => ?_)
          · skip
            refine wq_iload (pc := 101) dX7_hasRoom_101 rfl ?_
            refine wq_iload_n (pc := 103) dX7_hasRoom_103 rfl rfl ?_
            refine wq_icmp_gt (pc := 104) (tgt := 111) dX7_hasRoom_104 (by decide) (by first | (unfold inR; omega) | assumption) (by first | (unfold inR; omega) | assumption) (fun c5 => ?_) (fun c5 => ?_)
            · skip
              refine wq_iconst (pc := 111) dX7_hasRoom_111 ?_
              refine wq_zret (pc := 112) dX7_hasRoom_112 rfl (by first | omega | (simp; done) | assumption) ?_
              have hk : k = q.toNat := by omega
              rw [← hk, ← e2] at h1 h2
              first | (exfalso; omega) | exact h1 (by show r ≤ fr; omega) | exact h2 (by show ¬ r ≤ fr; omega)
            · skip
              refine wq_iconst (pc := 107) dX7_hasRoom_107 ?_
              refine wq_goto (pc := 108) (tgt := 112) dX7_hasRoom_108 (by decide) ?_
              refine wq_zret (pc := 112) dX7_hasRoom_112 rfl (by first | omega | (simp; done) | assumption) ?_
              have hk : k = q.toNat := by omega
              rw [← hk, ← e2] at h1 h2
              first | (exfalso; omega) | exact h1 (by show r ≤ fr; omega) | exact h2 (by show ¬ r ≤ fr; omega)
          · skip
            refine wq_iload_n (pc := 58) dX7_hasRoom_58 rfl rfl ?_
            refine wq_iload (pc := 59) dX7_hasRoom_59 rfl ?_
            refine wq_aload_n (pc := 61) dX7_hasRoom_61 rfl rfl ?_
            refine wq_getS (pc := 62) dX7_hasRoom_62 hs (gf_X7_102 _ rfl) rfl rfl rfl rfl rfl ?_
            refine wq_iload (pc := 65) dX7_hasRoom_65 rfl ?_
            refine wq_ialdK (pc := 67) dX7_hasRoom_67 hs rfl (by omega) (by omega) ?_
            refine cS_3 (pc := 68) dX7_hasRoom_68 (cw_X7_181 _ rfl) ⟨by decide, by decide⟩ (Nat.le_of_ble_eq_true rfl) (sp_X7_fits (by omega) (by omega) (by omega) (by omega) (by omega) (by omega) (fun hft => ?_) (fun hft => ?_))
            · skip
              refine kr_s ?_
              refine wq_if_ne (pc := 71) (tgt := 82) dX7_hasRoom_71 (by decide) (by first | (unfold inR; omega) | assumption) (fun _ => ?_) (fun c => absurd c (by decide))
              refine wq_iload_n (pc := 82) dX7_hasRoom_82 rfl rfl ?_
              refine wq_aload_n (pc := 83) dX7_hasRoom_83 rfl rfl ?_
              refine wq_getS (pc := 84) dX7_hasRoom_84 hs (gf_X7_102 _ rfl) rfl rfl rfl rfl rfl ?_
              refine wq_iload (pc := 87) dX7_hasRoom_87 rfl ?_
              refine wq_ialdK (pc := 89) dX7_hasRoom_89 hs rfl (by omega) (by omega) ?_
              refine wq_iadd (pc := 90) dX7_hasRoom_90 ?_
              refine wq_istore_n (pc := 91) (L' := [(3, _), (0, _), (1, _), (2, _), (4, _), (5, _), (6, _)]) dX7_hasRoom_91 rfl rfl (by decide) ?_
              refine wq_iinc (pc := 92) (L' := [(4, _), (3, _), (0, _), (1, _), (2, _), (5, _), (6, _)]) dX7_hasRoom_92 rfl rfl (by decide) ?_
              refine wq_iinc (pc := 95) (L' := [(6, _), (4, _), (3, _), (0, _), (1, _), (2, _), (5, _)]) dX7_hasRoom_95 rfl rfl (by decide) ?_
              refine wq_goto (pc := 98) (tgt := 52) dX7_hasRoom_98 (by decide) ?_
              refine wq_sub1 (L' := [(0, _), (1, _), (2, _), (3, _), (4, _), (5, _), (6, _)]) ⟨rfl, rfl, rfl, rfl, rfl, rfl, rfl, trivial⟩ ?_
              first
                | (exfalso; omega)
                | exact ih (k + 1) _ _ _ _ (by omega) (by omega) (by omega) (by omega) (by rw [mRm_s, ← e2, if_pos (show u + x + μ 52 (k : Int) + 2 ≤ 40 by omega)]) (by omega) (by omega) (by omega)
                | exact ih (k + 1) _ _ _ _ (by omega) (by omega) (by omega) (by omega) (by rw [mRm_s, ← e2, if_neg (show ¬ u + x + μ 52 (k : Int) + 2 ≤ 40 by omega)]; rfl) (by omega) (by omega) (by omega)
            · skip
              refine kr_s ?_
              refine wq_if_ne (pc := 71) (tgt := 82) dX7_hasRoom_71 (by decide) (by first | (unfold inR; omega) | assumption) (fun c => absurd c (by decide)) (fun _ => ?_)
              refine wq_iinc (pc := 74) (L' := [(5, _), (0, _), (1, _), (2, _), (3, _), (4, _), (6, _)]) dX7_hasRoom_74 rfl rfl (by decide) ?_
              refine wq_iconst (pc := 77) dX7_hasRoom_77 ?_
              refine wq_istore_n (pc := 78) (L' := [(3, _), (5, _), (0, _), (1, _), (2, _), (4, _), (6, _)]) dX7_hasRoom_78 rfl rfl (by decide) ?_
              refine wq_iconst (pc := 79) dX7_hasRoom_79 ?_
              refine wq_istore (pc := 80) (L' := [(4, _), (3, _), (5, _), (0, _), (1, _), (2, _), (6, _)]) dX7_hasRoom_80 rfl (by decide) ?_
              refine wq_iload_n (pc := 82) dX7_hasRoom_82 rfl rfl ?_
              refine wq_aload_n (pc := 83) dX7_hasRoom_83 rfl rfl ?_
              refine wq_getS (pc := 84) dX7_hasRoom_84 hs (gf_X7_102 _ rfl) rfl rfl rfl rfl rfl ?_
              refine wq_iload (pc := 87) dX7_hasRoom_87 rfl ?_
              refine wq_ialdK (pc := 89) dX7_hasRoom_89 hs rfl (by omega) (by omega) ?_
              refine wq_iadd (pc := 90) dX7_hasRoom_90 ?_
              refine wq_istore_n (pc := 91) (L' := [(3, _), (4, _), (5, _), (0, _), (1, _), (2, _), (6, _)]) dX7_hasRoom_91 rfl rfl (by decide) ?_
              refine wq_iinc (pc := 92) (L' := [(4, _), (3, _), (5, _), (0, _), (1, _), (2, _), (6, _)]) dX7_hasRoom_92 rfl rfl (by decide) ?_
              refine wq_iinc (pc := 95) (L' := [(6, _), (4, _), (3, _), (5, _), (0, _), (1, _), (2, _)]) dX7_hasRoom_95 rfl rfl (by decide) ?_
              refine wq_goto (pc := 98) (tgt := 52) dX7_hasRoom_98 (by decide) ?_
              refine wq_sub1 (L' := [(0, _), (1, _), (2, _), (3, _), (4, _), (5, _), (6, _)]) ⟨rfl, rfl, rfl, rfl, rfl, rfl, rfl, trivial⟩ ?_
              first
                | (exfalso; omega)
                | exact ih (k + 1) _ _ _ _ (by omega) (by omega) (by omega) (by omega) (by rw [mRm_s, ← e2, if_pos (show u + x + μ 52 (k : Int) + 2 ≤ 40 by omega)]) (by omega) (by omega) (by omega)
                | exact ih (k + 1) _ _ _ _ (by omega) (by omega) (by omega) (by omega) (by rw [mRm_s, ← e2, if_neg (show ¬ u + x + μ 52 (k : Int) + 2 ≤ 40 by omega)]; rfl) (by omega) (by omega) (by omega)
      refine wq_sub1 (L' := [(0, _), (1, _), (2, _), (3, _), (4, _), (5, _), (6, _)]) ⟨rfl, rfl, rfl, rfl, rfl, rfl, rfl, trivial⟩ ?_
      exact loop3 17 0 _ _ _ _ (by omega) (by omega) (by omega) (by omega) (by show _ = (U, N, (0 : Int)); rw [hU, hN]; first | (exfalso; omega) | (rw [if_pos (by assumption), if_pos (by assumption)]) | (rw [if_neg (by assumption), if_neg (by assumption)]) | (exfalso; omega)) (by omega) (by omega) (by omega)
    · skip
      refine wq_iconst (pc := 31) dX7_hasRoom_31 ?_
      refine wq_goto (pc := 32) (tgt := 44) dX7_hasRoom_32 (by decide) ?_
      refine wq_istore (pc := 44) (L' := [(4, _), (3, _), (0, _), (1, _), (2, _)]) dX7_hasRoom_44 rfl (by decide) ?_
      refine wq_iconst (pc := 46) dX7_hasRoom_46 ?_
      refine wq_istore (pc := 47) (L' := [(5, _), (4, _), (3, _), (0, _), (1, _), (2, _)]) dX7_hasRoom_47 rfl (by decide) ?_
      refine wq_iconst (pc := 49) dX7_hasRoom_49 ?_
      refine wq_istore (pc := 50) (L' := [(6, _), (5, _), (4, _), (3, _), (0, _), (1, _), (2, _)]) dX7_hasRoom_50 rfl (by decide) ?_
      have loop10 : ∀ (n k : Nat), ∀ (u x r j : Int), k ≤ 16 → 16 < k + n → j = (k : Int) → (k : Int) ≤ q → (u, x, r) = mRm μ U N k → 0 ≤ u ∧ u ≤ 60 → 0 ≤ x ∧ x ≤ 16 + (k : Int) → 0 ≤ r ∧ r ≤ (k : Int) → wp mX7_hasRoom 52 [(0, vR 21), (1, vI q), (2, vI fr), (3, vI u), (4, vI x), (5, vI r), (6, vI j)] [] μ ε Q := by
        intro n
        induction n with
        | zero => intro k u x r j hk1 hk2 e0 e1 e2 e3 e4 e5; exact absurd hk2 (by omega)
        | succ n ih =>
          intro k u x r j hk1 hk2 e0 e1 e2 e3 e4 e5
          subst e0
          obtain ⟨hsz0, hsz1⟩ : 0 ≤ μ 52 (k : Int) ∧ μ 52 (k : Int) ≤ 20 := hz k
          have rk : inR (k : Int) := by unfold inR; omega
          refine wq_iload (pc := 52) dX7_hasRoom_52 rfl ?_
          refine wq_iload_n (pc := 54) dX7_hasRoom_54 rfl rfl ?_
          refine wq_icmp_ge (pc := 55) (tgt := 101) dX7_hasRoom_55 (by decide) (by first | (unfold inR; omega) | assumption) (by first | (unfold inR; omega) | assumption) (fun c11 => ?_) (fun c11 => ?_)
          · skip
            refine wq_iload (pc := 101) dX7_hasRoom_101 rfl ?_
            refine wq_iload_n (pc := 103) dX7_hasRoom_103 rfl rfl ?_
            refine wq_icmp_gt (pc := 104) (tgt := 111) dX7_hasRoom_104 (by decide) (by first | (unfold inR; omega) | assumption) (by first | (unfold inR; omega) | assumption) (fun c12 => ?_) (fun c12 => ?_)
            · skip
              refine wq_iconst (pc := 111) dX7_hasRoom_111 ?_
              refine wq_zret (pc := 112) dX7_hasRoom_112 rfl (by first | omega | (simp; done) | assumption) ?_
              have hk : k = q.toNat := by omega
              rw [← hk, ← e2] at h1 h2
              first | (exfalso; omega) | exact h1 (by show r ≤ fr; omega) | exact h2 (by show ¬ r ≤ fr; omega)
            · skip
              refine wq_iconst (pc := 107) dX7_hasRoom_107 ?_
              refine wq_goto (pc := 108) (tgt := 112) dX7_hasRoom_108 (by decide) ?_
              refine wq_zret (pc := 112) dX7_hasRoom_112 rfl (by first | omega | (simp; done) | assumption) ?_
              have hk : k = q.toNat := by omega
              rw [← hk, ← e2] at h1 h2
              first | (exfalso; omega) | exact h1 (by show r ≤ fr; omega) | exact h2 (by show ¬ r ≤ fr; omega)
          · skip
            refine wq_iload_n (pc := 58) dX7_hasRoom_58 rfl rfl ?_
            refine wq_iload (pc := 59) dX7_hasRoom_59 rfl ?_
            refine wq_aload_n (pc := 61) dX7_hasRoom_61 rfl rfl ?_
            refine wq_getS (pc := 62) dX7_hasRoom_62 hs (gf_X7_102 _ rfl) rfl rfl rfl rfl rfl ?_
            refine wq_iload (pc := 65) dX7_hasRoom_65 rfl ?_
            refine wq_ialdK (pc := 67) dX7_hasRoom_67 hs rfl (by omega) (by omega) ?_
            refine cS_3 (pc := 68) dX7_hasRoom_68 (cw_X7_181 _ rfl) ⟨by decide, by decide⟩ (Nat.le_of_ble_eq_true rfl) (sp_X7_fits (by omega) (by omega) (by omega) (by omega) (by omega) (by omega) (fun hft => ?_) (fun hft => ?_))
            · skip
              refine kr_s ?_
              refine wq_if_ne (pc := 71) (tgt := 82) dX7_hasRoom_71 (by decide) (by first | (unfold inR; omega) | assumption) (fun _ => ?_) (fun c => absurd c (by decide))
              refine wq_iload_n (pc := 82) dX7_hasRoom_82 rfl rfl ?_
              refine wq_aload_n (pc := 83) dX7_hasRoom_83 rfl rfl ?_
              refine wq_getS (pc := 84) dX7_hasRoom_84 hs (gf_X7_102 _ rfl) rfl rfl rfl rfl rfl ?_
              refine wq_iload (pc := 87) dX7_hasRoom_87 rfl ?_
              refine wq_ialdK (pc := 89) dX7_hasRoom_89 hs rfl (by omega) (by omega) ?_
              refine wq_iadd (pc := 90) dX7_hasRoom_90 ?_
              refine wq_istore_n (pc := 91) (L' := [(3, _), (0, _), (1, _), (2, _), (4, _), (5, _), (6, _)]) dX7_hasRoom_91 rfl rfl (by decide) ?_
              refine wq_iinc (pc := 92) (L' := [(4, _), (3, _), (0, _), (1, _), (2, _), (5, _), (6, _)]) dX7_hasRoom_92 rfl rfl (by decide) ?_
              refine wq_iinc (pc := 95) (L' := [(6, _), (4, _), (3, _), (0, _), (1, _), (2, _), (5, _)]) dX7_hasRoom_95 rfl rfl (by decide) ?_
              refine wq_goto (pc := 98) (tgt := 52) dX7_hasRoom_98 (by decide) ?_
              refine wq_sub1 (L' := [(0, _), (1, _), (2, _), (3, _), (4, _), (5, _), (6, _)]) ⟨rfl, rfl, rfl, rfl, rfl, rfl, rfl, trivial⟩ ?_
              first
                | (exfalso; omega)
                | exact ih (k + 1) _ _ _ _ (by omega) (by omega) (by omega) (by omega) (by rw [mRm_s, ← e2, if_pos (show u + x + μ 52 (k : Int) + 2 ≤ 40 by omega)]) (by omega) (by omega) (by omega)
                | exact ih (k + 1) _ _ _ _ (by omega) (by omega) (by omega) (by omega) (by rw [mRm_s, ← e2, if_neg (show ¬ u + x + μ 52 (k : Int) + 2 ≤ 40 by omega)]; rfl) (by omega) (by omega) (by omega)
            · skip
              refine kr_s ?_
              refine wq_if_ne (pc := 71) (tgt := 82) dX7_hasRoom_71 (by decide) (by first | (unfold inR; omega) | assumption) (fun c => absurd c (by decide)) (fun _ => ?_)
              refine wq_iinc (pc := 74) (L' := [(5, _), (0, _), (1, _), (2, _), (3, _), (4, _), (6, _)]) dX7_hasRoom_74 rfl rfl (by decide) ?_
              refine wq_iconst (pc := 77) dX7_hasRoom_77 ?_
              refine wq_istore_n (pc := 78) (L' := [(3, _), (5, _), (0, _), (1, _), (2, _), (4, _), (6, _)]) dX7_hasRoom_78 rfl rfl (by decide) ?_
              refine wq_iconst (pc := 79) dX7_hasRoom_79 ?_
              refine wq_istore (pc := 80) (L' := [(4, _), (3, _), (5, _), (0, _), (1, _), (2, _), (6, _)]) dX7_hasRoom_80 rfl (by decide) ?_
              refine wq_iload_n (pc := 82) dX7_hasRoom_82 rfl rfl ?_
              refine wq_aload_n (pc := 83) dX7_hasRoom_83 rfl rfl ?_
              refine wq_getS (pc := 84) dX7_hasRoom_84 hs (gf_X7_102 _ rfl) rfl rfl rfl rfl rfl ?_
              refine wq_iload (pc := 87) dX7_hasRoom_87 rfl ?_
              refine wq_ialdK (pc := 89) dX7_hasRoom_89 hs rfl (by omega) (by omega) ?_
              refine wq_iadd (pc := 90) dX7_hasRoom_90 ?_
              refine wq_istore_n (pc := 91) (L' := [(3, _), (4, _), (5, _), (0, _), (1, _), (2, _), (6, _)]) dX7_hasRoom_91 rfl rfl (by decide) ?_
              refine wq_iinc (pc := 92) (L' := [(4, _), (3, _), (5, _), (0, _), (1, _), (2, _), (6, _)]) dX7_hasRoom_92 rfl rfl (by decide) ?_
              refine wq_iinc (pc := 95) (L' := [(6, _), (4, _), (3, _), (5, _), (0, _), (1, _), (2, _)]) dX7_hasRoom_95 rfl rfl (by decide) ?_
              refine wq_goto (pc := 98) (tgt := 52) dX7_hasRoom_98 (by decide) ?_
              refine wq_sub1 (L' := [(0, _), (1, _), (2, _), (3, _), (4, _), (5, _), (6, _)]) ⟨rfl, rfl, rfl, rfl, rfl, rfl, rfl, trivial⟩ ?_
              first
                | (exfalso; omega)
                | exact ih (k + 1) _ _ _ _ (by omega) (by omega) (by omega) (by omega) (by rw [mRm_s, ← e2, if_pos (show u + x + μ 52 (k : Int) + 2 ≤ 40 by omega)]) (by omega) (by omega) (by omega)
                | exact ih (k + 1) _ _ _ _ (by omega) (by omega) (by omega) (by omega) (by rw [mRm_s, ← e2, if_neg (show ¬ u + x + μ 52 (k : Int) + 2 ≤ 40 by omega)]; rfl) (by omega) (by omega) (by omega)
      refine wq_sub1 (L' := [(0, _), (1, _), (2, _), (3, _), (4, _), (5, _), (6, _)]) ⟨rfl, rfl, rfl, rfl, rfl, rfl, rfl, trivial⟩ ?_
      exact loop10 17 0 _ _ _ _ (by omega) (by omega) (by omega) (by omega) (by show _ = (U, N, (0 : Int)); rw [hU, hN]; first | (exfalso; omega) | (rw [if_pos (by assumption), if_pos (by assumption)]) | (rw [if_neg (by assumption), if_neg (by assumption)]) | (exfalso; omega)) (by omega) (by omega) (by omega)
  · skip
    refine wq_bipush (pc := 8) dX7_hasRoom_8 (by decide) (by decide) ?_
    refine wq_goto (pc := 10) (tgt := 22) dX7_hasRoom_10 (by decide) ?_
    refine wq_istore_n (pc := 22) (L' := [(3, _), (0, _), (1, _), (2, _)]) dX7_hasRoom_22 rfl rfl (by decide) ?_
    refine wq_aload_n (pc := 23) dX7_hasRoom_23 rfl rfl ?_
    refine wq_getIK (pc := 24) (kk := 17) dX7_hasRoom_24 hs (gf_X7_118 _ rfl) rfl rfl rfl rfl ?_
    refine wq_iconst (pc := 27) dX7_hasRoom_27 ?_
    refine wq_icmp_ne (pc := 28) (tgt := 35) dX7_hasRoom_28 (by decide) (by first | (unfold inR; omega) | assumption) (by first | (unfold inR; omega) | assumption) (fun c17 => ?_) (fun c17 => ?_)
    · skip
      refine wq_aload_n (pc := 35) dX7_hasRoom_35 rfl rfl ?_
      refine wq_getS (pc := 36) dX7_hasRoom_36 hs (gf_X7_48 _ rfl) rfl rfl rfl rfl rfl ?_
      refine wq_aload_n (pc := 39) dX7_hasRoom_39 rfl rfl ?_
      refine wq_getIK (pc := 40) (kk := 17) dX7_hasRoom_40 hs (gf_X7_118 _ rfl) rfl rfl rfl rfl ?_
      refine wq_ialdK (pc := 43) dX7_hasRoom_43 hs rfl (by omega) (by omega) ?_
      refine wq_istore (pc := 44) (L' := [(4, _), (3, _), (0, _), (1, _), (2, _)]) dX7_hasRoom_44 rfl (by decide) ?_
      refine wq_iconst (pc := 46) dX7_hasRoom_46 ?_
      refine wq_istore (pc := 47) (L' := [(5, _), (4, _), (3, _), (0, _), (1, _), (2, _)]) dX7_hasRoom_47 rfl (by decide) ?_
      refine wq_iconst (pc := 49) dX7_hasRoom_49 ?_
      refine wq_istore (pc := 50) (L' := [(6, _), (5, _), (4, _), (3, _), (0, _), (1, _), (2, _)]) dX7_hasRoom_50 rfl (by decide) ?_
      have loop18 : ∀ (n k : Nat), ∀ (u x r j : Int), k ≤ 16 → 16 < k + n → j = (k : Int) → (k : Int) ≤ q → (u, x, r) = mRm μ U N k → 0 ≤ u ∧ u ≤ 60 → 0 ≤ x ∧ x ≤ 16 + (k : Int) → 0 ≤ r ∧ r ≤ (k : Int) → wp mX7_hasRoom 52 [(0, vR 21), (1, vI q), (2, vI fr), (3, vI u), (4, vI x), (5, vI r), (6, vI j)] [] μ ε Q := by
        intro n
        induction n with
        | zero => intro k u x r j hk1 hk2 e0 e1 e2 e3 e4 e5; exact absurd hk2 (by omega)
        | succ n ih =>
          intro k u x r j hk1 hk2 e0 e1 e2 e3 e4 e5
          subst e0
          obtain ⟨hsz0, hsz1⟩ : 0 ≤ μ 52 (k : Int) ∧ μ 52 (k : Int) ≤ 20 := hz k
          have rk : inR (k : Int) := by unfold inR; omega
          refine wq_iload (pc := 52) dX7_hasRoom_52 rfl ?_
          refine wq_iload_n (pc := 54) dX7_hasRoom_54 rfl rfl ?_
          refine wq_icmp_ge (pc := 55) (tgt := 101) dX7_hasRoom_55 (by decide) (by first | (unfold inR; omega) | assumption) (by first | (unfold inR; omega) | assumption) (fun c19 => ?_) (fun c19 => ?_)
          · skip
            refine wq_iload (pc := 101) dX7_hasRoom_101 rfl ?_
            refine wq_iload_n (pc := 103) dX7_hasRoom_103 rfl rfl ?_
            refine wq_icmp_gt (pc := 104) (tgt := 111) dX7_hasRoom_104 (by decide) (by first | (unfold inR; omega) | assumption) (by first | (unfold inR; omega) | assumption) (fun c20 => ?_) (fun c20 => ?_)
            · skip
              refine wq_iconst (pc := 111) dX7_hasRoom_111 ?_
              refine wq_zret (pc := 112) dX7_hasRoom_112 rfl (by first | omega | (simp; done) | assumption) ?_
              have hk : k = q.toNat := by omega
              rw [← hk, ← e2] at h1 h2
              first | (exfalso; omega) | exact h1 (by show r ≤ fr; omega) | exact h2 (by show ¬ r ≤ fr; omega)
            · skip
              refine wq_iconst (pc := 107) dX7_hasRoom_107 ?_
              refine wq_goto (pc := 108) (tgt := 112) dX7_hasRoom_108 (by decide) ?_
              refine wq_zret (pc := 112) dX7_hasRoom_112 rfl (by first | omega | (simp; done) | assumption) ?_
              have hk : k = q.toNat := by omega
              rw [← hk, ← e2] at h1 h2
              first | (exfalso; omega) | exact h1 (by show r ≤ fr; omega) | exact h2 (by show ¬ r ≤ fr; omega)
          · skip
            refine wq_iload_n (pc := 58) dX7_hasRoom_58 rfl rfl ?_
            refine wq_iload (pc := 59) dX7_hasRoom_59 rfl ?_
            refine wq_aload_n (pc := 61) dX7_hasRoom_61 rfl rfl ?_
            refine wq_getS (pc := 62) dX7_hasRoom_62 hs (gf_X7_102 _ rfl) rfl rfl rfl rfl rfl ?_
            refine wq_iload (pc := 65) dX7_hasRoom_65 rfl ?_
            refine wq_ialdK (pc := 67) dX7_hasRoom_67 hs rfl (by omega) (by omega) ?_
            refine cS_3 (pc := 68) dX7_hasRoom_68 (cw_X7_181 _ rfl) ⟨by decide, by decide⟩ (Nat.le_of_ble_eq_true rfl) (sp_X7_fits (by omega) (by omega) (by omega) (by omega) (by omega) (by omega) (fun hft => ?_) (fun hft => ?_))
            · skip
              refine kr_s ?_
              refine wq_if_ne (pc := 71) (tgt := 82) dX7_hasRoom_71 (by decide) (by first | (unfold inR; omega) | assumption) (fun _ => ?_) (fun c => absurd c (by decide))
              refine wq_iload_n (pc := 82) dX7_hasRoom_82 rfl rfl ?_
              refine wq_aload_n (pc := 83) dX7_hasRoom_83 rfl rfl ?_
              refine wq_getS (pc := 84) dX7_hasRoom_84 hs (gf_X7_102 _ rfl) rfl rfl rfl rfl rfl ?_
              refine wq_iload (pc := 87) dX7_hasRoom_87 rfl ?_
              refine wq_ialdK (pc := 89) dX7_hasRoom_89 hs rfl (by omega) (by omega) ?_
              refine wq_iadd (pc := 90) dX7_hasRoom_90 ?_
              refine wq_istore_n (pc := 91) (L' := [(3, _), (0, _), (1, _), (2, _), (4, _), (5, _), (6, _)]) dX7_hasRoom_91 rfl rfl (by decide) ?_
              refine wq_iinc (pc := 92) (L' := [(4, _), (3, _), (0, _), (1, _), (2, _), (5, _), (6, _)]) dX7_hasRoom_92 rfl rfl (by decide) ?_
              refine wq_iinc (pc := 95) (L' := [(6, _), (4, _), (3, _), (0, _), (1, _), (2, _), (5, _)]) dX7_hasRoom_95 rfl rfl (by decide) ?_
              refine wq_goto (pc := 98) (tgt := 52) dX7_hasRoom_98 (by decide) ?_
              refine wq_sub1 (L' := [(0, _), (1, _), (2, _), (3, _), (4, _), (5, _), (6, _)]) ⟨rfl, rfl, rfl, rfl, rfl, rfl, rfl, trivial⟩ ?_
              first
                | (exfalso; omega)
                | exact ih (k + 1) _ _ _ _ (by omega) (by omega) (by omega) (by omega) (by rw [mRm_s, ← e2, if_pos (show u + x + μ 52 (k : Int) + 2 ≤ 40 by omega)]) (by omega) (by omega) (by omega)
                | exact ih (k + 1) _ _ _ _ (by omega) (by omega) (by omega) (by omega) (by rw [mRm_s, ← e2, if_neg (show ¬ u + x + μ 52 (k : Int) + 2 ≤ 40 by omega)]; rfl) (by omega) (by omega) (by omega)
            · skip
              refine kr_s ?_
              refine wq_if_ne (pc := 71) (tgt := 82) dX7_hasRoom_71 (by decide) (by first | (unfold inR; omega) | assumption) (fun c => absurd c (by decide)) (fun _ => ?_)
              refine wq_iinc (pc := 74) (L' := [(5, _), (0, _), (1, _), (2, _), (3, _), (4, _), (6, _)]) dX7_hasRoom_74 rfl rfl (by decide) ?_
              refine wq_iconst (pc := 77) dX7_hasRoom_77 ?_
              refine wq_istore_n (pc := 78) (L' := [(3, _), (5, _), (0, _), (1, _), (2, _), (4, _), (6, _)]) dX7_hasRoom_78 rfl rfl (by decide) ?_
              refine wq_iconst (pc := 79) dX7_hasRoom_79 ?_
              refine wq_istore (pc := 80) (L' := [(4, _), (3, _), (5, _), (0, _), (1, _), (2, _), (6, _)]) dX7_hasRoom_80 rfl (by decide) ?_
              refine wq_iload_n (pc := 82) dX7_hasRoom_82 rfl rfl ?_
              refine wq_aload_n (pc := 83) dX7_hasRoom_83 rfl rfl ?_
              refine wq_getS (pc := 84) dX7_hasRoom_84 hs (gf_X7_102 _ rfl) rfl rfl rfl rfl rfl ?_
              refine wq_iload (pc := 87) dX7_hasRoom_87 rfl ?_
              refine wq_ialdK (pc := 89) dX7_hasRoom_89 hs rfl (by omega) (by omega) ?_
              refine wq_iadd (pc := 90) dX7_hasRoom_90 ?_
              refine wq_istore_n (pc := 91) (L' := [(3, _), (4, _), (5, _), (0, _), (1, _), (2, _), (6, _)]) dX7_hasRoom_91 rfl rfl (by decide) ?_
              refine wq_iinc (pc := 92) (L' := [(4, _), (3, _), (5, _), (0, _), (1, _), (2, _), (6, _)]) dX7_hasRoom_92 rfl rfl (by decide) ?_
              refine wq_iinc (pc := 95) (L' := [(6, _), (4, _), (3, _), (5, _), (0, _), (1, _), (2, _)]) dX7_hasRoom_95 rfl rfl (by decide) ?_
              refine wq_goto (pc := 98) (tgt := 52) dX7_hasRoom_98 (by decide) ?_
              refine wq_sub1 (L' := [(0, _), (1, _), (2, _), (3, _), (4, _), (5, _), (6, _)]) ⟨rfl, rfl, rfl, rfl, rfl, rfl, rfl, trivial⟩ ?_
              first
                | (exfalso; omega)
                | exact ih (k + 1) _ _ _ _ (by omega) (by omega) (by omega) (by omega) (by rw [mRm_s, ← e2, if_pos (show u + x + μ 52 (k : Int) + 2 ≤ 40 by omega)]) (by omega) (by omega) (by omega)
                | exact ih (k + 1) _ _ _ _ (by omega) (by omega) (by omega) (by omega) (by rw [mRm_s, ← e2, if_neg (show ¬ u + x + μ 52 (k : Int) + 2 ≤ 40 by omega)]; rfl) (by omega) (by omega) (by omega)
      refine wq_sub1 (L' := [(0, _), (1, _), (2, _), (3, _), (4, _), (5, _), (6, _)]) ⟨rfl, rfl, rfl, rfl, rfl, rfl, rfl, trivial⟩ ?_
      exact loop18 17 0 _ _ _ _ (by omega) (by omega) (by omega) (by omega) (by show _ = (U, N, (0 : Int)); rw [hU, hN]; first | (exfalso; omega) | (rw [if_pos (by assumption), if_pos (by assumption)]) | (rw [if_neg (by assumption), if_neg (by assumption)]) | (exfalso; omega)) (by omega) (by omega) (by omega)
    · skip
      refine wq_iconst (pc := 31) dX7_hasRoom_31 ?_
      refine wq_goto (pc := 32) (tgt := 44) dX7_hasRoom_32 (by decide) ?_
      refine wq_istore (pc := 44) (L' := [(4, _), (3, _), (0, _), (1, _), (2, _)]) dX7_hasRoom_44 rfl (by decide) ?_
      refine wq_iconst (pc := 46) dX7_hasRoom_46 ?_
      refine wq_istore (pc := 47) (L' := [(5, _), (4, _), (3, _), (0, _), (1, _), (2, _)]) dX7_hasRoom_47 rfl (by decide) ?_
      refine wq_iconst (pc := 49) dX7_hasRoom_49 ?_
      refine wq_istore (pc := 50) (L' := [(6, _), (5, _), (4, _), (3, _), (0, _), (1, _), (2, _)]) dX7_hasRoom_50 rfl (by decide) ?_
      have loop25 : ∀ (n k : Nat), ∀ (u x r j : Int), k ≤ 16 → 16 < k + n → j = (k : Int) → (k : Int) ≤ q → (u, x, r) = mRm μ U N k → 0 ≤ u ∧ u ≤ 60 → 0 ≤ x ∧ x ≤ 16 + (k : Int) → 0 ≤ r ∧ r ≤ (k : Int) → wp mX7_hasRoom 52 [(0, vR 21), (1, vI q), (2, vI fr), (3, vI u), (4, vI x), (5, vI r), (6, vI j)] [] μ ε Q := by
        intro n
        induction n with
        | zero => intro k u x r j hk1 hk2 e0 e1 e2 e3 e4 e5; exact absurd hk2 (by omega)
        | succ n ih =>
          intro k u x r j hk1 hk2 e0 e1 e2 e3 e4 e5
          subst e0
          obtain ⟨hsz0, hsz1⟩ : 0 ≤ μ 52 (k : Int) ∧ μ 52 (k : Int) ≤ 20 := hz k
          have rk : inR (k : Int) := by unfold inR; omega
          refine wq_iload (pc := 52) dX7_hasRoom_52 rfl ?_
          refine wq_iload_n (pc := 54) dX7_hasRoom_54 rfl rfl ?_
          refine wq_icmp_ge (pc := 55) (tgt := 101) dX7_hasRoom_55 (by decide) (by first | (unfold inR; omega) | assumption) (by first | (unfold inR; omega) | assumption) (fun c26 => ?_) (fun c26 => ?_)
          · skip
            refine wq_iload (pc := 101) dX7_hasRoom_101 rfl ?_
            refine wq_iload_n (pc := 103) dX7_hasRoom_103 rfl rfl ?_
            refine wq_icmp_gt (pc := 104) (tgt := 111) dX7_hasRoom_104 (by decide) (by first | (unfold inR; omega) | assumption) (by first | (unfold inR; omega) | assumption) (fun c27 => ?_) (fun c27 => ?_)
            · skip
              refine wq_iconst (pc := 111) dX7_hasRoom_111 ?_
              refine wq_zret (pc := 112) dX7_hasRoom_112 rfl (by first | omega | (simp; done) | assumption) ?_
              have hk : k = q.toNat := by omega
              rw [← hk, ← e2] at h1 h2
              first | (exfalso; omega) | exact h1 (by show r ≤ fr; omega) | exact h2 (by show ¬ r ≤ fr; omega)
            · skip
              refine wq_iconst (pc := 107) dX7_hasRoom_107 ?_
              refine wq_goto (pc := 108) (tgt := 112) dX7_hasRoom_108 (by decide) ?_
              refine wq_zret (pc := 112) dX7_hasRoom_112 rfl (by first | omega | (simp; done) | assumption) ?_
              have hk : k = q.toNat := by omega
              rw [← hk, ← e2] at h1 h2
              first | (exfalso; omega) | exact h1 (by show r ≤ fr; omega) | exact h2 (by show ¬ r ≤ fr; omega)
          · skip
            refine wq_iload_n (pc := 58) dX7_hasRoom_58 rfl rfl ?_
            refine wq_iload (pc := 59) dX7_hasRoom_59 rfl ?_
            refine wq_aload_n (pc := 61) dX7_hasRoom_61 rfl rfl ?_
            refine wq_getS (pc := 62) dX7_hasRoom_62 hs (gf_X7_102 _ rfl) rfl rfl rfl rfl rfl ?_
            refine wq_iload (pc := 65) dX7_hasRoom_65 rfl ?_
            refine wq_ialdK (pc := 67) dX7_hasRoom_67 hs rfl (by omega) (by omega) ?_
            refine cS_3 (pc := 68) dX7_hasRoom_68 (cw_X7_181 _ rfl) ⟨by decide, by decide⟩ (Nat.le_of_ble_eq_true rfl) (sp_X7_fits (by omega) (by omega) (by omega) (by omega) (by omega) (by omega) (fun hft => ?_) (fun hft => ?_))
            · skip
              refine kr_s ?_
              refine wq_if_ne (pc := 71) (tgt := 82) dX7_hasRoom_71 (by decide) (by first | (unfold inR; omega) | assumption) (fun _ => ?_) (fun c => absurd c (by decide))
              refine wq_iload_n (pc := 82) dX7_hasRoom_82 rfl rfl ?_
              refine wq_aload_n (pc := 83) dX7_hasRoom_83 rfl rfl ?_
              refine wq_getS (pc := 84) dX7_hasRoom_84 hs (gf_X7_102 _ rfl) rfl rfl rfl rfl rfl ?_
              refine wq_iload (pc := 87) dX7_hasRoom_87 rfl ?_
              refine wq_ialdK (pc := 89) dX7_hasRoom_89 hs rfl (by omega) (by omega) ?_
              refine wq_iadd (pc := 90) dX7_hasRoom_90 ?_
              refine wq_istore_n (pc := 91) (L' := [(3, _), (0, _), (1, _), (2, _), (4, _), (5, _), (6, _)]) dX7_hasRoom_91 rfl rfl (by decide) ?_
              refine wq_iinc (pc := 92) (L' := [(4, _), (3, _), (0, _), (1, _), (2, _), (5, _), (6, _)]) dX7_hasRoom_92 rfl rfl (by decide) ?_
              refine wq_iinc (pc := 95) (L' := [(6, _), (4, _), (3, _), (0, _), (1, _), (2, _), (5, _)]) dX7_hasRoom_95 rfl rfl (by decide) ?_
              refine wq_goto (pc := 98) (tgt := 52) dX7_hasRoom_98 (by decide) ?_
              refine wq_sub1 (L' := [(0, _), (1, _), (2, _), (3, _), (4, _), (5, _), (6, _)]) ⟨rfl, rfl, rfl, rfl, rfl, rfl, rfl, trivial⟩ ?_
              first
                | (exfalso; omega)
                | exact ih (k + 1) _ _ _ _ (by omega) (by omega) (by omega) (by omega) (by rw [mRm_s, ← e2, if_pos (show u + x + μ 52 (k : Int) + 2 ≤ 40 by omega)]) (by omega) (by omega) (by omega)
                | exact ih (k + 1) _ _ _ _ (by omega) (by omega) (by omega) (by omega) (by rw [mRm_s, ← e2, if_neg (show ¬ u + x + μ 52 (k : Int) + 2 ≤ 40 by omega)]; rfl) (by omega) (by omega) (by omega)
            · skip
              refine kr_s ?_
              refine wq_if_ne (pc := 71) (tgt := 82) dX7_hasRoom_71 (by decide) (by first | (unfold inR; omega) | assumption) (fun c => absurd c (by decide)) (fun _ => ?_)
              refine wq_iinc (pc := 74) (L' := [(5, _), (0, _), (1, _), (2, _), (3, _), (4, _), (6, _)]) dX7_hasRoom_74 rfl rfl (by decide) ?_
              refine wq_iconst (pc := 77) dX7_hasRoom_77 ?_
              refine wq_istore_n (pc := 78) (L' := [(3, _), (5, _), (0, _), (1, _), (2, _), (4, _), (6, _)]) dX7_hasRoom_78 rfl rfl (by decide) ?_
              refine wq_iconst (pc := 79) dX7_hasRoom_79 ?_
              refine wq_istore (pc := 80) (L' := [(4, _), (3, _), (5, _), (0, _), (1, _), (2, _), (6, _)]) dX7_hasRoom_80 rfl (by decide) ?_
              refine wq_iload_n (pc := 82) dX7_hasRoom_82 rfl rfl ?_
              refine wq_aload_n (pc := 83) dX7_hasRoom_83 rfl rfl ?_
              refine wq_getS (pc := 84) dX7_hasRoom_84 hs (gf_X7_102 _ rfl) rfl rfl rfl rfl rfl ?_
              refine wq_iload (pc := 87) dX7_hasRoom_87 rfl ?_
              refine wq_ialdK (pc := 89) dX7_hasRoom_89 hs rfl (by omega) (by omega) ?_
              refine wq_iadd (pc := 90) dX7_hasRoom_90 ?_
              refine wq_istore_n (pc := 91) (L' := [(3, _), (4, _), (5, _), (0, _), (1, _), (2, _), (6, _)]) dX7_hasRoom_91 rfl rfl (by decide) ?_
              refine wq_iinc (pc := 92) (L' := [(4, _), (3, _), (5, _), (0, _), (1, _), (2, _), (6, _)]) dX7_hasRoom_92 rfl rfl (by decide) ?_
              refine wq_iinc (pc := 95) (L' := [(6, _), (4, _), (3, _), (5, _), (0, _), (1, _), (2, _)]) dX7_hasRoom_95 rfl rfl (by decide) ?_
              refine wq_goto (pc := 98) (tgt := 52) dX7_hasRoom_98 (by decide) ?_
              refine wq_sub1 (L' := [(0, _), (1, _), (2, _), (3, _), (4, _), (5, _), (6, _)]) ⟨rfl, rfl, rfl, rfl, rfl, rfl, rfl, trivial⟩ ?_
              first
                | (exfalso; omega)
                | exact ih (k + 1) _ _ _ _ (by omega) (by omega) (by omega) (by omega) (by rw [mRm_s, ← e2, if_pos (show u + x + μ 52 (k : Int) + 2 ≤ 40 by omega)]) (by omega) (by omega) (by omega)
                | exact ih (k + 1) _ _ _ _ (by omega) (by omega) (by omega) (by omega) (by rw [mRm_s, ← e2, if_neg (show ¬ u + x + μ 52 (k : Int) + 2 ≤ 40 by omega)]; rfl) (by omega) (by omega) (by omega)
      refine wq_sub1 (L' := [(0, _), (1, _), (2, _), (3, _), (4, _), (5, _), (6, _)]) ⟨rfl, rfl, rfl, rfl, rfl, rfl, rfl, trivial⟩ ?_
      exact loop25 17 0 _ _ _ _ (by omega) (by omega) (by omega) (by omega) (by show _ = (U, N, (0 : Int)); rw [hU, hN]; first | (exfalso; omega) | (rw [if_pos (by assumption), if_pos (by assumption)]) | (rw [if_neg (by assumption), if_neg (by assumption)]) | (exfalso; omega)) (by omega) (by omega) (by omega)
