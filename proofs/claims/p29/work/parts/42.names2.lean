theorem rnAdd_0 {F : Fl} {i : Int} {S : Tr} (h : fN F i 10 ∈ tNl S) : rnAdd F i S = S := by unfold rnAdd; rw [if_pos h]
theorem rnAdd_1 {F : Fl} {i : Int} {S : Tr} (h : fN F i 10 ∉ tNl S) : rnAdd F i S = tAdd S (fN F i 10) (fN F i 11) := by unfold rnAdd; rw [if_neg h]
theorem sp_X5_readNames {μ : nMem} {ε : nEnv} {Q : nOut → nMem → nEnv → Prop} {S : Tr} {F : Fl} {a d : Int} {t : Nat} (hC : CF F μ ε) (hT : CT S μ ε) (hA : tAt S μ a d) (hd : 0 ≤ d ∧ d ≤ 100000) (h56 : eKind ε 25 ≠ 0) (hcap : Cap μ ε t) (hRow : ∀ k : Nat, k < 128 → rT F k 2 d → (0 ≤ tFd (rn F d S k) d 3 ∧ tFd (rn F d S k) d 3 ≤ 100000) ∧ tB (rnV F d k (rn F d S k)) ∧ (rnAsg F d k → tCl (rnAdd F k (rnV F d k (rn F d S k))) d (fN F k 5) ∉ tNl (rnAdd F k (rnV F d k (rn F d S k))) ∧ (1 ≤ fN F k 5 ∧ fN F k 5 < 100) ∧ tB (rnAdd F k (rnV F d k (rn F d S k))) ∧ (fN F k 10 ∉ tNl (rn F d S k) → (tNl (rn F d S k)).length < 129))) (h : ∀ μ9 ε9, CT (rn F d S 128) μ9 ε9 → CF F μ9 ε9 → FrT μ ε μ9 ε9 → (∀ c x, tAt S μ c x → tAt (rn F d S 128) μ9 c x) → Q (.inl none) μ9 ε9) : Sp mX5_readNames [vR 12, vR a, vR 2] μ ε Q := by
  refine Sp_of (L := [(0, vR 12), (1, vR a), (2, vR 2)]) (by decide) rfl rfl (Nat.le_of_ble_eq_true rfl) ?_
  refine wq_iconst (pc := 0) dX5_readNames_0 ?_
  refine wq_istore_n (pc := 1) (L' := [(3, _), (0, _), (1, _), (2, _)]) dX5_readNames_1 rfl rfl (by decide) ?_
  have loop1 : ∀ (n k : Nat), ∀ (m : nMem) (e : nEnv) (i : Int), k ≤ 128 → 128 < k + n → i = (k : Int) → CT (rn F d S k) m e → CF F m e → FrT μ ε m e → (∀ c x, tAt S μ c x → tAt (rn F d S k) m c x) → wp mX5_readNames 2 [(0, vR 12), (1, vR a), (2, vR 2), (3, vI i)] [] m e Q := by
    intro n
    induction n with
    | zero => intro k m e i hk1 hk2 e0 e1 e2 e3 e4; exact absurd hk2 (by omega)
    | succ n ih =>
      intro k m e i hk1 hk2 e0 e1 e2 e3 e4
      subst e0
      have hs := e2.1
      have hsT := e1.1
      have hr := e2.2.1
      have hA1 := e4 _ _ hA
      obtain ⟨a0, hI, aw, -⟩ := tAt_sh e1 hA1
      obtain ⟨ka, kc, -⟩ := id hI
      have hq1 := (tAt_is e1 hA1).1
      refine wq_iload_n (pc := 2) dX5_readNames_2 rfl rfl ?_
      refine wq_sipush (pc := 3) dX5_readNames_3 (by decide) (by decide) ?_
      refine wq_icmp_ge (pc := 6) (tgt := 125) dX5_readNames_6 (by decide) (by first | (unfold inR; omega) | assumption) (by first | (unfold inR; omega) | assumption) (fun c2 => ?_) (fun c2 => ?_)
      · skip
        refine wq_vret (pc := 125) dX5_readNames_125 rfl ?_
        have ek : k = 128 := by omega
        subst ek
        exact h _ _ e1 e2 e3 e4
      · skip
        refine wq_aload_n (pc := 9) dX5_readNames_9 rfl rfl ?_
        refine wq_iload_n (pc := 10) dX5_readNames_10 rfl rfl ?_
        refine cVK_1 (pc := 11) dX5_readNames_11 hs (cw_X5_91 _ rfl) (by decide) rfl ⟨by decide, by decide⟩ (Nat.le_of_ble_eq_true rfl) (sp_X0_row hs (by unfold inR; omega) ?_)
        refine kr_s ?_
        have hkn := nRow_kd hs hr k
        have hnb := nRow_nB hr k
        obtain ⟨ra, -⟩ := CF_row e2 (i := (k : Int)) (by omega) (by omega)
        refine wq_astore (pc := 14) (L' := [(4, _), (0, _), (1, _), (2, _), (3, _)]) dX5_readNames_14 rfl (by decide) ?_
        refine wq_aload (pc := 16) dX5_readNames_16 rfl ?_
        refine wq_iconst (pc := 18) dX5_readNames_18 ?_
        refine wq_aload_n (pc := 19) dX5_readNames_19 rfl rfl ?_
        refine wq_getI (pc := 20) (kk := 1) dX5_readNames_20 (gf_X5_38 _ rfl) (by with_reducible assumption) rfl rfl rfl ?_
        refine cV_2 (pc := 23) dX5_readNames_23 (cw_X5_107 _ rfl) (by decide) (by with_reducible assumption) ⟨by decide, by decide⟩ (Nat.le_of_ble_eq_true rfl) (sp_X4_tells hkn hnb (by unfold inR; omega) (by unfold inR; omega) (fun ht => ?_) (fun ht => ?_))
        · skip
          refine kr_s ?_
          rw [hq1, rT_of e2 (by omega) (by omega)] at ht
          obtain ⟨n0, n1, n2, n3, n4, n5, n6, n9, n10, n11, n12, n13⟩ := id hnb
          obtain ⟨hv3, hB1, hasg⟩ := hRow k (by omega) ht
          have q3 := (tAt_is e1 hA1).2.1 3 (by omega) (by omega)
          refine wq_if_eq (pc := 26) (tgt := 119) dX5_readNames_26 (by decide) (by first | (unfold inR; omega) | assumption) (fun c => absurd c (by decide)) (fun _ => ?_)
          refine wq_aload_n (pc := 29) dX5_readNames_29 rfl rfl ?_
          refine wq_aload_n (pc := 30) dX5_readNames_30 rfl rfl ?_
          refine wq_getI (pc := 31) (kk := 3) dX5_readNames_31 (gf_X5_111 _ rfl) (by with_reducible assumption) rfl rfl rfl ?_
          refine wq_aload (pc := 34) dX5_readNames_34 rfl ?_
          refine wq_getI (pc := 36) (kk := 4) dX5_readNames_36 (gf_X5_114 _ rfl) (by with_reducible assumption) rfl rfl rfl ?_
          refine cS_2 (pc := 39) dX5_readNames_39 (cw_X5_53 _ rfl) ⟨by decide, by decide⟩ (Nat.le_of_ble_eq_true rfl) (sp_J9_max (by unfold inR; omega) (by unfold inR; omega) ?_)
          refine kr_s ?_
          refine wq_putI (pc := 42) (kk := 3) dX5_readNames_42 (gf_X5_111 _ rfl) (by with_reducible assumption) rfl rfl rfl rfl ?_
          obtain ⟨T1, F1, K1⟩ := CT_max (v := m (nRow m k) 4) e1 hA1
          have C1 := CF_FrT e2 e1.2.1 F1
          have hrw : nRow (wr m a 3 (max (m a 3) (m (nRow m k) 4))) k = nRow m k := nRow_congr (fun j => wr_n _ _ (by omega)) k
          rw [show m (nRow m k) 4 = fN F k 4 from ra 4 (by omega) (by omega)] at T1 F1 K1 C1 hrw ⊢
          generalize wr m a 3 (max (m a 3) (fN F k 4)) = m1 at T1 F1 K1 C1 hrw ⊢
          change CT (rnV F d k (rn F d S k)) m1 e at T1
          have K1 : ∀ b q, tAt (rn F d S k) m b q → tAt (rnV F d k (rn F d S k)) m1 b q := K1
          have hA2 := K1 _ _ hA1
          have hq2 := (tAt_is T1 hA2).1
          obtain ⟨ra1, -⟩ := CF_row C1 (i := (k : Int)) (by omega) (by omega)
          rw [hrw] at ra1
          have tg1 := ra1 10 (by omega) (by omega)
          have sp1 := ra1 5 (by omega) (by omega)
          have td1 := ra1 11 (by omega) (by omega)
          have hnb1 := nRow_nB C1.2.1 k
          rw [hrw] at hnb1
          obtain ⟨y0, y1, y2, y3, y4, y5, y6, y9, y10, y11, y12, y13⟩ := id hnb1
          refine wq_aload (pc := 45) dX5_readNames_45 rfl ?_
          refine wq_getI (pc := 47) (kk := 10) dX5_readNames_47 (gf_X5_104 _ rfl) (by with_reducible assumption) rfl rfl rfl ?_
          refine wq_if_eq (pc := 50) (tgt := 119) dX5_readNames_50 (by decide) (by first | (unfold inR; omega) | assumption) (fun c6 => ?_) (fun c6 => ?_)
          · skip
            refine wq_iinc (pc := 119) (L' := [(3, _), (4, _), (0, _), (1, _), (2, _)]) dX5_readNames_119 rfl rfl (by decide) ?_
            refine wq_goto (pc := 122) (tgt := 2) dX5_readNames_122 (by decide) ?_
            refine wq_sub1 (L' := [(0, _), (1, _), (2, _), (3, _)]) ⟨rfl, rfl, rfl, rfl, trivial⟩ ?_
            first
              | (have es := rnStep_0 (S := rn F d S k) ht
                 exact ih (k + 1) m e _ (by omega) (by omega) (by omega) (by rw [rn_s, es]; exact e1) e2 e3 (fun c x z => by rw [rn_s, es]; exact e4 c x z))
              | (have es := rnStep_2 (S := rn F d S k) ht hyes
                 rw [rnAdd_1 hn] at es
                 exact ih (k + 1) m3 e5 _ (by omega) (by omega) (by omega) (by rw [rn_s, es]; exact T3) (CF_FrT C2 T2.2.1 F3) (FrT_trans e3 (FrT_trans F1 (FrT_trans F2 F3))) (fun c x z => by rw [rn_s, es]; exact K3 _ _ (K2 _ _ (K1 _ _ (e4 c x z)))))
              | (have es := rnStep_2 (S := rn F d S k) ht hyes
                 rw [rnAdd_0 (tAt_mem hb)] at es
                 exact ih (k + 1) m3 e _ (by omega) (by omega) (by omega) (by rw [rn_s, es]; exact T3) (CF_FrT C1 T1.2.1 F3) (FrT_trans e3 (FrT_trans F1 F3)) (fun c x z => by rw [rn_s, es]; exact K3 _ _ (K1 _ _ (e4 c x z))))
              | (have es := rnStep_1 (S := rn F d S k) ht (fun z => by first | exact hno z.2 | exact z.1 (by omega))
                 exact ih (k + 1) m1 e _ (by omega) (by omega) (by omega) (by rw [rn_s, es]; exact T1) C1 (FrT_trans e3 F1) (fun c x z => by rw [rn_s, es]; exact K1 _ _ (e4 c x z)))
          · skip
            refine wq_aload_n (pc := 53) dX5_readNames_53 rfl rfl ?_
            refine wq_iconst (pc := 54) dX5_readNames_54 ?_
            refine wq_aload_n (pc := 55) dX5_readNames_55 rfl rfl ?_
            refine wq_getI (pc := 56) (kk := 1) dX5_readNames_56 (gf_X5_38 _ rfl) (by with_reducible assumption) rfl rfl rfl ?_
            refine wq_aload (pc := 59) dX5_readNames_59 rfl ?_
            refine wq_getI (pc := 61) (kk := 5) dX5_readNames_61 (gf_X5_115 _ rfl) (by with_reducible assumption) rfl rfl rfl ?_
            refine wq_ldc (pc := 64) dX5_readNames_64 (kc_X5_118 _ rfl) ?_
            refine cVK_4 (pc := 66) dX5_readNames_66 hs (cw_X5_119 _ rfl) (by decide) rfl ⟨by decide, by decide⟩ (Nat.le_of_ble_eq_true rfl) (sp_X0_newest hs C1.2.1 (by unfold inR; omega) (by unfold inR; omega) (by omega) (by unfold inR; omega) ?_)
            refine kr_s ?_
            rw [hq2, sp1, qNew_of C1 2 d (fN F k 5) 2147483647 128 (Nat.le_refl _)]
            have g0 := qAd_r C1.2.1 (qNew F 2 d (fN F k 5) 2147483647 128)
            have g1 := nRow_0 hr k
            refine wq_aload (pc := 69) dX5_readNames_69 rfl ?_
            refine wq_acmp_ne (pc := 71) (tgt := 119) dX5_readNames_71 (by decide) (by omega) (by omega) (fun c7 => ?_) (fun c7 => ?_)
            · skip
              have hno := fun z => c7 ((qAd_at C1 (by omega) (by omega) (by omega)).mpr z |>.trans hrw)
              refine wq_iinc (pc := 119) (L' := [(3, _), (4, _), (0, _), (1, _), (2, _)]) dX5_readNames_119 rfl rfl (by decide) ?_
              refine wq_goto (pc := 122) (tgt := 2) dX5_readNames_122 (by decide) ?_
              refine wq_sub1 (L' := [(0, _), (1, _), (2, _), (3, _)]) ⟨rfl, rfl, rfl, rfl, trivial⟩ ?_
              first
                | (have es := rnStep_0 (S := rn F d S k) ht
                   exact ih (k + 1) m e _ (by omega) (by omega) (by omega) (by rw [rn_s, es]; exact e1) e2 e3 (fun c x z => by rw [rn_s, es]; exact e4 c x z))
                | (have es := rnStep_2 (S := rn F d S k) ht hyes
                   rw [rnAdd_1 hn] at es
                   exact ih (k + 1) m3 e5 _ (by omega) (by omega) (by omega) (by rw [rn_s, es]; exact T3) (CF_FrT C2 T2.2.1 F3) (FrT_trans e3 (FrT_trans F1 (FrT_trans F2 F3))) (fun c x z => by rw [rn_s, es]; exact K3 _ _ (K2 _ _ (K1 _ _ (e4 c x z)))))
                | (have es := rnStep_2 (S := rn F d S k) ht hyes
                   rw [rnAdd_0 (tAt_mem hb)] at es
                   exact ih (k + 1) m3 e _ (by omega) (by omega) (by omega) (by rw [rn_s, es]; exact T3) (CF_FrT C1 T1.2.1 F3) (FrT_trans e3 (FrT_trans F1 F3)) (fun c x z => by rw [rn_s, es]; exact K3 _ _ (K1 _ _ (e4 c x z))))
                | (have es := rnStep_1 (S := rn F d S k) ht (fun z => by first | exact hno z.2 | exact z.1 (by omega))
                   exact ih (k + 1) m1 e _ (by omega) (by omega) (by omega) (by rw [rn_s, es]; exact T1) C1 (FrT_trans e3 F1) (fun c x z => by rw [rn_s, es]; exact K1 _ _ (e4 c x z)))
            · skip
              have hyes : rnAsg F d k := ⟨by omega, (qAd_at C1 (by omega) (by omega) (by omega)).mp (c7 |>.trans hrw.symm)⟩
              obtain ⟨hp0, hsp, hB2, hroom⟩ := hasg hyes
              refine wq_aload_n (pc := 74) dX5_readNames_74 rfl rfl ?_
              refine wq_aload (pc := 75) dX5_readNames_75 rfl ?_
              refine wq_getI (pc := 77) (kk := 10) dX5_readNames_77 (gf_X5_104 _ rfl) (by with_reducible assumption) rfl rfl rfl ?_
              rw [tg1]
              refine cVK_1 (pc := 80) dX5_readNames_80 hsT (cw_X5_41 _ rfl) (by decide) rfl ⟨by decide, by decide⟩ (Nat.le_of_ble_eq_true rfl) (sp_X5_find T1 hB1 (by unfold inR; omega) (fun b hb => ?_) (fun hn => ?_))
              · skip
                refine kr_s ?_
                have hb0 := (tAt_sh T1 hb).1
                rw [rnAdd_0 (S := rnV F d k (rn F d S k)) (tAt_mem hb)] at hp0 hB2
                refine wq_astore (pc := 83) (L' := [(5, _), (4, _), (0, _), (1, _), (2, _), (3, _)]) dX5_readNames_83 rfl (by decide) ?_
                refine wq_aload_n (pc := 85) dX5_readNames_85 rfl rfl ?_
                refine wq_aload_n (pc := 86) dX5_readNames_86 rfl rfl ?_
                refine wq_aload (pc := 87) dX5_readNames_87 rfl ?_
                refine wq_getI (pc := 89) (kk := 5) dX5_readNames_89 (gf_X5_115 _ rfl) (by with_reducible assumption) rfl rfl rfl ?_
                rw [sp1]
                refine wq_aload (pc := 92) dX5_readNames_92 rfl ?_
                refine wq_ifnonnull (pc := 94) (tgt := 114) dX5_readNames_94 (by decide)  (fun c10 => ?_) (fun c10 => ?_)
                · skip
                  refine wq_aload (pc := 114) dX5_readNames_114 rfl ?_
                  refine cVK_3 (pc := 116) dX5_readNames_116 hsT (cw_X5_126 _ rfl) (by decide) rfl ⟨by decide, by decide⟩ (Nat.le_of_ble_eq_true rfl) (sq_X5_assign (by assumption) (by assumption) (by assumption) (by assumption) (by omega) (by assumption) (fun m3 T3 F3 K3 => ?_))
                  refine kr_v ?_
                  refine wq_iinc (pc := 119) (L' := [(3, _), (5, _), (4, _), (0, _), (1, _), (2, _)]) dX5_readNames_119 rfl rfl (by decide) ?_
                  refine wq_goto (pc := 122) (tgt := 2) dX5_readNames_122 (by decide) ?_
                  refine wq_sub1 (L' := [(0, _), (1, _), (2, _), (3, _)]) ⟨rfl, rfl, rfl, rfl, trivial⟩ ?_
                  first
                    | (have es := rnStep_0 (S := rn F d S k) ht
                       exact ih (k + 1) m e _ (by omega) (by omega) (by omega) (by rw [rn_s, es]; exact e1) e2 e3 (fun c x z => by rw [rn_s, es]; exact e4 c x z))
                    | (have es := rnStep_2 (S := rn F d S k) ht hyes
                       rw [rnAdd_1 hn] at es
                       exact ih (k + 1) m3 e5 _ (by omega) (by omega) (by omega) (by rw [rn_s, es]; exact T3) (CF_FrT C2 T2.2.1 F3) (FrT_trans e3 (FrT_trans F1 (FrT_trans F2 F3))) (fun c x z => by rw [rn_s, es]; exact K3 _ _ (K2 _ _ (K1 _ _ (e4 c x z)))))
                    | (have es := rnStep_2 (S := rn F d S k) ht hyes
                       rw [rnAdd_0 (tAt_mem hb)] at es
                       exact ih (k + 1) m3 e _ (by omega) (by omega) (by omega) (by rw [rn_s, es]; exact T3) (CF_FrT C1 T1.2.1 F3) (FrT_trans e3 (FrT_trans F1 F3)) (fun c x z => by rw [rn_s, es]; exact K3 _ _ (K1 _ _ (e4 c x z))))
                    | (have es := rnStep_1 (S := rn F d S k) ht (fun z => by first | exact hno z.2 | exact z.1 (by omega))
                       exact ih (k + 1) m1 e _ (by omega) (by omega) (by omega) (by rw [rn_s, es]; exact T1) C1 (FrT_trans e3 F1) (fun c x z => by rw [rn_s, es]; exact K1 _ _ (e4 c x z)))
                · skip
                  exfalso; exact hb0 c10
              · skip
                refine kr_s ?_
                rw [rnAdd_1 (S := rnV F d k (rn F d S k)) hn] at hp0 hB2
                have hroom2 := hroom hn
                have h56e : eKind e 25 ≠ 0 ∨ eSz e = 14 := Or.inl (by rw [(e3.2.1 25 h56).1]; exact h56)
                refine wq_astore (pc := 83) (L' := [(5, _), (4, _), (0, _), (1, _), (2, _), (3, _)]) dX5_readNames_83 rfl (by decide) ?_
                refine wq_aload_n (pc := 85) dX5_readNames_85 rfl rfl ?_
                refine wq_aload_n (pc := 86) dX5_readNames_86 rfl rfl ?_
                refine wq_aload (pc := 87) dX5_readNames_87 rfl ?_
                refine wq_getI (pc := 89) (kk := 5) dX5_readNames_89 (gf_X5_115 _ rfl) (by with_reducible assumption) rfl rfl rfl ?_
                rw [sp1]
                refine wq_aload (pc := 92) dX5_readNames_92 rfl ?_
                refine wq_ifnonnull (pc := 94) (tgt := 114) dX5_readNames_94 (by decide) (fun c => absurd rfl c) (fun _ => ?_)
                refine wq_aload_n (pc := 97) dX5_readNames_97 rfl rfl ?_
                refine wq_aload (pc := 98) dX5_readNames_98 rfl ?_
                refine wq_getI (pc := 100) (kk := 10) dX5_readNames_100 (gf_X5_104 _ rfl) (by with_reducible assumption) rfl rfl rfl ?_
                refine wq_aload (pc := 103) dX5_readNames_103 rfl ?_
                refine wq_getI (pc := 105) (kk := 11) dX5_readNames_105 (gf_X5_123 _ rfl) (by with_reducible assumption) rfl rfl rfl ?_
                rw [tg1, td1]
                refine cVK_2 (pc := 108) dX5_readNames_108 hsT (cw_X5_30 _ rfl) (by decide) rfl ⟨by decide, by decide⟩ (Nat.le_of_ble_eq_true rfl) (sp_X5_add T1 hB1.1 hn (by omega) hroom2 (by omega) h56e (F1.2.2.2.2 t (e3.2.2.2.2 t hcap)) (fun m2 e5 b T2 F2 A2 K2 => ?_))
                refine kr_s ?_
                have C2 := CF_FrT C1 T1.2.1 F2
                have hsT := T2.1
                have hA3 := K2 _ _ hA2
                refine wq_goto (pc := 111) (tgt := 116) dX5_readNames_111 (by decide) ?_
                refine cVK_3 (pc := 116) dX5_readNames_116 hsT (cw_X5_126 _ rfl) (by decide) rfl ⟨by decide, by decide⟩ (Nat.le_of_ble_eq_true rfl) (sq_X5_assign (by assumption) (by assumption) (by assumption) (by assumption) (by omega) (by assumption) (fun m3 T3 F3 K3 => ?_))
                refine kr_v ?_
                refine wq_iinc (pc := 119) (L' := [(3, _), (5, _), (4, _), (0, _), (1, _), (2, _)]) dX5_readNames_119 rfl rfl (by decide) ?_
                refine wq_goto (pc := 122) (tgt := 2) dX5_readNames_122 (by decide) ?_
                refine wq_sub1 (L' := [(0, _), (1, _), (2, _), (3, _)]) ⟨rfl, rfl, rfl, rfl, trivial⟩ ?_
                first
                  | (have es := rnStep_0 (S := rn F d S k) ht
                     exact ih (k + 1) m e _ (by omega) (by omega) (by omega) (by rw [rn_s, es]; exact e1) e2 e3 (fun c x z => by rw [rn_s, es]; exact e4 c x z))
                  | (have es := rnStep_2 (S := rn F d S k) ht hyes
                     rw [rnAdd_1 hn] at es
                     exact ih (k + 1) m3 e5 _ (by omega) (by omega) (by omega) (by rw [rn_s, es]; exact T3) (CF_FrT C2 T2.2.1 F3) (FrT_trans e3 (FrT_trans F1 (FrT_trans F2 F3))) (fun c x z => by rw [rn_s, es]; exact K3 _ _ (K2 _ _ (K1 _ _ (e4 c x z)))))
                  | (have es := rnStep_2 (S := rn F d S k) ht hyes
                     rw [rnAdd_0 (tAt_mem hb)] at es
                     exact ih (k + 1) m3 e _ (by omega) (by omega) (by omega) (by rw [rn_s, es]; exact T3) (CF_FrT C1 T1.2.1 F3) (FrT_trans e3 (FrT_trans F1 F3)) (fun c x z => by rw [rn_s, es]; exact K3 _ _ (K1 _ _ (e4 c x z))))
                  | (have es := rnStep_1 (S := rn F d S k) ht (fun z => by first | exact hno z.2 | exact z.1 (by omega))
                     exact ih (k + 1) m1 e _ (by omega) (by omega) (by omega) (by rw [rn_s, es]; exact T1) C1 (FrT_trans e3 F1) (fun c x z => by rw [rn_s, es]; exact K1 _ _ (e4 c x z)))
        · skip
          refine kr_s ?_
          rw [hq1, rT_of e2 (by omega) (by omega)] at ht
          refine wq_if_eq (pc := 26) (tgt := 119) dX5_readNames_26 (by decide) (by first | (unfold inR; omega) | assumption) (fun _ => ?_) (fun c => absurd c (by decide))
          refine wq_iinc (pc := 119) (L' := [(3, _), (4, _), (0, _), (1, _), (2, _)]) dX5_readNames_119 rfl rfl (by decide) ?_
          refine wq_goto (pc := 122) (tgt := 2) dX5_readNames_122 (by decide) ?_
          refine wq_sub1 (L' := [(0, _), (1, _), (2, _), (3, _)]) ⟨rfl, rfl, rfl, rfl, trivial⟩ ?_
          first
            | (have es := rnStep_0 (S := rn F d S k) ht
               exact ih (k + 1) m e _ (by omega) (by omega) (by omega) (by rw [rn_s, es]; exact e1) e2 e3 (fun c x z => by rw [rn_s, es]; exact e4 c x z))
            | (have es := rnStep_2 (S := rn F d S k) ht hyes
               rw [rnAdd_1 hn] at es
               exact ih (k + 1) m3 e5 _ (by omega) (by omega) (by omega) (by rw [rn_s, es]; exact T3) (CF_FrT C2 T2.2.1 F3) (FrT_trans e3 (FrT_trans F1 (FrT_trans F2 F3))) (fun c x z => by rw [rn_s, es]; exact K3 _ _ (K2 _ _ (K1 _ _ (e4 c x z)))))
            | (have es := rnStep_2 (S := rn F d S k) ht hyes
               rw [rnAdd_0 (tAt_mem hb)] at es
               exact ih (k + 1) m3 e _ (by omega) (by omega) (by omega) (by rw [rn_s, es]; exact T3) (CF_FrT C1 T1.2.1 F3) (FrT_trans e3 (FrT_trans F1 F3)) (fun c x z => by rw [rn_s, es]; exact K3 _ _ (K1 _ _ (e4 c x z))))
            | (have es := rnStep_1 (S := rn F d S k) ht (fun z => by first | exact hno z.2 | exact z.1 (by omega))
               exact ih (k + 1) m1 e _ (by omega) (by omega) (by omega) (by rw [rn_s, es]; exact T1) C1 (FrT_trans e3 F1) (fun c x z => by rw [rn_s, es]; exact K1 _ _ (e4 c x z)))
  refine wq_sub1 (L' := [(0, _), (1, _), (2, _), (3, _)]) ⟨rfl, rfl, rfl, rfl, trivial⟩ ?_
  exact loop1 129 0 μ ε _ (by omega) (by omega) (by omega) hT hC (FrT_refl _ _) (fun _ _ z => z)
