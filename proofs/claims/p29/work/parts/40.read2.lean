theorem sp_X5_readContent {μ : nMem} {ε : nEnv} {Q : nOut → nMem → nEnv → Prop} {S : Tr} {F : Fl} {a q : Int} (hC : CF F μ ε) (hT : CT S μ ε) (hA : tAt S μ a q) (hqr : 0 ≤ q ∧ q ≤ 100000) (h : ∀ μ9, CT (rc F q S 128).2 μ9 ε → CF F μ9 ε → FrT μ ε μ9 ε → (∀ c x, tAt S μ c x → tAt (rc F q S 128).2 μ9 c x) → Q (.inl none) μ9 ε) : Sp mX5_readContent [vR 12, vR a, vR 2] μ ε Q := by
  refine Sp_of (L := [(0, vR 12), (1, vR a), (2, vR 2)]) (by decide) rfl rfl (Nat.le_of_ble_eq_true rfl) ?_
  refine wq_iconst (pc := 0) dX5_readContent_0 ?_
  refine wq_istore_n (pc := 1) (L' := [(3, _), (0, _), (1, _), (2, _)]) dX5_readContent_1 rfl rfl (by decide) ?_
  refine wq_iconst (pc := 2) dX5_readContent_2 ?_
  refine wq_istore (pc := 3) (L' := [(4, _), (3, _), (0, _), (1, _), (2, _)]) dX5_readContent_3 rfl (by decide) ?_
  have loop1 : ∀ (n k : Nat), ∀ (m : nMem) (v i : Int), k ≤ 128 → 128 < k + n → i = (k : Int) → v = (rc F q S k).1 → CT (rc F q S k).2 m ε → CF F m ε → FrT μ ε m ε → (∀ c x, tAt S μ c x → tAt (rc F q S k).2 m c x) → 0 ≤ v ∧ v ≤ 2147483647 → wp mX5_readContent 5 [(0, vR 12), (1, vR a), (2, vR 2), (3, vI v), (4, vI i)] [] m ε Q := by
    intro n
    induction n with
    | zero => intro k m v i hk1 hk2 e0 e1 e2 e3 e4 e5 e6; exact absurd hk2 (by omega)
    | succ n ih =>
      intro k m v i hk1 hk2 e0 e1 e2 e3 e4 e5 e6
      subst e0
      have hs := e3.1
      have hr := e3.2.1
      have hA1 := e5 _ _ hA
      obtain ⟨a0, hI, aw, -⟩ := tAt_sh e2 hA1
      obtain ⟨ka, kc, -⟩ := id hI
      have hq1 := (tAt_is e2 hA1).1
      refine wq_iload (pc := 5) dX5_readContent_5 rfl ?_
      refine wq_sipush (pc := 7) dX5_readContent_7 (by decide) (by decide) ?_
      refine wq_icmp_ge (pc := 10) (tgt := 48) dX5_readContent_10 (by decide) (by first | (unfold inR; omega) | assumption) (by first | (unfold inR; omega) | assumption) (fun c2 => ?_) (fun c2 => ?_)
      · skip
        refine wq_vret (pc := 48) dX5_readContent_48 rfl ?_
        have ek : k = 128 ∨ k = 129 := by omega
        rcases ek with ek | ek
        · subst ek
          exact h _ e2 e3 e4 e5
        · exfalso; omega
      · skip
        refine wq_aload_n (pc := 13) dX5_readContent_13 rfl rfl ?_
        refine wq_aload_n (pc := 14) dX5_readContent_14 rfl rfl ?_
        refine wq_getI (pc := 15) (kk := 1) dX5_readContent_15 (gf_X5_38 _ rfl) (by with_reducible assumption) rfl rfl rfl ?_
        refine wq_iload_n (pc := 18) dX5_readContent_18 rfl rfl ?_
        refine cVK_2 (pc := 19) dX5_readContent_19 hs (cw_X5_130 _ rfl) (by decide) rfl ⟨by decide, by decide⟩ (Nat.le_of_ble_eq_true rfl) (sp_X0_nextData hs hr (by unfold inR; omega) (by unfold inR; omega) ?_)
        refine kr_s ?_
        rw [hq1, qNxt_of e3 q v 128 (Nat.le_refl _)]
        refine wq_astore (pc := 22) (L' := [(5, _), (0, _), (1, _), (2, _), (3, _), (4, _)]) dX5_readContent_22 rfl (by decide) ?_
        refine wq_aload (pc := 24) dX5_readContent_24 rfl ?_
        refine wq_ifnonnull (pc := 26) (tgt := 30) dX5_readContent_26 (by decide)  (fun c3 => ?_) (fun c3 => ?_)
        · skip
          have hne := fun z => c3 ((qAd_0 hr).mpr z)
          obtain ⟨r0, r1⟩ := (qNxt_r F q v 128).resolve_left hne
          rw [show qAd m (qNxt F q v 128) = nRow m (qNxt F q v 128) by unfold qAd; rw [if_neg hne]]
          have hkn := nRow_kd hs hr (qNxt F q v 128)
          have hnb := nRow_nB hr (qNxt F q v 128)
          have hn1 : nRow m (qNxt F q v 128) ≠ eFin ε a 0 := fun z => by rw [z, kc] at hkn; cases hkn
          have hn2 : nRow m (qNxt F q v 128) ≠ a := fun z => by rw [z, ka] at hkn; cases hkn
          refine wq_aload_n (pc := 30) dX5_readContent_30 rfl rfl ?_
          refine wq_aload (pc := 31) dX5_readContent_31 rfl ?_
          refine cV_1 (pc := 33) dX5_readContent_33 (cw_X5_134 _ rfl) (by decide) (by with_reducible assumption) ⟨by decide, by decide⟩ (Nat.le_of_ble_eq_true rfl) (sp_X1_lay hI hkn hnb (fun m1 h61 h31 hx1 hc1 => ?_))
          refine kr_v ?_
          obtain ⟨T1, F1, K1⟩ := CT_lay e3 e2 hA1 r0 (by omega) h61 h31 hx1 hc1
          have hv4 : m1 (nRow m (qNxt F q v 128)) 4 = fN F (qNxt F q v 128) 4 := by
            rw [hx1 _ _ hn1 (fun z => hn2 z.1) (fun z => hn2 z.1)]; exact (CF_row e3 r0 (by omega)).1 4 (by omega) (by omega)
          have hv5 := (CF_row e3 r0 (by omega)).1 4 (by omega) (by omega)
          refine wq_aload (pc := 36) dX5_readContent_36 rfl ?_
          refine wq_getI (pc := 38) (kk := 4) dX5_readContent_38 (gf_X5_114 _ rfl) (by with_reducible assumption) rfl rfl rfl ?_
          refine wq_istore_n (pc := 41) (L' := [(3, _), (5, _), (0, _), (1, _), (2, _), (4, _)]) dX5_readContent_41 rfl rfl (by decide) ?_
          refine wq_iinc (pc := 42) (L' := [(4, _), (3, _), (5, _), (0, _), (1, _), (2, _)]) dX5_readContent_42 rfl rfl (by decide) ?_
          refine wq_goto (pc := 45) (tgt := 5) dX5_readContent_45 (by decide) ?_
          refine wq_sub1 (L' := [(0, _), (1, _), (2, _), (3, _), (4, _)]) ⟨rfl, rfl, rfl, rfl, rfl, trivial⟩ ?_
          have es : rc F q S (k + 1) = (fN F (qNxt F q v 128) 4, tLay F (qNxt F q v 128) q (rc F q S k).2) := by rw [rc_s]; unfold rcStep; rw [← e1, if_neg hne]
          exact ih (k + 1) m1 _ _ (by omega) (by omega) (by omega) (by rw [es]; exact hv4) (by rw [es]; exact T1) (CF_FrT e3 e2.2.1 F1) (FrT_trans e4 F1) (fun c x z => by rw [es]; exact K1 _ _ (e5 c x z)) (by rw [hv4, ← hv5]; obtain ⟨b0, b1, b2, b3, b4, b5⟩ := hnb; omega)
        · skip
          have hend := (qAd_0 hr).mp c3
          refine wq_vret (pc := 29) dX5_readContent_29 rfl ?_
          have ee := rc_end (n := k) (F := F) (q := q) (S := S) (by rw [← e1]; exact hend) (128 - k)
          rw [show k + (128 - k) = 128 by omega] at ee
          exact h _ (by rw [ee]; exact e2) e3 e4 (fun c x z => by rw [ee]; exact e5 c x z)
  refine wq_sub1 (L' := [(0, _), (1, _), (2, _), (3, _), (4, _)]) ⟨rfl, rfl, rfl, rfl, rfl, trivial⟩ ?_
  exact loop1 129 0 μ _ _ (by omega) (by omega) (by omega) rfl hT hC (FrT_refl _ _) (fun _ _ z => z) (by omega)
