theorem sn_X5_add {μ : nMem} {ε : nEnv} {Q : nOut → nMem → nEnv → Prop} {S : Tr} {nn dd : Int} (hT : CT S μ ε) (hB : 0 ≤ tNx S ∧ tNx S ≤ 100000) (hn : nn ∉ tNl S) (hnr : 0 ≤ nn ∧ nn ≤ 100000) (hl : (tNl S).length < 129) (hd : dd = 0 ∨ dd = 1) (h56 : eKind ε 25 ≠ 0 ∨ eSz ε = 14) {t : Nat} (hcap : Cap μ ε t) (hnew : μ 13 ((tNl S).length : Int) = 0) (h : ∀ μ9 ε9 a, (eSz ε9 = eSz ε + 2 ∧ eSl ε9 = eSl ε + 108 ∧ ∀ x, eKind ε9 x = if x = (eSz ε : Int) + 1 + 1 then 11 else if x = (eSz ε : Int) + 1 then 2 else eKind ε x) → (∀ x j, (eKind ε x ≠ 0 ∨ x = -1) → x ≠ 12 → x ≠ 13 → μ9 x j = μ x j) → (∀ j, μ9 13 j = if j = ((tNl S).length : Int) then (eSz ε : Int) + 1 else μ 13 j) → CT (tAdd S nn dd) μ9 ε9 → FrT μ ε μ9 ε9 → tAt (tAdd S nn dd) μ9 a nn → (∀ b q, tAt S μ b q → tAt (tAdd S nn dd) μ9 b q) → Q (.inl (some (vR a))) μ9 ε9) : Sp mX5_add [vR 12, vI nn, vI dd] μ ε Q := by
  refine Sp_of (L := [(0, vR 12), (1, vI nn), (2, vI dd)]) (by decide) rfl rfl (Nat.le_of_ble_eq_true rfl) ?_
  refine wq_env (fun hok => ?_)
  have hs := hT.1
  have hc := hT.2.2.2.2.1
  have k12 : eKind ε 12 ≠ 0 := by rw [(hs 12 6 0 [13, 14, 0, 0] rfl (by decide)).1]; decide
  refine wq_aload_n (pc := 0) dX5_add_0 rfl rfl ?_
  refine wq_getIK (pc := 1) (kk := 2) dX5_add_1 hs (gf_X5_23 _ rfl) rfl rfl rfl rfl ?_
  refine wq_if_lt (pc := 4) (tgt := 29) dX5_add_4 (by decide) (by first | (unfold inR; omega) | assumption) (fun c1 => ?_) (fun c1 => ?_)
  · skip
    exfalso; omega
  · skip
    refine wq_aload_n (pc := 7) dX5_add_7 rfl rfl ?_
    refine wq_getIK (pc := 8) (kk := 2) dX5_add_8 hs (gf_X5_23 _ rfl) rfl rfl rfl rfl ?_
    refine wq_sipush (pc := 11) dX5_add_11 (by decide) (by decide) ?_
    refine wq_icmp_ge (pc := 14) (tgt := 29) dX5_add_14 (by decide) (by first | (unfold inR; omega) | assumption) (by first | (unfold inR; omega) | assumption) (fun c2 => ?_) (fun c2 => ?_)
    · skip
      exfalso; omega
    · skip
      refine wq_aload_n (pc := 17) dX5_add_17 rfl rfl ?_
      refine wq_getS (pc := 18) dX5_add_18 hs (gf_X5_13 _ rfl) rfl rfl rfl rfl rfl ?_
      refine wq_aload_n (pc := 21) dX5_add_21 rfl rfl ?_
      refine wq_getIK (pc := 22) (kk := 2) dX5_add_22 hs (gf_X5_23 _ rfl) rfl rfl rfl rfl ?_
      refine wq_aaldIK (pc := 25) dX5_add_25 hs rfl (by omega) (by omega) ?_
      refine wq_goto (pc := 26) (tgt := 30) dX5_add_26 (by decide) ?_
      refine wq_astore_n (pc := 30) (L' := [(3, _), (0, _), (1, _), (2, _)]) dX5_add_30 rfl rfl (by decide) ?_
      refine wq_aload_n (pc := 31) dX5_add_31 rfl rfl ?_
      refine wq_ifnonnull (pc := 32) (tgt := 43) dX5_add_32 (by decide)  (fun c3 => ?_) (fun c3 => ?_)
      · skip
        exfalso; rw [hc, hnew] at c3; exact c3 rfl
      · skip
        have h00 : μ 13 ((tNl S).length : Int) = 0 := by rw [← hc]; exact c3
        have hp9 := nul_pos (f := μ 13) (i := ((tNl S).length : Int)) 129 (by omega) (by omega) h00
        have hcap9 := hcap
        unfold Cap at hcap9
        refine wq_new (pc := 35) (ci := 1) dX5_add_35 (by decide) rfl (kl_X5_11 _ rfl) ki_1.1 ki_1.2 (by show eSz ε + 1 ≤ 600086 ∧ eSl ε + 8 ≤ 7301442; omega) ?_
        refine wq_dup (pc := 38) dX5_add_38 rfl ?_
        refine cI_0 (pc := 39) dX5_add_39 (cw_X5_48 _ rfl) (by omega) ⟨by decide, by decide⟩ (Nat.le_of_ble_eq_true rfl) (sp_X1_init (by omega) (if_pos rfl) (by show eSz ε + 1 + 1 ≤ 600086 ∧ eSl ε + 8 + 100 ≤ 7301442; omega) ?_)
        refine kr_v ?_
        show wp mX5_add 42 _ _ (zr (zr μ ((eSz ε : Int) + 1)) ((eSz (alF ε 2 0 8) : Int) + 1)) (eItm (alF ε 2 0 8) ((eSz ε : Int) + 1)) Q
        have F := adF_new hT hl hok h56 h00
        generalize zr (zr μ ((eSz ε : Int) + 1)) ((eSz (alF ε 2 0 8) : Int) + 1) = mz at F ⊢
        have hx9 : eSz (eItm (alF ε 2 0 8) ((eSz ε : Int) + 1)) = eSz ε + 2 ∧ eSl (eItm (alF ε 2 0 8) ((eSz ε : Int) + 1)) = eSl ε + 108 ∧ ∀ x, eKind (eItm (alF ε 2 0 8) ((eSz ε : Int) + 1)) x = if x = (eSz ε : Int) + 1 + 1 then 11 else if x = (eSz ε : Int) + 1 then 2 else eKind ε x := ⟨rfl, rfl, fun _ => rfl⟩
        generalize eItm (alF ε 2 0 8) ((eSz ε : Int) + 1) = ez at F hx9 ⊢
        generalize ha0 : (eSz ε : Int) + 1 = a0 at F hx9 h ⊢
        obtain ⟨f1, f2, f3, f4, f5, f6, f7, f8⟩ := F
        have hkk := f4.1
        have hs := SkP_ext hT.1 f2
        have q2 := (f1 12 (Or.inl k12) 2).trans hc
        have q3 := (f1 12 (Or.inl k12) 3).trans hT.2.2.2.2.2.1
        have n12 : (12 : Int) ≠ a0 := by omega
        refine wq_astore_n (pc := 42) (L' := [(3, _), (0, _), (1, _), (2, _)]) dX5_add_42 rfl rfl (by decide) ?_
        refine wq_aload_n (pc := 43) dX5_add_43 rfl rfl ?_
        refine wq_getIK (pc := 44) (kk := 2) dX5_add_44 hs (gf_X5_23 _ rfl) rfl rfl rfl rfl ?_
        refine wq_if_lt (pc := 47) (tgt := 80) dX5_add_47 (by decide) (by first | (unfold inR; omega) | assumption) (fun c4 => ?_) (fun c4 => ?_)
        · skip
          exfalso; omega
        · skip
          refine wq_aload_n (pc := 50) dX5_add_50 rfl rfl ?_
          refine wq_getIK (pc := 51) (kk := 2) dX5_add_51 hs (gf_X5_23 _ rfl) rfl rfl rfl rfl ?_
          refine wq_sipush (pc := 54) dX5_add_54 (by decide) (by decide) ?_
          refine wq_icmp_ge (pc := 57) (tgt := 80) dX5_add_57 (by decide) (by first | (unfold inR; omega) | assumption) (by first | (unfold inR; omega) | assumption) (fun c5 => ?_) (fun c5 => ?_)
          · skip
            exfalso; omega
          · skip
            refine wq_aload_n (pc := 60) dX5_add_60 rfl rfl ?_
            refine wq_getS (pc := 61) dX5_add_61 hs (gf_X5_13 _ rfl) rfl rfl rfl rfl rfl ?_
            refine wq_aload_n (pc := 64) dX5_add_64 rfl rfl ?_
            refine wq_getIK (pc := 65) (kk := 2) dX5_add_65 hs (gf_X5_23 _ rfl) rfl rfl rfl rfl ?_
            refine wq_aload_n (pc := 68) dX5_add_68 rfl rfl ?_
            refine wq_aastIK (pc := 69) dX5_add_69 hs rfl (by omega) (by omega) (by first | with_reducible assumption | exact if_pos rfl) ?_
            refine wq_aload_n (pc := 70) dX5_add_70 rfl rfl ?_
            refine wq_dup (pc := 71) dX5_add_71 rfl ?_
            refine wq_getIK (pc := 72) (kk := 2) dX5_add_72 hs (gf_X5_23 _ rfl) rfl rfl rfl rfl ?_
            refine wq_iconst (pc := 75) dX5_add_75 ?_
            refine wq_iadd (pc := 76) dX5_add_76 ?_
            refine wq_putIK (pc := 77) (kk := 2) dX5_add_77 hs (gf_X5_23 _ rfl) rfl rfl rfl rfl rfl ?_
            refine wq_aload_n (pc := 80) dX5_add_80 rfl rfl ?_
            refine wq_iload_n (pc := 81) dX5_add_81 rfl rfl ?_
            refine wq_iload_n (pc := 82) dX5_add_82 rfl rfl ?_
            refine cV_2 (pc := 83) dX5_add_83 (cw_X5_49 _ rfl) (by decide) (by first | with_reducible assumption | exact if_pos rfl) ⟨by decide, by decide⟩ (Nat.le_of_ble_eq_true rfl) (sp_X1_begin f4 hd (fun m1 hx1 hc1 => ?_))
            refine kr_v ?_
            have uu := fun (m : nMem) => adM (m := m) (n := nn) (d := dd) (c := m 12 2) (l := wr m 13 (m 12 2) a0 12 2 + 1) f5
            have u1 := fun m => (uu m).1
            have u2 := fun m => (uu m).2.1
            have u3 := fun m => (uu m).2.2.1
            have u4 := fun m => (uu m).2.2.2.1
            have u5 := fun m => (uu m).2.2.2.2.1
            have u6 := fun m => (uu m).2.2.2.2.2.1
            have u7 := fun m => (uu m).2.2.2.2.2.2
            have q123 : m1 12 3 = tNx S := by rw [hx1 12 3 (by omega)]; exact (u3 _).trans q3
            have q12i : 0 ≤ m1 12 3 ∧ m1 12 3 ≤ 100000 := by omega
            refine wq_aload_n (pc := 86) dX5_add_86 rfl rfl ?_
            refine wq_aload_n (pc := 87) dX5_add_87 rfl rfl ?_
            refine wq_getIK (pc := 88) (kk := 3) dX5_add_88 hs (gf_X5_27 _ rfl) rfl rfl rfl rfl ?_
            refine wq_iload_n (pc := 91) dX5_add_91 rfl rfl ?_
            refine wq_iconst (pc := 92) dX5_add_92 ?_
            refine wq_iadd (pc := 93) dX5_add_93 ?_
            refine cS_2 (pc := 94) dX5_add_94 (cw_X5_53 _ rfl) ⟨by decide, by decide⟩ (Nat.le_of_ble_eq_true rfl) (sp_J9_max (by unfold inR; omega) (by unfold inR; omega) ?_)
            refine kr_s ?_
            refine wq_putIK (pc := 97) (kk := 3) dX5_add_97 hs (gf_X5_27 _ rfl) rfl rfl rfl rfl rfl ?_
            refine wq_aload_n (pc := 100) dX5_add_100 rfl rfl ?_
            refine wq_aret (pc := 101) dX5_add_101 rfl ?_
            have r := add_fin (m9 := wr m1 12 3 (max (m1 12 3) (nn + 1))) hT hn hl f1 f2 f3 f4 f5 f6 f7 f8 (d := dd) (n := nn) (fun j j0 j1 => by rw [wr_n _ _ (by omega)]; exact hc1 j j0 j1) (fun x j x1 x2 x3 x4 => by rw [wr_n _ _ (by omega), hx1 x j x1]; exact u1 _ x j x2 x3 x4) ⟨by rw [wr_n _ _ (by omega), hx1 12 2 (by omega), u2, wr_n _ _ (by omega), q2], by rw [wr_s, q123]⟩ (fun j => by rw [wr_n _ _ (by omega), hx1 13 j (by omega), u4, q2]) ⟨by rw [wr_n _ _ (by omega), hx1 _ _ (isItm_ne f4).symm]; exact u5 _, by rw [wr_n _ _ (by omega), hx1 _ _ (isItm_ne f4).symm]; exact u6 _, fun k k0 k1 => by rw [wr_n _ _ (by omega), hx1 _ _ (isItm_ne f4).symm]; exact u7 _ k k0 k1⟩
            have hz7 : eKind ε a0 = 0 ∧ eKind ε (eFin ez a0 0) = 0 := f7.resolve_left (fun q => by rw [hnew] at q; omega)
            have g1 : ∀ x j, (eKind ε x ≠ 0 ∨ x = -1) → x ≠ 12 → x ≠ 13 → wr m1 12 3 (max (m1 12 3) (nn + 1)) x j = μ x j := fun x j hx h2 h3 => by
              have xa : x ≠ a0 := fun q => by rcases hx with w | w; exact w (by rw [q]; exact hz7.1); omega
              have xc : x ≠ eFin ez a0 0 := fun q => by rcases hx with w | w; exact w (by rw [q]; exact hz7.2); omega
              rw [wr_n _ _ (by omega), hx1 x j xc, u1 _ x j xa h2 h3]; exact f1 x hx j
            have k13 : eKind ε 13 ≠ 0 := by rw [(hT.1 13 14 129 _ rfl (by decide)).1]; decide
            have g13 : ∀ j, wr m1 12 3 (max (m1 12 3) (nn + 1)) 13 j = if j = ((tNl S).length : Int) then a0 else μ 13 j := fun j => by
              rw [wr_n _ _ (by omega), hx1 13 j (by omega), u4, q2, f1 13 (Or.inl k13) j]
            exact h _ _ _ hx9 g1 g13 r.1 r.2.1 r.2.2.1 r.2.2.2
theorem sn_X5_empty {μ : nMem} {ε : nEnv} {Q : nOut → nMem → nEnv → Prop} {t : Nat} (hs : SkP skT ε) (hi : nItems μ ε) (h56 : eKind ε 25 ≠ 0 ∨ eSz ε = 14) (hcap : Cap μ ε t) (hnew : μ 13 0 = 0) (h : ∀ μ9 ε9 a, (eSz ε9 = eSz ε + 2 ∧ eSl ε9 = eSl ε + 108 ∧ ∀ x, eKind ε9 x = if x = (eSz ε : Int) + 1 + 1 then 11 else if x = (eSz ε : Int) + 1 then 2 else eKind ε x) → (∀ x j, (eKind ε x ≠ 0 ∨ x = -1) → x ≠ 12 → x ≠ 13 → μ9 x j = μ x j) → (∀ j, μ9 13 j = if j = 0 then (eSz ε : Int) + 1 else μ 13 j) → CT tRoot μ9 ε9 → FrT μ ε μ9 ε9 → tAt tRoot μ9 a 1 → Q (.inl none) μ9 ε9) : Sp mX5_empty [vR 12] μ ε Q := by
  refine Sp_of (L := [(0, vR 12)]) (by decide) rfl rfl (Nat.le_of_ble_eq_true rfl) ?_
  refine wq_aload_n (pc := 0) dX5_empty_0 rfl rfl ?_
  refine wq_iconst (pc := 1) dX5_empty_1 ?_
  refine wq_putIK (pc := 2) (kk := 2) dX5_empty_2 hs (gf_X5_23 _ rfl) rfl rfl rfl rfl rfl ?_
  refine wq_aload_n (pc := 5) dX5_empty_5 rfl rfl ?_
  refine wq_iconst (pc := 6) dX5_empty_6 ?_
  refine wq_putIK (pc := 7) (kk := 3) dX5_empty_7 hs (gf_X5_27 _ rfl) rfl rfl rfl rfl rfl ?_
  obtain ⟨T1, F1⟩ := CT_empty hs hi
  have hnew1 : wr (wr μ 12 2 0) 12 3 1 13 ((tNl tNone).length : Int) = 0 := by rw [wr_n _ _ (by omega), wr_n _ _ (by omega)]; exact hnew
  have w1 : ∀ x j, x ≠ 12 → wr (wr μ 12 2 0) 12 3 1 x j = μ x j := fun x j q => by rw [wr_n _ _ (by omega), wr_n _ _ (by omega)]
  generalize wr (wr μ 12 2 0) 12 3 1 = m1 at T1 F1 hnew1 w1 ⊢
  refine wq_aload_n (pc := 10) dX5_empty_10 rfl rfl ?_
  refine wq_iconst (pc := 11) dX5_empty_11 ?_
  refine wq_iconst (pc := 12) dX5_empty_12 ?_
  refine cVK_2 (pc := 13) dX5_empty_13 hs (cw_X5_30 _ rfl) (by decide) rfl ⟨by decide, by decide⟩ (Nat.le_of_ble_eq_true rfl) (sn_X5_add T1 (by show (0 : Int) ≤ 1 ∧ (1 : Int) ≤ 100000; omega) (fun q => by cases q) (by omega) (by show 0 < 129; omega) (by omega) h56 (F1.2.2.2.2 t hcap) hnew1 (fun m2 e2 a2 X1 X2 X3 T2 F2 A2 K2 => ?_))
  refine kr_s ?_
  refine wq_pop (pc := 16) dX5_empty_16 rfl ?_
  refine wq_vret (pc := 17) dX5_empty_17 rfl ?_
  exact h _ _ _ X1 (fun x j hx h2 h3 => (X2 x j hx h2 h3).trans (w1 x j h2)) (fun j => by rw [X3 j, w1 13 j (by omega)]; rfl) T2 (FrT_trans F1 F2) A2
theorem nul_le (f : Int → Int) : ∀ n : Nat, nul f n ≤ n
  | 0 => Nat.le_refl _
  | n + 1 => by
    have := nul_le f n
    show (nul f n + if f n = 0 then 1 else 0) ≤ n + 1
    split <;> omega
theorem skT_of {ε : nEnv} (a0 : eKind ε 12 = 6) (a1 : eLen ε 12 = 0) (a2 : eFin ε 12 0 = 13) (a3 : eFin ε 12 1 = 14) (b0 : eKind ε 13 = 14) (b1 : eLen ε 13 = 129) (c0 : eKind ε 14 = 14) (c1 : eLen ε 14 = 129) : SkP skT ε := by
  intro x kd ln fs h hk
  cases x with
  | negSucc n => cases h
  | ofNat n =>
    match n, h with
    | 0, h => cases h; exact absurd rfl hk
    | 1, h => cases h; exact absurd rfl hk
    | 2, h => cases h; exact absurd rfl hk
    | 3, h => cases h; exact absurd rfl hk
    | 4, h => cases h; exact absurd rfl hk
    | 5, h => cases h; exact absurd rfl hk
    | 6, h => cases h; exact absurd rfl hk
    | 7, h => cases h; exact absurd rfl hk
    | 8, h => cases h; exact absurd rfl hk
    | 9, h => cases h; exact absurd rfl hk
    | 10, h => cases h; exact absurd rfl hk
    | 11, h => cases h; exact absurd rfl hk
    | 12, h =>
      cases h
      refine ⟨a0, a1, fun k v hv hv0 => ?_⟩
      match k, hv with
      | 0, hv => cases hv; exact a2
      | 1, hv => cases hv; exact a3
      | 2, hv => cases hv; exact absurd rfl hv0
      | 3, hv => cases hv; exact absurd rfl hv0
      | k + 4, hv => cases hv
    | 13, h => cases h; exact ⟨b0, b1, fun k v hv _ => by cases hv⟩
    | 14, h => cases h; exact ⟨c0, c1, fun k v hv _ => by cases hv⟩
    | n + 15, h => cases h
theorem sp_X5_init {μ : nMem} {ε : nEnv} {Q : nOut → nMem → nEnv → Prop}  (hz : eSz ε = 12) (hl : eSl ε ≤ 6000000) (hk12 : eKind ε 12 = 6) (hn12 : eLen ε 12 = 0) (hno : ∀ x, eKind ε x ≠ 0 → x ≠ 13 ∧ x ≠ 14 ∧ x ≠ 15 ∧ x ≠ 16) (h : ∀ μ9 ε9, (eSz ε9 = 16 ∧ eSl ε9 ≤ eSl ε + 400) → (∀ x, eKind ε9 x = if x = 16 then 11 else if x = 15 then 2 else if x = 14 then 14 else if x = 13 then 14 else eKind ε x) → (∀ x, eKind ε x ≠ 0 → eLen ε9 x = eLen ε x ∧ ∀ j, ¬ (x = 12 ∧ (j = 0 ∨ j = 1)) → eFin ε9 x j = eFin ε x j) → eLen ε9 (-1) = eLen ε (-1) → (∀ x j, (eKind ε x ≠ 0 ∨ x = -1) → x ≠ 12 → μ9 x j = μ x j) → (∀ j, j ≠ 0 → μ9 13 j = 0) → CT tRoot μ9 ε9 → Q (.inl none) μ9 ε9) : Sp mX5_init [vR 12] μ ε Q := by
  refine Sp_of (L := [(0, vR 12)]) (by decide) rfl rfl (Nat.le_of_ble_eq_true rfl) ?_
  refine wq_aload_n (pc := 0) dX5_init_0 rfl rfl ?_
  refine wq_oinit (pc := 1) dX5_init_1 (by omega) (co_X5_3 mX5_init rfl).1 (co_X5_3 mX5_init rfl).2.1 (co_X5_3 mX5_init rfl).2.2 (by decide) (by decide) (Nat.le_of_ble_eq_true rfl) ?_
  refine wq_aload_n (pc := 4) dX5_init_4 rfl rfl ?_
  refine wq_sipush (pc := 5) dX5_init_5 (by decide) (by decide) ?_
  refine wq_newQI (pc := 8) dX5_init_8 (kl_X5_11 _ rfl) kv_1 (by omega) (by omega) (by first | (unfold nCAP nSCAP; omega) | (rw [cT4]; unfold nCAP nSCAP; omega)) ?_
  refine wq_putF (pc := 11) (ci := 5) (k := 0) dX5_init_11 (by first | with_reducible assumption | (show (if (12 : Int) = _ then _ else _) = _; rw [if_neg (by omega)]; assumption)) (by decide) (by decide) (wOK_1 272 (by decide +kernel) (by decide +kernel)) rfl rfl rfl rfl (fun _ => ⟨by first | rfl | exact (putOK_O _ _ _).1 | exact (putOK_A _ _ _).1, by first | rfl | exact (putOK_O _ _ _).2 | exact (putOK_A _ _ _).2⟩) ?_
  have A1 := Al_i ε 14 129 (129 : Int).toNat 12 0
  have e1 : ((eSz ε : Nat) : Int) + 1 = 13 := by rw [hz]; rfl
  generalize wrF (alF ε 14 129 (129 : Int).toNat) 12 0 ((eSz ε : Int) + 1) = ε1 at A1 ⊢
  unfold Al at A1
  rw [e1] at A1 ⊢
  have z1 : eSz ε1 = 13 := by rw [A1.1, hz]
  have l1 := A1.2.1
  have hk12_1 : eKind ε1 12 = 6 := by rw [A1.2.2.1, if_neg (by decide)]; exact hk12
  refine wq_aload_n (pc := 14) dX5_init_14 rfl rfl ?_
  refine wq_sipush (pc := 15) dX5_init_15 (by decide) (by decide) ?_
  refine wq_newQI (pc := 18) dX5_init_18 (kl_X5_11 _ rfl) kv_1 (by omega) (by omega) (by first | (unfold nCAP nSCAP; omega) | (rw [cT4]; unfold nCAP nSCAP; omega)) ?_
  refine wq_putF (pc := 21) (ci := 5) (k := 1) dX5_init_21 (by first | with_reducible assumption | (show (if (12 : Int) = _ then _ else _) = _; rw [if_neg (by omega)]; assumption)) (by decide) (by decide) (wOK_1 273 (by decide +kernel) (by decide +kernel)) rfl rfl rfl rfl (fun _ => ⟨by first | rfl | exact (putOK_O _ _ _).1 | exact (putOK_A _ _ _).1, by first | rfl | exact (putOK_O _ _ _).2 | exact (putOK_A _ _ _).2⟩) ?_
  have A2 := Al_i ε1 14 129 (129 : Int).toNat 12 1
  have e2 : ((eSz ε1 : Nat) : Int) + 1 = 14 := by rw [z1]; rfl
  generalize wrF (alF ε1 14 129 (129 : Int).toNat) 12 1 ((eSz ε1 : Int) + 1) = ε2 at A2 ⊢
  unfold Al at A2
  rw [e2] at A2 ⊢
  have z2 : eSz ε2 = 14 := by rw [A2.1, z1]
  have l2 := A2.2.1
  have hk12_2 : eKind ε2 12 = 6 := by rw [A2.2.2.1, if_neg (by decide)]; exact hk12_1
  have hmm : ∀ x j, x ≠ 13 → x ≠ 14 → zr (zr μ 13) 14 x j = μ x j := fun x j h1 h2 => by rw [zr_v, if_neg h2, zr_v, if_neg h1]
  have zz : ∀ j, zr (zr μ 13) 14 13 j = 0 := fun j => by rw [zr_v, if_neg (by decide), zr_v, if_pos rfl]
  generalize zr (zr μ 13) 14 = mz at hmm zz ⊢
  have k13 : eKind ε2 13 = 14 := by rw [A2.2.2.1, if_neg (by decide), A1.2.2.1, if_pos rfl]
  have k14 : eKind ε2 14 = 14 := by rw [A2.2.2.1, if_pos rfl]
  have n12 : eLen ε2 12 = 0 := by rw [A2.2.2.2.1, if_neg (by decide), A1.2.2.2.1, if_neg (by decide)]; exact hn12
  have n13 : eLen ε2 13 = 129 := by rw [A2.2.2.2.1, if_neg (by decide), A1.2.2.2.1, if_pos rfl]
  have n14 : eLen ε2 14 = 129 := by rw [A2.2.2.2.1, if_pos rfl]
  have g0 : eFin ε2 12 0 = 13 := by rw [A2.2.2.2.2, if_neg (by decide), if_neg (by decide), A1.2.2.2.2, if_pos ⟨rfl, rfl⟩]
  have g1 : eFin ε2 12 1 = 14 := by rw [A2.2.2.2.2, if_pos ⟨rfl, rfl⟩]
  have hskT : SkP skT ε2 := skT_of hk12_2 n12 g0 g1 k13 n13 k14 n14
  have hi9 : nItems mz ε2 := ⟨fun i _ _ q => absurd (zz i) q, fun i j _ _ _ _ q => absurd (zz i) q, fun i j _ _ _ _ q => absurd (zz i) q⟩
  have hcap2 : Cap mz ε2 1 := by
    have q1 : nul (mz 3) 128 ≤ 128 := nul_le _ 128
    have q2 : nul (mz 13) 129 ≤ 129 := nul_le _ 129
    unfold Cap
    omega
  refine wq_aload_n (pc := 24) dX5_init_24 rfl rfl ?_
  refine cV_0 (pc := 25) dX5_init_25 (cw_X5_20 _ rfl) (by decide) (by first | with_reducible assumption | (show (if (12 : Int) = _ then _ else _) = _; rw [if_neg (by omega)]; assumption)) ⟨by decide, by decide⟩ (Nat.le_of_ble_eq_true rfl) (sn_X5_empty hskT hi9 (Or.inr z2) hcap2 (zz 0) (fun m3 e3 a3 X1 X2 X3 T3 F3 A3 => ?_))
  refine kr_v ?_
  refine wq_vret (pc := 28) dX5_init_28 rfl ?_
  have z2' : (eSz ε2 : Int) + 1 = 15 := by rw [z2]; rfl
  rw [z2'] at X1 X3
  have kn : ∀ x, eKind ε x ≠ 0 → eKind ε2 x ≠ 0 := fun x hx => by
    obtain ⟨y1, y2, -, -⟩ := hno x hx
    rw [A2.2.2.1, if_neg y2, A1.2.2.1, if_neg y1]; exact hx
  refine h _ _ ⟨by omega, by omega⟩ (fun x => ?_) (fun x hx => ?_) ?_ (fun x j hx h2 => ?_) (fun j j0 => ?_) T3
  · rw [X1.2.2 x, A2.2.2.1, A1.2.2.1]; rfl
  · obtain ⟨y1, y2, -, -⟩ := hno x hx
    obtain ⟨-, f2, f3⟩ := F3.2.1 x (kn x hx)
    refine ⟨by rw [f2, A2.2.2.2.1, if_neg y2, A1.2.2.2.1, if_neg y1], fun j hj => ?_⟩
    rw [f3 j, A2.2.2.2.2, if_neg (by omega), if_neg y2, A1.2.2.2.2, if_neg (by omega), if_neg y1]
  · rw [F3.2.2.2.1, A2.2.2.2.1, if_neg (by decide), A1.2.2.2.1, if_neg (by decide)]
  · have xx : x ≠ 13 ∧ x ≠ 14 := by
      rcases hx with w | w
      · obtain ⟨y1, y2, -, -⟩ := hno x w; exact ⟨y1, y2⟩
      · omega
    rw [X2 x j (hx.imp (kn x) id) h2 xx.1, hmm x j xx.1 xx.2]
  · rw [X3 j, if_neg j0, zz j]
