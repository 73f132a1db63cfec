def hasN (A : AS) (d nm : Int) : Prop := hasNm A d nm
theorem cnt_hasN {A : AS} {d nm : Int} (h : TD (aF A) d nm = 1) : 0 < cntN (TG (aF A) (TG (aF A) d nm)) 99 ↔ hasN A d nm := (cntN_p 99).trans ⟨fun ⟨x, hx, hz⟩ => ⟨h, x, hx, hz⟩, fun ⟨_, x, hx, hz⟩ => ⟨x, hx, hz⟩⟩
theorem sp_X7_unlink {μ : nMem} {ε : nEnv} {Q : nOut → nMem → nEnv → Prop} {A : AS} {nb vb d nm : Int} (hC : CM A μ ε) (hO : AOK A nb vb) (hnb : nb + 1 ≤ 2000) (hvb : vb + 2 ≤ 4000) (r1 : inR d) (r2 : inR nm) (h : ∀ m v, CM (actUnlink A d nm).2 m ε → FrM μ m → anM (actUnlink A d nm).1 [xI, xA, xS] v m → Q (.inl (some (vI v))) m ε) : Sp mX7_unlink [vR 21, vI d, vI nm] μ ε Q := by
  refine Sp_of (L := [(0, vR 21), (1, vI d), (2, vI nm)]) (by decide) rfl rfl (Nat.le_of_ble_eq_true rfl) ?_
  have hs := hC.1.1
  unfold actUnlink at h
  have cut1 : ∀ (m : nMem) (v : Int), (CM A m ε) → (FrM μ m) → (m 21 25 = 0) → (fD (aF A) = 0) → (isDr A d) → (nmR nm) → (v / 2 = TG (aF A) d nm ∧ 0 ≤ v ∧ v ≤ 5000) → (¬ TG (aF A) d nm = 0) → (¬ hasNm A d nm) → (rmA A [3] 1) → wp mX7_unlink 67 [(0, vR 21), (1, vI d), (2, vI nm), (3, vI v)] [] m ε Q := by
    intro m v e0 e1 e2 e3 e4 e5 e6 e7 e8 e9
    obtain ⟨fl, S0, hP, hT0⟩ := hO.2.2 e3
    have hdb := isDr_b hP e4
    obtain ⟨hG, h22, h39⟩ := e0.2.2 e3
    have hx := hP.2.2.2.2.2.2.2.1
    have hvr := hP.2.2.2.2.2.2.2.2.1
    have hs := e0.1.1
    have hvd := hvr d
    rw [pI_on e3, pI_0 (fun z => z e4), pI_0 (fun z => z e5), pI_0 e7, pI_0 e8, pI_0 (fun z => z e9)] at h
    obtain ⟨⟨s1, hs1, hus⟩, hfr1⟩ := tr_fr (by omega) (by omega) e9
    have N := IP_name (nb := nb + 1) (A := A) (d := d) (nm := nm) (t := 0) (nx' := aX A) (IP_mono hP (by omega) (Int.le_refl vb)) (by omega) (by omega) (by omega) e5 (by omega) (by omega) hfr1 rfl
    rw [if_pos rfl] at N
    refine wq_aload_n (pc := 67) dX7_unlink_67 rfl rfl ?_
    refine wq_iload_n (pc := 68) dX7_unlink_68 rfl rfl ?_
    refine wq_iload_n (pc := 69) dX7_unlink_69 rfl rfl ?_
    refine wq_iconst (pc := 70) dX7_unlink_70 ?_
    refine wq_iconst (pc := 71) dX7_unlink_71 ?_
    refine cVK_4 (pc := 72) dX7_unlink_72 hs (cw_X7_229 _ rfl) (by decide) rfl ⟨by decide, by decide⟩ (Nat.le_of_ble_eq_true rfl) (sp_X7_writeName (F := aF A) (g := aG A) (v0 := aN A d) (CM_WM e0 e3) hP.2.1 hP.2.2.2.1 (by omega) (by omega) (h39 d (by omega) (by omega)).2 (nmSrc_ok (by omega) (by omega) e5 (by omega) (Or.inl rfl) (fun z => rfl)) hfr1 (fun hr5 m5 P5 => ?_) (fun hr5 m5 P5 => ?_))
    · skip
      refine kr_s ?_
      have hr5b := hr5
      refine wq_if_eq (pc := 75) (tgt := 84) dX7_unlink_75 (by decide) (by first | (unfold inR; omega) | assumption) (fun _ => ?_) (fun c => absurd c (by decide))
      refine wq_bipush (pc := 84) dX7_unlink_84 (by decide) (by decide) ?_
      refine wq_iret (pc := 86) dX7_unlink_86 rfl ?_
      first
        | (unfold actUnlink1 at h
           rw [if_neg (by rw [hr5]; decide)] at h
           obtain ⟨-, -, -, -, y5, -⟩ := id P5
           rw [e6.1]
           exact h _ _ (CM_put hs P5 (fun _ => ⟨by rw [wr_n _ _ (by omega)]; exact h22, fun n n0 n1 => ⟨by rw [wr_n _ _ (by omega)]; exact (h39 n n0 n1).1, bump_wr (V := aN A) (fun n n0 n1 => (h39 n n0 n1).2) n n0 n1⟩⟩) (fun z => absurd z (by rw [hr5]; decide))) (FrM_t e1 (FrM_t (FrM_w (by omega)) (FrM_P y5))) (anM_v (by rw [y5 21 25 (by omega) (by omega), wr_n _ _ (by omega)]; exact e2)))
        | (unfold actUnlink1 at h
           rw [if_pos hr5] at h
           obtain ⟨-, -, -, -, y5, -⟩ := id P5
           exact h _ _ (CM_put hs P5 (fun z => absurd z (by rw [hr5]; decide)) (fun _ => (N.2 hr5).1)) (FrM_t e1 (FrM_t (FrM_w (by omega)) (FrM_P y5))) (anM_v (by rw [y5 21 25 (by omega) (by omega), wr_n _ _ (by omega)]; exact e2)))
        | (exfalso; omega)
        | (obtain ⟨a9, ea, an⟩ := rfN_an (X := _) (v := 0) t1
           rw [ea] at h
           exact h _ _ C1 F1 an)
        | (rw [pI_on hd, pI_0 (fun z => z hdir), pI_0 (fun z => z hnm), pI_1 (show TG (aF A) d nm = 0 by omega)] at h
           exact h _ _ (CM_25 Cw) (FrM_t Fw (FrM_w (by omega))) (anM_x 2 rfl (wr_s _ _ _ _)))
        | (have hhas : hasNm A d nm := hcp.mp (by omega)
           rw [pI_on hd, pI_0 (fun z => z hdir), pI_0 (fun z => z hnm), pI_0 (show ¬ TG (aF A) d nm = 0 by omega), pI_1 hhas] at h
           exact h _ _ (CM_25 Cw) (FrM_t Fw (FrM_w (by omega))) (anM_x 2 rfl (wr_s _ _ _ _)))
        | (have hnh : ¬ hasNm A d nm := by
             first
               | exact (fun z => by have z1 := z.1; clear z; omega)
               | exact (fun z => by have z2 := hcp.mpr z; clear z; omega)
           rw [pI_on hd, pI_0 (fun z => z hdir), pI_0 (fun z => z hnm), pI_0 (show ¬ TG (aF A) d nm = 0 by omega), pI_0 hnh, pI_1 (by rw [if_neg (by decide)] at hrm; exact hrm)] at h
           exact h _ _ (CM_25 C4) (FrM_t F4b (FrM_w (by omega))) (anM_x 2 rfl (wr_s _ _ _ _)))
    · skip
      refine kr_s ?_
      have hr5b := hr5
      refine wq_if_eq (pc := 75) (tgt := 84) dX7_unlink_75 (by decide) (by first | (unfold inR; omega) | assumption) (fun c => absurd c (by decide)) (fun _ => ?_)
      refine wq_iload_n (pc := 78) dX7_unlink_78 rfl rfl ?_
      refine wq_iconst (pc := 79) dX7_unlink_79 ?_
      refine wq_idiv (pc := 80) dX7_unlink_80 (by omega) (by omega) ?_
      refine wq_goto (pc := 81) (tgt := 86) dX7_unlink_81 (by decide) ?_
      refine wq_iret (pc := 86) dX7_unlink_86 rfl ?_
      first
        | (unfold actUnlink1 at h
           rw [if_neg (by rw [hr5]; decide)] at h
           obtain ⟨-, -, -, -, y5, -⟩ := id P5
           rw [e6.1]
           exact h _ _ (CM_put hs P5 (fun _ => ⟨by rw [wr_n _ _ (by omega)]; exact h22, fun n n0 n1 => ⟨by rw [wr_n _ _ (by omega)]; exact (h39 n n0 n1).1, bump_wr (V := aN A) (fun n n0 n1 => (h39 n n0 n1).2) n n0 n1⟩⟩) (fun z => absurd z (by rw [hr5]; decide))) (FrM_t e1 (FrM_t (FrM_w (by omega)) (FrM_P y5))) (anM_v (by rw [y5 21 25 (by omega) (by omega), wr_n _ _ (by omega)]; exact e2)))
        | (unfold actUnlink1 at h
           rw [if_pos hr5] at h
           obtain ⟨-, -, -, -, y5, -⟩ := id P5
           exact h _ _ (CM_put hs P5 (fun z => absurd z (by rw [hr5]; decide)) (fun _ => (N.2 hr5).1)) (FrM_t e1 (FrM_t (FrM_w (by omega)) (FrM_P y5))) (anM_v (by rw [y5 21 25 (by omega) (by omega), wr_n _ _ (by omega)]; exact e2)))
        | (exfalso; omega)
        | (obtain ⟨a9, ea, an⟩ := rfN_an (X := _) (v := 0) t1
           rw [ea] at h
           exact h _ _ C1 F1 an)
        | (rw [pI_on hd, pI_0 (fun z => z hdir), pI_0 (fun z => z hnm), pI_1 (show TG (aF A) d nm = 0 by omega)] at h
           exact h _ _ (CM_25 Cw) (FrM_t Fw (FrM_w (by omega))) (anM_x 2 rfl (wr_s _ _ _ _)))
        | (have hhas : hasNm A d nm := hcp.mp (by omega)
           rw [pI_on hd, pI_0 (fun z => z hdir), pI_0 (fun z => z hnm), pI_0 (show ¬ TG (aF A) d nm = 0 by omega), pI_1 hhas] at h
           exact h _ _ (CM_25 Cw) (FrM_t Fw (FrM_w (by omega))) (anM_x 2 rfl (wr_s _ _ _ _)))
        | (have hnh : ¬ hasNm A d nm := by
             first
               | exact (fun z => by have z1 := z.1; clear z; omega)
               | exact (fun z => by have z2 := hcp.mpr z; clear z; omega)
           rw [pI_on hd, pI_0 (fun z => z hdir), pI_0 (fun z => z hnm), pI_0 (show ¬ TG (aF A) d nm = 0 by omega), pI_0 hnh, pI_1 (by rw [if_neg (by decide)] at hrm; exact hrm)] at h
           exact h _ _ (CM_25 C4) (FrM_t F4b (FrM_w (by omega))) (anM_x 2 rfl (wr_s _ _ _ _)))
  refine wq_iconst (pc := 0) dX7_unlink_0 ?_
  refine wq_istore_n (pc := 1) (L' := [(3, _), (0, _), (1, _), (2, _)]) dX7_unlink_1 rfl rfl (by decide) ?_
  refine wq_aload_n (pc := 2) dX7_unlink_2 rfl rfl ?_
  refine wq_iload_n (pc := 3) dX7_unlink_3 rfl rfl ?_
  refine wq_iload_n (pc := 4) dX7_unlink_4 rfl rfl ?_
  refine cVK_2 (pc := 5) dX7_unlink_5 hs (cw_X7_219 _ rfl) (by decide) rfl ⟨by decide, by decide⟩ (Nat.le_of_ble_eq_true rfl) (sp_X7_canName hC hO r1 r2 (fun hd hdir hnm m1 C1 F1 t1 => ?_) (fun m1 C1 F1 t1 => ?_))
  · skip
    refine kr_s ?_
    have hnm9 := hnm
    have hPL := (hO.2.2 hd)
    refine wq_if_eq (pc := 8) (tgt := 58) dX7_unlink_8 (by decide) (by first | (unfold inR; omega) | assumption) (fun c => absurd c (by decide)) (fun _ => ?_)
    refine wq_aload_n (pc := 11) dX7_unlink_11 rfl rfl ?_
    refine wq_iload_n (pc := 12) dX7_unlink_12 rfl rfl ?_
    refine wq_iload_n (pc := 13) dX7_unlink_13 rfl rfl ?_
    refine cVK_2 (pc := 14) dX7_unlink_14 hs (cw_X7_171 _ rfl) (by decide) rfl ⟨by decide, by decide⟩ (Nat.le_of_ble_eq_true rfl) (sp_X7_entry C1.1 (AOK_KP hO) hdir hnm (fun m2 v K2 Y2 ev => ?_))
    refine kr_s ?_
    have C2 := CM_Y C1 K2.1 Y2
    have F2 := FrM_t F1 (FrM_Y Y2)
    have Cw := C2
    have Fw := F2
    have rv : inR v := by unfold inR; omega
    obtain ⟨fl0, S0, hP0, hT0⟩ := hO.2.2 hd
    refine wq_istore_n (pc := 17) (L' := [(3, _), (0, _), (1, _), (2, _)]) dX7_unlink_17 rfl rfl (by decide) ?_
    refine wq_aload_n (pc := 18) dX7_unlink_18 rfl rfl ?_
    refine wq_iload_n (pc := 19) dX7_unlink_19 rfl rfl ?_
    refine wq_iconst (pc := 20) dX7_unlink_20 ?_
    refine wq_icmp_eq (pc := 21) (tgt := 50) dX7_unlink_21 (by decide) (by first | (unfold inR; omega) | assumption) (by first | (unfold inR; omega) | assumption) (fun c10 => ?_) (fun c10 => ?_)
    · skip
      refine wq_iconst (pc := 50) dX7_unlink_50 ?_
      refine wq_goto (pc := 51) (tgt := 55) dX7_unlink_51 (by decide) ?_
      refine wq_putIK (pc := 55) (kk := 25) dX7_unlink_55 hs (gf_X7_127 _ rfl) rfl rfl rfl rfl rfl ?_
      refine wq_aload_n (pc := 58) dX7_unlink_58 rfl rfl ?_
      refine wq_getIK (pc := 59) (kk := 25) dX7_unlink_59 hs (gf_X7_127 _ rfl) rfl rfl rfl rfl ?_
      try rw [wr_s]
      refine wq_if_le (pc := 62) (tgt := 67) dX7_unlink_62 (by decide) (by first | (unfold inR; omega) | assumption) (fun c11 => ?_) (fun c11 => ?_)
      · skip
        refine wq_sub1 (L' := [(0, _), (1, _), (2, _), (3, _)]) ⟨rfl, rfl, rfl, rfl, trivial⟩ ?_
        first
          | (exfalso; omega)
          | (have hnh : ¬ hasNm A d nm := by
               first
                 | exact (fun z => by have z1 := z.1; clear z; omega)
                 | exact (fun z => by have z2 := hcp.mpr z; clear z; omega)
             exact cut1 _ _ (CM_25 C4) (FrM_t F4b (FrM_w (by omega))) (wr_s _ _ _ _) hd hdir hnm (by omega) (by omega) hnh (by rw [if_neg (by decide)] at hrm; exact hrm))
      · skip
        refine wq_iconst (pc := 65) dX7_unlink_65 ?_
        refine wq_iret (pc := 66) dX7_unlink_66 rfl ?_
        first
          | (unfold actUnlink1 at h
             rw [if_neg (by rw [hr5]; decide)] at h
             obtain ⟨-, -, -, -, y5, -⟩ := id P5
             rw [e6.1]
             exact h _ _ (CM_put hs P5 (fun _ => ⟨by rw [wr_n _ _ (by omega)]; exact h22, fun n n0 n1 => ⟨by rw [wr_n _ _ (by omega)]; exact (h39 n n0 n1).1, bump_wr (V := aN A) (fun n n0 n1 => (h39 n n0 n1).2) n n0 n1⟩⟩) (fun z => absurd z (by rw [hr5]; decide))) (FrM_t e1 (FrM_t (FrM_w (by omega)) (FrM_P y5))) (anM_v (by rw [y5 21 25 (by omega) (by omega), wr_n _ _ (by omega)]; exact e2)))
          | (unfold actUnlink1 at h
             rw [if_pos hr5] at h
             obtain ⟨-, -, -, -, y5, -⟩ := id P5
             exact h _ _ (CM_put hs P5 (fun z => absurd z (by rw [hr5]; decide)) (fun _ => (N.2 hr5).1)) (FrM_t e1 (FrM_t (FrM_w (by omega)) (FrM_P y5))) (anM_v (by rw [y5 21 25 (by omega) (by omega), wr_n _ _ (by omega)]; exact e2)))
          | (exfalso; omega)
          | (obtain ⟨a9, ea, an⟩ := rfN_an (X := _) (v := 0) t1
             rw [ea] at h
             exact h _ _ C1 F1 an)
          | (rw [pI_on hd, pI_0 (fun z => z hdir), pI_0 (fun z => z hnm), pI_1 (show TG (aF A) d nm = 0 by omega)] at h
             exact h _ _ (CM_25 Cw) (FrM_t Fw (FrM_w (by omega))) (anM_x 2 rfl (wr_s _ _ _ _)))
          | (have hhas : hasNm A d nm := hcp.mp (by omega)
             rw [pI_on hd, pI_0 (fun z => z hdir), pI_0 (fun z => z hnm), pI_0 (show ¬ TG (aF A) d nm = 0 by omega), pI_1 hhas] at h
             exact h _ _ (CM_25 Cw) (FrM_t Fw (FrM_w (by omega))) (anM_x 2 rfl (wr_s _ _ _ _)))
          | (have hnh : ¬ hasNm A d nm := by
               first
                 | exact (fun z => by have z1 := z.1; clear z; omega)
                 | exact (fun z => by have z2 := hcp.mpr z; clear z; omega)
             rw [pI_on hd, pI_0 (fun z => z hdir), pI_0 (fun z => z hnm), pI_0 (show ¬ TG (aF A) d nm = 0 by omega), pI_0 hnh, pI_1 (by rw [if_neg (by decide)] at hrm; exact hrm)] at h
             exact h _ _ (CM_25 C4) (FrM_t F4b (FrM_w (by omega))) (anM_x 2 rfl (wr_s _ _ _ _)))
    · skip
      refine wq_iload_n (pc := 24) dX7_unlink_24 rfl rfl ?_
      refine wq_iconst (pc := 25) dX7_unlink_25 ?_
      refine wq_irem (pc := 26) dX7_unlink_26 (by omega) (by omega) ?_
      refine wq_iconst (pc := 27) dX7_unlink_27 ?_
      refine wq_icmp_ne (pc := 28) (tgt := 41) dX7_unlink_28 (by decide) (by first | (unfold inR; omega) | assumption) (by first | (unfold inR; omega) | assumption) (fun c12 => ?_) (fun c12 => ?_)
      · skip
        refine wq_aload_n (pc := 41) dX7_unlink_41 rfl rfl ?_
        refine wq_iconst (pc := 42) dX7_unlink_42 ?_
        refine wq_iconst (pc := 43) dX7_unlink_43 ?_
        refine cVK_2 (pc := 44) dX7_unlink_44 hs (cw_X7_222 _ rfl) (by decide) rfl ⟨by decide, by decide⟩ (Nat.le_of_ble_eq_true rfl) (sp_X7_canWrite Cw hd hP0.2.2.2.1 (by omega) (by omega) (fun hrm m4 C4 F4 t4 => ?_) (fun hrm m4 C4 F4 t4 => ?_))
        · skip
          refine kr_s ?_
          have hrm9 := hrm
          have F4b := FrM_t Fw F4
          refine wq_if_ne (pc := 47) (tgt := 54) dX7_unlink_47 (by decide) (by first | (unfold inR; omega) | assumption) (fun _ => ?_) (fun c => absurd c (by decide))
          refine wq_iconst (pc := 54) dX7_unlink_54 ?_
          refine wq_putIK (pc := 55) (kk := 25) dX7_unlink_55 hs (gf_X7_127 _ rfl) rfl rfl rfl rfl rfl ?_
          refine wq_aload_n (pc := 58) dX7_unlink_58 rfl rfl ?_
          refine wq_getIK (pc := 59) (kk := 25) dX7_unlink_59 hs (gf_X7_127 _ rfl) rfl rfl rfl rfl ?_
          try rw [wr_s]
          refine wq_if_le (pc := 62) (tgt := 67) dX7_unlink_62 (by decide) (by first | (unfold inR; omega) | assumption) (fun c16 => ?_) (fun c16 => ?_)
          · skip
            refine wq_sub1 (L' := [(0, _), (1, _), (2, _), (3, _)]) ⟨rfl, rfl, rfl, rfl, trivial⟩ ?_
            first
              | (exfalso; omega)
              | (have hnh : ¬ hasNm A d nm := by
                   first
                     | exact (fun z => by have z1 := z.1; clear z; omega)
                     | exact (fun z => by have z2 := hcp.mpr z; clear z; omega)
                 exact cut1 _ _ (CM_25 C4) (FrM_t F4b (FrM_w (by omega))) (wr_s _ _ _ _) hd hdir hnm (by omega) (by omega) hnh (by rw [if_neg (by decide)] at hrm; exact hrm))
          · skip
            refine wq_iconst (pc := 65) dX7_unlink_65 ?_
            refine wq_iret (pc := 66) dX7_unlink_66 rfl ?_
            first
              | (unfold actUnlink1 at h
                 rw [if_neg (by rw [hr5]; decide)] at h
                 obtain ⟨-, -, -, -, y5, -⟩ := id P5
                 rw [e6.1]
                 exact h _ _ (CM_put hs P5 (fun _ => ⟨by rw [wr_n _ _ (by omega)]; exact h22, fun n n0 n1 => ⟨by rw [wr_n _ _ (by omega)]; exact (h39 n n0 n1).1, bump_wr (V := aN A) (fun n n0 n1 => (h39 n n0 n1).2) n n0 n1⟩⟩) (fun z => absurd z (by rw [hr5]; decide))) (FrM_t e1 (FrM_t (FrM_w (by omega)) (FrM_P y5))) (anM_v (by rw [y5 21 25 (by omega) (by omega), wr_n _ _ (by omega)]; exact e2)))
              | (unfold actUnlink1 at h
                 rw [if_pos hr5] at h
                 obtain ⟨-, -, -, -, y5, -⟩ := id P5
                 exact h _ _ (CM_put hs P5 (fun z => absurd z (by rw [hr5]; decide)) (fun _ => (N.2 hr5).1)) (FrM_t e1 (FrM_t (FrM_w (by omega)) (FrM_P y5))) (anM_v (by rw [y5 21 25 (by omega) (by omega), wr_n _ _ (by omega)]; exact e2)))
              | (exfalso; omega)
              | (obtain ⟨a9, ea, an⟩ := rfN_an (X := _) (v := 0) t1
                 rw [ea] at h
                 exact h _ _ C1 F1 an)
              | (rw [pI_on hd, pI_0 (fun z => z hdir), pI_0 (fun z => z hnm), pI_1 (show TG (aF A) d nm = 0 by omega)] at h
                 exact h _ _ (CM_25 Cw) (FrM_t Fw (FrM_w (by omega))) (anM_x 2 rfl (wr_s _ _ _ _)))
              | (have hhas : hasNm A d nm := hcp.mp (by omega)
                 rw [pI_on hd, pI_0 (fun z => z hdir), pI_0 (fun z => z hnm), pI_0 (show ¬ TG (aF A) d nm = 0 by omega), pI_1 hhas] at h
                 exact h _ _ (CM_25 Cw) (FrM_t Fw (FrM_w (by omega))) (anM_x 2 rfl (wr_s _ _ _ _)))
              | (have hnh : ¬ hasNm A d nm := by
                   first
                     | exact (fun z => by have z1 := z.1; clear z; omega)
                     | exact (fun z => by have z2 := hcp.mpr z; clear z; omega)
                 rw [pI_on hd, pI_0 (fun z => z hdir), pI_0 (fun z => z hnm), pI_0 (show ¬ TG (aF A) d nm = 0 by omega), pI_0 hnh, pI_1 (by rw [if_neg (by decide)] at hrm; exact hrm)] at h
                 exact h _ _ (CM_25 C4) (FrM_t F4b (FrM_w (by omega))) (anM_x 2 rfl (wr_s _ _ _ _)))
        · skip
          refine kr_s ?_
          have hrm9 := hrm
          have F4b := FrM_t Fw F4
          refine wq_if_ne (pc := 47) (tgt := 54) dX7_unlink_47 (by decide) (by first | (unfold inR; omega) | assumption) (fun c => absurd c (by decide)) (fun _ => ?_)
          refine wq_iconst (pc := 50) dX7_unlink_50 ?_
          refine wq_goto (pc := 51) (tgt := 55) dX7_unlink_51 (by decide) ?_
          refine wq_putIK (pc := 55) (kk := 25) dX7_unlink_55 hs (gf_X7_127 _ rfl) rfl rfl rfl rfl rfl ?_
          refine wq_aload_n (pc := 58) dX7_unlink_58 rfl rfl ?_
          refine wq_getIK (pc := 59) (kk := 25) dX7_unlink_59 hs (gf_X7_127 _ rfl) rfl rfl rfl rfl ?_
          try rw [wr_s]
          refine wq_if_le (pc := 62) (tgt := 67) dX7_unlink_62 (by decide) (by first | (unfold inR; omega) | assumption) (fun c18 => ?_) (fun c18 => ?_)
          · skip
            refine wq_sub1 (L' := [(0, _), (1, _), (2, _), (3, _)]) ⟨rfl, rfl, rfl, rfl, trivial⟩ ?_
            first
              | (exfalso; omega)
              | (have hnh : ¬ hasNm A d nm := by
                   first
                     | exact (fun z => by have z1 := z.1; clear z; omega)
                     | exact (fun z => by have z2 := hcp.mpr z; clear z; omega)
                 exact cut1 _ _ (CM_25 C4) (FrM_t F4b (FrM_w (by omega))) (wr_s _ _ _ _) hd hdir hnm (by omega) (by omega) hnh (by rw [if_neg (by decide)] at hrm; exact hrm))
          · skip
            refine wq_iconst (pc := 65) dX7_unlink_65 ?_
            refine wq_iret (pc := 66) dX7_unlink_66 rfl ?_
            first
              | (unfold actUnlink1 at h
                 rw [if_neg (by rw [hr5]; decide)] at h
                 obtain ⟨-, -, -, -, y5, -⟩ := id P5
                 rw [e6.1]
                 exact h _ _ (CM_put hs P5 (fun _ => ⟨by rw [wr_n _ _ (by omega)]; exact h22, fun n n0 n1 => ⟨by rw [wr_n _ _ (by omega)]; exact (h39 n n0 n1).1, bump_wr (V := aN A) (fun n n0 n1 => (h39 n n0 n1).2) n n0 n1⟩⟩) (fun z => absurd z (by rw [hr5]; decide))) (FrM_t e1 (FrM_t (FrM_w (by omega)) (FrM_P y5))) (anM_v (by rw [y5 21 25 (by omega) (by omega), wr_n _ _ (by omega)]; exact e2)))
              | (unfold actUnlink1 at h
                 rw [if_pos hr5] at h
                 obtain ⟨-, -, -, -, y5, -⟩ := id P5
                 exact h _ _ (CM_put hs P5 (fun z => absurd z (by rw [hr5]; decide)) (fun _ => (N.2 hr5).1)) (FrM_t e1 (FrM_t (FrM_w (by omega)) (FrM_P y5))) (anM_v (by rw [y5 21 25 (by omega) (by omega), wr_n _ _ (by omega)]; exact e2)))
              | (exfalso; omega)
              | (obtain ⟨a9, ea, an⟩ := rfN_an (X := _) (v := 0) t1
                 rw [ea] at h
                 exact h _ _ C1 F1 an)
              | (rw [pI_on hd, pI_0 (fun z => z hdir), pI_0 (fun z => z hnm), pI_1 (show TG (aF A) d nm = 0 by omega)] at h
                 exact h _ _ (CM_25 Cw) (FrM_t Fw (FrM_w (by omega))) (anM_x 2 rfl (wr_s _ _ _ _)))
              | (have hhas : hasNm A d nm := hcp.mp (by omega)
                 rw [pI_on hd, pI_0 (fun z => z hdir), pI_0 (fun z => z hnm), pI_0 (show ¬ TG (aF A) d nm = 0 by omega), pI_1 hhas] at h
                 exact h _ _ (CM_25 Cw) (FrM_t Fw (FrM_w (by omega))) (anM_x 2 rfl (wr_s _ _ _ _)))
              | (have hnh : ¬ hasNm A d nm := by
                   first
                     | exact (fun z => by have z1 := z.1; clear z; omega)
                     | exact (fun z => by have z2 := hcp.mpr z; clear z; omega)
                 rw [pI_on hd, pI_0 (fun z => z hdir), pI_0 (fun z => z hnm), pI_0 (show ¬ TG (aF A) d nm = 0 by omega), pI_0 hnh, pI_1 (by rw [if_neg (by decide)] at hrm; exact hrm)] at h
                 exact h _ _ (CM_25 C4) (FrM_t F4b (FrM_w (by omega))) (anM_x 2 rfl (wr_s _ _ _ _)))
      · skip
        refine wq_aload_n (pc := 31) dX7_unlink_31 rfl rfl ?_
        refine wq_iload_n (pc := 32) dX7_unlink_32 rfl rfl ?_
        refine wq_iconst (pc := 33) dX7_unlink_33 ?_
        refine wq_idiv (pc := 34) dX7_unlink_34 (by omega) (by omega) ?_
        rw [show v / 2 = TG (aF A) d nm by omega]
        refine cVK_1 (pc := 35) dX7_unlink_35 hs (cw_X7_240 _ rfl) (by decide) rfl ⟨by decide, by decide⟩ (Nat.le_of_ble_eq_true rfl) (sp_X7_namesIn Cw.1 (AOK_KP hO) (thD_s hdir hnm (by omega) (by omega)) (fun m3 K3 Y3 => ?_))
        refine kr_s ?_
        have C3n := CM_Y Cw K3.1 Y3
        have F3n := FrM_t Fw (FrM_Y Y3)
        have Cw := C3n
        have Fw := F3n
        have hcp := cnt_hasN (A := A) (d := d) (nm := nm) (by omega)
        have hcb := cntN_bb (TG (aF A) (TG (aF A) d nm)) 99
        have rcn : inR (cntN (TG (aF A) (TG (aF A) d nm)) 99) := by unfold inR; omega
        refine wq_if_gt (pc := 38) (tgt := 50) dX7_unlink_38 (by decide) (by first | (unfold inR; omega) | assumption) (fun c20 => ?_) (fun c20 => ?_)
        · skip
          refine wq_iconst (pc := 50) dX7_unlink_50 ?_
          refine wq_goto (pc := 51) (tgt := 55) dX7_unlink_51 (by decide) ?_
          refine wq_putIK (pc := 55) (kk := 25) dX7_unlink_55 hs (gf_X7_127 _ rfl) rfl rfl rfl rfl rfl ?_
          refine wq_aload_n (pc := 58) dX7_unlink_58 rfl rfl ?_
          refine wq_getIK (pc := 59) (kk := 25) dX7_unlink_59 hs (gf_X7_127 _ rfl) rfl rfl rfl rfl ?_
          try rw [wr_s]
          refine wq_if_le (pc := 62) (tgt := 67) dX7_unlink_62 (by decide) (by first | (unfold inR; omega) | assumption) (fun c21 => ?_) (fun c21 => ?_)
          · skip
            refine wq_sub1 (L' := [(0, _), (1, _), (2, _), (3, _)]) ⟨rfl, rfl, rfl, rfl, trivial⟩ ?_
            first
              | (exfalso; omega)
              | (have hnh : ¬ hasNm A d nm := by
                   first
                     | exact (fun z => by have z1 := z.1; clear z; omega)
                     | exact (fun z => by have z2 := hcp.mpr z; clear z; omega)
                 exact cut1 _ _ (CM_25 C4) (FrM_t F4b (FrM_w (by omega))) (wr_s _ _ _ _) hd hdir hnm (by omega) (by omega) hnh (by rw [if_neg (by decide)] at hrm; exact hrm))
          · skip
            refine wq_iconst (pc := 65) dX7_unlink_65 ?_
            refine wq_iret (pc := 66) dX7_unlink_66 rfl ?_
            first
              | (unfold actUnlink1 at h
                 rw [if_neg (by rw [hr5]; decide)] at h
                 obtain ⟨-, -, -, -, y5, -⟩ := id P5
                 rw [e6.1]
                 exact h _ _ (CM_put hs P5 (fun _ => ⟨by rw [wr_n _ _ (by omega)]; exact h22, fun n n0 n1 => ⟨by rw [wr_n _ _ (by omega)]; exact (h39 n n0 n1).1, bump_wr (V := aN A) (fun n n0 n1 => (h39 n n0 n1).2) n n0 n1⟩⟩) (fun z => absurd z (by rw [hr5]; decide))) (FrM_t e1 (FrM_t (FrM_w (by omega)) (FrM_P y5))) (anM_v (by rw [y5 21 25 (by omega) (by omega), wr_n _ _ (by omega)]; exact e2)))
              | (unfold actUnlink1 at h
                 rw [if_pos hr5] at h
                 obtain ⟨-, -, -, -, y5, -⟩ := id P5
                 exact h _ _ (CM_put hs P5 (fun z => absurd z (by rw [hr5]; decide)) (fun _ => (N.2 hr5).1)) (FrM_t e1 (FrM_t (FrM_w (by omega)) (FrM_P y5))) (anM_v (by rw [y5 21 25 (by omega) (by omega), wr_n _ _ (by omega)]; exact e2)))
              | (exfalso; omega)
              | (obtain ⟨a9, ea, an⟩ := rfN_an (X := _) (v := 0) t1
                 rw [ea] at h
                 exact h _ _ C1 F1 an)
              | (rw [pI_on hd, pI_0 (fun z => z hdir), pI_0 (fun z => z hnm), pI_1 (show TG (aF A) d nm = 0 by omega)] at h
                 exact h _ _ (CM_25 Cw) (FrM_t Fw (FrM_w (by omega))) (anM_x 2 rfl (wr_s _ _ _ _)))
              | (have hhas : hasNm A d nm := hcp.mp (by omega)
                 rw [pI_on hd, pI_0 (fun z => z hdir), pI_0 (fun z => z hnm), pI_0 (show ¬ TG (aF A) d nm = 0 by omega), pI_1 hhas] at h
                 exact h _ _ (CM_25 Cw) (FrM_t Fw (FrM_w (by omega))) (anM_x 2 rfl (wr_s _ _ _ _)))
              | (have hnh : ¬ hasNm A d nm := by
                   first
                     | exact (fun z => by have z1 := z.1; clear z; omega)
                     | exact (fun z => by have z2 := hcp.mpr z; clear z; omega)
                 rw [pI_on hd, pI_0 (fun z => z hdir), pI_0 (fun z => z hnm), pI_0 (show ¬ TG (aF A) d nm = 0 by omega), pI_0 hnh, pI_1 (by rw [if_neg (by decide)] at hrm; exact hrm)] at h
                 exact h _ _ (CM_25 C4) (FrM_t F4b (FrM_w (by omega))) (anM_x 2 rfl (wr_s _ _ _ _)))
        · skip
          refine wq_aload_n (pc := 41) dX7_unlink_41 rfl rfl ?_
          refine wq_iconst (pc := 42) dX7_unlink_42 ?_
          refine wq_iconst (pc := 43) dX7_unlink_43 ?_
          refine cVK_2 (pc := 44) dX7_unlink_44 hs (cw_X7_222 _ rfl) (by decide) rfl ⟨by decide, by decide⟩ (Nat.le_of_ble_eq_true rfl) (sp_X7_canWrite Cw hd hP0.2.2.2.1 (by omega) (by omega) (fun hrm m4 C4 F4 t4 => ?_) (fun hrm m4 C4 F4 t4 => ?_))
          · skip
            refine kr_s ?_
            have hrm9 := hrm
            have F4b := FrM_t Fw F4
            refine wq_if_ne (pc := 47) (tgt := 54) dX7_unlink_47 (by decide) (by first | (unfold inR; omega) | assumption) (fun _ => ?_) (fun c => absurd c (by decide))
            refine wq_iconst (pc := 54) dX7_unlink_54 ?_
            refine wq_putIK (pc := 55) (kk := 25) dX7_unlink_55 hs (gf_X7_127 _ rfl) rfl rfl rfl rfl rfl ?_
            refine wq_aload_n (pc := 58) dX7_unlink_58 rfl rfl ?_
            refine wq_getIK (pc := 59) (kk := 25) dX7_unlink_59 hs (gf_X7_127 _ rfl) rfl rfl rfl rfl ?_
            try rw [wr_s]
            refine wq_if_le (pc := 62) (tgt := 67) dX7_unlink_62 (by decide) (by first | (unfold inR; omega) | assumption) (fun c25 => ?_) (fun c25 => ?_)
            · skip
              refine wq_sub1 (L' := [(0, _), (1, _), (2, _), (3, _)]) ⟨rfl, rfl, rfl, rfl, trivial⟩ ?_
              first
                | (exfalso; omega)
                | (have hnh : ¬ hasNm A d nm := by
                     first
                       | exact (fun z => by have z1 := z.1; clear z; omega)
                       | exact (fun z => by have z2 := hcp.mpr z; clear z; omega)
                   exact cut1 _ _ (CM_25 C4) (FrM_t F4b (FrM_w (by omega))) (wr_s _ _ _ _) hd hdir hnm (by omega) (by omega) hnh (by rw [if_neg (by decide)] at hrm; exact hrm))
            · skip
              refine wq_iconst (pc := 65) dX7_unlink_65 ?_
              refine wq_iret (pc := 66) dX7_unlink_66 rfl ?_
              first
                | (unfold actUnlink1 at h
                   rw [if_neg (by rw [hr5]; decide)] at h
                   obtain ⟨-, -, -, -, y5, -⟩ := id P5
                   rw [e6.1]
                   exact h _ _ (CM_put hs P5 (fun _ => ⟨by rw [wr_n _ _ (by omega)]; exact h22, fun n n0 n1 => ⟨by rw [wr_n _ _ (by omega)]; exact (h39 n n0 n1).1, bump_wr (V := aN A) (fun n n0 n1 => (h39 n n0 n1).2) n n0 n1⟩⟩) (fun z => absurd z (by rw [hr5]; decide))) (FrM_t e1 (FrM_t (FrM_w (by omega)) (FrM_P y5))) (anM_v (by rw [y5 21 25 (by omega) (by omega), wr_n _ _ (by omega)]; exact e2)))
                | (unfold actUnlink1 at h
                   rw [if_pos hr5] at h
                   obtain ⟨-, -, -, -, y5, -⟩ := id P5
                   exact h _ _ (CM_put hs P5 (fun z => absurd z (by rw [hr5]; decide)) (fun _ => (N.2 hr5).1)) (FrM_t e1 (FrM_t (FrM_w (by omega)) (FrM_P y5))) (anM_v (by rw [y5 21 25 (by omega) (by omega), wr_n _ _ (by omega)]; exact e2)))
                | (exfalso; omega)
                | (obtain ⟨a9, ea, an⟩ := rfN_an (X := _) (v := 0) t1
                   rw [ea] at h
                   exact h _ _ C1 F1 an)
                | (rw [pI_on hd, pI_0 (fun z => z hdir), pI_0 (fun z => z hnm), pI_1 (show TG (aF A) d nm = 0 by omega)] at h
                   exact h _ _ (CM_25 Cw) (FrM_t Fw (FrM_w (by omega))) (anM_x 2 rfl (wr_s _ _ _ _)))
                | (have hhas : hasNm A d nm := hcp.mp (by omega)
                   rw [pI_on hd, pI_0 (fun z => z hdir), pI_0 (fun z => z hnm), pI_0 (show ¬ TG (aF A) d nm = 0 by omega), pI_1 hhas] at h
                   exact h _ _ (CM_25 Cw) (FrM_t Fw (FrM_w (by omega))) (anM_x 2 rfl (wr_s _ _ _ _)))
                | (have hnh : ¬ hasNm A d nm := by
                     first
                       | exact (fun z => by have z1 := z.1; clear z; omega)
                       | exact (fun z => by have z2 := hcp.mpr z; clear z; omega)
                   rw [pI_on hd, pI_0 (fun z => z hdir), pI_0 (fun z => z hnm), pI_0 (show ¬ TG (aF A) d nm = 0 by omega), pI_0 hnh, pI_1 (by rw [if_neg (by decide)] at hrm; exact hrm)] at h
                   exact h _ _ (CM_25 C4) (FrM_t F4b (FrM_w (by omega))) (anM_x 2 rfl (wr_s _ _ _ _)))
          · skip
            refine kr_s ?_
            have hrm9 := hrm
            have F4b := FrM_t Fw F4
            refine wq_if_ne (pc := 47) (tgt := 54) dX7_unlink_47 (by decide) (by first | (unfold inR; omega) | assumption) (fun c => absurd c (by decide)) (fun _ => ?_)
            refine wq_iconst (pc := 50) dX7_unlink_50 ?_
            refine wq_goto (pc := 51) (tgt := 55) dX7_unlink_51 (by decide) ?_
            refine wq_putIK (pc := 55) (kk := 25) dX7_unlink_55 hs (gf_X7_127 _ rfl) rfl rfl rfl rfl rfl ?_
            refine wq_aload_n (pc := 58) dX7_unlink_58 rfl rfl ?_
            refine wq_getIK (pc := 59) (kk := 25) dX7_unlink_59 hs (gf_X7_127 _ rfl) rfl rfl rfl rfl ?_
            try rw [wr_s]
            refine wq_if_le (pc := 62) (tgt := 67) dX7_unlink_62 (by decide) (by first | (unfold inR; omega) | assumption) (fun c27 => ?_) (fun c27 => ?_)
            · skip
              refine wq_sub1 (L' := [(0, _), (1, _), (2, _), (3, _)]) ⟨rfl, rfl, rfl, rfl, trivial⟩ ?_
              first
                | (exfalso; omega)
                | (have hnh : ¬ hasNm A d nm := by
                     first
                       | exact (fun z => by have z1 := z.1; clear z; omega)
                       | exact (fun z => by have z2 := hcp.mpr z; clear z; omega)
                   exact cut1 _ _ (CM_25 C4) (FrM_t F4b (FrM_w (by omega))) (wr_s _ _ _ _) hd hdir hnm (by omega) (by omega) hnh (by rw [if_neg (by decide)] at hrm; exact hrm))
            · skip
              refine wq_iconst (pc := 65) dX7_unlink_65 ?_
              refine wq_iret (pc := 66) dX7_unlink_66 rfl ?_
              first
                | (unfold actUnlink1 at h
                   rw [if_neg (by rw [hr5]; decide)] at h
                   obtain ⟨-, -, -, -, y5, -⟩ := id P5
                   rw [e6.1]
                   exact h _ _ (CM_put hs P5 (fun _ => ⟨by rw [wr_n _ _ (by omega)]; exact h22, fun n n0 n1 => ⟨by rw [wr_n _ _ (by omega)]; exact (h39 n n0 n1).1, bump_wr (V := aN A) (fun n n0 n1 => (h39 n n0 n1).2) n n0 n1⟩⟩) (fun z => absurd z (by rw [hr5]; decide))) (FrM_t e1 (FrM_t (FrM_w (by omega)) (FrM_P y5))) (anM_v (by rw [y5 21 25 (by omega) (by omega), wr_n _ _ (by omega)]; exact e2)))
                | (unfold actUnlink1 at h
                   rw [if_pos hr5] at h
                   obtain ⟨-, -, -, -, y5, -⟩ := id P5
                   exact h _ _ (CM_put hs P5 (fun z => absurd z (by rw [hr5]; decide)) (fun _ => (N.2 hr5).1)) (FrM_t e1 (FrM_t (FrM_w (by omega)) (FrM_P y5))) (anM_v (by rw [y5 21 25 (by omega) (by omega), wr_n _ _ (by omega)]; exact e2)))
                | (exfalso; omega)
                | (obtain ⟨a9, ea, an⟩ := rfN_an (X := _) (v := 0) t1
                   rw [ea] at h
                   exact h _ _ C1 F1 an)
                | (rw [pI_on hd, pI_0 (fun z => z hdir), pI_0 (fun z => z hnm), pI_1 (show TG (aF A) d nm = 0 by omega)] at h
                   exact h _ _ (CM_25 Cw) (FrM_t Fw (FrM_w (by omega))) (anM_x 2 rfl (wr_s _ _ _ _)))
                | (have hhas : hasNm A d nm := hcp.mp (by omega)
                   rw [pI_on hd, pI_0 (fun z => z hdir), pI_0 (fun z => z hnm), pI_0 (show ¬ TG (aF A) d nm = 0 by omega), pI_1 hhas] at h
                   exact h _ _ (CM_25 Cw) (FrM_t Fw (FrM_w (by omega))) (anM_x 2 rfl (wr_s _ _ _ _)))
                | (have hnh : ¬ hasNm A d nm := by
                     first
                       | exact (fun z => by have z1 := z.1; clear z; omega)
                       | exact (fun z => by have z2 := hcp.mpr z; clear z; omega)
                   rw [pI_on hd, pI_0 (fun z => z hdir), pI_0 (fun z => z hnm), pI_0 (show ¬ TG (aF A) d nm = 0 by omega), pI_0 hnh, pI_1 (by rw [if_neg (by decide)] at hrm; exact hrm)] at h
                   exact h _ _ (CM_25 C4) (FrM_t F4b (FrM_w (by omega))) (anM_x 2 rfl (wr_s _ _ _ _)))
  · skip
    refine kr_s ?_
    have ht1 := rfN_r (A := A) (d := d) (nm := nm) t1
    have r25 : inR (m1 21 25) := by unfold inR; omega
    refine wq_if_eq (pc := 8) (tgt := 58) dX7_unlink_8 (by decide) (by first | (unfold inR; omega) | assumption) (fun _ => ?_) (fun c => absurd c (by decide))
    refine wq_aload_n (pc := 58) dX7_unlink_58 rfl rfl ?_
    refine wq_getIK (pc := 59) (kk := 25) dX7_unlink_59 hs (gf_X7_127 _ rfl) rfl rfl rfl rfl ?_
    try rw [wr_s]
    refine wq_if_le (pc := 62) (tgt := 67) dX7_unlink_62 (by decide) (by first | (unfold inR; omega) | assumption) (fun c29 => ?_) (fun c29 => ?_)
    · skip
      refine wq_sub1 (L' := [(0, _), (1, _), (2, _), (3, _)]) ⟨rfl, rfl, rfl, rfl, trivial⟩ ?_
      first
        | (exfalso; omega)
        | (have hnh : ¬ hasNm A d nm := by
             first
               | exact (fun z => by have z1 := z.1; clear z; omega)
               | exact (fun z => by have z2 := hcp.mpr z; clear z; omega)
           exact cut1 _ _ (CM_25 C4) (FrM_t F4b (FrM_w (by omega))) (wr_s _ _ _ _) hd hdir hnm (by omega) (by omega) hnh (by rw [if_neg (by decide)] at hrm; exact hrm))
    · skip
      refine wq_iconst (pc := 65) dX7_unlink_65 ?_
      refine wq_iret (pc := 66) dX7_unlink_66 rfl ?_
      first
        | (unfold actUnlink1 at h
           rw [if_neg (by rw [hr5]; decide)] at h
           obtain ⟨-, -, -, -, y5, -⟩ := id P5
           rw [e6.1]
           exact h _ _ (CM_put hs P5 (fun _ => ⟨by rw [wr_n _ _ (by omega)]; exact h22, fun n n0 n1 => ⟨by rw [wr_n _ _ (by omega)]; exact (h39 n n0 n1).1, bump_wr (V := aN A) (fun n n0 n1 => (h39 n n0 n1).2) n n0 n1⟩⟩) (fun z => absurd z (by rw [hr5]; decide))) (FrM_t e1 (FrM_t (FrM_w (by omega)) (FrM_P y5))) (anM_v (by rw [y5 21 25 (by omega) (by omega), wr_n _ _ (by omega)]; exact e2)))
        | (unfold actUnlink1 at h
           rw [if_pos hr5] at h
           obtain ⟨-, -, -, -, y5, -⟩ := id P5
           exact h _ _ (CM_put hs P5 (fun z => absurd z (by rw [hr5]; decide)) (fun _ => (N.2 hr5).1)) (FrM_t e1 (FrM_t (FrM_w (by omega)) (FrM_P y5))) (anM_v (by rw [y5 21 25 (by omega) (by omega), wr_n _ _ (by omega)]; exact e2)))
        | (exfalso; omega)
        | (obtain ⟨a9, ea, an⟩ := rfN_an (X := _) (v := 0) t1
           rw [ea] at h
           exact h _ _ C1 F1 an)
        | (rw [pI_on hd, pI_0 (fun z => z hdir), pI_0 (fun z => z hnm), pI_1 (show TG (aF A) d nm = 0 by omega)] at h
           exact h _ _ (CM_25 Cw) (FrM_t Fw (FrM_w (by omega))) (anM_x 2 rfl (wr_s _ _ _ _)))
        | (have hhas : hasNm A d nm := hcp.mp (by omega)
           rw [pI_on hd, pI_0 (fun z => z hdir), pI_0 (fun z => z hnm), pI_0 (show ¬ TG (aF A) d nm = 0 by omega), pI_1 hhas] at h
           exact h _ _ (CM_25 Cw) (FrM_t Fw (FrM_w (by omega))) (anM_x 2 rfl (wr_s _ _ _ _)))
        | (have hnh : ¬ hasNm A d nm := by
             first
               | exact (fun z => by have z1 := z.1; clear z; omega)
               | exact (fun z => by have z2 := hcp.mpr z; clear z; omega)
           rw [pI_on hd, pI_0 (fun z => z hdir), pI_0 (fun z => z hnm), pI_0 (show ¬ TG (aF A) d nm = 0 by omega), pI_0 hnh, pI_1 (by rw [if_neg (by decide)] at hrm; exact hrm)] at h
           exact h _ _ (CM_25 C4) (FrM_t F4b (FrM_w (by omega))) (anM_x 2 rfl (wr_s _ _ _ _)))
theorem sp_X7_write {μ : nMem} {ε : nEnv} {Q : nOut → nMem → nEnv → Prop} {A : AS} {nb vb f off b q : Int} (hC : CM A μ ε) (hO : AOK A nb vb) (hnb : nb + 1 ≤ 2000) (hvb : vb + 2 ≤ 4000) (r1 : inR f) (r2 : inR off) (r4 : inR q) (h : ∀ m v, CM (actWrite A f off b q).2 m ε → FrM μ m → anM (actWrite A f off b q).1 [xI, xA, xS] v m → Q (.inl (some (vI v))) m ε) : Sp mX7_write [vR 21, vI f, vI off, vJ b, vI q] μ ε Q := by
  refine Sp_of (L := [(0, vR 21), (1, vI f), (2, vI off), (3, vJ b), (5, vI q)]) (by decide) rfl rfl (Nat.le_of_ble_eq_true rfl) ?_
  have hs := hC.1.1
  have q21 := hC.2.1.2
  have hD := hO.2.1
  have r21 : inR (μ 21 21) := by unfold inR; omega
  unfold actWrite at h
  have cut1 : ∀ (m : nMem), (CM A m ε) → (FrM μ m) → (m 21 25 = 0) → (fD (aF A) = 0) → (isFl A f) → (okWr off q) → (rmA A [2 + q] 1) → wp mX7_write 88 [(0, vR 21), (1, vI f), (2, vI off), (3, vJ b), (5, vI q)] [] m ε Q := by
    intro m e0 e1 e2 e3 e4 e5 e6
    obtain ⟨fl, S0, hP, hT0⟩ := hO.2.2 e3
    have hfb := isFl_b hP e4
    have hok := e5
    have hx := hP.2.2.2.2.2.2.2.1
    have hvr := hP.2.2.2.2.2.2.2.2.1
    have hs := e0.1.1
    have hvf := hvr f
    have hlb := LN_b (PA_NS hP.2.1) f
    have rln : inR (LN (aF A) f) := by unfold inR; omega
    have hd := e3
    have hfil := e4
    rw [pI_on e3, pI_0 (fun z => z e4), pI_0 (fun z => z e5), pI_0 (fun z => z e6)] at h
    obtain ⟨⟨s1, hs1, hus⟩, hfr1⟩ := tr_fr (by omega) (by omega) e6
    refine wq_aload_n (pc := 88) dX7_write_88 rfl rfl ?_
    refine wq_getS (pc := 89) dX7_write_89 hs (gf_X7_87 _ rfl) rfl rfl rfl rfl rfl ?_
    refine wq_aload_n (pc := 92) dX7_write_92 rfl rfl ?_
    refine wq_iload_n (pc := 93) dX7_write_93 rfl rfl ?_
    refine cVK_1 (pc := 94) dX7_write_94 hs (cw_X7_233 _ rfl) (by decide) rfl ⟨by decide, by decide⟩ (Nat.le_of_ble_eq_true rfl) (sp_X7_fileAt e0.1 (AOK_KP hO) r1 (fun hf m5 a K5 Y5 a0 a1 q46 co => ?_) (fun hf m5 K5 Y5 => ?_))
    · skip
      refine kr_s ?_
      have C5 := CM_Y e0 K5.1 Y5
      have F5 := FrM_t e1 (FrM_Y Y5)
      have t5 : m5 21 25 = 0 := by rw [Y5 21 25 (by omega) (by omega)]; exact e2
      obtain ⟨hG, h22, h39⟩ := C5.2.2 hd
      refine wq_ialdK (pc := 97) dX7_write_97 hs rfl (by omega) (by omega) ?_
      rw [co.1]
      refine wq_istore (pc := 98) (L' := [(6, _), (0, _), (1, _), (2, _), (3, _), (5, _)]) dX7_write_98 rfl (by decide) ?_
      have cut4 : ∀ (z : Int), (z = max (LN (aF A) f) (off + q)) → wp mX7_write 120 [(0, vR 21), (1, vI f), (2, vI off), (3, vJ b), (5, vI q), (6, vI (LN (aF A) f)), (7, vI z)] [] m5 ε Q := by
        intro z e0
        rw [← e0] at h
        have D := IP_data (nb := nb + 1) (nx' := aX A) (f := f) (o := off) (z := z) (b := b) (n := q) (IP_mono hP (by omega) (Int.le_refl vb)) (by omega) (by omega) (by omega) (by omega) (by omega) (by omega) (by omega) hfr1 rfl
        refine wq_aload_n (pc := 120) dX7_write_120 rfl rfl ?_
        refine wq_iload_n (pc := 121) dX7_write_121 rfl rfl ?_
        refine wq_iload_n (pc := 122) dX7_write_122 rfl rfl ?_
        refine wq_lload_n (pc := 123) dX7_write_123 rfl rfl ?_
        refine wq_iload (pc := 124) dX7_write_124 rfl ?_
        refine wq_iload (pc := 126) dX7_write_126 rfl ?_
        refine cVK_5 (pc := 128) dX7_write_128 hs (cw_X7_225 _ rfl) (by decide) rfl ⟨by decide, by decide⟩ (Nat.le_of_ble_eq_true rfl) (sp_X7_writeData (F := aF A) (g := aG A) (v0 := aD A f) (CM_WM C5 hd) hP.2.1 hP.2.2.2.1 (by omega) (by omega) (h39 f (by omega) (by omega)).1 (dbSrc_ok (by omega) (by omega) (by omega) (by omega) (by omega)) hfr1 (fun hr6 m6 P6 => ?_) (fun hr6 m6 P6 => ?_))
        · skip
          refine kr_s ?_
          have hr6b := hr6
          refine wq_if_eq (pc := 131) (tgt := 139) dX7_write_131 (by decide) (by first | (unfold inR; omega) | assumption) (fun _ => ?_) (fun c => absurd c (by decide))
          refine wq_bipush (pc := 139) dX7_write_139 (by decide) (by decide) ?_
          refine wq_iret (pc := 141) dX7_write_141 rfl ?_
          first
            | (unfold actData1 at h
               rw [if_neg (by rw [hr6]; decide)] at h
               obtain ⟨-, -, -, -, y6, -⟩ := id P6
               exact h _ _ (CM_put hs P6 (fun _ => ⟨by rw [wr_n _ _ (by omega)]; exact h22, fun n n0 n1 => ⟨bump_wr (V := aD A) (fun n n0 n1 => (h39 n n0 n1).1) n n0 n1, by rw [wr_n _ _ (by omega)]; exact (h39 n n0 n1).2⟩⟩) (fun z => absurd z (by rw [hr6]; decide))) (FrM_t F5 (FrM_t (FrM_w (by omega)) (FrM_P y6))) (anM_v (by rw [y6 21 25 (by omega) (by omega), wr_n _ _ (by omega)]; exact t5)))
            | (unfold actData1 at h
               rw [if_pos hr6] at h
               obtain ⟨-, -, -, -, y6, -⟩ := id P6
               exact h _ _ (CM_put hs P6 (fun z => absurd z (by rw [hr6]; decide)) (fun _ => (D.2 hr6).1)) (FrM_t F5 (FrM_t (FrM_w (by omega)) (FrM_P y6))) (anM_v (by rw [y6 21 25 (by omega) (by omega), wr_n _ _ (by omega)]; exact t5)))
            | (exfalso; omega)
            | (rw [pI_on (by omega), pI_0 (fun z => z hfil9), pI_0 (fun z => z ⟨by omega, by omega⟩), pI_1 (by rw [if_neg (by decide)] at hrm; exact hrm)] at h
               exact h _ _ (CM_25 C4) (FrM_t F4b (FrM_w (by omega))) (anM_x 2 rfl (wr_s _ _ _ _)))
            | (rw [pI_on (by omega), pI_0 (fun z => z hfil9), pI_1 (show ¬ okWr off q by omega)] at h
               exact h _ _ (CM_25 C2) (FrM_t F2 (FrM_w (by omega))) (anM_x 1 rfl (wr_s _ _ _ _)))
            | (rw [pI_on (by omega), pI_1 hfil9] at h
               exact h _ _ (CM_25 C2) (FrM_t F2 (FrM_w (by omega))) (anM_x 0 rfl (wr_s _ _ _ _)))
            | (rw [pI_1 (show dk A by show fD (aF A) = 1; omega)] at h
               exact h _ _ (CM_25 hC) (FrM_w (by omega)) (anM_x 2 rfl (wr_s _ _ _ _)))
        · skip
          refine kr_s ?_
          have hr6b := hr6
          refine wq_if_eq (pc := 131) (tgt := 139) dX7_write_131 (by decide) (by first | (unfold inR; omega) | assumption) (fun c => absurd c (by decide)) (fun _ => ?_)
          refine wq_iload (pc := 134) dX7_write_134 rfl ?_
          refine wq_goto (pc := 136) (tgt := 141) dX7_write_136 (by decide) ?_
          refine wq_iret (pc := 141) dX7_write_141 rfl ?_
          first
            | (unfold actData1 at h
               rw [if_neg (by rw [hr6]; decide)] at h
               obtain ⟨-, -, -, -, y6, -⟩ := id P6
               exact h _ _ (CM_put hs P6 (fun _ => ⟨by rw [wr_n _ _ (by omega)]; exact h22, fun n n0 n1 => ⟨bump_wr (V := aD A) (fun n n0 n1 => (h39 n n0 n1).1) n n0 n1, by rw [wr_n _ _ (by omega)]; exact (h39 n n0 n1).2⟩⟩) (fun z => absurd z (by rw [hr6]; decide))) (FrM_t F5 (FrM_t (FrM_w (by omega)) (FrM_P y6))) (anM_v (by rw [y6 21 25 (by omega) (by omega), wr_n _ _ (by omega)]; exact t5)))
            | (unfold actData1 at h
               rw [if_pos hr6] at h
               obtain ⟨-, -, -, -, y6, -⟩ := id P6
               exact h _ _ (CM_put hs P6 (fun z => absurd z (by rw [hr6]; decide)) (fun _ => (D.2 hr6).1)) (FrM_t F5 (FrM_t (FrM_w (by omega)) (FrM_P y6))) (anM_v (by rw [y6 21 25 (by omega) (by omega), wr_n _ _ (by omega)]; exact t5)))
            | (exfalso; omega)
            | (rw [pI_on (by omega), pI_0 (fun z => z hfil9), pI_0 (fun z => z ⟨by omega, by omega⟩), pI_1 (by rw [if_neg (by decide)] at hrm; exact hrm)] at h
               exact h _ _ (CM_25 C4) (FrM_t F4b (FrM_w (by omega))) (anM_x 2 rfl (wr_s _ _ _ _)))
            | (rw [pI_on (by omega), pI_0 (fun z => z hfil9), pI_1 (show ¬ okWr off q by omega)] at h
               exact h _ _ (CM_25 C2) (FrM_t F2 (FrM_w (by omega))) (anM_x 1 rfl (wr_s _ _ _ _)))
            | (rw [pI_on (by omega), pI_1 hfil9] at h
               exact h _ _ (CM_25 C2) (FrM_t F2 (FrM_w (by omega))) (anM_x 0 rfl (wr_s _ _ _ _)))
            | (rw [pI_1 (show dk A by show fD (aF A) = 1; omega)] at h
               exact h _ _ (CM_25 hC) (FrM_w (by omega)) (anM_x 2 rfl (wr_s _ _ _ _)))
      refine wq_iload_n (pc := 100) dX7_write_100 rfl rfl ?_
      refine wq_iload (pc := 101) dX7_write_101 rfl ?_
      refine wq_iadd (pc := 103) dX7_write_103 ?_
      refine wq_iload (pc := 104) dX7_write_104 rfl ?_
      refine wq_icmp_le (pc := 106) (tgt := 116) dX7_write_106 (by decide) (by first | (unfold inR; omega) | assumption) (by first | (unfold inR; omega) | assumption) (fun c9 => ?_) (fun c9 => ?_)
      · skip
        refine wq_iload (pc := 116) dX7_write_116 rfl ?_
        refine wq_istore (pc := 118) (L' := [(7, _), (6, _), (0, _), (1, _), (2, _), (3, _), (5, _)]) dX7_write_118 rfl (by decide) ?_
        refine wq_sub1 (L' := [(0, _), (1, _), (2, _), (3, _), (5, _), (6, _), (7, _)]) ⟨rfl, rfl, rfl, rfl, rfl, rfl, rfl, trivial⟩ ?_
        exact cut4 _ (by omega)
      · skip
        refine wq_iload_n (pc := 109) dX7_write_109 rfl rfl ?_
        refine wq_iload (pc := 110) dX7_write_110 rfl ?_
        refine wq_iadd (pc := 112) dX7_write_112 ?_
        refine wq_goto (pc := 113) (tgt := 118) dX7_write_113 (by decide) ?_
        refine wq_istore (pc := 118) (L' := [(7, _), (6, _), (0, _), (1, _), (2, _), (3, _), (5, _)]) dX7_write_118 rfl (by decide) ?_
        refine wq_sub1 (L' := [(0, _), (1, _), (2, _), (3, _), (5, _), (6, _), (7, _)]) ⟨rfl, rfl, rfl, rfl, rfl, rfl, rfl, trivial⟩ ?_
        exact cut4 _ (by omega)
    · skip
      exact absurd hfil hf
  refine wq_aload_n (pc := 0) dX7_write_0 rfl rfl ?_
  refine wq_aload_n (pc := 1) dX7_write_1 rfl rfl ?_
  refine wq_getIK (pc := 2) (kk := 21) dX7_write_2 hs (gf_X7_174 _ rfl) rfl rfl rfl rfl ?_
  refine wq_if_eq (pc := 5) (tgt := 12) dX7_write_5 (by decide) (by first | (unfold inR; omega) | assumption) (fun c10 => ?_) (fun c10 => ?_)
  · skip
    refine wq_aload_n (pc := 12) dX7_write_12 rfl rfl ?_
    refine wq_iload_n (pc := 13) dX7_write_13 rfl rfl ?_
    refine cVK_1 (pc := 14) dX7_write_14 hs (cw_X7_233 _ rfl) (by decide) rfl ⟨by decide, by decide⟩ (Nat.le_of_ble_eq_true rfl) (sp_X7_fileAt hC.1 (AOK_KP hO) r1 (fun hfil m2 a K2 Y2 a0 a1 q46 co => ?_) (fun hfil m2 K2 Y2 => ?_))
    · skip
      refine kr_s ?_
      have hfil9 := hfil
      have ra : inR a := by unfold inR; omega
      have C2 := CM_Y hC K2.1 Y2
      have F2 := FrM_Y Y2
      obtain ⟨fl0, S0, hP0, hT0⟩ := hO.2.2 (by omega)
      refine wq_iconst (pc := 17) dX7_write_17 ?_
      refine wq_icmp_ne (pc := 18) (tgt := 25) dX7_write_18 (by decide) (by first | (unfold inR; omega) | assumption) (by first | (unfold inR; omega) | assumption) (fun c13 => ?_) (fun c13 => ?_)
      · skip
        refine wq_iload_n (pc := 25) dX7_write_25 rfl rfl ?_
        refine wq_iconst (pc := 26) dX7_write_26 ?_
        refine wq_bipush (pc := 27) dX7_write_27 (by decide) (by decide) ?_
        refine cS_3 (pc := 29) dX7_write_29 (cw_X7_210 _ rfl) ⟨by decide, by decide⟩ (Nat.le_of_ble_eq_true rfl) (sp_X7_in (by assumption) (by unfold inR; omega) (by unfold inR; omega) (fun hin => ?_) (fun hin => ?_))
        · skip
          refine kr_s ?_
          have hin9 := hin
          refine wq_if_eq (pc := 32) (tgt := 55) dX7_write_32 (by decide) (by first | (unfold inR; omega) | assumption) (fun c => absurd c (by decide)) (fun _ => ?_)
          refine wq_iload (pc := 35) dX7_write_35 rfl ?_
          refine wq_iconst (pc := 37) dX7_write_37 ?_
          refine wq_bipush (pc := 38) dX7_write_38 (by decide) (by decide) ?_
          refine cS_3 (pc := 40) dX7_write_40 (cw_X7_210 _ rfl) ⟨by decide, by decide⟩ (Nat.le_of_ble_eq_true rfl) (sp_X7_in (by assumption) (by unfold inR; omega) (by unfold inR; omega) (fun hin => ?_) (fun hin => ?_))
          · skip
            refine kr_s ?_
            have hin9 := hin
            refine wq_if_eq (pc := 43) (tgt := 55) dX7_write_43 (by decide) (by first | (unfold inR; omega) | assumption) (fun c => absurd c (by decide)) (fun _ => ?_)
            refine wq_iload_n (pc := 46) dX7_write_46 rfl rfl ?_
            refine wq_iload (pc := 47) dX7_write_47 rfl ?_
            refine wq_iadd (pc := 49) dX7_write_49 ?_
            refine wq_bipush (pc := 50) dX7_write_50 (by decide) (by decide) ?_
            refine wq_icmp_le (pc := 52) (tgt := 59) dX7_write_52 (by decide) (by first | (unfold inR; omega) | assumption) (by first | (unfold inR; omega) | assumption) (fun c20 => ?_) (fun c20 => ?_)
            · skip
              refine wq_aload_n (pc := 59) dX7_write_59 rfl rfl ?_
              refine wq_iconst (pc := 60) dX7_write_60 ?_
              refine wq_iload (pc := 61) dX7_write_61 rfl ?_
              refine wq_iadd (pc := 63) dX7_write_63 ?_
              refine wq_iconst (pc := 64) dX7_write_64 ?_
              refine cVK_2 (pc := 65) dX7_write_65 hs (cw_X7_222 _ rfl) (by decide) rfl ⟨by decide, by decide⟩ (Nat.le_of_ble_eq_true rfl) (sp_X7_canWrite C2 (by omega) hP0.2.2.2.1 (by omega) (by omega) (fun hrm m4 C4 F4 t4 => ?_) (fun hrm m4 C4 F4 t4 => ?_))
              · skip
                refine kr_s ?_
                have hrm9 := hrm
                have F4b := FrM_t F2 F4
                refine wq_if_ne (pc := 68) (tgt := 75) dX7_write_68 (by decide) (by first | (unfold inR; omega) | assumption) (fun _ => ?_) (fun c => absurd c (by decide))
                refine wq_iconst (pc := 75) dX7_write_75 ?_
                refine wq_putIK (pc := 76) (kk := 25) dX7_write_76 hs (gf_X7_127 _ rfl) rfl rfl rfl rfl rfl ?_
                refine wq_aload_n (pc := 79) dX7_write_79 rfl rfl ?_
                refine wq_getIK (pc := 80) (kk := 25) dX7_write_80 hs (gf_X7_127 _ rfl) rfl rfl rfl rfl ?_
                rw [wr_s]
                refine wq_if_le (pc := 83) (tgt := 88) dX7_write_83 (by decide) (by first | (unfold inR; omega) | assumption) (fun c24 => ?_) (fun c24 => ?_)
                · skip
                  refine wq_sub1 (L' := [(0, _), (1, _), (2, _), (3, _), (5, _)]) ⟨rfl, rfl, rfl, rfl, rfl, trivial⟩ ?_
                  first
                    | (exfalso; omega)
                    | exact cut1 _ (CM_25 C4) (FrM_t F4b (FrM_w (by omega))) (wr_s _ _ _ _) (by omega) hfil9 ⟨by omega, by omega⟩ (by rw [if_neg (by decide)] at hrm; exact hrm)
                · skip
                  refine wq_iconst (pc := 86) dX7_write_86 ?_
                  refine wq_iret (pc := 87) dX7_write_87 rfl ?_
                  first
                    | (unfold actData1 at h
                       rw [if_neg (by rw [hr6]; decide)] at h
                       obtain ⟨-, -, -, -, y6, -⟩ := id P6
                       exact h _ _ (CM_put hs P6 (fun _ => ⟨by rw [wr_n _ _ (by omega)]; exact h22, fun n n0 n1 => ⟨bump_wr (V := aD A) (fun n n0 n1 => (h39 n n0 n1).1) n n0 n1, by rw [wr_n _ _ (by omega)]; exact (h39 n n0 n1).2⟩⟩) (fun z => absurd z (by rw [hr6]; decide))) (FrM_t F5 (FrM_t (FrM_w (by omega)) (FrM_P y6))) (anM_v (by rw [y6 21 25 (by omega) (by omega), wr_n _ _ (by omega)]; exact t5)))
                    | (unfold actData1 at h
                       rw [if_pos hr6] at h
                       obtain ⟨-, -, -, -, y6, -⟩ := id P6
                       exact h _ _ (CM_put hs P6 (fun z => absurd z (by rw [hr6]; decide)) (fun _ => (D.2 hr6).1)) (FrM_t F5 (FrM_t (FrM_w (by omega)) (FrM_P y6))) (anM_v (by rw [y6 21 25 (by omega) (by omega), wr_n _ _ (by omega)]; exact t5)))
                    | (exfalso; omega)
                    | (rw [pI_on (by omega), pI_0 (fun z => z hfil9), pI_0 (fun z => z ⟨by omega, by omega⟩), pI_1 (by rw [if_neg (by decide)] at hrm; exact hrm)] at h
                       exact h _ _ (CM_25 C4) (FrM_t F4b (FrM_w (by omega))) (anM_x 2 rfl (wr_s _ _ _ _)))
                    | (rw [pI_on (by omega), pI_0 (fun z => z hfil9), pI_1 (show ¬ okWr off q by omega)] at h
                       exact h _ _ (CM_25 C2) (FrM_t F2 (FrM_w (by omega))) (anM_x 1 rfl (wr_s _ _ _ _)))
                    | (rw [pI_on (by omega), pI_1 hfil9] at h
                       exact h _ _ (CM_25 C2) (FrM_t F2 (FrM_w (by omega))) (anM_x 0 rfl (wr_s _ _ _ _)))
                    | (rw [pI_1 (show dk A by show fD (aF A) = 1; omega)] at h
                       exact h _ _ (CM_25 hC) (FrM_w (by omega)) (anM_x 2 rfl (wr_s _ _ _ _)))
              · skip
                refine kr_s ?_
                have hrm9 := hrm
                have F4b := FrM_t F2 F4
                refine wq_if_ne (pc := 68) (tgt := 75) dX7_write_68 (by decide) (by first | (unfold inR; omega) | assumption) (fun c => absurd c (by decide)) (fun _ => ?_)
                refine wq_iconst (pc := 71) dX7_write_71 ?_
                refine wq_goto (pc := 72) (tgt := 76) dX7_write_72 (by decide) ?_
                refine wq_putIK (pc := 76) (kk := 25) dX7_write_76 hs (gf_X7_127 _ rfl) rfl rfl rfl rfl rfl ?_
                refine wq_aload_n (pc := 79) dX7_write_79 rfl rfl ?_
                refine wq_getIK (pc := 80) (kk := 25) dX7_write_80 hs (gf_X7_127 _ rfl) rfl rfl rfl rfl ?_
                rw [wr_s]
                refine wq_if_le (pc := 83) (tgt := 88) dX7_write_83 (by decide) (by first | (unfold inR; omega) | assumption) (fun c26 => ?_) (fun c26 => ?_)
                · skip
                  refine wq_sub1 (L' := [(0, _), (1, _), (2, _), (3, _), (5, _)]) ⟨rfl, rfl, rfl, rfl, rfl, trivial⟩ ?_
                  first
                    | (exfalso; omega)
                    | exact cut1 _ (CM_25 C4) (FrM_t F4b (FrM_w (by omega))) (wr_s _ _ _ _) (by omega) hfil9 ⟨by omega, by omega⟩ (by rw [if_neg (by decide)] at hrm; exact hrm)
                · skip
                  refine wq_iconst (pc := 86) dX7_write_86 ?_
                  refine wq_iret (pc := 87) dX7_write_87 rfl ?_
                  first
                    | (unfold actData1 at h
                       rw [if_neg (by rw [hr6]; decide)] at h
                       obtain ⟨-, -, -, -, y6, -⟩ := id P6
                       exact h _ _ (CM_put hs P6 (fun _ => ⟨by rw [wr_n _ _ (by omega)]; exact h22, fun n n0 n1 => ⟨bump_wr (V := aD A) (fun n n0 n1 => (h39 n n0 n1).1) n n0 n1, by rw [wr_n _ _ (by omega)]; exact (h39 n n0 n1).2⟩⟩) (fun z => absurd z (by rw [hr6]; decide))) (FrM_t F5 (FrM_t (FrM_w (by omega)) (FrM_P y6))) (anM_v (by rw [y6 21 25 (by omega) (by omega), wr_n _ _ (by omega)]; exact t5)))
                    | (unfold actData1 at h
                       rw [if_pos hr6] at h
                       obtain ⟨-, -, -, -, y6, -⟩ := id P6
                       exact h _ _ (CM_put hs P6 (fun z => absurd z (by rw [hr6]; decide)) (fun _ => (D.2 hr6).1)) (FrM_t F5 (FrM_t (FrM_w (by omega)) (FrM_P y6))) (anM_v (by rw [y6 21 25 (by omega) (by omega), wr_n _ _ (by omega)]; exact t5)))
                    | (exfalso; omega)
                    | (rw [pI_on (by omega), pI_0 (fun z => z hfil9), pI_0 (fun z => z ⟨by omega, by omega⟩), pI_1 (by rw [if_neg (by decide)] at hrm; exact hrm)] at h
                       exact h _ _ (CM_25 C4) (FrM_t F4b (FrM_w (by omega))) (anM_x 2 rfl (wr_s _ _ _ _)))
                    | (rw [pI_on (by omega), pI_0 (fun z => z hfil9), pI_1 (show ¬ okWr off q by omega)] at h
                       exact h _ _ (CM_25 C2) (FrM_t F2 (FrM_w (by omega))) (anM_x 1 rfl (wr_s _ _ _ _)))
                    | (rw [pI_on (by omega), pI_1 hfil9] at h
                       exact h _ _ (CM_25 C2) (FrM_t F2 (FrM_w (by omega))) (anM_x 0 rfl (wr_s _ _ _ _)))
                    | (rw [pI_1 (show dk A by show fD (aF A) = 1; omega)] at h
                       exact h _ _ (CM_25 hC) (FrM_w (by omega)) (anM_x 2 rfl (wr_s _ _ _ _)))
            · skip
              refine wq_iconst (pc := 55) dX7_write_55 ?_
              refine wq_goto (pc := 56) (tgt := 76) dX7_write_56 (by decide) ?_
              refine wq_putIK (pc := 76) (kk := 25) dX7_write_76 hs (gf_X7_127 _ rfl) rfl rfl rfl rfl rfl ?_
              refine wq_aload_n (pc := 79) dX7_write_79 rfl rfl ?_
              refine wq_getIK (pc := 80) (kk := 25) dX7_write_80 hs (gf_X7_127 _ rfl) rfl rfl rfl rfl ?_
              rw [wr_s]
              refine wq_if_le (pc := 83) (tgt := 88) dX7_write_83 (by decide) (by first | (unfold inR; omega) | assumption) (fun c27 => ?_) (fun c27 => ?_)
              · skip
                refine wq_sub1 (L' := [(0, _), (1, _), (2, _), (3, _), (5, _)]) ⟨rfl, rfl, rfl, rfl, rfl, trivial⟩ ?_
                first
                  | (exfalso; omega)
                  | exact cut1 _ (CM_25 C4) (FrM_t F4b (FrM_w (by omega))) (wr_s _ _ _ _) (by omega) hfil9 ⟨by omega, by omega⟩ (by rw [if_neg (by decide)] at hrm; exact hrm)
              · skip
                refine wq_iconst (pc := 86) dX7_write_86 ?_
                refine wq_iret (pc := 87) dX7_write_87 rfl ?_
                first
                  | (unfold actData1 at h
                     rw [if_neg (by rw [hr6]; decide)] at h
                     obtain ⟨-, -, -, -, y6, -⟩ := id P6
                     exact h _ _ (CM_put hs P6 (fun _ => ⟨by rw [wr_n _ _ (by omega)]; exact h22, fun n n0 n1 => ⟨bump_wr (V := aD A) (fun n n0 n1 => (h39 n n0 n1).1) n n0 n1, by rw [wr_n _ _ (by omega)]; exact (h39 n n0 n1).2⟩⟩) (fun z => absurd z (by rw [hr6]; decide))) (FrM_t F5 (FrM_t (FrM_w (by omega)) (FrM_P y6))) (anM_v (by rw [y6 21 25 (by omega) (by omega), wr_n _ _ (by omega)]; exact t5)))
                  | (unfold actData1 at h
                     rw [if_pos hr6] at h
                     obtain ⟨-, -, -, -, y6, -⟩ := id P6
                     exact h _ _ (CM_put hs P6 (fun z => absurd z (by rw [hr6]; decide)) (fun _ => (D.2 hr6).1)) (FrM_t F5 (FrM_t (FrM_w (by omega)) (FrM_P y6))) (anM_v (by rw [y6 21 25 (by omega) (by omega), wr_n _ _ (by omega)]; exact t5)))
                  | (exfalso; omega)
                  | (rw [pI_on (by omega), pI_0 (fun z => z hfil9), pI_0 (fun z => z ⟨by omega, by omega⟩), pI_1 (by rw [if_neg (by decide)] at hrm; exact hrm)] at h
                     exact h _ _ (CM_25 C4) (FrM_t F4b (FrM_w (by omega))) (anM_x 2 rfl (wr_s _ _ _ _)))
                  | (rw [pI_on (by omega), pI_0 (fun z => z hfil9), pI_1 (show ¬ okWr off q by omega)] at h
                     exact h _ _ (CM_25 C2) (FrM_t F2 (FrM_w (by omega))) (anM_x 1 rfl (wr_s _ _ _ _)))
                  | (rw [pI_on (by omega), pI_1 hfil9] at h
                     exact h _ _ (CM_25 C2) (FrM_t F2 (FrM_w (by omega))) (anM_x 0 rfl (wr_s _ _ _ _)))
                  | (rw [pI_1 (show dk A by show fD (aF A) = 1; omega)] at h
                     exact h _ _ (CM_25 hC) (FrM_w (by omega)) (anM_x 2 rfl (wr_s _ _ _ _)))
          · skip
            refine kr_s ?_
            have hin9 := hin
            refine wq_if_eq (pc := 43) (tgt := 55) dX7_write_43 (by decide) (by first | (unfold inR; omega) | assumption) (fun _ => ?_) (fun c => absurd c (by decide))
            refine wq_iconst (pc := 55) dX7_write_55 ?_
            refine wq_goto (pc := 56) (tgt := 76) dX7_write_56 (by decide) ?_
            refine wq_putIK (pc := 76) (kk := 25) dX7_write_76 hs (gf_X7_127 _ rfl) rfl rfl rfl rfl rfl ?_
            refine wq_aload_n (pc := 79) dX7_write_79 rfl rfl ?_
            refine wq_getIK (pc := 80) (kk := 25) dX7_write_80 hs (gf_X7_127 _ rfl) rfl rfl rfl rfl ?_
            rw [wr_s]
            refine wq_if_le (pc := 83) (tgt := 88) dX7_write_83 (by decide) (by first | (unfold inR; omega) | assumption) (fun c29 => ?_) (fun c29 => ?_)
            · skip
              refine wq_sub1 (L' := [(0, _), (1, _), (2, _), (3, _), (5, _)]) ⟨rfl, rfl, rfl, rfl, rfl, trivial⟩ ?_
              first
                | (exfalso; omega)
                | exact cut1 _ (CM_25 C4) (FrM_t F4b (FrM_w (by omega))) (wr_s _ _ _ _) (by omega) hfil9 ⟨by omega, by omega⟩ (by rw [if_neg (by decide)] at hrm; exact hrm)
            · skip
              refine wq_iconst (pc := 86) dX7_write_86 ?_
              refine wq_iret (pc := 87) dX7_write_87 rfl ?_
              first
                | (unfold actData1 at h
                   rw [if_neg (by rw [hr6]; decide)] at h
                   obtain ⟨-, -, -, -, y6, -⟩ := id P6
                   exact h _ _ (CM_put hs P6 (fun _ => ⟨by rw [wr_n _ _ (by omega)]; exact h22, fun n n0 n1 => ⟨bump_wr (V := aD A) (fun n n0 n1 => (h39 n n0 n1).1) n n0 n1, by rw [wr_n _ _ (by omega)]; exact (h39 n n0 n1).2⟩⟩) (fun z => absurd z (by rw [hr6]; decide))) (FrM_t F5 (FrM_t (FrM_w (by omega)) (FrM_P y6))) (anM_v (by rw [y6 21 25 (by omega) (by omega), wr_n _ _ (by omega)]; exact t5)))
                | (unfold actData1 at h
                   rw [if_pos hr6] at h
                   obtain ⟨-, -, -, -, y6, -⟩ := id P6
                   exact h _ _ (CM_put hs P6 (fun z => absurd z (by rw [hr6]; decide)) (fun _ => (D.2 hr6).1)) (FrM_t F5 (FrM_t (FrM_w (by omega)) (FrM_P y6))) (anM_v (by rw [y6 21 25 (by omega) (by omega), wr_n _ _ (by omega)]; exact t5)))
                | (exfalso; omega)
                | (rw [pI_on (by omega), pI_0 (fun z => z hfil9), pI_0 (fun z => z ⟨by omega, by omega⟩), pI_1 (by rw [if_neg (by decide)] at hrm; exact hrm)] at h
                   exact h _ _ (CM_25 C4) (FrM_t F4b (FrM_w (by omega))) (anM_x 2 rfl (wr_s _ _ _ _)))
                | (rw [pI_on (by omega), pI_0 (fun z => z hfil9), pI_1 (show ¬ okWr off q by omega)] at h
                   exact h _ _ (CM_25 C2) (FrM_t F2 (FrM_w (by omega))) (anM_x 1 rfl (wr_s _ _ _ _)))
                | (rw [pI_on (by omega), pI_1 hfil9] at h
                   exact h _ _ (CM_25 C2) (FrM_t F2 (FrM_w (by omega))) (anM_x 0 rfl (wr_s _ _ _ _)))
                | (rw [pI_1 (show dk A by show fD (aF A) = 1; omega)] at h
                   exact h _ _ (CM_25 hC) (FrM_w (by omega)) (anM_x 2 rfl (wr_s _ _ _ _)))
        · skip
          refine kr_s ?_
          have hin9 := hin
          refine wq_if_eq (pc := 32) (tgt := 55) dX7_write_32 (by decide) (by first | (unfold inR; omega) | assumption) (fun _ => ?_) (fun c => absurd c (by decide))
          refine wq_iconst (pc := 55) dX7_write_55 ?_
          refine wq_goto (pc := 56) (tgt := 76) dX7_write_56 (by decide) ?_
          refine wq_putIK (pc := 76) (kk := 25) dX7_write_76 hs (gf_X7_127 _ rfl) rfl rfl rfl rfl rfl ?_
          refine wq_aload_n (pc := 79) dX7_write_79 rfl rfl ?_
          refine wq_getIK (pc := 80) (kk := 25) dX7_write_80 hs (gf_X7_127 _ rfl) rfl rfl rfl rfl ?_
          rw [wr_s]
          refine wq_if_le (pc := 83) (tgt := 88) dX7_write_83 (by decide) (by first | (unfold inR; omega) | assumption) (fun c31 => ?_) (fun c31 => ?_)
          · skip
            refine wq_sub1 (L' := [(0, _), (1, _), (2, _), (3, _), (5, _)]) ⟨rfl, rfl, rfl, rfl, rfl, trivial⟩ ?_
            first
              | (exfalso; omega)
              | exact cut1 _ (CM_25 C4) (FrM_t F4b (FrM_w (by omega))) (wr_s _ _ _ _) (by omega) hfil9 ⟨by omega, by omega⟩ (by rw [if_neg (by decide)] at hrm; exact hrm)
          · skip
            refine wq_iconst (pc := 86) dX7_write_86 ?_
            refine wq_iret (pc := 87) dX7_write_87 rfl ?_
            first
              | (unfold actData1 at h
                 rw [if_neg (by rw [hr6]; decide)] at h
                 obtain ⟨-, -, -, -, y6, -⟩ := id P6
                 exact h _ _ (CM_put hs P6 (fun _ => ⟨by rw [wr_n _ _ (by omega)]; exact h22, fun n n0 n1 => ⟨bump_wr (V := aD A) (fun n n0 n1 => (h39 n n0 n1).1) n n0 n1, by rw [wr_n _ _ (by omega)]; exact (h39 n n0 n1).2⟩⟩) (fun z => absurd z (by rw [hr6]; decide))) (FrM_t F5 (FrM_t (FrM_w (by omega)) (FrM_P y6))) (anM_v (by rw [y6 21 25 (by omega) (by omega), wr_n _ _ (by omega)]; exact t5)))
              | (unfold actData1 at h
                 rw [if_pos hr6] at h
                 obtain ⟨-, -, -, -, y6, -⟩ := id P6
                 exact h _ _ (CM_put hs P6 (fun z => absurd z (by rw [hr6]; decide)) (fun _ => (D.2 hr6).1)) (FrM_t F5 (FrM_t (FrM_w (by omega)) (FrM_P y6))) (anM_v (by rw [y6 21 25 (by omega) (by omega), wr_n _ _ (by omega)]; exact t5)))
              | (exfalso; omega)
              | (rw [pI_on (by omega), pI_0 (fun z => z hfil9), pI_0 (fun z => z ⟨by omega, by omega⟩), pI_1 (by rw [if_neg (by decide)] at hrm; exact hrm)] at h
                 exact h _ _ (CM_25 C4) (FrM_t F4b (FrM_w (by omega))) (anM_x 2 rfl (wr_s _ _ _ _)))
              | (rw [pI_on (by omega), pI_0 (fun z => z hfil9), pI_1 (show ¬ okWr off q by omega)] at h
                 exact h _ _ (CM_25 C2) (FrM_t F2 (FrM_w (by omega))) (anM_x 1 rfl (wr_s _ _ _ _)))
              | (rw [pI_on (by omega), pI_1 hfil9] at h
                 exact h _ _ (CM_25 C2) (FrM_t F2 (FrM_w (by omega))) (anM_x 0 rfl (wr_s _ _ _ _)))
              | (rw [pI_1 (show dk A by show fD (aF A) = 1; omega)] at h
                 exact h _ _ (CM_25 hC) (FrM_w (by omega)) (anM_x 2 rfl (wr_s _ _ _ _)))
      · skip
        refine wq_iconst (pc := 21) dX7_write_21 ?_
        refine wq_goto (pc := 22) (tgt := 76) dX7_write_22 (by decide) ?_
        refine wq_putIK (pc := 76) (kk := 25) dX7_write_76 hs (gf_X7_127 _ rfl) rfl rfl rfl rfl rfl ?_
        refine wq_aload_n (pc := 79) dX7_write_79 rfl rfl ?_
        refine wq_getIK (pc := 80) (kk := 25) dX7_write_80 hs (gf_X7_127 _ rfl) rfl rfl rfl rfl ?_
        rw [wr_s]
        refine wq_if_le (pc := 83) (tgt := 88) dX7_write_83 (by decide) (by first | (unfold inR; omega) | assumption) (fun c32 => ?_) (fun c32 => ?_)
        · skip
          refine wq_sub1 (L' := [(0, _), (1, _), (2, _), (3, _), (5, _)]) ⟨rfl, rfl, rfl, rfl, rfl, trivial⟩ ?_
          first
            | (exfalso; omega)
            | exact cut1 _ (CM_25 C4) (FrM_t F4b (FrM_w (by omega))) (wr_s _ _ _ _) (by omega) hfil9 ⟨by omega, by omega⟩ (by rw [if_neg (by decide)] at hrm; exact hrm)
        · skip
          refine wq_iconst (pc := 86) dX7_write_86 ?_
          refine wq_iret (pc := 87) dX7_write_87 rfl ?_
          first
            | (unfold actData1 at h
               rw [if_neg (by rw [hr6]; decide)] at h
               obtain ⟨-, -, -, -, y6, -⟩ := id P6
               exact h _ _ (CM_put hs P6 (fun _ => ⟨by rw [wr_n _ _ (by omega)]; exact h22, fun n n0 n1 => ⟨bump_wr (V := aD A) (fun n n0 n1 => (h39 n n0 n1).1) n n0 n1, by rw [wr_n _ _ (by omega)]; exact (h39 n n0 n1).2⟩⟩) (fun z => absurd z (by rw [hr6]; decide))) (FrM_t F5 (FrM_t (FrM_w (by omega)) (FrM_P y6))) (anM_v (by rw [y6 21 25 (by omega) (by omega), wr_n _ _ (by omega)]; exact t5)))
            | (unfold actData1 at h
               rw [if_pos hr6] at h
               obtain ⟨-, -, -, -, y6, -⟩ := id P6
               exact h _ _ (CM_put hs P6 (fun z => absurd z (by rw [hr6]; decide)) (fun _ => (D.2 hr6).1)) (FrM_t F5 (FrM_t (FrM_w (by omega)) (FrM_P y6))) (anM_v (by rw [y6 21 25 (by omega) (by omega), wr_n _ _ (by omega)]; exact t5)))
            | (exfalso; omega)
            | (rw [pI_on (by omega), pI_0 (fun z => z hfil9), pI_0 (fun z => z ⟨by omega, by omega⟩), pI_1 (by rw [if_neg (by decide)] at hrm; exact hrm)] at h
               exact h _ _ (CM_25 C4) (FrM_t F4b (FrM_w (by omega))) (anM_x 2 rfl (wr_s _ _ _ _)))
            | (rw [pI_on (by omega), pI_0 (fun z => z hfil9), pI_1 (show ¬ okWr off q by omega)] at h
               exact h _ _ (CM_25 C2) (FrM_t F2 (FrM_w (by omega))) (anM_x 1 rfl (wr_s _ _ _ _)))
            | (rw [pI_on (by omega), pI_1 hfil9] at h
               exact h _ _ (CM_25 C2) (FrM_t F2 (FrM_w (by omega))) (anM_x 0 rfl (wr_s _ _ _ _)))
            | (rw [pI_1 (show dk A by show fD (aF A) = 1; omega)] at h
               exact h _ _ (CM_25 hC) (FrM_w (by omega)) (anM_x 2 rfl (wr_s _ _ _ _)))
    · skip
      refine kr_s ?_
      have hfil9 := hfil
      have C2 := CM_Y hC K2.1 Y2
      have F2 := FrM_Y Y2
      obtain ⟨fl0, S0, hP0, hT0⟩ := hO.2.2 (by omega)
      refine wq_iconst (pc := 17) dX7_write_17 ?_
      refine wq_icmp_ne (pc := 18) (tgt := 25) dX7_write_18 (by decide) (by first | (unfold inR; omega) | assumption) (by first | (unfold inR; omega) | assumption) (fun c33 => ?_) (fun c33 => ?_)
      · skip
        refine wq_iload_n (pc := 25) dX7_write_25 rfl rfl ?_
        refine wq_iconst (pc := 26) dX7_write_26 ?_
        refine wq_bipush (pc := 27) dX7_write_27 (by decide) (by decide) ?_
        refine cS_3 (pc := 29) dX7_write_29 (cw_X7_210 _ rfl) ⟨by decide, by decide⟩ (Nat.le_of_ble_eq_true rfl) (sp_X7_in (by assumption) (by unfold inR; omega) (by unfold inR; omega) (fun hin => ?_) (fun hin => ?_))
        · skip
          refine kr_s ?_
          have hin9 := hin
          refine wq_if_eq (pc := 32) (tgt := 55) dX7_write_32 (by decide) (by first | (unfold inR; omega) | assumption) (fun c => absurd c (by decide)) (fun _ => ?_)
          refine wq_iload (pc := 35) dX7_write_35 rfl ?_
          refine wq_iconst (pc := 37) dX7_write_37 ?_
          refine wq_bipush (pc := 38) dX7_write_38 (by decide) (by decide) ?_
          refine cS_3 (pc := 40) dX7_write_40 (cw_X7_210 _ rfl) ⟨by decide, by decide⟩ (Nat.le_of_ble_eq_true rfl) (sp_X7_in (by assumption) (by unfold inR; omega) (by unfold inR; omega) (fun hin => ?_) (fun hin => ?_))
          · skip
            refine kr_s ?_
            have hin9 := hin
            refine wq_if_eq (pc := 43) (tgt := 55) dX7_write_43 (by decide) (by first | (unfold inR; omega) | assumption) (fun c => absurd c (by decide)) (fun _ => ?_)
            refine wq_iload_n (pc := 46) dX7_write_46 rfl rfl ?_
            refine wq_iload (pc := 47) dX7_write_47 rfl ?_
            refine wq_iadd (pc := 49) dX7_write_49 ?_
            refine wq_bipush (pc := 50) dX7_write_50 (by decide) (by decide) ?_
            refine wq_icmp_le (pc := 52) (tgt := 59) dX7_write_52 (by decide) (by first | (unfold inR; omega) | assumption) (by first | (unfold inR; omega) | assumption) (fun c40 => ?_) (fun c40 => ?_)
            · skip
              refine wq_aload_n (pc := 59) dX7_write_59 rfl rfl ?_
              refine wq_iconst (pc := 60) dX7_write_60 ?_
              refine wq_iload (pc := 61) dX7_write_61 rfl ?_
              refine wq_iadd (pc := 63) dX7_write_63 ?_
              refine wq_iconst (pc := 64) dX7_write_64 ?_
              refine cVK_2 (pc := 65) dX7_write_65 hs (cw_X7_222 _ rfl) (by decide) rfl ⟨by decide, by decide⟩ (Nat.le_of_ble_eq_true rfl) (sp_X7_canWrite C2 (by omega) hP0.2.2.2.1 (by omega) (by omega) (fun hrm m4 C4 F4 t4 => ?_) (fun hrm m4 C4 F4 t4 => ?_))
              · skip
                refine kr_s ?_
                have hrm9 := hrm
                have F4b := FrM_t F2 F4
                refine wq_if_ne (pc := 68) (tgt := 75) dX7_write_68 (by decide) (by first | (unfold inR; omega) | assumption) (fun _ => ?_) (fun c => absurd c (by decide))
                refine wq_iconst (pc := 75) dX7_write_75 ?_
                refine wq_putIK (pc := 76) (kk := 25) dX7_write_76 hs (gf_X7_127 _ rfl) rfl rfl rfl rfl rfl ?_
                refine wq_aload_n (pc := 79) dX7_write_79 rfl rfl ?_
                refine wq_getIK (pc := 80) (kk := 25) dX7_write_80 hs (gf_X7_127 _ rfl) rfl rfl rfl rfl ?_
                rw [wr_s]
                refine wq_if_le (pc := 83) (tgt := 88) dX7_write_83 (by decide) (by first | (unfold inR; omega) | assumption) (fun c44 => ?_) (fun c44 => ?_)
                · skip
                  refine wq_sub1 (L' := [(0, _), (1, _), (2, _), (3, _), (5, _)]) ⟨rfl, rfl, rfl, rfl, rfl, trivial⟩ ?_
                  first
                    | (exfalso; omega)
                    | exact cut1 _ (CM_25 C4) (FrM_t F4b (FrM_w (by omega))) (wr_s _ _ _ _) (by omega) hfil9 ⟨by omega, by omega⟩ (by rw [if_neg (by decide)] at hrm; exact hrm)
                · skip
                  refine wq_iconst (pc := 86) dX7_write_86 ?_
                  refine wq_iret (pc := 87) dX7_write_87 rfl ?_
                  first
                    | (unfold actData1 at h
                       rw [if_neg (by rw [hr6]; decide)] at h
                       obtain ⟨-, -, -, -, y6, -⟩ := id P6
                       exact h _ _ (CM_put hs P6 (fun _ => ⟨by rw [wr_n _ _ (by omega)]; exact h22, fun n n0 n1 => ⟨bump_wr (V := aD A) (fun n n0 n1 => (h39 n n0 n1).1) n n0 n1, by rw [wr_n _ _ (by omega)]; exact (h39 n n0 n1).2⟩⟩) (fun z => absurd z (by rw [hr6]; decide))) (FrM_t F5 (FrM_t (FrM_w (by omega)) (FrM_P y6))) (anM_v (by rw [y6 21 25 (by omega) (by omega), wr_n _ _ (by omega)]; exact t5)))
                    | (unfold actData1 at h
                       rw [if_pos hr6] at h
                       obtain ⟨-, -, -, -, y6, -⟩ := id P6
                       exact h _ _ (CM_put hs P6 (fun z => absurd z (by rw [hr6]; decide)) (fun _ => (D.2 hr6).1)) (FrM_t F5 (FrM_t (FrM_w (by omega)) (FrM_P y6))) (anM_v (by rw [y6 21 25 (by omega) (by omega), wr_n _ _ (by omega)]; exact t5)))
                    | (exfalso; omega)
                    | (rw [pI_on (by omega), pI_0 (fun z => z hfil9), pI_0 (fun z => z ⟨by omega, by omega⟩), pI_1 (by rw [if_neg (by decide)] at hrm; exact hrm)] at h
                       exact h _ _ (CM_25 C4) (FrM_t F4b (FrM_w (by omega))) (anM_x 2 rfl (wr_s _ _ _ _)))
                    | (rw [pI_on (by omega), pI_0 (fun z => z hfil9), pI_1 (show ¬ okWr off q by omega)] at h
                       exact h _ _ (CM_25 C2) (FrM_t F2 (FrM_w (by omega))) (anM_x 1 rfl (wr_s _ _ _ _)))
                    | (rw [pI_on (by omega), pI_1 hfil9] at h
                       exact h _ _ (CM_25 C2) (FrM_t F2 (FrM_w (by omega))) (anM_x 0 rfl (wr_s _ _ _ _)))
                    | (rw [pI_1 (show dk A by show fD (aF A) = 1; omega)] at h
                       exact h _ _ (CM_25 hC) (FrM_w (by omega)) (anM_x 2 rfl (wr_s _ _ _ _)))
              · skip
                refine kr_s ?_
                have hrm9 := hrm
                have F4b := FrM_t F2 F4
                refine wq_if_ne (pc := 68) (tgt := 75) dX7_write_68 (by decide) (by first | (unfold inR; omega) | assumption) (fun c => absurd c (by decide)) (fun _ => ?_)
                refine wq_iconst (pc := 71) dX7_write_71 ?_
                refine wq_goto (pc := 72) (tgt := 76) dX7_write_72 (by decide) ?_
                refine wq_putIK (pc := 76) (kk := 25) dX7_write_76 hs (gf_X7_127 _ rfl) rfl rfl rfl rfl rfl ?_
                refine wq_aload_n (pc := 79) dX7_write_79 rfl rfl ?_
                refine wq_getIK (pc := 80) (kk := 25) dX7_write_80 hs (gf_X7_127 _ rfl) rfl rfl rfl rfl ?_
                rw [wr_s]
                refine wq_if_le (pc := 83) (tgt := 88) dX7_write_83 (by decide) (by first | (unfold inR; omega) | assumption) (fun c46 => ?_) (fun c46 => ?_)
                · skip
                  refine wq_sub1 (L' := [(0, _), (1, _), (2, _), (3, _), (5, _)]) ⟨rfl, rfl, rfl, rfl, rfl, trivial⟩ ?_
                  first
                    | (exfalso; omega)
                    | exact cut1 _ (CM_25 C4) (FrM_t F4b (FrM_w (by omega))) (wr_s _ _ _ _) (by omega) hfil9 ⟨by omega, by omega⟩ (by rw [if_neg (by decide)] at hrm; exact hrm)
                · skip
                  refine wq_iconst (pc := 86) dX7_write_86 ?_
                  refine wq_iret (pc := 87) dX7_write_87 rfl ?_
                  first
                    | (unfold actData1 at h
                       rw [if_neg (by rw [hr6]; decide)] at h
                       obtain ⟨-, -, -, -, y6, -⟩ := id P6
                       exact h _ _ (CM_put hs P6 (fun _ => ⟨by rw [wr_n _ _ (by omega)]; exact h22, fun n n0 n1 => ⟨bump_wr (V := aD A) (fun n n0 n1 => (h39 n n0 n1).1) n n0 n1, by rw [wr_n _ _ (by omega)]; exact (h39 n n0 n1).2⟩⟩) (fun z => absurd z (by rw [hr6]; decide))) (FrM_t F5 (FrM_t (FrM_w (by omega)) (FrM_P y6))) (anM_v (by rw [y6 21 25 (by omega) (by omega), wr_n _ _ (by omega)]; exact t5)))
                    | (unfold actData1 at h
                       rw [if_pos hr6] at h
                       obtain ⟨-, -, -, -, y6, -⟩ := id P6
                       exact h _ _ (CM_put hs P6 (fun z => absurd z (by rw [hr6]; decide)) (fun _ => (D.2 hr6).1)) (FrM_t F5 (FrM_t (FrM_w (by omega)) (FrM_P y6))) (anM_v (by rw [y6 21 25 (by omega) (by omega), wr_n _ _ (by omega)]; exact t5)))
                    | (exfalso; omega)
                    | (rw [pI_on (by omega), pI_0 (fun z => z hfil9), pI_0 (fun z => z ⟨by omega, by omega⟩), pI_1 (by rw [if_neg (by decide)] at hrm; exact hrm)] at h
                       exact h _ _ (CM_25 C4) (FrM_t F4b (FrM_w (by omega))) (anM_x 2 rfl (wr_s _ _ _ _)))
                    | (rw [pI_on (by omega), pI_0 (fun z => z hfil9), pI_1 (show ¬ okWr off q by omega)] at h
                       exact h _ _ (CM_25 C2) (FrM_t F2 (FrM_w (by omega))) (anM_x 1 rfl (wr_s _ _ _ _)))
                    | (rw [pI_on (by omega), pI_1 hfil9] at h
                       exact h _ _ (CM_25 C2) (FrM_t F2 (FrM_w (by omega))) (anM_x 0 rfl (wr_s _ _ _ _)))
                    | (rw [pI_1 (show dk A by show fD (aF A) = 1; omega)] at h
                       exact h _ _ (CM_25 hC) (FrM_w (by omega)) (anM_x 2 rfl (wr_s _ _ _ _)))
            · skip
              refine wq_iconst (pc := 55) dX7_write_55 ?_
              refine wq_goto (pc := 56) (tgt := 76) dX7_write_56 (by decide) ?_
              refine wq_putIK (pc := 76) (kk := 25) dX7_write_76 hs (gf_X7_127 _ rfl) rfl rfl rfl rfl rfl ?_
              refine wq_aload_n (pc := 79) dX7_write_79 rfl rfl ?_
              refine wq_getIK (pc := 80) (kk := 25) dX7_write_80 hs (gf_X7_127 _ rfl) rfl rfl rfl rfl ?_
              rw [wr_s]
              refine wq_if_le (pc := 83) (tgt := 88) dX7_write_83 (by decide) (by first | (unfold inR; omega) | assumption) (fun c47 => ?_) (fun c47 => ?_)
              · skip
                refine wq_sub1 (L' := [(0, _), (1, _), (2, _), (3, _), (5, _)]) ⟨rfl, rfl, rfl, rfl, rfl, trivial⟩ ?_
                first
                  | (exfalso; omega)
                  | exact cut1 _ (CM_25 C4) (FrM_t F4b (FrM_w (by omega))) (wr_s _ _ _ _) (by omega) hfil9 ⟨by omega, by omega⟩ (by rw [if_neg (by decide)] at hrm; exact hrm)
              · skip
                refine wq_iconst (pc := 86) dX7_write_86 ?_
                refine wq_iret (pc := 87) dX7_write_87 rfl ?_
                first
                  | (unfold actData1 at h
                     rw [if_neg (by rw [hr6]; decide)] at h
                     obtain ⟨-, -, -, -, y6, -⟩ := id P6
                     exact h _ _ (CM_put hs P6 (fun _ => ⟨by rw [wr_n _ _ (by omega)]; exact h22, fun n n0 n1 => ⟨bump_wr (V := aD A) (fun n n0 n1 => (h39 n n0 n1).1) n n0 n1, by rw [wr_n _ _ (by omega)]; exact (h39 n n0 n1).2⟩⟩) (fun z => absurd z (by rw [hr6]; decide))) (FrM_t F5 (FrM_t (FrM_w (by omega)) (FrM_P y6))) (anM_v (by rw [y6 21 25 (by omega) (by omega), wr_n _ _ (by omega)]; exact t5)))
                  | (unfold actData1 at h
                     rw [if_pos hr6] at h
                     obtain ⟨-, -, -, -, y6, -⟩ := id P6
                     exact h _ _ (CM_put hs P6 (fun z => absurd z (by rw [hr6]; decide)) (fun _ => (D.2 hr6).1)) (FrM_t F5 (FrM_t (FrM_w (by omega)) (FrM_P y6))) (anM_v (by rw [y6 21 25 (by omega) (by omega), wr_n _ _ (by omega)]; exact t5)))
                  | (exfalso; omega)
                  | (rw [pI_on (by omega), pI_0 (fun z => z hfil9), pI_0 (fun z => z ⟨by omega, by omega⟩), pI_1 (by rw [if_neg (by decide)] at hrm; exact hrm)] at h
                     exact h _ _ (CM_25 C4) (FrM_t F4b (FrM_w (by omega))) (anM_x 2 rfl (wr_s _ _ _ _)))
                  | (rw [pI_on (by omega), pI_0 (fun z => z hfil9), pI_1 (show ¬ okWr off q by omega)] at h
                     exact h _ _ (CM_25 C2) (FrM_t F2 (FrM_w (by omega))) (anM_x 1 rfl (wr_s _ _ _ _)))
                  | (rw [pI_on (by omega), pI_1 hfil9] at h
                     exact h _ _ (CM_25 C2) (FrM_t F2 (FrM_w (by omega))) (anM_x 0 rfl (wr_s _ _ _ _)))
                  | (rw [pI_1 (show dk A by show fD (aF A) = 1; omega)] at h
                     exact h _ _ (CM_25 hC) (FrM_w (by omega)) (anM_x 2 rfl (wr_s _ _ _ _)))
          · skip
            refine kr_s ?_
            have hin9 := hin
            refine wq_if_eq (pc := 43) (tgt := 55) dX7_write_43 (by decide) (by first | (unfold inR; omega) | assumption) (fun _ => ?_) (fun c => absurd c (by decide))
            refine wq_iconst (pc := 55) dX7_write_55 ?_
            refine wq_goto (pc := 56) (tgt := 76) dX7_write_56 (by decide) ?_
            refine wq_putIK (pc := 76) (kk := 25) dX7_write_76 hs (gf_X7_127 _ rfl) rfl rfl rfl rfl rfl ?_
            refine wq_aload_n (pc := 79) dX7_write_79 rfl rfl ?_
            refine wq_getIK (pc := 80) (kk := 25) dX7_write_80 hs (gf_X7_127 _ rfl) rfl rfl rfl rfl ?_
            rw [wr_s]
            refine wq_if_le (pc := 83) (tgt := 88) dX7_write_83 (by decide) (by first | (unfold inR; omega) | assumption) (fun c49 => ?_) (fun c49 => ?_)
            · skip
              refine wq_sub1 (L' := [(0, _), (1, _), (2, _), (3, _), (5, _)]) ⟨rfl, rfl, rfl, rfl, rfl, trivial⟩ ?_
              first
                | (exfalso; omega)
                | exact cut1 _ (CM_25 C4) (FrM_t F4b (FrM_w (by omega))) (wr_s _ _ _ _) (by omega) hfil9 ⟨by omega, by omega⟩ (by rw [if_neg (by decide)] at hrm; exact hrm)
            · skip
              refine wq_iconst (pc := 86) dX7_write_86 ?_
              refine wq_iret (pc := 87) dX7_write_87 rfl ?_
              first
                | (unfold actData1 at h
                   rw [if_neg (by rw [hr6]; decide)] at h
                   obtain ⟨-, -, -, -, y6, -⟩ := id P6
                   exact h _ _ (CM_put hs P6 (fun _ => ⟨by rw [wr_n _ _ (by omega)]; exact h22, fun n n0 n1 => ⟨bump_wr (V := aD A) (fun n n0 n1 => (h39 n n0 n1).1) n n0 n1, by rw [wr_n _ _ (by omega)]; exact (h39 n n0 n1).2⟩⟩) (fun z => absurd z (by rw [hr6]; decide))) (FrM_t F5 (FrM_t (FrM_w (by omega)) (FrM_P y6))) (anM_v (by rw [y6 21 25 (by omega) (by omega), wr_n _ _ (by omega)]; exact t5)))
                | (unfold actData1 at h
                   rw [if_pos hr6] at h
                   obtain ⟨-, -, -, -, y6, -⟩ := id P6
                   exact h _ _ (CM_put hs P6 (fun z => absurd z (by rw [hr6]; decide)) (fun _ => (D.2 hr6).1)) (FrM_t F5 (FrM_t (FrM_w (by omega)) (FrM_P y6))) (anM_v (by rw [y6 21 25 (by omega) (by omega), wr_n _ _ (by omega)]; exact t5)))
                | (exfalso; omega)
                | (rw [pI_on (by omega), pI_0 (fun z => z hfil9), pI_0 (fun z => z ⟨by omega, by omega⟩), pI_1 (by rw [if_neg (by decide)] at hrm; exact hrm)] at h
                   exact h _ _ (CM_25 C4) (FrM_t F4b (FrM_w (by omega))) (anM_x 2 rfl (wr_s _ _ _ _)))
                | (rw [pI_on (by omega), pI_0 (fun z => z hfil9), pI_1 (show ¬ okWr off q by omega)] at h
                   exact h _ _ (CM_25 C2) (FrM_t F2 (FrM_w (by omega))) (anM_x 1 rfl (wr_s _ _ _ _)))
                | (rw [pI_on (by omega), pI_1 hfil9] at h
                   exact h _ _ (CM_25 C2) (FrM_t F2 (FrM_w (by omega))) (anM_x 0 rfl (wr_s _ _ _ _)))
                | (rw [pI_1 (show dk A by show fD (aF A) = 1; omega)] at h
                   exact h _ _ (CM_25 hC) (FrM_w (by omega)) (anM_x 2 rfl (wr_s _ _ _ _)))
        · skip
          refine kr_s ?_
          have hin9 := hin
          refine wq_if_eq (pc := 32) (tgt := 55) dX7_write_32 (by decide) (by first | (unfold inR; omega) | assumption) (fun _ => ?_) (fun c => absurd c (by decide))
          refine wq_iconst (pc := 55) dX7_write_55 ?_
          refine wq_goto (pc := 56) (tgt := 76) dX7_write_56 (by decide) ?_
          refine wq_putIK (pc := 76) (kk := 25) dX7_write_76 hs (gf_X7_127 _ rfl) rfl rfl rfl rfl rfl ?_
          refine wq_aload_n (pc := 79) dX7_write_79 rfl rfl ?_
          refine wq_getIK (pc := 80) (kk := 25) dX7_write_80 hs (gf_X7_127 _ rfl) rfl rfl rfl rfl ?_
          rw [wr_s]
          refine wq_if_le (pc := 83) (tgt := 88) dX7_write_83 (by decide) (by first | (unfold inR; omega) | assumption) (fun c51 => ?_) (fun c51 => ?_)
          · skip
            refine wq_sub1 (L' := [(0, _), (1, _), (2, _), (3, _), (5, _)]) ⟨rfl, rfl, rfl, rfl, rfl, trivial⟩ ?_
            first
              | (exfalso; omega)
              | exact cut1 _ (CM_25 C4) (FrM_t F4b (FrM_w (by omega))) (wr_s _ _ _ _) (by omega) hfil9 ⟨by omega, by omega⟩ (by rw [if_neg (by decide)] at hrm; exact hrm)
          · skip
            refine wq_iconst (pc := 86) dX7_write_86 ?_
            refine wq_iret (pc := 87) dX7_write_87 rfl ?_
            first
              | (unfold actData1 at h
                 rw [if_neg (by rw [hr6]; decide)] at h
                 obtain ⟨-, -, -, -, y6, -⟩ := id P6
                 exact h _ _ (CM_put hs P6 (fun _ => ⟨by rw [wr_n _ _ (by omega)]; exact h22, fun n n0 n1 => ⟨bump_wr (V := aD A) (fun n n0 n1 => (h39 n n0 n1).1) n n0 n1, by rw [wr_n _ _ (by omega)]; exact (h39 n n0 n1).2⟩⟩) (fun z => absurd z (by rw [hr6]; decide))) (FrM_t F5 (FrM_t (FrM_w (by omega)) (FrM_P y6))) (anM_v (by rw [y6 21 25 (by omega) (by omega), wr_n _ _ (by omega)]; exact t5)))
              | (unfold actData1 at h
                 rw [if_pos hr6] at h
                 obtain ⟨-, -, -, -, y6, -⟩ := id P6
                 exact h _ _ (CM_put hs P6 (fun z => absurd z (by rw [hr6]; decide)) (fun _ => (D.2 hr6).1)) (FrM_t F5 (FrM_t (FrM_w (by omega)) (FrM_P y6))) (anM_v (by rw [y6 21 25 (by omega) (by omega), wr_n _ _ (by omega)]; exact t5)))
              | (exfalso; omega)
              | (rw [pI_on (by omega), pI_0 (fun z => z hfil9), pI_0 (fun z => z ⟨by omega, by omega⟩), pI_1 (by rw [if_neg (by decide)] at hrm; exact hrm)] at h
                 exact h _ _ (CM_25 C4) (FrM_t F4b (FrM_w (by omega))) (anM_x 2 rfl (wr_s _ _ _ _)))
              | (rw [pI_on (by omega), pI_0 (fun z => z hfil9), pI_1 (show ¬ okWr off q by omega)] at h
                 exact h _ _ (CM_25 C2) (FrM_t F2 (FrM_w (by omega))) (anM_x 1 rfl (wr_s _ _ _ _)))
              | (rw [pI_on (by omega), pI_1 hfil9] at h
                 exact h _ _ (CM_25 C2) (FrM_t F2 (FrM_w (by omega))) (anM_x 0 rfl (wr_s _ _ _ _)))
              | (rw [pI_1 (show dk A by show fD (aF A) = 1; omega)] at h
                 exact h _ _ (CM_25 hC) (FrM_w (by omega)) (anM_x 2 rfl (wr_s _ _ _ _)))
      · skip
        refine wq_iconst (pc := 21) dX7_write_21 ?_
        refine wq_goto (pc := 22) (tgt := 76) dX7_write_22 (by decide) ?_
        refine wq_putIK (pc := 76) (kk := 25) dX7_write_76 hs (gf_X7_127 _ rfl) rfl rfl rfl rfl rfl ?_
        refine wq_aload_n (pc := 79) dX7_write_79 rfl rfl ?_
        refine wq_getIK (pc := 80) (kk := 25) dX7_write_80 hs (gf_X7_127 _ rfl) rfl rfl rfl rfl ?_
        rw [wr_s]
        refine wq_if_le (pc := 83) (tgt := 88) dX7_write_83 (by decide) (by first | (unfold inR; omega) | assumption) (fun c52 => ?_) (fun c52 => ?_)
        · skip
          refine wq_sub1 (L' := [(0, _), (1, _), (2, _), (3, _), (5, _)]) ⟨rfl, rfl, rfl, rfl, rfl, trivial⟩ ?_
          first
            | (exfalso; omega)
            | exact cut1 _ (CM_25 C4) (FrM_t F4b (FrM_w (by omega))) (wr_s _ _ _ _) (by omega) hfil9 ⟨by omega, by omega⟩ (by rw [if_neg (by decide)] at hrm; exact hrm)
        · skip
          refine wq_iconst (pc := 86) dX7_write_86 ?_
          refine wq_iret (pc := 87) dX7_write_87 rfl ?_
          first
            | (unfold actData1 at h
               rw [if_neg (by rw [hr6]; decide)] at h
               obtain ⟨-, -, -, -, y6, -⟩ := id P6
               exact h _ _ (CM_put hs P6 (fun _ => ⟨by rw [wr_n _ _ (by omega)]; exact h22, fun n n0 n1 => ⟨bump_wr (V := aD A) (fun n n0 n1 => (h39 n n0 n1).1) n n0 n1, by rw [wr_n _ _ (by omega)]; exact (h39 n n0 n1).2⟩⟩) (fun z => absurd z (by rw [hr6]; decide))) (FrM_t F5 (FrM_t (FrM_w (by omega)) (FrM_P y6))) (anM_v (by rw [y6 21 25 (by omega) (by omega), wr_n _ _ (by omega)]; exact t5)))
            | (unfold actData1 at h
               rw [if_pos hr6] at h
               obtain ⟨-, -, -, -, y6, -⟩ := id P6
               exact h _ _ (CM_put hs P6 (fun z => absurd z (by rw [hr6]; decide)) (fun _ => (D.2 hr6).1)) (FrM_t F5 (FrM_t (FrM_w (by omega)) (FrM_P y6))) (anM_v (by rw [y6 21 25 (by omega) (by omega), wr_n _ _ (by omega)]; exact t5)))
            | (exfalso; omega)
            | (rw [pI_on (by omega), pI_0 (fun z => z hfil9), pI_0 (fun z => z ⟨by omega, by omega⟩), pI_1 (by rw [if_neg (by decide)] at hrm; exact hrm)] at h
               exact h _ _ (CM_25 C4) (FrM_t F4b (FrM_w (by omega))) (anM_x 2 rfl (wr_s _ _ _ _)))
            | (rw [pI_on (by omega), pI_0 (fun z => z hfil9), pI_1 (show ¬ okWr off q by omega)] at h
               exact h _ _ (CM_25 C2) (FrM_t F2 (FrM_w (by omega))) (anM_x 1 rfl (wr_s _ _ _ _)))
            | (rw [pI_on (by omega), pI_1 hfil9] at h
               exact h _ _ (CM_25 C2) (FrM_t F2 (FrM_w (by omega))) (anM_x 0 rfl (wr_s _ _ _ _)))
            | (rw [pI_1 (show dk A by show fD (aF A) = 1; omega)] at h
               exact h _ _ (CM_25 hC) (FrM_w (by omega)) (anM_x 2 rfl (wr_s _ _ _ _)))
  · skip
    refine wq_iconst (pc := 8) dX7_write_8 ?_
    refine wq_goto (pc := 9) (tgt := 76) dX7_write_9 (by decide) ?_
    refine wq_putIK (pc := 76) (kk := 25) dX7_write_76 hs (gf_X7_127 _ rfl) rfl rfl rfl rfl rfl ?_
    refine wq_aload_n (pc := 79) dX7_write_79 rfl rfl ?_
    refine wq_getIK (pc := 80) (kk := 25) dX7_write_80 hs (gf_X7_127 _ rfl) rfl rfl rfl rfl ?_
    rw [wr_s]
    refine wq_if_le (pc := 83) (tgt := 88) dX7_write_83 (by decide) (by first | (unfold inR; omega) | assumption) (fun c53 => ?_) (fun c53 => ?_)
    · skip
      refine wq_sub1 (L' := [(0, _), (1, _), (2, _), (3, _), (5, _)]) ⟨rfl, rfl, rfl, rfl, rfl, trivial⟩ ?_
      first
        | (exfalso; omega)
        | exact cut1 _ (CM_25 C4) (FrM_t F4b (FrM_w (by omega))) (wr_s _ _ _ _) (by omega) hfil9 ⟨by omega, by omega⟩ (by rw [if_neg (by decide)] at hrm; exact hrm)
    · skip
      refine wq_iconst (pc := 86) dX7_write_86 ?_
      refine wq_iret (pc := 87) dX7_write_87 rfl ?_
      first
        | (unfold actData1 at h
           rw [if_neg (by rw [hr6]; decide)] at h
           obtain ⟨-, -, -, -, y6, -⟩ := id P6
           exact h _ _ (CM_put hs P6 (fun _ => ⟨by rw [wr_n _ _ (by omega)]; exact h22, fun n n0 n1 => ⟨bump_wr (V := aD A) (fun n n0 n1 => (h39 n n0 n1).1) n n0 n1, by rw [wr_n _ _ (by omega)]; exact (h39 n n0 n1).2⟩⟩) (fun z => absurd z (by rw [hr6]; decide))) (FrM_t F5 (FrM_t (FrM_w (by omega)) (FrM_P y6))) (anM_v (by rw [y6 21 25 (by omega) (by omega), wr_n _ _ (by omega)]; exact t5)))
        | (unfold actData1 at h
           rw [if_pos hr6] at h
           obtain ⟨-, -, -, -, y6, -⟩ := id P6
           exact h _ _ (CM_put hs P6 (fun z => absurd z (by rw [hr6]; decide)) (fun _ => (D.2 hr6).1)) (FrM_t F5 (FrM_t (FrM_w (by omega)) (FrM_P y6))) (anM_v (by rw [y6 21 25 (by omega) (by omega), wr_n _ _ (by omega)]; exact t5)))
        | (exfalso; omega)
        | (rw [pI_on (by omega), pI_0 (fun z => z hfil9), pI_0 (fun z => z ⟨by omega, by omega⟩), pI_1 (by rw [if_neg (by decide)] at hrm; exact hrm)] at h
           exact h _ _ (CM_25 C4) (FrM_t F4b (FrM_w (by omega))) (anM_x 2 rfl (wr_s _ _ _ _)))
        | (rw [pI_on (by omega), pI_0 (fun z => z hfil9), pI_1 (show ¬ okWr off q by omega)] at h
           exact h _ _ (CM_25 C2) (FrM_t F2 (FrM_w (by omega))) (anM_x 1 rfl (wr_s _ _ _ _)))
        | (rw [pI_on (by omega), pI_1 hfil9] at h
           exact h _ _ (CM_25 C2) (FrM_t F2 (FrM_w (by omega))) (anM_x 0 rfl (wr_s _ _ _ _)))
        | (rw [pI_1 (show dk A by show fD (aF A) = 1; omega)] at h
           exact h _ _ (CM_25 hC) (FrM_w (by omega)) (anM_x 2 rfl (wr_s _ _ _ _)))
theorem sp_X7_truncate {μ : nMem} {ε : nEnv} {Q : nOut → nMem → nEnv → Prop} {A : AS} {nb vb f z : Int} (hC : CM A μ ε) (hO : AOK A nb vb) (hnb : nb + 1 ≤ 2000) (hvb : vb + 2 ≤ 4000) (r1 : inR f) (r2 : inR z) (h : ∀ m v, CM (actTrunc A f z).2 m ε → FrM μ m → anM (actTrunc A f z).1 [xI, xA, xS] v m → Q (.inl (some (vI v))) m ε) : Sp mX7_truncate [vR 21, vI f, vI z] μ ε Q := by
  refine Sp_of (L := [(0, vR 21), (1, vI f), (2, vI z)]) (by decide) rfl rfl (Nat.le_of_ble_eq_true rfl) ?_
  have hs := hC.1.1
  have q21 := hC.2.1.2
  have hD := hO.2.1
  have r21 : inR (μ 21 21) := by unfold inR; omega
  unfold actTrunc at h
  have cut1 : ∀ (m : nMem), (CM A m ε) → (FrM μ m) → (m 21 25 = 0) → (fD (aF A) = 0) → (isFl A f) → ((0 ≤ z ∧ z ≤ 64)) → (rmA A [2] 1) → wp mX7_truncate 65 [(0, vR 21), (1, vI f), (2, vI z)] [] m ε Q := by
    intro m e0 e1 e2 e3 e4 e5 e6
    obtain ⟨fl, S0, hP, hT0⟩ := hO.2.2 e3
    have hfb := isFl_b hP e4
    have hok := e5
    have hx := hP.2.2.2.2.2.2.2.1
    have hvr := hP.2.2.2.2.2.2.2.2.1
    have hs := e0.1.1
    have hvf := hvr f
    have hlb := LN_b (PA_NS hP.2.1) f
    have rln : inR (LN (aF A) f) := by unfold inR; omega
    have hd := e3
    have hfil := e4
    rw [pI_on e3, pI_0 (fun z => z e4), pI_0 (fun z => z e5), pI_0 (fun z => z e6)] at h
    obtain ⟨⟨s1, hs1, hus⟩, hfr1⟩ := tr_fr (by omega) (by omega) e6
    refine wq_aload_n (pc := 65) dX7_truncate_65 rfl rfl ?_
    refine wq_getS (pc := 66) dX7_truncate_66 hs (gf_X7_87 _ rfl) rfl rfl rfl rfl rfl ?_
    refine wq_aload_n (pc := 69) dX7_truncate_69 rfl rfl ?_
    refine wq_iload_n (pc := 70) dX7_truncate_70 rfl rfl ?_
    refine cVK_1 (pc := 71) dX7_truncate_71 hs (cw_X7_233 _ rfl) (by decide) rfl ⟨by decide, by decide⟩ (Nat.le_of_ble_eq_true rfl) (sp_X7_fileAt e0.1 (AOK_KP hO) r1 (fun hf m5 a K5 Y5 a0 a1 q46 co => ?_) (fun hf m5 K5 Y5 => ?_))
    · skip
      refine kr_s ?_
      have C5 := CM_Y e0 K5.1 Y5
      have F5 := FrM_t e1 (FrM_Y Y5)
      have t5 : m5 21 25 = 0 := by rw [Y5 21 25 (by omega) (by omega)]; exact e2
      obtain ⟨hG, h22, h39⟩ := C5.2.2 hd
      refine wq_ialdK (pc := 74) dX7_truncate_74 hs rfl (by omega) (by omega) ?_
      rw [co.1]
      have D := IP_data (nb := nb + 1) (nx' := aX A) (f := f) (o := 0) (z := z) (b := 0) (n := 0) (IP_mono hP (by omega) (Int.le_refl vb)) (by omega) (by omega) (by omega) (by omega) (by omega) (by omega) (by omega) hfr1 rfl
      refine wq_istore_n (pc := 75) (L' := [(3, _), (0, _), (1, _), (2, _)]) dX7_truncate_75 rfl rfl (by decide) ?_
      refine wq_aload_n (pc := 76) dX7_truncate_76 rfl rfl ?_
      refine wq_iload_n (pc := 77) dX7_truncate_77 rfl rfl ?_
      refine wq_iconst (pc := 78) dX7_truncate_78 ?_
      refine wq_lconst (pc := 79) (v := 0) dX7_truncate_79 rfl ?_
      refine wq_iconst (pc := 80) dX7_truncate_80 ?_
      refine wq_iload_n (pc := 81) dX7_truncate_81 rfl rfl ?_
      refine cVK_5 (pc := 82) dX7_truncate_82 hs (cw_X7_225 _ rfl) (by decide) rfl ⟨by decide, by decide⟩ (Nat.le_of_ble_eq_true rfl) (sp_X7_writeData (F := aF A) (g := aG A) (v0 := aD A f) (CM_WM C5 hd) hP.2.1 hP.2.2.2.1 (by omega) (by omega) (h39 f (by omega) (by omega)).1 (dbSrc_ok (by omega) (by omega) (by omega) (by omega) (by omega)) hfr1 (fun hr6 m6 P6 => ?_) (fun hr6 m6 P6 => ?_))
      · skip
        refine kr_s ?_
        have hr6b := hr6
        refine wq_if_eq (pc := 85) (tgt := 92) dX7_truncate_85 (by decide) (by first | (unfold inR; omega) | assumption) (fun _ => ?_) (fun c => absurd c (by decide))
        refine wq_bipush (pc := 92) dX7_truncate_92 (by decide) (by decide) ?_
        refine wq_iret (pc := 94) dX7_truncate_94 rfl ?_
        first
          | (unfold actData1 at h
             rw [if_neg (by rw [hr6]; decide)] at h
             obtain ⟨-, -, -, -, y6, -⟩ := id P6
             exact h _ _ (CM_put hs P6 (fun _ => ⟨by rw [wr_n _ _ (by omega)]; exact h22, fun n n0 n1 => ⟨bump_wr (V := aD A) (fun n n0 n1 => (h39 n n0 n1).1) n n0 n1, by rw [wr_n _ _ (by omega)]; exact (h39 n n0 n1).2⟩⟩) (fun z => absurd z (by rw [hr6]; decide))) (FrM_t F5 (FrM_t (FrM_w (by omega)) (FrM_P y6))) (anM_v (by rw [y6 21 25 (by omega) (by omega), wr_n _ _ (by omega)]; exact t5)))
          | (unfold actData1 at h
             rw [if_pos hr6] at h
             obtain ⟨-, -, -, -, y6, -⟩ := id P6
             exact h _ _ (CM_put hs P6 (fun z => absurd z (by rw [hr6]; decide)) (fun _ => (D.2 hr6).1)) (FrM_t F5 (FrM_t (FrM_w (by omega)) (FrM_P y6))) (anM_v (by rw [y6 21 25 (by omega) (by omega), wr_n _ _ (by omega)]; exact t5)))
          | (exfalso; omega)
          | (rw [pI_on (by omega), pI_0 (fun z => z hfil9), pI_0 (fun z => z (by omega)), pI_1 (by rw [if_neg (by decide)] at hrm; exact hrm)] at h
             exact h _ _ (CM_25 C4) (FrM_t F4b (FrM_w (by omega))) (anM_x 2 rfl (wr_s _ _ _ _)))
          | (rw [pI_on (by omega), pI_0 (fun z => z hfil9), pI_1 (show ¬ (0 ≤ z ∧ z ≤ 64) by omega)] at h
             exact h _ _ (CM_25 C2) (FrM_t F2 (FrM_w (by omega))) (anM_x 1 rfl (wr_s _ _ _ _)))
          | (rw [pI_on (by omega), pI_1 hfil9] at h
             exact h _ _ (CM_25 C2) (FrM_t F2 (FrM_w (by omega))) (anM_x 0 rfl (wr_s _ _ _ _)))
          | (rw [pI_1 (show dk A by show fD (aF A) = 1; omega)] at h
             exact h _ _ (CM_25 hC) (FrM_w (by omega)) (anM_x 2 rfl (wr_s _ _ _ _)))
      · skip
        refine kr_s ?_
        have hr6b := hr6
        refine wq_if_eq (pc := 85) (tgt := 92) dX7_truncate_85 (by decide) (by first | (unfold inR; omega) | assumption) (fun c => absurd c (by decide)) (fun _ => ?_)
        refine wq_iload_n (pc := 88) dX7_truncate_88 rfl rfl ?_
        refine wq_goto (pc := 89) (tgt := 94) dX7_truncate_89 (by decide) ?_
        refine wq_iret (pc := 94) dX7_truncate_94 rfl ?_
        first
          | (unfold actData1 at h
             rw [if_neg (by rw [hr6]; decide)] at h
             obtain ⟨-, -, -, -, y6, -⟩ := id P6
             exact h _ _ (CM_put hs P6 (fun _ => ⟨by rw [wr_n _ _ (by omega)]; exact h22, fun n n0 n1 => ⟨bump_wr (V := aD A) (fun n n0 n1 => (h39 n n0 n1).1) n n0 n1, by rw [wr_n _ _ (by omega)]; exact (h39 n n0 n1).2⟩⟩) (fun z => absurd z (by rw [hr6]; decide))) (FrM_t F5 (FrM_t (FrM_w (by omega)) (FrM_P y6))) (anM_v (by rw [y6 21 25 (by omega) (by omega), wr_n _ _ (by omega)]; exact t5)))
          | (unfold actData1 at h
             rw [if_pos hr6] at h
             obtain ⟨-, -, -, -, y6, -⟩ := id P6
             exact h _ _ (CM_put hs P6 (fun z => absurd z (by rw [hr6]; decide)) (fun _ => (D.2 hr6).1)) (FrM_t F5 (FrM_t (FrM_w (by omega)) (FrM_P y6))) (anM_v (by rw [y6 21 25 (by omega) (by omega), wr_n _ _ (by omega)]; exact t5)))
          | (exfalso; omega)
          | (rw [pI_on (by omega), pI_0 (fun z => z hfil9), pI_0 (fun z => z (by omega)), pI_1 (by rw [if_neg (by decide)] at hrm; exact hrm)] at h
             exact h _ _ (CM_25 C4) (FrM_t F4b (FrM_w (by omega))) (anM_x 2 rfl (wr_s _ _ _ _)))
          | (rw [pI_on (by omega), pI_0 (fun z => z hfil9), pI_1 (show ¬ (0 ≤ z ∧ z ≤ 64) by omega)] at h
             exact h _ _ (CM_25 C2) (FrM_t F2 (FrM_w (by omega))) (anM_x 1 rfl (wr_s _ _ _ _)))
          | (rw [pI_on (by omega), pI_1 hfil9] at h
             exact h _ _ (CM_25 C2) (FrM_t F2 (FrM_w (by omega))) (anM_x 0 rfl (wr_s _ _ _ _)))
          | (rw [pI_1 (show dk A by show fD (aF A) = 1; omega)] at h
             exact h _ _ (CM_25 hC) (FrM_w (by omega)) (anM_x 2 rfl (wr_s _ _ _ _)))
    · skip
      exact absurd hfil hf
  refine wq_aload_n (pc := 0) dX7_truncate_0 rfl rfl ?_
  refine wq_aload_n (pc := 1) dX7_truncate_1 rfl rfl ?_
  refine wq_getIK (pc := 2) (kk := 21) dX7_truncate_2 hs (gf_X7_174 _ rfl) rfl rfl rfl rfl ?_
  refine wq_if_eq (pc := 5) (tgt := 12) dX7_truncate_5 (by decide) (by first | (unfold inR; omega) | assumption) (fun c8 => ?_) (fun c8 => ?_)
  · skip
    refine wq_aload_n (pc := 12) dX7_truncate_12 rfl rfl ?_
    refine wq_iload_n (pc := 13) dX7_truncate_13 rfl rfl ?_
    refine cVK_1 (pc := 14) dX7_truncate_14 hs (cw_X7_233 _ rfl) (by decide) rfl ⟨by decide, by decide⟩ (Nat.le_of_ble_eq_true rfl) (sp_X7_fileAt hC.1 (AOK_KP hO) r1 (fun hfil m2 a K2 Y2 a0 a1 q46 co => ?_) (fun hfil m2 K2 Y2 => ?_))
    · skip
      refine kr_s ?_
      have hfil9 := hfil
      have ra : inR a := by unfold inR; omega
      have C2 := CM_Y hC K2.1 Y2
      have F2 := FrM_Y Y2
      obtain ⟨fl0, S0, hP0, hT0⟩ := hO.2.2 (by omega)
      refine wq_iconst (pc := 17) dX7_truncate_17 ?_
      refine wq_icmp_ne (pc := 18) (tgt := 25) dX7_truncate_18 (by decide) (by first | (unfold inR; omega) | assumption) (by first | (unfold inR; omega) | assumption) (fun c11 => ?_) (fun c11 => ?_)
      · skip
        refine wq_iload_n (pc := 25) dX7_truncate_25 rfl rfl ?_
        refine wq_iconst (pc := 26) dX7_truncate_26 ?_
        refine wq_bipush (pc := 27) dX7_truncate_27 (by decide) (by decide) ?_
        refine cS_3 (pc := 29) dX7_truncate_29 (cw_X7_210 _ rfl) ⟨by decide, by decide⟩ (Nat.le_of_ble_eq_true rfl) (sp_X7_in (by assumption) (by unfold inR; omega) (by unfold inR; omega) (fun hin => ?_) (fun hin => ?_))
        · skip
          refine kr_s ?_
          have hin9 := hin
          refine wq_if_ne (pc := 32) (tgt := 39) dX7_truncate_32 (by decide) (by first | (unfold inR; omega) | assumption) (fun _ => ?_) (fun c => absurd c (by decide))
          refine wq_aload_n (pc := 39) dX7_truncate_39 rfl rfl ?_
          refine wq_iconst (pc := 40) dX7_truncate_40 ?_
          refine wq_iconst (pc := 41) dX7_truncate_41 ?_
          refine cVK_2 (pc := 42) dX7_truncate_42 hs (cw_X7_222 _ rfl) (by decide) rfl ⟨by decide, by decide⟩ (Nat.le_of_ble_eq_true rfl) (sp_X7_canWrite C2 (by omega) hP0.2.2.2.1 (by omega) (by omega) (fun hrm m4 C4 F4 t4 => ?_) (fun hrm m4 C4 F4 t4 => ?_))
          · skip
            refine kr_s ?_
            have hrm9 := hrm
            have F4b := FrM_t F2 F4
            refine wq_if_ne (pc := 45) (tgt := 52) dX7_truncate_45 (by decide) (by first | (unfold inR; omega) | assumption) (fun _ => ?_) (fun c => absurd c (by decide))
            refine wq_iconst (pc := 52) dX7_truncate_52 ?_
            refine wq_putIK (pc := 53) (kk := 25) dX7_truncate_53 hs (gf_X7_127 _ rfl) rfl rfl rfl rfl rfl ?_
            refine wq_aload_n (pc := 56) dX7_truncate_56 rfl rfl ?_
            refine wq_getIK (pc := 57) (kk := 25) dX7_truncate_57 hs (gf_X7_127 _ rfl) rfl rfl rfl rfl ?_
            rw [wr_s]
            refine wq_if_le (pc := 60) (tgt := 65) dX7_truncate_60 (by decide) (by first | (unfold inR; omega) | assumption) (fun c18 => ?_) (fun c18 => ?_)
            · skip
              refine wq_sub1 (L' := [(0, _), (1, _), (2, _)]) ⟨rfl, rfl, rfl, trivial⟩ ?_
              first
                | (exfalso; omega)
                | exact cut1 _ (CM_25 C4) (FrM_t F4b (FrM_w (by omega))) (wr_s _ _ _ _) (by omega) hfil9 (by omega) (by rw [if_neg (by decide)] at hrm; exact hrm)
            · skip
              refine wq_iconst (pc := 63) dX7_truncate_63 ?_
              refine wq_iret (pc := 64) dX7_truncate_64 rfl ?_
              first
                | (unfold actData1 at h
                   rw [if_neg (by rw [hr6]; decide)] at h
                   obtain ⟨-, -, -, -, y6, -⟩ := id P6
                   exact h _ _ (CM_put hs P6 (fun _ => ⟨by rw [wr_n _ _ (by omega)]; exact h22, fun n n0 n1 => ⟨bump_wr (V := aD A) (fun n n0 n1 => (h39 n n0 n1).1) n n0 n1, by rw [wr_n _ _ (by omega)]; exact (h39 n n0 n1).2⟩⟩) (fun z => absurd z (by rw [hr6]; decide))) (FrM_t F5 (FrM_t (FrM_w (by omega)) (FrM_P y6))) (anM_v (by rw [y6 21 25 (by omega) (by omega), wr_n _ _ (by omega)]; exact t5)))
                | (unfold actData1 at h
                   rw [if_pos hr6] at h
                   obtain ⟨-, -, -, -, y6, -⟩ := id P6
                   exact h _ _ (CM_put hs P6 (fun z => absurd z (by rw [hr6]; decide)) (fun _ => (D.2 hr6).1)) (FrM_t F5 (FrM_t (FrM_w (by omega)) (FrM_P y6))) (anM_v (by rw [y6 21 25 (by omega) (by omega), wr_n _ _ (by omega)]; exact t5)))
                | (exfalso; omega)
                | (rw [pI_on (by omega), pI_0 (fun z => z hfil9), pI_0 (fun z => z (by omega)), pI_1 (by rw [if_neg (by decide)] at hrm; exact hrm)] at h
                   exact h _ _ (CM_25 C4) (FrM_t F4b (FrM_w (by omega))) (anM_x 2 rfl (wr_s _ _ _ _)))
                | (rw [pI_on (by omega), pI_0 (fun z => z hfil9), pI_1 (show ¬ (0 ≤ z ∧ z ≤ 64) by omega)] at h
                   exact h _ _ (CM_25 C2) (FrM_t F2 (FrM_w (by omega))) (anM_x 1 rfl (wr_s _ _ _ _)))
                | (rw [pI_on (by omega), pI_1 hfil9] at h
                   exact h _ _ (CM_25 C2) (FrM_t F2 (FrM_w (by omega))) (anM_x 0 rfl (wr_s _ _ _ _)))
                | (rw [pI_1 (show dk A by show fD (aF A) = 1; omega)] at h
                   exact h _ _ (CM_25 hC) (FrM_w (by omega)) (anM_x 2 rfl (wr_s _ _ _ _)))
          · skip
            refine kr_s ?_
            have hrm9 := hrm
            have F4b := FrM_t F2 F4
            refine wq_if_ne (pc := 45) (tgt := 52) dX7_truncate_45 (by decide) (by first | (unfold inR; omega) | assumption) (fun c => absurd c (by decide)) (fun _ => ?_)
            refine wq_iconst (pc := 48) dX7_truncate_48 ?_
            refine wq_goto (pc := 49) (tgt := 53) dX7_truncate_49 (by decide) ?_
            refine wq_putIK (pc := 53) (kk := 25) dX7_truncate_53 hs (gf_X7_127 _ rfl) rfl rfl rfl rfl rfl ?_
            refine wq_aload_n (pc := 56) dX7_truncate_56 rfl rfl ?_
            refine wq_getIK (pc := 57) (kk := 25) dX7_truncate_57 hs (gf_X7_127 _ rfl) rfl rfl rfl rfl ?_
            rw [wr_s]
            refine wq_if_le (pc := 60) (tgt := 65) dX7_truncate_60 (by decide) (by first | (unfold inR; omega) | assumption) (fun c20 => ?_) (fun c20 => ?_)
            · skip
              refine wq_sub1 (L' := [(0, _), (1, _), (2, _)]) ⟨rfl, rfl, rfl, trivial⟩ ?_
              first
                | (exfalso; omega)
                | exact cut1 _ (CM_25 C4) (FrM_t F4b (FrM_w (by omega))) (wr_s _ _ _ _) (by omega) hfil9 (by omega) (by rw [if_neg (by decide)] at hrm; exact hrm)
            · skip
              refine wq_iconst (pc := 63) dX7_truncate_63 ?_
              refine wq_iret (pc := 64) dX7_truncate_64 rfl ?_
              first
                | (unfold actData1 at h
                   rw [if_neg (by rw [hr6]; decide)] at h
                   obtain ⟨-, -, -, -, y6, -⟩ := id P6
                   exact h _ _ (CM_put hs P6 (fun _ => ⟨by rw [wr_n _ _ (by omega)]; exact h22, fun n n0 n1 => ⟨bump_wr (V := aD A) (fun n n0 n1 => (h39 n n0 n1).1) n n0 n1, by rw [wr_n _ _ (by omega)]; exact (h39 n n0 n1).2⟩⟩) (fun z => absurd z (by rw [hr6]; decide))) (FrM_t F5 (FrM_t (FrM_w (by omega)) (FrM_P y6))) (anM_v (by rw [y6 21 25 (by omega) (by omega), wr_n _ _ (by omega)]; exact t5)))
                | (unfold actData1 at h
                   rw [if_pos hr6] at h
                   obtain ⟨-, -, -, -, y6, -⟩ := id P6
                   exact h _ _ (CM_put hs P6 (fun z => absurd z (by rw [hr6]; decide)) (fun _ => (D.2 hr6).1)) (FrM_t F5 (FrM_t (FrM_w (by omega)) (FrM_P y6))) (anM_v (by rw [y6 21 25 (by omega) (by omega), wr_n _ _ (by omega)]; exact t5)))
                | (exfalso; omega)
                | (rw [pI_on (by omega), pI_0 (fun z => z hfil9), pI_0 (fun z => z (by omega)), pI_1 (by rw [if_neg (by decide)] at hrm; exact hrm)] at h
                   exact h _ _ (CM_25 C4) (FrM_t F4b (FrM_w (by omega))) (anM_x 2 rfl (wr_s _ _ _ _)))
                | (rw [pI_on (by omega), pI_0 (fun z => z hfil9), pI_1 (show ¬ (0 ≤ z ∧ z ≤ 64) by omega)] at h
                   exact h _ _ (CM_25 C2) (FrM_t F2 (FrM_w (by omega))) (anM_x 1 rfl (wr_s _ _ _ _)))
                | (rw [pI_on (by omega), pI_1 hfil9] at h
                   exact h _ _ (CM_25 C2) (FrM_t F2 (FrM_w (by omega))) (anM_x 0 rfl (wr_s _ _ _ _)))
                | (rw [pI_1 (show dk A by show fD (aF A) = 1; omega)] at h
                   exact h _ _ (CM_25 hC) (FrM_w (by omega)) (anM_x 2 rfl (wr_s _ _ _ _)))
        · skip
          refine kr_s ?_
          have hin9 := hin
          refine wq_if_ne (pc := 32) (tgt := 39) dX7_truncate_32 (by decide) (by first | (unfold inR; omega) | assumption) (fun c => absurd c (by decide)) (fun _ => ?_)
          refine wq_iconst (pc := 35) dX7_truncate_35 ?_
          refine wq_goto (pc := 36) (tgt := 53) dX7_truncate_36 (by decide) ?_
          refine wq_putIK (pc := 53) (kk := 25) dX7_truncate_53 hs (gf_X7_127 _ rfl) rfl rfl rfl rfl rfl ?_
          refine wq_aload_n (pc := 56) dX7_truncate_56 rfl rfl ?_
          refine wq_getIK (pc := 57) (kk := 25) dX7_truncate_57 hs (gf_X7_127 _ rfl) rfl rfl rfl rfl ?_
          rw [wr_s]
          refine wq_if_le (pc := 60) (tgt := 65) dX7_truncate_60 (by decide) (by first | (unfold inR; omega) | assumption) (fun c22 => ?_) (fun c22 => ?_)
          · skip
            refine wq_sub1 (L' := [(0, _), (1, _), (2, _)]) ⟨rfl, rfl, rfl, trivial⟩ ?_
            first
              | (exfalso; omega)
              | exact cut1 _ (CM_25 C4) (FrM_t F4b (FrM_w (by omega))) (wr_s _ _ _ _) (by omega) hfil9 (by omega) (by rw [if_neg (by decide)] at hrm; exact hrm)
          · skip
            refine wq_iconst (pc := 63) dX7_truncate_63 ?_
            refine wq_iret (pc := 64) dX7_truncate_64 rfl ?_
            first
              | (unfold actData1 at h
                 rw [if_neg (by rw [hr6]; decide)] at h
                 obtain ⟨-, -, -, -, y6, -⟩ := id P6
                 exact h _ _ (CM_put hs P6 (fun _ => ⟨by rw [wr_n _ _ (by omega)]; exact h22, fun n n0 n1 => ⟨bump_wr (V := aD A) (fun n n0 n1 => (h39 n n0 n1).1) n n0 n1, by rw [wr_n _ _ (by omega)]; exact (h39 n n0 n1).2⟩⟩) (fun z => absurd z (by rw [hr6]; decide))) (FrM_t F5 (FrM_t (FrM_w (by omega)) (FrM_P y6))) (anM_v (by rw [y6 21 25 (by omega) (by omega), wr_n _ _ (by omega)]; exact t5)))
              | (unfold actData1 at h
                 rw [if_pos hr6] at h
                 obtain ⟨-, -, -, -, y6, -⟩ := id P6
                 exact h _ _ (CM_put hs P6 (fun z => absurd z (by rw [hr6]; decide)) (fun _ => (D.2 hr6).1)) (FrM_t F5 (FrM_t (FrM_w (by omega)) (FrM_P y6))) (anM_v (by rw [y6 21 25 (by omega) (by omega), wr_n _ _ (by omega)]; exact t5)))
              | (exfalso; omega)
              | (rw [pI_on (by omega), pI_0 (fun z => z hfil9), pI_0 (fun z => z (by omega)), pI_1 (by rw [if_neg (by decide)] at hrm; exact hrm)] at h
                 exact h _ _ (CM_25 C4) (FrM_t F4b (FrM_w (by omega))) (anM_x 2 rfl (wr_s _ _ _ _)))
              | (rw [pI_on (by omega), pI_0 (fun z => z hfil9), pI_1 (show ¬ (0 ≤ z ∧ z ≤ 64) by omega)] at h
                 exact h _ _ (CM_25 C2) (FrM_t F2 (FrM_w (by omega))) (anM_x 1 rfl (wr_s _ _ _ _)))
              | (rw [pI_on (by omega), pI_1 hfil9] at h
                 exact h _ _ (CM_25 C2) (FrM_t F2 (FrM_w (by omega))) (anM_x 0 rfl (wr_s _ _ _ _)))
              | (rw [pI_1 (show dk A by show fD (aF A) = 1; omega)] at h
                 exact h _ _ (CM_25 hC) (FrM_w (by omega)) (anM_x 2 rfl (wr_s _ _ _ _)))
      · skip
        refine wq_iconst (pc := 21) dX7_truncate_21 ?_
        refine wq_goto (pc := 22) (tgt := 53) dX7_truncate_22 (by decide) ?_
        refine wq_putIK (pc := 53) (kk := 25) dX7_truncate_53 hs (gf_X7_127 _ rfl) rfl rfl rfl rfl rfl ?_
        refine wq_aload_n (pc := 56) dX7_truncate_56 rfl rfl ?_
        refine wq_getIK (pc := 57) (kk := 25) dX7_truncate_57 hs (gf_X7_127 _ rfl) rfl rfl rfl rfl ?_
        rw [wr_s]
        refine wq_if_le (pc := 60) (tgt := 65) dX7_truncate_60 (by decide) (by first | (unfold inR; omega) | assumption) (fun c23 => ?_) (fun c23 => ?_)
        · skip
          refine wq_sub1 (L' := [(0, _), (1, _), (2, _)]) ⟨rfl, rfl, rfl, trivial⟩ ?_
          first
            | (exfalso; omega)
            | exact cut1 _ (CM_25 C4) (FrM_t F4b (FrM_w (by omega))) (wr_s _ _ _ _) (by omega) hfil9 (by omega) (by rw [if_neg (by decide)] at hrm; exact hrm)
        · skip
          refine wq_iconst (pc := 63) dX7_truncate_63 ?_
          refine wq_iret (pc := 64) dX7_truncate_64 rfl ?_
          first
            | (unfold actData1 at h
               rw [if_neg (by rw [hr6]; decide)] at h
               obtain ⟨-, -, -, -, y6, -⟩ := id P6
               exact h _ _ (CM_put hs P6 (fun _ => ⟨by rw [wr_n _ _ (by omega)]; exact h22, fun n n0 n1 => ⟨bump_wr (V := aD A) (fun n n0 n1 => (h39 n n0 n1).1) n n0 n1, by rw [wr_n _ _ (by omega)]; exact (h39 n n0 n1).2⟩⟩) (fun z => absurd z (by rw [hr6]; decide))) (FrM_t F5 (FrM_t (FrM_w (by omega)) (FrM_P y6))) (anM_v (by rw [y6 21 25 (by omega) (by omega), wr_n _ _ (by omega)]; exact t5)))
            | (unfold actData1 at h
               rw [if_pos hr6] at h
               obtain ⟨-, -, -, -, y6, -⟩ := id P6
               exact h _ _ (CM_put hs P6 (fun z => absurd z (by rw [hr6]; decide)) (fun _ => (D.2 hr6).1)) (FrM_t F5 (FrM_t (FrM_w (by omega)) (FrM_P y6))) (anM_v (by rw [y6 21 25 (by omega) (by omega), wr_n _ _ (by omega)]; exact t5)))
            | (exfalso; omega)
            | (rw [pI_on (by omega), pI_0 (fun z => z hfil9), pI_0 (fun z => z (by omega)), pI_1 (by rw [if_neg (by decide)] at hrm; exact hrm)] at h
               exact h _ _ (CM_25 C4) (FrM_t F4b (FrM_w (by omega))) (anM_x 2 rfl (wr_s _ _ _ _)))
            | (rw [pI_on (by omega), pI_0 (fun z => z hfil9), pI_1 (show ¬ (0 ≤ z ∧ z ≤ 64) by omega)] at h
               exact h _ _ (CM_25 C2) (FrM_t F2 (FrM_w (by omega))) (anM_x 1 rfl (wr_s _ _ _ _)))
            | (rw [pI_on (by omega), pI_1 hfil9] at h
               exact h _ _ (CM_25 C2) (FrM_t F2 (FrM_w (by omega))) (anM_x 0 rfl (wr_s _ _ _ _)))
            | (rw [pI_1 (show dk A by show fD (aF A) = 1; omega)] at h
               exact h _ _ (CM_25 hC) (FrM_w (by omega)) (anM_x 2 rfl (wr_s _ _ _ _)))
    · skip
      refine kr_s ?_
      have hfil9 := hfil
      have C2 := CM_Y hC K2.1 Y2
      have F2 := FrM_Y Y2
      obtain ⟨fl0, S0, hP0, hT0⟩ := hO.2.2 (by omega)
      refine wq_iconst (pc := 17) dX7_truncate_17 ?_
      refine wq_icmp_ne (pc := 18) (tgt := 25) dX7_truncate_18 (by decide) (by first | (unfold inR; omega) | assumption) (by first | (unfold inR; omega) | assumption) (fun c24 => ?_) (fun c24 => ?_)
      · skip
        refine wq_iload_n (pc := 25) dX7_truncate_25 rfl rfl ?_
        refine wq_iconst (pc := 26) dX7_truncate_26 ?_
        refine wq_bipush (pc := 27) dX7_truncate_27 (by decide) (by decide) ?_
        refine cS_3 (pc := 29) dX7_truncate_29 (cw_X7_210 _ rfl) ⟨by decide, by decide⟩ (Nat.le_of_ble_eq_true rfl) (sp_X7_in (by assumption) (by unfold inR; omega) (by unfold inR; omega) (fun hin => ?_) (fun hin => ?_))
        · skip
          refine kr_s ?_
          have hin9 := hin
          refine wq_if_ne (pc := 32) (tgt := 39) dX7_truncate_32 (by decide) (by first | (unfold inR; omega) | assumption) (fun _ => ?_) (fun c => absurd c (by decide))
          refine wq_aload_n (pc := 39) dX7_truncate_39 rfl rfl ?_
          refine wq_iconst (pc := 40) dX7_truncate_40 ?_
          refine wq_iconst (pc := 41) dX7_truncate_41 ?_
          refine cVK_2 (pc := 42) dX7_truncate_42 hs (cw_X7_222 _ rfl) (by decide) rfl ⟨by decide, by decide⟩ (Nat.le_of_ble_eq_true rfl) (sp_X7_canWrite C2 (by omega) hP0.2.2.2.1 (by omega) (by omega) (fun hrm m4 C4 F4 t4 => ?_) (fun hrm m4 C4 F4 t4 => ?_))
          · skip
            refine kr_s ?_
            have hrm9 := hrm
            have F4b := FrM_t F2 F4
            refine wq_if_ne (pc := 45) (tgt := 52) dX7_truncate_45 (by decide) (by first | (unfold inR; omega) | assumption) (fun _ => ?_) (fun c => absurd c (by decide))
            refine wq_iconst (pc := 52) dX7_truncate_52 ?_
            refine wq_putIK (pc := 53) (kk := 25) dX7_truncate_53 hs (gf_X7_127 _ rfl) rfl rfl rfl rfl rfl ?_
            refine wq_aload_n (pc := 56) dX7_truncate_56 rfl rfl ?_
            refine wq_getIK (pc := 57) (kk := 25) dX7_truncate_57 hs (gf_X7_127 _ rfl) rfl rfl rfl rfl ?_
            rw [wr_s]
            refine wq_if_le (pc := 60) (tgt := 65) dX7_truncate_60 (by decide) (by first | (unfold inR; omega) | assumption) (fun c31 => ?_) (fun c31 => ?_)
            · skip
              refine wq_sub1 (L' := [(0, _), (1, _), (2, _)]) ⟨rfl, rfl, rfl, trivial⟩ ?_
              first
                | (exfalso; omega)
                | exact cut1 _ (CM_25 C4) (FrM_t F4b (FrM_w (by omega))) (wr_s _ _ _ _) (by omega) hfil9 (by omega) (by rw [if_neg (by decide)] at hrm; exact hrm)
            · skip
              refine wq_iconst (pc := 63) dX7_truncate_63 ?_
              refine wq_iret (pc := 64) dX7_truncate_64 rfl ?_
              first
                | (unfold actData1 at h
                   rw [if_neg (by rw [hr6]; decide)] at h
                   obtain ⟨-, -, -, -, y6, -⟩ := id P6
                   exact h _ _ (CM_put hs P6 (fun _ => ⟨by rw [wr_n _ _ (by omega)]; exact h22, fun n n0 n1 => ⟨bump_wr (V := aD A) (fun n n0 n1 => (h39 n n0 n1).1) n n0 n1, by rw [wr_n _ _ (by omega)]; exact (h39 n n0 n1).2⟩⟩) (fun z => absurd z (by rw [hr6]; decide))) (FrM_t F5 (FrM_t (FrM_w (by omega)) (FrM_P y6))) (anM_v (by rw [y6 21 25 (by omega) (by omega), wr_n _ _ (by omega)]; exact t5)))
                | (unfold actData1 at h
                   rw [if_pos hr6] at h
                   obtain ⟨-, -, -, -, y6, -⟩ := id P6
                   exact h _ _ (CM_put hs P6 (fun z => absurd z (by rw [hr6]; decide)) (fun _ => (D.2 hr6).1)) (FrM_t F5 (FrM_t (FrM_w (by omega)) (FrM_P y6))) (anM_v (by rw [y6 21 25 (by omega) (by omega), wr_n _ _ (by omega)]; exact t5)))
                | (exfalso; omega)
                | (rw [pI_on (by omega), pI_0 (fun z => z hfil9), pI_0 (fun z => z (by omega)), pI_1 (by rw [if_neg (by decide)] at hrm; exact hrm)] at h
                   exact h _ _ (CM_25 C4) (FrM_t F4b (FrM_w (by omega))) (anM_x 2 rfl (wr_s _ _ _ _)))
                | (rw [pI_on (by omega), pI_0 (fun z => z hfil9), pI_1 (show ¬ (0 ≤ z ∧ z ≤ 64) by omega)] at h
                   exact h _ _ (CM_25 C2) (FrM_t F2 (FrM_w (by omega))) (anM_x 1 rfl (wr_s _ _ _ _)))
                | (rw [pI_on (by omega), pI_1 hfil9] at h
                   exact h _ _ (CM_25 C2) (FrM_t F2 (FrM_w (by omega))) (anM_x 0 rfl (wr_s _ _ _ _)))
                | (rw [pI_1 (show dk A by show fD (aF A) = 1; omega)] at h
                   exact h _ _ (CM_25 hC) (FrM_w (by omega)) (anM_x 2 rfl (wr_s _ _ _ _)))
          · skip
            refine kr_s ?_
            have hrm9 := hrm
            have F4b := FrM_t F2 F4
            refine wq_if_ne (pc := 45) (tgt := 52) dX7_truncate_45 (by decide) (by first | (unfold inR; omega) | assumption) (fun c => absurd c (by decide)) (fun _ => ?_)
            refine wq_iconst (pc := 48) dX7_truncate_48 ?_
            refine wq_goto (pc := 49) (tgt := 53) dX7_truncate_49 (by decide) ?_
            refine wq_putIK (pc := 53) (kk := 25) dX7_truncate_53 hs (gf_X7_127 _ rfl) rfl rfl rfl rfl rfl ?_
            refine wq_aload_n (pc := 56) dX7_truncate_56 rfl rfl ?_
            refine wq_getIK (pc := 57) (kk := 25) dX7_truncate_57 hs (gf_X7_127 _ rfl) rfl rfl rfl rfl ?_
            rw [wr_s]
            refine wq_if_le (pc := 60) (tgt := 65) dX7_truncate_60 (by decide) (by first | (unfold inR; omega) | assumption) (fun c33 => ?_) (fun c33 => ?_)
            · skip
              refine wq_sub1 (L' := [(0, _), (1, _), (2, _)]) ⟨rfl, rfl, rfl, trivial⟩ ?_
              first
                | (exfalso; omega)
                | exact cut1 _ (CM_25 C4) (FrM_t F4b (FrM_w (by omega))) (wr_s _ _ _ _) (by omega) hfil9 (by omega) (by rw [if_neg (by decide)] at hrm; exact hrm)
            · skip
              refine wq_iconst (pc := 63) dX7_truncate_63 ?_
              refine wq_iret (pc := 64) dX7_truncate_64 rfl ?_
              first
                | (unfold actData1 at h
                   rw [if_neg (by rw [hr6]; decide)] at h
                   obtain ⟨-, -, -, -, y6, -⟩ := id P6
                   exact h _ _ (CM_put hs P6 (fun _ => ⟨by rw [wr_n _ _ (by omega)]; exact h22, fun n n0 n1 => ⟨bump_wr (V := aD A) (fun n n0 n1 => (h39 n n0 n1).1) n n0 n1, by rw [wr_n _ _ (by omega)]; exact (h39 n n0 n1).2⟩⟩) (fun z => absurd z (by rw [hr6]; decide))) (FrM_t F5 (FrM_t (FrM_w (by omega)) (FrM_P y6))) (anM_v (by rw [y6 21 25 (by omega) (by omega), wr_n _ _ (by omega)]; exact t5)))
                | (unfold actData1 at h
                   rw [if_pos hr6] at h
                   obtain ⟨-, -, -, -, y6, -⟩ := id P6
                   exact h _ _ (CM_put hs P6 (fun z => absurd z (by rw [hr6]; decide)) (fun _ => (D.2 hr6).1)) (FrM_t F5 (FrM_t (FrM_w (by omega)) (FrM_P y6))) (anM_v (by rw [y6 21 25 (by omega) (by omega), wr_n _ _ (by omega)]; exact t5)))
                | (exfalso; omega)
                | (rw [pI_on (by omega), pI_0 (fun z => z hfil9), pI_0 (fun z => z (by omega)), pI_1 (by rw [if_neg (by decide)] at hrm; exact hrm)] at h
                   exact h _ _ (CM_25 C4) (FrM_t F4b (FrM_w (by omega))) (anM_x 2 rfl (wr_s _ _ _ _)))
                | (rw [pI_on (by omega), pI_0 (fun z => z hfil9), pI_1 (show ¬ (0 ≤ z ∧ z ≤ 64) by omega)] at h
                   exact h _ _ (CM_25 C2) (FrM_t F2 (FrM_w (by omega))) (anM_x 1 rfl (wr_s _ _ _ _)))
                | (rw [pI_on (by omega), pI_1 hfil9] at h
                   exact h _ _ (CM_25 C2) (FrM_t F2 (FrM_w (by omega))) (anM_x 0 rfl (wr_s _ _ _ _)))
                | (rw [pI_1 (show dk A by show fD (aF A) = 1; omega)] at h
                   exact h _ _ (CM_25 hC) (FrM_w (by omega)) (anM_x 2 rfl (wr_s _ _ _ _)))
        · skip
          refine kr_s ?_
          have hin9 := hin
          refine wq_if_ne (pc := 32) (tgt := 39) dX7_truncate_32 (by decide) (by first | (unfold inR; omega) | assumption) (fun c => absurd c (by decide)) (fun _ => ?_)
          refine wq_iconst (pc := 35) dX7_truncate_35 ?_
          refine wq_goto (pc := 36) (tgt := 53) dX7_truncate_36 (by decide) ?_
          refine wq_putIK (pc := 53) (kk := 25) dX7_truncate_53 hs (gf_X7_127 _ rfl) rfl rfl rfl rfl rfl ?_
          refine wq_aload_n (pc := 56) dX7_truncate_56 rfl rfl ?_
          refine wq_getIK (pc := 57) (kk := 25) dX7_truncate_57 hs (gf_X7_127 _ rfl) rfl rfl rfl rfl ?_
          rw [wr_s]
          refine wq_if_le (pc := 60) (tgt := 65) dX7_truncate_60 (by decide) (by first | (unfold inR; omega) | assumption) (fun c35 => ?_) (fun c35 => ?_)
          · skip
            refine wq_sub1 (L' := [(0, _), (1, _), (2, _)]) ⟨rfl, rfl, rfl, trivial⟩ ?_
            first
              | (exfalso; omega)
              | exact cut1 _ (CM_25 C4) (FrM_t F4b (FrM_w (by omega))) (wr_s _ _ _ _) (by omega) hfil9 (by omega) (by rw [if_neg (by decide)] at hrm; exact hrm)
          · skip
            refine wq_iconst (pc := 63) dX7_truncate_63 ?_
            refine wq_iret (pc := 64) dX7_truncate_64 rfl ?_
            first
              | (unfold actData1 at h
                 rw [if_neg (by rw [hr6]; decide)] at h
                 obtain ⟨-, -, -, -, y6, -⟩ := id P6
                 exact h _ _ (CM_put hs P6 (fun _ => ⟨by rw [wr_n _ _ (by omega)]; exact h22, fun n n0 n1 => ⟨bump_wr (V := aD A) (fun n n0 n1 => (h39 n n0 n1).1) n n0 n1, by rw [wr_n _ _ (by omega)]; exact (h39 n n0 n1).2⟩⟩) (fun z => absurd z (by rw [hr6]; decide))) (FrM_t F5 (FrM_t (FrM_w (by omega)) (FrM_P y6))) (anM_v (by rw [y6 21 25 (by omega) (by omega), wr_n _ _ (by omega)]; exact t5)))
              | (unfold actData1 at h
                 rw [if_pos hr6] at h
                 obtain ⟨-, -, -, -, y6, -⟩ := id P6
                 exact h _ _ (CM_put hs P6 (fun z => absurd z (by rw [hr6]; decide)) (fun _ => (D.2 hr6).1)) (FrM_t F5 (FrM_t (FrM_w (by omega)) (FrM_P y6))) (anM_v (by rw [y6 21 25 (by omega) (by omega), wr_n _ _ (by omega)]; exact t5)))
              | (exfalso; omega)
              | (rw [pI_on (by omega), pI_0 (fun z => z hfil9), pI_0 (fun z => z (by omega)), pI_1 (by rw [if_neg (by decide)] at hrm; exact hrm)] at h
                 exact h _ _ (CM_25 C4) (FrM_t F4b (FrM_w (by omega))) (anM_x 2 rfl (wr_s _ _ _ _)))
              | (rw [pI_on (by omega), pI_0 (fun z => z hfil9), pI_1 (show ¬ (0 ≤ z ∧ z ≤ 64) by omega)] at h
                 exact h _ _ (CM_25 C2) (FrM_t F2 (FrM_w (by omega))) (anM_x 1 rfl (wr_s _ _ _ _)))
              | (rw [pI_on (by omega), pI_1 hfil9] at h
                 exact h _ _ (CM_25 C2) (FrM_t F2 (FrM_w (by omega))) (anM_x 0 rfl (wr_s _ _ _ _)))
              | (rw [pI_1 (show dk A by show fD (aF A) = 1; omega)] at h
                 exact h _ _ (CM_25 hC) (FrM_w (by omega)) (anM_x 2 rfl (wr_s _ _ _ _)))
      · skip
        refine wq_iconst (pc := 21) dX7_truncate_21 ?_
        refine wq_goto (pc := 22) (tgt := 53) dX7_truncate_22 (by decide) ?_
        refine wq_putIK (pc := 53) (kk := 25) dX7_truncate_53 hs (gf_X7_127 _ rfl) rfl rfl rfl rfl rfl ?_
        refine wq_aload_n (pc := 56) dX7_truncate_56 rfl rfl ?_
        refine wq_getIK (pc := 57) (kk := 25) dX7_truncate_57 hs (gf_X7_127 _ rfl) rfl rfl rfl rfl ?_
        rw [wr_s]
        refine wq_if_le (pc := 60) (tgt := 65) dX7_truncate_60 (by decide) (by first | (unfold inR; omega) | assumption) (fun c36 => ?_) (fun c36 => ?_)
        · skip
          refine wq_sub1 (L' := [(0, _), (1, _), (2, _)]) ⟨rfl, rfl, rfl, trivial⟩ ?_
          first
            | (exfalso; omega)
            | exact cut1 _ (CM_25 C4) (FrM_t F4b (FrM_w (by omega))) (wr_s _ _ _ _) (by omega) hfil9 (by omega) (by rw [if_neg (by decide)] at hrm; exact hrm)
        · skip
          refine wq_iconst (pc := 63) dX7_truncate_63 ?_
          refine wq_iret (pc := 64) dX7_truncate_64 rfl ?_
          first
            | (unfold actData1 at h
               rw [if_neg (by rw [hr6]; decide)] at h
               obtain ⟨-, -, -, -, y6, -⟩ := id P6
               exact h _ _ (CM_put hs P6 (fun _ => ⟨by rw [wr_n _ _ (by omega)]; exact h22, fun n n0 n1 => ⟨bump_wr (V := aD A) (fun n n0 n1 => (h39 n n0 n1).1) n n0 n1, by rw [wr_n _ _ (by omega)]; exact (h39 n n0 n1).2⟩⟩) (fun z => absurd z (by rw [hr6]; decide))) (FrM_t F5 (FrM_t (FrM_w (by omega)) (FrM_P y6))) (anM_v (by rw [y6 21 25 (by omega) (by omega), wr_n _ _ (by omega)]; exact t5)))
            | (unfold actData1 at h
               rw [if_pos hr6] at h
               obtain ⟨-, -, -, -, y6, -⟩ := id P6
               exact h _ _ (CM_put hs P6 (fun z => absurd z (by rw [hr6]; decide)) (fun _ => (D.2 hr6).1)) (FrM_t F5 (FrM_t (FrM_w (by omega)) (FrM_P y6))) (anM_v (by rw [y6 21 25 (by omega) (by omega), wr_n _ _ (by omega)]; exact t5)))
            | (exfalso; omega)
            | (rw [pI_on (by omega), pI_0 (fun z => z hfil9), pI_0 (fun z => z (by omega)), pI_1 (by rw [if_neg (by decide)] at hrm; exact hrm)] at h
               exact h _ _ (CM_25 C4) (FrM_t F4b (FrM_w (by omega))) (anM_x 2 rfl (wr_s _ _ _ _)))
            | (rw [pI_on (by omega), pI_0 (fun z => z hfil9), pI_1 (show ¬ (0 ≤ z ∧ z ≤ 64) by omega)] at h
               exact h _ _ (CM_25 C2) (FrM_t F2 (FrM_w (by omega))) (anM_x 1 rfl (wr_s _ _ _ _)))
            | (rw [pI_on (by omega), pI_1 hfil9] at h
               exact h _ _ (CM_25 C2) (FrM_t F2 (FrM_w (by omega))) (anM_x 0 rfl (wr_s _ _ _ _)))
            | (rw [pI_1 (show dk A by show fD (aF A) = 1; omega)] at h
               exact h _ _ (CM_25 hC) (FrM_w (by omega)) (anM_x 2 rfl (wr_s _ _ _ _)))
  · skip
    refine wq_iconst (pc := 8) dX7_truncate_8 ?_
    refine wq_goto (pc := 9) (tgt := 53) dX7_truncate_9 (by decide) ?_
    refine wq_putIK (pc := 53) (kk := 25) dX7_truncate_53 hs (gf_X7_127 _ rfl) rfl rfl rfl rfl rfl ?_
    refine wq_aload_n (pc := 56) dX7_truncate_56 rfl rfl ?_
    refine wq_getIK (pc := 57) (kk := 25) dX7_truncate_57 hs (gf_X7_127 _ rfl) rfl rfl rfl rfl ?_
    rw [wr_s]
    refine wq_if_le (pc := 60) (tgt := 65) dX7_truncate_60 (by decide) (by first | (unfold inR; omega) | assumption) (fun c37 => ?_) (fun c37 => ?_)
    · skip
      refine wq_sub1 (L' := [(0, _), (1, _), (2, _)]) ⟨rfl, rfl, rfl, trivial⟩ ?_
      first
        | (exfalso; omega)
        | exact cut1 _ (CM_25 C4) (FrM_t F4b (FrM_w (by omega))) (wr_s _ _ _ _) (by omega) hfil9 (by omega) (by rw [if_neg (by decide)] at hrm; exact hrm)
    · skip
      refine wq_iconst (pc := 63) dX7_truncate_63 ?_
      refine wq_iret (pc := 64) dX7_truncate_64 rfl ?_
      first
        | (unfold actData1 at h
           rw [if_neg (by rw [hr6]; decide)] at h
           obtain ⟨-, -, -, -, y6, -⟩ := id P6
           exact h _ _ (CM_put hs P6 (fun _ => ⟨by rw [wr_n _ _ (by omega)]; exact h22, fun n n0 n1 => ⟨bump_wr (V := aD A) (fun n n0 n1 => (h39 n n0 n1).1) n n0 n1, by rw [wr_n _ _ (by omega)]; exact (h39 n n0 n1).2⟩⟩) (fun z => absurd z (by rw [hr6]; decide))) (FrM_t F5 (FrM_t (FrM_w (by omega)) (FrM_P y6))) (anM_v (by rw [y6 21 25 (by omega) (by omega), wr_n _ _ (by omega)]; exact t5)))
        | (unfold actData1 at h
           rw [if_pos hr6] at h
           obtain ⟨-, -, -, -, y6, -⟩ := id P6
           exact h _ _ (CM_put hs P6 (fun z => absurd z (by rw [hr6]; decide)) (fun _ => (D.2 hr6).1)) (FrM_t F5 (FrM_t (FrM_w (by omega)) (FrM_P y6))) (anM_v (by rw [y6 21 25 (by omega) (by omega), wr_n _ _ (by omega)]; exact t5)))
        | (exfalso; omega)
        | (rw [pI_on (by omega), pI_0 (fun z => z hfil9), pI_0 (fun z => z (by omega)), pI_1 (by rw [if_neg (by decide)] at hrm; exact hrm)] at h
           exact h _ _ (CM_25 C4) (FrM_t F4b (FrM_w (by omega))) (anM_x 2 rfl (wr_s _ _ _ _)))
        | (rw [pI_on (by omega), pI_0 (fun z => z hfil9), pI_1 (show ¬ (0 ≤ z ∧ z ≤ 64) by omega)] at h
           exact h _ _ (CM_25 C2) (FrM_t F2 (FrM_w (by omega))) (anM_x 1 rfl (wr_s _ _ _ _)))
        | (rw [pI_on (by omega), pI_1 hfil9] at h
           exact h _ _ (CM_25 C2) (FrM_t F2 (FrM_w (by omega))) (anM_x 0 rfl (wr_s _ _ _ _)))
        | (rw [pI_1 (show dk A by show fD (aF A) = 1; omega)] at h
           exact h _ _ (CM_25 hC) (FrM_w (by omega)) (anM_x 2 rfl (wr_s _ _ _ _)))
