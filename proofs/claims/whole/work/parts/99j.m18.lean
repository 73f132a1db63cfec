theorem sp_X7_makeDirectory {μ : nMem} {ε : nEnv} {Q : nOut → nMem → nEnv → Prop} {A : AS} {nb vb d nm : Int} (hC : CM A μ ε) (hO : AOK A nb vb) (hnb : nb + 1 ≤ 2000) (hvb : vb + 2 ≤ 4000) (r1 : inR d) (r2 : inR nm) (h : ∀ m v, CM (actMkdir A d nm).2 m ε → FrM μ m → anM (actMkdir A d nm).1 [xI, xA, xS] v m → Q (.inl (some (vI v))) m ε) : Sp mX7_makeDirectory [vR 21, vI d, vI nm] μ ε Q := by
  refine Sp_of (L := [(0, vR 21), (1, vI d), (2, vI nm)]) (by decide) rfl rfl (Nat.le_of_ble_eq_true rfl) ?_
  have hs := hC.1.1
  unfold actMkdir at h
  have cut1 : ∀ (m : nMem), (CM A m ε) → (FrM μ m) → (m 21 25 = 0) → (fD (aF A) = 0) → (isDr A d) → (nmR nm) → (TG (aF A) d nm = 0) → (rmA A [3] 1) → wp mX7_makeDirectory 46 [(0, vR 21), (1, vI d), (2, vI nm)] [] m ε Q := by
    intro m e0 e1 e2 e3 e4 e5 e6 e7
    obtain ⟨fl0, S0, hP0, hT0⟩ := hO.2.2 e3
    have hdb := isDr_b hP0 e4
    obtain ⟨hG, h22, h39⟩ := e0.2.2 e3
    have hx := hP0.2.2.2.2.2.2.2.1
    have hvr := hP0.2.2.2.2.2.2.2.2.1
    have hs := e0.1.1
    rw [pI_on e3, pI_0 (fun z => z e4), pI_0 (fun z => z e5), pI_0 (fun z => z e6), pI_0 (fun z => z e7)] at h
    refine wq_aload_n (pc := 46) dX7_makeDirectory_46 rfl rfl ?_
    refine wq_getIK (pc := 47) (kk := 22) dX7_makeDirectory_47 hs (gf_X7_124 _ rfl) rfl rfl rfl rfl ?_
    rw [h22]
    obtain ⟨gl, hgl, hP, hT, hxn, -⟩ := IP_fl hP0 hT0 (v := 1) (Or.inr rfl)
    have hva := hvr (aX A)
    have hvd := hvr d
    obtain ⟨⟨s1, hs1, hus⟩, hfr1⟩ := tr_fr (by omega) (by omega) e7
    have N := IP_name (nb := nb + 1) (A := A) (d := d) (nm := nm) (t := aX A) (nx' := aX A + 1) (IP_mono hP (by omega) (Int.le_refl vb)) (by omega) (by omega) (by omega) e5 (by omega) (by omega) hfr1 rfl
    rw [if_neg (show ¬ aX A = 0 by omega), hgl] at N
    have rx : inR (aX A) := by unfold inR; omega
    refine wq_istore_n (pc := 50) (L' := [(3, _), (0, _), (1, _), (2, _)]) dX7_makeDirectory_50 rfl rfl (by decide) ?_
    refine wq_aload_n (pc := 51) dX7_makeDirectory_51 rfl rfl ?_
    refine wq_dup (pc := 52) dX7_makeDirectory_52 rfl ?_
    refine wq_getIK (pc := 53) (kk := 22) dX7_makeDirectory_53 hs (gf_X7_124 _ rfl) rfl rfl rfl rfl ?_
    refine wq_iconst (pc := 56) dX7_makeDirectory_56 ?_
    rw [h22]
    refine wq_iadd (pc := 57) dX7_makeDirectory_57 ?_
    refine wq_putIK (pc := 58) (kk := 22) dX7_makeDirectory_58 hs (gf_X7_124 _ rfl) rfl rfl rfl rfl rfl ?_
    refine wq_aload_n (pc := 61) dX7_makeDirectory_61 rfl rfl ?_
    refine wq_iload_n (pc := 62) dX7_makeDirectory_62 rfl rfl ?_
    refine wq_iload_n (pc := 63) dX7_makeDirectory_63 rfl rfl ?_
    refine wq_iload_n (pc := 64) dX7_makeDirectory_64 rfl rfl ?_
    refine wq_iconst (pc := 65) dX7_makeDirectory_65 ?_
    refine cVK_4 (pc := 66) dX7_makeDirectory_66 hs (cw_X7_229 _ rfl) (by decide) rfl ⟨by decide, by decide⟩ (Nat.le_of_ble_eq_true rfl) (sp_X7_writeName (F := aF A) (g := aG A) (v0 := aN A d) (WM_w (CM_WM e0 e3) (Or.inl ⟨rfl, rfl⟩)) hP.2.1 hP.2.2.2.1 (by omega) (by omega) (by rw [wr_n _ _ (by omega)]; exact (h39 d (by omega) (by omega)).2) (nmSrc_ok (by omega) (by omega) e5 (by omega) (Or.inr rfl) (fun z => by omega)) hfr1 (fun hr5 m5 P5 => ?_) (fun hr5 m5 P5 => ?_))
    · skip
      refine kr_s ?_
      have hr5b := hr5
      refine wq_if_eq (pc := 69) (tgt := 76) dX7_makeDirectory_69 (by decide) (by first | (unfold inR; omega) | assumption) (fun _ => ?_) (fun c => absurd c (by decide))
      refine wq_bipush (pc := 76) dX7_makeDirectory_76 (by decide) (by decide) ?_
      refine wq_iret (pc := 78) dX7_makeDirectory_78 rfl ?_
      first
        | (rw [if_neg (by rw [hr5]; decide)] at h
           obtain ⟨-, -, -, -, y5, -⟩ := id P5
           refine h _ _ (CM_put hs P5 (fun _ => ⟨?_, fun n n0 n1 => ⟨?_, ?_⟩⟩) (fun z => absurd z (by rw [hr5]; decide))) (FrM_t e1 (FrM_t (FrM_w (by omega)) (FrM_t (FrM_w (by omega)) (FrM_P y5)))) (anM_v ?_)
           · rw [wr_n _ _ (by omega), wr_s]
           · rw [wr_n _ _ (by omega), wr_n _ _ (by omega)]; exact (h39 n n0 n1).1
           · exact bump_wr (V := aN A) (fun n n0 n1 => by rw [wr_n _ _ (by omega)]; exact (h39 n n0 n1).2) n n0 n1
           · rw [y5 21 25 (by omega) (by omega), wr_n _ _ (by omega), wr_n _ _ (by omega)]; exact e2)
        | (rw [if_pos hr5] at h
           obtain ⟨-, -, -, -, y5, -⟩ := id P5
           refine h _ _ (CM_put hs P5 (fun z => absurd z (by rw [hr5]; decide)) (fun _ => (N.2 hr5).1)) (FrM_t e1 (FrM_t (FrM_w (by omega)) (FrM_t (FrM_w (by omega)) (FrM_P y5)))) (anM_v ?_)
           rw [y5 21 25 (by omega) (by omega), wr_n _ _ (by omega), wr_n _ _ (by omega)]; exact e2)
        | (exfalso; omega)
        | (obtain ⟨a9, ea, an⟩ := rfN_an (X := _) (v := 0) t1
           rw [ea] at h
           exact h _ _ C1 F1 an)
        | (rw [pI_on hd, pI_0 (fun z => z hdir), pI_0 (fun z => z hnm), pI_1 (show TG (aF A) d nm ≠ 0 by omega)] at h
           exact h _ _ (CM_25 C2) (FrM_t F2 (FrM_w (by omega))) (anM_x 2 rfl (wr_s _ _ _ _)))
        | (rw [pI_on hd, pI_0 (fun z => z hdir), pI_0 (fun z => z hnm), pI_0 (fun z => z (by omega)), pI_1 (by rw [if_neg (by decide)] at hrm; exact hrm)] at h
           exact h _ _ (CM_25 C3) (FrM_t F3b (FrM_w (by omega))) (anM_x 2 rfl (wr_s _ _ _ _)))
    · skip
      refine kr_s ?_
      have hr5b := hr5
      refine wq_if_eq (pc := 69) (tgt := 76) dX7_makeDirectory_69 (by decide) (by first | (unfold inR; omega) | assumption) (fun c => absurd c (by decide)) (fun _ => ?_)
      refine wq_iload_n (pc := 72) dX7_makeDirectory_72 rfl rfl ?_
      refine wq_goto (pc := 73) (tgt := 78) dX7_makeDirectory_73 (by decide) ?_
      refine wq_iret (pc := 78) dX7_makeDirectory_78 rfl ?_
      first
        | (rw [if_neg (by rw [hr5]; decide)] at h
           obtain ⟨-, -, -, -, y5, -⟩ := id P5
           refine h _ _ (CM_put hs P5 (fun _ => ⟨?_, fun n n0 n1 => ⟨?_, ?_⟩⟩) (fun z => absurd z (by rw [hr5]; decide))) (FrM_t e1 (FrM_t (FrM_w (by omega)) (FrM_t (FrM_w (by omega)) (FrM_P y5)))) (anM_v ?_)
           · rw [wr_n _ _ (by omega), wr_s]
           · rw [wr_n _ _ (by omega), wr_n _ _ (by omega)]; exact (h39 n n0 n1).1
           · exact bump_wr (V := aN A) (fun n n0 n1 => by rw [wr_n _ _ (by omega)]; exact (h39 n n0 n1).2) n n0 n1
           · rw [y5 21 25 (by omega) (by omega), wr_n _ _ (by omega), wr_n _ _ (by omega)]; exact e2)
        | (rw [if_pos hr5] at h
           obtain ⟨-, -, -, -, y5, -⟩ := id P5
           refine h _ _ (CM_put hs P5 (fun z => absurd z (by rw [hr5]; decide)) (fun _ => (N.2 hr5).1)) (FrM_t e1 (FrM_t (FrM_w (by omega)) (FrM_t (FrM_w (by omega)) (FrM_P y5)))) (anM_v ?_)
           rw [y5 21 25 (by omega) (by omega), wr_n _ _ (by omega), wr_n _ _ (by omega)]; exact e2)
        | (exfalso; omega)
        | (obtain ⟨a9, ea, an⟩ := rfN_an (X := _) (v := 0) t1
           rw [ea] at h
           exact h _ _ C1 F1 an)
        | (rw [pI_on hd, pI_0 (fun z => z hdir), pI_0 (fun z => z hnm), pI_1 (show TG (aF A) d nm ≠ 0 by omega)] at h
           exact h _ _ (CM_25 C2) (FrM_t F2 (FrM_w (by omega))) (anM_x 2 rfl (wr_s _ _ _ _)))
        | (rw [pI_on hd, pI_0 (fun z => z hdir), pI_0 (fun z => z hnm), pI_0 (fun z => z (by omega)), pI_1 (by rw [if_neg (by decide)] at hrm; exact hrm)] at h
           exact h _ _ (CM_25 C3) (FrM_t F3b (FrM_w (by omega))) (anM_x 2 rfl (wr_s _ _ _ _)))
  refine wq_aload_n (pc := 0) dX7_makeDirectory_0 rfl rfl ?_
  refine wq_iload_n (pc := 1) dX7_makeDirectory_1 rfl rfl ?_
  refine wq_iload_n (pc := 2) dX7_makeDirectory_2 rfl rfl ?_
  refine cVK_2 (pc := 3) dX7_makeDirectory_3 hs (cw_X7_219 _ rfl) (by decide) rfl ⟨by decide, by decide⟩ (Nat.le_of_ble_eq_true rfl) (sp_X7_canName hC hO r1 r2 (fun hd hdir hnm m1 C1 F1 t1 => ?_) (fun m1 C1 F1 t1 => ?_))
  · skip
    refine kr_s ?_
    have hnm9 := hnm
    have hPL := (hO.2.2 hd)
    refine wq_if_eq (pc := 6) (tgt := 37) dX7_makeDirectory_6 (by decide) (by first | (unfold inR; omega) | assumption) (fun c => absurd c (by decide)) (fun _ => ?_)
    refine wq_aload_n (pc := 9) dX7_makeDirectory_9 rfl rfl ?_
    refine wq_aload_n (pc := 10) dX7_makeDirectory_10 rfl rfl ?_
    refine wq_iload_n (pc := 11) dX7_makeDirectory_11 rfl rfl ?_
    refine wq_iload_n (pc := 12) dX7_makeDirectory_12 rfl rfl ?_
    refine cVK_2 (pc := 13) dX7_makeDirectory_13 hs (cw_X7_171 _ rfl) (by decide) rfl ⟨by decide, by decide⟩ (Nat.le_of_ble_eq_true rfl) (sp_X7_entry C1.1 (AOK_KP hO) hdir hnm (fun m2 v K2 Y2 ev => ?_))
    refine kr_s ?_
    have C2 := CM_Y C1 K2.1 Y2
    have F2 := FrM_t F1 (FrM_Y Y2)
    have t2 : m2 21 25 = m1 21 25 := Y2 21 25 (by omega) (by omega)
    have rv : inR v := by unfold inR; omega
    obtain ⟨fl0, S0, hP0, hT0⟩ := hO.2.2 hd
    refine wq_iconst (pc := 16) dX7_makeDirectory_16 ?_
    refine wq_icmp_ne (pc := 17) (tgt := 29) dX7_makeDirectory_17 (by decide) (by first | (unfold inR; omega) | assumption) (by first | (unfold inR; omega) | assumption) (fun c10 => ?_) (fun c10 => ?_)
    · skip
      refine wq_iconst (pc := 29) dX7_makeDirectory_29 ?_
      refine wq_goto (pc := 30) (tgt := 34) dX7_makeDirectory_30 (by decide) ?_
      refine wq_putIK (pc := 34) (kk := 25) dX7_makeDirectory_34 hs (gf_X7_127 _ rfl) rfl rfl rfl rfl rfl ?_
      refine wq_aload_n (pc := 37) dX7_makeDirectory_37 rfl rfl ?_
      refine wq_getIK (pc := 38) (kk := 25) dX7_makeDirectory_38 hs (gf_X7_127 _ rfl) rfl rfl rfl rfl ?_
      try rw [wr_s]
      refine wq_if_le (pc := 41) (tgt := 46) dX7_makeDirectory_41 (by decide) (by first | (unfold inR; omega) | assumption) (fun c11 => ?_) (fun c11 => ?_)
      · skip
        refine wq_sub1 (L' := [(0, _), (1, _), (2, _)]) ⟨rfl, rfl, rfl, trivial⟩ ?_
        first
          | (exfalso; omega)
          | exact cut1 _ (CM_25 C3) (FrM_t F3b (FrM_w (by omega))) (wr_s _ _ _ _) hd hdir hnm (by omega) (by rw [if_neg (by decide)] at hrm; exact hrm)
      · skip
        refine wq_iconst (pc := 44) dX7_makeDirectory_44 ?_
        refine wq_iret (pc := 45) dX7_makeDirectory_45 rfl ?_
        first
          | (rw [if_neg (by rw [hr5]; decide)] at h
             obtain ⟨-, -, -, -, y5, -⟩ := id P5
             refine h _ _ (CM_put hs P5 (fun _ => ⟨?_, fun n n0 n1 => ⟨?_, ?_⟩⟩) (fun z => absurd z (by rw [hr5]; decide))) (FrM_t e1 (FrM_t (FrM_w (by omega)) (FrM_t (FrM_w (by omega)) (FrM_P y5)))) (anM_v ?_)
             · rw [wr_n _ _ (by omega), wr_s]
             · rw [wr_n _ _ (by omega), wr_n _ _ (by omega)]; exact (h39 n n0 n1).1
             · exact bump_wr (V := aN A) (fun n n0 n1 => by rw [wr_n _ _ (by omega)]; exact (h39 n n0 n1).2) n n0 n1
             · rw [y5 21 25 (by omega) (by omega), wr_n _ _ (by omega), wr_n _ _ (by omega)]; exact e2)
          | (rw [if_pos hr5] at h
             obtain ⟨-, -, -, -, y5, -⟩ := id P5
             refine h _ _ (CM_put hs P5 (fun z => absurd z (by rw [hr5]; decide)) (fun _ => (N.2 hr5).1)) (FrM_t e1 (FrM_t (FrM_w (by omega)) (FrM_t (FrM_w (by omega)) (FrM_P y5)))) (anM_v ?_)
             rw [y5 21 25 (by omega) (by omega), wr_n _ _ (by omega), wr_n _ _ (by omega)]; exact e2)
          | (exfalso; omega)
          | (obtain ⟨a9, ea, an⟩ := rfN_an (X := _) (v := 0) t1
             rw [ea] at h
             exact h _ _ C1 F1 an)
          | (rw [pI_on hd, pI_0 (fun z => z hdir), pI_0 (fun z => z hnm), pI_1 (show TG (aF A) d nm ≠ 0 by omega)] at h
             exact h _ _ (CM_25 C2) (FrM_t F2 (FrM_w (by omega))) (anM_x 2 rfl (wr_s _ _ _ _)))
          | (rw [pI_on hd, pI_0 (fun z => z hdir), pI_0 (fun z => z hnm), pI_0 (fun z => z (by omega)), pI_1 (by rw [if_neg (by decide)] at hrm; exact hrm)] at h
             exact h _ _ (CM_25 C3) (FrM_t F3b (FrM_w (by omega))) (anM_x 2 rfl (wr_s _ _ _ _)))
    · skip
      refine wq_aload_n (pc := 20) dX7_makeDirectory_20 rfl rfl ?_
      refine wq_iconst (pc := 21) dX7_makeDirectory_21 ?_
      refine wq_iconst (pc := 22) dX7_makeDirectory_22 ?_
      refine cVK_2 (pc := 23) dX7_makeDirectory_23 hs (cw_X7_222 _ rfl) (by decide) rfl ⟨by decide, by decide⟩ (Nat.le_of_ble_eq_true rfl) (sp_X7_canWrite C2 hd hP0.2.2.2.1 (by omega) (by omega) (fun hrm m3 C3 F3 t3 => ?_) (fun hrm m3 C3 F3 t3 => ?_))
      · skip
        refine kr_s ?_
        have hrm9 := hrm
        have F3b := FrM_t F2 F3
        refine wq_if_ne (pc := 26) (tgt := 33) dX7_makeDirectory_26 (by decide) (by first | (unfold inR; omega) | assumption) (fun _ => ?_) (fun c => absurd c (by decide))
        refine wq_iconst (pc := 33) dX7_makeDirectory_33 ?_
        refine wq_putIK (pc := 34) (kk := 25) dX7_makeDirectory_34 hs (gf_X7_127 _ rfl) rfl rfl rfl rfl rfl ?_
        refine wq_aload_n (pc := 37) dX7_makeDirectory_37 rfl rfl ?_
        refine wq_getIK (pc := 38) (kk := 25) dX7_makeDirectory_38 hs (gf_X7_127 _ rfl) rfl rfl rfl rfl ?_
        try rw [wr_s]
        refine wq_if_le (pc := 41) (tgt := 46) dX7_makeDirectory_41 (by decide) (by first | (unfold inR; omega) | assumption) (fun c15 => ?_) (fun c15 => ?_)
        · skip
          refine wq_sub1 (L' := [(0, _), (1, _), (2, _)]) ⟨rfl, rfl, rfl, trivial⟩ ?_
          first
            | (exfalso; omega)
            | exact cut1 _ (CM_25 C3) (FrM_t F3b (FrM_w (by omega))) (wr_s _ _ _ _) hd hdir hnm (by omega) (by rw [if_neg (by decide)] at hrm; exact hrm)
        · skip
          refine wq_iconst (pc := 44) dX7_makeDirectory_44 ?_
          refine wq_iret (pc := 45) dX7_makeDirectory_45 rfl ?_
          first
            | (rw [if_neg (by rw [hr5]; decide)] at h
               obtain ⟨-, -, -, -, y5, -⟩ := id P5
               refine h _ _ (CM_put hs P5 (fun _ => ⟨?_, fun n n0 n1 => ⟨?_, ?_⟩⟩) (fun z => absurd z (by rw [hr5]; decide))) (FrM_t e1 (FrM_t (FrM_w (by omega)) (FrM_t (FrM_w (by omega)) (FrM_P y5)))) (anM_v ?_)
               · rw [wr_n _ _ (by omega), wr_s]
               · rw [wr_n _ _ (by omega), wr_n _ _ (by omega)]; exact (h39 n n0 n1).1
               · exact bump_wr (V := aN A) (fun n n0 n1 => by rw [wr_n _ _ (by omega)]; exact (h39 n n0 n1).2) n n0 n1
               · rw [y5 21 25 (by omega) (by omega), wr_n _ _ (by omega), wr_n _ _ (by omega)]; exact e2)
            | (rw [if_pos hr5] at h
               obtain ⟨-, -, -, -, y5, -⟩ := id P5
               refine h _ _ (CM_put hs P5 (fun z => absurd z (by rw [hr5]; decide)) (fun _ => (N.2 hr5).1)) (FrM_t e1 (FrM_t (FrM_w (by omega)) (FrM_t (FrM_w (by omega)) (FrM_P y5)))) (anM_v ?_)
               rw [y5 21 25 (by omega) (by omega), wr_n _ _ (by omega), wr_n _ _ (by omega)]; exact e2)
            | (exfalso; omega)
            | (obtain ⟨a9, ea, an⟩ := rfN_an (X := _) (v := 0) t1
               rw [ea] at h
               exact h _ _ C1 F1 an)
            | (rw [pI_on hd, pI_0 (fun z => z hdir), pI_0 (fun z => z hnm), pI_1 (show TG (aF A) d nm ≠ 0 by omega)] at h
               exact h _ _ (CM_25 C2) (FrM_t F2 (FrM_w (by omega))) (anM_x 2 rfl (wr_s _ _ _ _)))
            | (rw [pI_on hd, pI_0 (fun z => z hdir), pI_0 (fun z => z hnm), pI_0 (fun z => z (by omega)), pI_1 (by rw [if_neg (by decide)] at hrm; exact hrm)] at h
               exact h _ _ (CM_25 C3) (FrM_t F3b (FrM_w (by omega))) (anM_x 2 rfl (wr_s _ _ _ _)))
      · skip
        refine kr_s ?_
        have hrm9 := hrm
        have F3b := FrM_t F2 F3
        refine wq_if_ne (pc := 26) (tgt := 33) dX7_makeDirectory_26 (by decide) (by first | (unfold inR; omega) | assumption) (fun c => absurd c (by decide)) (fun _ => ?_)
        refine wq_iconst (pc := 29) dX7_makeDirectory_29 ?_
        refine wq_goto (pc := 30) (tgt := 34) dX7_makeDirectory_30 (by decide) ?_
        refine wq_putIK (pc := 34) (kk := 25) dX7_makeDirectory_34 hs (gf_X7_127 _ rfl) rfl rfl rfl rfl rfl ?_
        refine wq_aload_n (pc := 37) dX7_makeDirectory_37 rfl rfl ?_
        refine wq_getIK (pc := 38) (kk := 25) dX7_makeDirectory_38 hs (gf_X7_127 _ rfl) rfl rfl rfl rfl ?_
        try rw [wr_s]
        refine wq_if_le (pc := 41) (tgt := 46) dX7_makeDirectory_41 (by decide) (by first | (unfold inR; omega) | assumption) (fun c17 => ?_) (fun c17 => ?_)
        · skip
          refine wq_sub1 (L' := [(0, _), (1, _), (2, _)]) ⟨rfl, rfl, rfl, trivial⟩ ?_
          first
            | (exfalso; omega)
            | exact cut1 _ (CM_25 C3) (FrM_t F3b (FrM_w (by omega))) (wr_s _ _ _ _) hd hdir hnm (by omega) (by rw [if_neg (by decide)] at hrm; exact hrm)
        · skip
          refine wq_iconst (pc := 44) dX7_makeDirectory_44 ?_
          refine wq_iret (pc := 45) dX7_makeDirectory_45 rfl ?_
          first
            | (rw [if_neg (by rw [hr5]; decide)] at h
               obtain ⟨-, -, -, -, y5, -⟩ := id P5
               refine h _ _ (CM_put hs P5 (fun _ => ⟨?_, fun n n0 n1 => ⟨?_, ?_⟩⟩) (fun z => absurd z (by rw [hr5]; decide))) (FrM_t e1 (FrM_t (FrM_w (by omega)) (FrM_t (FrM_w (by omega)) (FrM_P y5)))) (anM_v ?_)
               · rw [wr_n _ _ (by omega), wr_s]
               · rw [wr_n _ _ (by omega), wr_n _ _ (by omega)]; exact (h39 n n0 n1).1
               · exact bump_wr (V := aN A) (fun n n0 n1 => by rw [wr_n _ _ (by omega)]; exact (h39 n n0 n1).2) n n0 n1
               · rw [y5 21 25 (by omega) (by omega), wr_n _ _ (by omega), wr_n _ _ (by omega)]; exact e2)
            | (rw [if_pos hr5] at h
               obtain ⟨-, -, -, -, y5, -⟩ := id P5
               refine h _ _ (CM_put hs P5 (fun z => absurd z (by rw [hr5]; decide)) (fun _ => (N.2 hr5).1)) (FrM_t e1 (FrM_t (FrM_w (by omega)) (FrM_t (FrM_w (by omega)) (FrM_P y5)))) (anM_v ?_)
               rw [y5 21 25 (by omega) (by omega), wr_n _ _ (by omega), wr_n _ _ (by omega)]; exact e2)
            | (exfalso; omega)
            | (obtain ⟨a9, ea, an⟩ := rfN_an (X := _) (v := 0) t1
               rw [ea] at h
               exact h _ _ C1 F1 an)
            | (rw [pI_on hd, pI_0 (fun z => z hdir), pI_0 (fun z => z hnm), pI_1 (show TG (aF A) d nm ≠ 0 by omega)] at h
               exact h _ _ (CM_25 C2) (FrM_t F2 (FrM_w (by omega))) (anM_x 2 rfl (wr_s _ _ _ _)))
            | (rw [pI_on hd, pI_0 (fun z => z hdir), pI_0 (fun z => z hnm), pI_0 (fun z => z (by omega)), pI_1 (by rw [if_neg (by decide)] at hrm; exact hrm)] at h
               exact h _ _ (CM_25 C3) (FrM_t F3b (FrM_w (by omega))) (anM_x 2 rfl (wr_s _ _ _ _)))
  · skip
    refine kr_s ?_
    have ht1 := rfN_r (A := A) (d := d) (nm := nm) t1
    have r25 : inR (m1 21 25) := by unfold inR; omega
    refine wq_if_eq (pc := 6) (tgt := 37) dX7_makeDirectory_6 (by decide) (by first | (unfold inR; omega) | assumption) (fun _ => ?_) (fun c => absurd c (by decide))
    refine wq_aload_n (pc := 37) dX7_makeDirectory_37 rfl rfl ?_
    refine wq_getIK (pc := 38) (kk := 25) dX7_makeDirectory_38 hs (gf_X7_127 _ rfl) rfl rfl rfl rfl ?_
    try rw [wr_s]
    refine wq_if_le (pc := 41) (tgt := 46) dX7_makeDirectory_41 (by decide) (by first | (unfold inR; omega) | assumption) (fun c19 => ?_) (fun c19 => ?_)
    · skip
      refine wq_sub1 (L' := [(0, _), (1, _), (2, _)]) ⟨rfl, rfl, rfl, trivial⟩ ?_
      first
        | (exfalso; omega)
        | exact cut1 _ (CM_25 C3) (FrM_t F3b (FrM_w (by omega))) (wr_s _ _ _ _) hd hdir hnm (by omega) (by rw [if_neg (by decide)] at hrm; exact hrm)
    · skip
      refine wq_iconst (pc := 44) dX7_makeDirectory_44 ?_
      refine wq_iret (pc := 45) dX7_makeDirectory_45 rfl ?_
      first
        | (rw [if_neg (by rw [hr5]; decide)] at h
           obtain ⟨-, -, -, -, y5, -⟩ := id P5
           refine h _ _ (CM_put hs P5 (fun _ => ⟨?_, fun n n0 n1 => ⟨?_, ?_⟩⟩) (fun z => absurd z (by rw [hr5]; decide))) (FrM_t e1 (FrM_t (FrM_w (by omega)) (FrM_t (FrM_w (by omega)) (FrM_P y5)))) (anM_v ?_)
           · rw [wr_n _ _ (by omega), wr_s]
           · rw [wr_n _ _ (by omega), wr_n _ _ (by omega)]; exact (h39 n n0 n1).1
           · exact bump_wr (V := aN A) (fun n n0 n1 => by rw [wr_n _ _ (by omega)]; exact (h39 n n0 n1).2) n n0 n1
           · rw [y5 21 25 (by omega) (by omega), wr_n _ _ (by omega), wr_n _ _ (by omega)]; exact e2)
        | (rw [if_pos hr5] at h
           obtain ⟨-, -, -, -, y5, -⟩ := id P5
           refine h _ _ (CM_put hs P5 (fun z => absurd z (by rw [hr5]; decide)) (fun _ => (N.2 hr5).1)) (FrM_t e1 (FrM_t (FrM_w (by omega)) (FrM_t (FrM_w (by omega)) (FrM_P y5)))) (anM_v ?_)
           rw [y5 21 25 (by omega) (by omega), wr_n _ _ (by omega), wr_n _ _ (by omega)]; exact e2)
        | (exfalso; omega)
        | (obtain ⟨a9, ea, an⟩ := rfN_an (X := _) (v := 0) t1
           rw [ea] at h
           exact h _ _ C1 F1 an)
        | (rw [pI_on hd, pI_0 (fun z => z hdir), pI_0 (fun z => z hnm), pI_1 (show TG (aF A) d nm ≠ 0 by omega)] at h
           exact h _ _ (CM_25 C2) (FrM_t F2 (FrM_w (by omega))) (anM_x 2 rfl (wr_s _ _ _ _)))
        | (rw [pI_on hd, pI_0 (fun z => z hdir), pI_0 (fun z => z hnm), pI_0 (fun z => z (by omega)), pI_1 (by rw [if_neg (by decide)] at hrm; exact hrm)] at h
           exact h _ _ (CM_25 C3) (FrM_t F3b (FrM_w (by omega))) (anM_x 2 rfl (wr_s _ _ _ _)))
theorem sp_X7_link {μ : nMem} {ε : nEnv} {Q : nOut → nMem → nEnv → Prop} {A : AS} {nb vb d nm f : Int} (hC : CM A μ ε) (hO : AOK A nb vb) (hnb : nb + 1 ≤ 2000) (hvb : vb + 2 ≤ 4000) (hO2 : AOK (actLink A d nm f).2 (nb + 1) (vb + 2)) (r1 : inR d) (r2 : inR nm) (r3 : inR f) (h : ∀ m v, CM (actLink A d nm f).2 m ε → FrM μ m → anM (actLink A d nm f).1 [xI, xA, xS] v m → Q (.inl (some (vI v))) m ε) : Sp mX7_link [vR 21, vI d, vI nm, vI f] μ ε Q := by
  refine Sp_of (L := [(0, vR 21), (1, vI d), (2, vI nm), (3, vI f)]) (by decide) rfl rfl (Nat.le_of_ble_eq_true rfl) ?_
  have hs := hC.1.1
  have q21 := hC.2.1.2
  have hD := hO.2.1
  have r21 : inR (μ 21 21) := by unfold inR; omega
  unfold actLink at h hO2
  have cut1 : ∀ (m : nMem), (CM A m ε) → (FrM μ m) → (m 21 25 = 0) → (fD (aF A) = 0) → (isDr A d) → (isFl A f) → (nmR nm) → (TG (aF A) d nm = 0) → (rmA A [3] 1) → wp mX7_link 92 [(0, vR 21), (1, vI d), (2, vI nm), (3, vI f)] [] m ε Q := by
    intro m e0 e1 e2 e3 e4 e5 e6 e7 e8
    obtain ⟨fl, S0, hP, hT0⟩ := hO.2.2 e3
    have hdb := isDr_b hP e4
    have hfb := isFl_b hP e5
    obtain ⟨hG, h22, h39⟩ := e0.2.2 e3
    have hx := hP.2.2.2.2.2.2.2.1
    have hvr := hP.2.2.2.2.2.2.2.2.1
    have hs := e0.1.1
    have hvd := hvr d
    rw [pI_on e3, pI_0 (fun z => z e4), pI_0 (fun z => z e5), pI_0 (fun z => z e6), pI_0 (fun z => z e7), pI_0 (fun z => z e8)] at h hO2
    have hfl0 : fl f = 0 := ((isFl_iff hP hT0 f).mp e5).2 ▸ (hT0.2.1 f ((isFl_iff hP hT0 f).mp e5).1).symm
    obtain ⟨⟨s1, hs1, hus⟩, hfr1⟩ := tr_fr (by omega) (by omega) e8
    have N := IP_name (nb := nb + 1) (A := A) (d := d) (nm := nm) (t := f) (nx' := aX A) (IP_mono hP (by omega) (Int.le_refl vb)) (by omega) (by omega) (by omega) e6 (by omega) (by omega) hfr1 rfl
    rw [if_neg (show ¬ f = 0 by omega), hfl0] at N
    refine wq_aload_n (pc := 92) dX7_link_92 rfl rfl ?_
    refine wq_iload_n (pc := 93) dX7_link_93 rfl rfl ?_
    refine wq_iload_n (pc := 94) dX7_link_94 rfl rfl ?_
    refine wq_iload_n (pc := 95) dX7_link_95 rfl rfl ?_
    refine wq_iconst (pc := 96) dX7_link_96 ?_
    refine cVK_4 (pc := 97) dX7_link_97 hs (cw_X7_229 _ rfl) (by decide) rfl ⟨by decide, by decide⟩ (Nat.le_of_ble_eq_true rfl) (sp_X7_writeName (F := aF A) (g := aG A) (v0 := aN A d) (CM_WM e0 e3) hP.2.1 hP.2.2.2.1 (by omega) (by omega) (h39 d (by omega) (by omega)).2 (nmSrc_ok (by omega) (by omega) e6 (by omega) (Or.inl rfl) (fun z => by omega)) hfr1 (fun hr5 m5 P5 => ?_) (fun hr5 m5 P5 => ?_))
    · skip
      refine kr_s ?_
      have hr5b := hr5
      refine wq_if_eq (pc := 100) (tgt := 111) dX7_link_100 (by decide) (by first | (unfold inR; omega) | assumption) (fun _ => ?_) (fun c => absurd c (by decide))
      refine wq_bipush (pc := 111) dX7_link_111 (by decide) (by decide) ?_
      refine wq_iret (pc := 113) dX7_link_113 rfl ?_
      first
        | (exfalso; omega)
        | exact h _ _ (CM_Y C5 K6.1 Y6) (FrM_t F5 (FrM_Y Y6)) (anM_v t6)
        | (unfold actLink1 at h
           rw [if_pos hr5] at h
           obtain ⟨-, -, -, -, y5, -⟩ := id P5
           exact h _ _ (CM_put hs P5 (fun z => absurd z (by rw [hr5]; decide)) (fun _ => (N.2 hr5).1)) (FrM_t e1 (FrM_t (FrM_w (by omega)) (FrM_P y5))) (anM_v (by rw [y5 21 25 (by omega) (by omega), wr_n _ _ (by omega)]; exact e2)))
        | (rw [pI_1 (show TG (aF A) d nm ≠ 0 by omega)] at h
           exact h _ _ (CM_25 C3) (FrM_t F3 (FrM_w (by omega))) (anM_x 2 rfl (wr_s _ _ _ _)))
        | (rw [pI_0 (fun z => z (by omega)), pI_1 (by rw [if_neg (by decide)] at hrm; exact hrm)] at h
           exact h _ _ (CM_25 C4) (FrM_t F4b (FrM_w (by omega))) (anM_x 2 rfl (wr_s _ _ _ _)))
        | (rw [pI_on (by omega), pI_0 (fun z => z hdir9), pI_0 (fun z => z hfil9), pI_1 hnm9] at h
           exact h _ _ (CM_25 C2) (FrM_t F2 (FrM_w (by omega))) (anM_x 1 rfl (wr_s _ _ _ _)))
        | (rw [pI_on (by omega), pI_0 (fun z => z hdir9), pI_1 hfil9] at h
           exact h _ _ (CM_25 C2) (FrM_t F2 (FrM_w (by omega))) (anM_x 0 rfl (wr_s _ _ _ _)))
        | (rw [pI_on (by omega), pI_1 hdir9] at h
           exact h _ _ (CM_25 C1) (FrM_t F1 (FrM_w (by omega))) (anM_x 0 rfl (wr_s _ _ _ _)))
        | (rw [pI_1 (show dk A by show fD (aF A) = 1; omega)] at h
           exact h _ _ (CM_25 hC) (FrM_w (by omega)) (anM_x 2 rfl (wr_s _ _ _ _)))
    · skip
      refine kr_s ?_
      unfold actLink1 at h hO2
      rw [if_neg (by rw [hr5]; decide)] at h hO2
      obtain ⟨-, -, -, -, y5, -⟩ := id P5
      have C5 : CM (afterN A d (lPut (aF A) (aG A) (nmSrc d (aN A d + 1) nm f 0))) m5 ε := CM_put hs P5 (fun _ => ⟨by rw [wr_n _ _ (by omega)]; exact h22, fun n n0 n1 => ⟨by rw [wr_n _ _ (by omega)]; exact (h39 n n0 n1).1, bump_wr (V := aN A) (fun n n0 n1 => (h39 n n0 n1).2) n n0 n1⟩⟩) (fun z => absurd z (by rw [hr5]; decide))
      have F5 : FrM μ m5 := FrM_t e1 (FrM_t (FrM_w (by omega)) (FrM_P y5))
      have t5 : m5 21 25 = 0 := by rw [y5 21 25 (by omega) (by omega), wr_n _ _ (by omega)]; exact e2
      refine wq_if_eq (pc := 100) (tgt := 111) dX7_link_100 (by decide) (by first | (unfold inR; omega) | assumption) (fun c => absurd c (by decide)) (fun _ => ?_)
      refine wq_aload_n (pc := 103) dX7_link_103 rfl rfl ?_
      refine wq_iload_n (pc := 104) dX7_link_104 rfl rfl ?_
      refine cVK_1 (pc := 105) dX7_link_105 hs (cw_X7_237 _ rfl) (by decide) rfl ⟨by decide, by decide⟩ (Nat.le_of_ble_eq_true rfl) (sp_X7_linksOf C5.1 (AOK_KP hO2) (by omega) (by unfold inR; omega) (fun m6 K6 Y6 => ?_))
      refine kr_s ?_
      have t6 : m6 21 25 = 0 := by rw [Y6 21 25 (by omega) (by omega)]; exact t5
      refine wq_goto (pc := 108) (tgt := 113) dX7_link_108 (by decide) ?_
      refine wq_iret (pc := 113) dX7_link_113 rfl ?_
      first
        | (exfalso; omega)
        | exact h _ _ (CM_Y C5 K6.1 Y6) (FrM_t F5 (FrM_Y Y6)) (anM_v t6)
        | (unfold actLink1 at h
           rw [if_pos hr5] at h
           obtain ⟨-, -, -, -, y5, -⟩ := id P5
           exact h _ _ (CM_put hs P5 (fun z => absurd z (by rw [hr5]; decide)) (fun _ => (N.2 hr5).1)) (FrM_t e1 (FrM_t (FrM_w (by omega)) (FrM_P y5))) (anM_v (by rw [y5 21 25 (by omega) (by omega), wr_n _ _ (by omega)]; exact e2)))
        | (rw [pI_1 (show TG (aF A) d nm ≠ 0 by omega)] at h
           exact h _ _ (CM_25 C3) (FrM_t F3 (FrM_w (by omega))) (anM_x 2 rfl (wr_s _ _ _ _)))
        | (rw [pI_0 (fun z => z (by omega)), pI_1 (by rw [if_neg (by decide)] at hrm; exact hrm)] at h
           exact h _ _ (CM_25 C4) (FrM_t F4b (FrM_w (by omega))) (anM_x 2 rfl (wr_s _ _ _ _)))
        | (rw [pI_on (by omega), pI_0 (fun z => z hdir9), pI_0 (fun z => z hfil9), pI_1 hnm9] at h
           exact h _ _ (CM_25 C2) (FrM_t F2 (FrM_w (by omega))) (anM_x 1 rfl (wr_s _ _ _ _)))
        | (rw [pI_on (by omega), pI_0 (fun z => z hdir9), pI_1 hfil9] at h
           exact h _ _ (CM_25 C2) (FrM_t F2 (FrM_w (by omega))) (anM_x 0 rfl (wr_s _ _ _ _)))
        | (rw [pI_on (by omega), pI_1 hdir9] at h
           exact h _ _ (CM_25 C1) (FrM_t F1 (FrM_w (by omega))) (anM_x 0 rfl (wr_s _ _ _ _)))
        | (rw [pI_1 (show dk A by show fD (aF A) = 1; omega)] at h
           exact h _ _ (CM_25 hC) (FrM_w (by omega)) (anM_x 2 rfl (wr_s _ _ _ _)))
  have cut7 : ∀ (m : nMem), (CM A m ε) → (FrM μ m) → (m 21 25 = 0) → (fD (aF A) = 0) → (isDr A d) → (isFl A f) → (nmR nm) → wp mX7_link 55 [(0, vR 21), (1, vI d), (2, vI nm), (3, vI f)] [] m ε Q := by
    intro m e0 e1 e2 e3 e4 e5 e6
    rw [pI_on e3, pI_0 (fun z => z e4), pI_0 (fun z => z e5), pI_0 (fun z => z e6)] at h
    refine wq_aload_n (pc := 55) dX7_link_55 rfl rfl ?_
    refine wq_aload_n (pc := 56) dX7_link_56 rfl rfl ?_
    refine wq_iload_n (pc := 57) dX7_link_57 rfl rfl ?_
    refine wq_iload_n (pc := 58) dX7_link_58 rfl rfl ?_
    refine cVK_2 (pc := 59) dX7_link_59 hs (cw_X7_171 _ rfl) (by decide) rfl ⟨by decide, by decide⟩ (Nat.le_of_ble_eq_true rfl) (sp_X7_entry e0.1 (AOK_KP hO) e4 e6 (fun m3 v K3 Y3 ev => ?_))
    refine kr_s ?_
    have C3 := CM_Y e0 K3.1 Y3
    have F3 := FrM_t e1 (FrM_Y Y3)
    have rv : inR v := by unfold inR; omega
    obtain ⟨fl0, S0, hP0, hT0⟩ := hO.2.2 e3
    refine wq_iconst (pc := 62) dX7_link_62 ?_
    refine wq_icmp_ne (pc := 63) (tgt := 75) dX7_link_63 (by decide) (by first | (unfold inR; omega) | assumption) (by first | (unfold inR; omega) | assumption) (fun c9 => ?_) (fun c9 => ?_)
    · skip
      refine wq_iconst (pc := 75) dX7_link_75 ?_
      refine wq_goto (pc := 76) (tgt := 80) dX7_link_76 (by decide) ?_
      refine wq_putIK (pc := 80) (kk := 25) dX7_link_80 hs (gf_X7_127 _ rfl) rfl rfl rfl rfl rfl ?_
      refine wq_aload_n (pc := 83) dX7_link_83 rfl rfl ?_
      refine wq_getIK (pc := 84) (kk := 25) dX7_link_84 hs (gf_X7_127 _ rfl) rfl rfl rfl rfl ?_
      try rw [wr_s]
      refine wq_if_le (pc := 87) (tgt := 92) dX7_link_87 (by decide) (by first | (unfold inR; omega) | assumption) (fun c10 => ?_) (fun c10 => ?_)
      · skip
        refine wq_sub1 (L' := [(0, _), (1, _), (2, _), (3, _)]) ⟨rfl, rfl, rfl, rfl, trivial⟩ ?_
        first
          | (exfalso; omega)
          | exact cut1 _ (CM_25 C4) (FrM_t F4b (FrM_w (by omega))) (wr_s _ _ _ _) e3 e4 e5 e6 (by omega) (by rw [if_neg (by decide)] at hrm; exact hrm)
      · skip
        refine wq_iconst (pc := 90) dX7_link_90 ?_
        refine wq_iret (pc := 91) dX7_link_91 rfl ?_
        first
          | (exfalso; omega)
          | exact h _ _ (CM_Y C5 K6.1 Y6) (FrM_t F5 (FrM_Y Y6)) (anM_v t6)
          | (unfold actLink1 at h
             rw [if_pos hr5] at h
             obtain ⟨-, -, -, -, y5, -⟩ := id P5
             exact h _ _ (CM_put hs P5 (fun z => absurd z (by rw [hr5]; decide)) (fun _ => (N.2 hr5).1)) (FrM_t e1 (FrM_t (FrM_w (by omega)) (FrM_P y5))) (anM_v (by rw [y5 21 25 (by omega) (by omega), wr_n _ _ (by omega)]; exact e2)))
          | (rw [pI_1 (show TG (aF A) d nm ≠ 0 by omega)] at h
             exact h _ _ (CM_25 C3) (FrM_t F3 (FrM_w (by omega))) (anM_x 2 rfl (wr_s _ _ _ _)))
          | (rw [pI_0 (fun z => z (by omega)), pI_1 (by rw [if_neg (by decide)] at hrm; exact hrm)] at h
             exact h _ _ (CM_25 C4) (FrM_t F4b (FrM_w (by omega))) (anM_x 2 rfl (wr_s _ _ _ _)))
          | (rw [pI_on (by omega), pI_0 (fun z => z hdir9), pI_0 (fun z => z hfil9), pI_1 hnm9] at h
             exact h _ _ (CM_25 C2) (FrM_t F2 (FrM_w (by omega))) (anM_x 1 rfl (wr_s _ _ _ _)))
          | (rw [pI_on (by omega), pI_0 (fun z => z hdir9), pI_1 hfil9] at h
             exact h _ _ (CM_25 C2) (FrM_t F2 (FrM_w (by omega))) (anM_x 0 rfl (wr_s _ _ _ _)))
          | (rw [pI_on (by omega), pI_1 hdir9] at h
             exact h _ _ (CM_25 C1) (FrM_t F1 (FrM_w (by omega))) (anM_x 0 rfl (wr_s _ _ _ _)))
          | (rw [pI_1 (show dk A by show fD (aF A) = 1; omega)] at h
             exact h _ _ (CM_25 hC) (FrM_w (by omega)) (anM_x 2 rfl (wr_s _ _ _ _)))
    · skip
      refine wq_aload_n (pc := 66) dX7_link_66 rfl rfl ?_
      refine wq_iconst (pc := 67) dX7_link_67 ?_
      refine wq_iconst (pc := 68) dX7_link_68 ?_
      refine cVK_2 (pc := 69) dX7_link_69 hs (cw_X7_222 _ rfl) (by decide) rfl ⟨by decide, by decide⟩ (Nat.le_of_ble_eq_true rfl) (sp_X7_canWrite C3 e3 hP0.2.2.2.1 (by omega) (by omega) (fun hrm m4 C4 F4 t4 => ?_) (fun hrm m4 C4 F4 t4 => ?_))
      · skip
        refine kr_s ?_
        have hrm9 := hrm
        have F4b := FrM_t F3 F4
        refine wq_if_ne (pc := 72) (tgt := 79) dX7_link_72 (by decide) (by first | (unfold inR; omega) | assumption) (fun _ => ?_) (fun c => absurd c (by decide))
        refine wq_iconst (pc := 79) dX7_link_79 ?_
        refine wq_putIK (pc := 80) (kk := 25) dX7_link_80 hs (gf_X7_127 _ rfl) rfl rfl rfl rfl rfl ?_
        refine wq_aload_n (pc := 83) dX7_link_83 rfl rfl ?_
        refine wq_getIK (pc := 84) (kk := 25) dX7_link_84 hs (gf_X7_127 _ rfl) rfl rfl rfl rfl ?_
        try rw [wr_s]
        refine wq_if_le (pc := 87) (tgt := 92) dX7_link_87 (by decide) (by first | (unfold inR; omega) | assumption) (fun c14 => ?_) (fun c14 => ?_)
        · skip
          refine wq_sub1 (L' := [(0, _), (1, _), (2, _), (3, _)]) ⟨rfl, rfl, rfl, rfl, trivial⟩ ?_
          first
            | (exfalso; omega)
            | exact cut1 _ (CM_25 C4) (FrM_t F4b (FrM_w (by omega))) (wr_s _ _ _ _) e3 e4 e5 e6 (by omega) (by rw [if_neg (by decide)] at hrm; exact hrm)
        · skip
          refine wq_iconst (pc := 90) dX7_link_90 ?_
          refine wq_iret (pc := 91) dX7_link_91 rfl ?_
          first
            | (exfalso; omega)
            | exact h _ _ (CM_Y C5 K6.1 Y6) (FrM_t F5 (FrM_Y Y6)) (anM_v t6)
            | (unfold actLink1 at h
               rw [if_pos hr5] at h
               obtain ⟨-, -, -, -, y5, -⟩ := id P5
               exact h _ _ (CM_put hs P5 (fun z => absurd z (by rw [hr5]; decide)) (fun _ => (N.2 hr5).1)) (FrM_t e1 (FrM_t (FrM_w (by omega)) (FrM_P y5))) (anM_v (by rw [y5 21 25 (by omega) (by omega), wr_n _ _ (by omega)]; exact e2)))
            | (rw [pI_1 (show TG (aF A) d nm ≠ 0 by omega)] at h
               exact h _ _ (CM_25 C3) (FrM_t F3 (FrM_w (by omega))) (anM_x 2 rfl (wr_s _ _ _ _)))
            | (rw [pI_0 (fun z => z (by omega)), pI_1 (by rw [if_neg (by decide)] at hrm; exact hrm)] at h
               exact h _ _ (CM_25 C4) (FrM_t F4b (FrM_w (by omega))) (anM_x 2 rfl (wr_s _ _ _ _)))
            | (rw [pI_on (by omega), pI_0 (fun z => z hdir9), pI_0 (fun z => z hfil9), pI_1 hnm9] at h
               exact h _ _ (CM_25 C2) (FrM_t F2 (FrM_w (by omega))) (anM_x 1 rfl (wr_s _ _ _ _)))
            | (rw [pI_on (by omega), pI_0 (fun z => z hdir9), pI_1 hfil9] at h
               exact h _ _ (CM_25 C2) (FrM_t F2 (FrM_w (by omega))) (anM_x 0 rfl (wr_s _ _ _ _)))
            | (rw [pI_on (by omega), pI_1 hdir9] at h
               exact h _ _ (CM_25 C1) (FrM_t F1 (FrM_w (by omega))) (anM_x 0 rfl (wr_s _ _ _ _)))
            | (rw [pI_1 (show dk A by show fD (aF A) = 1; omega)] at h
               exact h _ _ (CM_25 hC) (FrM_w (by omega)) (anM_x 2 rfl (wr_s _ _ _ _)))
      · skip
        refine kr_s ?_
        have hrm9 := hrm
        have F4b := FrM_t F3 F4
        refine wq_if_ne (pc := 72) (tgt := 79) dX7_link_72 (by decide) (by first | (unfold inR; omega) | assumption) (fun c => absurd c (by decide)) (fun _ => ?_)
        refine wq_iconst (pc := 75) dX7_link_75 ?_
        refine wq_goto (pc := 76) (tgt := 80) dX7_link_76 (by decide) ?_
        refine wq_putIK (pc := 80) (kk := 25) dX7_link_80 hs (gf_X7_127 _ rfl) rfl rfl rfl rfl rfl ?_
        refine wq_aload_n (pc := 83) dX7_link_83 rfl rfl ?_
        refine wq_getIK (pc := 84) (kk := 25) dX7_link_84 hs (gf_X7_127 _ rfl) rfl rfl rfl rfl ?_
        try rw [wr_s]
        refine wq_if_le (pc := 87) (tgt := 92) dX7_link_87 (by decide) (by first | (unfold inR; omega) | assumption) (fun c16 => ?_) (fun c16 => ?_)
        · skip
          refine wq_sub1 (L' := [(0, _), (1, _), (2, _), (3, _)]) ⟨rfl, rfl, rfl, rfl, trivial⟩ ?_
          first
            | (exfalso; omega)
            | exact cut1 _ (CM_25 C4) (FrM_t F4b (FrM_w (by omega))) (wr_s _ _ _ _) e3 e4 e5 e6 (by omega) (by rw [if_neg (by decide)] at hrm; exact hrm)
        · skip
          refine wq_iconst (pc := 90) dX7_link_90 ?_
          refine wq_iret (pc := 91) dX7_link_91 rfl ?_
          first
            | (exfalso; omega)
            | exact h _ _ (CM_Y C5 K6.1 Y6) (FrM_t F5 (FrM_Y Y6)) (anM_v t6)
            | (unfold actLink1 at h
               rw [if_pos hr5] at h
               obtain ⟨-, -, -, -, y5, -⟩ := id P5
               exact h _ _ (CM_put hs P5 (fun z => absurd z (by rw [hr5]; decide)) (fun _ => (N.2 hr5).1)) (FrM_t e1 (FrM_t (FrM_w (by omega)) (FrM_P y5))) (anM_v (by rw [y5 21 25 (by omega) (by omega), wr_n _ _ (by omega)]; exact e2)))
            | (rw [pI_1 (show TG (aF A) d nm ≠ 0 by omega)] at h
               exact h _ _ (CM_25 C3) (FrM_t F3 (FrM_w (by omega))) (anM_x 2 rfl (wr_s _ _ _ _)))
            | (rw [pI_0 (fun z => z (by omega)), pI_1 (by rw [if_neg (by decide)] at hrm; exact hrm)] at h
               exact h _ _ (CM_25 C4) (FrM_t F4b (FrM_w (by omega))) (anM_x 2 rfl (wr_s _ _ _ _)))
            | (rw [pI_on (by omega), pI_0 (fun z => z hdir9), pI_0 (fun z => z hfil9), pI_1 hnm9] at h
               exact h _ _ (CM_25 C2) (FrM_t F2 (FrM_w (by omega))) (anM_x 1 rfl (wr_s _ _ _ _)))
            | (rw [pI_on (by omega), pI_0 (fun z => z hdir9), pI_1 hfil9] at h
               exact h _ _ (CM_25 C2) (FrM_t F2 (FrM_w (by omega))) (anM_x 0 rfl (wr_s _ _ _ _)))
            | (rw [pI_on (by omega), pI_1 hdir9] at h
               exact h _ _ (CM_25 C1) (FrM_t F1 (FrM_w (by omega))) (anM_x 0 rfl (wr_s _ _ _ _)))
            | (rw [pI_1 (show dk A by show fD (aF A) = 1; omega)] at h
               exact h _ _ (CM_25 hC) (FrM_w (by omega)) (anM_x 2 rfl (wr_s _ _ _ _)))
  refine wq_aload_n (pc := 0) dX7_link_0 rfl rfl ?_
  refine wq_aload_n (pc := 1) dX7_link_1 rfl rfl ?_
  refine wq_getIK (pc := 2) (kk := 21) dX7_link_2 hs (gf_X7_174 _ rfl) rfl rfl rfl rfl ?_
  refine wq_if_eq (pc := 5) (tgt := 12) dX7_link_5 (by decide) (by first | (unfold inR; omega) | assumption) (fun c17 => ?_) (fun c17 => ?_)
  · skip
    refine wq_aload_n (pc := 12) dX7_link_12 rfl rfl ?_
    refine wq_iload_n (pc := 13) dX7_link_13 rfl rfl ?_
    refine cVK_1 (pc := 14) dX7_link_14 hs (cw_X7_213 _ rfl) (by decide) rfl ⟨by decide, by decide⟩ (Nat.le_of_ble_eq_true rfl) (sp_X7_hasDirectory hC.1 (AOK_KP hO) r1 (fun hdir m1 K1 Y1 => ?_) (fun hdir m1 K1 Y1 => ?_))
    · skip
      refine kr_s ?_
      have hdir9 := hdir
      have C1 := CM_Y hC K1.1 Y1
      have F1 := FrM_Y Y1
      refine wq_if_eq (pc := 17) (tgt := 29) dX7_link_17 (by decide) (by first | (unfold inR; omega) | assumption) (fun c => absurd c (by decide)) (fun _ => ?_)
      refine wq_aload_n (pc := 20) dX7_link_20 rfl rfl ?_
      refine wq_iload_n (pc := 21) dX7_link_21 rfl rfl ?_
      refine cVK_1 (pc := 22) dX7_link_22 hs (cw_X7_233 _ rfl) (by decide) rfl ⟨by decide, by decide⟩ (Nat.le_of_ble_eq_true rfl) (sp_X7_fileAt C1.1 (AOK_KP hO) r3 (fun hfil m2 a K2 Y2 a0 a1 q46 co => ?_) (fun hfil m2 K2 Y2 => ?_))
      · skip
        refine kr_s ?_
        have hfil9 := hfil
        have ra : inR a := by unfold inR; omega
        have C2 := CM_Y C1 K2.1 Y2
        have F2 := FrM_t F1 (FrM_Y Y2)
        refine wq_iconst (pc := 25) dX7_link_25 ?_
        refine wq_icmp_ne (pc := 26) (tgt := 33) dX7_link_26 (by decide) (by first | (unfold inR; omega) | assumption) (by first | (unfold inR; omega) | assumption) (fun c23 => ?_) (fun c23 => ?_)
        · skip
          refine wq_iload_n (pc := 33) dX7_link_33 rfl rfl ?_
          refine cS_1 (pc := 34) dX7_link_34 (cw_X7_216 _ rfl) ⟨by decide, by decide⟩ (Nat.le_of_ble_eq_true rfl) (sp_X7_isName r2 (fun hnm => ?_) (fun hnm => ?_))
          · skip
            refine kr_s ?_
            have hnm9 := hnm
            refine wq_if_ne (pc := 37) (tgt := 44) dX7_link_37 (by decide) (by first | (unfold inR; omega) | assumption) (fun _ => ?_) (fun c => absurd c (by decide))
            refine wq_iconst (pc := 44) dX7_link_44 ?_
            refine wq_putIK (pc := 45) (kk := 25) dX7_link_45 hs (gf_X7_127 _ rfl) rfl rfl rfl rfl rfl ?_
            refine wq_aload_n (pc := 48) dX7_link_48 rfl rfl ?_
            refine wq_getIK (pc := 49) (kk := 25) dX7_link_49 hs (gf_X7_127 _ rfl) rfl rfl rfl rfl ?_
            try rw [wr_s]
            refine wq_if_ne (pc := 52) (tgt := 83) dX7_link_52 (by decide) (by first | (unfold inR; omega) | assumption) (fun c27 => ?_) (fun c27 => ?_)
            · skip
              refine wq_aload_n (pc := 83) dX7_link_83 rfl rfl ?_
              refine wq_getIK (pc := 84) (kk := 25) dX7_link_84 hs (gf_X7_127 _ rfl) rfl rfl rfl rfl ?_
              try rw [wr_s]
              refine wq_if_le (pc := 87) (tgt := 92) dX7_link_87 (by decide) (by first | (unfold inR; omega) | assumption) (fun c28 => ?_) (fun c28 => ?_)
              · skip
                refine wq_sub1 (L' := [(0, _), (1, _), (2, _), (3, _)]) ⟨rfl, rfl, rfl, rfl, trivial⟩ ?_
                first
                  | (exfalso; omega)
                  | exact cut1 _ (CM_25 C4) (FrM_t F4b (FrM_w (by omega))) (wr_s _ _ _ _) e3 e4 e5 e6 (by omega) (by rw [if_neg (by decide)] at hrm; exact hrm)
              · skip
                refine wq_iconst (pc := 90) dX7_link_90 ?_
                refine wq_iret (pc := 91) dX7_link_91 rfl ?_
                first
                  | (exfalso; omega)
                  | exact h _ _ (CM_Y C5 K6.1 Y6) (FrM_t F5 (FrM_Y Y6)) (anM_v t6)
                  | (unfold actLink1 at h
                     rw [if_pos hr5] at h
                     obtain ⟨-, -, -, -, y5, -⟩ := id P5
                     exact h _ _ (CM_put hs P5 (fun z => absurd z (by rw [hr5]; decide)) (fun _ => (N.2 hr5).1)) (FrM_t e1 (FrM_t (FrM_w (by omega)) (FrM_P y5))) (anM_v (by rw [y5 21 25 (by omega) (by omega), wr_n _ _ (by omega)]; exact e2)))
                  | (rw [pI_1 (show TG (aF A) d nm ≠ 0 by omega)] at h
                     exact h _ _ (CM_25 C3) (FrM_t F3 (FrM_w (by omega))) (anM_x 2 rfl (wr_s _ _ _ _)))
                  | (rw [pI_0 (fun z => z (by omega)), pI_1 (by rw [if_neg (by decide)] at hrm; exact hrm)] at h
                     exact h _ _ (CM_25 C4) (FrM_t F4b (FrM_w (by omega))) (anM_x 2 rfl (wr_s _ _ _ _)))
                  | (rw [pI_on (by omega), pI_0 (fun z => z hdir9), pI_0 (fun z => z hfil9), pI_1 hnm9] at h
                     exact h _ _ (CM_25 C2) (FrM_t F2 (FrM_w (by omega))) (anM_x 1 rfl (wr_s _ _ _ _)))
                  | (rw [pI_on (by omega), pI_0 (fun z => z hdir9), pI_1 hfil9] at h
                     exact h _ _ (CM_25 C2) (FrM_t F2 (FrM_w (by omega))) (anM_x 0 rfl (wr_s _ _ _ _)))
                  | (rw [pI_on (by omega), pI_1 hdir9] at h
                     exact h _ _ (CM_25 C1) (FrM_t F1 (FrM_w (by omega))) (anM_x 0 rfl (wr_s _ _ _ _)))
                  | (rw [pI_1 (show dk A by show fD (aF A) = 1; omega)] at h
                     exact h _ _ (CM_25 hC) (FrM_w (by omega)) (anM_x 2 rfl (wr_s _ _ _ _)))
            · skip
              refine wq_sub1 (L' := [(0, _), (1, _), (2, _), (3, _)]) ⟨rfl, rfl, rfl, rfl, trivial⟩ ?_
              first
                | (exfalso; omega)
                | exact cut7 _ (CM_25 C2) (FrM_t F2 (FrM_w (by omega))) (wr_s _ _ _ _) (by omega) hdir9 hfil9 hnm9
          · skip
            refine kr_s ?_
            have hnm9 := hnm
            refine wq_if_ne (pc := 37) (tgt := 44) dX7_link_37 (by decide) (by first | (unfold inR; omega) | assumption) (fun c => absurd c (by decide)) (fun _ => ?_)
            refine wq_iconst (pc := 40) dX7_link_40 ?_
            refine wq_goto (pc := 41) (tgt := 45) dX7_link_41 (by decide) ?_
            refine wq_putIK (pc := 45) (kk := 25) dX7_link_45 hs (gf_X7_127 _ rfl) rfl rfl rfl rfl rfl ?_
            refine wq_aload_n (pc := 48) dX7_link_48 rfl rfl ?_
            refine wq_getIK (pc := 49) (kk := 25) dX7_link_49 hs (gf_X7_127 _ rfl) rfl rfl rfl rfl ?_
            try rw [wr_s]
            refine wq_if_ne (pc := 52) (tgt := 83) dX7_link_52 (by decide) (by first | (unfold inR; omega) | assumption) (fun c30 => ?_) (fun c30 => ?_)
            · skip
              refine wq_aload_n (pc := 83) dX7_link_83 rfl rfl ?_
              refine wq_getIK (pc := 84) (kk := 25) dX7_link_84 hs (gf_X7_127 _ rfl) rfl rfl rfl rfl ?_
              try rw [wr_s]
              refine wq_if_le (pc := 87) (tgt := 92) dX7_link_87 (by decide) (by first | (unfold inR; omega) | assumption) (fun c31 => ?_) (fun c31 => ?_)
              · skip
                refine wq_sub1 (L' := [(0, _), (1, _), (2, _), (3, _)]) ⟨rfl, rfl, rfl, rfl, trivial⟩ ?_
                first
                  | (exfalso; omega)
                  | exact cut1 _ (CM_25 C4) (FrM_t F4b (FrM_w (by omega))) (wr_s _ _ _ _) e3 e4 e5 e6 (by omega) (by rw [if_neg (by decide)] at hrm; exact hrm)
              · skip
                refine wq_iconst (pc := 90) dX7_link_90 ?_
                refine wq_iret (pc := 91) dX7_link_91 rfl ?_
                first
                  | (exfalso; omega)
                  | exact h _ _ (CM_Y C5 K6.1 Y6) (FrM_t F5 (FrM_Y Y6)) (anM_v t6)
                  | (unfold actLink1 at h
                     rw [if_pos hr5] at h
                     obtain ⟨-, -, -, -, y5, -⟩ := id P5
                     exact h _ _ (CM_put hs P5 (fun z => absurd z (by rw [hr5]; decide)) (fun _ => (N.2 hr5).1)) (FrM_t e1 (FrM_t (FrM_w (by omega)) (FrM_P y5))) (anM_v (by rw [y5 21 25 (by omega) (by omega), wr_n _ _ (by omega)]; exact e2)))
                  | (rw [pI_1 (show TG (aF A) d nm ≠ 0 by omega)] at h
                     exact h _ _ (CM_25 C3) (FrM_t F3 (FrM_w (by omega))) (anM_x 2 rfl (wr_s _ _ _ _)))
                  | (rw [pI_0 (fun z => z (by omega)), pI_1 (by rw [if_neg (by decide)] at hrm; exact hrm)] at h
                     exact h _ _ (CM_25 C4) (FrM_t F4b (FrM_w (by omega))) (anM_x 2 rfl (wr_s _ _ _ _)))
                  | (rw [pI_on (by omega), pI_0 (fun z => z hdir9), pI_0 (fun z => z hfil9), pI_1 hnm9] at h
                     exact h _ _ (CM_25 C2) (FrM_t F2 (FrM_w (by omega))) (anM_x 1 rfl (wr_s _ _ _ _)))
                  | (rw [pI_on (by omega), pI_0 (fun z => z hdir9), pI_1 hfil9] at h
                     exact h _ _ (CM_25 C2) (FrM_t F2 (FrM_w (by omega))) (anM_x 0 rfl (wr_s _ _ _ _)))
                  | (rw [pI_on (by omega), pI_1 hdir9] at h
                     exact h _ _ (CM_25 C1) (FrM_t F1 (FrM_w (by omega))) (anM_x 0 rfl (wr_s _ _ _ _)))
                  | (rw [pI_1 (show dk A by show fD (aF A) = 1; omega)] at h
                     exact h _ _ (CM_25 hC) (FrM_w (by omega)) (anM_x 2 rfl (wr_s _ _ _ _)))
            · skip
              refine wq_sub1 (L' := [(0, _), (1, _), (2, _), (3, _)]) ⟨rfl, rfl, rfl, rfl, trivial⟩ ?_
              first
                | (exfalso; omega)
                | exact cut7 _ (CM_25 C2) (FrM_t F2 (FrM_w (by omega))) (wr_s _ _ _ _) (by omega) hdir9 hfil9 hnm9
        · skip
          refine wq_iconst (pc := 29) dX7_link_29 ?_
          refine wq_goto (pc := 30) (tgt := 45) dX7_link_30 (by decide) ?_
          refine wq_putIK (pc := 45) (kk := 25) dX7_link_45 hs (gf_X7_127 _ rfl) rfl rfl rfl rfl rfl ?_
          refine wq_aload_n (pc := 48) dX7_link_48 rfl rfl ?_
          refine wq_getIK (pc := 49) (kk := 25) dX7_link_49 hs (gf_X7_127 _ rfl) rfl rfl rfl rfl ?_
          try rw [wr_s]
          refine wq_if_ne (pc := 52) (tgt := 83) dX7_link_52 (by decide) (by first | (unfold inR; omega) | assumption) (fun c32 => ?_) (fun c32 => ?_)
          · skip
            refine wq_aload_n (pc := 83) dX7_link_83 rfl rfl ?_
            refine wq_getIK (pc := 84) (kk := 25) dX7_link_84 hs (gf_X7_127 _ rfl) rfl rfl rfl rfl ?_
            try rw [wr_s]
            refine wq_if_le (pc := 87) (tgt := 92) dX7_link_87 (by decide) (by first | (unfold inR; omega) | assumption) (fun c33 => ?_) (fun c33 => ?_)
            · skip
              refine wq_sub1 (L' := [(0, _), (1, _), (2, _), (3, _)]) ⟨rfl, rfl, rfl, rfl, trivial⟩ ?_
              first
                | (exfalso; omega)
                | exact cut1 _ (CM_25 C4) (FrM_t F4b (FrM_w (by omega))) (wr_s _ _ _ _) e3 e4 e5 e6 (by omega) (by rw [if_neg (by decide)] at hrm; exact hrm)
            · skip
              refine wq_iconst (pc := 90) dX7_link_90 ?_
              refine wq_iret (pc := 91) dX7_link_91 rfl ?_
              first
                | (exfalso; omega)
                | exact h _ _ (CM_Y C5 K6.1 Y6) (FrM_t F5 (FrM_Y Y6)) (anM_v t6)
                | (unfold actLink1 at h
                   rw [if_pos hr5] at h
                   obtain ⟨-, -, -, -, y5, -⟩ := id P5
                   exact h _ _ (CM_put hs P5 (fun z => absurd z (by rw [hr5]; decide)) (fun _ => (N.2 hr5).1)) (FrM_t e1 (FrM_t (FrM_w (by omega)) (FrM_P y5))) (anM_v (by rw [y5 21 25 (by omega) (by omega), wr_n _ _ (by omega)]; exact e2)))
                | (rw [pI_1 (show TG (aF A) d nm ≠ 0 by omega)] at h
                   exact h _ _ (CM_25 C3) (FrM_t F3 (FrM_w (by omega))) (anM_x 2 rfl (wr_s _ _ _ _)))
                | (rw [pI_0 (fun z => z (by omega)), pI_1 (by rw [if_neg (by decide)] at hrm; exact hrm)] at h
                   exact h _ _ (CM_25 C4) (FrM_t F4b (FrM_w (by omega))) (anM_x 2 rfl (wr_s _ _ _ _)))
                | (rw [pI_on (by omega), pI_0 (fun z => z hdir9), pI_0 (fun z => z hfil9), pI_1 hnm9] at h
                   exact h _ _ (CM_25 C2) (FrM_t F2 (FrM_w (by omega))) (anM_x 1 rfl (wr_s _ _ _ _)))
                | (rw [pI_on (by omega), pI_0 (fun z => z hdir9), pI_1 hfil9] at h
                   exact h _ _ (CM_25 C2) (FrM_t F2 (FrM_w (by omega))) (anM_x 0 rfl (wr_s _ _ _ _)))
                | (rw [pI_on (by omega), pI_1 hdir9] at h
                   exact h _ _ (CM_25 C1) (FrM_t F1 (FrM_w (by omega))) (anM_x 0 rfl (wr_s _ _ _ _)))
                | (rw [pI_1 (show dk A by show fD (aF A) = 1; omega)] at h
                   exact h _ _ (CM_25 hC) (FrM_w (by omega)) (anM_x 2 rfl (wr_s _ _ _ _)))
          · skip
            refine wq_sub1 (L' := [(0, _), (1, _), (2, _), (3, _)]) ⟨rfl, rfl, rfl, rfl, trivial⟩ ?_
            first
              | (exfalso; omega)
              | exact cut7 _ (CM_25 C2) (FrM_t F2 (FrM_w (by omega))) (wr_s _ _ _ _) (by omega) hdir9 hfil9 hnm9
      · skip
        refine kr_s ?_
        have hfil9 := hfil
        have C2 := CM_Y C1 K2.1 Y2
        have F2 := FrM_t F1 (FrM_Y Y2)
        refine wq_iconst (pc := 25) dX7_link_25 ?_
        refine wq_icmp_ne (pc := 26) (tgt := 33) dX7_link_26 (by decide) (by first | (unfold inR; omega) | assumption) (by first | (unfold inR; omega) | assumption) (fun c34 => ?_) (fun c34 => ?_)
        · skip
          refine wq_iload_n (pc := 33) dX7_link_33 rfl rfl ?_
          refine cS_1 (pc := 34) dX7_link_34 (cw_X7_216 _ rfl) ⟨by decide, by decide⟩ (Nat.le_of_ble_eq_true rfl) (sp_X7_isName r2 (fun hnm => ?_) (fun hnm => ?_))
          · skip
            refine kr_s ?_
            have hnm9 := hnm
            refine wq_if_ne (pc := 37) (tgt := 44) dX7_link_37 (by decide) (by first | (unfold inR; omega) | assumption) (fun _ => ?_) (fun c => absurd c (by decide))
            refine wq_iconst (pc := 44) dX7_link_44 ?_
            refine wq_putIK (pc := 45) (kk := 25) dX7_link_45 hs (gf_X7_127 _ rfl) rfl rfl rfl rfl rfl ?_
            refine wq_aload_n (pc := 48) dX7_link_48 rfl rfl ?_
            refine wq_getIK (pc := 49) (kk := 25) dX7_link_49 hs (gf_X7_127 _ rfl) rfl rfl rfl rfl ?_
            try rw [wr_s]
            refine wq_if_ne (pc := 52) (tgt := 83) dX7_link_52 (by decide) (by first | (unfold inR; omega) | assumption) (fun c38 => ?_) (fun c38 => ?_)
            · skip
              refine wq_aload_n (pc := 83) dX7_link_83 rfl rfl ?_
              refine wq_getIK (pc := 84) (kk := 25) dX7_link_84 hs (gf_X7_127 _ rfl) rfl rfl rfl rfl ?_
              try rw [wr_s]
              refine wq_if_le (pc := 87) (tgt := 92) dX7_link_87 (by decide) (by first | (unfold inR; omega) | assumption) (fun c39 => ?_) (fun c39 => ?_)
              · skip
                refine wq_sub1 (L' := [(0, _), (1, _), (2, _), (3, _)]) ⟨rfl, rfl, rfl, rfl, trivial⟩ ?_
                first
                  | (exfalso; omega)
                  | exact cut1 _ (CM_25 C4) (FrM_t F4b (FrM_w (by omega))) (wr_s _ _ _ _) e3 e4 e5 e6 (by omega) (by rw [if_neg (by decide)] at hrm; exact hrm)
              · skip
                refine wq_iconst (pc := 90) dX7_link_90 ?_
                refine wq_iret (pc := 91) dX7_link_91 rfl ?_
                first
                  | (exfalso; omega)
                  | exact h _ _ (CM_Y C5 K6.1 Y6) (FrM_t F5 (FrM_Y Y6)) (anM_v t6)
                  | (unfold actLink1 at h
                     rw [if_pos hr5] at h
                     obtain ⟨-, -, -, -, y5, -⟩ := id P5
                     exact h _ _ (CM_put hs P5 (fun z => absurd z (by rw [hr5]; decide)) (fun _ => (N.2 hr5).1)) (FrM_t e1 (FrM_t (FrM_w (by omega)) (FrM_P y5))) (anM_v (by rw [y5 21 25 (by omega) (by omega), wr_n _ _ (by omega)]; exact e2)))
                  | (rw [pI_1 (show TG (aF A) d nm ≠ 0 by omega)] at h
                     exact h _ _ (CM_25 C3) (FrM_t F3 (FrM_w (by omega))) (anM_x 2 rfl (wr_s _ _ _ _)))
                  | (rw [pI_0 (fun z => z (by omega)), pI_1 (by rw [if_neg (by decide)] at hrm; exact hrm)] at h
                     exact h _ _ (CM_25 C4) (FrM_t F4b (FrM_w (by omega))) (anM_x 2 rfl (wr_s _ _ _ _)))
                  | (rw [pI_on (by omega), pI_0 (fun z => z hdir9), pI_0 (fun z => z hfil9), pI_1 hnm9] at h
                     exact h _ _ (CM_25 C2) (FrM_t F2 (FrM_w (by omega))) (anM_x 1 rfl (wr_s _ _ _ _)))
                  | (rw [pI_on (by omega), pI_0 (fun z => z hdir9), pI_1 hfil9] at h
                     exact h _ _ (CM_25 C2) (FrM_t F2 (FrM_w (by omega))) (anM_x 0 rfl (wr_s _ _ _ _)))
                  | (rw [pI_on (by omega), pI_1 hdir9] at h
                     exact h _ _ (CM_25 C1) (FrM_t F1 (FrM_w (by omega))) (anM_x 0 rfl (wr_s _ _ _ _)))
                  | (rw [pI_1 (show dk A by show fD (aF A) = 1; omega)] at h
                     exact h _ _ (CM_25 hC) (FrM_w (by omega)) (anM_x 2 rfl (wr_s _ _ _ _)))
            · skip
              refine wq_sub1 (L' := [(0, _), (1, _), (2, _), (3, _)]) ⟨rfl, rfl, rfl, rfl, trivial⟩ ?_
              first
                | (exfalso; omega)
                | exact cut7 _ (CM_25 C2) (FrM_t F2 (FrM_w (by omega))) (wr_s _ _ _ _) (by omega) hdir9 hfil9 hnm9
          · skip
            refine kr_s ?_
            have hnm9 := hnm
            refine wq_if_ne (pc := 37) (tgt := 44) dX7_link_37 (by decide) (by first | (unfold inR; omega) | assumption) (fun c => absurd c (by decide)) (fun _ => ?_)
            refine wq_iconst (pc := 40) dX7_link_40 ?_
            refine wq_goto (pc := 41) (tgt := 45) dX7_link_41 (by decide) ?_
            refine wq_putIK (pc := 45) (kk := 25) dX7_link_45 hs (gf_X7_127 _ rfl) rfl rfl rfl rfl rfl ?_
            refine wq_aload_n (pc := 48) dX7_link_48 rfl rfl ?_
            refine wq_getIK (pc := 49) (kk := 25) dX7_link_49 hs (gf_X7_127 _ rfl) rfl rfl rfl rfl ?_
            try rw [wr_s]
            refine wq_if_ne (pc := 52) (tgt := 83) dX7_link_52 (by decide) (by first | (unfold inR; omega) | assumption) (fun c41 => ?_) (fun c41 => ?_)
            · skip
              refine wq_aload_n (pc := 83) dX7_link_83 rfl rfl ?_
              refine wq_getIK (pc := 84) (kk := 25) dX7_link_84 hs (gf_X7_127 _ rfl) rfl rfl rfl rfl ?_
              try rw [wr_s]
              refine wq_if_le (pc := 87) (tgt := 92) dX7_link_87 (by decide) (by first | (unfold inR; omega) | assumption) (fun c42 => ?_) (fun c42 => ?_)
              · skip
                refine wq_sub1 (L' := [(0, _), (1, _), (2, _), (3, _)]) ⟨rfl, rfl, rfl, rfl, trivial⟩ ?_
                first
                  | (exfalso; omega)
                  | exact cut1 _ (CM_25 C4) (FrM_t F4b (FrM_w (by omega))) (wr_s _ _ _ _) e3 e4 e5 e6 (by omega) (by rw [if_neg (by decide)] at hrm; exact hrm)
              · skip
                refine wq_iconst (pc := 90) dX7_link_90 ?_
                refine wq_iret (pc := 91) dX7_link_91 rfl ?_
                first
                  | (exfalso; omega)
                  | exact h _ _ (CM_Y C5 K6.1 Y6) (FrM_t F5 (FrM_Y Y6)) (anM_v t6)
                  | (unfold actLink1 at h
                     rw [if_pos hr5] at h
                     obtain ⟨-, -, -, -, y5, -⟩ := id P5
                     exact h _ _ (CM_put hs P5 (fun z => absurd z (by rw [hr5]; decide)) (fun _ => (N.2 hr5).1)) (FrM_t e1 (FrM_t (FrM_w (by omega)) (FrM_P y5))) (anM_v (by rw [y5 21 25 (by omega) (by omega), wr_n _ _ (by omega)]; exact e2)))
                  | (rw [pI_1 (show TG (aF A) d nm ≠ 0 by omega)] at h
                     exact h _ _ (CM_25 C3) (FrM_t F3 (FrM_w (by omega))) (anM_x 2 rfl (wr_s _ _ _ _)))
                  | (rw [pI_0 (fun z => z (by omega)), pI_1 (by rw [if_neg (by decide)] at hrm; exact hrm)] at h
                     exact h _ _ (CM_25 C4) (FrM_t F4b (FrM_w (by omega))) (anM_x 2 rfl (wr_s _ _ _ _)))
                  | (rw [pI_on (by omega), pI_0 (fun z => z hdir9), pI_0 (fun z => z hfil9), pI_1 hnm9] at h
                     exact h _ _ (CM_25 C2) (FrM_t F2 (FrM_w (by omega))) (anM_x 1 rfl (wr_s _ _ _ _)))
                  | (rw [pI_on (by omega), pI_0 (fun z => z hdir9), pI_1 hfil9] at h
                     exact h _ _ (CM_25 C2) (FrM_t F2 (FrM_w (by omega))) (anM_x 0 rfl (wr_s _ _ _ _)))
                  | (rw [pI_on (by omega), pI_1 hdir9] at h
                     exact h _ _ (CM_25 C1) (FrM_t F1 (FrM_w (by omega))) (anM_x 0 rfl (wr_s _ _ _ _)))
                  | (rw [pI_1 (show dk A by show fD (aF A) = 1; omega)] at h
                     exact h _ _ (CM_25 hC) (FrM_w (by omega)) (anM_x 2 rfl (wr_s _ _ _ _)))
            · skip
              refine wq_sub1 (L' := [(0, _), (1, _), (2, _), (3, _)]) ⟨rfl, rfl, rfl, rfl, trivial⟩ ?_
              first
                | (exfalso; omega)
                | exact cut7 _ (CM_25 C2) (FrM_t F2 (FrM_w (by omega))) (wr_s _ _ _ _) (by omega) hdir9 hfil9 hnm9
        · skip
          refine wq_iconst (pc := 29) dX7_link_29 ?_
          refine wq_goto (pc := 30) (tgt := 45) dX7_link_30 (by decide) ?_
          refine wq_putIK (pc := 45) (kk := 25) dX7_link_45 hs (gf_X7_127 _ rfl) rfl rfl rfl rfl rfl ?_
          refine wq_aload_n (pc := 48) dX7_link_48 rfl rfl ?_
          refine wq_getIK (pc := 49) (kk := 25) dX7_link_49 hs (gf_X7_127 _ rfl) rfl rfl rfl rfl ?_
          try rw [wr_s]
          refine wq_if_ne (pc := 52) (tgt := 83) dX7_link_52 (by decide) (by first | (unfold inR; omega) | assumption) (fun c43 => ?_) (fun c43 => ?_)
          · skip
            refine wq_aload_n (pc := 83) dX7_link_83 rfl rfl ?_
            refine wq_getIK (pc := 84) (kk := 25) dX7_link_84 hs (gf_X7_127 _ rfl) rfl rfl rfl rfl ?_
            try rw [wr_s]
            refine wq_if_le (pc := 87) (tgt := 92) dX7_link_87 (by decide) (by first | (unfold inR; omega) | assumption) (fun c44 => ?_) (fun c44 => ?_)
            · skip
              refine wq_sub1 (L' := [(0, _), (1, _), (2, _), (3, _)]) ⟨rfl, rfl, rfl, rfl, trivial⟩ ?_
              first
                | (exfalso; omega)
                | exact cut1 _ (CM_25 C4) (FrM_t F4b (FrM_w (by omega))) (wr_s _ _ _ _) e3 e4 e5 e6 (by omega) (by rw [if_neg (by decide)] at hrm; exact hrm)
            · skip
              refine wq_iconst (pc := 90) dX7_link_90 ?_
              refine wq_iret (pc := 91) dX7_link_91 rfl ?_
              first
                | (exfalso; omega)
                | exact h _ _ (CM_Y C5 K6.1 Y6) (FrM_t F5 (FrM_Y Y6)) (anM_v t6)
                | (unfold actLink1 at h
                   rw [if_pos hr5] at h
                   obtain ⟨-, -, -, -, y5, -⟩ := id P5
                   exact h _ _ (CM_put hs P5 (fun z => absurd z (by rw [hr5]; decide)) (fun _ => (N.2 hr5).1)) (FrM_t e1 (FrM_t (FrM_w (by omega)) (FrM_P y5))) (anM_v (by rw [y5 21 25 (by omega) (by omega), wr_n _ _ (by omega)]; exact e2)))
                | (rw [pI_1 (show TG (aF A) d nm ≠ 0 by omega)] at h
                   exact h _ _ (CM_25 C3) (FrM_t F3 (FrM_w (by omega))) (anM_x 2 rfl (wr_s _ _ _ _)))
                | (rw [pI_0 (fun z => z (by omega)), pI_1 (by rw [if_neg (by decide)] at hrm; exact hrm)] at h
                   exact h _ _ (CM_25 C4) (FrM_t F4b (FrM_w (by omega))) (anM_x 2 rfl (wr_s _ _ _ _)))
                | (rw [pI_on (by omega), pI_0 (fun z => z hdir9), pI_0 (fun z => z hfil9), pI_1 hnm9] at h
                   exact h _ _ (CM_25 C2) (FrM_t F2 (FrM_w (by omega))) (anM_x 1 rfl (wr_s _ _ _ _)))
                | (rw [pI_on (by omega), pI_0 (fun z => z hdir9), pI_1 hfil9] at h
                   exact h _ _ (CM_25 C2) (FrM_t F2 (FrM_w (by omega))) (anM_x 0 rfl (wr_s _ _ _ _)))
                | (rw [pI_on (by omega), pI_1 hdir9] at h
                   exact h _ _ (CM_25 C1) (FrM_t F1 (FrM_w (by omega))) (anM_x 0 rfl (wr_s _ _ _ _)))
                | (rw [pI_1 (show dk A by show fD (aF A) = 1; omega)] at h
                   exact h _ _ (CM_25 hC) (FrM_w (by omega)) (anM_x 2 rfl (wr_s _ _ _ _)))
          · skip
            refine wq_sub1 (L' := [(0, _), (1, _), (2, _), (3, _)]) ⟨rfl, rfl, rfl, rfl, trivial⟩ ?_
            first
              | (exfalso; omega)
              | exact cut7 _ (CM_25 C2) (FrM_t F2 (FrM_w (by omega))) (wr_s _ _ _ _) (by omega) hdir9 hfil9 hnm9
    · skip
      refine kr_s ?_
      have hdir9 := hdir
      have C1 := CM_Y hC K1.1 Y1
      have F1 := FrM_Y Y1
      refine wq_if_eq (pc := 17) (tgt := 29) dX7_link_17 (by decide) (by first | (unfold inR; omega) | assumption) (fun _ => ?_) (fun c => absurd c (by decide))
      refine wq_iconst (pc := 29) dX7_link_29 ?_
      refine wq_goto (pc := 30) (tgt := 45) dX7_link_30 (by decide) ?_
      refine wq_putIK (pc := 45) (kk := 25) dX7_link_45 hs (gf_X7_127 _ rfl) rfl rfl rfl rfl rfl ?_
      refine wq_aload_n (pc := 48) dX7_link_48 rfl rfl ?_
      refine wq_getIK (pc := 49) (kk := 25) dX7_link_49 hs (gf_X7_127 _ rfl) rfl rfl rfl rfl ?_
      try rw [wr_s]
      refine wq_if_ne (pc := 52) (tgt := 83) dX7_link_52 (by decide) (by first | (unfold inR; omega) | assumption) (fun c46 => ?_) (fun c46 => ?_)
      · skip
        refine wq_aload_n (pc := 83) dX7_link_83 rfl rfl ?_
        refine wq_getIK (pc := 84) (kk := 25) dX7_link_84 hs (gf_X7_127 _ rfl) rfl rfl rfl rfl ?_
        try rw [wr_s]
        refine wq_if_le (pc := 87) (tgt := 92) dX7_link_87 (by decide) (by first | (unfold inR; omega) | assumption) (fun c47 => ?_) (fun c47 => ?_)
        · skip
          refine wq_sub1 (L' := [(0, _), (1, _), (2, _), (3, _)]) ⟨rfl, rfl, rfl, rfl, trivial⟩ ?_
          first
            | (exfalso; omega)
            | exact cut1 _ (CM_25 C4) (FrM_t F4b (FrM_w (by omega))) (wr_s _ _ _ _) e3 e4 e5 e6 (by omega) (by rw [if_neg (by decide)] at hrm; exact hrm)
        · skip
          refine wq_iconst (pc := 90) dX7_link_90 ?_
          refine wq_iret (pc := 91) dX7_link_91 rfl ?_
          first
            | (exfalso; omega)
            | exact h _ _ (CM_Y C5 K6.1 Y6) (FrM_t F5 (FrM_Y Y6)) (anM_v t6)
            | (unfold actLink1 at h
               rw [if_pos hr5] at h
               obtain ⟨-, -, -, -, y5, -⟩ := id P5
               exact h _ _ (CM_put hs P5 (fun z => absurd z (by rw [hr5]; decide)) (fun _ => (N.2 hr5).1)) (FrM_t e1 (FrM_t (FrM_w (by omega)) (FrM_P y5))) (anM_v (by rw [y5 21 25 (by omega) (by omega), wr_n _ _ (by omega)]; exact e2)))
            | (rw [pI_1 (show TG (aF A) d nm ≠ 0 by omega)] at h
               exact h _ _ (CM_25 C3) (FrM_t F3 (FrM_w (by omega))) (anM_x 2 rfl (wr_s _ _ _ _)))
            | (rw [pI_0 (fun z => z (by omega)), pI_1 (by rw [if_neg (by decide)] at hrm; exact hrm)] at h
               exact h _ _ (CM_25 C4) (FrM_t F4b (FrM_w (by omega))) (anM_x 2 rfl (wr_s _ _ _ _)))
            | (rw [pI_on (by omega), pI_0 (fun z => z hdir9), pI_0 (fun z => z hfil9), pI_1 hnm9] at h
               exact h _ _ (CM_25 C2) (FrM_t F2 (FrM_w (by omega))) (anM_x 1 rfl (wr_s _ _ _ _)))
            | (rw [pI_on (by omega), pI_0 (fun z => z hdir9), pI_1 hfil9] at h
               exact h _ _ (CM_25 C2) (FrM_t F2 (FrM_w (by omega))) (anM_x 0 rfl (wr_s _ _ _ _)))
            | (rw [pI_on (by omega), pI_1 hdir9] at h
               exact h _ _ (CM_25 C1) (FrM_t F1 (FrM_w (by omega))) (anM_x 0 rfl (wr_s _ _ _ _)))
            | (rw [pI_1 (show dk A by show fD (aF A) = 1; omega)] at h
               exact h _ _ (CM_25 hC) (FrM_w (by omega)) (anM_x 2 rfl (wr_s _ _ _ _)))
      · skip
        refine wq_sub1 (L' := [(0, _), (1, _), (2, _), (3, _)]) ⟨rfl, rfl, rfl, rfl, trivial⟩ ?_
        first
          | (exfalso; omega)
          | exact cut7 _ (CM_25 C2) (FrM_t F2 (FrM_w (by omega))) (wr_s _ _ _ _) (by omega) hdir9 hfil9 hnm9
  · skip
    refine wq_iconst (pc := 8) dX7_link_8 ?_
    refine wq_goto (pc := 9) (tgt := 45) dX7_link_9 (by decide) ?_
    refine wq_putIK (pc := 45) (kk := 25) dX7_link_45 hs (gf_X7_127 _ rfl) rfl rfl rfl rfl rfl ?_
    refine wq_aload_n (pc := 48) dX7_link_48 rfl rfl ?_
    refine wq_getIK (pc := 49) (kk := 25) dX7_link_49 hs (gf_X7_127 _ rfl) rfl rfl rfl rfl ?_
    try rw [wr_s]
    refine wq_if_ne (pc := 52) (tgt := 83) dX7_link_52 (by decide) (by first | (unfold inR; omega) | assumption) (fun c48 => ?_) (fun c48 => ?_)
    · skip
      refine wq_aload_n (pc := 83) dX7_link_83 rfl rfl ?_
      refine wq_getIK (pc := 84) (kk := 25) dX7_link_84 hs (gf_X7_127 _ rfl) rfl rfl rfl rfl ?_
      try rw [wr_s]
      refine wq_if_le (pc := 87) (tgt := 92) dX7_link_87 (by decide) (by first | (unfold inR; omega) | assumption) (fun c49 => ?_) (fun c49 => ?_)
      · skip
        refine wq_sub1 (L' := [(0, _), (1, _), (2, _), (3, _)]) ⟨rfl, rfl, rfl, rfl, trivial⟩ ?_
        first
          | (exfalso; omega)
          | exact cut1 _ (CM_25 C4) (FrM_t F4b (FrM_w (by omega))) (wr_s _ _ _ _) e3 e4 e5 e6 (by omega) (by rw [if_neg (by decide)] at hrm; exact hrm)
      · skip
        refine wq_iconst (pc := 90) dX7_link_90 ?_
        refine wq_iret (pc := 91) dX7_link_91 rfl ?_
        first
          | (exfalso; omega)
          | exact h _ _ (CM_Y C5 K6.1 Y6) (FrM_t F5 (FrM_Y Y6)) (anM_v t6)
          | (unfold actLink1 at h
             rw [if_pos hr5] at h
             obtain ⟨-, -, -, -, y5, -⟩ := id P5
             exact h _ _ (CM_put hs P5 (fun z => absurd z (by rw [hr5]; decide)) (fun _ => (N.2 hr5).1)) (FrM_t e1 (FrM_t (FrM_w (by omega)) (FrM_P y5))) (anM_v (by rw [y5 21 25 (by omega) (by omega), wr_n _ _ (by omega)]; exact e2)))
          | (rw [pI_1 (show TG (aF A) d nm ≠ 0 by omega)] at h
             exact h _ _ (CM_25 C3) (FrM_t F3 (FrM_w (by omega))) (anM_x 2 rfl (wr_s _ _ _ _)))
          | (rw [pI_0 (fun z => z (by omega)), pI_1 (by rw [if_neg (by decide)] at hrm; exact hrm)] at h
             exact h _ _ (CM_25 C4) (FrM_t F4b (FrM_w (by omega))) (anM_x 2 rfl (wr_s _ _ _ _)))
          | (rw [pI_on (by omega), pI_0 (fun z => z hdir9), pI_0 (fun z => z hfil9), pI_1 hnm9] at h
             exact h _ _ (CM_25 C2) (FrM_t F2 (FrM_w (by omega))) (anM_x 1 rfl (wr_s _ _ _ _)))
          | (rw [pI_on (by omega), pI_0 (fun z => z hdir9), pI_1 hfil9] at h
             exact h _ _ (CM_25 C2) (FrM_t F2 (FrM_w (by omega))) (anM_x 0 rfl (wr_s _ _ _ _)))
          | (rw [pI_on (by omega), pI_1 hdir9] at h
             exact h _ _ (CM_25 C1) (FrM_t F1 (FrM_w (by omega))) (anM_x 0 rfl (wr_s _ _ _ _)))
          | (rw [pI_1 (show dk A by show fD (aF A) = 1; omega)] at h
             exact h _ _ (CM_25 hC) (FrM_w (by omega)) (anM_x 2 rfl (wr_s _ _ _ _)))
    · skip
      refine wq_sub1 (L' := [(0, _), (1, _), (2, _), (3, _)]) ⟨rfl, rfl, rfl, rfl, trivial⟩ ?_
      first
        | (exfalso; omega)
        | exact cut7 _ (CM_25 C2) (FrM_t F2 (FrM_w (by omega))) (wr_s _ _ _ _) (by omega) hdir9 hfil9 hnm9
