theorem dtSrc_of (m : nMem) (f v z : Int) : nSrc (mData m 20 f v 0 z 20) = dbSrc f v 0 z 0 0 := by
  funext k
  have hz := jSh0
  unfold nSrc dbSrc
  by_cases h : 0 ≤ k ∧ k ≤ 11
  · rw [if_pos h, mData_v, if_pos ⟨rfl, h.1, by omega⟩]
    (repeat' split) <;> first | rfl | omega
  · rw [if_neg h, if_neg (by omega), if_neg (by omega), if_neg (by omega), if_neg (by omega), if_neg (by omega), if_neg (by omega), if_neg (by omega), if_neg (by omega), if_neg (by omega)]
theorem tB_add {S : Tr} {n d : Int} (hB : tB S) (hn : n ∉ tNl S) (h0 : 0 ≤ n ∧ n ≤ 99999) (hd : d = 0 ∨ d = 1) : tB (tAdd S n d) := by
  obtain ⟨a, b⟩ := hB
  refine ⟨by show 0 ≤ max (tNx S) (n + 1) ∧ max (tNx S) (n + 1) ≤ 100000; omega, fun x hx => ?_⟩
  have hx : x ∈ tNl S ++ [n] := hx
  have e2 : ∀ k, tFd (tAdd S n d) x k = if x = n then (if k = 2 then d else 0) else tFd S x k := fun k => rfl
  have e3 : ∀ j, tCl (tAdd S n d) x j = if x = n then 0 else tCl S x j := fun j => rfl
  by_cases c : x = n
  · refine ⟨by omega, by rw [e2, if_pos c, if_pos rfl]; exact hd, fun k k0 k1 => by rw [e2, if_pos c, if_neg (by omega)]; omega, fun j _ _ => by rw [e3, if_pos c]; omega⟩
  · rcases List.mem_append.mp hx with q | q
    · obtain ⟨b1, b2, b3, b4⟩ := b x q
      exact ⟨b1, by rw [e2, if_neg c]; exact b2, fun k k0 k1 => by rw [e2, if_neg c]; exact b3 k k0 k1, fun j j0 j1 => by rw [e3, if_neg c]; exact b4 j j0 j1⟩
    · exact absurd (List.mem_singleton.mp q) c
theorem tB_set {S : Tr} {n k v : Int} (hB : tB S) (hk : 3 ≤ k ∧ k ≤ 6) (hv : 0 ≤ v ∧ v ≤ 100000) : tB (tSetF S n k v) := by
  obtain ⟨a, b⟩ := hB
  refine ⟨a, fun x hx => ?_⟩
  obtain ⟨b1, b2, b3, b4⟩ := b x hx
  have e : ∀ j, tFd (tSetF S n k v) x j = if x = n ∧ j = k then v else tFd S x j := fun _ => rfl
  refine ⟨b1, by rw [e, if_neg (by omega)]; exact b2, fun j j0 j1 => ?_, b4⟩
  rw [e]
  split
  · exact hv
  · exact b3 j j0 j1
theorem tB_new {S : Tr} {n d : Int} (hB : tB S) (hn : n ∉ tNl S) (h0 : 0 ≤ n ∧ n ≤ 99999) (hd : d = 0 ∨ d = 1) : tB (tSetF (tAdd S n d) n 3 1) := tB_set (tB_add hB hn h0 hd) (by omega) (by omega)
theorem sp_X6_create {μ : nMem} {ε : nEnv} {Q : nOut → nMem → nEnv → Prop} {A : AS} {nb vb d nm : Int} {t : Nat} (hM : MC A nb vb μ ε) (hcap : Cap μ ε (t + 1)) (hnb : nb + 1 ≤ 2000) (hvb : vb + 2 ≤ 4000) (r1 : inR d) (r2 : inR nm) (h : ∀ μ9 ε9, MC (actCreate A d nm).2 (nb + 1) (vb + 2) μ9 ε9 → Cap μ9 ε9 t → FrN μ ε μ9 ε9 → Q (oc (actCreate A d nm).1) μ9 ε9) : Sp mX6_create [vR 1, vI d, vI nm] μ ε Q := by
  refine Sp_of (L := [(0, vR 1), (1, vI d), (2, vI nm)]) (by decide) rfl rfl (Nat.le_of_ble_eq_true rfl) ?_
  obtain ⟨S, hC6, hB, hIB, hDD, h56, hon⟩ := hM
  obtain ⟨hC, hL, hT⟩ := id hC6
  have hs := hC.1
  have hsT := hT.1
  have h20 := (hs 20 5 0 [] rfl (by decide)).1
  have hroom := Cap_room hcap
  have hF6 := Fr6_refl μ ε
  have hC6c := hC6
  unfold actCreate at h
  refine wq_aload_n (pc := 0) dX6_create_0 rfl rfl ?_
  refine wq_iload_n (pc := 1) dX6_create_1 rfl rfl ?_
  refine cVK_1 (pc := 2) dX6_create_2 hs (cw_X6_48 _ rfl) (by decide) rfl ⟨by decide, by decide⟩ (Nat.le_of_ble_eq_true rfl) (sp_X6_directoryThere hC hDD hcap hT hB (by assumption) (fun hd hm hdr a ha => ?_) (fun hd e9 ht => ?_) (fun hd hn e9 ht => ?_))
  · skip
    refine kr_s ?_
    obtain ⟨fl, hP, hS⟩ := hon hd
    have ndk : ¬ dk A := fun z => by have z : fD (aF A) = 1 := z; omega
    have hdir : isDr A d := (isDr_iff hP hS d).mpr ⟨hm, hdr⟩
    rw [pI_0 ndk, pI_0 (fun z => z hdir)] at h
    refine wq_astore_n (pc := 5) (L' := [(3, _), (0, _), (1, _), (2, _)]) dX6_create_5 rfl rfl (by decide) ?_
    refine wq_aload_n (pc := 6) dX6_create_6 rfl rfl ?_
    refine wq_iload_n (pc := 7) dX6_create_7 rfl rfl ?_
    refine cVK_1 (pc := 8) dX6_create_8 hs (cw_X6_52 _ rfl) (by decide) rfl ⟨by decide, by decide⟩ (Nat.le_of_ble_eq_true rfl) (sp_X6_refuseWrongName hcap (by assumption) (fun hnm => ?_) (fun hnm e9 ht => ?_))
    · skip
      refine kr_v ?_
      rw [pI_0 (fun z => z hnm)] at h
      refine wq_aload_n (pc := 11) dX6_create_11 rfl rfl ?_
      refine wq_aload_n (pc := 12) dX6_create_12 rfl rfl ?_
      refine wq_iload_n (pc := 13) dX6_create_13 rfl rfl ?_
      refine cVK_2 (pc := 14) dX6_create_14 hs (cw_X6_56 _ rfl) (by decide) rfl ⟨by decide, by decide⟩ (Nat.le_of_ble_eq_true rfl) (sp_X6_refuseTakenName hcap hT hB ha hnm (fun hfr => ?_) (fun hfr e9 ht => ?_))
      · skip
        refine kr_v ?_
        have hfd : fl d = 1 := by rw [← hS.2.1 d hm]; exact hdr
        have htg := (hS.2.2.1 d hm hfd).1 nm hnm
        rw [htg] at hfr
        rw [pI_0 (fun z => z hfr)] at h
        refine wq_aload_n (pc := 17) dX6_create_17 rfl rfl ?_
        refine wq_iconst (pc := 18) dX6_create_18 ?_
        refine wq_iconst (pc := 19) dX6_create_19 ?_
        refine cVK_2 (pc := 20) dX6_create_20 hs (cw_X6_60 _ rfl) (by decide) rfl ⟨by decide, by decide⟩ (Nat.le_of_ble_eq_true rfl) (sp_X6_refuseWithoutRoom hC hL hP.2.2.2.1.1 (PA_bd hP.2.1) hcap (by omega) (by omega) (fun hrm m2 t2 => ?_) (fun hrm m2 t2 e9 ht => ?_))
        · skip
          refine kr_v ?_
          rw [if_neg (by decide)] at hrm
          have hrm : rmA A [2, 3] 1 := hrm
          rw [pI_0 (fun z => z hrm)] at h
          obtain ⟨⟨s1, hs1, hus⟩, hfr1⟩ := tr_fr (by omega) (by omega) hrm
          obtain ⟨C6b, K2, R2⟩ := C6_TrM hC6 t2
          have hcap2 := R2.2.2.2 _ hcap
          obtain ⟨gl, hgl, hP', hS', hxS, hgn⟩ := IP_fl (v := 0) hP hS (Or.inl rfl)
          clear hP hS hfd
          rename_i fl0
          have hP := hP'
          have hS := hS'
          have hfd : gl d = 1 := by rw [← hS.2.1 d hm]; exact hdr
          have hx8 := hP.2.2.2.2.2.2.2.1
          have hv9 := hP.2.2.2.2.2.2.2.2.1
          have hv1 : aD A (aX A) + 1 = 1 := by rw [(hP.2.2.2.2.2.2.2.2.2 _ (Int.le_refl _)).1]; rfl
          have hv3 : tFd S d 3 = aN A d := (hS.2.2.1 d hm hfd).2.2.2
          have hv3b := hv9 d
          have hdb : 1 ≤ d ∧ d < aX A := tD_b hP.2.2.2.2.2.2.1 ((TSW_tD hS hP.2.2.2.2.2.2.1 d).mpr ⟨hm, hfd⟩)
          have hnx : m2 12 3 = aX A := C6b.2.2.2.2.2.2.2.1.trans hS.2.2.2.2.2.1
          refine wq_aload_n (pc := 23) dX6_create_23 rfl rfl ?_
          refine wq_getS (pc := 24) dX6_create_24 hs (gf_X6_28 _ rfl) rfl rfl rfl rfl rfl ?_
          refine wq_getIK (pc := 27) (kk := 3) dX6_create_27 hsT (gf_X6_64 _ rfl) rfl rfl rfl rfl ?_
          rw [hnx]
          refine wq_istore (pc := 30) (L' := [(4, _), (3, _), (0, _), (1, _), (2, _)]) dX6_create_30 rfl (by decide) ?_
          refine wq_aload_n (pc := 32) dX6_create_32 rfl rfl ?_
          refine wq_getS (pc := 33) dX6_create_33 hs (gf_X6_44 _ rfl) rfl rfl rfl rfl rfl ?_
          refine wq_iload (pc := 36) dX6_create_36 rfl ?_
          refine wq_iconst (pc := 38) dX6_create_38 ?_
          refine wq_iconst (pc := 39) dX6_create_39 ?_
          refine wq_iconst (pc := 40) dX6_create_40 ?_
          refine cVK_4 (pc := 41) dX6_create_41 hs (cw_X6_68 _ rfl) (by decide) rfl ⟨by decide, by decide⟩ (Nat.le_of_ble_eq_true rfl) (sp_X4_becomeData h20 ?_)
          refine kr_v ?_
          have hm20 := fun x j (hx : x ≠ 20) => (mData_v m2 20 (aX A) 1 0 0 x j).trans (if_neg (fun q => hx q.1))
          have hsr : nSrc (mData m2 20 (aX A) 1 0 0 20) = dbSrc (aX A) (aD A (aX A) + 1) 0 0 0 0 := by rw [hv1]; exact dtSrc_of m2 (aX A) 1 0
          have hv := fun j (j0 : 0 ≤ j) (j1 : j ≤ 13) => (mData_v m2 20 (aX A) 1 0 0 20 j).trans (if_pos ⟨rfl, j0, j1⟩)
          generalize mData m2 20 (aX A) 1 0 0 = m3 at hm20 hsr hv ⊢
          obtain ⟨C6c, K3, R3⟩ := C6_20 C6b hm20
          have w0 := hv 0 (by omega) (by omega)
          have w1 := hv 1 (by omega) (by omega)
          have w2 := hv 2 (by omega) (by omega)
          have w3 := hv 3 (by omega) (by omega)
          have w4 := hv 4 (by omega) (by omega)
          have w5 := hv 5 (by omega) (by omega)
          have w6 := hv 6 (by omega) (by omega)
          have w9 := hv 9 (by omega) (by omega)
          have w10 := hv 10 (by omega) (by omega)
          have w11 := hv 11 (by omega) (by omega)
          have w12 := hv 12 (by omega) (by omega)
          have w13 := hv 13 (by omega) (by omega)
          simp at w0 w1 w2 w3 w4 w5 w6 w9 w10 w11 w12 w13
          have hnb20 : nB m3 20 := by unfold nB; rw [w0, w1, w2, w3, w4, w5, w6, w9, w10, w11, w12, w13]; omega
          have hsp : srcP (aF A) m3 ε (aG A) 20 := ⟨h20, hnb20, by omega, by omega, Or.inl (not_row C6c.1.2.1 (by omega) (Or.inr (by omega)))⟩
          have hcap3 := R3.2.2.2 _ hcap2
          unfold actCreate1 at h
          refine wq_aload_n (pc := 44) dX6_create_44 rfl rfl ?_
          refine wq_getS (pc := 45) dX6_create_45 hs (gf_X6_21 _ rfl) rfl rfl rfl rfl rfl ?_
          refine wq_aload_n (pc := 48) dX6_create_48 rfl rfl ?_
          refine wq_getS (pc := 49) dX6_create_49 hs (gf_X6_44 _ rfl) rfl rfl rfl rfl rfl ?_
          refine cVK_1 (pc := 52) dX6_create_52 hs (cw_X6_72 _ rfl) (by decide) rfl ⟨by decide, by decide⟩ (Nat.le_of_ble_eq_true rfl) (sp_X3_put C6c.1 C6c.2.1 (PL_wfP hP.2.1 hP.2.2.2.1) (by rw [w1]; exact hfr1) hcap3 hsp (by omega) (fun hr m4 e4 C4 L4 X4 => ?_) (fun hr m4 e4 C4 L4 X4 => ?_))
          · skip
            refine kr_s ?_
            rw [hsr] at hr C4 L4
            obtain ⟨C6d, K4, R4⟩ := C6_X C6c C4 L4 X4
            have D := IP_data (nb := nb + 1) (nx' := aX A + 1) (f := aX A) (o := 0) (z := 0) (b := 0) (n := 0) (IP_mono hP (by omega) (Int.le_refl vb)) (by omega) (by omega) (by omega) (by omega) (by omega) (by omega) (by omega) hfr1 rfl
            generalize lPut (aF A) (aG A) (dbSrc (aX A) (aD A (aX A) + 1) 0 0 0 0) = P at hr C4 L4 C6d D h
            rw [if_pos hr] at h
            obtain ⟨D1, D2⟩ := D.2 hr
            have fin : MC (P.1, P.2.1, aX A, aD A, aN A) (nb + 1) (vb + 2) m4 e4 := MC_off C6d hB (by rw [(X4.2.1 25 h56).1]; exact h56) D1 D2 (by omega) (by omega) (by omega)
            have fcap := Cap_mono (R4.2.2.2 _ hcap3) (Nat.le_succ t)
            have ffr := FrN_6 (Fr6_trans R2 (Fr6_trans R3 R4))
            refine wq_if_eq (pc := 55) (tgt := 70) dX6_create_55 (by decide) (by first | (unfold inR; omega) | assumption) (fun _ => ?_) (fun c => absurd c (by decide))
            refine wq_bipush (pc := 70) dX6_create_70 (by decide) (by decide) ?_
            refine wq_iret (pc := 72) dX6_create_72 rfl ?_
            first | (obtain ⟨m9, c9, f9⟩ := MC_x hC6c hB hIB hDD h56 hon hnb hcap hF6 ht; exact h _ _ m9 c9 f9) | exact h _ _ fin fcap ffr
          · skip
            refine kr_s ?_
            rw [hsr] at hr C4 L4
            obtain ⟨C6d, K4, R4⟩ := C6_X C6c C4 L4 X4
            have D := IP_data (nb := nb + 1) (nx' := aX A + 1) (f := aX A) (o := 0) (z := 0) (b := 0) (n := 0) (IP_mono hP (by omega) (Int.le_refl vb)) (by omega) (by omega) (by omega) (by omega) (by omega) (by omega) (by omega) hfr1 rfl
            generalize lPut (aF A) (aG A) (dbSrc (aX A) (aD A (aX A) + 1) 0 0 0 0) = P at hr C4 L4 C6d D h
            rw [if_neg (by rw [hr]; decide)] at h
            obtain ⟨D1, D2, D3, D4, D5⟩ := D.1 hr
            have hus2 := (D5 3 [] 1 s1 hs1).mp hus
            obtain ⟨-, hfr2⟩ := tr_fr (by omega) (by omega) hus2
            have hcap4 := R4.2.2.2 _ hcap3
            have ha4 := K4 _ _ (K3 _ _ (K2 _ _ ha))
            have hs := C6d.1.1
            have hsT := C6d.2.2.1
            have N := IP_name (A := (P.1, P.2.1, aX A + 1, bump (aD A) (aX A), aN A)) (d := d) (nm := nm) (t := aX A) (nx' := aX A + 1) D1 (by omega) (by omega) (by show 1 ≤ d ∧ d < aX A + 1; omega) hnm (by omega) (by show aX A + 1 ≤ aX A + 1 ∧ aX A + 1 ≤ nb + 1; omega) hfr2 rfl
            rw [if_neg (show ¬ aX A = 0 by omega), hgl] at N
            refine wq_if_eq (pc := 55) (tgt := 70) dX6_create_55 (by decide) (by first | (unfold inR; omega) | assumption) (fun c => absurd c (by decide)) (fun _ => ?_)
            refine wq_aload_n (pc := 58) dX6_create_58 rfl rfl ?_
            refine wq_aload_n (pc := 59) dX6_create_59 rfl rfl ?_
            refine wq_iload_n (pc := 60) dX6_create_60 rfl rfl ?_
            refine wq_iload (pc := 61) dX6_create_61 rfl ?_
            refine wq_iconst (pc := 63) dX6_create_63 ?_
            refine cVK_4 (pc := 64) dX6_create_64 hs (cw_X6_76 _ rfl) (by decide) rfl ⟨by decide, by decide⟩ (Nat.le_of_ble_eq_true rfl) (sp_X6_putName C6d.1 C6d.2.1 C6d.2.2 hB (PL_wfP D1.2.1 D1.2.2.2.1) hcap4 ha4 hfr2 (by omega) (by omega) hnm (by omega) (Or.inl rfl) (fun hr5 m5 e5 C5 R5 K5 => ?_) (fun hr5 m5 e5 C5 R5 K5 => ?_))
            · skip
              refine kr_s ?_
              rw [show nmSrc d (tFd S d 3 + 1) nm (aX A) 0 = nmSrc d (aN A d + 1) nm (aX A) 0 by rw [hv3]] at hr5 C5
              generalize lPut P.1 P.2.1 (nmSrc d (aN A d + 1) nm (aX A) 0) = R at hr5 C5 N h
              rw [if_pos hr5] at h
              obtain ⟨N1, N2⟩ := N.2 hr5
              have fin : MC (R.1, R.2.1, aX A, aD A, aN A) (nb + 1) (vb + 2) m5 e5 := MC_off C5 (tB_ver hB hm (by omega)) (by rw [(R5.2.1 25 (by rw [(X4.2.1 25 h56).1]; exact h56)).1, (X4.2.1 25 h56).1]; exact h56) N1 N2 (by omega) (by omega) (by omega)
              have fcap := Cap_mono (R5.2.2.2 _ hcap4) (Nat.le_succ t)
              have ffr := FrN_6 (Fr6_trans R2 (Fr6_trans R3 (Fr6_trans R4 R5)))
              refine wq_if_ne (pc := 67) (tgt := 73) dX6_create_67 (by decide) (by first | (unfold inR; omega) | assumption) (fun c => absurd c (by decide)) (fun _ => ?_)
              refine wq_bipush (pc := 70) dX6_create_70 (by decide) (by decide) ?_
              refine wq_iret (pc := 72) dX6_create_72 rfl ?_
              first | (obtain ⟨m9, c9, f9⟩ := MC_x hC6c hB hIB hDD h56 hon hnb hcap hF6 ht; exact h _ _ m9 c9 f9) | exact h _ _ fin fcap ffr
            · skip
              refine kr_s ?_
              rw [show nmSrc d (tFd S d 3 + 1) nm (aX A) 0 = nmSrc d (aN A d + 1) nm (aX A) 0 by rw [hv3]] at hr5 C5
              generalize lPut P.1 P.2.1 (nmSrc d (aN A d + 1) nm (aX A) 0) = R at hr5 C5 N h
              rw [if_neg (by rw [hr5]; decide)] at h
              obtain ⟨N1, N2, N3, N4, N5, N6, N7, N8⟩ := N.1 hr5
              have hs := C5.1.1
              have hsT := C5.2.2.1
              have h565 : eKind e5 25 ≠ 0 := by rw [(R5.2.1 25 (by rw [(X4.2.1 25 h56).1]; exact h56)).1, (X4.2.1 25 h56).1]; exact h56
              have hcap5 := R5.2.2.2 _ hcap4
              have hlen5 : (tNl S).length < 129 := TSW_len hS hT.2.2.1 hfr hxS (by omega) (by omega) (by rw [N2]; show gup (TG P.1) d nm (aX A) = _; rw [D2])
              have hA5 := K5 _ _ ha4
              have hS5x : tNx (tSetF S d 3 (tFd S d 3 + 1)) = aX A := hS.2.2.2.2.2.1
              refine wq_if_ne (pc := 67) (tgt := 73) dX6_create_67 (by decide) (by first | (unfold inR; omega) | assumption) (fun _ => ?_) (fun c => absurd c (by decide))
              refine wq_aload_n (pc := 73) dX6_create_73 rfl rfl ?_
              refine wq_getS (pc := 74) dX6_create_74 hs (gf_X6_28 _ rfl) rfl rfl rfl rfl rfl ?_
              refine wq_iload (pc := 77) dX6_create_77 rfl ?_
              refine wq_iconst (pc := 79) dX6_create_79 ?_
              refine cVK_2 (pc := 80) dX6_create_80 hsT (cw_X6_80 _ rfl) (by decide) rfl ⟨by decide, by decide⟩ (Nat.le_of_ble_eq_true rfl) (sp_X5_add C5.2.2 (by rw [hS5x]; omega) hxS (by omega) hlen5 (Or.inl rfl) (Or.inl h565) hcap5 (fun m6 e6 b T6 F6 A6 K6 => ?_))
              refine kr_s ?_
              obtain ⟨C6e, R6⟩ := C6_T C5 T6 F6
              have hs := C6e.1.1
              have hsT := C6e.2.2.1
              have hcap6 := R6.2.2.2 _ hcap5
              have hA6 := K6 _ _ hA5
              obtain ⟨b0, bI, bw, -⟩ := tAt_sh T6 A6
              obtain ⟨hkb, -, -⟩ := id bI
              refine wq_astore (pc := 83) (L' := [(5, _), (4, _), (3, _), (0, _), (1, _), (2, _)]) dX6_create_83 rfl (by decide) ?_
              refine wq_aload (pc := 85) dX6_create_85 rfl ?_
              refine wq_iconst (pc := 87) dX6_create_87 ?_
              refine wq_putI (pc := 88) (kk := 3) dX6_create_88 (gf_X6_84 _ rfl) (by with_reducible assumption) rfl rfl rfl rfl ?_
              obtain ⟨T7, F7, K7⟩ := CT_setF (k := 3) (v := 1) T6 A6 (by omega)
              obtain ⟨C6f, R7⟩ := C6_T C6e T7 F7
              generalize wr m6 b 3 1 = m7 at T7 F7 K7 C6f R7 ⊢
              have hA7 := K7 _ _ hA6
              have hI7 := K7 _ _ A6
              have h0S : (0 : Int) ∉ tNl S := fun z => by rcases (hS.1 0).mp z with q | q; omega; exact q.1 rfl
              have h07 : (0 : Int) ∉ tNl (tSetF (tAdd (tSetF S d 3 (tFd S d 3 + 1)) (aX A) 0) (aX A) 3 1) := fun z => by
                have z : (0 : Int) ∈ tNl S ++ [aX A] := z
                rcases List.mem_append.mp z with q | q
                · exact h0S q
                · have := List.mem_singleton.mp q; omega
              have hB7 : tB (tSetF (tAdd (tSetF S d 3 (tFd S d 3 + 1)) (aX A) 0) (aX A) 3 1) := tB_new (tB_ver hB hm (by omega)) hxS (by omega) (Or.inl rfl)
              refine wq_aload_n (pc := 91) dX6_create_91 rfl rfl ?_
              refine wq_getS (pc := 92) dX6_create_92 hs (gf_X6_28 _ rfl) rfl rfl rfl rfl rfl ?_
              refine wq_aload_n (pc := 95) dX6_create_95 rfl rfl ?_
              refine wq_iload_n (pc := 96) dX6_create_96 rfl rfl ?_
              refine wq_aload (pc := 97) dX6_create_97 rfl ?_
              refine cVK_3 (pc := 99) dX6_create_99 hsT (cw_X6_89 _ rfl) (by decide) rfl ⟨by decide, by decide⟩ (Nat.le_of_ble_eq_true rfl) (sx_X5_assign T7 hB7 h07 hA7 hI7 (by omega) (fun m8 S8 hA8 T8 F8 K8 => ?_))
              refine kr_v ?_
              obtain ⟨C6g, R8⟩ := C6_T C6f T8 F8
              obtain ⟨Z1, Z2⟩ := create_ok (P := P) (R := R) (nb := nb) (vb := vb) hP hS hm hfd hnm hfr hgl hnb D2 D3 D4 (fun w => IP_mono (N1 w) (Int.le_refl _) (by omega)) N2 N3 N4 hA8
              have h568 : eKind e6 25 ≠ 0 := by rw [(R6.2.1 25 h565).1]; exact h565
              have fin := MC_on (A := (R.1, R.2.1, aX A + 1, bump (aD A) (aX A), bump (aN A) d)) C6g h568 Z1 Z2 (by omega) (by omega)
              have fcap := Cap_mono (R8.2.2.2 _ (R7.2.2.2 _ hcap6)) (Nat.le_succ t)
              have ffr := FrN_6 (Fr6_trans R2 (Fr6_trans R3 (Fr6_trans R4 (Fr6_trans R5 (Fr6_trans R6 (Fr6_trans R7 R8))))))
              refine wq_iload (pc := 102) dX6_create_102 rfl ?_
              refine wq_iret (pc := 104) dX6_create_104 rfl ?_
              first | (obtain ⟨m9, c9, f9⟩ := MC_x hC6c hB hIB hDD h56 hon hnb hcap hF6 ht; exact h _ _ m9 c9 f9) | exact h _ _ fin fcap ffr
        · skip
          refine kr_x ?_
          rw [if_neg (by decide)] at hrm
          have hrm : ¬ rmA A [2, 3] 1 := hrm
          rw [pI_1 hrm] at h
          obtain ⟨hC6c, K2, hF6⟩ := C6_TrM hC6 t2
          first | (obtain ⟨m9, c9, f9⟩ := MC_x hC6c hB hIB hDD h56 hon hnb hcap hF6 ht; exact h _ _ m9 c9 f9) | exact h _ _ fin fcap ffr
      · skip
        refine kr_x ?_
        have hfd : fl d = 1 := by rw [← hS.2.1 d hm]; exact hdr
        have htg := (hS.2.2.1 d hm hfd).1 nm hnm
        rw [htg] at hfr
        rw [pI_1 hfr] at h
        first | (obtain ⟨m9, c9, f9⟩ := MC_x hC6c hB hIB hDD h56 hon hnb hcap hF6 ht; exact h _ _ m9 c9 f9) | exact h _ _ fin fcap ffr
    · skip
      refine kr_x ?_
      rw [pI_1 hnm] at h
      first | (obtain ⟨m9, c9, f9⟩ := MC_x hC6c hB hIB hDD h56 hon hnb hcap hF6 ht; exact h _ _ m9 c9 f9) | exact h _ _ fin fcap ffr
  · skip
    refine kr_x ?_
    rw [pI_1 (show dk A from hd)] at h
    first | (obtain ⟨m9, c9, f9⟩ := MC_x hC6c hB hIB hDD h56 hon hnb hcap hF6 ht; exact h _ _ m9 c9 f9) | exact h _ _ fin fcap ffr
  · skip
    refine kr_x ?_
    obtain ⟨fl, hP, hS⟩ := hon hd
    have ndk : ¬ dk A := fun z => by have z : fD (aF A) = 1 := z; omega
    have hndir : ¬ isDr A d := fun z => by have z := (isDr_iff hP hS d).mp z; rcases hn with q | q; exact q z.1; exact q z.2
    rw [pI_0 ndk, pI_1 hndir] at h
    first | (obtain ⟨m9, c9, f9⟩ := MC_x hC6c hB hIB hDD h56 hon hnb hcap hF6 ht; exact h _ _ m9 c9 f9) | exact h _ _ fin fcap ffr
