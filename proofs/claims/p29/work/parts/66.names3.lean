/-- the state behind the put of a name -/
abbrev afterN (A : AS) (d : Int) (R : Fl × Lg × Bool) : AS := (R.1, R.2.1, aX A, aD A, bump (aN A) d)
abbrev afterX (A : AS) (R : Fl × Lg × Bool) : AS := (R.1, R.2.1, aX A, aD A, aN A)
noncomputable def lkA (A : AS) (n : Int) : Int := ((lk (TG (aF A)) (TD (aF A)) n 2048 : Nat) : Int)
noncomputable def actLink1 (A : AS) (d f : Int) (R : Fl × Lg × Bool) : Ans × AS := if R.2.2 = false then (.inl (-9), afterX A R) else (.inl (lkA (afterN A d R) f), afterN A d R)
noncomputable def actLink (A : AS) (d nm f : Int) : Ans × AS :=
  pI (dk A) (.inr xS, A) (pI (¬ isDr A d) (.inr xI, A) (pI (¬ isFl A f) (.inr xI, A) (pI (¬ nmR nm) (.inr xA, A) (pI (TG (aF A) d nm ≠ 0) (.inr xS, A) (pI (¬ rmA A [3] 1) (.inr xS, A)
    (actLink1 A d f (lPut (aF A) (aG A) (nmSrc d (aN A d + 1) nm f 0))))))))
abbrev hasNm (A : AS) (d nm : Int) : Prop := TD (aF A) d nm = 1 ∧ ∃ x, nmR x ∧ TG (aF A) (TG (aF A) d nm) x ≠ 0
noncomputable def actUnlink1 (A : AS) (d o : Int) (R : Fl × Lg × Bool) : Ans × AS := if R.2.2 = false then (.inl (-9), afterX A R) else (.inl o, afterN A d R)
noncomputable def actUnlink (A : AS) (d nm : Int) : Ans × AS :=
  pI (dk A) (.inr xS, A) (pI (¬ isDr A d) (.inr xI, A) (pI (¬ nmR nm) (.inr xA, A) (pI (TG (aF A) d nm = 0) (.inr xS, A) (pI (hasNm A d nm) (.inr xS, A) (pI (¬ rmA A [3] 1) (.inr xS, A)
    (actUnlink1 A d (TG (aF A) d nm) (lPut (aF A) (aG A) (nmSrc d (aN A d + 1) nm 0 0))))))))
theorem IP_lk {A : AS} {fl : Int → Int} {nb vb : Int} {S : Tr} (hP : IP A fl nb vb) (hS : TSA A fl S) {n : Int} (hn : n ∈ tNl S) : tFd S n 4 = lkA A n := by
  unfold lkA
  rw [flOK_TD (PA_NS hP.2.1) hP.2.2.2.2.2.1]
  exact hS.2.2.2.2.1 n hn
theorem cntN_p {f : Int → Int} : ∀ k : Nat, 0 < cntN f k ↔ ∃ x : Int, (1 ≤ x ∧ x ≤ k) ∧ f x ≠ 0
  | 0 => ⟨fun h => absurd h (by show ¬ (0 : Int) < 0; omega), fun ⟨x, h, _⟩ => by omega⟩
  | k + 1 => by
    have ih := cntN_p (f := f) k
    have hb := cntN_bb f k
    rw [cntN_s]
    constructor
    · intro h
      by_cases c : f ((k : Int) + 1) ≠ 0
      · exact ⟨(k : Int) + 1, by omega, c⟩
      · rw [if_neg c] at h
        obtain ⟨x, x0, x1⟩ := ih.mp (by omega)
        exact ⟨x, by omega, x1⟩
    · rintro ⟨x, x0, x1⟩
      by_cases e : x = (k : Int) + 1
      · rw [e] at x1; rw [if_pos x1]; omega
      · have := ih.mpr ⟨x, by omega, x1⟩
        split <;> omega
/-- how many names something has in it -/
theorem nmc_iff {A : AS} {fl : Int → Int} {nb vb : Int} {S : Tr} {d nm : Int} (hP : IP A fl nb vb) (hS : TSA A fl S) (ho : TG (aF A) d nm ∈ tNl S) (h0 : TG (aF A) d nm ≠ 0) : (0 < tFd S (TG (aF A) d nm) 5 ↔ hasNm A d nm) ∧ TD (aF A) d nm = fl (TG (aF A) d nm) := by
  have e : TD (aF A) d nm = fl (TG (aF A) d nm) := by
    rw [flOK_TD (PA_NS hP.2.1) hP.2.2.2.2.2.1]
    unfold dF; rw [if_neg h0]
  refine ⟨?_, e⟩
  unfold hasNm
  rw [e]
  rcases hP.2.2.2.2.2.2.1.2.1 (TG (aF A) d nm) with q | q
  · rw [(hS.2.2.2.1 _ ho q).2.2.1]
    exact ⟨fun z => absurd z (by decide), fun z => by rw [q] at z; exact absurd z.1 (by decide)⟩
  · rw [(hS.2.2.1 _ ho q).2.1]
    exact ⟨fun z => ⟨q, by obtain ⟨x, x0, x1⟩ := (cntN_p 99).mp z; exact ⟨x, x0, x1⟩⟩, fun ⟨_, x, x0, x1⟩ => (cntN_p 99).mpr ⟨x, x0, x1⟩⟩
theorem sp_X6_makeDirectory {μ : nMem} {ε : nEnv} {Q : nOut → nMem → nEnv → Prop} {A : AS} {nb vb d nm : Int} {t : Nat} (hM : MC A nb vb μ ε) (hcap : Cap μ ε (t + 1)) (hnb : nb + 1 ≤ 2000) (hvb : vb + 2 ≤ 4000) (r1 : inR d) (r2 : inR nm) (h : ∀ μ9 ε9, MC (actMkdir A d nm).2 (nb + 1) (vb + 2) μ9 ε9 → Cap μ9 ε9 t → FrN μ ε μ9 ε9 → Q (oc (actMkdir A d nm).1) μ9 ε9) : Sp mX6_makeDirectory [vR 1, vI d, vI nm] μ ε Q := by
  refine Sp_of (L := [(0, vR 1), (1, vI d), (2, vI nm)]) (by decide) rfl rfl (Nat.le_of_ble_eq_true rfl) ?_
  obtain ⟨S, hC6, hB, hIB, hDD, h56, hon⟩ := hM
  obtain ⟨hC, hL, hT⟩ := id hC6
  have hs := hC.1
  have hsT := hT.1
  have h20 := (hs 20 5 0 [] rfl (by decide)).1
  have hroom := Cap_room hcap
  have hF6 := Fr6_refl μ ε
  have hC6c := hC6
  unfold actMkdir at h
  refine wq_aload_n (pc := 0) dX6_makeDirectory_0 rfl rfl ?_
  refine wq_iload_n (pc := 1) dX6_makeDirectory_1 rfl rfl ?_
  refine cVK_1 (pc := 2) dX6_makeDirectory_2 hs (cw_X6_48 _ rfl) (by decide) rfl ⟨by decide, by decide⟩ (Nat.le_of_ble_eq_true rfl) (sp_X6_directoryThere hC hDD hcap hT hB (by assumption) (fun hd hm hdr a ha => ?_) (fun hd e9 ht => ?_) (fun hd hn e9 ht => ?_))
  · skip
    refine kr_s ?_
    obtain ⟨fl, hP, hS⟩ := hon hd
    have ndk : ¬ dk A := fun z => by have z : fD (aF A) = 1 := z; omega
    have hdir : isDr A d := (isDr_iff hP hS d).mpr ⟨hm, hdr⟩
    rw [pI_0 ndk, pI_0 (fun z => z hdir)] at h
    refine wq_astore_n (pc := 5) (L' := [(3, _), (0, _), (1, _), (2, _)]) dX6_makeDirectory_5 rfl rfl (by decide) ?_
    refine wq_aload_n (pc := 6) dX6_makeDirectory_6 rfl rfl ?_
    refine wq_iload_n (pc := 7) dX6_makeDirectory_7 rfl rfl ?_
    refine cVK_1 (pc := 8) dX6_makeDirectory_8 hs (cw_X6_52 _ rfl) (by decide) rfl ⟨by decide, by decide⟩ (Nat.le_of_ble_eq_true rfl) (sp_X6_refuseWrongName hcap (by assumption) (fun hnm => ?_) (fun hnm e9 ht => ?_))
    · skip
      refine kr_v ?_
      rw [pI_0 (fun z => z hnm)] at h
      refine wq_aload_n (pc := 11) dX6_makeDirectory_11 rfl rfl ?_
      refine wq_aload_n (pc := 12) dX6_makeDirectory_12 rfl rfl ?_
      refine wq_iload_n (pc := 13) dX6_makeDirectory_13 rfl rfl ?_
      refine cVK_2 (pc := 14) dX6_makeDirectory_14 hs (cw_X6_56 _ rfl) (by decide) rfl ⟨by decide, by decide⟩ (Nat.le_of_ble_eq_true rfl) (sp_X6_refuseTakenName hcap hT hB ha hnm (fun hfr => ?_) (fun hfr e9 ht => ?_))
      · skip
        refine kr_v ?_
        have hfd : fl d = 1 := by rw [← hS.2.1 d hm]; exact hdr
        have htg := (hS.2.2.1 d hm hfd).1 nm hnm
        rw [htg] at hfr
        rw [pI_0 (fun z => z hfr)] at h
        refine wq_aload_n (pc := 17) dX6_makeDirectory_17 rfl rfl ?_
        refine wq_iconst (pc := 18) dX6_makeDirectory_18 ?_
        refine wq_iconst (pc := 19) dX6_makeDirectory_19 ?_
        refine cVK_2 (pc := 20) dX6_makeDirectory_20 hs (cw_X6_60 _ rfl) (by decide) rfl ⟨by decide, by decide⟩ (Nat.le_of_ble_eq_true rfl) (sp_X6_refuseWithoutRoom hC hL hP.2.2.2.1.1 (PA_bd hP.2.1) hcap (by omega) (by omega) (fun hrm m2 t2 => ?_) (fun hrm m2 t2 e9 ht => ?_))
        · skip
          refine kr_v ?_
          rw [if_pos (by decide)] at hrm
          have hrm : rmA A [3] 1 := hrm
          rw [pI_0 (fun z => z hrm)] at h
          obtain ⟨⟨s1, hs1, hus⟩, hfr1⟩ := tr_fr (by omega) (by omega) hrm
          obtain ⟨C6b, K2, R2⟩ := C6_TrM hC6 t2
          have hcap2 := R2.2.2.2 _ hcap
          obtain ⟨gl, hgl, hP', hS', hxS, hgn⟩ := IP_fl (v := 1) hP hS (Or.inr rfl)
          clear hP hS hfd
          rename_i fl0
          have hP := hP'
          have hS := hS'
          have hfd : gl d = 1 := by rw [← hS.2.1 d hm]; exact hdr
          have hx8 := hP.2.2.2.2.2.2.2.1
          have hv9 := hP.2.2.2.2.2.2.2.2.1
          have hv3 : tFd S d 3 = aN A d := (hS.2.2.1 d hm hfd).2.2.2
          have hv3b := hv9 d
          have hdb : 1 ≤ d ∧ d < aX A := tD_b hP.2.2.2.2.2.2.1 ((TSW_tD hS hP.2.2.2.2.2.2.1 d).mpr ⟨hm, hfd⟩)
          have hnx : m2 12 3 = aX A := C6b.2.2.2.2.2.2.2.1.trans hS.2.2.2.2.2.1
          have N := IP_name (nb := nb + 1) (d := d) (nm := nm) (t := aX A) (nx' := aX A + 1) (IP_mono hP (by omega) (Int.le_refl vb)) (by omega) (by omega) hdb hnm (by omega) (by omega) hfr1 rfl
          rw [if_neg (show ¬ aX A = 0 by omega), hgl] at N
          have ha2 := K2 _ _ ha
          have hfr1b := hfr1
          refine wq_aload_n (pc := 23) dX6_makeDirectory_23 rfl rfl ?_
          refine wq_getS (pc := 24) dX6_makeDirectory_24 hs (gf_X6_28 _ rfl) rfl rfl rfl rfl rfl ?_
          refine wq_getIK (pc := 27) (kk := 3) dX6_makeDirectory_27 hsT (gf_X6_64 _ rfl) rfl rfl rfl rfl ?_
          rw [hnx]
          refine wq_istore (pc := 30) (L' := [(4, _), (3, _), (0, _), (1, _), (2, _)]) dX6_makeDirectory_30 rfl (by decide) ?_
          refine wq_aload_n (pc := 32) dX6_makeDirectory_32 rfl rfl ?_
          refine wq_aload_n (pc := 33) dX6_makeDirectory_33 rfl rfl ?_
          refine wq_iload_n (pc := 34) dX6_makeDirectory_34 rfl rfl ?_
          refine wq_iload (pc := 35) dX6_makeDirectory_35 rfl ?_
          refine wq_iconst (pc := 37) dX6_makeDirectory_37 ?_
          refine cVK_4 (pc := 38) dX6_makeDirectory_38 hs (cw_X6_76 _ rfl) (by decide) rfl ⟨by decide, by decide⟩ (Nat.le_of_ble_eq_true rfl) (sp_X6_putName C6b.1 C6b.2.1 C6b.2.2 hB (PL_wfP hP.2.1 hP.2.2.2.1) hcap2 ha2 hfr1 (by omega) (by omega) hnm (by omega) (by first | exact Or.inl rfl | exact Or.inr rfl) (fun hr5 m5 e5 C5 R5 K5 => ?_) (fun hr5 m5 e5 C5 R5 K5 => ?_))
          · skip
            refine kr_s ?_
            rw [show nmSrc d (tFd S d 3 + 1) nm (aX A) 1 = nmSrc d (aN A d + 1) nm (aX A) 1 by rw [hv3]] at hr5 C5
            generalize lPut (aF A) (aG A) (nmSrc d (aN A d + 1) nm (aX A) 1) = R at hr5 C5 N h
            rw [if_pos hr5] at h
            obtain ⟨N1, N2⟩ := N.2 hr5
            have fin : MC (R.1, R.2.1, aX A, aD A, aN A) (nb + 1) (vb + 2) m5 e5 := MC_off C5 (tB_ver hB hm (by omega)) (by rw [(R5.2.1 25 h56).1]; exact h56) N1 N2 (by omega) (by omega) (by omega)
            have fcap := Cap_mono (R5.2.2.2 _ hcap2) (Nat.le_succ t)
            have ffr := FrN_6 (Fr6_trans R2 R5)
            refine wq_if_ne (pc := 41) (tgt := 47) dX6_makeDirectory_41 (by decide) (by first | (unfold inR; omega) | assumption) (fun c => absurd c (by decide)) (fun _ => ?_)
            refine wq_bipush (pc := 44) dX6_makeDirectory_44 (by decide) (by decide) ?_
            refine wq_iret (pc := 46) dX6_makeDirectory_46 rfl ?_
            first | (obtain ⟨m9, c9, f9⟩ := MC_x hC6c hB hIB hDD h56 hon hnb hcap hF6 ht; exact h _ _ m9 c9 f9) | exact h _ _ fin fcap ffr
          · skip
            refine kr_s ?_
            rw [show nmSrc d (tFd S d 3 + 1) nm (aX A) 1 = nmSrc d (aN A d + 1) nm (aX A) 1 by rw [hv3]] at hr5 C5
            generalize lPut (aF A) (aG A) (nmSrc d (aN A d + 1) nm (aX A) 1) = R at hr5 C5 N h
            rw [if_neg (by rw [hr5]; decide)] at h
            obtain ⟨N1, N2, N3, N4, N5, N6, N7, N8⟩ := N.1 hr5
            have hs := C5.1.1
            have hsT := C5.2.2.1
            have h565 : eKind e5 25 ≠ 0 := by rw [(R5.2.1 25 h56).1]; exact h56
            have hcap5 := R5.2.2.2 _ hcap2
            have hA5 := K5 _ _ ha2
            have h0S : (0 : Int) ∉ tNl S := fun z => by rcases (hS.1 0).mp z with q | q; omega; exact q.1 rfl
            have hBv := tB_ver hB hm (show tFd S d 3 ≤ 99999 by omega)
            have hlen5 : (tNl S).length < 129 := TSW_len hS hT.2.2.1 hfr hxS (by omega) (by omega) N2
            have hS5x : tNx (tSetF S d 3 (tFd S d 3 + 1)) = aX A := hS.2.2.2.2.2.1
            refine wq_if_ne (pc := 41) (tgt := 47) dX6_makeDirectory_41 (by decide) (by first | (unfold inR; omega) | assumption) (fun _ => ?_) (fun c => absurd c (by decide))
            refine wq_aload_n (pc := 47) dX6_makeDirectory_47 rfl rfl ?_
            refine wq_getS (pc := 48) dX6_makeDirectory_48 hs (gf_X6_28 _ rfl) rfl rfl rfl rfl rfl ?_
            refine wq_aload_n (pc := 51) dX6_makeDirectory_51 rfl rfl ?_
            refine wq_iload_n (pc := 52) dX6_makeDirectory_52 rfl rfl ?_
            refine wq_aload_n (pc := 53) dX6_makeDirectory_53 rfl rfl ?_
            refine wq_getS (pc := 54) dX6_makeDirectory_54 hs (gf_X6_28 _ rfl) rfl rfl rfl rfl rfl ?_
            refine wq_iload (pc := 57) dX6_makeDirectory_57 rfl ?_
            refine wq_iconst (pc := 59) dX6_makeDirectory_59 ?_
            refine cVK_2 (pc := 60) dX6_makeDirectory_60 hsT (cw_X6_80 _ rfl) (by decide) rfl ⟨by decide, by decide⟩ (Nat.le_of_ble_eq_true rfl) (sp_X5_add C5.2.2 (by rw [hS5x]; omega) hxS (by omega) hlen5 (Or.inr rfl) (Or.inl h565) hcap5 (fun m6 e6 b T6 F6 A6 K6 => ?_))
            refine kr_s ?_
            obtain ⟨C6e, R6⟩ := C6_T C5 T6 F6
            have hs := C6e.1.1
            have hsT := C6e.2.2.1
            have hcap6 := R6.2.2.2 _ hcap5
            have hA6 := K6 _ _ hA5
            have h06 : (0 : Int) ∉ tNl (tAdd (tSetF S d 3 (tFd S d 3 + 1)) (aX A) 1) := fun z => by
              have z : (0 : Int) ∈ tNl S ++ [aX A] := z
              rcases List.mem_append.mp z with q | q
              · exact h0S q
              · have := List.mem_singleton.mp q; omega
            have hB6 := tB_add hBv (n := aX A) (d := 1) hxS (by omega) (Or.inr rfl)
            obtain ⟨b0, bI, bw, -⟩ := tAt_sh T6 A6
            obtain ⟨hkb, -, -⟩ := id bI
            refine cVK_3 (pc := 63) dX6_makeDirectory_63 hsT (cw_X6_89 _ rfl) (by decide) rfl ⟨by decide, by decide⟩ (Nat.le_of_ble_eq_true rfl) (sx_X5_assign T6 hB6 h06 hA6 A6 (by omega) (fun m8 S8 hA8 T8 F8 K8 => ?_))
            refine kr_v ?_
            obtain ⟨C6g, R8⟩ := C6_T C6e T8 F8
            obtain ⟨Z1, Z2⟩ := mkdir_ok (R := R) (nb := nb) (vb := vb) hP hS hm hfd hnm hfr hgl hnb (fun w => IP_mono (N1 w) (Int.le_refl _) (by omega)) N2 N3 N4 hA8
            have h568 : eKind e6 25 ≠ 0 := by rw [(R6.2.1 25 h565).1]; exact h565
            have fin := MC_on (A := (R.1, R.2.1, aX A + 1, aD A, bump (aN A) d)) C6g h568 Z1 Z2 (by omega) (by omega)
            have fcap := Cap_mono (R8.2.2.2 _ hcap6) (Nat.le_succ t)
            have ffr := FrN_6 (Fr6_trans R2 (Fr6_trans R5 (Fr6_trans R6 R8)))
            refine wq_iload (pc := 66) dX6_makeDirectory_66 rfl ?_
            refine wq_iret (pc := 68) dX6_makeDirectory_68 rfl ?_
            first | (obtain ⟨m9, c9, f9⟩ := MC_x hC6c hB hIB hDD h56 hon hnb hcap hF6 ht; exact h _ _ m9 c9 f9) | exact h _ _ fin fcap ffr
        · skip
          refine kr_x ?_
          rw [if_pos (by decide)] at hrm
          have hrm : ¬ rmA A [3] 1 := hrm
          rw [pI_1 hrm] at h
          obtain ⟨hC6c, K2, hF6⟩ := C6_TrM hC6 t2
          first | (obtain ⟨m9, c9, f9⟩ := MC_x hC6c hB hIB hDD h56 hon hnb hcap hF6 ht; exact h _ _ m9 c9 f9) | exact h _ _ fin fcap ffr
      · skip
        refine kr_x ?_
        have hfd : fl d = 1 := by rw [← hS.2.1 d hm]; exact hdr
        have htg := (hS.2.2.1 d hm hfd).1 nm hnm
        rw [htg] at hfr
        rw [pI_1 hfr] at h
        first | (obtain ⟨m9, c9, f9⟩ := MC_x hC6c hB hIB hDD h56 hon hnb hcap hF6 ht; exact h _ _ m9 c9 f9) | exact h _ _ fin fcap ffr
    · skip
      refine kr_x ?_
      rw [pI_1 hnm] at h
      first | (obtain ⟨m9, c9, f9⟩ := MC_x hC6c hB hIB hDD h56 hon hnb hcap hF6 ht; exact h _ _ m9 c9 f9) | exact h _ _ fin fcap ffr
  · skip
    refine kr_x ?_
    rw [pI_1 (show dk A from hd)] at h
    first | (obtain ⟨m9, c9, f9⟩ := MC_x hC6c hB hIB hDD h56 hon hnb hcap hF6 ht; exact h _ _ m9 c9 f9) | exact h _ _ fin fcap ffr
  · skip
    refine kr_x ?_
    obtain ⟨fl, hP, hS⟩ := hon hd
    have ndk : ¬ dk A := fun z => by have z : fD (aF A) = 1 := z; omega
    have hndir : ¬ isDr A d := fun z => by have z := (isDr_iff hP hS d).mp z; rcases hn with q | q; exact q z.1; exact q z.2
    rw [pI_0 ndk, pI_1 hndir] at h
    first | (obtain ⟨m9, c9, f9⟩ := MC_x hC6c hB hIB hDD h56 hon hnb hcap hF6 ht; exact h _ _ m9 c9 f9) | exact h _ _ fin fcap ffr
theorem hD8 {A : AS} {fl : Int → Int} {nb vb d nm t : Int} {S : Tr} {R : Fl × Lg × Bool} (hP : IP A fl nb vb) (hS : TSA A fl S) (hd : d ∈ tNl S) (hfd : fl d = 1) (hm : nmR nm) (ho : TG (aF A) d nm = 0) (hft : fl t = 0) (hT : TG R.1 = gup (TG (aF A)) d nm t) : ∀ n, tD (TG R.1) fl n ↔ tD (TG (aF A)) fl n := fun n => by
  rw [hT]
  unfold tD
  have hne : ¬ dE (TG (aF A)) (dF (TG (aF A)) fl) d nm := fun z => by have := dF_e.mp z; omega
  rw [dF_gup]
  exact G1 hne (by by_cases c : t = 0; exact Or.inl c; rw [if_neg c, hft]; exact Or.inr (by decide)) n
theorem inE_keep {T T' : Int → Int → Int} {fl : Int → Int} {d nm t n : Int} (hD : ∀ n, tD T' fl n ↔ tD T fl n) (ho : T d nm = 0) (hT : T' = gup T d nm t) (h : inE T fl n) : n = 0 ∨ inE T' fl n := by
  obtain ⟨x, y, h1, h2, h3⟩ := h
  by_cases c : x = d ∧ y = nm
  · rw [c.1, c.2, ho] at h3; exact Or.inl h3.symm
  · exact Or.inr ⟨x, y, (hD x).mpr h1, h2, by rw [hT, gup_n _ _ c]; exact h3⟩
theorem sp_X6_link {μ : nMem} {ε : nEnv} {Q : nOut → nMem → nEnv → Prop} {A : AS} {nb vb d nm f : Int} {t : Nat} (hM : MC A nb vb μ ε) (hcap : Cap μ ε (t + 1)) (hnb : nb + 1 ≤ 2000) (hvb : vb + 2 ≤ 4000) (r1 : inR d) (r2 : inR nm) (r3 : inR f) (h : ∀ μ9 ε9, MC (actLink A d nm f).2 (nb + 1) (vb + 2) μ9 ε9 → Cap μ9 ε9 t → FrN μ ε μ9 ε9 → Q (oc (actLink A d nm f).1) μ9 ε9) : Sp mX6_link [vR 1, vI d, vI nm, vI f] μ ε Q := by
  refine Sp_of (L := [(0, vR 1), (1, vI d), (2, vI nm), (3, vI f)]) (by decide) rfl rfl (Nat.le_of_ble_eq_true rfl) ?_
  obtain ⟨S, hC6, hB, hIB, hDD, h56, hon⟩ := hM
  obtain ⟨hC, hL, hT⟩ := id hC6
  have hs := hC.1
  have hsT := hT.1
  have h20 := (hs 20 5 0 [] rfl (by decide)).1
  have hroom := Cap_room hcap
  have hF6 := Fr6_refl μ ε
  have hC6c := hC6
  unfold actLink at h
  refine wq_aload_n (pc := 0) dX6_link_0 rfl rfl ?_
  refine wq_iload_n (pc := 1) dX6_link_1 rfl rfl ?_
  refine cVK_1 (pc := 2) dX6_link_2 hs (cw_X6_48 _ rfl) (by decide) rfl ⟨by decide, by decide⟩ (Nat.le_of_ble_eq_true rfl) (sp_X6_directoryThere hC hDD hcap hT hB (by assumption) (fun hd hm hdr a ha => ?_) (fun hd e9 ht => ?_) (fun hd hn e9 ht => ?_))
  · skip
    refine kr_s ?_
    obtain ⟨fl, hP, hS⟩ := hon hd
    have ndk : ¬ dk A := fun z => by have z : fD (aF A) = 1 := z; omega
    have hdir : isDr A d := (isDr_iff hP hS d).mpr ⟨hm, hdr⟩
    rw [pI_0 ndk, pI_0 (fun z => z hdir)] at h
    refine wq_astore (pc := 5) (L' := [(4, _), (0, _), (1, _), (2, _), (3, _)]) dX6_link_5 rfl (by decide) ?_
    refine wq_aload_n (pc := 7) dX6_link_7 rfl rfl ?_
    refine wq_iload_n (pc := 8) dX6_link_8 rfl rfl ?_
    refine cVK_1 (pc := 9) dX6_link_9 hs (cw_X6_93 _ rfl) (by decide) rfl ⟨by decide, by decide⟩ (Nat.le_of_ble_eq_true rfl) (sp_X6_fileThere hC hDD hcap hT hB (by assumption) (fun hd2 hmf hdf b hbb => ?_) (fun hd2 e9 ht => ?_) (fun hd2 hn e9 ht => ?_))
    · skip
      refine kr_s ?_
      have hfil : isFl A f := (isFl_iff hP hS f).mpr ⟨hmf, hdf⟩
      rw [pI_0 (fun z => z hfil)] at h
      refine wq_astore (pc := 12) (L' := [(5, _), (4, _), (0, _), (1, _), (2, _), (3, _)]) dX6_link_12 rfl (by decide) ?_
      refine wq_aload_n (pc := 14) dX6_link_14 rfl rfl ?_
      refine wq_iload_n (pc := 15) dX6_link_15 rfl rfl ?_
      refine cVK_1 (pc := 16) dX6_link_16 hs (cw_X6_52 _ rfl) (by decide) rfl ⟨by decide, by decide⟩ (Nat.le_of_ble_eq_true rfl) (sp_X6_refuseWrongName hcap (by assumption) (fun hnm => ?_) (fun hnm e9 ht => ?_))
      · skip
        refine kr_v ?_
        rw [pI_0 (fun z => z hnm)] at h
        refine wq_aload_n (pc := 19) dX6_link_19 rfl rfl ?_
        refine wq_aload (pc := 20) dX6_link_20 rfl ?_
        refine wq_iload_n (pc := 22) dX6_link_22 rfl rfl ?_
        refine cVK_2 (pc := 23) dX6_link_23 hs (cw_X6_56 _ rfl) (by decide) rfl ⟨by decide, by decide⟩ (Nat.le_of_ble_eq_true rfl) (sp_X6_refuseTakenName hcap hT hB ha hnm (fun hfr => ?_) (fun hfr e9 ht => ?_))
        · skip
          refine kr_v ?_
          have hfd : fl d = 1 := by rw [← hS.2.1 d hm]; exact hdr
          have htg := (hS.2.2.1 d hm hfd).1 nm hnm
          rw [htg] at hfr
          rw [pI_0 (fun z => z hfr)] at h
          refine wq_aload_n (pc := 26) dX6_link_26 rfl rfl ?_
          refine wq_iconst (pc := 27) dX6_link_27 ?_
          refine wq_iconst (pc := 28) dX6_link_28 ?_
          refine cVK_2 (pc := 29) dX6_link_29 hs (cw_X6_60 _ rfl) (by decide) rfl ⟨by decide, by decide⟩ (Nat.le_of_ble_eq_true rfl) (sp_X6_refuseWithoutRoom hC hL hP.2.2.2.1.1 (PA_bd hP.2.1) hcap (by omega) (by omega) (fun hrm m2 t2 => ?_) (fun hrm m2 t2 e9 ht => ?_))
          · skip
            refine kr_v ?_
            rw [if_pos (by decide)] at hrm
            have hrm : rmA A [3] 1 := hrm
            rw [pI_0 (fun z => z hrm)] at h
            obtain ⟨⟨s1, hs1, hus⟩, hfr1⟩ := tr_fr (by omega) (by omega) hrm
            obtain ⟨C6b, K2, R2⟩ := C6_TrM hC6 t2
            have hcap2 := R2.2.2.2 _ hcap
            have hx8 := hP.2.2.2.2.2.2.2.1
            have hv9 := hP.2.2.2.2.2.2.2.2.1
            have hv3 : tFd S d 3 = aN A d := (hS.2.2.1 d hm hfd).2.2.2
            have hv3b := hv9 d
            have hdb : 1 ≤ d ∧ d < aX A := tD_b hP.2.2.2.2.2.2.1 ((TSW_tD hS hP.2.2.2.2.2.2.1 d).mpr ⟨hm, hfd⟩)
            have ha2 := K2 _ _ ha
            have hff : fl f = 0 := by rw [← hS.2.1 f hmf]; exact hdf
            have f1 : f ≠ 1 := fun z => by have := hP.2.2.2.2.2.2.1.1; rw [z] at hff; omega
            have fb : 2 ≤ f ∧ f < aX A := by
              obtain ⟨q0, x, y, -, -, q⟩ := ((hS.1 f).mp hmf).resolve_left f1
              have := hP.2.2.2.2.2.2.1.2.2.1 x y
              omega
            have hb2 := K2 _ _ hbb
            have N := IP_name (nb := nb + 1) (d := d) (nm := nm) (t := f) (nx' := aX A) (IP_mono hP (by omega) (Int.le_refl vb)) (by omega) (by omega) hdb hnm (by omega) (by omega) hfr1 rfl
            rw [if_neg (show ¬ f = 0 by omega), hff] at N
            unfold actLink1 at h
            refine wq_aload_n (pc := 32) dX6_link_32 rfl rfl ?_
            refine wq_aload (pc := 33) dX6_link_33 rfl ?_
            refine wq_iload_n (pc := 35) dX6_link_35 rfl rfl ?_
            refine wq_iload_n (pc := 36) dX6_link_36 rfl rfl ?_
            refine wq_iconst (pc := 37) dX6_link_37 ?_
            refine cVK_4 (pc := 38) dX6_link_38 hs (cw_X6_76 _ rfl) (by decide) rfl ⟨by decide, by decide⟩ (Nat.le_of_ble_eq_true rfl) (sp_X6_putName C6b.1 C6b.2.1 C6b.2.2 hB (PL_wfP hP.2.1 hP.2.2.2.1) hcap2 ha2 hfr1 (by omega) (by omega) hnm (by omega) (by first | exact Or.inl rfl | exact Or.inr rfl) (fun hr5 m5 e5 C5 R5 K5 => ?_) (fun hr5 m5 e5 C5 R5 K5 => ?_))
            · skip
              refine kr_s ?_
              rw [show nmSrc d (tFd S d 3 + 1) nm f 0 = nmSrc d (aN A d + 1) nm f 0 by rw [hv3]] at hr5 C5
              generalize lPut (aF A) (aG A) (nmSrc d (aN A d + 1) nm f 0) = R at hr5 C5 N h
              rw [if_pos hr5] at h
              obtain ⟨N1, N2⟩ := N.2 hr5
              have fin : MC (R.1, R.2.1, aX A, aD A, aN A) (nb + 1) (vb + 2) m5 e5 := MC_off C5 (tB_ver hB hm (by omega)) (by rw [(R5.2.1 25 h56).1]; exact h56) N1 N2 (by omega) (by omega) (by omega)
              have fcap := Cap_mono (R5.2.2.2 _ hcap2) (Nat.le_succ t)
              have ffr := FrN_6 (Fr6_trans R2 R5)
              refine wq_if_ne (pc := 41) (tgt := 47) dX6_link_41 (by decide) (by first | (unfold inR; omega) | assumption) (fun c => absurd c (by decide)) (fun _ => ?_)
              refine wq_bipush (pc := 44) dX6_link_44 (by decide) (by decide) ?_
              refine wq_iret (pc := 46) dX6_link_46 rfl ?_
              first | exact z9.elim | (obtain ⟨m9, c9, f9⟩ := MC_x hC6c hB hIB hDD h56 hon hnb hcap hF6 ht; exact h _ _ m9 c9 f9) | exact h _ _ fin fcap ffr
            · skip
              refine kr_s ?_
              rw [show nmSrc d (tFd S d 3 + 1) nm f 0 = nmSrc d (aN A d + 1) nm f 0 by rw [hv3]] at hr5 C5
              generalize lPut (aF A) (aG A) (nmSrc d (aN A d + 1) nm f 0) = R at hr5 C5 N h
              rw [if_neg (by rw [hr5]; decide)] at h
              obtain ⟨N1, N2, N3, N4, N5, N6, N7, N8⟩ := N.1 hr5
              have hs := C5.1.1
              have hsT := C5.2.2.1
              have h565 : eKind e5 25 ≠ 0 := by rw [(R5.2.1 25 h56).1]; exact h56
              have hcap5 := R5.2.2.2 _ hcap2
              have hA5 := K5 _ _ ha2
              have h0S : (0 : Int) ∉ tNl S := fun z => by rcases (hS.1 0).mp z with q | q; omega; exact q.1 rfl
              have hBv := tB_ver hB hm (show tFd S d 3 ≤ 99999 by omega)
              have hb5 := K5 _ _ hb2
              refine wq_if_ne (pc := 41) (tgt := 47) dX6_link_41 (by decide) (by first | (unfold inR; omega) | assumption) (fun _ => ?_) (fun c => absurd c (by decide))
              refine wq_aload_n (pc := 47) dX6_link_47 rfl rfl ?_
              refine wq_getS (pc := 48) dX6_link_48 hs (gf_X6_28 _ rfl) rfl rfl rfl rfl rfl ?_
              refine wq_aload (pc := 51) dX6_link_51 rfl ?_
              refine wq_iload_n (pc := 53) dX6_link_53 rfl rfl ?_
              refine wq_aload (pc := 54) dX6_link_54 rfl ?_
              refine cVK_3 (pc := 56) dX6_link_56 hsT (cw_X6_89 _ rfl) (by decide) rfl ⟨by decide, by decide⟩ (Nat.le_of_ble_eq_true rfl) (sx_X5_assign C5.2.2 hBv h0S hA5 hb5 (by omega) (fun m8 S8 hA8 T8 F8 K8 => ?_))
              refine kr_v ?_
              obtain ⟨C6g, R8⟩ := C6_T C5 T8 F8
              obtain ⟨Z1, Z2⟩ := put_fin (R := R) (nb := nb + 1) (vb := vb + 1) (IP_mono hP (by omega) (by omega)) hS hm hfd hnm (Or.inl hfr) ⟨hmf, f1⟩ (fun z => by omega) (fun w => IP_mono (N1 w) (Int.le_refl _) (by omega)) N2 N3 N4 hA8
              have fin := MC_on (A := (R.1, R.2.1, aX A, aD A, bump (aN A) d)) (nb := nb + 1) (vb := vb + 2) C6g h565 (IP_mono Z1 (Int.le_refl _) (by omega)) Z2 (by omega) (by omega)
              have fcap := Cap_mono (R8.2.2.2 _ hcap5) (Nat.le_succ t)
              have ffr := FrN_6 (Fr6_trans R2 (Fr6_trans R5 R8))
              have hT1 : TG R.1 = gup (TG (aF A)) d nm f := N2
              have fin8 : f ∈ tNl S8 := (Z2.1 f).mpr (Or.inr ⟨by omega, d, nm, (TSW_tD Z2 Z1.2.2.2.2.2.2.1 d).mpr ⟨(Z2.1 d).mpr (by rcases (hS.1 d).mp hm with q | ⟨q0, q⟩; exact Or.inl q; exact Or.inr ⟨q0, (inE_keep (hD8 hP hS hm hfd hnm hfr hff hT1) hfr hT1 q).resolve_left q0⟩), hfd⟩, hnm, by show TG R.1 d nm = f; rw [hT1, gup_e]⟩)
              have hb8 := K8 _ _ fin8 hb5
              have hlk := (tAt_is T8 hb8).2.1 4 (by omega) (by omega)
              rw [IP_lk Z1 Z2 fin8] at hlk
              obtain ⟨bz0, bzI, -, -⟩ := tAt_sh T8 hb8
              obtain ⟨hkb, -, -⟩ := id bzI
              refine wq_aload (pc := 59) dX6_link_59 rfl ?_
              refine wq_getI (pc := 61) (kk := 4) dX6_link_61 (gf_X6_96 _ rfl) (by with_reducible assumption) rfl rfl rfl ?_
              rw [hlk]
              refine wq_iret (pc := 64) dX6_link_64 rfl ?_
              first | exact z9.elim | (obtain ⟨m9, c9, f9⟩ := MC_x hC6c hB hIB hDD h56 hon hnb hcap hF6 ht; exact h _ _ m9 c9 f9) | exact h _ _ fin fcap ffr
          · skip
            refine kr_x ?_
            rw [if_pos (by decide)] at hrm
            have hrm : ¬ rmA A [3] 1 := hrm
            rw [pI_1 hrm] at h
            obtain ⟨hC6c, K2, hF6⟩ := C6_TrM hC6 t2
            first | exact z9.elim | (obtain ⟨m9, c9, f9⟩ := MC_x hC6c hB hIB hDD h56 hon hnb hcap hF6 ht; exact h _ _ m9 c9 f9) | exact h _ _ fin fcap ffr
        · skip
          refine kr_x ?_
          have hfd : fl d = 1 := by rw [← hS.2.1 d hm]; exact hdr
          have htg := (hS.2.2.1 d hm hfd).1 nm hnm
          rw [htg] at hfr
          rw [pI_1 hfr] at h
          first | exact z9.elim | (obtain ⟨m9, c9, f9⟩ := MC_x hC6c hB hIB hDD h56 hon hnb hcap hF6 ht; exact h _ _ m9 c9 f9) | exact h _ _ fin fcap ffr
      · skip
        refine kr_x ?_
        rw [pI_1 hnm] at h
        first | exact z9.elim | (obtain ⟨m9, c9, f9⟩ := MC_x hC6c hB hIB hDD h56 hon hnb hcap hF6 ht; exact h _ _ m9 c9 f9) | exact h _ _ fin fcap ffr
    · skip
      refine kr_x ?_
      have z9 : False := by omega
      first | exact z9.elim | (obtain ⟨m9, c9, f9⟩ := MC_x hC6c hB hIB hDD h56 hon hnb hcap hF6 ht; exact h _ _ m9 c9 f9) | exact h _ _ fin fcap ffr
    · skip
      refine kr_x ?_
      have hnfil : ¬ isFl A f := fun z => by have z := (isFl_iff hP hS f).mp z; rcases hn with q | q; exact q z.1; exact q z.2
      rw [pI_1 hnfil] at h
      first | exact z9.elim | (obtain ⟨m9, c9, f9⟩ := MC_x hC6c hB hIB hDD h56 hon hnb hcap hF6 ht; exact h _ _ m9 c9 f9) | exact h _ _ fin fcap ffr
  · skip
    refine kr_x ?_
    rw [pI_1 (show dk A from hd)] at h
    first | exact z9.elim | (obtain ⟨m9, c9, f9⟩ := MC_x hC6c hB hIB hDD h56 hon hnb hcap hF6 ht; exact h _ _ m9 c9 f9) | exact h _ _ fin fcap ffr
  · skip
    refine kr_x ?_
    obtain ⟨fl, hP, hS⟩ := hon hd
    have ndk : ¬ dk A := fun z => by have z : fD (aF A) = 1 := z; omega
    have hndir : ¬ isDr A d := fun z => by have z := (isDr_iff hP hS d).mp z; rcases hn with q | q; exact q z.1; exact q z.2
    rw [pI_0 ndk, pI_1 hndir] at h
    first | exact z9.elim | (obtain ⟨m9, c9, f9⟩ := MC_x hC6c hB hIB hDD h56 hon hnb hcap hF6 ht; exact h _ _ m9 c9 f9) | exact h _ _ fin fcap ffr
