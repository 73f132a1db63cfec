abbrev afterD (A : AS) (f : Int) (R : Fl × Lg × Bool) : AS := (R.1, R.2.1, aX A, bump (aD A) f, aN A)
noncomputable def actData1 (A : AS) (f v : Int) (R : Fl × Lg × Bool) : Ans × AS := if R.2.2 = false then (.inl (-9), afterX A R) else (.inl v, afterD A f R)
abbrev okWr (off n : Int) : Prop := (0 ≤ off ∧ off < 64) ∧ 1 ≤ n ∧ n ≤ 8 ∧ n ≤ 64 - off
noncomputable def actWrite (A : AS) (f off b n : Int) : Ans × AS :=
  pI (dk A) (.inr xS, A) (pI (¬ isFl A f) (.inr xI, A) (pI (¬ okWr off n) (.inr xA, A) (pI (¬ rmA A [2 + n] 1) (.inr xS, A)
    (actData1 A f (max (LN (aF A) f) (off + n)) (lPut (aF A) (aG A) (dbSrc f (aD A f + 1) off (max (LN (aF A) f) (off + n)) b n))))))
noncomputable def actTrunc (A : AS) (f z : Int) : Ans × AS :=
  pI (dk A) (.inr xS, A) (pI (¬ isFl A f) (.inr xI, A) (pI (¬ (0 ≤ z ∧ z ≤ 64)) (.inr xA, A) (pI (¬ rmA A [2] 1) (.inr xS, A)
    (actData1 A f (LN (aF A) f) (lPut (aF A) (aG A) (dbSrc f (aD A f + 1) 0 z 0 0))))))
theorem dtSrc_of2 (m : nMem) (f v o z b n : Int) : nSrc (mBytes (mData m 20 f v o z) 20 b n 20) = dbSrc f v o z b n := by
  funext k
  have m5 : mData m 20 f v o z 20 5 = o := by rw [mData_v, if_pos ⟨rfl, by omega, by omega⟩]; rfl
  unfold nSrc dbSrc
  by_cases h : 0 ≤ k ∧ k ≤ 11
  · rw [if_pos h, mBytes_v, m5]
    by_cases c : k = 1 ∨ k = 6 ∨ k = 7 ∨ k = 8
    · rw [if_pos ⟨rfl, c⟩]
      (repeat' split) <;> first | rfl | omega
    · rw [if_neg (fun z => c z.2), mData_v, if_pos ⟨rfl, h.1, by omega⟩]
      (repeat' split) <;> first | rfl | omega
  · rw [if_neg h, if_neg (by omega), if_neg (by omega), if_neg (by omega), if_neg (by omega), if_neg (by omega), if_neg (by omega), if_neg (by omega), if_neg (by omega), if_neg (by omega)]
theorem data_fin {A : AS} {fl : Int → Int} {nb vb f o z b n : Int} {S : Tr} {R : Fl × Lg × Bool} (hS : TSA A fl S) (hf : f ∈ tNl S) (hff : fl f = 0) (hR : IP (afterD A f R) fl nb vb) (e1 : TG R.1 = TG (aF A)) (e2 : LN R.1 = fun x => if x = f then z else LN (aF A) x) (e3 : BY R.1 = fun x p => if x = f ∧ sSet (dbSrc f (aD A f + 1) o z b n) p then sByt (dbSrc f (aD A f + 1) o z b n) p else BY (aF A) x p) :
    TSA (afterD A f R) fl (tLayS (dbSrc f (aD A f + 1) o z b n) f S) := by
  have := TSW_lay (s := dbSrc f (aD A f + 1) o z b n) hS hf hff rfl
  show TSW (TG R.1) fl (LN R.1) (BY R.1) (bump (aD A) f) (aN A) (aX A) _
  rw [e1, e2, e3]
  exact this
theorem IP_f {A : AS} {fl : Int → Int} {nb vb f : Int} {S : Tr} (hP : IP A fl nb vb) (hS : TSA A fl S) (hm : f ∈ tNl S) (hff : fl f = 0) : 2 ≤ f ∧ f < aX A := by
  have f1 : f ≠ 1 := fun z => by have := hP.2.2.2.2.2.2.1.1; rw [z] at hff; omega
  obtain ⟨q0, x, y, -, -, q⟩ := ((hS.1 f).mp hm).resolve_left f1
  have := hP.2.2.2.2.2.2.1.2.2.1 x y
  omega
theorem sp_X6_truncate {μ : nMem} {ε : nEnv} {Q : nOut → nMem → nEnv → Prop} {A : AS} {nb vb f z : Int} {t : Nat} (hM : MC A nb vb μ ε) (hcap : Cap μ ε (t + 1)) (hnb : nb + 1 ≤ 2000) (hvb : vb + 2 ≤ 4000) (r1 : inR f) (r2 : inR z) (h : ∀ μ9 ε9, MC (actTrunc A f z).2 (nb + 1) (vb + 2) μ9 ε9 → Cap μ9 ε9 t → FrN μ ε μ9 ε9 → Q (oc (actTrunc A f z).1) μ9 ε9) : Sp mX6_truncate [vR 1, vI f, vI z] μ ε Q := by
  refine Sp_of (L := [(0, vR 1), (1, vI f), (2, vI z)]) (by decide) rfl rfl (Nat.le_of_ble_eq_true rfl) ?_
  obtain ⟨S, hC6, hB, hIB, hDD, h56, hon⟩ := hM
  obtain ⟨hC, hL, hT⟩ := id hC6
  have hs := hC.1
  have hsT := hT.1
  have h20 := (hs 20 5 0 [] rfl (by decide)).1
  have hroom := Cap_room hcap
  have hF6 := Fr6_refl μ ε
  have hC6c := hC6
  unfold actTrunc at h
  refine wq_aload_n (pc := 0) dX6_truncate_0 rfl rfl ?_
  refine wq_iload_n (pc := 1) dX6_truncate_1 rfl rfl ?_
  refine cVK_1 (pc := 2) dX6_truncate_2 hs (cw_X6_93 _ rfl) (by decide) rfl ⟨by decide, by decide⟩ (Nat.le_of_ble_eq_true rfl) (sp_X6_fileThere hC hDD hcap hT hB (by assumption) (fun hd hm hdr a ha => ?_) (fun hd e9 ht => ?_) (fun hd hn e9 ht => ?_))
  · skip
    refine kr_s ?_
    obtain ⟨fl, hP, hS⟩ := hon hd
    have ndk : ¬ dk A := fun z => by have z : fD (aF A) = 1 := z; omega
    have hfil : isFl A f := (isFl_iff hP hS f).mpr ⟨hm, hdr⟩
    rw [pI_0 ndk, pI_0 (fun z => z hfil)] at h
    have hff : fl f = 0 := by rw [← hS.2.1 f hm]; exact hdr
    have fb := IP_f hP hS hm hff
    have hv9 := hP.2.2.2.2.2.2.2.2.1 f
    have hx8 := hP.2.2.2.2.2.2.2.1
    obtain ⟨g6, gc, g5, g3⟩ := hS.2.2.2.1 f hm hff
    have hLb := LN_b (PA_NS hP.2.1) f
    obtain ⟨az0, azI, azw, -⟩ := tAt_sh hT ha
    obtain ⟨hka, -, -⟩ := id azI
    refine wq_astore_n (pc := 5) (L' := [(3, _), (0, _), (1, _), (2, _)]) dX6_truncate_5 rfl rfl (by decide) ?_
    refine wq_iload_n (pc := 6) dX6_truncate_6 rfl rfl ?_
    refine wq_if_lt (pc := 7) (tgt := 16) dX6_truncate_7 (by decide) (by first | (unfold inR; omega) | assumption) (fun c4 => ?_) (fun c4 => ?_)
    · skip
      rw [pI_1 (show ¬ (0 ≤ z ∧ z ≤ 64) by omega)] at h
      refine wq_throw (pc := 16) dX6_truncate_16 dX6_truncate_19 dX6_truncate_20 dX6_truncate_22 dX6_truncate_25 rfl th_A ks_X6_155 (by decide) (by decide) (Nat.le_of_ble_eq_true rfl) hroom (fun ε' ht => ?_)
      first | (obtain ⟨m9, c9, f9⟩ := MC_x hC6c hB hIB hDD h56 hon hnb hcap hF6 ht; exact h _ _ m9 c9 f9) | exact h _ _ fin fcap ffr
    · skip
      refine wq_iload_n (pc := 10) dX6_truncate_10 rfl rfl ?_
      refine wq_bipush (pc := 11) dX6_truncate_11 (by decide) (by decide) ?_
      refine wq_icmp_le (pc := 13) (tgt := 26) dX6_truncate_13 (by decide) (by first | (unfold inR; omega) | assumption) (by first | (unfold inR; omega) | assumption) (fun c5 => ?_) (fun c5 => ?_)
      · skip
        have hz : 0 ≤ z ∧ z ≤ 64 := by omega
        rw [pI_0 (fun q => q hz)] at h
        refine wq_aload_n (pc := 26) dX6_truncate_26 rfl rfl ?_
        refine wq_iconst (pc := 27) dX6_truncate_27 ?_
        refine wq_iconst (pc := 28) dX6_truncate_28 ?_
        refine cVK_2 (pc := 29) dX6_truncate_29 hs (cw_X6_60 _ rfl) (by decide) rfl ⟨by decide, by decide⟩ (Nat.le_of_ble_eq_true rfl) (sp_X6_refuseWithoutRoom hC hL hP.2.2.2.1.1 (PA_bd hP.2.1) hcap (by omega) (by omega) (fun hrm m2 t2 => ?_) (fun hrm m2 t2 e9 ht => ?_))
        · skip
          refine kr_v ?_
          rw [if_pos (by decide)] at hrm
          have hrm : rmA A [2] 1 := hrm
          rw [pI_0 (fun z => z hrm)] at h
          obtain ⟨⟨s1, hs1, hus⟩, hfr1⟩ := tr_fr (by omega) (by omega) hrm
          obtain ⟨C6b, K2, R2⟩ := C6_TrM hC6 t2
          have hcap2 := R2.2.2.2 _ hcap
          have ha2 := K2 _ _ ha
          have ha26 : m2 a 6 = LN (aF A) f := by rw [(tAt_is C6b.2.2 ha2).2.1 6 (by omega) (by omega), g6]
          have ha23 : m2 a 3 = aD A f := by rw [(tAt_is C6b.2.2 ha2).2.1 3 (by omega) (by omega), g3]
          refine wq_aload_n (pc := 32) dX6_truncate_32 rfl rfl ?_
          refine wq_getI (pc := 33) (kk := 6) dX6_truncate_33 (gf_X6_138 _ rfl) (by with_reducible assumption) rfl rfl rfl ?_
          rw [ha26]
          refine wq_istore (pc := 36) (L' := [(4, _), (3, _), (0, _), (1, _), (2, _)]) dX6_truncate_36 rfl (by decide) ?_
          refine wq_aload_n (pc := 38) dX6_truncate_38 rfl rfl ?_
          refine wq_getS (pc := 39) dX6_truncate_39 hs (gf_X6_44 _ rfl) rfl rfl rfl rfl rfl ?_
          refine wq_iload_n (pc := 42) dX6_truncate_42 rfl rfl ?_
          refine wq_aload_n (pc := 43) dX6_truncate_43 rfl rfl ?_
          refine wq_getI (pc := 44) (kk := 3) dX6_truncate_44 (gf_X6_84 _ rfl) (by with_reducible assumption) rfl rfl rfl ?_
          refine wq_iconst (pc := 47) dX6_truncate_47 ?_
          refine wq_iadd (pc := 48) dX6_truncate_48 ?_
          refine wq_iconst (pc := 49) dX6_truncate_49 ?_
          refine wq_iload_n (pc := 50) dX6_truncate_50 rfl rfl ?_
          refine cVK_4 (pc := 51) dX6_truncate_51 hs (cw_X6_68 _ rfl) (by decide) rfl ⟨by decide, by decide⟩ (Nat.le_of_ble_eq_true rfl) (sp_X4_becomeData h20 ?_)
          refine kr_v ?_
          rw [ha23]
          have hm20 := fun x j (hx : x ≠ 20) => (mData_v m2 20 f (aD A f + 1) 0 z x j).trans (if_neg (fun q => hx q.1))
          have hsr : nSrc (mData m2 20 f (aD A f + 1) 0 z 20) = dbSrc f (aD A f + 1) 0 z 0 0 := dtSrc_of m2 f (aD A f + 1) z
          have hv := fun j (j0 : 0 ≤ j) (j1 : j ≤ 13) => (mData_v m2 20 f (aD A f + 1) 0 z 20 j).trans (if_pos ⟨rfl, j0, j1⟩)
          generalize mData m2 20 f (aD A f + 1) 0 z = m3 at hm20 hsr hv ⊢
          obtain ⟨C6c, K3, R3⟩ := C6_20 C6b hm20
          have w0 := hv 0 (by omega) (by omega)
          have w1 := hv 1 (by omega) (by omega)
          have w2 := hv 2 (by omega) (by omega)
          have w3 := hv 3 (by omega) (by omega)
          have w4 := hv 4 (by omega) (by omega)
          have w5 := hv 5 (by omega) (by omega)
          have w6 := hv 6 (by omega) (by omega)
          have w9 := hv 9 (by omega) (by omega)
          have w10 := hv 10 (by omega) (by omega)
          have w11 := hv 11 (by omega) (by omega)
          have w12 := hv 12 (by omega) (by omega)
          have w13 := hv 13 (by omega) (by omega)
          simp at w0 w1 w2 w3 w4 w5 w6 w9 w10 w11 w12 w13
          have hnb20 : nB m3 20 := by unfold nB; rw [w0, w1, w2, w3, w4, w5, w6, w9, w10, w11, w12, w13]; omega
          have hcap3 := R3.2.2.2 _ hcap2
          have ha3 := K3 _ _ ha2
          have N := IP_data (nb := nb + 1) (nx' := aX A) (f := f) (o := 0) (z := z) (b := 0) (n := 0) (IP_mono hP (by omega) (Int.le_refl vb)) (by omega) (by omega) fb (by omega) (by omega) (by omega) (by omega) hfr1 rfl
          unfold actData1 at h
          refine wq_aload_n (pc := 54) dX6_truncate_54 rfl rfl ?_
          refine wq_aload_n (pc := 55) dX6_truncate_55 rfl rfl ?_
          refine cVK_1 (pc := 56) dX6_truncate_56 hs (cw_X6_151 _ rfl) (by decide) rfl ⟨by decide, by decide⟩ (Nat.le_of_ble_eq_true rfl) (sp_X6_putContent C6c.1 C6c.2.1 C6c.2.2 hB (PL_wfP hP.2.1 hP.2.2.2.1) hcap3 ha3 (by rw [w1]; exact hfr1) hnb20 (by omega) hsr (fun hr m5 e5 C5 R5 K5 => ?_) (fun hr m5 e5 C5 R5 K5 => ?_))
          · skip
            refine kr_s ?_
            generalize lPut (aF A) (aG A) (dbSrc f (aD A f + 1) 0 z 0 0) = R at hr C5 N h
            rw [if_pos hr] at h
            obtain ⟨D1, D2⟩ := N.2 hr
            have fin : MC (R.1, R.2.1, aX A, aD A, aN A) (nb + 1) (vb + 2) m5 e5 := MC_off C5 hB (by rw [(R5.2.1 25 h56).1]; exact h56) D1 D2 (by omega) (by omega) (by omega)
            have fcap := Cap_mono (R5.2.2.2 _ hcap3) (Nat.le_succ t)
            have ffr := FrN_6 (Fr6_trans R2 (Fr6_trans R3 R5))
            refine wq_if_eq (pc := 59) (tgt := 67) dX6_truncate_59 (by decide) (by first | (unfold inR; omega) | assumption) (fun _ => ?_) (fun c => absurd c (by decide))
            refine wq_bipush (pc := 67) dX6_truncate_67 (by decide) (by decide) ?_
            refine wq_iret (pc := 69) dX6_truncate_69 rfl ?_
            first | (obtain ⟨m9, c9, f9⟩ := MC_x hC6c hB hIB hDD h56 hon hnb hcap hF6 ht; exact h _ _ m9 c9 f9) | exact h _ _ fin fcap ffr
          · skip
            refine kr_s ?_
            generalize lPut (aF A) (aG A) (dbSrc f (aD A f + 1) 0 z 0 0) = R at hr C5 N h
            rw [if_neg (by rw [hr]; decide)] at h
            obtain ⟨D1, D2, D3, D4, -⟩ := N.1 hr
            have Z2 := data_fin (R := R) hS hm hff D1 D2 D3 D4
            have h565 : eKind e5 25 ≠ 0 := by rw [(R5.2.1 25 h56).1]; exact h56
            have fin := MC_on (A := afterD A f R) (nb := nb + 1) (vb := vb + 2) C5 h565 (IP_mono D1 (Int.le_refl _) (by omega)) Z2 (by omega) (by omega)
            have fcap := Cap_mono (R5.2.2.2 _ hcap3) (Nat.le_succ t)
            have ffr := FrN_6 (Fr6_trans R2 (Fr6_trans R3 R5))
            have ha5 := K5 _ _ ha3
            have hsz := (tAt_is C5.2.2 ha5).2.1 6 (by omega) (by omega)
            have hs := C5.1.1
            have hsT := C5.2.2.1
            obtain ⟨az50, azI5, azw5, -⟩ := tAt_sh C5.2.2 ha5
            obtain ⟨hka5, -, -⟩ := id azI5
            have hsz2 : tFd (tLayS (dbSrc f (aD A f + 1) 0 z 0 0) f S) f 6 = (dbSrc f (aD A f + 1) 0 z 0 0) 9 := if_pos ⟨rfl, rfl⟩
            rw [hsz2] at hsz
            refine wq_if_eq (pc := 59) (tgt := 67) dX6_truncate_59 (by decide) (by first | (unfold inR; omega) | assumption) (fun c => absurd c (by decide)) (fun _ => ?_)
            refine wq_iload (pc := 62) dX6_truncate_62 rfl ?_
            refine wq_goto (pc := 64) (tgt := 69) dX6_truncate_64 (by decide) ?_
            refine wq_iret (pc := 69) dX6_truncate_69 rfl ?_
            first | (obtain ⟨m9, c9, f9⟩ := MC_x hC6c hB hIB hDD h56 hon hnb hcap hF6 ht; exact h _ _ m9 c9 f9) | exact h _ _ fin fcap ffr
        · skip
          refine kr_x ?_
          rw [if_pos (by decide)] at hrm
          have hrm : ¬ rmA A [2] 1 := hrm
          rw [pI_1 hrm] at h
          obtain ⟨hC6c, K2, hF6⟩ := C6_TrM hC6 t2
          first | (obtain ⟨m9, c9, f9⟩ := MC_x hC6c hB hIB hDD h56 hon hnb hcap hF6 ht; exact h _ _ m9 c9 f9) | exact h _ _ fin fcap ffr
      · skip
        rw [pI_1 (show ¬ (0 ≤ z ∧ z ≤ 64) by omega)] at h
        refine wq_throw (pc := 16) dX6_truncate_16 dX6_truncate_19 dX6_truncate_20 dX6_truncate_22 dX6_truncate_25 rfl th_A ks_X6_155 (by decide) (by decide) (Nat.le_of_ble_eq_true rfl) hroom (fun ε' ht => ?_)
        first | (obtain ⟨m9, c9, f9⟩ := MC_x hC6c hB hIB hDD h56 hon hnb hcap hF6 ht; exact h _ _ m9 c9 f9) | exact h _ _ fin fcap ffr
  · skip
    refine kr_x ?_
    rw [pI_1 (show dk A from hd)] at h
    first | (obtain ⟨m9, c9, f9⟩ := MC_x hC6c hB hIB hDD h56 hon hnb hcap hF6 ht; exact h _ _ m9 c9 f9) | exact h _ _ fin fcap ffr
  · skip
    refine kr_x ?_
    obtain ⟨fl, hP, hS⟩ := hon hd
    have ndk : ¬ dk A := fun z => by have z : fD (aF A) = 1 := z; omega
    have hnfil : ¬ isFl A f := fun z => by have z := (isFl_iff hP hS f).mp z; rcases hn with q | q; exact q z.1; exact q z.2
    rw [pI_0 ndk, pI_1 hnfil] at h
    first | (obtain ⟨m9, c9, f9⟩ := MC_x hC6c hB hIB hDD h56 hon hnb hcap hF6 ht; exact h _ _ m9 c9 f9) | exact h _ _ fin fcap ffr
theorem sp_X6_write {μ : nMem} {ε : nEnv} {Q : nOut → nMem → nEnv → Prop} {A : AS} {nb vb f off b n : Int} {t : Nat} (hM : MC A nb vb μ ε) (hcap : Cap μ ε (t + 1)) (hnb : nb + 1 ≤ 2000) (hvb : vb + 2 ≤ 4000) (r1 : inR f) (r2 : inR off) (r3 : inR n) (h : ∀ μ9 ε9, MC (actWrite A f off b n).2 (nb + 1) (vb + 2) μ9 ε9 → Cap μ9 ε9 t → FrN μ ε μ9 ε9 → Q (oc (actWrite A f off b n).1) μ9 ε9) : Sp mX6_write [vR 1, vI f, vI off, vJ b, vI n] μ ε Q := by
  refine Sp_of (L := [(0, vR 1), (1, vI f), (2, vI off), (3, vJ b), (5, vI n)]) (by decide) rfl rfl (Nat.le_of_ble_eq_true rfl) ?_
  obtain ⟨S, hC6, hB, hIB, hDD, h56, hon⟩ := hM
  obtain ⟨hC, hL, hT⟩ := id hC6
  have hs := hC.1
  have hsT := hT.1
  have h20 := (hs 20 5 0 [] rfl (by decide)).1
  have hroom := Cap_room hcap
  have hF6 := Fr6_refl μ ε
  have hC6c := hC6
  unfold actWrite at h
  refine wq_aload_n (pc := 0) dX6_write_0 rfl rfl ?_
  refine wq_iload_n (pc := 1) dX6_write_1 rfl rfl ?_
  refine cVK_1 (pc := 2) dX6_write_2 hs (cw_X6_93 _ rfl) (by decide) rfl ⟨by decide, by decide⟩ (Nat.le_of_ble_eq_true rfl) (sp_X6_fileThere hC hDD hcap hT hB (by assumption) (fun hd hm hdr a ha => ?_) (fun hd e9 ht => ?_) (fun hd hn e9 ht => ?_))
  · skip
    refine kr_s ?_
    obtain ⟨fl, hP, hS⟩ := hon hd
    have ndk : ¬ dk A := fun z => by have z : fD (aF A) = 1 := z; omega
    have hfil : isFl A f := (isFl_iff hP hS f).mpr ⟨hm, hdr⟩
    rw [pI_0 ndk, pI_0 (fun z => z hfil)] at h
    have hff : fl f = 0 := by rw [← hS.2.1 f hm]; exact hdr
    have fb := IP_f hP hS hm hff
    have hv9 := hP.2.2.2.2.2.2.2.2.1 f
    have hx8 := hP.2.2.2.2.2.2.2.1
    obtain ⟨g6, gc, g5, g3⟩ := hS.2.2.2.1 f hm hff
    have hLb := LN_b (PA_NS hP.2.1) f
    obtain ⟨az0, azI, azw, -⟩ := tAt_sh hT ha
    obtain ⟨hka, -, -⟩ := id azI
    refine wq_astore (pc := 5) (L' := [(6, _), (0, _), (1, _), (2, _), (3, _), (5, _)]) dX6_write_5 rfl (by decide) ?_
    refine wq_iload_n (pc := 7) dX6_write_7 rfl rfl ?_
    refine wq_if_lt (pc := 8) (tgt := 17) dX6_write_8 (by decide) (by first | (unfold inR; omega) | assumption) (fun c4 => ?_) (fun c4 => ?_)
    · skip
      rw [pI_1 (show ¬ okWr off n by omega)] at h
      refine wq_throw (pc := 17) dX6_write_17 dX6_write_20 dX6_write_21 dX6_write_23 dX6_write_26 rfl th_A ks_X6_133 (by decide) (by decide) (Nat.le_of_ble_eq_true rfl) hroom (fun ε' ht => ?_)
      first | (obtain ⟨m9, c9, f9⟩ := MC_x hC6c hB hIB hDD h56 hon hnb hcap hF6 ht; exact h _ _ m9 c9 f9) | exact h _ _ fin fcap ffr
    · skip
      refine wq_iload_n (pc := 11) dX6_write_11 rfl rfl ?_
      refine wq_bipush (pc := 12) dX6_write_12 (by decide) (by decide) ?_
      refine wq_icmp_lt (pc := 14) (tgt := 27) dX6_write_14 (by decide) (by first | (unfold inR; omega) | assumption) (by first | (unfold inR; omega) | assumption) (fun c5 => ?_) (fun c5 => ?_)
      · skip
        refine wq_iload (pc := 27) dX6_write_27 rfl ?_
        refine wq_iconst (pc := 29) dX6_write_29 ?_
        refine wq_icmp_lt (pc := 30) (tgt := 49) dX6_write_30 (by decide) (by first | (unfold inR; omega) | assumption) (by first | (unfold inR; omega) | assumption) (fun c6 => ?_) (fun c6 => ?_)
        · skip
          rw [pI_1 (show ¬ okWr off n by omega)] at h
          refine wq_throw (pc := 49) dX6_write_49 dX6_write_52 dX6_write_53 dX6_write_55 dX6_write_58 rfl th_A ks_X6_136 (by decide) (by decide) (Nat.le_of_ble_eq_true rfl) hroom (fun ε' ht => ?_)
          first | (obtain ⟨m9, c9, f9⟩ := MC_x hC6c hB hIB hDD h56 hon hnb hcap hF6 ht; exact h _ _ m9 c9 f9) | exact h _ _ fin fcap ffr
        · skip
          refine wq_iload (pc := 33) dX6_write_33 rfl ?_
          refine wq_bipush (pc := 35) dX6_write_35 (by decide) (by decide) ?_
          refine wq_icmp_gt (pc := 37) (tgt := 49) dX6_write_37 (by decide) (by first | (unfold inR; omega) | assumption) (by first | (unfold inR; omega) | assumption) (fun c7 => ?_) (fun c7 => ?_)
          · skip
            rw [pI_1 (show ¬ okWr off n by omega)] at h
            refine wq_throw (pc := 49) dX6_write_49 dX6_write_52 dX6_write_53 dX6_write_55 dX6_write_58 rfl th_A ks_X6_136 (by decide) (by decide) (Nat.le_of_ble_eq_true rfl) hroom (fun ε' ht => ?_)
            first | (obtain ⟨m9, c9, f9⟩ := MC_x hC6c hB hIB hDD h56 hon hnb hcap hF6 ht; exact h _ _ m9 c9 f9) | exact h _ _ fin fcap ffr
          · skip
            refine wq_iload (pc := 40) dX6_write_40 rfl ?_
            refine wq_bipush (pc := 42) dX6_write_42 (by decide) (by decide) ?_
            refine wq_iload_n (pc := 44) dX6_write_44 rfl rfl ?_
            refine wq_isub (pc := 45) dX6_write_45 ?_
            refine wq_icmp_le (pc := 46) (tgt := 59) dX6_write_46 (by decide) (by first | (unfold inR; omega) | assumption) (by first | (unfold inR; omega) | assumption) (fun c8 => ?_) (fun c8 => ?_)
            · skip
              have hz : okWr off n := by omega
              rw [pI_0 (fun q => q hz)] at h
              refine wq_aload_n (pc := 59) dX6_write_59 rfl rfl ?_
              refine wq_iconst (pc := 60) dX6_write_60 ?_
              refine wq_iload (pc := 61) dX6_write_61 rfl ?_
              refine wq_iadd (pc := 63) dX6_write_63 ?_
              refine wq_iconst (pc := 64) dX6_write_64 ?_
              refine cVK_2 (pc := 65) dX6_write_65 hs (cw_X6_60 _ rfl) (by decide) rfl ⟨by decide, by decide⟩ (Nat.le_of_ble_eq_true rfl) (sp_X6_refuseWithoutRoom hC hL hP.2.2.2.1.1 (PA_bd hP.2.1) hcap (by omega) (by omega) (fun hrm m2 t2 => ?_) (fun hrm m2 t2 e9 ht => ?_))
              · skip
                refine kr_v ?_
                rw [if_pos (by decide)] at hrm
                have hrm : rmA A [2 + n] 1 := hrm
                rw [pI_0 (fun z => z hrm)] at h
                obtain ⟨⟨s1, hs1, hus⟩, hfr1⟩ := tr_fr (by omega) (by omega) hrm
                obtain ⟨C6b, K2, R2⟩ := C6_TrM hC6 t2
                have hcap2 := R2.2.2.2 _ hcap
                have ha2 := K2 _ _ ha
                have ha26 : m2 a 6 = LN (aF A) f := by rw [(tAt_is C6b.2.2 ha2).2.1 6 (by omega) (by omega), g6]
                have ha23 : m2 a 3 = aD A f := by rw [(tAt_is C6b.2.2 ha2).2.1 3 (by omega) (by omega), g3]
                refine wq_aload_n (pc := 68) dX6_write_68 rfl rfl ?_
                refine wq_getS (pc := 69) dX6_write_69 hs (gf_X6_44 _ rfl) rfl rfl rfl rfl rfl ?_
                refine wq_iload_n (pc := 72) dX6_write_72 rfl rfl ?_
                refine wq_aload (pc := 73) dX6_write_73 rfl ?_
                refine wq_getI (pc := 75) (kk := 3) dX6_write_75 (gf_X6_84 _ rfl) (by with_reducible assumption) rfl rfl rfl ?_
                refine wq_iconst (pc := 78) dX6_write_78 ?_
                refine wq_iadd (pc := 79) dX6_write_79 ?_
                refine wq_iload_n (pc := 80) dX6_write_80 rfl rfl ?_
                refine wq_aload (pc := 81) dX6_write_81 rfl ?_
                refine wq_getI (pc := 83) (kk := 6) dX6_write_83 (gf_X6_138 _ rfl) (by with_reducible assumption) rfl rfl rfl ?_
                refine wq_iload_n (pc := 86) dX6_write_86 rfl rfl ?_
                refine wq_iload (pc := 87) dX6_write_87 rfl ?_
                refine wq_iadd (pc := 89) dX6_write_89 ?_
                refine cS_2 (pc := 90) dX6_write_90 (cw_X6_141 _ rfl) ⟨by decide, by decide⟩ (Nat.le_of_ble_eq_true rfl) (sp_J9_max (by unfold inR; omega) (by unfold inR; omega) ?_)
                refine kr_s ?_
                rw [ha26]
                have hmx : off + n ≤ max (LN (aF A) f) (off + n) ∧ 0 ≤ max (LN (aF A) f) (off + n) ∧ max (LN (aF A) f) (off + n) ≤ 64 := by omega
                have hmr : ∃ z, z = max (LN (aF A) f) (off + n) := ⟨_, rfl⟩
                obtain ⟨z, hz⟩ := hmr
                rw [← hz] at hmx h ⊢
                refine cVK_4 (pc := 93) dX6_write_93 hs (cw_X6_68 _ rfl) (by decide) rfl ⟨by decide, by decide⟩ (Nat.le_of_ble_eq_true rfl) (sp_X4_becomeData h20 ?_)
                refine kr_v ?_
                rw [ha23]
                refine wq_aload_n (pc := 96) dX6_write_96 rfl rfl ?_
                refine wq_getS (pc := 97) dX6_write_97 hs (gf_X6_44 _ rfl) rfl rfl rfl rfl rfl ?_
                refine wq_lload_n (pc := 100) dX6_write_100 rfl rfl ?_
                refine wq_iload (pc := 101) dX6_write_101 rfl ?_
                refine cVK_2 (pc := 103) dX6_write_103 hs (cw_X6_147 _ rfl) (by decide) rfl ⟨by decide, by decide⟩ (Nat.le_of_ble_eq_true rfl) (sp_X4_giveBytes h20 ?_)
                refine kr_v ?_
                have hm20 := fun x j (hx : x ≠ 20) => ((mBytes_v (mData m2 20 f (aD A f + 1) off z) 20 b n x j).trans (if_neg (fun q => hx q.1))).trans ((mData_v m2 20 f (aD A f + 1) off z x j).trans (if_neg (fun q => hx q.1)))
                have hsr : nSrc (mBytes (mData m2 20 f (aD A f + 1) off z) 20 b n 20) = dbSrc f (aD A f + 1) off z b n := dtSrc_of2 m2 f (aD A f + 1) off z b n
                have hvb2 := fun j => mBytes_v (mData m2 20 f (aD A f + 1) off z) 20 b n 20 j
                have hvd := fun j (j0 : 0 ≤ j) (j1 : j ≤ 13) => (mData_v m2 20 f (aD A f + 1) off z 20 j).trans (if_pos ⟨rfl, j0, j1⟩)
                have hv := fun j (j0 : 0 ≤ j) (j1 : j ≤ 13) => (hvb2 j).trans (congrArg (fun q => if (20 : Int) = 20 ∧ (j = 1 ∨ j = 6 ∨ j = 7 ∨ j = 8) then (if j = 1 then 2 + n else if j = 6 then n else if j = 7 then b else jShl (jShl 1 n - 1) (mData m2 20 f (aD A f + 1) off z 20 5)) else q) (hvd j j0 j1))
                generalize mBytes (mData m2 20 f (aD A f + 1) off z) 20 b n = m3 at hm20 hsr hv ⊢
                obtain ⟨C6c, K3, R3⟩ := C6_20 C6b hm20
                have w0 := hv 0 (by omega) (by omega)
                have w1 := hv 1 (by omega) (by omega)
                have w2 := hv 2 (by omega) (by omega)
                have w3 := hv 3 (by omega) (by omega)
                have w4 := hv 4 (by omega) (by omega)
                have w5 := hv 5 (by omega) (by omega)
                have w6 := hv 6 (by omega) (by omega)
                have w9 := hv 9 (by omega) (by omega)
                have w10 := hv 10 (by omega) (by omega)
                have w11 := hv 11 (by omega) (by omega)
                have w12 := hv 12 (by omega) (by omega)
                have w13 := hv 13 (by omega) (by omega)
                simp at w0 w1 w2 w3 w4 w5 w6 w9 w10 w11 w12 w13
                have hnb20 : nB m3 20 := by unfold nB; rw [w0, w1, w2, w3, w4, w5, w6, w9, w10, w11, w12, w13]; omega
                have hcap3 := R3.2.2.2 _ hcap2
                have ha3 := K3 _ _ ha2
                have N := IP_data (nb := nb + 1) (nx' := aX A) (f := f) (o := off) (z := z) (b := b) (n := n) (IP_mono hP (by omega) (Int.le_refl vb)) (by omega) (by omega) fb (by omega) (by omega) (by omega) (by omega) hfr1 rfl
                unfold actData1 at h
                refine wq_aload_n (pc := 106) dX6_write_106 rfl rfl ?_
                refine wq_aload (pc := 107) dX6_write_107 rfl ?_
                refine cVK_1 (pc := 109) dX6_write_109 hs (cw_X6_151 _ rfl) (by decide) rfl ⟨by decide, by decide⟩ (Nat.le_of_ble_eq_true rfl) (sp_X6_putContent C6c.1 C6c.2.1 C6c.2.2 hB (PL_wfP hP.2.1 hP.2.2.2.1) hcap3 ha3 (by rw [w1]; exact hfr1) hnb20 (by omega) hsr (fun hr m5 e5 C5 R5 K5 => ?_) (fun hr m5 e5 C5 R5 K5 => ?_))
                · skip
                  refine kr_s ?_
                  generalize lPut (aF A) (aG A) (dbSrc f (aD A f + 1) off z b n) = R at hr C5 N h
                  rw [if_pos hr] at h
                  obtain ⟨D1, D2⟩ := N.2 hr
                  have fin : MC (R.1, R.2.1, aX A, aD A, aN A) (nb + 1) (vb + 2) m5 e5 := MC_off C5 hB (by rw [(R5.2.1 25 h56).1]; exact h56) D1 D2 (by omega) (by omega) (by omega)
                  have fcap := Cap_mono (R5.2.2.2 _ hcap3) (Nat.le_succ t)
                  have ffr := FrN_6 (Fr6_trans R2 (Fr6_trans R3 R5))
                  refine wq_if_eq (pc := 112) (tgt := 123) dX6_write_112 (by decide) (by first | (unfold inR; omega) | assumption) (fun _ => ?_) (fun c => absurd c (by decide))
                  refine wq_bipush (pc := 123) dX6_write_123 (by decide) (by decide) ?_
                  refine wq_iret (pc := 125) dX6_write_125 rfl ?_
                  first | (obtain ⟨m9, c9, f9⟩ := MC_x hC6c hB hIB hDD h56 hon hnb hcap hF6 ht; exact h _ _ m9 c9 f9) | exact h _ _ fin fcap ffr
                · skip
                  refine kr_s ?_
                  generalize lPut (aF A) (aG A) (dbSrc f (aD A f + 1) off z b n) = R at hr C5 N h
                  rw [if_neg (by rw [hr]; decide)] at h
                  obtain ⟨D1, D2, D3, D4, -⟩ := N.1 hr
                  have Z2 := data_fin (R := R) hS hm hff D1 D2 D3 D4
                  have h565 : eKind e5 25 ≠ 0 := by rw [(R5.2.1 25 h56).1]; exact h56
                  have fin := MC_on (A := afterD A f R) (nb := nb + 1) (vb := vb + 2) C5 h565 (IP_mono D1 (Int.le_refl _) (by omega)) Z2 (by omega) (by omega)
                  have fcap := Cap_mono (R5.2.2.2 _ hcap3) (Nat.le_succ t)
                  have ffr := FrN_6 (Fr6_trans R2 (Fr6_trans R3 R5))
                  have ha5 := K5 _ _ ha3
                  have hsz := (tAt_is C5.2.2 ha5).2.1 6 (by omega) (by omega)
                  have hs := C5.1.1
                  have hsT := C5.2.2.1
                  obtain ⟨az50, azI5, azw5, -⟩ := tAt_sh C5.2.2 ha5
                  obtain ⟨hka5, -, -⟩ := id azI5
                  have hsz2 : tFd (tLayS (dbSrc f (aD A f + 1) off z b n) f S) f 6 = (dbSrc f (aD A f + 1) off z b n) 9 := if_pos ⟨rfl, rfl⟩
                  rw [hsz2] at hsz
                  refine wq_if_eq (pc := 112) (tgt := 123) dX6_write_112 (by decide) (by first | (unfold inR; omega) | assumption) (fun c => absurd c (by decide)) (fun _ => ?_)
                  refine wq_aload (pc := 115) dX6_write_115 rfl ?_
                  refine wq_getI (pc := 117) (kk := 6) dX6_write_117 (gf_X6_138 _ rfl) (by with_reducible assumption) rfl rfl rfl ?_
                  rw [hsz]
                  refine wq_goto (pc := 120) (tgt := 125) dX6_write_120 (by decide) ?_
                  refine wq_iret (pc := 125) dX6_write_125 rfl ?_
                  first | (obtain ⟨m9, c9, f9⟩ := MC_x hC6c hB hIB hDD h56 hon hnb hcap hF6 ht; exact h _ _ m9 c9 f9) | exact h _ _ fin fcap ffr
              · skip
                refine kr_x ?_
                rw [if_pos (by decide)] at hrm
                have hrm : ¬ rmA A [2 + n] 1 := hrm
                rw [pI_1 hrm] at h
                obtain ⟨hC6c, K2, hF6⟩ := C6_TrM hC6 t2
                first | (obtain ⟨m9, c9, f9⟩ := MC_x hC6c hB hIB hDD h56 hon hnb hcap hF6 ht; exact h _ _ m9 c9 f9) | exact h _ _ fin fcap ffr
            · skip
              rw [pI_1 (show ¬ okWr off n by omega)] at h
              refine wq_throw (pc := 49) dX6_write_49 dX6_write_52 dX6_write_53 dX6_write_55 dX6_write_58 rfl th_A ks_X6_136 (by decide) (by decide) (Nat.le_of_ble_eq_true rfl) hroom (fun ε' ht => ?_)
              first | (obtain ⟨m9, c9, f9⟩ := MC_x hC6c hB hIB hDD h56 hon hnb hcap hF6 ht; exact h _ _ m9 c9 f9) | exact h _ _ fin fcap ffr
      · skip
        rw [pI_1 (show ¬ okWr off n by omega)] at h
        refine wq_throw (pc := 17) dX6_write_17 dX6_write_20 dX6_write_21 dX6_write_23 dX6_write_26 rfl th_A ks_X6_133 (by decide) (by decide) (Nat.le_of_ble_eq_true rfl) hroom (fun ε' ht => ?_)
        first | (obtain ⟨m9, c9, f9⟩ := MC_x hC6c hB hIB hDD h56 hon hnb hcap hF6 ht; exact h _ _ m9 c9 f9) | exact h _ _ fin fcap ffr
  · skip
    refine kr_x ?_
    rw [pI_1 (show dk A from hd)] at h
    first | (obtain ⟨m9, c9, f9⟩ := MC_x hC6c hB hIB hDD h56 hon hnb hcap hF6 ht; exact h _ _ m9 c9 f9) | exact h _ _ fin fcap ffr
  · skip
    refine kr_x ?_
    obtain ⟨fl, hP, hS⟩ := hon hd
    have ndk : ¬ dk A := fun z => by have z : fD (aF A) = 1 := z; omega
    have hnfil : ¬ isFl A f := fun z => by have z := (isFl_iff hP hS f).mp z; rcases hn with q | q; exact q z.1; exact q z.2
    rw [pI_0 ndk, pI_1 hnfil] at h
    first | (obtain ⟨m9, c9, f9⟩ := MC_x hC6c hB hIB hDD h56 hon hnb hcap hF6 ht; exact h _ _ m9 c9 f9) | exact h _ _ fin fcap ffr
