abbrev badR (A : AS) (d nm d2 nm2 : Int) : Prop := (TG (aF A) d2 nm2 ≠ 0 ∧ (TG (aF A) d2 nm2 = TG (aF A) d nm ∨ TD (aF A) d2 nm2 = 1 ∨ TD (aF A) d nm = 1)) ∨ (TD (aF A) d nm = 1 ∧ thB (TG (aF A)) (TD (aF A)) (TG (aF A) d nm) d2)
noncomputable def actRename2 (A : AS) (d d2 o : Int) (R : Fl × Lg × Bool) : Ans × AS := if R.2.2 = false then (.inl (-9), afterX A R) else (.inl o, (R.1, R.2.1, aX A, aD A, bump (bump (aN A) d2) d))
noncomputable def actRename1 (A : AS) (d nm d2 o : Int) (P : Fl × Lg × Bool) : Ans × AS := if P.2.2 = false then (.inl (-9), afterX A P) else actRename2 A d d2 o (lPut P.1 P.2.1 (nmSrc d (bump (aN A) d2 d + 1) nm 0 0))
noncomputable def actRename (A : AS) (d nm d2 nm2 : Int) : Ans × AS :=
  pI (dk A) (.inr xS, A) (pI (¬ isDr A d) (.inr xI, A) (pI (¬ isDr A d2) (.inr xI, A) (pI (¬ nmR nm) (.inr xA, A) (pI (¬ nmR nm2) (.inr xA, A) (pI (TG (aF A) d nm = 0) (.inr xS, A) (pI (badR A d nm d2 nm2) (.inr xS, A) (pI (¬ rmA A [3, 3] 1) (.inr xS, A)
    (actRename1 A d nm d2 (TG (aF A) d nm) (lPut (aF A) (aG A) (nmSrc d2 (aN A d2 + 1) nm2 (TG (aF A) d nm) (TD (aF A) d nm)))))))))))
theorem WD_put {T : Int → Int → Int} {fl : Int → Int} {nx d nm t : Int} (hW : WD T fl nx) (hd : tD T fl d) (ht : 2 ≤ t ∧ t < nx) (hti : fl t = 1 → tD T fl t) (ho : T d nm = 0 ∨ fl (T d nm) = 0) (hb : fl t = 1 → ¬ thB T (dF T fl) t d) : WD (gup T d nm t) fl nx := by
  have hdb := tD_b hW hd
  have hne : ¬ dE T (dF T fl) d nm := fun z => by have := dF_e.mp z; omega
  refine ⟨hW.1, hW.2.1, fun x y => ?_, ?_, hW.2.2.2.2⟩
  · by_cases c : x = d ∧ y = nm
    · rw [c.1, c.2, gup_e]; omega
    · rw [gup_n _ _ c]; exact hW.2.2.1 x y
  · rw [dF_gup, if_neg (show ¬ t = 0 by omega)]
    rcases hW.2.1 t with q | q
    · exact RK_G1 hW.2.2.2.1 hne (Or.inr (by rw [q]; decide))
    · exact RK_G2 hW.2.2.2.1 hne (hti q) (hb q)
theorem tReach_iff {A : AS} {fl : Int → Int} {nb vb : Int} {S : Tr} (hP : IP A fl nb vb) (hS : TSA A fl S) {o x : Int} (ho : o ∈ tNl S) (hf : fl o = 1) : tReach S o x ↔ thB (TG (aF A)) (TD (aF A)) o x := by
  have e := flOK_TD (PA_NS hP.2.1) hP.2.2.2.2.2.1
  have hW := hP.2.2.2.2.2.2.1
  have hoD : tD (TG (aF A)) fl o := (TSW_tD hS hW o).mpr ⟨ho, hf⟩
  rw [e]
  constructor
  · intro h
    refine (h (fun x => thB (TG (aF A)) (dF (TG (aF A)) fl) o x ∧ tD (TG (aF A)) fl x) ⟨thB_0 _ _ _, hoD⟩ (fun u v hu hv => ?_)).1
    obtain ⟨v1, v2, j, j0, j1, j2, j3⟩ := hv
    have hu2 := (TSW_tD hS hW u).mp hu.2
    have hc := (hS.2.2.1 u hu2.1 hu2.2).1 j ⟨j0, j1⟩
    rw [j2] at hc
    have hfv : fl v = 1 := by rw [← hS.2.1 v v1]; exact v2
    have hE := (dF_e (T := TG (aF A)) (fl := fl) (d := u) (nm := j)).mpr (by rw [← hc]; exact ⟨j3, hfv⟩)
    have a := thB_s hu.1 ⟨j0, j1⟩ hE.1 hE.2
    have b := thD_s hu.2 ⟨j0, j1⟩ hE.1 hE.2
    rw [← hc] at a b
    exact ⟨a, b⟩
  · intro h
    refine (h (fun x => tReach S o x ∧ tD (TG (aF A)) fl x) ⟨fun P p0 _ => p0, hoD⟩ (fun d nm hd hm h0 h1 => ?_)).1
    have b := thD_s hd.2 hm h0 h1
    have hd2 := (TSW_tD hS hW d).mp hd.2
    have b2 := (TSW_tD hS hW _).mp b
    have hc := (hS.2.2.1 d hd2.1 hd2.2).1 nm hm
    exact ⟨tReach_s hd.1 ⟨b2.1, by rw [hS.2.1 _ b2.1]; exact b2.2, nm, hm.1, hm.2, hc, h0⟩, b⟩
/-- a move that is refused, by the nodes -/
theorem badMv_iff {A : AS} {fl : Int → Int} {nb vb : Int} {S : Tr} {d nm d2 nm2 : Int} (hP : IP A fl nb vb) (hS : TSA A fl S) (hd2 : d2 ∈ tNl S) (hf2 : fl d2 = 1) (hm2 : nmR nm2) (h0 : TG (aF A) d nm ≠ 0) (ho : TG (aF A) d nm ∈ tNl S) : badMv S (TG (aF A) d nm) d2 (TG (aF A) d2 nm2) ↔ badR A d nm d2 nm2 := by
  have e := flOK_TD (PA_NS hP.2.1) hP.2.2.2.2.2.1
  have hW := hP.2.2.2.2.2.2.1
  have hTD : ∀ x y, TG (aF A) x y ≠ 0 → TD (aF A) x y = fl (TG (aF A) x y) := fun x y h => by rw [e]; unfold dF; rw [if_neg h]
  have hd2D : tD (TG (aF A)) fl d2 := (TSW_tD hS hW d2).mpr ⟨hd2, hf2⟩
  have hin : TG (aF A) d2 nm2 ∈ tNl S ↔ TG (aF A) d2 nm2 ≠ 0 := ⟨fun q z => by rcases (hS.1 _).mp q with w | w; omega; exact w.1 z, fun q => (hS.1 _).mpr (Or.inr ⟨q, d2, nm2, hd2D, hm2, rfl⟩)⟩
  unfold badMv badR
  rw [hin, hS.2.1 _ ho, hTD d nm h0]
  refine or_congr (and_congr_right (fun q => ?_)) (and_congr_right (fun q => tReach_iff hP hS ho q))
  rw [hS.2.1 _ (hin.mpr q), hTD d2 nm2 q]
theorem rename_mid {A : AS} {fl : Int → Int} {nb vb d nm d2 nm2 : Int} {S S3 : Tr} (hP : IP A fl nb vb) (hS : TSA A fl S) (hd : d ∈ tNl S) (hfd : fl d = 1) (hm : nmR nm) (hd2 : d2 ∈ tNl S) (hfd2 : fl d2 = 1) (hm2 : nmR nm2) (h0 : TG (aF A) d nm ≠ 0) (hb : ¬ badR A d nm d2 nm2) (hv : vb + 2 ≤ 100000)
    (hA3 : asgOK (tSetF (tSetF S d2 3 (tFd S d2 3 + 1)) d 3 (tFd (tSetF S d2 3 (tFd S d2 3 + 1)) d 3 + 1)) d2 nm2 (TG (aF A) d nm) S3) (hl : (tNl S3).length ≤ 129) : tB S3 := by
  obtain ⟨h1, h2, h3, h4, h5, h6, h7, h8, h9, h10⟩ := id hP
  have e := flOK_TD (PA_NS h2) h6
  have hTD : ∀ x y, TG (aF A) x y ≠ 0 → TD (aF A) x y = fl (TG (aF A) x y) := fun x y h => by rw [e]; unfold dF; rw [if_neg h]
  have hdD : tD (TG (aF A)) fl d := (TSW_tD hS h7 d).mpr ⟨hd, hfd⟩
  have hoS : TG (aF A) d nm ∈ tNl S := (hS.1 _).mpr (Or.inr ⟨h0, d, nm, hdD, hm, rfl⟩)
  have hob := h7.2.2.1 d nm
  have v1 := TSW_ver hS hd2 hfd2
  have v2 := TSW_ver v1 hd hfd
  have ho2 : TG (aF A) d2 nm2 = 0 ∨ fl (TG (aF A) d2 nm2) = 0 := by
    by_cases c : TG (aF A) d2 nm2 = 0
    · exact Or.inl c
    · rcases h7.2.1 (TG (aF A) d2 nm2) with q | q
      · exact Or.inr q
      · exact absurd (Or.inl ⟨c, Or.inr (Or.inl (by rw [hTD _ _ c]; exact q))⟩) hb
  obtain ⟨w1, w2, w3⟩ := TSW_put v2 h7 hd2 hfd2 hm2 ⟨hoS, by omega⟩ ho2 (fun q z => hb (Or.inr ⟨by rw [hTD _ _ h0]; exact q, by rw [e]; exact z⟩)) hA3
  refine TSW_tB w2 w1 hl (fun f => LN_b (PA_NS h2) f) (fun n => ?_)
  have a1 := h9 n
  have a2 := h9 d
  have a3 := h9 d2
  refine ⟨by omega, ?_⟩
  show 0 ≤ (if n = d then (if d = d2 then aN A d2 + 1 else aN A d) + 1 else (if n = d2 then aN A d2 + 1 else aN A n)) ∧ (if n = d then (if d = d2 then aN A d2 + 1 else aN A d) + 1 else (if n = d2 then aN A d2 + 1 else aN A n)) ≤ 100000
  (repeat' split) <;> omega
/-- a name moved -/
theorem rename_ok {A : AS} {fl : Int → Int} {nb vb d nm d2 nm2 : Int} {S S3 S4 : Tr} {P R : Fl × Lg × Bool} (hP : IP A fl nb vb) (hS : TSA A fl S) (hd : d ∈ tNl S) (hfd : fl d = 1) (hm : nmR nm) (hd2 : d2 ∈ tNl S) (hfd2 : fl d2 = 1) (hm2 : nmR nm2) (h0 : TG (aF A) d nm ≠ 0) (hb : ¬ badR A d nm d2 nm2)
    (hR : WD (gup (TG P.1) d nm 0) fl (aX A) → IP (R.1, R.2.1, aX A, aD A, bump (bump (aN A) d2) d) fl nb (vb + 2)) (f1 : TG P.1 = gup (TG (aF A)) d2 nm2 (TG (aF A) d nm)) (f2 : LN P.1 = LN (aF A)) (f3 : BY P.1 = BY (aF A)) (g1 : TG R.1 = gup (TG P.1) d nm 0) (g2 : LN R.1 = LN P.1) (g3 : BY R.1 = BY P.1)
    (hA3 : asgOK (tSetF (tSetF S d2 3 (tFd S d2 3 + 1)) d 3 (tFd (tSetF S d2 3 (tFd S d2 3 + 1)) d 3 + 1)) d2 nm2 (TG (aF A) d nm) S3) (hA4 : asgOK S3 d nm 0 S4) :
    IP (R.1, R.2.1, aX A, aD A, bump (bump (aN A) d2) d) fl nb (vb + 2) ∧ TSA (R.1, R.2.1, aX A, aD A, bump (bump (aN A) d2) d) fl S4 := by
  obtain ⟨h1, h2, h3, h4, h5, h6, h7, h8, h9, h10⟩ := id hP
  have e := flOK_TD (PA_NS h2) h6
  have hTD : ∀ x y, TG (aF A) x y ≠ 0 → TD (aF A) x y = fl (TG (aF A) x y) := fun x y h => by rw [e]; unfold dF; rw [if_neg h]
  have hdD : tD (TG (aF A)) fl d := (TSW_tD hS h7 d).mpr ⟨hd, hfd⟩
  have hoS : TG (aF A) d nm ∈ tNl S := (hS.1 _).mpr (Or.inr ⟨h0, d, nm, hdD, hm, rfl⟩)
  have hob := h7.2.2.1 d nm
  have hne : ¬ (d = d2 ∧ nm = nm2) := fun q => hb (Or.inl ⟨by rw [← q.1, ← q.2]; exact h0, Or.inl (by rw [← q.1, ← q.2])⟩)
  have v1 := TSW_ver hS hd2 hfd2
  have v2 := TSW_ver v1 hd hfd
  have ho2 : TG (aF A) d2 nm2 = 0 ∨ fl (TG (aF A) d2 nm2) = 0 := by
    by_cases c : TG (aF A) d2 nm2 = 0
    · exact Or.inl c
    · rcases h7.2.1 (TG (aF A) d2 nm2) with q | q
      · exact Or.inr q
      · exact absurd (Or.inl ⟨c, Or.inr (Or.inl (by rw [hTD _ _ c]; exact q))⟩) hb
  obtain ⟨w1, w2, w3⟩ := TSW_put v2 h7 hd2 hfd2 hm2 ⟨hoS, by omega⟩ ho2 (fun q z => hb (Or.inr ⟨by rw [hTD _ _ h0]; exact q, by rw [e]; exact z⟩)) hA3
  have eg : gup (TG (aF A)) d2 nm2 (TG (aF A) d nm) d nm = TG (aF A) d nm := gup_n _ _ hne
  have hd3 : d ∈ tNl S3 ∧ fl d = 1 := (TSW_tD w2 w1 d).mp ((w3 d).mpr hdD)
  obtain ⟨z1, z2⟩ := TSW_del (S' := S4) w2 w1 hd3.1 hfd hm (by rw [eg]; exact h0) (fun _ => Or.inr ⟨d2, nm2, (w3 d2).mpr ((TSW_tD hS h7 d2).mpr ⟨hd2, hfd2⟩), hm2, fun q => hne ⟨q.1.symm, q.2.symm⟩, by rw [eg, gup_e]⟩) hA4
  rw [f1] at hR g1
  refine ⟨hR z1, ?_⟩
  show TSW (TG R.1) fl (LN R.1) (BY R.1) (aD A) (bump (bump (aN A) d2) d) (aX A) S4
  rw [g1, g2, g3, f2, f3]
  exact z2
theorem sp_X6_unlink {μ : nMem} {ε : nEnv} {Q : nOut → nMem → nEnv → Prop} {A : AS} {nb vb d nm : Int} {t : Nat} (hM : MC A nb vb μ ε) (hcap : Cap μ ε (t + 1)) (hnb : nb + 1 ≤ 2000) (hvb : vb + 2 ≤ 4000) (r1 : inR d) (r2 : inR nm) (h : ∀ μ9 ε9, MC (actUnlink A d nm).2 (nb + 1) (vb + 2) μ9 ε9 → Cap μ9 ε9 t → FrN μ ε μ9 ε9 → Q (oc (actUnlink A d nm).1) μ9 ε9) : Sp mX6_unlink [vR 1, vI d, vI nm] μ ε Q := by
  refine Sp_of (L := [(0, vR 1), (1, vI d), (2, vI nm)]) (by decide) rfl rfl (Nat.le_of_ble_eq_true rfl) ?_
  obtain ⟨S, hC6, hB, hIB, hDD, h56, hon⟩ := hM
  obtain ⟨hC, hL, hT⟩ := id hC6
  have hs := hC.1
  have hsT := hT.1
  have h20 := (hs 20 5 0 [] rfl (by decide)).1
  have hroom := Cap_room hcap
  have hF6 := Fr6_refl μ ε
  have hC6c := hC6
  unfold actUnlink at h
  refine wq_aload_n (pc := 0) dX6_unlink_0 rfl rfl ?_
  refine wq_iload_n (pc := 1) dX6_unlink_1 rfl rfl ?_
  refine cVK_1 (pc := 2) dX6_unlink_2 hs (cw_X6_48 _ rfl) (by decide) rfl ⟨by decide, by decide⟩ (Nat.le_of_ble_eq_true rfl) (sp_X6_directoryThere hC hDD hcap hT hB (by assumption) (fun hd hm hdr a ha => ?_) (fun hd e9 ht => ?_) (fun hd hn e9 ht => ?_))
  · skip
    refine kr_s ?_
    obtain ⟨fl, hP, hS⟩ := hon hd
    have ndk : ¬ dk A := fun z => by have z : fD (aF A) = 1 := z; omega
    have hdir : isDr A d := (isDr_iff hP hS d).mpr ⟨hm, hdr⟩
    rw [pI_0 ndk, pI_0 (fun z => z hdir)] at h
    refine wq_astore_n (pc := 5) (L' := [(3, _), (0, _), (1, _), (2, _)]) dX6_unlink_5 rfl rfl (by decide) ?_
    refine wq_aload_n (pc := 6) dX6_unlink_6 rfl rfl ?_
    refine wq_iload_n (pc := 7) dX6_unlink_7 rfl rfl ?_
    refine cVK_1 (pc := 8) dX6_unlink_8 hs (cw_X6_52 _ rfl) (by decide) rfl ⟨by decide, by decide⟩ (Nat.le_of_ble_eq_true rfl) (sp_X6_refuseWrongName hcap (by assumption) (fun hnm => ?_) (fun hnm e9 ht => ?_))
    · skip
      refine kr_v ?_
      rw [pI_0 (fun z => z hnm)] at h
      refine wq_aload_n (pc := 11) dX6_unlink_11 rfl rfl ?_
      refine wq_aload_n (pc := 12) dX6_unlink_12 rfl rfl ?_
      refine wq_iload_n (pc := 13) dX6_unlink_13 rfl rfl ?_
      refine cVK_2 (pc := 14) dX6_unlink_14 hs (cw_X6_99 _ rfl) (by decide) rfl ⟨by decide, by decide⟩ (Nat.le_of_ble_eq_true rfl) (sp_X6_itemNamed hC hcap hT hB ha hnm (fun b hb => ?_) (fun hn e9 ht => ?_))
      · skip
        refine kr_s ?_
        have hfd : fl d = 1 := by rw [← hS.2.1 d hm]; exact hdr
        have htg := (hS.2.2.1 d hm hfd).1 nm hnm
        rw [htg] at hb
        have hoS := tAt_mem hb
        have ho0 : TG (aF A) d nm ≠ 0 := fun z => by rcases (hS.1 _).mp hoS with w | w; omega; exact w.1 z
        rw [pI_0 ho0] at h
        obtain ⟨hnc, hTDo⟩ := nmc_iff hP hS hoS ho0
        obtain ⟨bz0, bzI, bzw, -⟩ := tAt_sh hT hb
        obtain ⟨hkb, -, -⟩ := id bzI
        have hb1 := (tAt_is hT hb).1
        have hb2f := (tAt_is hT hb).2.1 2 (by omega) (by omega)
        have hb5 := (tAt_is hT hb).2.1 5 (by omega) (by omega)
        have hbB := (hB.2 _ hoS).2.2.1 5 (by omega) (by omega)
        have hbB2 := (hB.2 _ hoS).2.1
        have hbN := (hB.2 _ hoS).1
        refine wq_astore (pc := 17) (L' := [(4, _), (3, _), (0, _), (1, _), (2, _)]) dX6_unlink_17 rfl (by decide) ?_
        refine wq_aload (pc := 19) dX6_unlink_19 rfl ?_
        refine wq_getI (pc := 21) (kk := 5) dX6_unlink_21 (gf_X6_103 _ rfl) (by with_reducible assumption) rfl rfl rfl ?_
        refine wq_if_le (pc := 24) (tgt := 37) dX6_unlink_24 (by decide) (by first | (unfold inR; omega) | assumption) (fun c8 => ?_) (fun c8 => ?_)
        · skip
          have hno : ¬ hasNm A d nm := fun z => by have := hnc.mpr z; omega
          rw [pI_0 hno] at h
          refine wq_aload_n (pc := 37) dX6_unlink_37 rfl rfl ?_
          refine wq_iconst (pc := 38) dX6_unlink_38 ?_
          refine wq_iconst (pc := 39) dX6_unlink_39 ?_
          refine cVK_2 (pc := 40) dX6_unlink_40 hs (cw_X6_60 _ rfl) (by decide) rfl ⟨by decide, by decide⟩ (Nat.le_of_ble_eq_true rfl) (sp_X6_refuseWithoutRoom hC hL hP.2.2.2.1.1 (PA_bd hP.2.1) hcap (by omega) (by omega) (fun hrm m2 t2 => ?_) (fun hrm m2 t2 e9 ht => ?_))
          · skip
            refine kr_v ?_
            rw [if_pos (by decide)] at hrm
            have hrm : rmA A [3] 1 := hrm
            rw [pI_0 (fun z => z hrm)] at h
            obtain ⟨⟨s1, hs1, hus⟩, hfr1⟩ := tr_fr (by omega) (by omega) hrm
            obtain ⟨C6b, K2, R2⟩ := C6_TrM hC6 t2
            have hcap2 := R2.2.2.2 _ hcap
            have hx8 := hP.2.2.2.2.2.2.2.1
            have hv9 := hP.2.2.2.2.2.2.2.2.1
            have hv3 : tFd S d 3 = aN A d := (hS.2.2.1 d hm hfd).2.2.2
            have hv3b := hv9 d
            have hdb : 1 ≤ d ∧ d < aX A := tD_b hP.2.2.2.2.2.2.1 ((TSW_tD hS hP.2.2.2.2.2.2.1 d).mpr ⟨hm, hfd⟩)
            have ha2 := K2 _ _ ha
            have hbo2 := K2 _ _ hb
            have hbn2 : m2 b 1 = TG (aF A) d nm := (tAt_is C6b.2.2 hbo2).1
            have N := IP_name (nb := nb + 1) (d := d) (nm := nm) (t := 0) (nx' := aX A) (IP_mono hP (by omega) (Int.le_refl vb)) (by omega) (by omega) hdb hnm (by omega) (by omega) hfr1 rfl
            rw [if_pos rfl] at N
            unfold actUnlink1 at h
            refine wq_aload (pc := 43) dX6_unlink_43 rfl ?_
            refine wq_getI (pc := 45) (kk := 1) dX6_unlink_45 (gf_X6_113 _ rfl) (by with_reducible assumption) rfl rfl rfl ?_
            rw [hbn2]
            refine wq_istore (pc := 48) (L' := [(5, _), (4, _), (3, _), (0, _), (1, _), (2, _)]) dX6_unlink_48 rfl (by decide) ?_
            refine wq_aload_n (pc := 50) dX6_unlink_50 rfl rfl ?_
            refine wq_aload_n (pc := 51) dX6_unlink_51 rfl rfl ?_
            refine wq_iload_n (pc := 52) dX6_unlink_52 rfl rfl ?_
            refine wq_iconst (pc := 53) dX6_unlink_53 ?_
            refine wq_iconst (pc := 54) dX6_unlink_54 ?_
            refine cVK_4 (pc := 55) dX6_unlink_55 hs (cw_X6_76 _ rfl) (by decide) rfl ⟨by decide, by decide⟩ (Nat.le_of_ble_eq_true rfl) (sp_X6_putName C6b.1 C6b.2.1 C6b.2.2 hB (PL_wfP hP.2.1 hP.2.2.2.1) hcap2 ha2 hfr1 (by omega) (by omega) hnm (by omega) (by first | exact Or.inl rfl | exact Or.inr rfl) (fun hr5 m5 e5 C5 R5 K5 => ?_) (fun hr5 m5 e5 C5 R5 K5 => ?_))
            · skip
              refine kr_s ?_
              rw [show nmSrc d (tFd S d 3 + 1) nm 0 0 = nmSrc d (aN A d + 1) nm 0 0 by rw [hv3]] at hr5 C5
              generalize lPut (aF A) (aG A) (nmSrc d (aN A d + 1) nm 0 0) = R at hr5 C5 N h
              rw [if_pos hr5] at h
              obtain ⟨N1, N2⟩ := N.2 hr5
              have fin : MC (R.1, R.2.1, aX A, aD A, aN A) (nb + 1) (vb + 2) m5 e5 := MC_off C5 (tB_ver hB hm (by omega)) (by rw [(R5.2.1 25 h56).1]; exact h56) N1 N2 (by omega) (by omega) (by omega)
              have fcap := Cap_mono (R5.2.2.2 _ hcap2) (Nat.le_succ t)
              have ffr := FrN_6 (Fr6_trans R2 R5)
              refine wq_if_ne (pc := 58) (tgt := 64) dX6_unlink_58 (by decide) (by first | (unfold inR; omega) | assumption) (fun c => absurd c (by decide)) (fun _ => ?_)
              refine wq_bipush (pc := 61) dX6_unlink_61 (by decide) (by decide) ?_
              refine wq_iret (pc := 63) dX6_unlink_63 rfl ?_
              first | (obtain ⟨m9, c9, f9⟩ := MC_x hC6c hB hIB hDD h56 hon hnb hcap hF6 ht; exact h _ _ m9 c9 f9) | exact h _ _ fin fcap ffr
            · skip
              refine kr_s ?_
              rw [show nmSrc d (tFd S d 3 + 1) nm 0 0 = nmSrc d (aN A d + 1) nm 0 0 by rw [hv3]] at hr5 C5
              generalize lPut (aF A) (aG A) (nmSrc d (aN A d + 1) nm 0 0) = R at hr5 C5 N h
              rw [if_neg (by rw [hr5]; decide)] at h
              obtain ⟨N1, N2, N3, N4, N5, N6, N7, N8⟩ := N.1 hr5
              have hs := C5.1.1
              have hsT := C5.2.2.1
              have h565 : eKind e5 25 ≠ 0 := by rw [(R5.2.1 25 h56).1]; exact h56
              have hcap5 := R5.2.2.2 _ hcap2
              have hA5 := K5 _ _ ha2
              have h0S : (0 : Int) ∉ tNl S := fun z => by rcases (hS.1 0).mp z with q | q; omega; exact q.1 rfl
              have hBv := tB_ver hB hm (show tFd S d 3 ≤ 99999 by omega)
              
              refine wq_if_ne (pc := 58) (tgt := 64) dX6_unlink_58 (by decide) (by first | (unfold inR; omega) | assumption) (fun _ => ?_) (fun c => absurd c (by decide))
              refine wq_aload_n (pc := 64) dX6_unlink_64 rfl rfl ?_
              refine wq_getS (pc := 65) dX6_unlink_65 hs (gf_X6_28 _ rfl) rfl rfl rfl rfl rfl ?_
              refine wq_aload_n (pc := 68) dX6_unlink_68 rfl rfl ?_
              refine wq_iload_n (pc := 69) dX6_unlink_69 rfl rfl ?_
              refine wq_null (pc := 70) dX6_unlink_70 ?_
              refine cVK_3 (pc := 71) dX6_unlink_71 hsT (cw_X6_89 _ rfl) (by decide) rfl ⟨by decide, by decide⟩ (Nat.le_of_ble_eq_true rfl) (sx_X5_assign0 C5.2.2 hBv hA5 (by omega) (fun m8 S8 hA8 T8 F8 K8 => ?_))
              refine kr_v ?_
              obtain ⟨C6g, R8⟩ := C6_T C5 T8 F8
              obtain ⟨Z1, Z2⟩ := del_fin (R := R) (nb := nb + 1) (vb := vb + 1) (IP_mono hP (by omega) (by omega)) hS hm hfd hnm ho0 (fun z => Or.inl (fun x hx => Classical.byContradiction (fun w => hno ⟨by rw [hTDo]; exact z, x, hx, w⟩))) (fun w => IP_mono (N1 w) (Int.le_refl _) (by omega)) N2 N3 N4 hA8
              have fin := MC_on (A := (R.1, R.2.1, aX A, aD A, bump (aN A) d)) (nb := nb + 1) (vb := vb + 2) C6g h565 (IP_mono Z1 (Int.le_refl _) (by omega)) Z2 (by omega) (by omega)
              have fcap := Cap_mono (R8.2.2.2 _ hcap5) (Nat.le_succ t)
              have ffr := FrN_6 (Fr6_trans R2 (Fr6_trans R5 R8))
              refine wq_iload (pc := 74) dX6_unlink_74 rfl ?_
              refine wq_iret (pc := 76) dX6_unlink_76 rfl ?_
              first | (obtain ⟨m9, c9, f9⟩ := MC_x hC6c hB hIB hDD h56 hon hnb hcap hF6 ht; exact h _ _ m9 c9 f9) | exact h _ _ fin fcap ffr
          · skip
            refine kr_x ?_
            rw [if_pos (by decide)] at hrm
            have hrm : ¬ rmA A [3] 1 := hrm
            rw [pI_1 hrm] at h
            obtain ⟨hC6c, K2, hF6⟩ := C6_TrM hC6 t2
            first | (obtain ⟨m9, c9, f9⟩ := MC_x hC6c hB hIB hDD h56 hon hnb hcap hF6 ht; exact h _ _ m9 c9 f9) | exact h _ _ fin fcap ffr
        · skip
          have hyes : hasNm A d nm := hnc.mp (by omega)
          rw [pI_1 hyes] at h
          refine wq_throw (pc := 27) dX6_unlink_27 dX6_unlink_30 dX6_unlink_31 dX6_unlink_33 dX6_unlink_36 rfl th_S ks_X6_108 (by decide) (by decide) (Nat.le_of_ble_eq_true rfl) hroom (fun ε' ht => ?_)
          first | (obtain ⟨m9, c9, f9⟩ := MC_x hC6c hB hIB hDD h56 hon hnb hcap hF6 ht; exact h _ _ m9 c9 f9) | exact h _ _ fin fcap ffr
      · skip
        refine kr_x ?_
        have hfd : fl d = 1 := by rw [← hS.2.1 d hm]; exact hdr
        have htg := (hS.2.2.1 d hm hfd).1 nm hnm
        rw [htg] at hn
        have ho0 : TG (aF A) d nm = 0 := Classical.byContradiction (fun z => hn ((hS.1 _).mpr (Or.inr ⟨z, d, nm, (TSW_tD hS hP.2.2.2.2.2.2.1 d).mpr ⟨hm, hfd⟩, hnm, rfl⟩)))
        rw [pI_1 ho0] at h
        first | (obtain ⟨m9, c9, f9⟩ := MC_x hC6c hB hIB hDD h56 hon hnb hcap hF6 ht; exact h _ _ m9 c9 f9) | exact h _ _ fin fcap ffr
    · skip
      refine kr_x ?_
      rw [pI_1 hnm] at h
      first | (obtain ⟨m9, c9, f9⟩ := MC_x hC6c hB hIB hDD h56 hon hnb hcap hF6 ht; exact h _ _ m9 c9 f9) | exact h _ _ fin fcap ffr
  · skip
    refine kr_x ?_
    rw [pI_1 (show dk A from hd)] at h
    first | (obtain ⟨m9, c9, f9⟩ := MC_x hC6c hB hIB hDD h56 hon hnb hcap hF6 ht; exact h _ _ m9 c9 f9) | exact h _ _ fin fcap ffr
  · skip
    refine kr_x ?_
    obtain ⟨fl, hP, hS⟩ := hon hd
    have ndk : ¬ dk A := fun z => by have z : fD (aF A) = 1 := z; omega
    have hndir : ¬ isDr A d := fun z => by have z := (isDr_iff hP hS d).mp z; rcases hn with q | q; exact q z.1; exact q z.2
    rw [pI_0 ndk, pI_1 hndir] at h
    first | (obtain ⟨m9, c9, f9⟩ := MC_x hC6c hB hIB hDD h56 hon hnb hcap hF6 ht; exact h _ _ m9 c9 f9) | exact h _ _ fin fcap ffr
theorem sp_X6_rename {μ : nMem} {ε : nEnv} {Q : nOut → nMem → nEnv → Prop} {A : AS} {nb vb d nm d2 nm2 : Int} {t : Nat} (hM : MC A nb vb μ ε) (hcap : Cap μ ε (t + 1)) (hnb : nb + 1 ≤ 2000) (hvb : vb + 2 ≤ 4000) (r1 : inR d) (r2 : inR nm) (r3 : inR d2) (r4 : inR nm2) (h : ∀ μ9 ε9, MC (actRename A d nm d2 nm2).2 (nb + 1) (vb + 2) μ9 ε9 → Cap μ9 ε9 t → FrN μ ε μ9 ε9 → Q (oc (actRename A d nm d2 nm2).1) μ9 ε9) : Sp mX6_rename [vR 1, vI d, vI nm, vI d2, vI nm2] μ ε Q := by
  refine Sp_of (L := [(0, vR 1), (1, vI d), (2, vI nm), (3, vI d2), (4, vI nm2)]) (by decide) rfl rfl (Nat.le_of_ble_eq_true rfl) ?_
  obtain ⟨S, hC6, hB, hIB, hDD, h56, hon⟩ := hM
  obtain ⟨hC, hL, hT⟩ := id hC6
  have hs := hC.1
  have hsT := hT.1
  have h20 := (hs 20 5 0 [] rfl (by decide)).1
  have hroom := Cap_room hcap
  have hF6 := Fr6_refl μ ε
  have hC6c := hC6
  unfold actRename at h
  refine wq_aload_n (pc := 0) dX6_rename_0 rfl rfl ?_
  refine wq_iload_n (pc := 1) dX6_rename_1 rfl rfl ?_
  refine cVK_1 (pc := 2) dX6_rename_2 hs (cw_X6_48 _ rfl) (by decide) rfl ⟨by decide, by decide⟩ (Nat.le_of_ble_eq_true rfl) (sp_X6_directoryThere hC hDD hcap hT hB (by assumption) (fun hd hm hdr a ha => ?_) (fun hd e9 ht => ?_) (fun hd hn e9 ht => ?_))
  · skip
    refine kr_s ?_
    obtain ⟨fl, hP, hS⟩ := hon hd
    have ndk : ¬ dk A := fun z => by have z : fD (aF A) = 1 := z; omega
    have hdir : isDr A d := (isDr_iff hP hS d).mpr ⟨hm, hdr⟩
    rw [pI_0 ndk, pI_0 (fun z => z hdir)] at h
    refine wq_astore (pc := 5) (L' := [(5, _), (0, _), (1, _), (2, _), (3, _), (4, _)]) dX6_rename_5 rfl (by decide) ?_
    refine wq_aload_n (pc := 7) dX6_rename_7 rfl rfl ?_
    refine wq_iload_n (pc := 8) dX6_rename_8 rfl rfl ?_
    refine cVK_1 (pc := 9) dX6_rename_9 hs (cw_X6_48 _ rfl) (by decide) rfl ⟨by decide, by decide⟩ (Nat.le_of_ble_eq_true rfl) (sp_X6_directoryThere hC hDD hcap hT hB (by assumption) (fun hd2 hm2 hdr2 c hcc => ?_) (fun hd2 e9 ht => ?_) (fun hd2 hn e9 ht => ?_))
    · skip
      refine kr_s ?_
      have hdir2 : isDr A d2 := (isDr_iff hP hS d2).mpr ⟨hm2, hdr2⟩
      rw [pI_0 (fun z => z hdir2)] at h
      refine wq_astore (pc := 12) (L' := [(6, _), (5, _), (0, _), (1, _), (2, _), (3, _), (4, _)]) dX6_rename_12 rfl (by decide) ?_
      refine wq_aload_n (pc := 14) dX6_rename_14 rfl rfl ?_
      refine wq_iload_n (pc := 15) dX6_rename_15 rfl rfl ?_
      refine cVK_1 (pc := 16) dX6_rename_16 hs (cw_X6_52 _ rfl) (by decide) rfl ⟨by decide, by decide⟩ (Nat.le_of_ble_eq_true rfl) (sp_X6_refuseWrongName hcap (by assumption) (fun hnm => ?_) (fun hnm e9 ht => ?_))
      · skip
        refine kr_v ?_
        rw [pI_0 (fun z => z hnm)] at h
        refine wq_aload_n (pc := 19) dX6_rename_19 rfl rfl ?_
        refine wq_iload (pc := 20) dX6_rename_20 rfl ?_
        refine cVK_1 (pc := 22) dX6_rename_22 hs (cw_X6_52 _ rfl) (by decide) rfl ⟨by decide, by decide⟩ (Nat.le_of_ble_eq_true rfl) (sp_X6_refuseWrongName hcap (by assumption) (fun hnm2 => ?_) (fun hnm2 e9 ht => ?_))
        · skip
          refine kr_v ?_
          rw [pI_0 (fun z => z hnm2)] at h
          refine wq_aload_n (pc := 25) dX6_rename_25 rfl rfl ?_
          refine wq_aload (pc := 26) dX6_rename_26 rfl ?_
          refine wq_iload_n (pc := 28) dX6_rename_28 rfl rfl ?_
          refine cVK_2 (pc := 29) dX6_rename_29 hs (cw_X6_99 _ rfl) (by decide) rfl ⟨by decide, by decide⟩ (Nat.le_of_ble_eq_true rfl) (sp_X6_itemNamed hC hcap hT hB ha hnm (fun b hb => ?_) (fun hn e9 ht => ?_))
          · skip
            refine kr_s ?_
            have hfd : fl d = 1 := by rw [← hS.2.1 d hm]; exact hdr
            have htg := (hS.2.2.1 d hm hfd).1 nm hnm
            rw [htg] at hb
            have hoS := tAt_mem hb
            have ho0 : TG (aF A) d nm ≠ 0 := fun z => by rcases (hS.1 _).mp hoS with w | w; omega; exact w.1 z
            rw [pI_0 ho0] at h
            obtain ⟨hnc, hTDo⟩ := nmc_iff hP hS hoS ho0
            obtain ⟨bz0, bzI, bzw, -⟩ := tAt_sh hT hb
            obtain ⟨hkb, -, -⟩ := id bzI
            have hb1 := (tAt_is hT hb).1
            have hb2f := (tAt_is hT hb).2.1 2 (by omega) (by omega)
            have hb5 := (tAt_is hT hb).2.1 5 (by omega) (by omega)
            have hbB := (hB.2 _ hoS).2.2.1 5 (by omega) (by omega)
            have hbB2 := (hB.2 _ hoS).2.1
            have hbN := (hB.2 _ hoS).1
            refine wq_astore (pc := 32) (L' := [(7, _), (6, _), (5, _), (0, _), (1, _), (2, _), (3, _), (4, _)]) dX6_rename_32 rfl (by decide) ?_
            obtain ⟨cz0, hIc, czw, -⟩ := tAt_sh hT hcc
            obtain ⟨hkc, -, -⟩ := id hIc
            have hfd2 : fl d2 = 1 := by rw [← hS.2.1 d2 hm2]; exact hdr2
            have htg2 := (hS.2.2.1 d2 hm2 hfd2).1 nm2 hnm2
            have hbC := (hB.2 _ hm2).2.2.2 nm2 (by omega) (by omega)
            refine wq_aload_n (pc := 34) dX6_rename_34 rfl rfl ?_
            refine wq_aload (pc := 35) dX6_rename_35 rfl ?_
            refine wq_aload (pc := 37) dX6_rename_37 rfl ?_
            refine wq_aload_n (pc := 39) dX6_rename_39 rfl rfl ?_
            refine wq_getS (pc := 40) dX6_rename_40 hs (gf_X6_28 _ rfl) rfl rfl rfl rfl rfl ?_
            refine wq_aload (pc := 43) dX6_rename_43 rfl ?_
            refine wq_iload (pc := 45) dX6_rename_45 rfl ?_
            refine cV_1 (pc := 47) dX6_rename_47 (cw_X6_116 _ rfl) (by decide) (by with_reducible assumption) ⟨by decide, by decide⟩ (Nat.le_of_ble_eq_true rfl) (sp_X1_cell hIc (by unfold inR; omega) ?_)
            refine kr_s ?_
            rw [tAt_cell hT hcc (by omega) (by omega), htg2]
            refine cVK_1 (pc := 50) dX6_rename_50 hsT (cw_X6_120 _ rfl) (by decide) rfl ⟨by decide, by decide⟩ (Nat.le_of_ble_eq_true rfl) (sp_X5_find hT hB (by unfold inR; omega) (fun q hq => ?_) (fun hn => ?_))
            · skip
              refine kr_s ?_
              have hTk : (q = 0 ∧ TG (aF A) d2 nm2 ∉ tNl S) ∨ tAt S μ q (TG (aF A) d2 nm2) := Or.inr hq
              have hq0 := (tAt_sh hT hq).1
              refine cVK_3 (pc := 53) dX6_rename_53 hs (cw_X6_123 _ rfl) (by decide) rfl ⟨by decide, by decide⟩ (Nat.le_of_ble_eq_true rfl) (sp_X6_refuseWrongMove hcap hT hB hs hb hcc hTk (fun hmv m1 T1 F1 K1 => ?_) (fun hmv m1 T1 F1 K1 e9 ht => ?_))
              · skip
                refine kr_v ?_
                have hnbad : ¬ badR A d nm d2 nm2 := fun z => hmv ((badMv_iff hP hS hm2 hfd2 hnm2 ho0 hoS).mpr z)
                rw [pI_0 hnbad] at h
                obtain ⟨C61, R1⟩ := C6_T hC6 T1 F1
                have hs := C61.1.1
                have hsT := C61.2.2.1
                have hcap1 := R1.2.2.2 _ hcap
                refine wq_aload_n (pc := 56) dX6_rename_56 rfl rfl ?_
                refine wq_iconst (pc := 57) dX6_rename_57 ?_
                refine wq_iconst (pc := 58) dX6_rename_58 ?_
                refine cVK_2 (pc := 59) dX6_rename_59 hs (cw_X6_60 _ rfl) (by decide) rfl ⟨by decide, by decide⟩ (Nat.le_of_ble_eq_true rfl) (sp_X6_refuseWithoutRoom C61.1 C61.2.1 hP.2.2.2.1.1 (PA_bd hP.2.1) hcap1 (by omega) (by omega) (fun hrm m2 t2 => ?_) (fun hrm m2 t2 e9 ht => ?_))
                · skip
                  refine kr_v ?_
                  rw [if_neg (by decide)] at hrm
                  have hrm : rmA A [3, 3] 1 := hrm
                  rw [pI_0 (fun z => z hrm)] at h
                  obtain ⟨⟨s1, hs1, hus⟩, hfr1⟩ := tr_fr (by omega) (by omega) hrm
                  obtain ⟨C6b, K2, R2⟩ := C6_TrM C61 t2
                  have hcap2 := R2.2.2.2 _ hcap1
                  have h562 := h56
                  have hx8 := hP.2.2.2.2.2.2.2.1
                  have hv9 := hP.2.2.2.2.2.2.2.2.1
                  have hv3 : tFd S d 3 = aN A d := (hS.2.2.1 d hm hfd).2.2.2
                  have hv32 : tFd S d2 3 = aN A d2 := (hS.2.2.1 d2 hm2 hfd2).2.2.2
                  have hv3b := hv9 d
                  have hv3b2 := hv9 d2
                  have hdb : 1 ≤ d ∧ d < aX A := tD_b hP.2.2.2.2.2.2.1 ((TSW_tD hS hP.2.2.2.2.2.2.1 d).mpr ⟨hm, hfd⟩)
                  have hdD2 := (TSW_tD hS hP.2.2.2.2.2.2.1 d2).mpr ⟨hm2, hfd2⟩
                  have hdb2 : 1 ≤ d2 ∧ d2 < aX A := tD_b hP.2.2.2.2.2.2.1 hdD2
                  have ho2b := hP.2.2.2.2.2.2.1.2.2.1 d nm
                  have ha2 := K2 _ _ (K1 _ _ ha)
                  have hc2 := K2 _ _ (K1 _ _ hcc)
                  have hbo2 := K2 _ _ (K1 _ _ hb)
                  have hbn2 : m2 b 1 = TG (aF A) d nm := (tAt_is C6b.2.2 hbo2).1
                  have hbf2 : m2 b 2 = TD (aF A) d nm := by rw [hTDo, ← hS.2.1 _ hoS]; exact (tAt_is C6b.2.2 hbo2).2.1 2 (by omega) (by omega)
                  have hTD01 : TD (aF A) d nm = 0 ∨ TD (aF A) d nm = 1 := by rw [hTDo]; exact hP.2.2.2.2.2.2.1.2.1 _
                  have hTDe : (if TG (aF A) d nm = 0 then 0 else fl (TG (aF A) d nm)) = TD (aF A) d nm := by rw [if_neg ho0, hTDo]
                  have eTD := flOK_TD (PA_NS hP.2.1) hP.2.2.2.2.2.1
                  have hWp : WD (gup (TG (aF A)) d2 nm2 (TG (aF A) d nm)) fl (aX A) := WD_put hP.2.2.2.2.2.2.1 hdD2 (by omega) (fun q => (TSW_tD hS hP.2.2.2.2.2.2.1 _).mpr ⟨hoS, q⟩) (by
                      by_cases c : TG (aF A) d2 nm2 = 0
                      · exact Or.inl c
                      · rcases hP.2.2.2.2.2.2.1.2.1 (TG (aF A) d2 nm2) with q | q
                        · exact Or.inr q
                        · refine absurd (Or.inl ⟨c, Or.inr (Or.inl ?_)⟩) hnbad
                          rw [eTD]; unfold dF; rw [if_neg c]; exact q) (fun q z => hnbad (Or.inr ⟨by rw [hTDo]; exact q, by rw [eTD]; exact z⟩))
                  have N := IP_name (nb := nb + 1) (d := d2) (nm := nm2) (t := TG (aF A) d nm) (nx' := aX A) (IP_mono hP (by omega) (Int.le_refl vb)) (by omega) (by omega) hdb2 hnm2 (by omega) (by omega) hfr1 rfl
                  rw [hTDe] at N
                  unfold actRename1 at h
                  refine wq_aload (pc := 62) dX6_rename_62 rfl ?_
                  refine wq_getI (pc := 64) (kk := 1) dX6_rename_64 (gf_X6_113 _ rfl) (by with_reducible assumption) rfl rfl rfl ?_
                  rw [hbn2]
                  refine wq_istore (pc := 67) (L' := [(8, _), (7, _), (6, _), (5, _), (0, _), (1, _), (2, _), (3, _), (4, _)]) dX6_rename_67 rfl (by decide) ?_
                  refine wq_aload_n (pc := 69) dX6_rename_69 rfl rfl ?_
                  refine wq_aload (pc := 70) dX6_rename_70 rfl ?_
                  refine wq_iload (pc := 72) dX6_rename_72 rfl ?_
                  refine wq_iload (pc := 74) dX6_rename_74 rfl ?_
                  refine wq_aload (pc := 76) dX6_rename_76 rfl ?_
                  refine wq_getI (pc := 78) (kk := 2) dX6_rename_78 (gf_X6_127 _ rfl) (by with_reducible assumption) rfl rfl rfl ?_
                  rw [hbf2]
                  refine cVK_4 (pc := 81) dX6_rename_81 hs (cw_X6_76 _ rfl) (by decide) rfl ⟨by decide, by decide⟩ (Nat.le_of_ble_eq_true rfl) (sp_X6_putName C6b.1 C6b.2.1 C6b.2.2 hB (PL_wfP hP.2.1 hP.2.2.2.1) hcap2 hc2 hfr1 (by omega) (by omega) hnm2 (by omega) hTD01 (fun hr5 m5 e5 C5 R5 K5 => ?_) (fun hr5 m5 e5 C5 R5 K5 => ?_))
                  · skip
                    refine kr_s ?_
                    rw [show nmSrc d2 (tFd S d2 3 + 1) nm2 (TG (aF A) d nm) (TD (aF A) d nm) = nmSrc d2 (aN A d2 + 1) nm2 (TG (aF A) d nm) (TD (aF A) d nm) by rw [hv32]] at hr5 C5
                    generalize lPut (aF A) (aG A) (nmSrc d2 (aN A d2 + 1) nm2 (TG (aF A) d nm) (TD (aF A) d nm)) = P at hr5 C5 N h
                    rw [if_pos hr5] at h
                    obtain ⟨N1, N2⟩ := N.2 hr5
                    have fin : MC (P.1, P.2.1, aX A, aD A, aN A) (nb + 1) (vb + 2) m5 e5 := MC_off C5 (tB_ver hB hm2 (by omega)) (by rw [(R5.2.1 25 h56).1]; exact h56) N1 N2 (by omega) (by omega) (by omega)
                    have fcap := Cap_mono (R5.2.2.2 _ hcap2) (Nat.le_succ t)
                    have ffr := FrN_6 (Fr6_trans R1 (Fr6_trans R2 R5))
                    refine wq_if_eq (pc := 84) (tgt := 99) dX6_rename_84 (by decide) (by first | (unfold inR; omega) | assumption) (fun _ => ?_) (fun c => absurd c (by decide))
                    refine wq_bipush (pc := 99) dX6_rename_99 (by decide) (by decide) ?_
                    refine wq_iret (pc := 101) dX6_rename_101 rfl ?_
                    first | exact z9.elim | (obtain ⟨m9, c9, f9⟩ := MC_x hC6c hB hIB hDD h56 hon hnb hcap hF6 ht; exact h _ _ m9 c9 f9) | exact h _ _ fin fcap ffr
                  · skip
                    refine kr_s ?_
                    rw [show nmSrc d2 (tFd S d2 3 + 1) nm2 (TG (aF A) d nm) (TD (aF A) d nm) = nmSrc d2 (aN A d2 + 1) nm2 (TG (aF A) d nm) (TD (aF A) d nm) by rw [hv32]] at hr5 C5
                    generalize lPut (aF A) (aG A) (nmSrc d2 (aN A d2 + 1) nm2 (TG (aF A) d nm) (TD (aF A) d nm)) = P at hr5 C5 N h
                    rw [if_neg (by rw [hr5]; decide)] at h
                    obtain ⟨N1, N2, N3, N4, N5, N6, N7, N8⟩ := N.1 hr5
                    have hs := C5.1.1
                    have hsT := C5.2.2.1
                    have h565 : eKind e5 25 ≠ 0 := by rw [(R5.2.1 25 h56).1]; exact h56
                    have hcap5 := R5.2.2.2 _ hcap2
                    have ha5 := K5 _ _ ha2
                    have hc5 := K5 _ _ hc2
                    have hb5' := K5 _ _ hbo2
                    have h0S : (0 : Int) ∉ tNl S := fun z => by rcases (hS.1 0).mp z with q | q; omega; exact q.1 rfl
                    have hBv := tB_ver hB hm2 (show tFd S d2 3 ≤ 99999 by omega)
                    have I1 := N1 hWp
                    have hus2 := (N7 3 [] 1 s1 hs1).mp hus
                    obtain ⟨-, hfr2⟩ := tr_fr (by omega) (by omega) hus2
                    have hv3z : tFd (tSetF S d2 3 (tFd S d2 3 + 1)) d 3 = bump (aN A) d2 d := by
                      show (if d = d2 ∧ (3 : Int) = 3 then tFd S d2 3 + 1 else tFd S d 3) = (if d = d2 then aN A d2 + 1 else aN A d)
                      by_cases c : d = d2
                      · rw [if_pos ⟨c, rfl⟩, if_pos c, hv32]
                      · rw [if_neg (fun z => c z.1), if_neg c, hv3]
                    have hbb : 0 ≤ bump (aN A) d2 d ∧ bump (aN A) d2 d ≤ vb + 1 := by
                      unfold bump
                      split <;> omega
                    have M := IP_name (A := (P.1, P.2.1, aX A, aD A, bump (aN A) d2)) (nb := nb + 1) (vb := vb + 1) (d := d) (nm := nm) (t := 0) (nx' := aX A) I1 (by omega) (by omega) hdb hnm (by omega) (by show aX A ≤ aX A ∧ aX A ≤ nb + 1; omega) hfr2 rfl
                    rw [if_pos rfl] at M
                    unfold actRename2 at h
                    refine wq_if_eq (pc := 84) (tgt := 99) dX6_rename_84 (by decide) (by first | (unfold inR; omega) | assumption) (fun c => absurd c (by decide)) (fun _ => ?_)
                    refine wq_aload_n (pc := 87) dX6_rename_87 rfl rfl ?_
                    refine wq_aload (pc := 88) dX6_rename_88 rfl ?_
                    refine wq_iload_n (pc := 90) dX6_rename_90 rfl rfl ?_
                    refine wq_iconst (pc := 91) dX6_rename_91 ?_
                    refine wq_iconst (pc := 92) dX6_rename_92 ?_
                    refine cVK_4 (pc := 93) dX6_rename_93 hs (cw_X6_76 _ rfl) (by decide) rfl ⟨by decide, by decide⟩ (Nat.le_of_ble_eq_true rfl) (sp_X6_putName C5.1 C5.2.1 C5.2.2 hBv (PL_wfP I1.2.1 I1.2.2.2.1) hcap5 ha5 hfr2 (by omega) (by omega) hnm (by omega) (Or.inl rfl) (fun hr6 m6 e6 C6x R6 K6 => ?_) (fun hr6 m6 e6 C6x R6 K6 => ?_))
                    · skip
                      refine kr_s ?_
                      rw [show nmSrc d (tFd (tSetF S d2 3 (tFd S d2 3 + 1)) d 3 + 1) nm 0 0 = nmSrc d (bump (aN A) d2 d + 1) nm 0 0 by rw [hv3z]] at hr6 C6x
                      generalize lPut P.1 P.2.1 (nmSrc d (bump (aN A) d2 d + 1) nm 0 0) = R at hr6 C6x M h
                      rw [if_pos hr6] at h
                      obtain ⟨M1, M2⟩ := M.2 hr6
                      have fin : MC (R.1, R.2.1, aX A, aD A, aN A) (nb + 1) (vb + 2) m6 e6 := MC_off C6x (tB_ver hBv hm (by omega)) (by rw [(R6.2.1 25 h565).1]; exact h565) M1 M2 (by omega) (by omega) (by omega)
                      have fcap := Cap_mono (R6.2.2.2 _ hcap5) (Nat.le_succ t)
                      have ffr := FrN_6 (Fr6_trans R1 (Fr6_trans R2 (Fr6_trans R5 R6)))
                      refine wq_if_ne (pc := 96) (tgt := 102) dX6_rename_96 (by decide) (by first | (unfold inR; omega) | assumption) (fun c => absurd c (by decide)) (fun _ => ?_)
                      refine wq_bipush (pc := 99) dX6_rename_99 (by decide) (by decide) ?_
                      refine wq_iret (pc := 101) dX6_rename_101 rfl ?_
                      first | exact z9.elim | (obtain ⟨m9, c9, f9⟩ := MC_x hC6c hB hIB hDD h56 hon hnb hcap hF6 ht; exact h _ _ m9 c9 f9) | exact h _ _ fin fcap ffr
                    · skip
                      refine kr_s ?_
                      rw [show nmSrc d (tFd (tSetF S d2 3 (tFd S d2 3 + 1)) d 3 + 1) nm 0 0 = nmSrc d (bump (aN A) d2 d + 1) nm 0 0 by rw [hv3z]] at hr6 C6x
                      generalize lPut P.1 P.2.1 (nmSrc d (bump (aN A) d2 d + 1) nm 0 0) = R at hr6 C6x M h
                      rw [if_neg (by rw [hr6]; decide)] at h
                      obtain ⟨M1, M2, M3, M4, M5, M6, M7, M8⟩ := M.1 hr6
                      have hs := C6x.1.1
                      have hsT := C6x.2.2.1
                      have h566 : eKind e6 25 ≠ 0 := by rw [(R6.2.1 25 h565).1]; exact h565
                      have hcap6 := R6.2.2.2 _ hcap5
                      have ha6 := K6 _ _ ha5
                      have hc6 := K6 _ _ hc5
                      have hb6 := K6 _ _ hb5'
                      have hBv2 := tB_ver hBv hm (show tFd (tSetF S d2 3 (tFd S d2 3 + 1)) d 3 ≤ 99999 by omega)
                      refine wq_if_ne (pc := 96) (tgt := 102) dX6_rename_96 (by decide) (by first | (unfold inR; omega) | assumption) (fun _ => ?_) (fun c => absurd c (by decide))
                      refine wq_aload_n (pc := 102) dX6_rename_102 rfl rfl ?_
                      refine wq_getS (pc := 103) dX6_rename_103 hs (gf_X6_28 _ rfl) rfl rfl rfl rfl rfl ?_
                      refine wq_aload (pc := 106) dX6_rename_106 rfl ?_
                      refine wq_iload (pc := 108) dX6_rename_108 rfl ?_
                      refine wq_aload (pc := 110) dX6_rename_110 rfl ?_
                      refine cVK_3 (pc := 112) dX6_rename_112 hsT (cw_X6_89 _ rfl) (by decide) rfl ⟨by decide, by decide⟩ (Nat.le_of_ble_eq_true rfl) (sx_X5_assign C6x.2.2 hBv2 h0S hc6 hb6 (by omega) (fun m7 S7 hA7 T7 F7 K7 => ?_))
                      refine kr_v ?_
                      obtain ⟨C6y, R7⟩ := C6_T C6x T7 F7
                      have hcap7 := R7.2.2.2 _ hcap6
                      have hd7 : d ∈ tNl S7 := (hA7.2.1 d).mpr ⟨hm, fun q => by
                        have q1 : d = TG (aF A) d2 nm2 := q.1.trans htg2
                        by_cases c : TG (aF A) d2 nm2 = 0
                        · omega
                        · refine hnbad (Or.inl ⟨c, Or.inr (Or.inl ?_)⟩)
                          rw [eTD]; unfold dF; rw [if_neg c, ← q1]; exact hfd⟩
                      have ha7 := K7 _ _ hd7 ha6
                      have hB7 : tB S7 := rename_mid hP hS hm hfd hnm hm2 hfd2 hnm2 ho0 hnbad (by omega) hA7 C6y.2.2.2.2.2.1
                      refine wq_aload_n (pc := 115) dX6_rename_115 rfl rfl ?_
                      refine wq_getS (pc := 116) dX6_rename_116 hs (gf_X6_28 _ rfl) rfl rfl rfl rfl rfl ?_
                      refine wq_aload (pc := 119) dX6_rename_119 rfl ?_
                      refine wq_iload_n (pc := 121) dX6_rename_121 rfl rfl ?_
                      refine wq_null (pc := 122) dX6_rename_122 ?_
                      refine cVK_3 (pc := 123) dX6_rename_123 hsT (cw_X6_89 _ rfl) (by decide) rfl ⟨by decide, by decide⟩ (Nat.le_of_ble_eq_true rfl) (sx_X5_assign0 C6y.2.2 hB7 ha7 (by omega) (fun m8 S8 hA8 T8 F8 K8 => ?_))
                      refine kr_v ?_
                      obtain ⟨C6g, R8⟩ := C6_T C6y T8 F8
                      obtain ⟨Z1, Z2⟩ := rename_ok (P := P) (R := R) (nb := nb + 1) (vb := vb) (IP_mono hP (by omega) (Int.le_refl _)) hS hm hfd hnm hm2 hfd2 hnm2 ho0 hnbad (fun w => IP_mono (M1 w) (Int.le_refl _) (by omega)) N2 N3 N4 M2 M3 M4 hA7 hA8
                      have fin := MC_on (A := (R.1, R.2.1, aX A, aD A, bump (bump (aN A) d2) d)) (nb := nb + 1) (vb := vb + 2) C6g h566 Z1 Z2 (by omega) (by omega)
                      have fcap := Cap_mono (R8.2.2.2 _ hcap7) (Nat.le_succ t)
                      have ffr := FrN_6 (Fr6_trans R1 (Fr6_trans R2 (Fr6_trans R5 (Fr6_trans R6 (Fr6_trans R7 R8)))))
                      refine wq_iload (pc := 126) dX6_rename_126 rfl ?_
                      refine wq_iret (pc := 128) dX6_rename_128 rfl ?_
                      first | exact z9.elim | (obtain ⟨m9, c9, f9⟩ := MC_x hC6c hB hIB hDD h56 hon hnb hcap hF6 ht; exact h _ _ m9 c9 f9) | exact h _ _ fin fcap ffr
                · skip
                  refine kr_x ?_
                  rw [if_neg (by decide)] at hrm
                  have hrm : ¬ rmA A [3, 3] 1 := hrm
                  rw [pI_1 hrm] at h
                  obtain ⟨hC6c, K2, R2⟩ := C6_TrM C61 t2
                  have hF6 := Fr6_trans R1 R2
                  first | exact z9.elim | (obtain ⟨m9, c9, f9⟩ := MC_x hC6c hB hIB hDD h56 hon hnb hcap hF6 ht; exact h _ _ m9 c9 f9) | exact h _ _ fin fcap ffr
              · skip
                refine kr_x ?_
                have hbad : badR A d nm d2 nm2 := (badMv_iff hP hS hm2 hfd2 hnm2 ho0 hoS).mp hmv
                rw [pI_1 hbad] at h
                obtain ⟨hC6c, hF6⟩ := C6_T hC6 T1 F1
                first | exact z9.elim | (obtain ⟨m9, c9, f9⟩ := MC_x hC6c hB hIB hDD h56 hon hnb hcap hF6 ht; exact h _ _ m9 c9 f9) | exact h _ _ fin fcap ffr
            · skip
              refine kr_s ?_
              have hTk : ((0 : Int) = 0 ∧ TG (aF A) d2 nm2 ∉ tNl S) ∨ tAt S μ 0 (TG (aF A) d2 nm2) := Or.inl ⟨rfl, hn⟩
              refine cVK_3 (pc := 53) dX6_rename_53 hs (cw_X6_123 _ rfl) (by decide) rfl ⟨by decide, by decide⟩ (Nat.le_of_ble_eq_true rfl) (sp_X6_refuseWrongMove hcap hT hB hs hb hcc hTk (fun hmv m1 T1 F1 K1 => ?_) (fun hmv m1 T1 F1 K1 e9 ht => ?_))
              · skip
                refine kr_v ?_
                have hnbad : ¬ badR A d nm d2 nm2 := fun z => hmv ((badMv_iff hP hS hm2 hfd2 hnm2 ho0 hoS).mpr z)
                rw [pI_0 hnbad] at h
                obtain ⟨C61, R1⟩ := C6_T hC6 T1 F1
                have hs := C61.1.1
                have hsT := C61.2.2.1
                have hcap1 := R1.2.2.2 _ hcap
                refine wq_aload_n (pc := 56) dX6_rename_56 rfl rfl ?_
                refine wq_iconst (pc := 57) dX6_rename_57 ?_
                refine wq_iconst (pc := 58) dX6_rename_58 ?_
                refine cVK_2 (pc := 59) dX6_rename_59 hs (cw_X6_60 _ rfl) (by decide) rfl ⟨by decide, by decide⟩ (Nat.le_of_ble_eq_true rfl) (sp_X6_refuseWithoutRoom C61.1 C61.2.1 hP.2.2.2.1.1 (PA_bd hP.2.1) hcap1 (by omega) (by omega) (fun hrm m2 t2 => ?_) (fun hrm m2 t2 e9 ht => ?_))
                · skip
                  refine kr_v ?_
                  rw [if_neg (by decide)] at hrm
                  have hrm : rmA A [3, 3] 1 := hrm
                  rw [pI_0 (fun z => z hrm)] at h
                  obtain ⟨⟨s1, hs1, hus⟩, hfr1⟩ := tr_fr (by omega) (by omega) hrm
                  obtain ⟨C6b, K2, R2⟩ := C6_TrM C61 t2
                  have hcap2 := R2.2.2.2 _ hcap1
                  have h562 := h56
                  have hx8 := hP.2.2.2.2.2.2.2.1
                  have hv9 := hP.2.2.2.2.2.2.2.2.1
                  have hv3 : tFd S d 3 = aN A d := (hS.2.2.1 d hm hfd).2.2.2
                  have hv32 : tFd S d2 3 = aN A d2 := (hS.2.2.1 d2 hm2 hfd2).2.2.2
                  have hv3b := hv9 d
                  have hv3b2 := hv9 d2
                  have hdb : 1 ≤ d ∧ d < aX A := tD_b hP.2.2.2.2.2.2.1 ((TSW_tD hS hP.2.2.2.2.2.2.1 d).mpr ⟨hm, hfd⟩)
                  have hdD2 := (TSW_tD hS hP.2.2.2.2.2.2.1 d2).mpr ⟨hm2, hfd2⟩
                  have hdb2 : 1 ≤ d2 ∧ d2 < aX A := tD_b hP.2.2.2.2.2.2.1 hdD2
                  have ho2b := hP.2.2.2.2.2.2.1.2.2.1 d nm
                  have ha2 := K2 _ _ (K1 _ _ ha)
                  have hc2 := K2 _ _ (K1 _ _ hcc)
                  have hbo2 := K2 _ _ (K1 _ _ hb)
                  have hbn2 : m2 b 1 = TG (aF A) d nm := (tAt_is C6b.2.2 hbo2).1
                  have hbf2 : m2 b 2 = TD (aF A) d nm := by rw [hTDo, ← hS.2.1 _ hoS]; exact (tAt_is C6b.2.2 hbo2).2.1 2 (by omega) (by omega)
                  have hTD01 : TD (aF A) d nm = 0 ∨ TD (aF A) d nm = 1 := by rw [hTDo]; exact hP.2.2.2.2.2.2.1.2.1 _
                  have hTDe : (if TG (aF A) d nm = 0 then 0 else fl (TG (aF A) d nm)) = TD (aF A) d nm := by rw [if_neg ho0, hTDo]
                  have eTD := flOK_TD (PA_NS hP.2.1) hP.2.2.2.2.2.1
                  have hWp : WD (gup (TG (aF A)) d2 nm2 (TG (aF A) d nm)) fl (aX A) := WD_put hP.2.2.2.2.2.2.1 hdD2 (by omega) (fun q => (TSW_tD hS hP.2.2.2.2.2.2.1 _).mpr ⟨hoS, q⟩) (by
                      by_cases c : TG (aF A) d2 nm2 = 0
                      · exact Or.inl c
                      · rcases hP.2.2.2.2.2.2.1.2.1 (TG (aF A) d2 nm2) with q | q
                        · exact Or.inr q
                        · refine absurd (Or.inl ⟨c, Or.inr (Or.inl ?_)⟩) hnbad
                          rw [eTD]; unfold dF; rw [if_neg c]; exact q) (fun q z => hnbad (Or.inr ⟨by rw [hTDo]; exact q, by rw [eTD]; exact z⟩))
                  have N := IP_name (nb := nb + 1) (d := d2) (nm := nm2) (t := TG (aF A) d nm) (nx' := aX A) (IP_mono hP (by omega) (Int.le_refl vb)) (by omega) (by omega) hdb2 hnm2 (by omega) (by omega) hfr1 rfl
                  rw [hTDe] at N
                  unfold actRename1 at h
                  refine wq_aload (pc := 62) dX6_rename_62 rfl ?_
                  refine wq_getI (pc := 64) (kk := 1) dX6_rename_64 (gf_X6_113 _ rfl) (by with_reducible assumption) rfl rfl rfl ?_
                  rw [hbn2]
                  refine wq_istore (pc := 67) (L' := [(8, _), (7, _), (6, _), (5, _), (0, _), (1, _), (2, _), (3, _), (4, _)]) dX6_rename_67 rfl (by decide) ?_
                  refine wq_aload_n (pc := 69) dX6_rename_69 rfl rfl ?_
                  refine wq_aload (pc := 70) dX6_rename_70 rfl ?_
                  refine wq_iload (pc := 72) dX6_rename_72 rfl ?_
                  refine wq_iload (pc := 74) dX6_rename_74 rfl ?_
                  refine wq_aload (pc := 76) dX6_rename_76 rfl ?_
                  refine wq_getI (pc := 78) (kk := 2) dX6_rename_78 (gf_X6_127 _ rfl) (by with_reducible assumption) rfl rfl rfl ?_
                  rw [hbf2]
                  refine cVK_4 (pc := 81) dX6_rename_81 hs (cw_X6_76 _ rfl) (by decide) rfl ⟨by decide, by decide⟩ (Nat.le_of_ble_eq_true rfl) (sp_X6_putName C6b.1 C6b.2.1 C6b.2.2 hB (PL_wfP hP.2.1 hP.2.2.2.1) hcap2 hc2 hfr1 (by omega) (by omega) hnm2 (by omega) hTD01 (fun hr5 m5 e5 C5 R5 K5 => ?_) (fun hr5 m5 e5 C5 R5 K5 => ?_))
                  · skip
                    refine kr_s ?_
                    rw [show nmSrc d2 (tFd S d2 3 + 1) nm2 (TG (aF A) d nm) (TD (aF A) d nm) = nmSrc d2 (aN A d2 + 1) nm2 (TG (aF A) d nm) (TD (aF A) d nm) by rw [hv32]] at hr5 C5
                    generalize lPut (aF A) (aG A) (nmSrc d2 (aN A d2 + 1) nm2 (TG (aF A) d nm) (TD (aF A) d nm)) = P at hr5 C5 N h
                    rw [if_pos hr5] at h
                    obtain ⟨N1, N2⟩ := N.2 hr5
                    have fin : MC (P.1, P.2.1, aX A, aD A, aN A) (nb + 1) (vb + 2) m5 e5 := MC_off C5 (tB_ver hB hm2 (by omega)) (by rw [(R5.2.1 25 h56).1]; exact h56) N1 N2 (by omega) (by omega) (by omega)
                    have fcap := Cap_mono (R5.2.2.2 _ hcap2) (Nat.le_succ t)
                    have ffr := FrN_6 (Fr6_trans R1 (Fr6_trans R2 R5))
                    refine wq_if_eq (pc := 84) (tgt := 99) dX6_rename_84 (by decide) (by first | (unfold inR; omega) | assumption) (fun _ => ?_) (fun c => absurd c (by decide))
                    refine wq_bipush (pc := 99) dX6_rename_99 (by decide) (by decide) ?_
                    refine wq_iret (pc := 101) dX6_rename_101 rfl ?_
                    first | exact z9.elim | (obtain ⟨m9, c9, f9⟩ := MC_x hC6c hB hIB hDD h56 hon hnb hcap hF6 ht; exact h _ _ m9 c9 f9) | exact h _ _ fin fcap ffr
                  · skip
                    refine kr_s ?_
                    rw [show nmSrc d2 (tFd S d2 3 + 1) nm2 (TG (aF A) d nm) (TD (aF A) d nm) = nmSrc d2 (aN A d2 + 1) nm2 (TG (aF A) d nm) (TD (aF A) d nm) by rw [hv32]] at hr5 C5
                    generalize lPut (aF A) (aG A) (nmSrc d2 (aN A d2 + 1) nm2 (TG (aF A) d nm) (TD (aF A) d nm)) = P at hr5 C5 N h
                    rw [if_neg (by rw [hr5]; decide)] at h
                    obtain ⟨N1, N2, N3, N4, N5, N6, N7, N8⟩ := N.1 hr5
                    have hs := C5.1.1
                    have hsT := C5.2.2.1
                    have h565 : eKind e5 25 ≠ 0 := by rw [(R5.2.1 25 h56).1]; exact h56
                    have hcap5 := R5.2.2.2 _ hcap2
                    have ha5 := K5 _ _ ha2
                    have hc5 := K5 _ _ hc2
                    have hb5' := K5 _ _ hbo2
                    have h0S : (0 : Int) ∉ tNl S := fun z => by rcases (hS.1 0).mp z with q | q; omega; exact q.1 rfl
                    have hBv := tB_ver hB hm2 (show tFd S d2 3 ≤ 99999 by omega)
                    have I1 := N1 hWp
                    have hus2 := (N7 3 [] 1 s1 hs1).mp hus
                    obtain ⟨-, hfr2⟩ := tr_fr (by omega) (by omega) hus2
                    have hv3z : tFd (tSetF S d2 3 (tFd S d2 3 + 1)) d 3 = bump (aN A) d2 d := by
                      show (if d = d2 ∧ (3 : Int) = 3 then tFd S d2 3 + 1 else tFd S d 3) = (if d = d2 then aN A d2 + 1 else aN A d)
                      by_cases c : d = d2
                      · rw [if_pos ⟨c, rfl⟩, if_pos c, hv32]
                      · rw [if_neg (fun z => c z.1), if_neg c, hv3]
                    have hbb : 0 ≤ bump (aN A) d2 d ∧ bump (aN A) d2 d ≤ vb + 1 := by
                      unfold bump
                      split <;> omega
                    have M := IP_name (A := (P.1, P.2.1, aX A, aD A, bump (aN A) d2)) (nb := nb + 1) (vb := vb + 1) (d := d) (nm := nm) (t := 0) (nx' := aX A) I1 (by omega) (by omega) hdb hnm (by omega) (by show aX A ≤ aX A ∧ aX A ≤ nb + 1; omega) hfr2 rfl
                    rw [if_pos rfl] at M
                    unfold actRename2 at h
                    refine wq_if_eq (pc := 84) (tgt := 99) dX6_rename_84 (by decide) (by first | (unfold inR; omega) | assumption) (fun c => absurd c (by decide)) (fun _ => ?_)
                    refine wq_aload_n (pc := 87) dX6_rename_87 rfl rfl ?_
                    refine wq_aload (pc := 88) dX6_rename_88 rfl ?_
                    refine wq_iload_n (pc := 90) dX6_rename_90 rfl rfl ?_
                    refine wq_iconst (pc := 91) dX6_rename_91 ?_
                    refine wq_iconst (pc := 92) dX6_rename_92 ?_
                    refine cVK_4 (pc := 93) dX6_rename_93 hs (cw_X6_76 _ rfl) (by decide) rfl ⟨by decide, by decide⟩ (Nat.le_of_ble_eq_true rfl) (sp_X6_putName C5.1 C5.2.1 C5.2.2 hBv (PL_wfP I1.2.1 I1.2.2.2.1) hcap5 ha5 hfr2 (by omega) (by omega) hnm (by omega) (Or.inl rfl) (fun hr6 m6 e6 C6x R6 K6 => ?_) (fun hr6 m6 e6 C6x R6 K6 => ?_))
                    · skip
                      refine kr_s ?_
                      rw [show nmSrc d (tFd (tSetF S d2 3 (tFd S d2 3 + 1)) d 3 + 1) nm 0 0 = nmSrc d (bump (aN A) d2 d + 1) nm 0 0 by rw [hv3z]] at hr6 C6x
                      generalize lPut P.1 P.2.1 (nmSrc d (bump (aN A) d2 d + 1) nm 0 0) = R at hr6 C6x M h
                      rw [if_pos hr6] at h
                      obtain ⟨M1, M2⟩ := M.2 hr6
                      have fin : MC (R.1, R.2.1, aX A, aD A, aN A) (nb + 1) (vb + 2) m6 e6 := MC_off C6x (tB_ver hBv hm (by omega)) (by rw [(R6.2.1 25 h565).1]; exact h565) M1 M2 (by omega) (by omega) (by omega)
                      have fcap := Cap_mono (R6.2.2.2 _ hcap5) (Nat.le_succ t)
                      have ffr := FrN_6 (Fr6_trans R1 (Fr6_trans R2 (Fr6_trans R5 R6)))
                      refine wq_if_ne (pc := 96) (tgt := 102) dX6_rename_96 (by decide) (by first | (unfold inR; omega) | assumption) (fun c => absurd c (by decide)) (fun _ => ?_)
                      refine wq_bipush (pc := 99) dX6_rename_99 (by decide) (by decide) ?_
                      refine wq_iret (pc := 101) dX6_rename_101 rfl ?_
                      first | exact z9.elim | (obtain ⟨m9, c9, f9⟩ := MC_x hC6c hB hIB hDD h56 hon hnb hcap hF6 ht; exact h _ _ m9 c9 f9) | exact h _ _ fin fcap ffr
                    · skip
                      refine kr_s ?_
                      rw [show nmSrc d (tFd (tSetF S d2 3 (tFd S d2 3 + 1)) d 3 + 1) nm 0 0 = nmSrc d (bump (aN A) d2 d + 1) nm 0 0 by rw [hv3z]] at hr6 C6x
                      generalize lPut P.1 P.2.1 (nmSrc d (bump (aN A) d2 d + 1) nm 0 0) = R at hr6 C6x M h
                      rw [if_neg (by rw [hr6]; decide)] at h
                      obtain ⟨M1, M2, M3, M4, M5, M6, M7, M8⟩ := M.1 hr6
                      have hs := C6x.1.1
                      have hsT := C6x.2.2.1
                      have h566 : eKind e6 25 ≠ 0 := by rw [(R6.2.1 25 h565).1]; exact h565
                      have hcap6 := R6.2.2.2 _ hcap5
                      have ha6 := K6 _ _ ha5
                      have hc6 := K6 _ _ hc5
                      have hb6 := K6 _ _ hb5'
                      have hBv2 := tB_ver hBv hm (show tFd (tSetF S d2 3 (tFd S d2 3 + 1)) d 3 ≤ 99999 by omega)
                      refine wq_if_ne (pc := 96) (tgt := 102) dX6_rename_96 (by decide) (by first | (unfold inR; omega) | assumption) (fun _ => ?_) (fun c => absurd c (by decide))
                      refine wq_aload_n (pc := 102) dX6_rename_102 rfl rfl ?_
                      refine wq_getS (pc := 103) dX6_rename_103 hs (gf_X6_28 _ rfl) rfl rfl rfl rfl rfl ?_
                      refine wq_aload (pc := 106) dX6_rename_106 rfl ?_
                      refine wq_iload (pc := 108) dX6_rename_108 rfl ?_
                      refine wq_aload (pc := 110) dX6_rename_110 rfl ?_
                      refine cVK_3 (pc := 112) dX6_rename_112 hsT (cw_X6_89 _ rfl) (by decide) rfl ⟨by decide, by decide⟩ (Nat.le_of_ble_eq_true rfl) (sx_X5_assign C6x.2.2 hBv2 h0S hc6 hb6 (by omega) (fun m7 S7 hA7 T7 F7 K7 => ?_))
                      refine kr_v ?_
                      obtain ⟨C6y, R7⟩ := C6_T C6x T7 F7
                      have hcap7 := R7.2.2.2 _ hcap6
                      have hd7 : d ∈ tNl S7 := (hA7.2.1 d).mpr ⟨hm, fun q => by
                        have q1 : d = TG (aF A) d2 nm2 := q.1.trans htg2
                        by_cases c : TG (aF A) d2 nm2 = 0
                        · omega
                        · refine hnbad (Or.inl ⟨c, Or.inr (Or.inl ?_)⟩)
                          rw [eTD]; unfold dF; rw [if_neg c, ← q1]; exact hfd⟩
                      have ha7 := K7 _ _ hd7 ha6
                      have hB7 : tB S7 := rename_mid hP hS hm hfd hnm hm2 hfd2 hnm2 ho0 hnbad (by omega) hA7 C6y.2.2.2.2.2.1
                      refine wq_aload_n (pc := 115) dX6_rename_115 rfl rfl ?_
                      refine wq_getS (pc := 116) dX6_rename_116 hs (gf_X6_28 _ rfl) rfl rfl rfl rfl rfl ?_
                      refine wq_aload (pc := 119) dX6_rename_119 rfl ?_
                      refine wq_iload_n (pc := 121) dX6_rename_121 rfl rfl ?_
                      refine wq_null (pc := 122) dX6_rename_122 ?_
                      refine cVK_3 (pc := 123) dX6_rename_123 hsT (cw_X6_89 _ rfl) (by decide) rfl ⟨by decide, by decide⟩ (Nat.le_of_ble_eq_true rfl) (sx_X5_assign0 C6y.2.2 hB7 ha7 (by omega) (fun m8 S8 hA8 T8 F8 K8 => ?_))
                      refine kr_v ?_
                      obtain ⟨C6g, R8⟩ := C6_T C6y T8 F8
                      obtain ⟨Z1, Z2⟩ := rename_ok (P := P) (R := R) (nb := nb + 1) (vb := vb) (IP_mono hP (by omega) (Int.le_refl _)) hS hm hfd hnm hm2 hfd2 hnm2 ho0 hnbad (fun w => IP_mono (M1 w) (Int.le_refl _) (by omega)) N2 N3 N4 M2 M3 M4 hA7 hA8
                      have fin := MC_on (A := (R.1, R.2.1, aX A, aD A, bump (bump (aN A) d2) d)) (nb := nb + 1) (vb := vb + 2) C6g h566 Z1 Z2 (by omega) (by omega)
                      have fcap := Cap_mono (R8.2.2.2 _ hcap7) (Nat.le_succ t)
                      have ffr := FrN_6 (Fr6_trans R1 (Fr6_trans R2 (Fr6_trans R5 (Fr6_trans R6 (Fr6_trans R7 R8)))))
                      refine wq_iload (pc := 126) dX6_rename_126 rfl ?_
                      refine wq_iret (pc := 128) dX6_rename_128 rfl ?_
                      first | exact z9.elim | (obtain ⟨m9, c9, f9⟩ := MC_x hC6c hB hIB hDD h56 hon hnb hcap hF6 ht; exact h _ _ m9 c9 f9) | exact h _ _ fin fcap ffr
                · skip
                  refine kr_x ?_
                  rw [if_neg (by decide)] at hrm
                  have hrm : ¬ rmA A [3, 3] 1 := hrm
                  rw [pI_1 hrm] at h
                  obtain ⟨hC6c, K2, R2⟩ := C6_TrM C61 t2
                  have hF6 := Fr6_trans R1 R2
                  first | exact z9.elim | (obtain ⟨m9, c9, f9⟩ := MC_x hC6c hB hIB hDD h56 hon hnb hcap hF6 ht; exact h _ _ m9 c9 f9) | exact h _ _ fin fcap ffr
              · skip
                refine kr_x ?_
                have hbad : badR A d nm d2 nm2 := (badMv_iff hP hS hm2 hfd2 hnm2 ho0 hoS).mp hmv
                rw [pI_1 hbad] at h
                obtain ⟨hC6c, hF6⟩ := C6_T hC6 T1 F1
                first | exact z9.elim | (obtain ⟨m9, c9, f9⟩ := MC_x hC6c hB hIB hDD h56 hon hnb hcap hF6 ht; exact h _ _ m9 c9 f9) | exact h _ _ fin fcap ffr
          · skip
            refine kr_x ?_
            have hfd : fl d = 1 := by rw [← hS.2.1 d hm]; exact hdr
            have htg := (hS.2.2.1 d hm hfd).1 nm hnm
            rw [htg] at hn
            have ho0 : TG (aF A) d nm = 0 := Classical.byContradiction (fun z => hn ((hS.1 _).mpr (Or.inr ⟨z, d, nm, (TSW_tD hS hP.2.2.2.2.2.2.1 d).mpr ⟨hm, hfd⟩, hnm, rfl⟩)))
            rw [pI_1 ho0] at h
            first | exact z9.elim | (obtain ⟨m9, c9, f9⟩ := MC_x hC6c hB hIB hDD h56 hon hnb hcap hF6 ht; exact h _ _ m9 c9 f9) | exact h _ _ fin fcap ffr
        · skip
          refine kr_x ?_
          rw [pI_1 hnm2] at h
          first | exact z9.elim | (obtain ⟨m9, c9, f9⟩ := MC_x hC6c hB hIB hDD h56 hon hnb hcap hF6 ht; exact h _ _ m9 c9 f9) | exact h _ _ fin fcap ffr
      · skip
        refine kr_x ?_
        rw [pI_1 hnm] at h
        first | exact z9.elim | (obtain ⟨m9, c9, f9⟩ := MC_x hC6c hB hIB hDD h56 hon hnb hcap hF6 ht; exact h _ _ m9 c9 f9) | exact h _ _ fin fcap ffr
    · skip
      refine kr_x ?_
      have z9 : False := by omega
      first | exact z9.elim | (obtain ⟨m9, c9, f9⟩ := MC_x hC6c hB hIB hDD h56 hon hnb hcap hF6 ht; exact h _ _ m9 c9 f9) | exact h _ _ fin fcap ffr
    · skip
      refine kr_x ?_
      have hnd2 : ¬ isDr A d2 := fun z => by have z := (isDr_iff hP hS d2).mp z; rcases hn with q | q; exact q z.1; exact q z.2
      rw [pI_1 hnd2] at h
      first | exact z9.elim | (obtain ⟨m9, c9, f9⟩ := MC_x hC6c hB hIB hDD h56 hon hnb hcap hF6 ht; exact h _ _ m9 c9 f9) | exact h _ _ fin fcap ffr
  · skip
    refine kr_x ?_
    rw [pI_1 (show dk A from hd)] at h
    first | exact z9.elim | (obtain ⟨m9, c9, f9⟩ := MC_x hC6c hB hIB hDD h56 hon hnb hcap hF6 ht; exact h _ _ m9 c9 f9) | exact h _ _ fin fcap ffr
  · skip
    refine kr_x ?_
    obtain ⟨fl, hP, hS⟩ := hon hd
    have ndk : ¬ dk A := fun z => by have z : fD (aF A) = 1 := z; omega
    have hndir : ¬ isDr A d := fun z => by have z := (isDr_iff hP hS d).mp z; rcases hn with q | q; exact q z.1; exact q z.2
    rw [pI_0 ndk, pI_1 hndir] at h
    first | exact z9.elim | (obtain ⟨m9, c9, f9⟩ := MC_x hC6c hB hIB hDD h56 hon hnb hcap hF6 ht; exact h _ _ m9 c9 f9) | exact h _ _ fin fcap ffr
