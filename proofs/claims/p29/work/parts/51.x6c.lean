theorem drop_get {l : List Int} {k : Nat} (h : k < l.length) : l.drop k = l.getD k 0 :: l.drop (k + 1) := by
  rw [List.drop_eq_getElem_cons h, List.getD_eq_getElem?_getD, List.getElem?_eq_getElem h]; rfl
/-- the units of the chosen nodes -/
def uOf (F : Fl) (cs : List Int) : List Int := cs.map (fun i => fN F i 1)
theorem uOf_drop (F : Fl) {cs : List Int} {k : Nat} (h : k < cs.length) : uOf F (cs.drop k) = fN F (cs.getD k 0) 1 :: uOf F (cs.drop (k + 1)) := by
  rw [drop_get h]; rfl
theorem CJ_TrM {cs : List Int} {μ m : nMem} (h : CJ cs μ) (t : TrM μ m) : CJ cs m := CJ_keep h (fun j => t 3 j (by omega)) (t 17 4 (by omega)) (fun j => t 18 j (by omega))
theorem sp_X6_refuseWithoutRoomFor {μ : nMem} {ε : nEnv} {Q : nOut → nMem → nEnv → Prop} {F : Fl} {g : Lg} {cs : List Int} {c : Int} {t : Nat} (hC : CF F μ ε) (hL : CL g μ) (hg : g.1 = -1 ∨ (0 ≤ g.1 ∧ g.1 < 8)) (hbd : fBd F) (hcap : Cap μ ε (t + 1)) (hJ : CJ cs μ) (hc : c = cs.length) (h : trL (uOf F cs) (tr0 F g (g.2.1.length : Int)) → ∀ μ9, TrM μ μ9 → Q (.inl none) μ9 ε) (hx : ¬ trL (uOf F cs) (tr0 F g (g.2.1.length : Int)) → ∀ μ9, TrM μ μ9 → ∀ ε', thr ε ε' → Q (.inr xS) μ9 ε') : Sp mX6_refuseWithoutRoomFor [vR 1, vI c] μ ε Q := by
  refine Sp_of (L := [(0, vR 1), (1, vI c)]) (by decide) rfl rfl (Nat.le_of_ble_eq_true rfl) ?_
  have hs := hC.1
  have hroom := Cap_room hcap
  have hfl := hL.2.1
  have hfl8 := hL.2.2.2.2.2.1
  have hbg : g.1 ≠ -1 → 0 ≤ fU F g.1 ∧ fU F g.1 ≤ 40 ∧ 0 ≤ fC F g.1 ∧ fC F g.1 ≤ 16 := fun q => hbd g.1 (by omega) (by omega)
  refine wq_aload_n (pc := 0) dX6_refuseWithoutRoomFor_0 rfl rfl ?_
  refine wq_getS (pc := 1) dX6_refuseWithoutRoomFor_1 hs (gf_X6_21 _ rfl) rfl rfl rfl rfl rfl ?_
  refine wq_aload_n (pc := 4) dX6_refuseWithoutRoomFor_4 rfl rfl ?_
  refine wq_getS (pc := 5) dX6_refuseWithoutRoomFor_5 hs (gf_X6_21 _ rfl) rfl rfl rfl rfl rfl ?_
  refine wq_getIK (pc := 8) (kk := 5) dX6_refuseWithoutRoomFor_8 hs (gf_X6_301 _ rfl) rfl rfl rfl rfl ?_
  refine cVK_1 (pc := 11) dX6_refuseWithoutRoomFor_11 hs (cw_X6_304 _ rfl) (by decide) rfl ⟨by decide, by decide⟩ (Nat.le_of_ble_eq_true rfl) (sp_X3_beginTrial hC hL hg (fun m1 t1 a7 a8 a9 => ?_))
  refine kr_v ?_
  have s0r : 0 ≤ (tr0 F g (g.2.1.length : Int)).1 ∧ (tr0 F g (g.2.1.length : Int)).1 ≤ 40 := by unfold tr0; split <;> omega
  have s1r : 0 ≤ (tr0 F g (g.2.1.length : Int)).2.1 ∧ (tr0 F g (g.2.1.length : Int)).2.1 ≤ 16 := by show 0 ≤ (if g.1 = -1 then 0 else fC F g.1) ∧ (if g.1 = -1 then 0 else fC F g.1) ≤ 16; split <;> omega
  have s2r : (tr0 F g (g.2.1.length : Int)).2.2 = (g.2.1.length : Int) := rfl
  refine wq_iconst (pc := 14) dX6_refuseWithoutRoomFor_14 ?_
  refine wq_istore_n (pc := 15) (L' := [(2, _), (0, _), (1, _)]) dX6_refuseWithoutRoomFor_15 rfl rfl (by decide) ?_
  have loop2 : ∀ (n k : Nat), ∀ (m : nMem) (i : Int) (s : Int × Int × Int), k ≤ cs.length → cs.length < k + n → i = (k : Int) → TrM μ m → m 8 7 = s.1 → m 8 8 = s.2.1 → m 8 9 = s.2.2 → 0 ≤ s.1 ∧ s.1 ≤ 60 → 0 ≤ s.2.1 ∧ s.2.1 ≤ 16 + k → -10 ≤ s.2.2 ∧ s.2.2 ≤ 100 → (trL (uOf F cs) (tr0 F g (g.2.1.length : Int)) ↔ trL (uOf F (cs.drop k)) s) → wp mX6_refuseWithoutRoomFor 16 [(0, vR 1), (1, vI c), (2, vI i)] [] m ε Q := by
    intro n
    induction n with
    | zero => intro k m i s hk1 hk2 e0 e1 e2 e3 e4 e5 e6 e7 e8; exact absurd hk2 (by omega)
    | succ n ih =>
      intro k m i s hk1 hk2 e0 e1 e2 e3 e4 e5 e6 e7 e8
      subst e0
      have C1 := TrM_CF e1 hC
      have J1 := CJ_TrM hJ e1
      have hJ16 := hJ.2.1
      refine wq_iload_n (pc := 16) dX6_refuseWithoutRoomFor_16 rfl rfl ?_
      refine wq_iload_n (pc := 17) dX6_refuseWithoutRoomFor_17 rfl rfl ?_
      refine wq_icmp_ge (pc := 18) (tgt := 59) dX6_refuseWithoutRoomFor_18 (by decide) (by first | (unfold inR; omega) | assumption) (by first | (unfold inR; omega) | assumption) (fun c3 => ?_) (fun c3 => ?_)
      · skip
        refine wq_vret (pc := 59) dX6_refuseWithoutRoomFor_59 rfl ?_
        first
          | exact hx (by rw [e8, uOf_drop F (by omega), ← f1]; exact trL_0 hno) _ e1 _ ht
          | (have ek : k = cs.length := by omega
             exact h (by rw [e8, ek, List.drop_length]; trivial) _ e1)
      · skip
        refine wq_aload_n (pc := 21) dX6_refuseWithoutRoomFor_21 rfl rfl ?_
        refine wq_getS (pc := 22) dX6_refuseWithoutRoomFor_22 hs (gf_X6_21 _ rfl) rfl rfl rfl rfl rfl ?_
        refine wq_aload_n (pc := 25) dX6_refuseWithoutRoomFor_25 rfl rfl ?_
        refine wq_getS (pc := 26) dX6_refuseWithoutRoomFor_26 hs (gf_X6_37 _ rfl) rfl rfl rfl rfl rfl ?_
        refine wq_iload_n (pc := 29) dX6_refuseWithoutRoomFor_29 rfl rfl ?_
        refine cVK_1 (pc := 30) dX6_refuseWithoutRoomFor_30 hs (cw_X6_173 _ rfl) (by decide) rfl ⟨by decide, by decide⟩ (Nat.le_of_ble_eq_true rfl) (sp_X2_chosenAt C1 J1 rfl (by omega) ?_)
        refine kr_s ?_
        have hkn := nRow_kd hs C1.2.1 (cs.getD k 0)
        obtain ⟨n0, n1, n2, n3, n4, n5, n6, n9, n10, n11, n12, n13⟩ := nRow_nB C1.2.1 (cs.getD k 0)
        obtain ⟨ck0, ck1⟩ := (hJ.2.2 k (by omega)).1
        obtain ⟨ra, -⟩ := CF_row C1 (i := cs.getD k 0) (by omega) (by omega)
        have f1 := ra 1 (by omega) (by omega)
        refine wq_getI (pc := 33) (kk := 1) dX6_refuseWithoutRoomFor_33 (gf_X6_312 _ rfl) (by with_reducible assumption) rfl rfl rfl ?_
        refine cVK_1 (pc := 36) dX6_refuseWithoutRoomFor_36 hs (cw_X6_307 _ rfl) (by decide) rfl ⟨by decide, by decide⟩ (Nat.le_of_ble_eq_true rfl) (sr_X3_takesInTrial (s := s) hs e2 e3 e4 (by omega) (by omega) (by omega) (by omega) (fun s2 hs2 m2 t2 b7 b8 b9 q1 q2 q3 => ?_) (fun hno => ?_))
        · skip
          refine kr_s ?_
          refine wq_if_ne (pc := 39) (tgt := 53) dX6_refuseWithoutRoomFor_39 (by decide) (by first | (unfold inR; omega) | assumption) (fun _ => ?_) (fun c => absurd c (by decide))
          refine wq_iinc (pc := 53) (L' := [(2, _), (0, _), (1, _)]) dX6_refuseWithoutRoomFor_53 rfl rfl (by decide) ?_
          refine wq_goto (pc := 56) (tgt := 16) dX6_refuseWithoutRoomFor_56 (by decide) ?_
          refine wq_sub1 (L' := [(0, _), (1, _), (2, _)]) ⟨rfl, rfl, rfl, trivial⟩ ?_
          exact ih (k + 1) m2 _ s2 (by omega) (by omega) (by omega) (TrM_trans e1 t2) b7 b8 b9 (by omega) (by omega) q3 (by rw [e8, uOf_drop F (by omega), ← f1, trL_1 hs2])
        · skip
          refine kr_s ?_
          refine wq_if_ne (pc := 39) (tgt := 53) dX6_refuseWithoutRoomFor_39 (by decide) (by first | (unfold inR; omega) | assumption) (fun c => absurd c (by decide)) (fun _ => ?_)
          refine wq_throwW (pc := 42) dX6_refuseWithoutRoomFor_42 dX6_refuseWithoutRoomFor_45 dX6_refuseWithoutRoomFor_46 dX6_refuseWithoutRoomFor_49 dX6_refuseWithoutRoomFor_52 rfl th_S ks_X6_315 (by decide) (by decide) (Nat.le_of_ble_eq_true rfl) hroom (fun ε' ht => ?_)
          first
            | exact hx (by rw [e8, uOf_drop F (by omega), ← f1]; exact trL_0 hno) _ e1 _ ht
            | (have ek : k = cs.length := by omega
               exact h (by rw [e8, ek, List.drop_length]; trivial) _ e1)
  refine wq_sub1 (L' := [(0, _), (1, _), (2, _)]) ⟨rfl, rfl, rfl, trivial⟩ ?_
  exact loop2 (cs.length + 1) 0 m1 _ (tr0 F g (g.2.1.length : Int)) (by omega) (by omega) (by omega) t1 a7 a8 (by rw [a9, hfl]; rfl) (by omega) (by omega) (by rw [s2r]; omega) Iff.rfl
theorem sp_X6_putName {μ : nMem} {ε : nEnv} {Q : nOut → nMem → nEnv → Prop} {F : Fl} {g : Lg} {S : Tr} {a d nm tg td : Int} {t : Nat} (hC : CF F μ ε) (hL : CL g μ) (hT : CT S μ ε) (hB : tB S) (hwf : wfP F g) (hcap : Cap μ ε t) (hA : tAt S μ a d) (hfr : ¬ (g.1 ≠ -1 ∧ fU F g.1 + 3 + fC F g.1 + 2 ≤ 40) → g.2.1 ≠ []) (hd : 0 ≤ d ∧ d ≤ 2000) (hv : 0 ≤ tFd S d 3 ∧ tFd S d 3 < 4000) (hnm : 1 ≤ nm ∧ nm ≤ 99) (htg : 0 ≤ tg ∧ tg ≤ 2000) (htd : td = 0 ∨ td = 1) (h0 : (lPut F g (nmSrc d (tFd S d 3 + 1) nm tg td)).2.2 = false → ∀ μ9 ε9, C6 (lPut F g (nmSrc d (tFd S d 3 + 1) nm tg td)).1 (lPut F g (nmSrc d (tFd S d 3 + 1) nm tg td)).2.1 (tSetF S d 3 (tFd S d 3 + 1)) μ9 ε9 → Fr6 μ ε μ9 ε9 → (∀ b q, tAt S μ b q → tAt (tSetF S d 3 (tFd S d 3 + 1)) μ9 b q) → Q (.inl (some (vI 0))) μ9 ε9) (h1 : (lPut F g (nmSrc d (tFd S d 3 + 1) nm tg td)).2.2 = true → ∀ μ9 ε9, C6 (lPut F g (nmSrc d (tFd S d 3 + 1) nm tg td)).1 (lPut F g (nmSrc d (tFd S d 3 + 1) nm tg td)).2.1 (tSetF S d 3 (tFd S d 3 + 1)) μ9 ε9 → Fr6 μ ε μ9 ε9 → (∀ b q, tAt S μ b q → tAt (tSetF S d 3 (tFd S d 3 + 1)) μ9 b q) → Q (.inl (some (vI 1))) μ9 ε9) : Sp mX6_putName [vR 1, vR a, vI nm, vI tg, vI td] μ ε Q := by
  refine Sp_of (L := [(0, vR 1), (1, vR a), (2, vI nm), (3, vI tg), (4, vI td)]) (by decide) rfl rfl (Nat.le_of_ble_eq_true rfl) ?_
  have hs := hC.1
  have hsT := hT.1
  have h20 := (hs 20 5 0 [] rfl (by decide)).1
  obtain ⟨a0, hI, aw, cw⟩ := tAt_sh hT hA
  obtain ⟨hk, hkc, hlc⟩ := id hI
  have f1 := (tAt_is hT hA).1
  have f3 := (tAt_is hT hA).2.1 3 (by omega) (by omega)
  obtain ⟨T1, F1, K1⟩ := CT_addF (k := 3) (d := 1) hT hA (by omega)
  obtain ⟨C6a, R1⟩ := C6_T ⟨hC, hL, hT⟩ T1 F1
  have n1 : wr μ a 3 (μ a 3 + 1) a 1 = d := by rw [wr_n _ _ (by omega)]; exact f1
  have v3 : wr μ a 3 (μ a 3 + 1) a 3 = tFd S d 3 + 1 := by rw [wr_s, f3]
  refine wq_aload_n (pc := 0) dX6_putName_0 rfl rfl ?_
  refine wq_dup (pc := 1) dX6_putName_1 rfl ?_
  refine wq_getI (pc := 2) (kk := 3) dX6_putName_2 (gf_X6_84 _ rfl) (by with_reducible assumption) rfl rfl rfl ?_
  refine wq_iconst (pc := 5) dX6_putName_5 ?_
  refine wq_iadd (pc := 6) dX6_putName_6 ?_
  refine wq_putI (pc := 7) (kk := 3) dX6_putName_7 (gf_X6_84 _ rfl) (by with_reducible assumption) rfl rfl rfl rfl ?_
  generalize wr μ a 3 (μ a 3 + 1) = m1 at T1 F1 K1 C6a R1 n1 v3 ⊢
  refine wq_aload_n (pc := 10) dX6_putName_10 rfl rfl ?_
  refine wq_getS (pc := 11) dX6_putName_11 hs (gf_X6_44 _ rfl) rfl rfl rfl rfl rfl ?_
  refine wq_aload_n (pc := 14) dX6_putName_14 rfl rfl ?_
  refine wq_getI (pc := 15) (kk := 1) dX6_putName_15 (gf_X6_113 _ rfl) (by with_reducible assumption) rfl rfl rfl ?_
  refine wq_aload_n (pc := 18) dX6_putName_18 rfl rfl ?_
  refine wq_getI (pc := 19) (kk := 3) dX6_putName_19 (gf_X6_84 _ rfl) (by with_reducible assumption) rfl rfl rfl ?_
  refine wq_iload_n (pc := 22) dX6_putName_22 rfl rfl ?_
  refine wq_iload_n (pc := 23) dX6_putName_23 rfl rfl ?_
  refine wq_iload (pc := 24) dX6_putName_24 rfl ?_
  refine cVK_5 (pc := 26) dX6_putName_26 hs (cw_X6_317 _ rfl) (by decide) rfl ⟨by decide, by decide⟩ (Nat.le_of_ble_eq_true rfl) (sp_X4_becomeName h20 htd ?_)
  refine kr_v ?_
  have hm20 := fun x j (hx : x ≠ 20) => (mName_v m1 20 (m1 a 1) (m1 a 3) nm tg td x j).trans (if_neg (fun q => hx q.1))
  have hsr := nmSrc_of m1 (m1 a 1) (m1 a 3) nm tg td
  have hv20 := fun j => mName_v m1 20 (m1 a 1) (m1 a 3) nm tg td 20 j
  rw [n1, v3] at hm20 hsr hv20 ⊢
  generalize mName m1 20 d (tFd S d 3 + 1) nm tg td = m2 at hm20 hsr hv20 ⊢
  obtain ⟨C6b, K2, R2⟩ := C6_20 C6a hm20
  have hv := fun j (j0 : 0 ≤ j) (j1 : j ≤ 13) => (hv20 j).trans (if_pos ⟨rfl, j0, j1⟩)
  have w0 := hv 0 (by omega) (by omega)
  have w1 := hv 1 (by omega) (by omega)
  have w2 := hv 2 (by omega) (by omega)
  have w3 := hv 3 (by omega) (by omega)
  have w4 := hv 4 (by omega) (by omega)
  have w5 := hv 5 (by omega) (by omega)
  have w6 := hv 6 (by omega) (by omega)
  have w9 := hv 9 (by omega) (by omega)
  have w10 := hv 10 (by omega) (by omega)
  have w11 := hv 11 (by omega) (by omega)
  have w12 := hv 12 (by omega) (by omega)
  have w13 := hv 13 (by omega) (by omega)
  simp at w0 w1 w2 w3 w4 w5 w6 w9 w10 w11 w12 w13
  have hnb : nB m2 20 := by unfold nB; rw [w0, w1, w2, w3, w4, w5, w6, w9, w10, w11, w12, w13]; omega
  have hsp : srcP F m2 ε g 20 := ⟨h20, hnb, by omega, by omega, Or.inl (not_row C6b.1.2.1 (by omega) (Or.inr (by omega)))⟩
  have hcap2 := R2.2.2.2 _ (R1.2.2.2 _ hcap)
  refine wq_aload_n (pc := 29) dX6_putName_29 rfl rfl ?_
  refine wq_getS (pc := 30) dX6_putName_30 hs (gf_X6_21 _ rfl) rfl rfl rfl rfl rfl ?_
  refine wq_aload_n (pc := 33) dX6_putName_33 rfl rfl ?_
  refine wq_getS (pc := 34) dX6_putName_34 hs (gf_X6_44 _ rfl) rfl rfl rfl rfl rfl ?_
  refine cVK_1 (pc := 37) dX6_putName_37 hs (cw_X6_72 _ rfl) (by decide) rfl ⟨by decide, by decide⟩ (Nat.le_of_ble_eq_true rfl) (sp_X3_put C6b.1 C6b.2.1 hwf (by rw [w1]; exact hfr) hcap2 hsp (by omega) (fun hr m3 e3 C3 L3 X3 => ?_) (fun hr m3 e3 C3 L3 X3 => ?_))
  · skip
    refine kr_s ?_
    rw [hsr] at hr C3 L3
    refine wq_zret (pc := 40) dX6_putName_40 rfl (by first | omega | (simp; done) | assumption) ?_
    obtain ⟨C6c, K3, R3⟩ := C6_X C6b C3 L3 X3
    first
      | exact h1 hr _ _ C6c (Fr6_trans R1 (Fr6_trans R2 R3)) (fun b q z => K3 _ _ (K2 _ _ (K1 _ _ z)))
      | exact h0 hr _ _ C6c (Fr6_trans R1 (Fr6_trans R2 R3)) (fun b q z => K3 _ _ (K2 _ _ (K1 _ _ z)))
  · skip
    refine kr_s ?_
    rw [hsr] at hr C3 L3
    refine wq_zret (pc := 40) dX6_putName_40 rfl (by first | omega | (simp; done) | assumption) ?_
    obtain ⟨C6c, K3, R3⟩ := C6_X C6b C3 L3 X3
    first
      | exact h1 hr _ _ C6c (Fr6_trans R1 (Fr6_trans R2 R3)) (fun b q z => K3 _ _ (K2 _ _ (K1 _ _ z)))
      | exact h0 hr _ _ C6c (Fr6_trans R1 (Fr6_trans R2 R3)) (fun b q z => K3 _ _ (K2 _ _ (K1 _ _ z)))
theorem sp_X6_putContent {μ : nMem} {ε : nEnv} {Q : nOut → nMem → nEnv → Prop} {F : Fl} {g : Lg} {S : Tr} {s : Int → Int} {a f : Int} {t : Nat} (hC : CF F μ ε) (hL : CL g μ) (hT : CT S μ ε) (hB : tB S) (hwf : wfP F g) (hcap : Cap μ ε t) (hA : tAt S μ a f) (hfr : ¬ (g.1 ≠ -1 ∧ fU F g.1 + μ 20 1 + fC F g.1 + 2 ≤ 40) → g.2.1 ≠ []) (hnb : nB μ 20) (hu : 1 ≤ μ 20 1) (hsr : nSrc (μ 20) = s) (h0 : (lPut F g s).2.2 = false → ∀ μ9 ε9, C6 (lPut F g s).1 (lPut F g s).2.1 S μ9 ε9 → Fr6 μ ε μ9 ε9 → (∀ b q, tAt S μ b q → tAt S μ9 b q) → Q (.inl (some (vI 0))) μ9 ε9) (h1 : (lPut F g s).2.2 = true → ∀ μ9 ε9, C6 (lPut F g s).1 (lPut F g s).2.1 (tLayS s f S) μ9 ε9 → Fr6 μ ε μ9 ε9 → (∀ b q, tAt S μ b q → tAt (tLayS s f S) μ9 b q) → Q (.inl (some (vI 1))) μ9 ε9) : Sp mX6_putContent [vR 1, vR a] μ ε Q := by
  refine Sp_of (L := [(0, vR 1), (1, vR a)]) (by decide) rfl rfl (Nat.le_of_ble_eq_true rfl) ?_
  have hs := hC.1
  have hs3 := hC.1
  have hsT := hT.1
  have h20 := (hs 20 5 0 [] rfl (by decide)).1
  obtain ⟨a0, hI, aw, cw⟩ := tAt_sh hT hA
  obtain ⟨hk, hkc, hlc⟩ := id hI
  have hra : ∀ k, 0 ≤ k → k ≤ 11 → μ 20 k = s k := fun k k0 k1 => by rw [← hsr]; unfold nSrc; rw [if_pos ⟨k0, k1⟩]
  have hsp : srcP F μ ε g 20 := ⟨h20, hnb, by omega, by omega, Or.inl (not_row hC.2.1 (by omega) (Or.inr (by omega)))⟩
  refine wq_aload_n (pc := 0) dX6_putContent_0 rfl rfl ?_
  refine wq_getS (pc := 1) dX6_putContent_1 hs (gf_X6_21 _ rfl) rfl rfl rfl rfl rfl ?_
  refine wq_aload_n (pc := 4) dX6_putContent_4 rfl rfl ?_
  refine wq_getS (pc := 5) dX6_putContent_5 hs (gf_X6_44 _ rfl) rfl rfl rfl rfl rfl ?_
  refine cVK_1 (pc := 8) dX6_putContent_8 hs (cw_X6_72 _ rfl) (by decide) rfl ⟨by decide, by decide⟩ (Nat.le_of_ble_eq_true rfl) (sp_X3_put hC hL hwf hfr hcap hsp hu (fun hr m3 e3 C3 L3 X3 => ?_) (fun hr m3 e3 C3 L3 X3 => ?_))
  · skip
    refine kr_s ?_
    rw [hsr] at hr C3 L3
    obtain ⟨C6c, K3, R3⟩ := C6_X ⟨hC, hL, hT⟩ C3 L3 X3
    refine wq_if_ne (pc := 11) (tgt := 16) dX6_putContent_11 (by decide) (by first | (unfold inR; omega) | assumption) (fun c => absurd c (by decide)) (fun _ => ?_)
    refine wq_iconst (pc := 14) dX6_putContent_14 ?_
    refine wq_zret (pc := 15) dX6_putContent_15 rfl (by first | omega | (simp; done) | assumption) ?_
    first
      | exact h0 hr _ _ C6c R3 K3
      | exact h1 hr _ _ C6d (Fr6_trans R3 R4) (fun b q z => K4 _ _ (K3 _ _ z))
  · skip
    refine kr_s ?_
    rw [hsr] at hr C3 L3
    obtain ⟨C6c, K3, R3⟩ := C6_X ⟨hC, hL, hT⟩ C3 L3 X3
    have hA3 := K3 _ _ hA
    obtain ⟨a30, hI3, aw3, cw3⟩ := tAt_sh C6c.2.2 hA3
    obtain ⟨hk3, hkc3, hlc3⟩ := id hI3
    have e20 := X3.1 20 (Or.inl (by rw [h20]; decide)) (by unfold XP; omega) (not_row hC.2.1 (by omega) (Or.inr (by omega)))
    have h203 : eKind e3 20 = 5 := (C6c.1.1 20 5 0 [] rfl (by decide)).1
    have hnb3 : nB m3 20 := nB_of e20 hnb
    have hs3 := C6c.1.1
    have hs := C6c.1.1
    have hra3 : ∀ k, 0 ≤ k → k ≤ 11 → m3 20 k = s k := fun k k0 k1 => by rw [e20]; exact hra k k0 k1
    refine wq_if_ne (pc := 11) (tgt := 16) dX6_putContent_11 (by decide) (by first | (unfold inR; omega) | assumption) (fun _ => ?_) (fun c => absurd c (by decide))
    refine wq_aload_n (pc := 16) dX6_putContent_16 rfl rfl ?_
    refine wq_aload_n (pc := 17) dX6_putContent_17 rfl rfl ?_
    refine wq_getS (pc := 18) dX6_putContent_18 hs (gf_X6_44 _ rfl) rfl rfl rfl rfl rfl ?_
    refine cV_1 (pc := 21) dX6_putContent_21 (cw_X6_321 _ rfl) (by decide) (by with_reducible assumption) ⟨by decide, by decide⟩ (Nat.le_of_ble_eq_true rfl) (sp_X1_lay hI3 h203 hnb3 (fun m4 h64 h34 hx4 hc4 => ?_))
    refine kr_v ?_
    obtain ⟨T4, F4, K4⟩ := CT_layS (s := s) C6c.2.2 hA3 hra3 h64 h34 hx4 hc4
    obtain ⟨C6d, R4⟩ := C6_T C6c T4 F4
    refine wq_iconst (pc := 24) dX6_putContent_24 ?_
    refine wq_zret (pc := 25) dX6_putContent_25 rfl (by first | omega | (simp; done) | assumption) ?_
    first
      | exact h0 hr _ _ C6c R3 K3
      | exact h1 hr _ _ C6d (Fr6_trans R3 R4) (fun b q z => K4 _ _ (K3 _ _ z))
