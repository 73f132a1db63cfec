/-! ### the reference puts a node -/
def WM (F : Fl) (g : Lg) (μ : nMem) (ε : nEnv) : Prop := SkP skM ε ∧ mB μ ∧ RM F μ ∧ GM g μ ∧ pw F μ
/-- behind a put -/
def PO (R : Fl × Lg × Bool) (μ m : nMem) : Prop := mB m ∧ RM R.1 m ∧ pw R.1 m ∧ m 21 27 = 0 ∧ FrP μ m ∧ (R.2.2 = true → GM R.2.1 m)
theorem lPut_in {F : Fl} {g : Lg} {s : Int → Int} (h : fitsP F g (s 1)) : lPut F g s = ((fApR F g.1 s).1, g, (fApR F g.1 s).2) := if_pos h
theorem lPut_no {F : Fl} {g : Lg} {s : Int → Int} (h : ¬ fitsP F g (s 1)) (h2 : (lGo F g).2.2 = false) : lPut F g s = lGo F g := by unfold lPut; rw [if_neg h, if_pos h2]
theorem lPut_go {F : Fl} {g : Lg} {s : Int → Int} (h : ¬ fitsP F g (s 1)) (h2 : (lGo F g).2.2 = true) : lPut F g s = ((fApR (lGo F g).1 (lGo F g).2.1.1 s).1, (lGo F g).2.1, (fApR (lGo F g).1 (lGo F g).2.1.1 s).2) := by unfold lPut; rw [if_neg h, if_neg (by rw [h2]; decide)]
theorem sp_X7_putData {μ : nMem} {ε : nEnv} {Q : nOut → nMem → nEnv → Prop} {F : Fl} {g : Lg} {s : Int → Int} {f v o b q z : Int} (hs : SkP skM ε) (hb : mB μ) (hR : RM F μ) (hA : PA F) (hL : PL F g) (hG : GM g μ) (hp : pw F μ) (hso : sOK s) (hsv : s 0 = 1 ∧ s 3 = f ∧ s 4 = v ∧ s 5 = o ∧ s 6 = q ∧ s 7 = b ∧ s 9 = z ∧ True ∧ True) (hfr : ¬ fitsP F g (s 1) → g.2.1 ≠ []) (h0 : (lPut F g s).2.2 = false → ∀ m, PO (lPut F g s) μ m → Q (.inl (some (vI 0))) m ε) (h1 : (lPut F g s).2.2 = true → ∀ m, PO (lPut F g s) μ m → Q (.inl (some (vI 1))) m ε) : Sp mX7_putData [vR 21, vI f, vI v, vI o, vJ b, vI q, vI z] μ ε Q := by
  refine Sp_of (L := [(0, vR 21), (1, vI f), (2, vI v), (3, vI o), (4, vJ b), (6, vI q), (7, vI z)]) (by decide) rfl rfl (Nat.le_of_ble_eq_true rfl) ?_
  obtain ⟨q0, q3, q4, q5, q6, q7, q9, q10, q11⟩ := hsv
  have hso9 := hso
  have hsd : s 1 = 2 + s 6 ∧ (0 ≤ s 6 ∧ s 6 ≤ 8) ∧ (2 ≤ s 3 ∧ s 3 ≤ 2000) ∧ (1 ≤ s 4 ∧ s 4 ≤ 4000) ∧ 0 ≤ s 5 ∧ s 5 ≤ 63 ∧ s 5 + s 6 ≤ s 9 ∧ s 9 ≤ 64 := by
    rcases hso with w | w
    · exact ⟨w.2.1, w.2.2.1, w.2.2.2.1, w.2.2.2.2.1, w.2.2.2.2.2.1, w.2.2.2.2.2.2.1, w.2.2.2.2.2.2.2.1, w.2.2.2.2.2.2.2.2.1⟩
    · omega
  have hs1 : s 1 = 2 + q := by omega
  have cut1 : ∀ (m1 : nMem) (F1 : Fl) (g1 : Lg), (mB m1) → (RM F1 m1) → (pw F1 m1) → (GM g1 m1) → (m1 21 27 = 0) → (FrP μ m1) → (PA F1) → (PL F1 g1) → (fitsP F1 g1 (s 1)) → (lPut F g s = ((fApR F1 g1.1 s).1, g1, (fApR F1 g1.1 s).2)) → wp mX7_putData 18 [(0, vR 21), (1, vI f), (2, vI v), (3, vI o), (4, vJ b), (6, vI q), (7, vI z)] [] m1 ε Q := by
    intro m1 F1 g1 e0 e1 e2 e3 e4 e5 e6 e7 e8 e9
    have c1 := e8.1
    obtain ⟨hcu, hcc, hu1, hu2⟩ := PL_cur e6 e7 c1
    have hfz := e8.2
    have hc16 : 0 ≤ fC F1 g1.1 ∧ fC F1 g1.1 < 16 := by omega
    have hR1 := e1.1 g1.1 hcu.1 hcu.2
    have hg17 := e3.1
    have q34 : m1 34 (m1 21 17) = fC F1 g1.1 := by rw [hg17]; exact hR1.1
    refine wq_aload_n (pc := 18) dX7_putData_18 rfl rfl ?_
    refine cVK_0 (pc := 19) dX7_putData_19 hs (cw_X7_185 _ rfl) (by decide) rfl ⟨by decide, by decide⟩ (Nat.le_of_ble_eq_true rfl) (sp_X7_freshNode hs (by omega) (by omega) (by omega) (by omega) ?_)
    refine kr_s ?_
    rw [q34, hg17]
    refine wq_istore (pc := 22) (L' := [(8, _), (0, _), (1, _), (2, _), (3, _), (4, _), (6, _), (7, _)]) dX7_putData_22 rfl (by decide) ?_
    refine wq_aload_n (pc := 24) dX7_putData_24 rfl rfl ?_
    refine wq_getS (pc := 25) dX7_putData_25 hs (gf_X7_7 _ rfl) rfl rfl rfl rfl rfl ?_
    refine wq_iload (pc := 28) dX7_putData_28 rfl ?_
    refine wq_iconst (pc := 30) dX7_putData_30 ?_
    refine wq_iastK (pc := 31) dX7_putData_31 hs rfl (by omega) (by omega) ?_
    refine wq_aload_n (pc := 32) dX7_putData_32 rfl rfl ?_
    refine wq_getS (pc := 33) dX7_putData_33 hs (gf_X7_13 _ rfl) rfl rfl rfl rfl rfl ?_
    refine wq_iload (pc := 36) dX7_putData_36 rfl ?_
    refine wq_iload_n (pc := 38) dX7_putData_38 rfl rfl ?_
    refine wq_iastK (pc := 39) dX7_putData_39 hs rfl (by omega) (by omega) ?_
    refine wq_aload_n (pc := 40) dX7_putData_40 rfl rfl ?_
    refine wq_getS (pc := 41) dX7_putData_41 hs (gf_X7_16 _ rfl) rfl rfl rfl rfl rfl ?_
    refine wq_iload (pc := 44) dX7_putData_44 rfl ?_
    refine wq_iload_n (pc := 46) dX7_putData_46 rfl rfl ?_
    refine wq_iastK (pc := 47) dX7_putData_47 hs rfl (by omega) (by omega) ?_
    refine wq_aload_n (pc := 48) dX7_putData_48 rfl rfl ?_
    refine wq_getS (pc := 49) dX7_putData_49 hs (gf_X7_19 _ rfl) rfl rfl rfl rfl rfl ?_
    refine wq_iload (pc := 52) dX7_putData_52 rfl ?_
    refine wq_iload_n (pc := 54) dX7_putData_54 rfl rfl ?_
    refine wq_iastK (pc := 55) dX7_putData_55 hs rfl (by omega) (by omega) ?_
    refine wq_aload_n (pc := 56) dX7_putData_56 rfl rfl ?_
    refine wq_getS (pc := 57) dX7_putData_57 hs (gf_X7_25 _ rfl) rfl rfl rfl rfl rfl ?_
    refine wq_iload (pc := 60) dX7_putData_60 rfl ?_
    refine wq_lload (pc := 62) dX7_putData_62 rfl ?_
    refine wq_lastK (pc := 64) dX7_putData_64 hs rfl (by omega) (by omega) ?_
    refine wq_aload_n (pc := 65) dX7_putData_65 rfl rfl ?_
    refine wq_getS (pc := 66) dX7_putData_66 hs (gf_X7_22 _ rfl) rfl rfl rfl rfl rfl ?_
    refine wq_iload (pc := 69) dX7_putData_69 rfl ?_
    refine wq_iload (pc := 71) dX7_putData_71 rfl ?_
    refine wq_iastK (pc := 73) dX7_putData_73 hs rfl (by omega) (by omega) ?_
    refine wq_aload_n (pc := 74) dX7_putData_74 rfl rfl ?_
    refine wq_getS (pc := 75) dX7_putData_75 hs (gf_X7_29 _ rfl) rfl rfl rfl rfl rfl ?_
    refine wq_iload (pc := 78) dX7_putData_78 rfl ?_
    refine wq_iload (pc := 80) dX7_putData_80 rfl ?_
    refine wq_iastK (pc := 82) dX7_putData_82 hs rfl (by omega) (by omega) ?_
    refine wq_aload_n (pc := 83) dX7_putData_83 rfl rfl ?_
    refine wq_getS (pc := 84) dX7_putData_84 hs (gf_X7_42 _ rfl) rfl rfl rfl rfl rfl ?_
    refine wq_iload (pc := 87) dX7_putData_87 rfl ?_
    refine wq_iconst (pc := 89) dX7_putData_89 ?_
    refine wq_iload (pc := 90) dX7_putData_90 rfl ?_
    refine wq_iadd (pc := 92) dX7_putData_92 ?_
    refine wq_iastK (pc := 93) dX7_putData_93 hs rfl (by omega) (by omega) ?_
    refine wq_aload_n (pc := 94) dX7_putData_94 rfl rfl ?_
    refine wq_iload (pc := 95) dX7_putData_95 rfl ?_
    refine cVK_1 (pc := 97) dX7_putData_97 hs (cw_X7_189 _ rfl) (by decide) rfl ⟨by decide, by decide⟩ (Nat.le_of_ble_eq_true rfl) (sp_X7_writeOut (b := g1.1) (F := F1) (s := s) hs (mB_wr (mB_wr (mB_wr (mB_wr (mB_wr (mB_wr (mB_wr (mB_wr e0 (Or.inr (Or.inr (by show 0 ≤ (1 : Int) ∧ (1 : Int) ≤ 3; omega)))) (Or.inr (Or.inr (by show 0 ≤ f ∧ f ≤ 2001; omega)))) (Or.inr (Or.inr (by show 0 ≤ v ∧ v ≤ 5000; omega)))) (Or.inr (Or.inr (by show 0 ≤ o ∧ o ≤ 63; omega)))) (Or.inl rfl)) (Or.inr (Or.inr (by show 0 ≤ q ∧ q ≤ 8; omega)))) (Or.inr (Or.inr (by show 0 ≤ z ∧ z ≤ 64; omega)))) (Or.inr (Or.inr (by show 0 ≤ 2 + q ∧ 2 + q ≤ 20; omega)))) (RM_row e1 hcu hc16 rfl (fun x j x0 x1 hx => by rw [wr_n _ _ (by omega), wr_n _ _ (by omega), wr_n _ _ (by omega), wr_n _ _ (by omega), wr_n _ _ (by omega), wr_n _ _ (by omega), wr_n _ _ (by omega), wr_n _ _ (by omega)])) hcu hc16 rfl (⟨⟨by (repeat (first | rw [wr_s] | rw [wr_n _ _ (by omega)])); omega, by (repeat (first | rw [wr_s] | rw [wr_n _ _ (by omega)])); omega, by (repeat (first | rw [wr_s] | rw [wr_n _ _ (by omega)])); omega, by (repeat (first | rw [wr_s] | rw [wr_n _ _ (by omega)])); omega⟩, fun _ => ⟨by (repeat (first | rw [wr_s] | rw [wr_n _ _ (by omega)])); omega, by (repeat (first | rw [wr_s] | rw [wr_n _ _ (by omega)])); omega, by (repeat (first | rw [wr_s] | rw [wr_n _ _ (by omega)])); exact q7.symm, by (repeat (first | rw [wr_s] | rw [wr_n _ _ (by omega)])); omega⟩, fun q => absurd (q0.symm.trans q) (by decide)⟩) (by rw [wr_n _ _ (by omega), wr_n _ _ (by omega), wr_n _ _ (by omega), wr_n _ _ (by omega), wr_n _ _ (by omega), wr_n _ _ (by omega), wr_n _ _ (by omega), wr_n _ _ (by omega)]; exact e2.1) (by rw [wr_n _ _ (by omega), wr_n _ _ (by omega), wr_n _ _ (by omega), wr_n _ _ (by omega), wr_n _ _ (by omega), wr_n _ _ (by omega), wr_n _ _ (by omega), wr_n _ _ (by omega)]; exact e2.2) e7.2.2.2.2.2.2 (by omega) (by omega) (fun hr m2 hb2 R2 p2 f2 => ?_) (fun hr m2 hb2 R2 p2 f2 => ?_))
    · skip
      refine kr_s ?_
      have hr9 := hr
      refine wq_zret (pc := 100) dX7_putData_100 rfl (by first | omega | (simp; done) | assumption) ?_
      first
        | (refine h0 (by rw [e9]; exact hr9) _ ⟨hb2, by rw [e9]; exact R2, by rw [e9]; exact p2, (by rw [f2 21 27 (by omega) (by omega) (by omega) (by omega)]; rw [wr_n _ _ (by omega), wr_n _ _ (by omega), wr_n _ _ (by omega), wr_n _ _ (by omega), wr_n _ _ (by omega), wr_n _ _ (by omega), wr_n _ _ (by omega), wr_n _ _ (by omega)]; exact e4), (fun x j h1 h2 => by rw [f2 x j (by omega) (by omega) (by omega) (by omega)]; rw [wr_n _ _ (by omega), wr_n _ _ (by omega), wr_n _ _ (by omega), wr_n _ _ (by omega), wr_n _ _ (by omega), wr_n _ _ (by omega), wr_n _ _ (by omega), wr_n _ _ (by omega)]; exact e5 x j h1 h2), fun z => absurd z (by rw [e9]; show ¬ (fApR F1 g1.1 s).2 = true; rw [hr9]; decide)⟩)
        | (refine h1 (by rw [e9]; exact hr9) _ ⟨hb2, by rw [e9]; exact R2, by rw [e9]; exact p2, (by rw [f2 21 27 (by omega) (by omega) (by omega) (by omega)]; rw [wr_n _ _ (by omega), wr_n _ _ (by omega), wr_n _ _ (by omega), wr_n _ _ (by omega), wr_n _ _ (by omega), wr_n _ _ (by omega), wr_n _ _ (by omega), wr_n _ _ (by omega)]; exact e4), (fun x j h1 h2 => by rw [f2 x j (by omega) (by omega) (by omega) (by omega)]; rw [wr_n _ _ (by omega), wr_n _ _ (by omega), wr_n _ _ (by omega), wr_n _ _ (by omega), wr_n _ _ (by omega), wr_n _ _ (by omega), wr_n _ _ (by omega), wr_n _ _ (by omega)]; exact e5 x j h1 h2), fun _ => by rw [e9]; exact (GM_cg e3 (fun x j hx => by rw [f2 x j (by omega) (by omega) (by omega) (by omega)]; rw [wr_n _ _ (by omega), wr_n _ _ (by omega), wr_n _ _ (by omega), wr_n _ _ (by omega), wr_n _ _ (by omega), wr_n _ _ (by omega), wr_n _ _ (by omega), wr_n _ _ (by omega)]))⟩)
        | (have el := lPut_no (s := s) (by rw [hs1]; exact hnf) hno9
           exact h0 (by rw [el]; exact hno9) _ ⟨hb1, by rw [el]; exact R1, by rw [el]; exact p1, by rw [t27]; exact wr_s _ _ _ _, fun x j h1 h2 => by rw [f1 x j h1 h2, wr_n _ _ (by omega)], fun z => absurd z (by rw [el, hno9]; decide)⟩)
    · skip
      refine kr_s ?_
      have hr9 := hr
      refine wq_zret (pc := 100) dX7_putData_100 rfl (by first | omega | (simp; done) | assumption) ?_
      first
        | (refine h0 (by rw [e9]; exact hr9) _ ⟨hb2, by rw [e9]; exact R2, by rw [e9]; exact p2, (by rw [f2 21 27 (by omega) (by omega) (by omega) (by omega)]; rw [wr_n _ _ (by omega), wr_n _ _ (by omega), wr_n _ _ (by omega), wr_n _ _ (by omega), wr_n _ _ (by omega), wr_n _ _ (by omega), wr_n _ _ (by omega), wr_n _ _ (by omega)]; exact e4), (fun x j h1 h2 => by rw [f2 x j (by omega) (by omega) (by omega) (by omega)]; rw [wr_n _ _ (by omega), wr_n _ _ (by omega), wr_n _ _ (by omega), wr_n _ _ (by omega), wr_n _ _ (by omega), wr_n _ _ (by omega), wr_n _ _ (by omega), wr_n _ _ (by omega)]; exact e5 x j h1 h2), fun z => absurd z (by rw [e9]; show ¬ (fApR F1 g1.1 s).2 = true; rw [hr9]; decide)⟩)
        | (refine h1 (by rw [e9]; exact hr9) _ ⟨hb2, by rw [e9]; exact R2, by rw [e9]; exact p2, (by rw [f2 21 27 (by omega) (by omega) (by omega) (by omega)]; rw [wr_n _ _ (by omega), wr_n _ _ (by omega), wr_n _ _ (by omega), wr_n _ _ (by omega), wr_n _ _ (by omega), wr_n _ _ (by omega), wr_n _ _ (by omega), wr_n _ _ (by omega)]; exact e4), (fun x j h1 h2 => by rw [f2 x j (by omega) (by omega) (by omega) (by omega)]; rw [wr_n _ _ (by omega), wr_n _ _ (by omega), wr_n _ _ (by omega), wr_n _ _ (by omega), wr_n _ _ (by omega), wr_n _ _ (by omega), wr_n _ _ (by omega), wr_n _ _ (by omega)]; exact e5 x j h1 h2), fun _ => by rw [e9]; exact (GM_cg e3 (fun x j hx => by rw [f2 x j (by omega) (by omega) (by omega) (by omega)]; rw [wr_n _ _ (by omega), wr_n _ _ (by omega), wr_n _ _ (by omega), wr_n _ _ (by omega), wr_n _ _ (by omega), wr_n _ _ (by omega), wr_n _ _ (by omega), wr_n _ _ (by omega)]))⟩)
        | (have el := lPut_no (s := s) (by rw [hs1]; exact hnf) hno9
           exact h0 (by rw [el]; exact hno9) _ ⟨hb1, by rw [el]; exact R1, by rw [el]; exact p1, by rw [t27]; exact wr_s _ _ _ _, fun x j h1 h2 => by rw [f1 x j h1 h2, wr_n _ _ (by omega)], fun z => absurd z (by rw [el, hno9]; decide)⟩)
  refine wq_aload_n (pc := 0) dX7_putData_0 rfl rfl ?_
  refine wq_iconst (pc := 1) dX7_putData_1 ?_
  refine wq_putZK (pc := 2) (kk := 27) dX7_putData_2 hs (gf_X7_158 _ rfl) rfl rfl rfl rfl rfl (by first | omega | (simp; done) | assumption) ?_
  refine wq_aload_n (pc := 5) dX7_putData_5 rfl rfl ?_
  refine wq_iconst (pc := 6) dX7_putData_6 ?_
  refine wq_iload (pc := 7) dX7_putData_7 rfl ?_
  refine wq_iadd (pc := 9) dX7_putData_9 ?_
  refine cVK_1 (pc := 10) dX7_putData_10 hs (cw_X7_195 _ rfl) (by decide) rfl ⟨by decide, by decide⟩ (Nat.le_of_ble_eq_true rfl) (sp_X7_makesRoom (F := F) (g := g) hs (mB_wr hb (Or.inr (Or.inl rfl))) (RM_cg hR (fun x j x0 x1 => by rw [wr_n _ _ (by omega)])) hA hL (GM_cg hG (fun x j hx => by rw [wr_n _ _ (by omega)])) ⟨by rw [wr_n _ _ (by omega)]; exact hp.1, by rw [wr_n _ _ (by omega)]; exact hp.2⟩ (by omega) (by rw [hs1] at hfr; exact hfr) (fun hfit => ?_) (fun hnf hno m1 hb1 R1 p1 f1 t27 => ?_) (fun hnf hgo m1 hb1 R1 p1 G1 f1 t27 => ?_))
  · skip
    refine kr_s ?_
    have hin := hfit
    refine wq_if_ne (pc := 13) (tgt := 18) dX7_putData_13 (by decide) (by first | (unfold inR; omega) | assumption) (fun _ => ?_) (fun c => absurd c (by decide))
    refine wq_sub1 (L' := [(0, _), (1, _), (2, _), (3, _), (4, _), (6, _), (7, _)]) ⟨rfl, rfl, rfl, rfl, rfl, rfl, rfl, trivial⟩ ?_
    first
      | exact cut1 _ F g (mB_wr hb (Or.inr (Or.inl rfl))) (RM_cg hR (fun x j x0 x1 => by rw [wr_n _ _ (by omega)])) ⟨by rw [wr_n _ _ (by omega)]; exact hp.1, by rw [wr_n _ _ (by omega)]; exact hp.2⟩ (GM_cg hG (fun x j hx => by rw [wr_n _ _ (by omega)])) (wr_s _ _ _ _) (fun x j h1 h2 => by rw [wr_n _ _ (by omega)]) hA hL (by rw [hs1]; exact hin) (lPut_in (by rw [hs1]; exact hin))
      | (obtain ⟨b1, fr1, hfr1⟩ := List.exists_cons_of_ne_nil (hfr (by rw [hs1]; exact hnf))
         obtain ⟨k1, k2, k3, k4, -⟩ := lGo_ok hA hL hfr1
         obtain ⟨k5, k6, k7, k8, k9, k10, k11⟩ := k4 hgo9
         have hb1b := (hL.2.2.1 b1 (by rw [hfr1]; exact List.mem_cons_self)).1
         exact cut1 _ _ _ hb1 R1 p1 G1 (by rw [t27]; exact wr_s _ _ _ _) (fun x j h1 h2 => by rw [f1 x j h1 h2, wr_n _ _ (by omega)]) k1 k5 ⟨by rw [k7]; omega, by rw [k7, k10, k11]; omega⟩ (lPut_go (by rw [hs1]; exact hnf) hgo9))
  · skip
    refine kr_s ?_
    have hno9 := hno
    refine wq_if_ne (pc := 13) (tgt := 18) dX7_putData_13 (by decide) (by first | (unfold inR; omega) | assumption) (fun c => absurd c (by decide)) (fun _ => ?_)
    refine wq_iconst (pc := 16) dX7_putData_16 ?_
    refine wq_zret (pc := 17) dX7_putData_17 rfl (by first | omega | (simp; done) | assumption) ?_
    first
      | (refine h0 (by rw [e9]; exact hr9) _ ⟨hb2, by rw [e9]; exact R2, by rw [e9]; exact p2, (by rw [f2 21 27 (by omega) (by omega) (by omega) (by omega)]; rw [wr_n _ _ (by omega), wr_n _ _ (by omega), wr_n _ _ (by omega), wr_n _ _ (by omega), wr_n _ _ (by omega), wr_n _ _ (by omega), wr_n _ _ (by omega), wr_n _ _ (by omega)]; exact e4), (fun x j h1 h2 => by rw [f2 x j (by omega) (by omega) (by omega) (by omega)]; rw [wr_n _ _ (by omega), wr_n _ _ (by omega), wr_n _ _ (by omega), wr_n _ _ (by omega), wr_n _ _ (by omega), wr_n _ _ (by omega), wr_n _ _ (by omega), wr_n _ _ (by omega)]; exact e5 x j h1 h2), fun z => absurd z (by rw [e9]; show ¬ (fApR F1 g1.1 s).2 = true; rw [hr9]; decide)⟩)
      | (refine h1 (by rw [e9]; exact hr9) _ ⟨hb2, by rw [e9]; exact R2, by rw [e9]; exact p2, (by rw [f2 21 27 (by omega) (by omega) (by omega) (by omega)]; rw [wr_n _ _ (by omega), wr_n _ _ (by omega), wr_n _ _ (by omega), wr_n _ _ (by omega), wr_n _ _ (by omega), wr_n _ _ (by omega), wr_n _ _ (by omega), wr_n _ _ (by omega)]; exact e4), (fun x j h1 h2 => by rw [f2 x j (by omega) (by omega) (by omega) (by omega)]; rw [wr_n _ _ (by omega), wr_n _ _ (by omega), wr_n _ _ (by omega), wr_n _ _ (by omega), wr_n _ _ (by omega), wr_n _ _ (by omega), wr_n _ _ (by omega), wr_n _ _ (by omega)]; exact e5 x j h1 h2), fun _ => by rw [e9]; exact (GM_cg e3 (fun x j hx => by rw [f2 x j (by omega) (by omega) (by omega) (by omega)]; rw [wr_n _ _ (by omega), wr_n _ _ (by omega), wr_n _ _ (by omega), wr_n _ _ (by omega), wr_n _ _ (by omega), wr_n _ _ (by omega), wr_n _ _ (by omega), wr_n _ _ (by omega)]))⟩)
      | (have el := lPut_no (s := s) (by rw [hs1]; exact hnf) hno9
         exact h0 (by rw [el]; exact hno9) _ ⟨hb1, by rw [el]; exact R1, by rw [el]; exact p1, by rw [t27]; exact wr_s _ _ _ _, fun x j h1 h2 => by rw [f1 x j h1 h2, wr_n _ _ (by omega)], fun z => absurd z (by rw [el, hno9]; decide)⟩)
  · skip
    refine kr_s ?_
    have hgo9 := hgo
    refine wq_if_ne (pc := 13) (tgt := 18) dX7_putData_13 (by decide) (by first | (unfold inR; omega) | assumption) (fun _ => ?_) (fun c => absurd c (by decide))
    refine wq_sub1 (L' := [(0, _), (1, _), (2, _), (3, _), (4, _), (6, _), (7, _)]) ⟨rfl, rfl, rfl, rfl, rfl, rfl, rfl, trivial⟩ ?_
    first
      | exact cut1 _ F g (mB_wr hb (Or.inr (Or.inl rfl))) (RM_cg hR (fun x j x0 x1 => by rw [wr_n _ _ (by omega)])) ⟨by rw [wr_n _ _ (by omega)]; exact hp.1, by rw [wr_n _ _ (by omega)]; exact hp.2⟩ (GM_cg hG (fun x j hx => by rw [wr_n _ _ (by omega)])) (wr_s _ _ _ _) (fun x j h1 h2 => by rw [wr_n _ _ (by omega)]) hA hL (by rw [hs1]; exact hin) (lPut_in (by rw [hs1]; exact hin))
      | (obtain ⟨b1, fr1, hfr1⟩ := List.exists_cons_of_ne_nil (hfr (by rw [hs1]; exact hnf))
         obtain ⟨k1, k2, k3, k4, -⟩ := lGo_ok hA hL hfr1
         obtain ⟨k5, k6, k7, k8, k9, k10, k11⟩ := k4 hgo9
         have hb1b := (hL.2.2.1 b1 (by rw [hfr1]; exact List.mem_cons_self)).1
         exact cut1 _ _ _ hb1 R1 p1 G1 (by rw [t27]; exact wr_s _ _ _ _) (fun x j h1 h2 => by rw [f1 x j h1 h2, wr_n _ _ (by omega)]) k1 k5 ⟨by rw [k7]; omega, by rw [k7, k10, k11]; omega⟩ (lPut_go (by rw [hs1]; exact hnf) hgo9))
theorem sp_X7_putName {μ : nMem} {ε : nEnv} {Q : nOut → nMem → nEnv → Prop} {F : Fl} {g : Lg} {s : Int → Int} {f v o t td : Int} (hs : SkP skM ε) (hb : mB μ) (hR : RM F μ) (hA : PA F) (hL : PL F g) (hG : GM g μ) (hp : pw F μ) (hso : sOK s) (hsv : s 0 = 2 ∧ s 3 = f ∧ s 4 = v ∧ s 5 = o ∧ s 10 = t ∧ s 11 = td ∧ True ∧ True ∧ True) (hfr : ¬ fitsP F g (s 1) → g.2.1 ≠ []) (h0 : (lPut F g s).2.2 = false → ∀ m, PO (lPut F g s) μ m → Q (.inl (some (vI 0))) m ε) (h1 : (lPut F g s).2.2 = true → ∀ m, PO (lPut F g s) μ m → Q (.inl (some (vI 1))) m ε) : Sp mX7_putName [vR 21, vI f, vI v, vI o, vI t, vI td] μ ε Q := by
  refine Sp_of (L := [(0, vR 21), (1, vI f), (2, vI v), (3, vI o), (4, vI t), (5, vI td)]) (by decide) rfl rfl (Nat.le_of_ble_eq_true rfl) ?_
  obtain ⟨q0, q3, q4, q5, q6, q7, q9, q10, q11⟩ := hsv
  have hso9 := hso
  have hsd : s 1 = 3 ∧ (1 ≤ s 3 ∧ s 3 ≤ 2000) ∧ (1 ≤ s 4 ∧ s 4 ≤ 4000) ∧ (1 ≤ s 5 ∧ s 5 ≤ 99) ∧ (s 10 = 0 ∨ 2 ≤ s 10) ∧ s 10 ≤ 2000 ∧ (s 11 = 0 ∨ s 11 = 1) := by
    rcases hso with w | w
    · omega
    · exact ⟨w.2.1, w.2.2.1, w.2.2.2.1, w.2.2.2.2.1, w.2.2.2.2.2.1, w.2.2.2.2.2.2.1, w.2.2.2.2.2.2.2.1⟩
  have hs1 : s 1 = 3 := hsd.1
  have cut1 : ∀ (m1 : nMem) (F1 : Fl) (g1 : Lg), (mB m1) → (RM F1 m1) → (pw F1 m1) → (GM g1 m1) → (m1 21 27 = 0) → (FrP μ m1) → (PA F1) → (PL F1 g1) → (fitsP F1 g1 (s 1)) → (lPut F g s = ((fApR F1 g1.1 s).1, g1, (fApR F1 g1.1 s).2)) → wp mX7_putName 15 [(0, vR 21), (1, vI f), (2, vI v), (3, vI o), (4, vI t), (5, vI td)] [] m1 ε Q := by
    intro m1 F1 g1 e0 e1 e2 e3 e4 e5 e6 e7 e8 e9
    have c1 := e8.1
    obtain ⟨hcu, hcc, hu1, hu2⟩ := PL_cur e6 e7 c1
    have hfz := e8.2
    have hc16 : 0 ≤ fC F1 g1.1 ∧ fC F1 g1.1 < 16 := by omega
    have hR1 := e1.1 g1.1 hcu.1 hcu.2
    have hg17 := e3.1
    have q34 : m1 34 (m1 21 17) = fC F1 g1.1 := by rw [hg17]; exact hR1.1
    refine wq_aload_n (pc := 15) dX7_putName_15 rfl rfl ?_
    refine cVK_0 (pc := 16) dX7_putName_16 hs (cw_X7_185 _ rfl) (by decide) rfl ⟨by decide, by decide⟩ (Nat.le_of_ble_eq_true rfl) (sp_X7_freshNode hs (by omega) (by omega) (by omega) (by omega) ?_)
    refine kr_s ?_
    rw [q34, hg17]
    refine wq_istore (pc := 19) (L' := [(6, _), (0, _), (1, _), (2, _), (3, _), (4, _), (5, _)]) dX7_putName_19 rfl (by decide) ?_
    refine wq_aload_n (pc := 21) dX7_putName_21 rfl rfl ?_
    refine wq_getS (pc := 22) dX7_putName_22 hs (gf_X7_7 _ rfl) rfl rfl rfl rfl rfl ?_
    refine wq_iload (pc := 25) dX7_putName_25 rfl ?_
    refine wq_iconst (pc := 27) dX7_putName_27 ?_
    refine wq_iastK (pc := 28) dX7_putName_28 hs rfl (by omega) (by omega) ?_
    refine wq_aload_n (pc := 29) dX7_putName_29 rfl rfl ?_
    refine wq_getS (pc := 30) dX7_putName_30 hs (gf_X7_13 _ rfl) rfl rfl rfl rfl rfl ?_
    refine wq_iload (pc := 33) dX7_putName_33 rfl ?_
    refine wq_iload_n (pc := 35) dX7_putName_35 rfl rfl ?_
    refine wq_iastK (pc := 36) dX7_putName_36 hs rfl (by omega) (by omega) ?_
    refine wq_aload_n (pc := 37) dX7_putName_37 rfl rfl ?_
    refine wq_getS (pc := 38) dX7_putName_38 hs (gf_X7_16 _ rfl) rfl rfl rfl rfl rfl ?_
    refine wq_iload (pc := 41) dX7_putName_41 rfl ?_
    refine wq_iload_n (pc := 43) dX7_putName_43 rfl rfl ?_
    refine wq_iastK (pc := 44) dX7_putName_44 hs rfl (by omega) (by omega) ?_
    refine wq_aload_n (pc := 45) dX7_putName_45 rfl rfl ?_
    refine wq_getS (pc := 46) dX7_putName_46 hs (gf_X7_32 _ rfl) rfl rfl rfl rfl rfl ?_
    refine wq_iload (pc := 49) dX7_putName_49 rfl ?_
    refine wq_iload_n (pc := 51) dX7_putName_51 rfl rfl ?_
    refine wq_iastK (pc := 52) dX7_putName_52 hs rfl (by omega) (by omega) ?_
    refine wq_aload_n (pc := 53) dX7_putName_53 rfl rfl ?_
    refine wq_getS (pc := 54) dX7_putName_54 hs (gf_X7_35 _ rfl) rfl rfl rfl rfl rfl ?_
    refine wq_iload (pc := 57) dX7_putName_57 rfl ?_
    refine wq_iload (pc := 59) dX7_putName_59 rfl ?_
    refine wq_iastK (pc := 61) dX7_putName_61 hs rfl (by omega) (by omega) ?_
    refine wq_aload_n (pc := 62) dX7_putName_62 rfl rfl ?_
    refine wq_getS (pc := 63) dX7_putName_63 hs (gf_X7_38 _ rfl) rfl rfl rfl rfl rfl ?_
    refine wq_iload (pc := 66) dX7_putName_66 rfl ?_
    refine wq_iload (pc := 68) dX7_putName_68 rfl ?_
    refine wq_zastK (pc := 70) dX7_putName_70 hs rfl (by omega) (by omega) (by first | omega | (simp; done) | assumption) ?_
    refine wq_aload_n (pc := 71) dX7_putName_71 rfl rfl ?_
    refine wq_getS (pc := 72) dX7_putName_72 hs (gf_X7_42 _ rfl) rfl rfl rfl rfl rfl ?_
    refine wq_iload (pc := 75) dX7_putName_75 rfl ?_
    refine wq_iconst (pc := 77) dX7_putName_77 ?_
    refine wq_iastK (pc := 78) dX7_putName_78 hs rfl (by omega) (by omega) ?_
    refine wq_aload_n (pc := 79) dX7_putName_79 rfl rfl ?_
    refine wq_iload (pc := 80) dX7_putName_80 rfl ?_
    refine cVK_1 (pc := 82) dX7_putName_82 hs (cw_X7_189 _ rfl) (by decide) rfl ⟨by decide, by decide⟩ (Nat.le_of_ble_eq_true rfl) (sp_X7_writeOut (b := g1.1) (F := F1) (s := s) hs (mB_wr (mB_wr (mB_wr (mB_wr (mB_wr (mB_wr (mB_wr e0 (Or.inr (Or.inr (by show 0 ≤ (2 : Int) ∧ (2 : Int) ≤ 3; omega)))) (Or.inr (Or.inr (by show 0 ≤ f ∧ f ≤ 2001; omega)))) (Or.inr (Or.inr (by show 0 ≤ v ∧ v ≤ 5000; omega)))) (Or.inr (Or.inr (by show 0 ≤ o ∧ o ≤ 99; omega)))) (Or.inr (Or.inr (by show 0 ≤ t ∧ t ≤ 2001; omega)))) (Or.inr (Or.inr (by show 0 ≤ td ∧ td ≤ 1; omega)))) (Or.inr (Or.inr (by show 0 ≤ (3 : Int) ∧ (3 : Int) ≤ 20; omega)))) (RM_row e1 hcu hc16 rfl (fun x j x0 x1 hx => by rw [wr_n _ _ (by omega), wr_n _ _ (by omega), wr_n _ _ (by omega), wr_n _ _ (by omega), wr_n _ _ (by omega), wr_n _ _ (by omega), wr_n _ _ (by omega)])) hcu hc16 rfl (⟨⟨by (repeat (first | rw [wr_s] | rw [wr_n _ _ (by omega)])); omega, by (repeat (first | rw [wr_s] | rw [wr_n _ _ (by omega)])); omega, by (repeat (first | rw [wr_s] | rw [wr_n _ _ (by omega)])); omega, by (repeat (first | rw [wr_s] | rw [wr_n _ _ (by omega)])); omega⟩, fun q => absurd (q0.symm.trans q) (by decide), fun _ => ⟨by (repeat (first | rw [wr_s] | rw [wr_n _ _ (by omega)])); omega, by (repeat (first | rw [wr_s] | rw [wr_n _ _ (by omega)])); omega, by (repeat (first | rw [wr_s] | rw [wr_n _ _ (by omega)])); omega⟩⟩) (by rw [wr_n _ _ (by omega), wr_n _ _ (by omega), wr_n _ _ (by omega), wr_n _ _ (by omega), wr_n _ _ (by omega), wr_n _ _ (by omega), wr_n _ _ (by omega)]; exact e2.1) (by rw [wr_n _ _ (by omega), wr_n _ _ (by omega), wr_n _ _ (by omega), wr_n _ _ (by omega), wr_n _ _ (by omega), wr_n _ _ (by omega), wr_n _ _ (by omega)]; exact e2.2) e7.2.2.2.2.2.2 (by omega) (by omega) (fun hr m2 hb2 R2 p2 f2 => ?_) (fun hr m2 hb2 R2 p2 f2 => ?_))
    · skip
      refine kr_s ?_
      have hr9 := hr
      refine wq_zret (pc := 85) dX7_putName_85 rfl (by first | omega | (simp; done) | assumption) ?_
      first
        | (refine h0 (by rw [e9]; exact hr9) _ ⟨hb2, by rw [e9]; exact R2, by rw [e9]; exact p2, (by rw [f2 21 27 (by omega) (by omega) (by omega) (by omega)]; rw [wr_n _ _ (by omega), wr_n _ _ (by omega), wr_n _ _ (by omega), wr_n _ _ (by omega), wr_n _ _ (by omega), wr_n _ _ (by omega), wr_n _ _ (by omega)]; exact e4), (fun x j h1 h2 => by rw [f2 x j (by omega) (by omega) (by omega) (by omega)]; rw [wr_n _ _ (by omega), wr_n _ _ (by omega), wr_n _ _ (by omega), wr_n _ _ (by omega), wr_n _ _ (by omega), wr_n _ _ (by omega), wr_n _ _ (by omega)]; exact e5 x j h1 h2), fun z => absurd z (by rw [e9]; show ¬ (fApR F1 g1.1 s).2 = true; rw [hr9]; decide)⟩)
        | (refine h1 (by rw [e9]; exact hr9) _ ⟨hb2, by rw [e9]; exact R2, by rw [e9]; exact p2, (by rw [f2 21 27 (by omega) (by omega) (by omega) (by omega)]; rw [wr_n _ _ (by omega), wr_n _ _ (by omega), wr_n _ _ (by omega), wr_n _ _ (by omega), wr_n _ _ (by omega), wr_n _ _ (by omega), wr_n _ _ (by omega)]; exact e4), (fun x j h1 h2 => by rw [f2 x j (by omega) (by omega) (by omega) (by omega)]; rw [wr_n _ _ (by omega), wr_n _ _ (by omega), wr_n _ _ (by omega), wr_n _ _ (by omega), wr_n _ _ (by omega), wr_n _ _ (by omega), wr_n _ _ (by omega)]; exact e5 x j h1 h2), fun _ => by rw [e9]; exact (GM_cg e3 (fun x j hx => by rw [f2 x j (by omega) (by omega) (by omega) (by omega)]; rw [wr_n _ _ (by omega), wr_n _ _ (by omega), wr_n _ _ (by omega), wr_n _ _ (by omega), wr_n _ _ (by omega), wr_n _ _ (by omega), wr_n _ _ (by omega)]))⟩)
        | (have el := lPut_no (s := s) (by rw [hs1]; exact hnf) hno9
           exact h0 (by rw [el]; exact hno9) _ ⟨hb1, by rw [el]; exact R1, by rw [el]; exact p1, by rw [t27]; exact wr_s _ _ _ _, fun x j h1 h2 => by rw [f1 x j h1 h2, wr_n _ _ (by omega)], fun z => absurd z (by rw [el, hno9]; decide)⟩)
    · skip
      refine kr_s ?_
      have hr9 := hr
      refine wq_zret (pc := 85) dX7_putName_85 rfl (by first | omega | (simp; done) | assumption) ?_
      first
        | (refine h0 (by rw [e9]; exact hr9) _ ⟨hb2, by rw [e9]; exact R2, by rw [e9]; exact p2, (by rw [f2 21 27 (by omega) (by omega) (by omega) (by omega)]; rw [wr_n _ _ (by omega), wr_n _ _ (by omega), wr_n _ _ (by omega), wr_n _ _ (by omega), wr_n _ _ (by omega), wr_n _ _ (by omega), wr_n _ _ (by omega)]; exact e4), (fun x j h1 h2 => by rw [f2 x j (by omega) (by omega) (by omega) (by omega)]; rw [wr_n _ _ (by omega), wr_n _ _ (by omega), wr_n _ _ (by omega), wr_n _ _ (by omega), wr_n _ _ (by omega), wr_n _ _ (by omega), wr_n _ _ (by omega)]; exact e5 x j h1 h2), fun z => absurd z (by rw [e9]; show ¬ (fApR F1 g1.1 s).2 = true; rw [hr9]; decide)⟩)
        | (refine h1 (by rw [e9]; exact hr9) _ ⟨hb2, by rw [e9]; exact R2, by rw [e9]; exact p2, (by rw [f2 21 27 (by omega) (by omega) (by omega) (by omega)]; rw [wr_n _ _ (by omega), wr_n _ _ (by omega), wr_n _ _ (by omega), wr_n _ _ (by omega), wr_n _ _ (by omega), wr_n _ _ (by omega), wr_n _ _ (by omega)]; exact e4), (fun x j h1 h2 => by rw [f2 x j (by omega) (by omega) (by omega) (by omega)]; rw [wr_n _ _ (by omega), wr_n _ _ (by omega), wr_n _ _ (by omega), wr_n _ _ (by omega), wr_n _ _ (by omega), wr_n _ _ (by omega), wr_n _ _ (by omega)]; exact e5 x j h1 h2), fun _ => by rw [e9]; exact (GM_cg e3 (fun x j hx => by rw [f2 x j (by omega) (by omega) (by omega) (by omega)]; rw [wr_n _ _ (by omega), wr_n _ _ (by omega), wr_n _ _ (by omega), wr_n _ _ (by omega), wr_n _ _ (by omega), wr_n _ _ (by omega), wr_n _ _ (by omega)]))⟩)
        | (have el := lPut_no (s := s) (by rw [hs1]; exact hnf) hno9
           exact h0 (by rw [el]; exact hno9) _ ⟨hb1, by rw [el]; exact R1, by rw [el]; exact p1, by rw [t27]; exact wr_s _ _ _ _, fun x j h1 h2 => by rw [f1 x j h1 h2, wr_n _ _ (by omega)], fun z => absurd z (by rw [el, hno9]; decide)⟩)
  refine wq_aload_n (pc := 0) dX7_putName_0 rfl rfl ?_
  refine wq_iconst (pc := 1) dX7_putName_1 ?_
  refine wq_putZK (pc := 2) (kk := 27) dX7_putName_2 hs (gf_X7_158 _ rfl) rfl rfl rfl rfl rfl (by first | omega | (simp; done) | assumption) ?_
  refine wq_aload_n (pc := 5) dX7_putName_5 rfl rfl ?_
  refine wq_iconst (pc := 6) dX7_putName_6 ?_
  refine cVK_1 (pc := 7) dX7_putName_7 hs (cw_X7_195 _ rfl) (by decide) rfl ⟨by decide, by decide⟩ (Nat.le_of_ble_eq_true rfl) (sp_X7_makesRoom (F := F) (g := g) hs (mB_wr hb (Or.inr (Or.inl rfl))) (RM_cg hR (fun x j x0 x1 => by rw [wr_n _ _ (by omega)])) hA hL (GM_cg hG (fun x j hx => by rw [wr_n _ _ (by omega)])) ⟨by rw [wr_n _ _ (by omega)]; exact hp.1, by rw [wr_n _ _ (by omega)]; exact hp.2⟩ (by omega) (by rw [hs1] at hfr; exact hfr) (fun hfit => ?_) (fun hnf hno m1 hb1 R1 p1 f1 t27 => ?_) (fun hnf hgo m1 hb1 R1 p1 G1 f1 t27 => ?_))
  · skip
    refine kr_s ?_
    have hin := hfit
    refine wq_if_ne (pc := 10) (tgt := 15) dX7_putName_10 (by decide) (by first | (unfold inR; omega) | assumption) (fun _ => ?_) (fun c => absurd c (by decide))
    refine wq_sub1 (L' := [(0, _), (1, _), (2, _), (3, _), (4, _), (5, _)]) ⟨rfl, rfl, rfl, rfl, rfl, rfl, trivial⟩ ?_
    first
      | exact cut1 _ F g (mB_wr hb (Or.inr (Or.inl rfl))) (RM_cg hR (fun x j x0 x1 => by rw [wr_n _ _ (by omega)])) ⟨by rw [wr_n _ _ (by omega)]; exact hp.1, by rw [wr_n _ _ (by omega)]; exact hp.2⟩ (GM_cg hG (fun x j hx => by rw [wr_n _ _ (by omega)])) (wr_s _ _ _ _) (fun x j h1 h2 => by rw [wr_n _ _ (by omega)]) hA hL (by rw [hs1]; exact hin) (lPut_in (by rw [hs1]; exact hin))
      | (obtain ⟨b1, fr1, hfr1⟩ := List.exists_cons_of_ne_nil (hfr (by rw [hs1]; exact hnf))
         obtain ⟨k1, k2, k3, k4, -⟩ := lGo_ok hA hL hfr1
         obtain ⟨k5, k6, k7, k8, k9, k10, k11⟩ := k4 hgo9
         have hb1b := (hL.2.2.1 b1 (by rw [hfr1]; exact List.mem_cons_self)).1
         exact cut1 _ _ _ hb1 R1 p1 G1 (by rw [t27]; exact wr_s _ _ _ _) (fun x j h1 h2 => by rw [f1 x j h1 h2, wr_n _ _ (by omega)]) k1 k5 ⟨by rw [k7]; omega, by rw [k7, k10, k11]; omega⟩ (lPut_go (by rw [hs1]; exact hnf) hgo9))
  · skip
    refine kr_s ?_
    have hno9 := hno
    refine wq_if_ne (pc := 10) (tgt := 15) dX7_putName_10 (by decide) (by first | (unfold inR; omega) | assumption) (fun c => absurd c (by decide)) (fun _ => ?_)
    refine wq_iconst (pc := 13) dX7_putName_13 ?_
    refine wq_zret (pc := 14) dX7_putName_14 rfl (by first | omega | (simp; done) | assumption) ?_
    first
      | (refine h0 (by rw [e9]; exact hr9) _ ⟨hb2, by rw [e9]; exact R2, by rw [e9]; exact p2, (by rw [f2 21 27 (by omega) (by omega) (by omega) (by omega)]; rw [wr_n _ _ (by omega), wr_n _ _ (by omega), wr_n _ _ (by omega), wr_n _ _ (by omega), wr_n _ _ (by omega), wr_n _ _ (by omega), wr_n _ _ (by omega)]; exact e4), (fun x j h1 h2 => by rw [f2 x j (by omega) (by omega) (by omega) (by omega)]; rw [wr_n _ _ (by omega), wr_n _ _ (by omega), wr_n _ _ (by omega), wr_n _ _ (by omega), wr_n _ _ (by omega), wr_n _ _ (by omega), wr_n _ _ (by omega)]; exact e5 x j h1 h2), fun z => absurd z (by rw [e9]; show ¬ (fApR F1 g1.1 s).2 = true; rw [hr9]; decide)⟩)
      | (refine h1 (by rw [e9]; exact hr9) _ ⟨hb2, by rw [e9]; exact R2, by rw [e9]; exact p2, (by rw [f2 21 27 (by omega) (by omega) (by omega) (by omega)]; rw [wr_n _ _ (by omega), wr_n _ _ (by omega), wr_n _ _ (by omega), wr_n _ _ (by omega), wr_n _ _ (by omega), wr_n _ _ (by omega), wr_n _ _ (by omega)]; exact e4), (fun x j h1 h2 => by rw [f2 x j (by omega) (by omega) (by omega) (by omega)]; rw [wr_n _ _ (by omega), wr_n _ _ (by omega), wr_n _ _ (by omega), wr_n _ _ (by omega), wr_n _ _ (by omega), wr_n _ _ (by omega), wr_n _ _ (by omega)]; exact e5 x j h1 h2), fun _ => by rw [e9]; exact (GM_cg e3 (fun x j hx => by rw [f2 x j (by omega) (by omega) (by omega) (by omega)]; rw [wr_n _ _ (by omega), wr_n _ _ (by omega), wr_n _ _ (by omega), wr_n _ _ (by omega), wr_n _ _ (by omega), wr_n _ _ (by omega), wr_n _ _ (by omega)]))⟩)
      | (have el := lPut_no (s := s) (by rw [hs1]; exact hnf) hno9
         exact h0 (by rw [el]; exact hno9) _ ⟨hb1, by rw [el]; exact R1, by rw [el]; exact p1, by rw [t27]; exact wr_s _ _ _ _, fun x j h1 h2 => by rw [f1 x j h1 h2, wr_n _ _ (by omega)], fun z => absurd z (by rw [el, hno9]; decide)⟩)
  · skip
    refine kr_s ?_
    have hgo9 := hgo
    refine wq_if_ne (pc := 10) (tgt := 15) dX7_putName_10 (by decide) (by first | (unfold inR; omega) | assumption) (fun _ => ?_) (fun c => absurd c (by decide))
    refine wq_sub1 (L' := [(0, _), (1, _), (2, _), (3, _), (4, _), (5, _)]) ⟨rfl, rfl, rfl, rfl, rfl, rfl, trivial⟩ ?_
    first
      | exact cut1 _ F g (mB_wr hb (Or.inr (Or.inl rfl))) (RM_cg hR (fun x j x0 x1 => by rw [wr_n _ _ (by omega)])) ⟨by rw [wr_n _ _ (by omega)]; exact hp.1, by rw [wr_n _ _ (by omega)]; exact hp.2⟩ (GM_cg hG (fun x j hx => by rw [wr_n _ _ (by omega)])) (wr_s _ _ _ _) (fun x j h1 h2 => by rw [wr_n _ _ (by omega)]) hA hL (by rw [hs1]; exact hin) (lPut_in (by rw [hs1]; exact hin))
      | (obtain ⟨b1, fr1, hfr1⟩ := List.exists_cons_of_ne_nil (hfr (by rw [hs1]; exact hnf))
         obtain ⟨k1, k2, k3, k4, -⟩ := lGo_ok hA hL hfr1
         obtain ⟨k5, k6, k7, k8, k9, k10, k11⟩ := k4 hgo9
         have hb1b := (hL.2.2.1 b1 (by rw [hfr1]; exact List.mem_cons_self)).1
         exact cut1 _ _ _ hb1 R1 p1 G1 (by rw [t27]; exact wr_s _ _ _ _) (fun x j h1 h2 => by rw [f1 x j h1 h2, wr_n _ _ (by omega)]) k1 k5 ⟨by rw [k7]; omega, by rw [k7, k10, k11]; omega⟩ (lPut_go (by rw [hs1]; exact hnf) hgo9))
