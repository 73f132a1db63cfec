/-! ### the reference sees to room -/
theorem mGo_0 {F : Fl} {g : Lg} {b : Int} {fr : List Int} (h : g.2.1 = b :: fr) (c : g.1 = -1) : lGo F g = (F, (b, fr, g.2.2), true) := by unfold lGo; rw [if_pos c, h]
theorem mGo_f {F : Fl} {g : Lg} (c : g.1 ≠ -1) (h : (fApR F g.1 (summSrc (fC F g.1))).2 = false) : lGo F g = ((fApR F g.1 (summSrc (fC F g.1))).1, g, false) := by unfold lGo; rw [if_neg c, if_pos h]
theorem mGo_1 {F : Fl} {g : Lg} {b : Int} {fr : List Int} (h : g.2.1 = b :: fr) (c : g.1 ≠ -1) (h2 : (fApR F g.1 (summSrc (fC F g.1))).2 = true) : lGo F g = ((fApR F g.1 (summSrc (fC F g.1))).1, (b, fr, g.2.2 ++ [g.1]), true) := by unfold lGo; rw [if_neg c, if_neg (by rw [h2]; decide), h]
theorem PL_cur {F : Fl} {g : Lg} (hA : PA F) (hL : PL F g) (q : g.1 ≠ -1) : (0 ≤ g.1 ∧ g.1 < 8) ∧ (0 ≤ fC F g.1 ∧ fC F g.1 ≤ 13) ∧ 1 ≤ fU F g.1 ∧ fU F g.1 + fC F g.1 + 1 ≤ 40 := by
  obtain ⟨p1, p2⟩ := hL.2.1 q
  have hL1 := hL.1
  have pb := hA g.1 (by omega) (by omega)
  have p5 := pb.2.2.2.2.2 p1
  have p6 := pb.1
  have p7 := pb.2.1
  omega
theorem sp_X7_makesRoom {μ : nMem} {ε : nEnv} {Q : nOut → nMem → nEnv → Prop} {F : Fl} {g : Lg} {z : Int} (hs : SkP skM ε) (hb : mB μ) (hR : RM F μ) (hA : PA F) (hL : PL F g) (hG : GM g μ) (hp : pw F μ) (hz : 1 ≤ z ∧ z ≤ 20) (hfr : ¬ fitsP F g z → g.2.1 ≠ []) (hin : fitsP F g z → Q (.inl (some (vI 1))) μ ε) (hno : ¬ fitsP F g z → (lGo F g).2.2 = false → ∀ m, mB m → RM (lGo F g).1 m → pw (lGo F g).1 m → FrP μ m → m 21 27 = μ 21 27 → Q (.inl (some (vI 0))) m ε) (hgo : ¬ fitsP F g z → (lGo F g).2.2 = true → ∀ m, mB m → RM (lGo F g).1 m → pw (lGo F g).1 m → GM (lGo F g).2.1 m → FrP μ m → m 21 27 = μ 21 27 → Q (.inl (some (vI 1))) m ε) : Sp mX7_makesRoom [vR 21, vI z] μ ε Q := by
  refine Sp_of (L := [(0, vR 21), (1, vI z)]) (by decide) rfl rfl (Nat.le_of_ble_eq_true rfl) ?_
  have hg17 := hG.1
  have hL1 := hL.1
  have r17 : inR (μ 21 17) := by unfold inR; omega
  have hlen8 : g.2.1.length ≤ 8 := len8 hL.2.2.2.2.1.1 (fun b hb => (hL.2.2.1 b hb).1)
  have hcur := fun q => PL_cur hA hL q
  have g35 := b35 hb (μ 21 17)
  have g34 := b34 hb (μ 21 17)
  have hRg := fun q1 q2 => hR.1 g.1 q1 q2
  have hRf : μ 21 17 ≠ -1 → μ 34 (μ 21 17) = fC F g.1 ∧ μ 35 (μ 21 17) = fU F g.1 := fun q => by
    rw [hg17]
    have := hRg (by omega) (by omega)
    exact ⟨this.1, this.2.1⟩
  obtain ⟨b1, fr1, hfrx⟩ : ∃ b1 fr1, ¬ fitsP F g z → g.2.1 = b1 :: fr1 := by
    by_cases c : fitsP F g z
    · exact ⟨0, [], fun z => absurd c z⟩
    · obtain ⟨b1, fr1, h⟩ := List.exists_cons_of_ne_nil (hfr c); exact ⟨b1, fr1, fun _ => h⟩
  have cut1 : ∀ (m : nMem) (F1 : Fl) (cl : List Int), (mB m) → (RM F1 m) → (pw F1 m) → (m 21 16 = g.2.1.length) → (∀ i : Nat, i < g.2.1.length → m 37 i = g.2.1.getD i 0) → (m 21 19 = cl.length) → (∀ i : Nat, i < cl.length → m 38 i = cl.getD i 0) → (FrP μ m) → (lGo F g = (F1, (b1, fr1, cl), true)) → (¬ fitsP F g z) → (m 21 27 = μ 21 27) → wp mX7_makesRoom 119 [(0, vR 21), (1, vI z)] [] m ε Q := by
    intro m F1 cl e0 e1 e2 e3 e4 e5 e6 e7 e8 e9 e10
    have hfr1 := hfrx e9
    have hlen : g.2.1.length = fr1.length + 1 := by rw [hfr1]; rfl
    have q37b : m 37 0 = b1 := by
      have q := e4 0 (by omega)
      rw [show ((0 : Nat) : Int) = 0 from rfl, hfr1] at q
      exact q
    have hb1 := (hL.2.2.1 b1 (by rw [hfr1]; exact List.mem_cons_self)).1
    have cE1 := e1
    have cE2 := e2
    have cE5 := e5
    have cE6 := e6
    have cE7 := e7
    have cE8 := e8
    have cE9 := e9
    have cE10 := e10
    refine wq_aload_n (pc := 119) dX7_makesRoom_119 rfl rfl ?_
    refine wq_aload_n (pc := 120) dX7_makesRoom_120 rfl rfl ?_
    refine wq_getS (pc := 121) dX7_makesRoom_121 hs (gf_X7_57 _ rfl) rfl rfl rfl rfl rfl ?_
    refine wq_iconst (pc := 124) dX7_makesRoom_124 ?_
    refine wq_ialdK (pc := 125) dX7_makesRoom_125 hs rfl (by omega) (by omega) ?_
    refine wq_putIK (pc := 126) (kk := 17) dX7_makesRoom_126 hs (gf_X7_118 _ rfl) rfl rfl rfl rfl rfl ?_
    refine wq_aload_n (pc := 129) dX7_makesRoom_129 rfl rfl ?_
    refine wq_dup (pc := 130) dX7_makesRoom_130 rfl ?_
    refine wq_getIK (pc := 131) (kk := 16) dX7_makesRoom_131 hs (gf_X7_114 _ rfl) rfl rfl rfl rfl ?_
    refine wq_iconst (pc := 134) dX7_makesRoom_134 ?_
    refine wq_isub (pc := 135) dX7_makesRoom_135 ?_
    refine wq_putIK (pc := 136) (kk := 16) dX7_makesRoom_136 hs (gf_X7_114 _ rfl) rfl rfl rfl rfl rfl ?_
    refine wq_iconst (pc := 139) dX7_makesRoom_139 ?_
    refine wq_istore_n (pc := 140) (L' := [(2, _), (0, _), (1, _)]) dX7_makesRoom_140 rfl rfl (by decide) ?_
    have loop2 : ∀ (n k : Nat), ∀ (m9 : nMem) (j : Int), k ≤ 8 → 8 < k + n → j = (k : Int) → (k : Int) ≤ fr1.length → mB m9 → (∀ i : Nat, i < k → m9 37 i = fr1.getD i 0) → (∀ i : Nat, k ≤ i → i < g.2.1.length → m9 37 i = g.2.1.getD i 0) → m9 21 16 = fr1.length → m9 21 17 = b1 → (∀ x j, ¬ (x = 37 ∧ 0 ≤ j ∧ j < 8) → ¬ (x = 21 ∧ (j = 16 ∨ j = 17)) → m9 x j = m x j) → wp mX7_makesRoom 141 [(0, vR 21), (1, vI z), (2, vI j)] [] m9 ε Q := by
      intro n
      induction n with
      | zero => intro k m9 j hk1 hk2 e0 e1 e2 e3 e4 e5 e6 e7; exact absurd hk2 (by omega)
      | succ n ih =>
        intro k m9 j hk1 hk2 e0 e1 e2 e3 e4 e5 e6 e7
        subst e0
        have rk : inR (k : Int) := by unfold inR; omega
        have r16 : inR (m9 21 16) := by unfold inR; omega
        refine wq_iload_n (pc := 141) dX7_makesRoom_141 rfl rfl ?_
        refine wq_aload_n (pc := 142) dX7_makesRoom_142 rfl rfl ?_
        refine wq_getIK (pc := 143) (kk := 16) dX7_makesRoom_143 hs (gf_X7_114 _ rfl) rfl rfl rfl rfl ?_
        refine wq_icmp_ge (pc := 146) (tgt := 169) dX7_makesRoom_146 (by decide) (by first | (unfold inR; omega) | assumption) (by first | (unfold inR; omega) | assumption) (fun c3 => ?_) (fun c3 => ?_)
        · skip
          refine wq_iconst (pc := 169) dX7_makesRoom_169 ?_
          refine wq_zret (pc := 170) dX7_makesRoom_170 rfl (by first | omega | (simp; done) | assumption) ?_
          first
            | exact hin ⟨by omega, by omega⟩
            | (have el := mGo_f hg1 hr9
               exact hno hnf (by rw [el]) m2 hb2 (by rw [el]; exact R2) (by rw [el]; exact p2) F2 h27)
            | (have hk9 : k = fr1.length := by omega
               refine hgo cE9 (by rw [cE8]) m9 e2 (by rw [cE8]; exact RM_cg cE1 (fun x j x0 x1 => e7 x j (by omega) (by omega))) (by rw [cE8]; exact ⟨by rw [e7 21 20 (by omega) (by omega)]; exact cE2.1, by rw [e7 21 21 (by omega) (by omega)]; exact cE2.2⟩) (by rw [cE8]; exact ⟨e6, e5, fun i hi => e3 i (by rw [hk9]; exact hi), by rw [e7 21 19 (by omega) (by omega)]; exact cE5, fun i hi => by rw [e7 38 i (by omega) (by omega)]; exact cE6 i hi⟩) (fun x j h1 h2 => by rw [e7 x j (by omega) (by omega)]; exact cE7 x j h1 h2) (by rw [e7 21 27 (by omega) (by omega)]; exact cE10))
        · skip
          refine wq_aload_n (pc := 149) dX7_makesRoom_149 rfl rfl ?_
          refine wq_getS (pc := 150) dX7_makesRoom_150 hs (gf_X7_57 _ rfl) rfl rfl rfl rfl rfl ?_
          refine wq_iload_n (pc := 153) dX7_makesRoom_153 rfl rfl ?_
          refine wq_aload_n (pc := 154) dX7_makesRoom_154 rfl rfl ?_
          refine wq_getS (pc := 155) dX7_makesRoom_155 hs (gf_X7_57 _ rfl) rfl rfl rfl rfl rfl ?_
          refine wq_iload_n (pc := 158) dX7_makesRoom_158 rfl rfl ?_
          refine wq_iconst (pc := 159) dX7_makesRoom_159 ?_
          refine wq_iadd (pc := 160) dX7_makesRoom_160 ?_
          refine wq_ialdK (pc := 161) dX7_makesRoom_161 hs rfl (by omega) (by omega) ?_
          refine wq_iastK (pc := 162) dX7_makesRoom_162 hs rfl (by omega) (by omega) ?_
          refine wq_iinc (pc := 163) (L' := [(2, _), (0, _), (1, _)]) dX7_makesRoom_163 rfl rfl (by decide) ?_
          refine wq_goto (pc := 166) (tgt := 141) dX7_makesRoom_166 (by decide) ?_
          refine wq_sub1 (L' := [(0, _), (1, _), (2, _)]) ⟨rfl, rfl, rfl, trivial⟩ ?_
          refine ih (k + 1) _ _ (by omega) (by omega) (by omega) (by omega) (mB_wr e2 (Or.inr (Or.inr (b37 e2 _)))) (fun i hi => ?_) (fun i hi hi2 => ?_) (by rw [wr_n _ _ (by omega)]; exact e5) (by rw [wr_n _ _ (by omega)]; exact e6) (fun x y h1 h2 => by rw [wr_n _ _ (by omega)]; exact e7 x y h1 h2)
          · by_cases c9 : i = k
            · rw [c9, wr_s, show (k : Int) + 1 = ((k + 1 : Nat) : Int) by omega, e4 (k + 1) (by omega) (by omega), hfr1]; rfl
            · rw [wr_n _ _ (by omega)]; exact e3 i (by omega)
          · rw [wr_n _ _ (by omega)]; exact e4 i (by omega) hi2
    refine wq_sub1 (L' := [(0, _), (1, _), (2, _)]) ⟨rfl, rfl, rfl, trivial⟩ ?_
    exact loop2 9 0 _ _ (by omega) (by omega) (by omega) (by omega) (mB_wr (mB_wr e0 (Or.inr (Or.inl rfl))) (Or.inr (Or.inl rfl))) (fun i hi => absurd hi (Nat.not_lt_zero i)) (fun i _ hi => by rw [wr_n _ _ (by omega), wr_n _ _ (by omega)]; exact e4 i hi) (by rw [wr_s, wr_n _ _ (by omega), e3]; omega) (by rw [wr_n _ _ (by omega), wr_s]; exact q37b) (fun x y h1 h2 => by rw [wr_n _ _ (by omega), wr_n _ _ (by omega)])
  have cut4 : (g.1 ≠ -1) → (¬ fitsP F g z) → wp mX7_makesRoom 43 [(0, vR 21), (1, vI z)] [] μ ε Q := by
    intro e0 e1
    have hg1 := e0
    have hnf := e1
    obtain ⟨hcu, hcc, hu1, hu2⟩ := PL_cur hA hL hg1
    have hwfg := (PL_wfP hA hL).2.2.1 hg1
    have hc16 : 0 ≤ fC F g.1 ∧ fC F g.1 < 16 := by omega
    have hR1 := hR.1 g.1 hcu.1 hcu.2
    have q34 : μ 34 (μ 21 17) = fC F g.1 := by rw [hg17]; exact hR1.1
    refine wq_aload_n (pc := 43) dX7_makesRoom_43 rfl rfl ?_
    refine cVK_0 (pc := 44) dX7_makesRoom_44 hs (cw_X7_185 _ rfl) (by decide) rfl ⟨by decide, by decide⟩ (Nat.le_of_ble_eq_true rfl) (sp_X7_freshNode hs (by omega) (by omega) (by omega) (by omega) ?_)
    refine kr_s ?_
    rw [q34, hg17]
    refine wq_istore_n (pc := 47) (L' := [(2, _), (0, _), (1, _)]) dX7_makesRoom_47 rfl rfl (by decide) ?_
    refine wq_aload_n (pc := 48) dX7_makesRoom_48 rfl rfl ?_
    refine wq_getS (pc := 49) dX7_makesRoom_49 hs (gf_X7_7 _ rfl) rfl rfl rfl rfl rfl ?_
    refine wq_iload_n (pc := 52) dX7_makesRoom_52 rfl rfl ?_
    refine wq_iconst (pc := 53) dX7_makesRoom_53 ?_
    refine wq_iastK (pc := 54) dX7_makesRoom_54 hs rfl (by omega) (by omega) ?_
    refine wq_aload_n (pc := 55) dX7_makesRoom_55 rfl rfl ?_
    refine wq_getS (pc := 56) dX7_makesRoom_56 hs (gf_X7_13 _ rfl) rfl rfl rfl rfl rfl ?_
    refine wq_iload_n (pc := 59) dX7_makesRoom_59 rfl rfl ?_
    refine wq_iconst (pc := 60) dX7_makesRoom_60 ?_
    refine wq_iastK (pc := 61) dX7_makesRoom_61 hs rfl (by omega) (by omega) ?_
    refine wq_aload_n (pc := 62) dX7_makesRoom_62 rfl rfl ?_
    refine wq_getS (pc := 63) dX7_makesRoom_63 hs (gf_X7_16 _ rfl) rfl rfl rfl rfl rfl ?_
    refine wq_iload_n (pc := 66) dX7_makesRoom_66 rfl rfl ?_
    refine wq_iconst (pc := 67) dX7_makesRoom_67 ?_
    refine wq_iastK (pc := 68) dX7_makesRoom_68 hs rfl (by omega) (by omega) ?_
    refine wq_aload_n (pc := 69) dX7_makesRoom_69 rfl rfl ?_
    refine wq_getS (pc := 70) dX7_makesRoom_70 hs (gf_X7_42 _ rfl) rfl rfl rfl rfl rfl ?_
    refine wq_iload_n (pc := 73) dX7_makesRoom_73 rfl rfl ?_
    refine wq_iconst (pc := 74) dX7_makesRoom_74 ?_
    refine wq_aload_n (pc := 75) dX7_makesRoom_75 rfl rfl ?_
    refine wq_getS (pc := 76) dX7_makesRoom_76 hs (gf_X7_48 _ rfl) rfl rfl rfl rfl rfl ?_
    refine wq_aload_n (pc := 79) dX7_makesRoom_79 rfl rfl ?_
    refine wq_getIK (pc := 80) (kk := 17) dX7_makesRoom_80 hs (gf_X7_118 _ rfl) rfl rfl rfl rfl ?_
    have w17 : (wr (wr (wr μ 22 (16 * g.1 + fC F g.1) 3) 23 (16 * g.1 + fC F g.1) 0) 24 (16 * g.1 + fC F g.1) 0) 21 17 = g.1 := by rw [wr_n _ _ (by omega), wr_n _ _ (by omega), wr_n _ _ (by omega)]; exact hg17
    have w34 : (wr (wr (wr μ 22 (16 * g.1 + fC F g.1) 3) 23 (16 * g.1 + fC F g.1) 0) 24 (16 * g.1 + fC F g.1) 0) 34 g.1 = fC F g.1 := by rw [wr_n _ _ (by omega), wr_n _ _ (by omega), wr_n _ _ (by omega)]; exact hR1.1
    rw [w17]
    refine wq_ialdK (pc := 83) dX7_makesRoom_83 hs rfl (by omega) (by omega) ?_
    rw [w34]
    refine wq_iadd (pc := 84) dX7_makesRoom_84 ?_
    refine wq_iastK (pc := 85) dX7_makesRoom_85 hs rfl (by omega) (by omega) ?_
    refine wq_aload_n (pc := 86) dX7_makesRoom_86 rfl rfl ?_
    refine wq_iload_n (pc := 87) dX7_makesRoom_87 rfl rfl ?_
    refine cVK_1 (pc := 88) dX7_makesRoom_88 hs (cw_X7_189 _ rfl) (by decide) rfl ⟨by decide, by decide⟩ (Nat.le_of_ble_eq_true rfl) (sp_X7_writeOut (b := g.1) (F := F) (s := summSrc (fC F g.1)) hs (mB_wr (mB_wr (mB_wr (mB_wr hb (Or.inr (Or.inr (by decide)))) (Or.inr (Or.inr (by decide)))) (Or.inr (Or.inr (by decide)))) (Or.inr (Or.inr (by show 0 ≤ 1 + fC F g.1 ∧ 1 + fC F g.1 ≤ 20; omega)))) (RM_row hR (by omega) hc16 rfl (fun x j x0 x1 hx => by rw [wr_n _ _ (by omega), wr_n _ _ (by omega), wr_n _ _ (by omega), wr_n _ _ (by omega)])) (by omega) hc16 rfl (⟨⟨by (repeat (first | rw [wr_s] | rw [wr_n _ _ (by omega)])); rfl, by (repeat (first | rw [wr_s] | rw [wr_n _ _ (by omega)])); rfl, by (repeat (first | rw [wr_s] | rw [wr_n _ _ (by omega)])); rfl, by (repeat (first | rw [wr_s] | rw [wr_n _ _ (by omega)])); rfl⟩, fun q => absurd (show (3 : Int) = 1 from q) (by decide), fun q => absurd (show (3 : Int) = 2 from q) (by decide)⟩) (by rw [wr_n _ _ (by omega), wr_n _ _ (by omega), wr_n _ _ (by omega), wr_n _ _ (by omega)]; exact hp.1) (by rw [wr_n _ _ (by omega), wr_n _ _ (by omega), wr_n _ _ (by omega), wr_n _ _ (by omega)]; exact hp.2) hL.2.2.2.2.2.2 (by show 1 ≤ 1 + fC F g.1 ∧ 1 + fC F g.1 ≤ 20; omega) (by show 0 ≤ fU F g.1 ∧ fU F g.1 + (1 + fC F g.1) ≤ 40; omega) (fun hr m2 hb2 R2 p2 f2 => ?_) (fun hr m2 hb2 R2 p2 f2 => ?_))
    · skip
      refine kr_s ?_
      have hr9 := hr
      have F2 : FrP μ m2 := fun x j h1 h2 => by rw [f2 x j (by omega) (by omega) (by omega) (by omega)]; rw [wr_n _ _ (by omega), wr_n _ _ (by omega), wr_n _ _ (by omega), wr_n _ _ (by omega)]
      have G2 : ∀ x j, (x = 37 ∨ x = 38 ∨ (x = 21 ∧ (j = 16 ∨ j = 17 ∨ j = 19))) → m2 x j = μ x j := fun x j h1 => by rw [f2 x j (by omega) (by omega) (by omega) (by omega)]; rw [wr_n _ _ (by omega), wr_n _ _ (by omega), wr_n _ _ (by omega), wr_n _ _ (by omega)]
      have h27 : m2 21 27 = μ 21 27 := by rw [f2 21 27 (by omega) (by omega) (by omega) (by omega)]; rw [wr_n _ _ (by omega), wr_n _ _ (by omega), wr_n _ _ (by omega), wr_n _ _ (by omega)]
      have q19 : m2 21 19 = g.2.2.length := by rw [G2 21 19 (by omega)]; exact hG.2.2.2.1
      have q17 : m2 21 17 = g.1 := by rw [G2 21 17 (by omega)]; exact hG.1
      refine wq_if_ne (pc := 91) (tgt := 96) dX7_makesRoom_91 (by decide) (by first | (unfold inR; omega) | assumption) (fun c => absurd c (by decide)) (fun _ => ?_)
      refine wq_iconst (pc := 94) dX7_makesRoom_94 ?_
      refine wq_zret (pc := 95) dX7_makesRoom_95 rfl (by first | omega | (simp; done) | assumption) ?_
      first
        | exact hin ⟨by omega, by omega⟩
        | (have el := mGo_f hg1 hr9
           exact hno hnf (by rw [el]) m2 hb2 (by rw [el]; exact R2) (by rw [el]; exact p2) F2 h27)
        | (have hk9 : k = fr1.length := by omega
           refine hgo cE9 (by rw [cE8]) m9 e2 (by rw [cE8]; exact RM_cg cE1 (fun x j x0 x1 => e7 x j (by omega) (by omega))) (by rw [cE8]; exact ⟨by rw [e7 21 20 (by omega) (by omega)]; exact cE2.1, by rw [e7 21 21 (by omega) (by omega)]; exact cE2.2⟩) (by rw [cE8]; exact ⟨e6, e5, fun i hi => e3 i (by rw [hk9]; exact hi), by rw [e7 21 19 (by omega) (by omega)]; exact cE5, fun i hi => by rw [e7 38 i (by omega) (by omega)]; exact cE6 i hi⟩) (fun x j h1 h2 => by rw [e7 x j (by omega) (by omega)]; exact cE7 x j h1 h2) (by rw [e7 21 27 (by omega) (by omega)]; exact cE10))
    · skip
      refine kr_s ?_
      have hr9 := hr
      have F2 : FrP μ m2 := fun x j h1 h2 => by rw [f2 x j (by omega) (by omega) (by omega) (by omega)]; rw [wr_n _ _ (by omega), wr_n _ _ (by omega), wr_n _ _ (by omega), wr_n _ _ (by omega)]
      have G2 : ∀ x j, (x = 37 ∨ x = 38 ∨ (x = 21 ∧ (j = 16 ∨ j = 17 ∨ j = 19))) → m2 x j = μ x j := fun x j h1 => by rw [f2 x j (by omega) (by omega) (by omega) (by omega)]; rw [wr_n _ _ (by omega), wr_n _ _ (by omega), wr_n _ _ (by omega), wr_n _ _ (by omega)]
      have h27 : m2 21 27 = μ 21 27 := by rw [f2 21 27 (by omega) (by omega) (by omega) (by omega)]; rw [wr_n _ _ (by omega), wr_n _ _ (by omega), wr_n _ _ (by omega), wr_n _ _ (by omega)]
      have q19 : m2 21 19 = g.2.2.length := by rw [G2 21 19 (by omega)]; exact hG.2.2.2.1
      have q17 : m2 21 17 = g.1 := by rw [G2 21 17 (by omega)]; exact hG.1
      refine wq_if_ne (pc := 91) (tgt := 96) dX7_makesRoom_91 (by decide) (by first | (unfold inR; omega) | assumption) (fun _ => ?_) (fun c => absurd c (by decide))
      refine wq_aload_n (pc := 96) dX7_makesRoom_96 rfl rfl ?_
      refine wq_getS (pc := 97) dX7_makesRoom_97 hs (gf_X7_60 _ rfl) rfl rfl rfl rfl rfl ?_
      refine wq_aload_n (pc := 100) dX7_makesRoom_100 rfl rfl ?_
      refine wq_getIK (pc := 101) (kk := 19) dX7_makesRoom_101 hs (gf_X7_192 _ rfl) rfl rfl rfl rfl ?_
      refine wq_aload_n (pc := 104) dX7_makesRoom_104 rfl rfl ?_
      refine wq_getIK (pc := 105) (kk := 17) dX7_makesRoom_105 hs (gf_X7_118 _ rfl) rfl rfl rfl rfl ?_
      refine wq_iastK (pc := 108) dX7_makesRoom_108 hs rfl (by omega) (by omega) ?_
      refine wq_aload_n (pc := 109) dX7_makesRoom_109 rfl rfl ?_
      refine wq_dup (pc := 110) dX7_makesRoom_110 rfl ?_
      refine wq_getIK (pc := 111) (kk := 19) dX7_makesRoom_111 hs (gf_X7_192 _ rfl) rfl rfl rfl rfl ?_
      refine wq_iconst (pc := 114) dX7_makesRoom_114 ?_
      refine wq_iadd (pc := 115) dX7_makesRoom_115 ?_
      refine wq_putIK (pc := 116) (kk := 19) dX7_makesRoom_116 hs (gf_X7_192 _ rfl) rfl rfl rfl rfl rfl ?_
      refine wq_sub1 (L' := [(0, _), (1, _)]) ⟨rfl, rfl, trivial⟩ ?_
      first
        | exact cut1 μ F g.2.2 hb hR hp hG.2.1 hG.2.2.1 hG.2.2.2.1 hG.2.2.2.2 (fun _ _ _ _ => rfl) (mGo_0 (hfrx (by rintro ⟨z1, z2⟩; omega)) (by omega)) (by rintro ⟨z1, z2⟩; omega) rfl
        | (refine cut1 _ _ (g.2.2 ++ [g.1]) (mB_wr (mB_wr hb2 (Or.inr (Or.inr (by show 0 ≤ m2 21 17 ∧ m2 21 17 ≤ 7; omega)))) (Or.inr (Or.inl rfl))) (RM_cg R2 (fun x j x0 x1 => by rw [wr_n _ _ (by omega), wr_n _ _ (by omega)])) ⟨by rw [wr_n _ _ (by omega), wr_n _ _ (by omega)]; exact p2.1, by rw [wr_n _ _ (by omega), wr_n _ _ (by omega)]; exact p2.2⟩ (by rw [wr_n _ _ (by omega), wr_n _ _ (by omega), G2 21 16 (by omega)]; exact hG.2.1) (fun i hi => by rw [wr_n _ _ (by omega), wr_n _ _ (by omega), G2 37 _ (by omega)]; exact hG.2.2.1 i hi) ?_ (fun i hi => ?_) (fun x j h1 h2 => by rw [wr_n _ _ (by omega), wr_n _ _ (by omega)]; exact F2 x j h1 h2) (mGo_1 (hfrx hnf) hg1 hr9) hnf (by rw [wr_n _ _ (by omega), wr_n _ _ (by omega)]; exact h27)
           · rw [wr_s, wr_n _ _ (by omega), q19, List.length_append]; rfl
           · rw [List.length_append] at hi
             have hi : i < g.2.2.length + 1 := hi
             rw [getD_app, wr_n _ _ (by omega)]
             by_cases ci : i < g.2.2.length
             · rw [if_pos ci, wr_n _ _ (by omega), G2 38 _ (by omega)]; exact hG.2.2.2.2 i ci
             · rw [if_neg ci, if_pos (by omega), show (i : Int) = m2 21 19 by omega, wr_s]; exact q17)
  refine wq_aload_n (pc := 0) dX7_makesRoom_0 rfl rfl ?_
  refine wq_getIK (pc := 1) (kk := 17) dX7_makesRoom_1 hs (gf_X7_118 _ rfl) rfl rfl rfl rfl ?_
  refine wq_iconst (pc := 4) dX7_makesRoom_4 ?_
  refine wq_icmp_eq (pc := 5) (tgt := 35) dX7_makesRoom_5 (by decide) (by first | (unfold inR; omega) | assumption) (by first | (unfold inR; omega) | assumption) (fun c9 => ?_) (fun c9 => ?_)
  · skip
    refine wq_aload_n (pc := 35) dX7_makesRoom_35 rfl rfl ?_
    refine wq_getIK (pc := 36) (kk := 17) dX7_makesRoom_36 hs (gf_X7_118 _ rfl) rfl rfl rfl rfl ?_
    refine wq_iconst (pc := 39) dX7_makesRoom_39 ?_
    refine wq_icmp_eq (pc := 40) (tgt := 119) dX7_makesRoom_40 (by decide) (by first | (unfold inR; omega) | assumption) (by first | (unfold inR; omega) | assumption) (fun c10 => ?_) (fun c10 => ?_)
    · skip
      refine wq_sub1 (L' := [(0, _), (1, _)]) ⟨rfl, rfl, trivial⟩ ?_
      first
        | exact cut1 μ F g.2.2 hb hR hp hG.2.1 hG.2.2.1 hG.2.2.2.1 hG.2.2.2.2 (fun _ _ _ _ => rfl) (mGo_0 (hfrx (by rintro ⟨z1, z2⟩; omega)) (by omega)) (by rintro ⟨z1, z2⟩; omega) rfl
        | (refine cut1 _ _ (g.2.2 ++ [g.1]) (mB_wr (mB_wr hb2 (Or.inr (Or.inr (by show 0 ≤ m2 21 17 ∧ m2 21 17 ≤ 7; omega)))) (Or.inr (Or.inl rfl))) (RM_cg R2 (fun x j x0 x1 => by rw [wr_n _ _ (by omega), wr_n _ _ (by omega)])) ⟨by rw [wr_n _ _ (by omega), wr_n _ _ (by omega)]; exact p2.1, by rw [wr_n _ _ (by omega), wr_n _ _ (by omega)]; exact p2.2⟩ (by rw [wr_n _ _ (by omega), wr_n _ _ (by omega), G2 21 16 (by omega)]; exact hG.2.1) (fun i hi => by rw [wr_n _ _ (by omega), wr_n _ _ (by omega), G2 37 _ (by omega)]; exact hG.2.2.1 i hi) ?_ (fun i hi => ?_) (fun x j h1 h2 => by rw [wr_n _ _ (by omega), wr_n _ _ (by omega)]; exact F2 x j h1 h2) (mGo_1 (hfrx hnf) hg1 hr9) hnf (by rw [wr_n _ _ (by omega), wr_n _ _ (by omega)]; exact h27)
           · rw [wr_s, wr_n _ _ (by omega), q19, List.length_append]; rfl
           · rw [List.length_append] at hi
             have hi : i < g.2.2.length + 1 := hi
             rw [getD_app, wr_n _ _ (by omega)]
             by_cases ci : i < g.2.2.length
             · rw [if_pos ci, wr_n _ _ (by omega), G2 38 _ (by omega)]; exact hG.2.2.2.2 i ci
             · rw [if_neg ci, if_pos (by omega), show (i : Int) = m2 21 19 by omega, wr_s]; exact q17)
    · skip
      refine wq_sub1 (L' := [(0, _), (1, _)]) ⟨rfl, rfl, trivial⟩ ?_
      exact cut4 (by omega) (by rintro ⟨z1, z2⟩; omega)
  · skip
    obtain ⟨hf34, hf35⟩ := hRf (by assumption)
    obtain ⟨hcu, hcc, hu1, hu2⟩ := hcur (by omega)
    refine wq_aload_n (pc := 8) dX7_makesRoom_8 rfl rfl ?_
    refine wq_getS (pc := 9) dX7_makesRoom_9 hs (gf_X7_51 _ rfl) rfl rfl rfl rfl rfl ?_
    refine wq_aload_n (pc := 12) dX7_makesRoom_12 rfl rfl ?_
    refine wq_getIK (pc := 13) (kk := 17) dX7_makesRoom_13 hs (gf_X7_118 _ rfl) rfl rfl rfl rfl ?_
    refine wq_ialdK (pc := 16) dX7_makesRoom_16 hs rfl (by omega) (by omega) ?_
    refine wq_aload_n (pc := 17) dX7_makesRoom_17 rfl rfl ?_
    refine wq_getS (pc := 18) dX7_makesRoom_18 hs (gf_X7_48 _ rfl) rfl rfl rfl rfl rfl ?_
    refine wq_aload_n (pc := 21) dX7_makesRoom_21 rfl rfl ?_
    refine wq_getIK (pc := 22) (kk := 17) dX7_makesRoom_22 hs (gf_X7_118 _ rfl) rfl rfl rfl rfl ?_
    refine wq_ialdK (pc := 25) dX7_makesRoom_25 hs rfl (by omega) (by omega) ?_
    refine wq_iload_n (pc := 26) dX7_makesRoom_26 rfl rfl ?_
    refine cS_3 (pc := 27) dX7_makesRoom_27 (cw_X7_181 _ rfl) ⟨by decide, by decide⟩ (Nat.le_of_ble_eq_true rfl) (sp_X7_fits (by omega) (by omega) (by omega) (by omega) (by omega) (by omega) (fun hft => ?_) (fun hft => ?_))
    · skip
      refine kr_s ?_
      refine wq_if_eq (pc := 30) (tgt := 35) dX7_makesRoom_30 (by decide) (by first | (unfold inR; omega) | assumption) (fun c => absurd c (by decide)) (fun _ => ?_)
      refine wq_iconst (pc := 33) dX7_makesRoom_33 ?_
      refine wq_zret (pc := 34) dX7_makesRoom_34 rfl (by first | omega | (simp; done) | assumption) ?_
      first
        | exact hin ⟨by omega, by omega⟩
        | (have el := mGo_f hg1 hr9
           exact hno hnf (by rw [el]) m2 hb2 (by rw [el]; exact R2) (by rw [el]; exact p2) F2 h27)
        | (have hk9 : k = fr1.length := by omega
           refine hgo cE9 (by rw [cE8]) m9 e2 (by rw [cE8]; exact RM_cg cE1 (fun x j x0 x1 => e7 x j (by omega) (by omega))) (by rw [cE8]; exact ⟨by rw [e7 21 20 (by omega) (by omega)]; exact cE2.1, by rw [e7 21 21 (by omega) (by omega)]; exact cE2.2⟩) (by rw [cE8]; exact ⟨e6, e5, fun i hi => e3 i (by rw [hk9]; exact hi), by rw [e7 21 19 (by omega) (by omega)]; exact cE5, fun i hi => by rw [e7 38 i (by omega) (by omega)]; exact cE6 i hi⟩) (fun x j h1 h2 => by rw [e7 x j (by omega) (by omega)]; exact cE7 x j h1 h2) (by rw [e7 21 27 (by omega) (by omega)]; exact cE10))
    · skip
      refine kr_s ?_
      refine wq_if_eq (pc := 30) (tgt := 35) dX7_makesRoom_30 (by decide) (by first | (unfold inR; omega) | assumption) (fun _ => ?_) (fun c => absurd c (by decide))
      refine wq_aload_n (pc := 35) dX7_makesRoom_35 rfl rfl ?_
      refine wq_getIK (pc := 36) (kk := 17) dX7_makesRoom_36 hs (gf_X7_118 _ rfl) rfl rfl rfl rfl ?_
      refine wq_iconst (pc := 39) dX7_makesRoom_39 ?_
      refine wq_icmp_eq (pc := 40) (tgt := 119) dX7_makesRoom_40 (by decide) (by first | (unfold inR; omega) | assumption) (by first | (unfold inR; omega) | assumption) (fun c15 => ?_) (fun c15 => ?_)
      · skip
        refine wq_sub1 (L' := [(0, _), (1, _)]) ⟨rfl, rfl, trivial⟩ ?_
        first
          | exact cut1 μ F g.2.2 hb hR hp hG.2.1 hG.2.2.1 hG.2.2.2.1 hG.2.2.2.2 (fun _ _ _ _ => rfl) (mGo_0 (hfrx (by rintro ⟨z1, z2⟩; omega)) (by omega)) (by rintro ⟨z1, z2⟩; omega) rfl
          | (refine cut1 _ _ (g.2.2 ++ [g.1]) (mB_wr (mB_wr hb2 (Or.inr (Or.inr (by show 0 ≤ m2 21 17 ∧ m2 21 17 ≤ 7; omega)))) (Or.inr (Or.inl rfl))) (RM_cg R2 (fun x j x0 x1 => by rw [wr_n _ _ (by omega), wr_n _ _ (by omega)])) ⟨by rw [wr_n _ _ (by omega), wr_n _ _ (by omega)]; exact p2.1, by rw [wr_n _ _ (by omega), wr_n _ _ (by omega)]; exact p2.2⟩ (by rw [wr_n _ _ (by omega), wr_n _ _ (by omega), G2 21 16 (by omega)]; exact hG.2.1) (fun i hi => by rw [wr_n _ _ (by omega), wr_n _ _ (by omega), G2 37 _ (by omega)]; exact hG.2.2.1 i hi) ?_ (fun i hi => ?_) (fun x j h1 h2 => by rw [wr_n _ _ (by omega), wr_n _ _ (by omega)]; exact F2 x j h1 h2) (mGo_1 (hfrx hnf) hg1 hr9) hnf (by rw [wr_n _ _ (by omega), wr_n _ _ (by omega)]; exact h27)
             · rw [wr_s, wr_n _ _ (by omega), q19, List.length_append]; rfl
             · rw [List.length_append] at hi
               have hi : i < g.2.2.length + 1 := hi
               rw [getD_app, wr_n _ _ (by omega)]
               by_cases ci : i < g.2.2.length
               · rw [if_pos ci, wr_n _ _ (by omega), G2 38 _ (by omega)]; exact hG.2.2.2.2 i ci
               · rw [if_neg ci, if_pos (by omega), show (i : Int) = m2 21 19 by omega, wr_s]; exact q17)
      · skip
        refine wq_sub1 (L' := [(0, _), (1, _)]) ⟨rfl, rfl, trivial⟩ ?_
        exact cut4 (by omega) (by rintro ⟨z1, z2⟩; omega)
