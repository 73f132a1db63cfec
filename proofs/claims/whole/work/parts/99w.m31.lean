/-! ### a block erased by the reference -/
theorem RM_er {F F2 : Fl} {μ m : nMem} {b v : Int} (h : RM F μ) (hb : 0 ≤ b ∧ b < 8) (hC : ∀ c, fC F2 c = if c = b then 0 else fC F c) (hU : ∀ c, fU F2 c = if c = b then v else fU F c) (hE : ∀ c, fE F2 c = if c = b then fE F b + 1 else fE F c) (hN : ∀ i k, ¬ (b * 16 ≤ i ∧ i < b * 16 + 16) → fN F2 i k = fN F i k) (e : ∀ x j, 22 ≤ x → x ≤ 33 → m x j = μ x j) (e34 : ∀ c, m 34 c = if c = b then 0 else μ 34 c) (e35 : ∀ c, m 35 c = if c = b then v else μ 35 c) (e36 : ∀ c, m 36 c = if c = b then fE F b + 1 else μ 36 c) : RM F2 m := by
  refine ⟨fun c c0 c1 => ?_, fun i i0 i1 c => ?_⟩
  · obtain ⟨q1, q2, q3⟩ := h.1 c c0 c1
    rw [hC, hU, hE, e34, e35, e36]
    by_cases z : c = b
    · simp only [if_pos z]; exact ⟨trivial, trivial, trivial⟩
    · simp only [if_neg z]; exact ⟨q1, q2, q3⟩
  · rw [hC] at c
    by_cases z : i / 16 = b
    · rw [if_pos z] at c
      have := row_b i0 i1
      omega
    · rw [if_neg z] at c
      have hn := fun k => hN i k (by omega)
      rw [e 22 i (by decide) (by decide), e 23 i (by decide) (by decide), e 24 i (by decide) (by decide), e 25 i (by decide) (by decide), e 26 i (by decide) (by decide), e 27 i (by decide) (by decide), e 28 i (by decide) (by decide), e 29 i (by decide) (by decide), e 30 i (by decide) (by decide), e 31 i (by decide) (by decide), e 32 i (by decide) (by decide), e 33 i (by decide) (by decide)]
      simp only [hn]
      exact h.2 i i0 i1 c
abbrev FrE (b : Int) (μ m : nMem) : Prop := ∀ x j, x ≠ 34 → x ≠ 35 → x ≠ 36 → ¬ (x = 37 ∧ j = μ 21 16) → ¬ (x = 21 ∧ (j = 16 ∨ j = 20 ∨ j = 21 ∨ j = 27)) → m x j = μ x j
theorem sp_X7_erases {μ : nMem} {ε : nEnv} {Q : nOut → nMem → nEnv → Prop} {F : Fl} {b : Int} (hs : SkP skM ε) (hb : mB μ) (hR : RM F μ) (hp : pw F μ) (h27 : μ 21 27 = 0) (h16 : 0 ≤ μ 21 16 ∧ μ 21 16 < 8) (hB : 0 ≤ b ∧ b < 8) (hlf : -1 ≤ fL F ∧ fL F ≤ 1000) (hE : 0 ≤ fE F b ∧ fE F b ≤ 190000) (h0 : (fErR F b).2 = false → ∀ m, mB m → RM (fErR F b).1 m → pw (fErR F b).1 m → m 21 27 = 0 → FrE b μ m → Q (.inl (some (vI 0))) m ε) (h1 : (fErR F b).2 = true → ∀ m, mB m → RM (fErR F b).1 m → pw (fErR F b).1 m → m 21 27 = 0 → FrE b μ m → m 21 16 = μ 21 16 + 1 → m 37 (μ 21 16) = b → Q (.inl (some (vI 1))) m ε) : Sp mX7_erases [vR 21, vI b] μ ε Q := by
  refine Sp_of (L := [(0, vR 21), (1, vI b)]) (by decide) rfl rfl (Nat.le_of_ble_eq_true rfl) ?_
  have h20 := hp.1
  have hR36 := (hR.1 b hB.1 hB.2).2.2
  refine wq_aload_n (pc := 0) dX7_erases_0 rfl rfl ?_
  refine cVK_0 (pc := 1) dX7_erases_1 hs (cw_X7_177 _ rfl) (by decide) rfl ⟨by decide, by decide⟩ (Nat.le_of_ble_eq_true rfl) (sp_X7_spends hs (by omega) (by omega) (fun hz => ?_) (fun hz => ?_))
  · skip
    refine kr_s ?_
    have hz9 : fL F = 0 := by omega
    refine wq_if_ne (pc := 4) (tgt := 9) dX7_erases_4 (by decide) (by first | (unfold inR; omega) | assumption) (fun c => absurd c (by decide)) (fun _ => ?_)
    refine wq_iconst (pc := 7) dX7_erases_7 ?_
    refine wq_zret (pc := 8) dX7_erases_8 rfl (by first | omega | (simp; done) | assumption) ?_
    first
      | (have ea := erR_0 (b := b) hz9
         refine h0 (by rw [ea]) _ (mB_wr (mB_wr hb (Or.inr (Or.inl rfl))) (Or.inr (Or.inl rfl))) (by rw [ea]; exact RM_D (RM_cg hR (fun x j x0 x1 => by rw [wr_n _ _ (by omega), wr_n _ _ (by omega)])) _ _) (by rw [ea]; exact ⟨wr_s _ _ _ _, by rw [wr_n _ _ (by omega), wr_s]; rfl⟩) (by rw [wr_n _ _ (by omega), wr_n _ _ (by omega)]; exact h27) (fun x j c1 c2 c3 c4 c5 => by rw [wr_n _ _ (by omega), wr_n _ _ (by omega)]))
      | (have ea := erR_1 (b := b) hz9
         refine h0 (by rw [ea]) _ (mB_wr (mB_wr B2 (Or.inr (Or.inl rfl))) (Or.inr (Or.inl rfl))) (by rw [ea]; exact RM_D (RM_cg R2 (fun x j x0 x1 => by rw [wr_n _ _ (by omega), wr_n _ _ (by omega)])) _ _) (by rw [ea]; exact ⟨wr_s _ _ _ _, by rw [wr_n _ _ (by omega), wr_s]; rfl⟩) (by rw [wr_n _ _ (by omega), wr_n _ _ (by omega)]; exact g27) (fun x j c1 c2 c3 c4 c5 => by rw [wr_n _ _ (by omega), wr_n _ _ (by omega)]; exact F2 x j c1 c2 c3 (by omega)))
      | (have ea := erR_2 (b := b) hnz hn1
         have R3 : RM (fSetU (fSpd (fEra (fSpd F) b)) b 1) (wr m3 35 b 1) := RM_er (F := F) (b := b) (v := 1) hR hB (fun _ => rfl) (fun c => erT_U F b c) (fun _ => rfl) (fun i k hi => by rw [erT_N, if_neg hi]) (fun x j x0 x1 => by rw [wr_n _ _ (by omega), uF x j (by omega)]; exact F2 x j (by omega) (by omega) (by omega) (by omega)) (fun c => by rw [wr_n _ _ (by omega), uF 34 c (by omega)]; exact c34 c) (fun c => by
           by_cases z : c = b
           · rw [if_pos z, z, wr_s]
           · rw [if_neg z, wr_n _ _ (by omega), uF 35 c (by omega), c35, if_neg z]) (fun c => by rw [wr_n _ _ (by omega), uF 36 c (by omega)]; exact c36 c)
         rw [wr_n (x := 21) (j := 16) _ _ (by omega), wr_n (x := 21) (j := 16) _ _ (by omega), v16]
         refine h1 (by rw [ea]) _ (mB_wr (mB_wr (mB_wr uB (Or.inr (Or.inr (by decide)))) (Or.inr (Or.inr (by show 0 ≤ b ∧ b ≤ 7; omega)))) (Or.inr (Or.inl rfl))) (by rw [ea]; exact RM_cg R3 (fun x j x0 x1 => by rw [wr_n _ _ (by omega), wr_n _ _ (by omega)])) (by rw [ea]; exact ⟨by rw [wr_n _ _ (by omega), wr_n _ _ (by omega), wr_n _ _ (by omega)]; exact u20, by rw [wr_n _ _ (by omega), wr_n _ _ (by omega), wr_n _ _ (by omega), uF 21 21 (by omega), F2 21 21 (by omega) (by omega) (by omega) (by omega)]; exact hp.2⟩) (by rw [wr_n _ _ (by omega), wr_n _ _ (by omega), wr_n _ _ (by omega), uF 21 27 (by omega)]; exact g27) (fun x j c1 c2 c3 c4 c5 => by rw [wr_n _ _ (by omega), wr_n _ _ (by omega), wr_n _ _ (by omega), uF x j (by omega)]; exact F2 x j c1 c2 c3 (by omega)) (wr_s _ _ _ _) (by rw [wr_n _ _ (by omega), wr_s]))
  · skip
    refine kr_s ?_
    have hnz : fL F ≠ 0 := by omega
    have t20 : wr μ 21 20 (if 0 < μ 21 20 then μ 21 20 - 1 else μ 21 20) 21 20 = fL (fSpd F) := by
      rw [wr_s, hp.1]
      show (if 0 < fL F then fL F - 1 else fL F) = (if fL F < 0 then fL F else fL F - 1)
      by_cases c : fL F < 0
      · rw [if_pos c, if_neg (by omega)]
      · rw [if_neg c, if_pos (by omega)]
    have tF : ∀ x j, ¬ (x = 21 ∧ j = 20) → wr μ 21 20 (if 0 < μ 21 20 then μ 21 20 - 1 else μ 21 20) x j = μ x j := fun x j hx => wr_n _ _ hx
    have tB : mB (wr μ 21 20 (if 0 < μ 21 20 then μ 21 20 - 1 else μ 21 20)) := mB_wr hb (Or.inr (Or.inl rfl))
    generalize wr μ 21 20 (if 0 < μ 21 20 then μ 21 20 - 1 else μ 21 20) = m1 at t20 tF tB ⊢
    refine wq_if_ne (pc := 4) (tgt := 9) dX7_erases_4 (by decide) (by first | (unfold inR; omega) | assumption) (fun _ => ?_) (fun c => absurd c (by decide))
    refine wq_aload_n (pc := 9) dX7_erases_9 rfl rfl ?_
    refine wq_iconst (pc := 10) dX7_erases_10 ?_
    refine wq_putZK (pc := 11) (kk := 27) dX7_erases_11 hs (gf_X7_158 _ rfl) rfl rfl rfl rfl rfl (by first | omega | (simp; done) | assumption) ?_
    refine wq_aload_n (pc := 14) dX7_erases_14 rfl rfl ?_
    refine wq_getS (pc := 15) dX7_erases_15 hs (gf_X7_48 _ rfl) rfl rfl rfl rfl rfl ?_
    refine wq_iload_n (pc := 18) dX7_erases_18 rfl rfl ?_
    refine wq_iconst (pc := 19) dX7_erases_19 ?_
    refine wq_iastK (pc := 20) dX7_erases_20 hs rfl (by omega) (by omega) ?_
    refine wq_aload_n (pc := 21) dX7_erases_21 rfl rfl ?_
    refine wq_getS (pc := 22) dX7_erases_22 hs (gf_X7_51 _ rfl) rfl rfl rfl rfl rfl ?_
    refine wq_iload_n (pc := 25) dX7_erases_25 rfl rfl ?_
    refine wq_iconst (pc := 26) dX7_erases_26 ?_
    refine wq_iastK (pc := 27) dX7_erases_27 hs rfl (by omega) (by omega) ?_
    refine wq_aload_n (pc := 28) dX7_erases_28 rfl rfl ?_
    refine wq_getS (pc := 29) dX7_erases_29 hs (gf_X7_54 _ rfl) rfl rfl rfl rfl rfl ?_
    refine wq_iload_n (pc := 32) dX7_erases_32 rfl rfl ?_
    refine wq_dup2 (pc := 33) dX7_erases_33 rfl rfl ?_
    refine wq_ialdK (pc := 34) dX7_erases_34 hs rfl (by omega) (by omega) ?_
    rw [wr_n (x := 36) _ _ (by omega), wr_n (x := 36) _ _ (by omega), wr_n (x := 36) _ _ (by omega), tF 36 b (by omega), hR36]
    refine wq_iconst (pc := 35) dX7_erases_35 ?_
    refine wq_iadd (pc := 36) dX7_erases_36 ?_
    refine wq_iastK (pc := 37) dX7_erases_37 hs rfl (by omega) (by omega) ?_
    have hspd : -1 ≤ fL (fSpd F) ∧ fL (fSpd F) ≤ 1000 := by
      show -1 ≤ (if fL F < 0 then fL F else fL F - 1) ∧ (if fL F < 0 then fL F else fL F - 1) ≤ 1000
      split <;> omega
    have hspd1 : fL (fSpd F) = 0 → fL F = 1 := fun z => by
      have z : (if fL F < 0 then fL F else fL F - 1) = 0 := z
      split at z <;> omega
    have hspd0 : fL F = 1 → fL (fSpd F) = 0 := fun z => by
      show (if fL F < 0 then fL F else fL F - 1) = 0
      rw [if_neg (by omega)]; omega
    have g20 : (wr (wr (wr (wr m1 21 27 0) 34 b 0) 35 b 0) 36 b (fE F b + 1)) 21 20 = fL (fSpd F) := by rw [wr_n _ _ (by omega), wr_n _ _ (by omega), wr_n _ _ (by omega), wr_n _ _ (by omega)]; exact t20
    have F2 : ∀ x j, x ≠ 34 → x ≠ 35 → x ≠ 36 → ¬ (x = 21 ∧ (j = 20 ∨ j = 27)) → (wr (wr (wr (wr m1 21 27 0) 34 b 0) 35 b 0) 36 b (fE F b + 1)) x j = μ x j := fun x j c1 c2 c3 c4 => by rw [wr_n _ _ (by omega), wr_n _ _ (by omega), wr_n _ _ (by omega), wr_n _ _ (by omega)]; exact tF x j (by omega)
    have g27 : (wr (wr (wr (wr m1 21 27 0) 34 b 0) 35 b 0) 36 b (fE F b + 1)) 21 27 = 0 := by rw [wr_n _ _ (by omega), wr_n _ _ (by omega), wr_n _ _ (by omega), wr_s]
    have c34 : ∀ c, (wr (wr (wr (wr m1 21 27 0) 34 b 0) 35 b 0) 36 b (fE F b + 1)) 34 c = if c = b then 0 else μ 34 c := fun c => by
      rw [wr_n _ _ (by omega), wr_n _ _ (by omega)]
      by_cases z : c = b
      · rw [if_pos z, z, wr_s]
      · rw [if_neg z, wr_n _ _ (by omega), wr_n _ _ (by omega)]; exact tF 34 c (by omega)
    have c35 : ∀ c, (wr (wr (wr (wr m1 21 27 0) 34 b 0) 35 b 0) 36 b (fE F b + 1)) 35 c = if c = b then 0 else μ 35 c := fun c => by
      rw [wr_n _ _ (by omega)]
      by_cases z : c = b
      · rw [if_pos z, z, wr_s]
      · rw [if_neg z, wr_n _ _ (by omega), wr_n _ _ (by omega), wr_n _ _ (by omega)]; exact tF 35 c (by omega)
    have c36 : ∀ c, (wr (wr (wr (wr m1 21 27 0) 34 b 0) 35 b 0) 36 b (fE F b + 1)) 36 c = if c = b then fE F b + 1 else μ 36 c := fun c => by
      by_cases z : c = b
      · rw [if_pos z, z, wr_s]
      · rw [if_neg z, wr_n _ _ (by omega), wr_n _ _ (by omega), wr_n _ _ (by omega), wr_n _ _ (by omega)]; exact tF 36 c (by omega)
    have R2 : RM (fEra (fSpd F) b) (wr (wr (wr (wr m1 21 27 0) 34 b 0) 35 b 0) 36 b (fE F b + 1)) := RM_er (F := F) (b := b) (v := 0) hR hB (fun _ => rfl) (fun _ => rfl) (fun _ => rfl) (fun i k hi => by show (if b * 16 ≤ i ∧ i < b * 16 + 16 then 0 else fN F i k) = _; rw [if_neg hi]) (fun x j x0 x1 => F2 x j (by omega) (by omega) (by omega) (by omega)) c34 c35 c36
    have B2 : mB (wr (wr (wr (wr m1 21 27 0) 34 b 0) 35 b 0) 36 b (fE F b + 1)) := mB_wr (mB_wr (mB_wr (mB_wr tB (Or.inr (Or.inl rfl))) (Or.inr (Or.inr (by decide)))) (Or.inr (Or.inr (by decide)))) (Or.inr (Or.inr (by show 0 ≤ fE F b + 1 ∧ fE F b + 1 ≤ 200000; omega)))
    generalize (wr (wr (wr (wr m1 21 27 0) 34 b 0) 35 b 0) 36 b (fE F b + 1)) = m2 at g20 F2 g27 c34 c35 c36 R2 B2 ⊢
    refine wq_aload_n (pc := 38) dX7_erases_38 rfl rfl ?_
    refine cVK_0 (pc := 39) dX7_erases_39 hs (cw_X7_177 _ rfl) (by decide) rfl ⟨by decide, by decide⟩ (Nat.le_of_ble_eq_true rfl) (sp_X7_spends hs (by rw [g20]; exact hspd.1) (by rw [g20]; exact hspd.2) (fun hz => ?_) (fun hz => ?_))
    · skip
      refine kr_s ?_
      have hz9 : fL F = 1 := by rw [g20] at hz; exact hspd1 hz
      refine wq_if_ne (pc := 42) (tgt := 47) dX7_erases_42 (by decide) (by first | (unfold inR; omega) | assumption) (fun c => absurd c (by decide)) (fun _ => ?_)
      refine wq_iconst (pc := 45) dX7_erases_45 ?_
      refine wq_zret (pc := 46) dX7_erases_46 rfl (by first | omega | (simp; done) | assumption) ?_
      first
        | (have ea := erR_0 (b := b) hz9
           refine h0 (by rw [ea]) _ (mB_wr (mB_wr hb (Or.inr (Or.inl rfl))) (Or.inr (Or.inl rfl))) (by rw [ea]; exact RM_D (RM_cg hR (fun x j x0 x1 => by rw [wr_n _ _ (by omega), wr_n _ _ (by omega)])) _ _) (by rw [ea]; exact ⟨wr_s _ _ _ _, by rw [wr_n _ _ (by omega), wr_s]; rfl⟩) (by rw [wr_n _ _ (by omega), wr_n _ _ (by omega)]; exact h27) (fun x j c1 c2 c3 c4 c5 => by rw [wr_n _ _ (by omega), wr_n _ _ (by omega)]))
        | (have ea := erR_1 (b := b) hz9
           refine h0 (by rw [ea]) _ (mB_wr (mB_wr B2 (Or.inr (Or.inl rfl))) (Or.inr (Or.inl rfl))) (by rw [ea]; exact RM_D (RM_cg R2 (fun x j x0 x1 => by rw [wr_n _ _ (by omega), wr_n _ _ (by omega)])) _ _) (by rw [ea]; exact ⟨wr_s _ _ _ _, by rw [wr_n _ _ (by omega), wr_s]; rfl⟩) (by rw [wr_n _ _ (by omega), wr_n _ _ (by omega)]; exact g27) (fun x j c1 c2 c3 c4 c5 => by rw [wr_n _ _ (by omega), wr_n _ _ (by omega)]; exact F2 x j c1 c2 c3 (by omega)))
        | (have ea := erR_2 (b := b) hnz hn1
           have R3 : RM (fSetU (fSpd (fEra (fSpd F) b)) b 1) (wr m3 35 b 1) := RM_er (F := F) (b := b) (v := 1) hR hB (fun _ => rfl) (fun c => erT_U F b c) (fun _ => rfl) (fun i k hi => by rw [erT_N, if_neg hi]) (fun x j x0 x1 => by rw [wr_n _ _ (by omega), uF x j (by omega)]; exact F2 x j (by omega) (by omega) (by omega) (by omega)) (fun c => by rw [wr_n _ _ (by omega), uF 34 c (by omega)]; exact c34 c) (fun c => by
             by_cases z : c = b
             · rw [if_pos z, z, wr_s]
             · rw [if_neg z, wr_n _ _ (by omega), uF 35 c (by omega), c35, if_neg z]) (fun c => by rw [wr_n _ _ (by omega), uF 36 c (by omega)]; exact c36 c)
           rw [wr_n (x := 21) (j := 16) _ _ (by omega), wr_n (x := 21) (j := 16) _ _ (by omega), v16]
           refine h1 (by rw [ea]) _ (mB_wr (mB_wr (mB_wr uB (Or.inr (Or.inr (by decide)))) (Or.inr (Or.inr (by show 0 ≤ b ∧ b ≤ 7; omega)))) (Or.inr (Or.inl rfl))) (by rw [ea]; exact RM_cg R3 (fun x j x0 x1 => by rw [wr_n _ _ (by omega), wr_n _ _ (by omega)])) (by rw [ea]; exact ⟨by rw [wr_n _ _ (by omega), wr_n _ _ (by omega), wr_n _ _ (by omega)]; exact u20, by rw [wr_n _ _ (by omega), wr_n _ _ (by omega), wr_n _ _ (by omega), uF 21 21 (by omega), F2 21 21 (by omega) (by omega) (by omega) (by omega)]; exact hp.2⟩) (by rw [wr_n _ _ (by omega), wr_n _ _ (by omega), wr_n _ _ (by omega), uF 21 27 (by omega)]; exact g27) (fun x j c1 c2 c3 c4 c5 => by rw [wr_n _ _ (by omega), wr_n _ _ (by omega), wr_n _ _ (by omega), uF x j (by omega)]; exact F2 x j c1 c2 c3 (by omega)) (wr_s _ _ _ _) (by rw [wr_n _ _ (by omega), wr_s]))
    · skip
      refine kr_s ?_
      have hn1 : fL F ≠ 1 := fun z => hz (by rw [g20]; exact hspd0 z)
      have u20 : wr m2 21 20 (if 0 < m2 21 20 then m2 21 20 - 1 else m2 21 20) 21 20 = fL (fSpd (fEra (fSpd F) b)) := by
        rw [wr_s, g20]
        show (if 0 < fL (fSpd F) then fL (fSpd F) - 1 else fL (fSpd F)) = (if fL (fSpd F) < 0 then fL (fSpd F) else fL (fSpd F) - 1)
        by_cases c : fL (fSpd F) < 0
        · rw [if_pos c, if_neg (by omega)]
        · have : fL (fSpd F) ≠ 0 := fun z => hn1 (hspd1 z)
          rw [if_neg c, if_pos (by omega)]
      have uF : ∀ x j, ¬ (x = 21 ∧ j = 20) → wr m2 21 20 (if 0 < m2 21 20 then m2 21 20 - 1 else m2 21 20) x j = m2 x j := fun x j hx => wr_n _ _ hx
      have uB : mB (wr m2 21 20 (if 0 < m2 21 20 then m2 21 20 - 1 else m2 21 20)) := mB_wr B2 (Or.inr (Or.inl rfl))
      generalize wr m2 21 20 (if 0 < m2 21 20 then m2 21 20 - 1 else m2 21 20) = m3 at u20 uF uB ⊢
      have v16 : m3 21 16 = μ 21 16 := by rw [uF 21 16 (by omega)]; exact F2 21 16 (by omega) (by omega) (by omega) (by omega)
      refine wq_if_ne (pc := 42) (tgt := 47) dX7_erases_42 (by decide) (by first | (unfold inR; omega) | assumption) (fun _ => ?_) (fun c => absurd c (by decide))
      refine wq_aload_n (pc := 47) dX7_erases_47 rfl rfl ?_
      refine wq_getS (pc := 48) dX7_erases_48 hs (gf_X7_51 _ rfl) rfl rfl rfl rfl rfl ?_
      refine wq_iload_n (pc := 51) dX7_erases_51 rfl rfl ?_
      refine wq_iconst (pc := 52) dX7_erases_52 ?_
      refine wq_iastK (pc := 53) dX7_erases_53 hs rfl (by omega) (by omega) ?_
      refine wq_aload_n (pc := 54) dX7_erases_54 rfl rfl ?_
      refine wq_getS (pc := 55) dX7_erases_55 hs (gf_X7_57 _ rfl) rfl rfl rfl rfl rfl ?_
      refine wq_aload_n (pc := 58) dX7_erases_58 rfl rfl ?_
      refine wq_getIK (pc := 59) (kk := 16) dX7_erases_59 hs (gf_X7_114 _ rfl) rfl rfl rfl rfl ?_
      rw [wr_n (x := 21) (j := 16) _ _ (by omega), v16]
      refine wq_iload_n (pc := 62) dX7_erases_62 rfl rfl ?_
      refine wq_iastK (pc := 63) dX7_erases_63 hs rfl (by omega) (by omega) ?_
      refine wq_aload_n (pc := 64) dX7_erases_64 rfl rfl ?_
      refine wq_dup (pc := 65) dX7_erases_65 rfl ?_
      refine wq_getIK (pc := 66) (kk := 16) dX7_erases_66 hs (gf_X7_114 _ rfl) rfl rfl rfl rfl ?_
      refine wq_iconst (pc := 69) dX7_erases_69 ?_
      refine wq_iadd (pc := 70) dX7_erases_70 ?_
      refine wq_putIK (pc := 71) (kk := 16) dX7_erases_71 hs (gf_X7_114 _ rfl) rfl rfl rfl rfl rfl ?_
      refine wq_iconst (pc := 74) dX7_erases_74 ?_
      refine wq_zret (pc := 75) dX7_erases_75 rfl (by first | omega | (simp; done) | assumption) ?_
      first
        | (have ea := erR_0 (b := b) hz9
           refine h0 (by rw [ea]) _ (mB_wr (mB_wr hb (Or.inr (Or.inl rfl))) (Or.inr (Or.inl rfl))) (by rw [ea]; exact RM_D (RM_cg hR (fun x j x0 x1 => by rw [wr_n _ _ (by omega), wr_n _ _ (by omega)])) _ _) (by rw [ea]; exact ⟨wr_s _ _ _ _, by rw [wr_n _ _ (by omega), wr_s]; rfl⟩) (by rw [wr_n _ _ (by omega), wr_n _ _ (by omega)]; exact h27) (fun x j c1 c2 c3 c4 c5 => by rw [wr_n _ _ (by omega), wr_n _ _ (by omega)]))
        | (have ea := erR_1 (b := b) hz9
           refine h0 (by rw [ea]) _ (mB_wr (mB_wr B2 (Or.inr (Or.inl rfl))) (Or.inr (Or.inl rfl))) (by rw [ea]; exact RM_D (RM_cg R2 (fun x j x0 x1 => by rw [wr_n _ _ (by omega), wr_n _ _ (by omega)])) _ _) (by rw [ea]; exact ⟨wr_s _ _ _ _, by rw [wr_n _ _ (by omega), wr_s]; rfl⟩) (by rw [wr_n _ _ (by omega), wr_n _ _ (by omega)]; exact g27) (fun x j c1 c2 c3 c4 c5 => by rw [wr_n _ _ (by omega), wr_n _ _ (by omega)]; exact F2 x j c1 c2 c3 (by omega)))
        | (have ea := erR_2 (b := b) hnz hn1
           have R3 : RM (fSetU (fSpd (fEra (fSpd F) b)) b 1) (wr m3 35 b 1) := RM_er (F := F) (b := b) (v := 1) hR hB (fun _ => rfl) (fun c => erT_U F b c) (fun _ => rfl) (fun i k hi => by rw [erT_N, if_neg hi]) (fun x j x0 x1 => by rw [wr_n _ _ (by omega), uF x j (by omega)]; exact F2 x j (by omega) (by omega) (by omega) (by omega)) (fun c => by rw [wr_n _ _ (by omega), uF 34 c (by omega)]; exact c34 c) (fun c => by
             by_cases z : c = b
             · rw [if_pos z, z, wr_s]
             · rw [if_neg z, wr_n _ _ (by omega), uF 35 c (by omega), c35, if_neg z]) (fun c => by rw [wr_n _ _ (by omega), uF 36 c (by omega)]; exact c36 c)
           rw [wr_n (x := 21) (j := 16) _ _ (by omega), wr_n (x := 21) (j := 16) _ _ (by omega), v16]
           refine h1 (by rw [ea]) _ (mB_wr (mB_wr (mB_wr uB (Or.inr (Or.inr (by decide)))) (Or.inr (Or.inr (by show 0 ≤ b ∧ b ≤ 7; omega)))) (Or.inr (Or.inl rfl))) (by rw [ea]; exact RM_cg R3 (fun x j x0 x1 => by rw [wr_n _ _ (by omega), wr_n _ _ (by omega)])) (by rw [ea]; exact ⟨by rw [wr_n _ _ (by omega), wr_n _ _ (by omega), wr_n _ _ (by omega)]; exact u20, by rw [wr_n _ _ (by omega), wr_n _ _ (by omega), wr_n _ _ (by omega), uF 21 21 (by omega), F2 21 21 (by omega) (by omega) (by omega) (by omega)]; exact hp.2⟩) (by rw [wr_n _ _ (by omega), wr_n _ _ (by omega), wr_n _ _ (by omega), uF 21 27 (by omega)]; exact g27) (fun x j c1 c2 c3 c4 c5 => by rw [wr_n _ _ (by omega), wr_n _ _ (by omega), wr_n _ _ (by omega), uF x j (by omega)]; exact F2 x j c1 c2 c3 (by omega)) (wr_s _ _ _ _) (by rw [wr_n _ _ (by omega), wr_s]))
