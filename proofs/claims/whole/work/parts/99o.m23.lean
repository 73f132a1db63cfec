/-! ### more questions of the reference -/
theorem BY_b {F : Fl} (f p : Int) : 0 ≤ BY F f p ∧ BY F f p ≤ 255 := by
  unfold BY qByt
  split
  · exact ⟨by decide, by decide⟩
  · unfold fByteFor
    split
    · rename_i q
      have hx : ∀ x : Int, 0 ≤ iAnd x 255 ∧ iAnd x 255 ≤ 255 := fun x => by
        have e : iAnd x 255 = (((Int32.ofInt x).toBitVec.setWidth 8).toNat : Int) := by
          unfold iAnd
          show (Int32.ofInt x &&& Int32.ofInt 255).toBitVec.toInt = _
          rw [Int32.toBitVec_and]
          exact nA255_32 _
        have := ((Int32.ofInt x).toBitVec.setWidth 8).isLt
        omega
      exact hx _
    · exact ⟨by decide, by decide⟩
theorem lk_b (F : Fl) (n : Int) : 0 ≤ ((lk (TG F) (TD F) n 2048 : Nat) : Int) := by omega
theorem qNew_N {F F' : Fl} (hN : ∀ i k, fN F' i k = fN F i k) (kd nb key below : Int) : ∀ n : Nat, qNew F' kd nb key below n = qNew F kd nb key below n
  | 0 => rfl
  | n + 1 => by
    rw [qNew_s, qNew_s, qNew_N hN kd nb key below n]
    unfold rT rS
    simp only [hN]
theorem told_N {F F' : Fl} (hN : ∀ i k, fN F' i k = fN F i k) : TG F' = TG F ∧ TD F' = TD F ∧ LN F' = LN F ∧ BY F' = BY F ∧ OW F' = OW F := by
  refine ⟨funext fun d => funext fun nm => ?_, funext fun d => funext fun nm => ?_, funext fun f => ?_, funext fun f => funext fun p => ?_, funext fun f => funext fun p => ?_⟩
  · unfold TG qTgt
    rw [qNew_N hN]
    simp only [hN]
  · unfold TD
    rw [qNew_N hN]
    simp only [hN]
  · unfold LN
    rw [qNew_N hN]
    simp only [hN]
  · unfold BY qByt fByteFor
    rw [qNew_N hN]
    simp only [hN]
  · unfold OW qOw
    rw [qNew_N hN]
    simp only [hN]
theorem LE_N {F F' : Fl} {w : Int} {μ : nMem} (hN : ∀ i k, fN F' i k = fN F i k) (h : LE F w μ) : LE F' w μ := by
  obtain ⟨t1, t2, t3, t4, t5⟩ := told_N hN
  obtain ⟨el, fl, h1, h2, h3, h4, h5, h6, h7, h8⟩ := h
  refine ⟨el, fl, h1, h2, h3, h4, h5, fun P => ?_, fun f => ?_, fun i hi => ?_⟩
  · rw [h6 P]
    refine cR_cg 128 (fun r _ _ => ?_)
    have e1 : asgR F' r ↔ asgR F r := by
      unfold asgR rT rnAsg
      rw [qNew_N hN]
      simp only [hN]
    have e2 : thDf F' (fN F' r 3) ↔ thDf F (fN F r 3) := by
      unfold thDf
      rw [t1, t2, hN]
    have e3 : eP F' r = eP F r := by
      unfold eP
      simp only [hN]
    rw [e3]
    exact and_congr (and_congr e1.symm e2.symm) Iff.rfl
  · rw [h7 f]
    unfold thFf
    rw [t1, t2]
  · have := h8 i hi
    unfold CO at this ⊢
    rw [t3, t4, t5]; exact this
theorem PrM_N {F F' : Fl} {μ : nMem} (hN : ∀ i k, fN F' i k = fN F i k) (h : PrM F μ) : PrM F' μ := fun i i0 i1 => by
  have := h i i0 i1
  unfold rW at this ⊢
  simp only [hN]
  exact this
theorem LD_N {F F' : Fl} {μ : nMem} (hN : ∀ i k, fN F' i k = fN F i k) (h : LD F μ) : LD F' μ := by
  rcases h with h | ⟨h1, h2, h3⟩
  · exact Or.inl h
  · exact Or.inr ⟨h1, LE_N hN h2, PrM_N hN h3⟩
theorem CM_21 {A : AS} {μ : nMem} {ε : nEnv} {u : Int} (h : CM A μ ε) : CM (fSetL (aF A) u, aG A, aX A, aD A, aN A) (wr μ 21 20 u) ε := by
  obtain ⟨a, b, c⟩ := h
  refine ⟨⟨a.1, mB_wr a.2.1 (Or.inr (Or.inl rfl)), RM_D (F := aF A) (RM_cg a.2.2.1 (fun x j x0 x1 => wr_n _ _ (by omega))) u (fD (aF A)), LD_N (F := aF A) (fun _ _ => rfl) (LD_cg a.2.2.2 (fun x j hx => wr_n _ _ (by omega)))⟩, ⟨wr_s _ _ _ _, by rw [wr_n _ _ (by omega)]; exact b.2⟩, fun q => ?_⟩
  obtain ⟨c1, c2, c3⟩ := c q
  refine ⟨GM_cg c1 (fun y i hy => wr_n _ _ (by omega)), by rw [wr_n _ _ (by omega)]; exact c2, fun n n0 n1 => ?_⟩
  rw [wr_n _ _ (by omega), wr_n _ _ (by omega)]; exact c3 n n0 n1
theorem sp_X7_hasNumber {μ : nMem} {ε : nEnv} {Q : nOut → nMem → nEnv → Prop} {A : AS} {nb vb n9 : Int} (hC : CM A μ ε) (hO : AOK A nb vb) (r1 : inR n9) (h1 : fD (aF A) = 0 → (isDr A n9 ∨ isFl A n9) → ∀ m, CM A m ε → FrM μ m → m 21 25 = 0 → Q (.inl (some (vI 1))) m ε) (h0 : ∀ m, CM A m ε → FrM μ m → (dk A ∧ m 21 25 = 2) ∨ (¬ dk A ∧ ¬ (isDr A n9 ∨ isFl A n9) ∧ m 21 25 = 1) → Q (.inl (some (vI 0))) m ε) : Sp mX7_hasNumber [vR 21, vI n9] μ ε Q := by
  refine Sp_of (L := [(0, vR 21), (1, vI n9)]) (by decide) rfl rfl (Nat.le_of_ble_eq_true rfl) ?_
  have hs := hC.1.1
  have q21 := hC.2.1.2
  have hD := hO.2.1
  have r21 : inR (μ 21 21) := by unfold inR; omega
  
  refine wq_aload_n (pc := 0) dX7_hasNumber_0 rfl rfl ?_
  refine wq_aload_n (pc := 1) dX7_hasNumber_1 rfl rfl ?_
  refine wq_getIK (pc := 2) (kk := 21) dX7_hasNumber_2 hs (gf_X7_174 _ rfl) rfl rfl rfl rfl ?_
  refine wq_if_eq (pc := 5) (tgt := 12) dX7_hasNumber_5 (by decide) (by first | (unfold inR; omega) | assumption) (fun c1 => ?_) (fun c1 => ?_)
  · skip
    refine wq_aload_n (pc := 12) dX7_hasNumber_12 rfl rfl ?_
    refine wq_iload_n (pc := 13) dX7_hasNumber_13 rfl rfl ?_
    refine cVK_1 (pc := 14) dX7_hasNumber_14 hs (cw_X7_213 _ rfl) (by decide) rfl ⟨by decide, by decide⟩ (Nat.le_of_ble_eq_true rfl) (sp_X7_hasDirectory hC.1 (AOK_KP hO) r1 (fun hdir m1 K1 Y1 => ?_) (fun hdir m1 K1 Y1 => ?_))
    · skip
      refine kr_s ?_
      have hdir9 := hdir
      have C1 := CM_Y hC K1.1 Y1
      have F1 := FrM_Y Y1
      refine wq_if_ne (pc := 17) (tgt := 33) dX7_hasNumber_17 (by decide) (by first | (unfold inR; omega) | assumption) (fun _ => ?_) (fun c => absurd c (by decide))
      refine wq_iconst (pc := 33) dX7_hasNumber_33 ?_
      refine wq_putIK (pc := 34) (kk := 25) dX7_hasNumber_34 hs (gf_X7_127 _ rfl) rfl rfl rfl rfl rfl ?_
      refine wq_aload_n (pc := 37) dX7_hasNumber_37 rfl rfl ?_
      refine wq_getIK (pc := 38) (kk := 25) dX7_hasNumber_38 hs (gf_X7_127 _ rfl) rfl rfl rfl rfl ?_
      rw [wr_s]
      refine wq_if_ne (pc := 41) (tgt := 48) dX7_hasNumber_41 (by decide) (by first | (unfold inR; omega) | assumption) (fun c5 => ?_) (fun c5 => ?_)
      · skip
        refine wq_iconst (pc := 48) dX7_hasNumber_48 ?_
        refine wq_zret (pc := 49) dX7_hasNumber_49 rfl (by first | omega | (simp; done) | assumption) ?_
        first
          | (exfalso; omega)
          | exact h1 (by omega) (Or.inl hdir9) _ (CM_25 C1) (FrM_t F1 (FrM_w (by omega))) (wr_s _ _ _ _)
          | exact h1 (by omega) (Or.inr hfil9) _ (CM_25 C2) (FrM_t F2 (FrM_w (by omega))) (wr_s _ _ _ _)
          | exact h0 _ (CM_25 C2) (FrM_t F2 (FrM_w (by omega))) (Or.inr ⟨by omega, fun z => z.elim hdir9 hfil9, wr_s _ _ _ _⟩)
          | exact h0 _ (CM_25 hC) (FrM_w (by omega)) (Or.inl ⟨by omega, wr_s _ _ _ _⟩)
      · skip
        refine wq_iconst (pc := 44) dX7_hasNumber_44 ?_
        refine wq_goto (pc := 45) (tgt := 49) dX7_hasNumber_45 (by decide) ?_
        refine wq_zret (pc := 49) dX7_hasNumber_49 rfl (by first | omega | (simp; done) | assumption) ?_
        first
          | (exfalso; omega)
          | exact h1 (by omega) (Or.inl hdir9) _ (CM_25 C1) (FrM_t F1 (FrM_w (by omega))) (wr_s _ _ _ _)
          | exact h1 (by omega) (Or.inr hfil9) _ (CM_25 C2) (FrM_t F2 (FrM_w (by omega))) (wr_s _ _ _ _)
          | exact h0 _ (CM_25 C2) (FrM_t F2 (FrM_w (by omega))) (Or.inr ⟨by omega, fun z => z.elim hdir9 hfil9, wr_s _ _ _ _⟩)
          | exact h0 _ (CM_25 hC) (FrM_w (by omega)) (Or.inl ⟨by omega, wr_s _ _ _ _⟩)
    · skip
      refine kr_s ?_
      have hdir9 := hdir
      have C1 := CM_Y hC K1.1 Y1
      have F1 := FrM_Y Y1
      refine wq_if_ne (pc := 17) (tgt := 33) dX7_hasNumber_17 (by decide) (by first | (unfold inR; omega) | assumption) (fun c => absurd c (by decide)) (fun _ => ?_)
      refine wq_aload_n (pc := 20) dX7_hasNumber_20 rfl rfl ?_
      refine wq_iload_n (pc := 21) dX7_hasNumber_21 rfl rfl ?_
      refine cVK_1 (pc := 22) dX7_hasNumber_22 hs (cw_X7_233 _ rfl) (by decide) rfl ⟨by decide, by decide⟩ (Nat.le_of_ble_eq_true rfl) (sp_X7_fileAt C1.1 (AOK_KP hO) r1 (fun hfil m2 a K2 Y2 a0 a1 q46 co => ?_) (fun hfil m2 K2 Y2 => ?_))
      · skip
        refine kr_s ?_
        have hfil9 := hfil
        have ra : inR a := by unfold inR; omega
        have C2 := CM_Y C1 K2.1 Y2
        have F2 := FrM_t F1 (FrM_Y Y2)
        refine wq_iconst (pc := 25) dX7_hasNumber_25 ?_
        refine wq_icmp_ne (pc := 26) (tgt := 33) dX7_hasNumber_26 (by decide) (by first | (unfold inR; omega) | assumption) (by first | (unfold inR; omega) | assumption) (fun c9 => ?_) (fun c9 => ?_)
        · skip
          refine wq_iconst (pc := 33) dX7_hasNumber_33 ?_
          refine wq_putIK (pc := 34) (kk := 25) dX7_hasNumber_34 hs (gf_X7_127 _ rfl) rfl rfl rfl rfl rfl ?_
          refine wq_aload_n (pc := 37) dX7_hasNumber_37 rfl rfl ?_
          refine wq_getIK (pc := 38) (kk := 25) dX7_hasNumber_38 hs (gf_X7_127 _ rfl) rfl rfl rfl rfl ?_
          rw [wr_s]
          refine wq_if_ne (pc := 41) (tgt := 48) dX7_hasNumber_41 (by decide) (by first | (unfold inR; omega) | assumption) (fun c10 => ?_) (fun c10 => ?_)
          · skip
            refine wq_iconst (pc := 48) dX7_hasNumber_48 ?_
            refine wq_zret (pc := 49) dX7_hasNumber_49 rfl (by first | omega | (simp; done) | assumption) ?_
            first
              | (exfalso; omega)
              | exact h1 (by omega) (Or.inl hdir9) _ (CM_25 C1) (FrM_t F1 (FrM_w (by omega))) (wr_s _ _ _ _)
              | exact h1 (by omega) (Or.inr hfil9) _ (CM_25 C2) (FrM_t F2 (FrM_w (by omega))) (wr_s _ _ _ _)
              | exact h0 _ (CM_25 C2) (FrM_t F2 (FrM_w (by omega))) (Or.inr ⟨by omega, fun z => z.elim hdir9 hfil9, wr_s _ _ _ _⟩)
              | exact h0 _ (CM_25 hC) (FrM_w (by omega)) (Or.inl ⟨by omega, wr_s _ _ _ _⟩)
          · skip
            refine wq_iconst (pc := 44) dX7_hasNumber_44 ?_
            refine wq_goto (pc := 45) (tgt := 49) dX7_hasNumber_45 (by decide) ?_
            refine wq_zret (pc := 49) dX7_hasNumber_49 rfl (by first | omega | (simp; done) | assumption) ?_
            first
              | (exfalso; omega)
              | exact h1 (by omega) (Or.inl hdir9) _ (CM_25 C1) (FrM_t F1 (FrM_w (by omega))) (wr_s _ _ _ _)
              | exact h1 (by omega) (Or.inr hfil9) _ (CM_25 C2) (FrM_t F2 (FrM_w (by omega))) (wr_s _ _ _ _)
              | exact h0 _ (CM_25 C2) (FrM_t F2 (FrM_w (by omega))) (Or.inr ⟨by omega, fun z => z.elim hdir9 hfil9, wr_s _ _ _ _⟩)
              | exact h0 _ (CM_25 hC) (FrM_w (by omega)) (Or.inl ⟨by omega, wr_s _ _ _ _⟩)
        · skip
          refine wq_iconst (pc := 29) dX7_hasNumber_29 ?_
          refine wq_goto (pc := 30) (tgt := 34) dX7_hasNumber_30 (by decide) ?_
          refine wq_putIK (pc := 34) (kk := 25) dX7_hasNumber_34 hs (gf_X7_127 _ rfl) rfl rfl rfl rfl rfl ?_
          refine wq_aload_n (pc := 37) dX7_hasNumber_37 rfl rfl ?_
          refine wq_getIK (pc := 38) (kk := 25) dX7_hasNumber_38 hs (gf_X7_127 _ rfl) rfl rfl rfl rfl ?_
          rw [wr_s]
          refine wq_if_ne (pc := 41) (tgt := 48) dX7_hasNumber_41 (by decide) (by first | (unfold inR; omega) | assumption) (fun c11 => ?_) (fun c11 => ?_)
          · skip
            refine wq_iconst (pc := 48) dX7_hasNumber_48 ?_
            refine wq_zret (pc := 49) dX7_hasNumber_49 rfl (by first | omega | (simp; done) | assumption) ?_
            first
              | (exfalso; omega)
              | exact h1 (by omega) (Or.inl hdir9) _ (CM_25 C1) (FrM_t F1 (FrM_w (by omega))) (wr_s _ _ _ _)
              | exact h1 (by omega) (Or.inr hfil9) _ (CM_25 C2) (FrM_t F2 (FrM_w (by omega))) (wr_s _ _ _ _)
              | exact h0 _ (CM_25 C2) (FrM_t F2 (FrM_w (by omega))) (Or.inr ⟨by omega, fun z => z.elim hdir9 hfil9, wr_s _ _ _ _⟩)
              | exact h0 _ (CM_25 hC) (FrM_w (by omega)) (Or.inl ⟨by omega, wr_s _ _ _ _⟩)
          · skip
            refine wq_iconst (pc := 44) dX7_hasNumber_44 ?_
            refine wq_goto (pc := 45) (tgt := 49) dX7_hasNumber_45 (by decide) ?_
            refine wq_zret (pc := 49) dX7_hasNumber_49 rfl (by first | omega | (simp; done) | assumption) ?_
            first
              | (exfalso; omega)
              | exact h1 (by omega) (Or.inl hdir9) _ (CM_25 C1) (FrM_t F1 (FrM_w (by omega))) (wr_s _ _ _ _)
              | exact h1 (by omega) (Or.inr hfil9) _ (CM_25 C2) (FrM_t F2 (FrM_w (by omega))) (wr_s _ _ _ _)
              | exact h0 _ (CM_25 C2) (FrM_t F2 (FrM_w (by omega))) (Or.inr ⟨by omega, fun z => z.elim hdir9 hfil9, wr_s _ _ _ _⟩)
              | exact h0 _ (CM_25 hC) (FrM_w (by omega)) (Or.inl ⟨by omega, wr_s _ _ _ _⟩)
      · skip
        refine kr_s ?_
        have hfil9 := hfil
        have C2 := CM_Y C1 K2.1 Y2
        have F2 := FrM_t F1 (FrM_Y Y2)
        refine wq_iconst (pc := 25) dX7_hasNumber_25 ?_
        refine wq_icmp_ne (pc := 26) (tgt := 33) dX7_hasNumber_26 (by decide) (by first | (unfold inR; omega) | assumption) (by first | (unfold inR; omega) | assumption) (fun c12 => ?_) (fun c12 => ?_)
        · skip
          refine wq_iconst (pc := 33) dX7_hasNumber_33 ?_
          refine wq_putIK (pc := 34) (kk := 25) dX7_hasNumber_34 hs (gf_X7_127 _ rfl) rfl rfl rfl rfl rfl ?_
          refine wq_aload_n (pc := 37) dX7_hasNumber_37 rfl rfl ?_
          refine wq_getIK (pc := 38) (kk := 25) dX7_hasNumber_38 hs (gf_X7_127 _ rfl) rfl rfl rfl rfl ?_
          rw [wr_s]
          refine wq_if_ne (pc := 41) (tgt := 48) dX7_hasNumber_41 (by decide) (by first | (unfold inR; omega) | assumption) (fun c13 => ?_) (fun c13 => ?_)
          · skip
            refine wq_iconst (pc := 48) dX7_hasNumber_48 ?_
            refine wq_zret (pc := 49) dX7_hasNumber_49 rfl (by first | omega | (simp; done) | assumption) ?_
            first
              | (exfalso; omega)
              | exact h1 (by omega) (Or.inl hdir9) _ (CM_25 C1) (FrM_t F1 (FrM_w (by omega))) (wr_s _ _ _ _)
              | exact h1 (by omega) (Or.inr hfil9) _ (CM_25 C2) (FrM_t F2 (FrM_w (by omega))) (wr_s _ _ _ _)
              | exact h0 _ (CM_25 C2) (FrM_t F2 (FrM_w (by omega))) (Or.inr ⟨by omega, fun z => z.elim hdir9 hfil9, wr_s _ _ _ _⟩)
              | exact h0 _ (CM_25 hC) (FrM_w (by omega)) (Or.inl ⟨by omega, wr_s _ _ _ _⟩)
          · skip
            refine wq_iconst (pc := 44) dX7_hasNumber_44 ?_
            refine wq_goto (pc := 45) (tgt := 49) dX7_hasNumber_45 (by decide) ?_
            refine wq_zret (pc := 49) dX7_hasNumber_49 rfl (by first | omega | (simp; done) | assumption) ?_
            first
              | (exfalso; omega)
              | exact h1 (by omega) (Or.inl hdir9) _ (CM_25 C1) (FrM_t F1 (FrM_w (by omega))) (wr_s _ _ _ _)
              | exact h1 (by omega) (Or.inr hfil9) _ (CM_25 C2) (FrM_t F2 (FrM_w (by omega))) (wr_s _ _ _ _)
              | exact h0 _ (CM_25 C2) (FrM_t F2 (FrM_w (by omega))) (Or.inr ⟨by omega, fun z => z.elim hdir9 hfil9, wr_s _ _ _ _⟩)
              | exact h0 _ (CM_25 hC) (FrM_w (by omega)) (Or.inl ⟨by omega, wr_s _ _ _ _⟩)
        · skip
          refine wq_iconst (pc := 29) dX7_hasNumber_29 ?_
          refine wq_goto (pc := 30) (tgt := 34) dX7_hasNumber_30 (by decide) ?_
          refine wq_putIK (pc := 34) (kk := 25) dX7_hasNumber_34 hs (gf_X7_127 _ rfl) rfl rfl rfl rfl rfl ?_
          refine wq_aload_n (pc := 37) dX7_hasNumber_37 rfl rfl ?_
          refine wq_getIK (pc := 38) (kk := 25) dX7_hasNumber_38 hs (gf_X7_127 _ rfl) rfl rfl rfl rfl ?_
          rw [wr_s]
          refine wq_if_ne (pc := 41) (tgt := 48) dX7_hasNumber_41 (by decide) (by first | (unfold inR; omega) | assumption) (fun c14 => ?_) (fun c14 => ?_)
          · skip
            refine wq_iconst (pc := 48) dX7_hasNumber_48 ?_
            refine wq_zret (pc := 49) dX7_hasNumber_49 rfl (by first | omega | (simp; done) | assumption) ?_
            first
              | (exfalso; omega)
              | exact h1 (by omega) (Or.inl hdir9) _ (CM_25 C1) (FrM_t F1 (FrM_w (by omega))) (wr_s _ _ _ _)
              | exact h1 (by omega) (Or.inr hfil9) _ (CM_25 C2) (FrM_t F2 (FrM_w (by omega))) (wr_s _ _ _ _)
              | exact h0 _ (CM_25 C2) (FrM_t F2 (FrM_w (by omega))) (Or.inr ⟨by omega, fun z => z.elim hdir9 hfil9, wr_s _ _ _ _⟩)
              | exact h0 _ (CM_25 hC) (FrM_w (by omega)) (Or.inl ⟨by omega, wr_s _ _ _ _⟩)
          · skip
            refine wq_iconst (pc := 44) dX7_hasNumber_44 ?_
            refine wq_goto (pc := 45) (tgt := 49) dX7_hasNumber_45 (by decide) ?_
            refine wq_zret (pc := 49) dX7_hasNumber_49 rfl (by first | omega | (simp; done) | assumption) ?_
            first
              | (exfalso; omega)
              | exact h1 (by omega) (Or.inl hdir9) _ (CM_25 C1) (FrM_t F1 (FrM_w (by omega))) (wr_s _ _ _ _)
              | exact h1 (by omega) (Or.inr hfil9) _ (CM_25 C2) (FrM_t F2 (FrM_w (by omega))) (wr_s _ _ _ _)
              | exact h0 _ (CM_25 C2) (FrM_t F2 (FrM_w (by omega))) (Or.inr ⟨by omega, fun z => z.elim hdir9 hfil9, wr_s _ _ _ _⟩)
              | exact h0 _ (CM_25 hC) (FrM_w (by omega)) (Or.inl ⟨by omega, wr_s _ _ _ _⟩)
  · skip
    refine wq_iconst (pc := 8) dX7_hasNumber_8 ?_
    refine wq_goto (pc := 9) (tgt := 34) dX7_hasNumber_9 (by decide) ?_
    refine wq_putIK (pc := 34) (kk := 25) dX7_hasNumber_34 hs (gf_X7_127 _ rfl) rfl rfl rfl rfl rfl ?_
    refine wq_aload_n (pc := 37) dX7_hasNumber_37 rfl rfl ?_
    refine wq_getIK (pc := 38) (kk := 25) dX7_hasNumber_38 hs (gf_X7_127 _ rfl) rfl rfl rfl rfl ?_
    rw [wr_s]
    refine wq_if_ne (pc := 41) (tgt := 48) dX7_hasNumber_41 (by decide) (by first | (unfold inR; omega) | assumption) (fun c15 => ?_) (fun c15 => ?_)
    · skip
      refine wq_iconst (pc := 48) dX7_hasNumber_48 ?_
      refine wq_zret (pc := 49) dX7_hasNumber_49 rfl (by first | omega | (simp; done) | assumption) ?_
      first
        | (exfalso; omega)
        | exact h1 (by omega) (Or.inl hdir9) _ (CM_25 C1) (FrM_t F1 (FrM_w (by omega))) (wr_s _ _ _ _)
        | exact h1 (by omega) (Or.inr hfil9) _ (CM_25 C2) (FrM_t F2 (FrM_w (by omega))) (wr_s _ _ _ _)
        | exact h0 _ (CM_25 C2) (FrM_t F2 (FrM_w (by omega))) (Or.inr ⟨by omega, fun z => z.elim hdir9 hfil9, wr_s _ _ _ _⟩)
        | exact h0 _ (CM_25 hC) (FrM_w (by omega)) (Or.inl ⟨by omega, wr_s _ _ _ _⟩)
    · skip
      refine wq_iconst (pc := 44) dX7_hasNumber_44 ?_
      refine wq_goto (pc := 45) (tgt := 49) dX7_hasNumber_45 (by decide) ?_
      refine wq_zret (pc := 49) dX7_hasNumber_49 rfl (by first | omega | (simp; done) | assumption) ?_
      first
        | (exfalso; omega)
        | exact h1 (by omega) (Or.inl hdir9) _ (CM_25 C1) (FrM_t F1 (FrM_w (by omega))) (wr_s _ _ _ _)
        | exact h1 (by omega) (Or.inr hfil9) _ (CM_25 C2) (FrM_t F2 (FrM_w (by omega))) (wr_s _ _ _ _)
        | exact h0 _ (CM_25 C2) (FrM_t F2 (FrM_w (by omega))) (Or.inr ⟨by omega, fun z => z.elim hdir9 hfil9, wr_s _ _ _ _⟩)
        | exact h0 _ (CM_25 hC) (FrM_w (by omega)) (Or.inl ⟨by omega, wr_s _ _ _ _⟩)
theorem sp_X7_isDirectory {μ : nMem} {ε : nEnv} {Q : nOut → nMem → nEnv → Prop} {A : AS} {nb vb n9 : Int} (hC : CM A μ ε) (hO : AOK A nb vb) (r1 : inR n9) (h : ∀ m v, CM (actIsDir A n9).2 m ε → FrM μ m → anM (actIsDir A n9).1 [xI, xS] v m → Q (.inl (some (vI v))) m ε) : Sp mX7_isDirectory [vR 21, vI n9] μ ε Q := by
  refine Sp_of (L := [(0, vR 21), (1, vI n9)]) (by decide) rfl rfl (Nat.le_of_ble_eq_true rfl) ?_
  have hs := hC.1.1
  unfold actIsDir at h
  refine wq_aload_n (pc := 0) dX7_isDirectory_0 rfl rfl ?_
  refine wq_iload_n (pc := 1) dX7_isDirectory_1 rfl rfl ?_
  refine cVK_1 (pc := 2) dX7_isDirectory_2 hs (cw_X7_295 _ rfl) (by decide) rfl ⟨by decide, by decide⟩ (Nat.le_of_ble_eq_true rfl) (sp_X7_hasNumber hC hO r1 (fun hd hnum m1 C1 F1 t1 => ?_) (fun m1 C1 F1 t1 => ?_))
  · skip
    refine kr_s ?_
    have hd9 := hd
    refine wq_if_eq (pc := 5) (tgt := 20) dX7_isDirectory_5 (by decide) (by first | (unfold inR; omega) | assumption) (fun c => absurd c (by decide)) (fun _ => ?_)
    refine wq_aload_n (pc := 8) dX7_isDirectory_8 rfl rfl ?_
    refine wq_iload_n (pc := 9) dX7_isDirectory_9 rfl rfl ?_
    refine cVK_1 (pc := 10) dX7_isDirectory_10 hs (cw_X7_213 _ rfl) (by decide) rfl ⟨by decide, by decide⟩ (Nat.le_of_ble_eq_true rfl) (sp_X7_hasDirectory C1.1 (AOK_KP hO) r1 (fun hdir m2 K2 Y2 => ?_) (fun hdir m2 K2 Y2 => ?_))
    · skip
      refine kr_s ?_
      have hdir9 := hdir
      have C2 := CM_Y C1 K2.1 Y2
      have F2 := FrM_t F1 (FrM_Y Y2)
      have t2 : m2 21 25 = 0 := by rw [Y2 21 25 (by omega) (by omega)]; exact t1
      refine wq_if_eq (pc := 13) (tgt := 20) dX7_isDirectory_13 (by decide) (by first | (unfold inR; omega) | assumption) (fun c => absurd c (by decide)) (fun _ => ?_)
      refine wq_iconst (pc := 16) dX7_isDirectory_16 ?_
      refine wq_goto (pc := 17) (tgt := 21) dX7_isDirectory_17 (by decide) ?_
      refine wq_zret (pc := 21) dX7_isDirectory_21 rfl (by first | omega | (simp; done) | assumption) ?_
      first
        | (rw [pI_on hd, pI_0 (fun z => z hnum), pI_1 hdir] at h
           exact h _ _ C2 F2 (anM_v t2))
        | (rw [pI_on hd, pI_0 (fun z => z hnum), pI_0 hdir] at h
           exact h _ _ C2 F2 (anM_v t2))
        | (rcases t1 with ⟨q, t⟩ | ⟨q, q2, t⟩
           · rw [pI_1 q] at h; exact h _ _ C1 F1 (anM_x 1 rfl (by rw [t]; rfl))
           · rw [pI_0 q, pI_1 q2] at h; exact h _ _ C1 F1 (anM_x 0 rfl (by rw [t]; rfl)))
    · skip
      refine kr_s ?_
      have hdir9 := hdir
      have C2 := CM_Y C1 K2.1 Y2
      have F2 := FrM_t F1 (FrM_Y Y2)
      have t2 : m2 21 25 = 0 := by rw [Y2 21 25 (by omega) (by omega)]; exact t1
      refine wq_if_eq (pc := 13) (tgt := 20) dX7_isDirectory_13 (by decide) (by first | (unfold inR; omega) | assumption) (fun _ => ?_) (fun c => absurd c (by decide))
      refine wq_iconst (pc := 20) dX7_isDirectory_20 ?_
      refine wq_zret (pc := 21) dX7_isDirectory_21 rfl (by first | omega | (simp; done) | assumption) ?_
      first
        | (rw [pI_on hd, pI_0 (fun z => z hnum), pI_1 hdir] at h
           exact h _ _ C2 F2 (anM_v t2))
        | (rw [pI_on hd, pI_0 (fun z => z hnum), pI_0 hdir] at h
           exact h _ _ C2 F2 (anM_v t2))
        | (rcases t1 with ⟨q, t⟩ | ⟨q, q2, t⟩
           · rw [pI_1 q] at h; exact h _ _ C1 F1 (anM_x 1 rfl (by rw [t]; rfl))
           · rw [pI_0 q, pI_1 q2] at h; exact h _ _ C1 F1 (anM_x 0 rfl (by rw [t]; rfl)))
  · skip
    refine kr_s ?_
    have t19 := t1
    refine wq_if_eq (pc := 5) (tgt := 20) dX7_isDirectory_5 (by decide) (by first | (unfold inR; omega) | assumption) (fun _ => ?_) (fun c => absurd c (by decide))
    refine wq_iconst (pc := 20) dX7_isDirectory_20 ?_
    refine wq_zret (pc := 21) dX7_isDirectory_21 rfl (by first | omega | (simp; done) | assumption) ?_
    first
      | (rw [pI_on hd, pI_0 (fun z => z hnum), pI_1 hdir] at h
         exact h _ _ C2 F2 (anM_v t2))
      | (rw [pI_on hd, pI_0 (fun z => z hnum), pI_0 hdir] at h
         exact h _ _ C2 F2 (anM_v t2))
      | (rcases t1 with ⟨q, t⟩ | ⟨q, q2, t⟩
         · rw [pI_1 q] at h; exact h _ _ C1 F1 (anM_x 1 rfl (by rw [t]; rfl))
         · rw [pI_0 q, pI_1 q2] at h; exact h _ _ C1 F1 (anM_x 0 rfl (by rw [t]; rfl)))
theorem sp_X7_links {μ : nMem} {ε : nEnv} {Q : nOut → nMem → nEnv → Prop} {A : AS} {nb vb n9 : Int} (hC : CM A μ ε) (hO : AOK A nb vb) (r1 : inR n9) (h : ∀ m v, CM (actLinks A n9).2 m ε → FrM μ m → anM (actLinks A n9).1 [xI, xS] v m → Q (.inl (some (vI v))) m ε) : Sp mX7_links [vR 21, vI n9] μ ε Q := by
  refine Sp_of (L := [(0, vR 21), (1, vI n9)]) (by decide) rfl rfl (Nat.le_of_ble_eq_true rfl) ?_
  have hs := hC.1.1
  unfold actLinks at h
  refine wq_aload_n (pc := 0) dX7_links_0 rfl rfl ?_
  refine wq_iload_n (pc := 1) dX7_links_1 rfl rfl ?_
  refine cVK_1 (pc := 2) dX7_links_2 hs (cw_X7_295 _ rfl) (by decide) rfl ⟨by decide, by decide⟩ (Nat.le_of_ble_eq_true rfl) (sp_X7_hasNumber hC hO r1 (fun hd hnum m1 C1 F1 t1 => ?_) (fun m1 C1 F1 t1 => ?_))
  · skip
    refine kr_s ?_
    have hd9 := hd
    refine wq_if_eq (pc := 5) (tgt := 16) dX7_links_5 (by decide) (by first | (unfold inR; omega) | assumption) (fun c => absurd c (by decide)) (fun _ => ?_)
    refine wq_aload_n (pc := 8) dX7_links_8 rfl rfl ?_
    refine wq_iload_n (pc := 9) dX7_links_9 rfl rfl ?_
    refine cVK_1 (pc := 10) dX7_links_10 hs (cw_X7_237 _ rfl) (by decide) rfl ⟨by decide, by decide⟩ (Nat.le_of_ble_eq_true rfl) (sp_X7_linksOf C1.1 (AOK_KP hO) (by rcases hnum with z | z; have := thD_b (PA_NS (AOK_KP hO).1) z; omega; obtain ⟨fl0, S0, hP0, hT0⟩ := hO.2.2 hd; have := isFl_b hP0 z; omega) r1 (fun m2 K2 Y2 => ?_))
    refine kr_s ?_
    have C2 := CM_Y C1 K2.1 Y2
    have F2 := FrM_t F1 (FrM_Y Y2)
    have t2 : m2 21 25 = 0 := by rw [Y2 21 25 (by omega) (by omega)]; exact t1
    refine wq_goto (pc := 13) (tgt := 17) dX7_links_13 (by decide) ?_
    refine wq_iret (pc := 17) dX7_links_17 rfl ?_
    first
      | (rw [pI_on hd, pI_0 (fun z => z hnum)] at h
         exact h _ _ C2 F2 (anM_v t2))
      | (rcases t1 with ⟨q, t⟩ | ⟨q, q2, t⟩
         · rw [pI_1 q] at h; exact h _ _ C1 F1 (anM_x 1 rfl (by rw [t]; rfl))
         · rw [pI_0 q, pI_1 q2] at h; exact h _ _ C1 F1 (anM_x 0 rfl (by rw [t]; rfl)))
  · skip
    refine kr_s ?_
    have t19 := t1
    refine wq_if_eq (pc := 5) (tgt := 16) dX7_links_5 (by decide) (by first | (unfold inR; omega) | assumption) (fun _ => ?_) (fun c => absurd c (by decide))
    refine wq_iconst (pc := 16) dX7_links_16 ?_
    refine wq_iret (pc := 17) dX7_links_17 rfl ?_
    first
      | (rw [pI_on hd, pI_0 (fun z => z hnum)] at h
         exact h _ _ C2 F2 (anM_v t2))
      | (rcases t1 with ⟨q, t⟩ | ⟨q, q2, t⟩
         · rw [pI_1 q] at h; exact h _ _ C1 F1 (anM_x 1 rfl (by rw [t]; rfl))
         · rw [pI_0 q, pI_1 q2] at h; exact h _ _ C1 F1 (anM_x 0 rfl (by rw [t]; rfl)))
theorem sp_X7_length {μ : nMem} {ε : nEnv} {Q : nOut → nMem → nEnv → Prop} {A : AS} {nb vb f : Int} (hC : CM A μ ε) (hO : AOK A nb vb) (r1 : inR f) (h1 : fD (aF A) = 0 → isFl A f → ∀ m, CM A m ε → FrM μ m → m 21 25 = 0 → Q (.inl (some (vI (LN (aF A) f)))) m ε) (h0 : ∀ m, CM A m ε → FrM μ m → (dk A ∧ m 21 25 = 2) ∨ (¬ dk A ∧ ¬ isFl A f ∧ m 21 25 = 1) → Q (.inl (some (vI 0))) m ε) : Sp mX7_length [vR 21, vI f] μ ε Q := by
  refine Sp_of (L := [(0, vR 21), (1, vI f)]) (by decide) rfl rfl (Nat.le_of_ble_eq_true rfl) ?_
  have hs := hC.1.1
  have q21 := hC.2.1.2
  have hD := hO.2.1
  have r21 : inR (μ 21 21) := by unfold inR; omega
  
  have cut1 : ∀ (m : nMem), (CM A m ε) → (FrM μ m) → (m 21 25 = 0) → (fD (aF A) = 0) → (isFl A f) → wp mX7_length 36 [(0, vR 21), (1, vI f)] [] m ε Q := by
    intro m e0 e1 e2 e3 e4
    have hs := e0.1.1
    refine wq_aload_n (pc := 36) dX7_length_36 rfl rfl ?_
    refine wq_getS (pc := 37) dX7_length_37 hs (gf_X7_87 _ rfl) rfl rfl rfl rfl rfl ?_
    refine wq_aload_n (pc := 40) dX7_length_40 rfl rfl ?_
    refine wq_iload_n (pc := 41) dX7_length_41 rfl rfl ?_
    refine cVK_1 (pc := 42) dX7_length_42 hs (cw_X7_233 _ rfl) (by decide) rfl ⟨by decide, by decide⟩ (Nat.le_of_ble_eq_true rfl) (sp_X7_fileAt e0.1 (AOK_KP hO) r1 (fun hf m5 a K5 Y5 a0 a1 q46 co => ?_) (fun hf m5 K5 Y5 => ?_))
    · skip
      refine kr_s ?_
      have C5 := CM_Y e0 K5.1 Y5
      have F5 := FrM_t e1 (FrM_Y Y5)
      have t5 : m5 21 25 = 0 := by rw [Y5 21 25 (by omega) (by omega)]; exact e2
      refine wq_ialdK (pc := 45) dX7_length_45 hs rfl (by omega) (by omega) ?_
      rw [co.1]
      refine wq_goto (pc := 46) (tgt := 50) dX7_length_46 (by decide) ?_
      refine wq_iret (pc := 50) dX7_length_50 rfl ?_
      first
        | (exact h1 e3 e4 _ C5 F5 t5)
        | (exfalso; omega)
        | exact h0 _ (CM_25 C2) (FrM_t F2 (FrM_w (by omega))) (Or.inr ⟨by omega, hfil9, wr_s _ _ _ _⟩)
        | exact h0 _ (CM_25 hC) (FrM_w (by omega)) (Or.inl ⟨by omega, wr_s _ _ _ _⟩)
    · skip
      exact absurd e4 hf
  refine wq_aload_n (pc := 0) dX7_length_0 rfl rfl ?_
  refine wq_aload_n (pc := 1) dX7_length_1 rfl rfl ?_
  refine wq_getIK (pc := 2) (kk := 21) dX7_length_2 hs (gf_X7_174 _ rfl) rfl rfl rfl rfl ?_
  refine wq_if_eq (pc := 5) (tgt := 12) dX7_length_5 (by decide) (by first | (unfold inR; omega) | assumption) (fun c4 => ?_) (fun c4 => ?_)
  · skip
    refine wq_aload_n (pc := 12) dX7_length_12 rfl rfl ?_
    refine wq_iload_n (pc := 13) dX7_length_13 rfl rfl ?_
    refine cVK_1 (pc := 14) dX7_length_14 hs (cw_X7_233 _ rfl) (by decide) rfl ⟨by decide, by decide⟩ (Nat.le_of_ble_eq_true rfl) (sp_X7_fileAt hC.1 (AOK_KP hO) r1 (fun hfil m2 a K2 Y2 a0 a1 q46 co => ?_) (fun hfil m2 K2 Y2 => ?_))
    · skip
      refine kr_s ?_
      have hfil9 := hfil
      have ra : inR a := by unfold inR; omega
      have C2 := CM_Y hC K2.1 Y2
      have F2 := FrM_Y Y2
      refine wq_iconst (pc := 17) dX7_length_17 ?_
      refine wq_icmp_ne (pc := 18) (tgt := 25) dX7_length_18 (by decide) (by first | (unfold inR; omega) | assumption) (by first | (unfold inR; omega) | assumption) (fun c7 => ?_) (fun c7 => ?_)
      · skip
        refine wq_iconst (pc := 25) dX7_length_25 ?_
        refine wq_putIK (pc := 26) (kk := 25) dX7_length_26 hs (gf_X7_127 _ rfl) rfl rfl rfl rfl rfl ?_
        refine wq_aload_n (pc := 29) dX7_length_29 rfl rfl ?_
        refine wq_getIK (pc := 30) (kk := 25) dX7_length_30 hs (gf_X7_127 _ rfl) rfl rfl rfl rfl ?_
        rw [wr_s]
        refine wq_if_ne (pc := 33) (tgt := 49) dX7_length_33 (by decide) (by first | (unfold inR; omega) | assumption) (fun c8 => ?_) (fun c8 => ?_)
        · skip
          refine wq_iconst (pc := 49) dX7_length_49 ?_
          refine wq_iret (pc := 50) dX7_length_50 rfl ?_
          first
            | (exact h1 e3 e4 _ C5 F5 t5)
            | (exfalso; omega)
            | exact h0 _ (CM_25 C2) (FrM_t F2 (FrM_w (by omega))) (Or.inr ⟨by omega, hfil9, wr_s _ _ _ _⟩)
            | exact h0 _ (CM_25 hC) (FrM_w (by omega)) (Or.inl ⟨by omega, wr_s _ _ _ _⟩)
        · skip
          refine wq_sub1 (L' := [(0, _), (1, _)]) ⟨rfl, rfl, trivial⟩ ?_
          first
            | (exfalso; omega)
            | exact cut1 _ (CM_25 C2) (FrM_t F2 (FrM_w (by omega))) (wr_s _ _ _ _) (by omega) hfil9
      · skip
        refine wq_iconst (pc := 21) dX7_length_21 ?_
        refine wq_goto (pc := 22) (tgt := 26) dX7_length_22 (by decide) ?_
        refine wq_putIK (pc := 26) (kk := 25) dX7_length_26 hs (gf_X7_127 _ rfl) rfl rfl rfl rfl rfl ?_
        refine wq_aload_n (pc := 29) dX7_length_29 rfl rfl ?_
        refine wq_getIK (pc := 30) (kk := 25) dX7_length_30 hs (gf_X7_127 _ rfl) rfl rfl rfl rfl ?_
        rw [wr_s]
        refine wq_if_ne (pc := 33) (tgt := 49) dX7_length_33 (by decide) (by first | (unfold inR; omega) | assumption) (fun c9 => ?_) (fun c9 => ?_)
        · skip
          refine wq_iconst (pc := 49) dX7_length_49 ?_
          refine wq_iret (pc := 50) dX7_length_50 rfl ?_
          first
            | (exact h1 e3 e4 _ C5 F5 t5)
            | (exfalso; omega)
            | exact h0 _ (CM_25 C2) (FrM_t F2 (FrM_w (by omega))) (Or.inr ⟨by omega, hfil9, wr_s _ _ _ _⟩)
            | exact h0 _ (CM_25 hC) (FrM_w (by omega)) (Or.inl ⟨by omega, wr_s _ _ _ _⟩)
        · skip
          refine wq_sub1 (L' := [(0, _), (1, _)]) ⟨rfl, rfl, trivial⟩ ?_
          first
            | (exfalso; omega)
            | exact cut1 _ (CM_25 C2) (FrM_t F2 (FrM_w (by omega))) (wr_s _ _ _ _) (by omega) hfil9
    · skip
      refine kr_s ?_
      have hfil9 := hfil
      have C2 := CM_Y hC K2.1 Y2
      have F2 := FrM_Y Y2
      refine wq_iconst (pc := 17) dX7_length_17 ?_
      refine wq_icmp_ne (pc := 18) (tgt := 25) dX7_length_18 (by decide) (by first | (unfold inR; omega) | assumption) (by first | (unfold inR; omega) | assumption) (fun c10 => ?_) (fun c10 => ?_)
      · skip
        refine wq_iconst (pc := 25) dX7_length_25 ?_
        refine wq_putIK (pc := 26) (kk := 25) dX7_length_26 hs (gf_X7_127 _ rfl) rfl rfl rfl rfl rfl ?_
        refine wq_aload_n (pc := 29) dX7_length_29 rfl rfl ?_
        refine wq_getIK (pc := 30) (kk := 25) dX7_length_30 hs (gf_X7_127 _ rfl) rfl rfl rfl rfl ?_
        rw [wr_s]
        refine wq_if_ne (pc := 33) (tgt := 49) dX7_length_33 (by decide) (by first | (unfold inR; omega) | assumption) (fun c11 => ?_) (fun c11 => ?_)
        · skip
          refine wq_iconst (pc := 49) dX7_length_49 ?_
          refine wq_iret (pc := 50) dX7_length_50 rfl ?_
          first
            | (exact h1 e3 e4 _ C5 F5 t5)
            | (exfalso; omega)
            | exact h0 _ (CM_25 C2) (FrM_t F2 (FrM_w (by omega))) (Or.inr ⟨by omega, hfil9, wr_s _ _ _ _⟩)
            | exact h0 _ (CM_25 hC) (FrM_w (by omega)) (Or.inl ⟨by omega, wr_s _ _ _ _⟩)
        · skip
          refine wq_sub1 (L' := [(0, _), (1, _)]) ⟨rfl, rfl, trivial⟩ ?_
          first
            | (exfalso; omega)
            | exact cut1 _ (CM_25 C2) (FrM_t F2 (FrM_w (by omega))) (wr_s _ _ _ _) (by omega) hfil9
      · skip
        refine wq_iconst (pc := 21) dX7_length_21 ?_
        refine wq_goto (pc := 22) (tgt := 26) dX7_length_22 (by decide) ?_
        refine wq_putIK (pc := 26) (kk := 25) dX7_length_26 hs (gf_X7_127 _ rfl) rfl rfl rfl rfl rfl ?_
        refine wq_aload_n (pc := 29) dX7_length_29 rfl rfl ?_
        refine wq_getIK (pc := 30) (kk := 25) dX7_length_30 hs (gf_X7_127 _ rfl) rfl rfl rfl rfl ?_
        rw [wr_s]
        refine wq_if_ne (pc := 33) (tgt := 49) dX7_length_33 (by decide) (by first | (unfold inR; omega) | assumption) (fun c12 => ?_) (fun c12 => ?_)
        · skip
          refine wq_iconst (pc := 49) dX7_length_49 ?_
          refine wq_iret (pc := 50) dX7_length_50 rfl ?_
          first
            | (exact h1 e3 e4 _ C5 F5 t5)
            | (exfalso; omega)
            | exact h0 _ (CM_25 C2) (FrM_t F2 (FrM_w (by omega))) (Or.inr ⟨by omega, hfil9, wr_s _ _ _ _⟩)
            | exact h0 _ (CM_25 hC) (FrM_w (by omega)) (Or.inl ⟨by omega, wr_s _ _ _ _⟩)
        · skip
          refine wq_sub1 (L' := [(0, _), (1, _)]) ⟨rfl, rfl, trivial⟩ ?_
          first
            | (exfalso; omega)
            | exact cut1 _ (CM_25 C2) (FrM_t F2 (FrM_w (by omega))) (wr_s _ _ _ _) (by omega) hfil9
  · skip
    refine wq_iconst (pc := 8) dX7_length_8 ?_
    refine wq_goto (pc := 9) (tgt := 26) dX7_length_9 (by decide) ?_
    refine wq_putIK (pc := 26) (kk := 25) dX7_length_26 hs (gf_X7_127 _ rfl) rfl rfl rfl rfl rfl ?_
    refine wq_aload_n (pc := 29) dX7_length_29 rfl rfl ?_
    refine wq_getIK (pc := 30) (kk := 25) dX7_length_30 hs (gf_X7_127 _ rfl) rfl rfl rfl rfl ?_
    rw [wr_s]
    refine wq_if_ne (pc := 33) (tgt := 49) dX7_length_33 (by decide) (by first | (unfold inR; omega) | assumption) (fun c13 => ?_) (fun c13 => ?_)
    · skip
      refine wq_iconst (pc := 49) dX7_length_49 ?_
      refine wq_iret (pc := 50) dX7_length_50 rfl ?_
      first
        | (exact h1 e3 e4 _ C5 F5 t5)
        | (exfalso; omega)
        | exact h0 _ (CM_25 C2) (FrM_t F2 (FrM_w (by omega))) (Or.inr ⟨by omega, hfil9, wr_s _ _ _ _⟩)
        | exact h0 _ (CM_25 hC) (FrM_w (by omega)) (Or.inl ⟨by omega, wr_s _ _ _ _⟩)
    · skip
      refine wq_sub1 (L' := [(0, _), (1, _)]) ⟨rfl, rfl, trivial⟩ ?_
      first
        | (exfalso; omega)
        | exact cut1 _ (CM_25 C2) (FrM_t F2 (FrM_w (by omega))) (wr_s _ _ _ _) (by omega) hfil9
theorem sq_X7_length {μ : nMem} {ε : nEnv} {Q : nOut → nMem → nEnv → Prop} {A : AS} {nb vb f : Int} (hC : CM A μ ε) (hO : AOK A nb vb) (r1 : inR f) (h : ∀ m v, CM (actLength A f).2 m ε → FrM μ m → anM (actLength A f).1 [xI, xS] v m → Q (.inl (some (vI v))) m ε) : Sp mX7_length [vR 21, vI f] μ ε Q := by
  unfold actLength qF at h
  refine sp_X7_length hC hO r1 (fun hd hf m1 C1 F1 t1 => ?_) (fun m1 C1 F1 t1 => ?_)
  · rw [pI_on hd, pI_0 (fun z => z hf)] at h
    exact h _ _ C1 F1 (anM_v t1)
  · rcases t1 with ⟨q, t⟩ | ⟨q, q2, t⟩
    · rw [pI_1 q] at h; exact h _ _ C1 F1 (anM_x 1 rfl (by rw [t]; rfl))
    · rw [pI_0 q, pI_1 q2] at h; exact h _ _ C1 F1 (anM_x 0 rfl (by rw [t]; rfl))
theorem sp_X7_byteAt {μ : nMem} {ε : nEnv} {Q : nOut → nMem → nEnv → Prop} {A : AS} {nb vb f p : Int} (hC : CM A μ ε) (hO : AOK A nb vb) (r1 : inR f) (r2 : inR p) (h : ∀ m v, CM (actByteAt A f p).2 m ε → FrM μ m → anM (actByteAt A f p).1 [xI, xS] v m → Q (.inl (some (vI v))) m ε) : Sp mX7_byteAt [vR 21, vI f, vI p] μ ε Q := by
  refine Sp_of (L := [(0, vR 21), (1, vI f), (2, vI p)]) (by decide) rfl rfl (Nat.le_of_ble_eq_true rfl) ?_
  have hs := hC.1.1
  unfold actByteAt qF at h
  have cut1 : ∀ (m : nMem), (CM A m ε) → (FrM μ m) → (m 21 25 = 0) → (fD (aF A) = 0) → (isFl A f) → (0 ≤ p ∧ p < LN (aF A) f) → wp mX7_byteAt 43 [(0, vR 21), (1, vI f), (2, vI p)] [] m ε Q := by
    intro m e0 e1 e2 e3 e4 e5
    have hs := e0.1.1
    refine wq_aload_n (pc := 43) dX7_byteAt_43 rfl rfl ?_
    refine wq_getS (pc := 44) dX7_byteAt_44 hs (gf_X7_93 _ rfl) rfl rfl rfl rfl rfl ?_
    refine wq_bipush (pc := 47) dX7_byteAt_47 (by decide) (by decide) ?_
    refine wq_aload_n (pc := 49) dX7_byteAt_49 rfl rfl ?_
    refine wq_iload_n (pc := 50) dX7_byteAt_50 rfl rfl ?_
    refine cVK_1 (pc := 51) dX7_byteAt_51 hs (cw_X7_233 _ rfl) (by decide) rfl ⟨by decide, by decide⟩ (Nat.le_of_ble_eq_true rfl) (sp_X7_fileAt e0.1 (AOK_KP hO) r1 (fun hf5 m5 a K5 Y5 a0 a1 q46 co => ?_) (fun hf5 m5 K5 Y5 => ?_))
    · skip
      refine kr_s ?_
      have C5 := CM_Y e0 K5.1 Y5
      have F5 := FrM_t e1 (FrM_Y Y5)
      have t5 : m5 21 25 = 0 := by rw [Y5 21 25 (by omega) (by omega)]; exact e2
      have hlb := LN_b (PA_NS (AOK_KP hO).1) f
      refine wq_imul (pc := 54) dX7_byteAt_54 ?_
      refine wq_iload_n (pc := 55) dX7_byteAt_55 rfl rfl ?_
      refine wq_iadd (pc := 56) dX7_byteAt_56 ?_
      refine wq_ialdK (pc := 57) dX7_byteAt_57 hs rfl (by omega) (by omega) ?_
      rw [(co.2 p (by omega) (by omega)).1]
      refine wq_goto (pc := 58) (tgt := 62) dX7_byteAt_58 (by decide) ?_
      refine wq_iret (pc := 62) dX7_byteAt_62 rfl ?_
      first
        | (rw [pI_on e3, pI_0 (fun z => z e4), pI_0 (fun z => z e5)] at h
           exact h _ _ C5 F5 (anM_v t5))
        | (exfalso; omega)
        | (rw [pI_on hd, pI_0 (fun z => z hf), pI_1 (by omega)] at h
           exact h _ _ (CM_25 C1) (FrM_t F1 (FrM_w (by omega))) (anM_x 0 rfl (wr_s _ _ _ _)))
        | (rcases t1 with ⟨q, t⟩ | ⟨q, q2, t⟩
           · rw [pI_1 q] at h; exact h _ _ (CM_25 C1) (FrM_t F1 (FrM_w (by omega))) (anM_x 1 rfl (by rw [wr_s, t]; rfl))
           · rw [pI_0 q, pI_1 q2] at h; exact h _ _ (CM_25 C1) (FrM_t F1 (FrM_w (by omega))) (anM_x 0 rfl (by rw [wr_s, t]; rfl)))
    · skip
      exact absurd e4 hf5
  refine wq_aload_n (pc := 0) dX7_byteAt_0 rfl rfl ?_
  refine wq_iload_n (pc := 1) dX7_byteAt_1 rfl rfl ?_
  refine cVK_1 (pc := 2) dX7_byteAt_2 hs (cw_X7_298 _ rfl) (by decide) rfl ⟨by decide, by decide⟩ (Nat.le_of_ble_eq_true rfl) (sp_X7_length hC hO r1 (fun hd hf m1 C1 F1 t1 => ?_) (fun m1 C1 F1 t1 => ?_))
  · skip
    refine kr_s ?_
    have hlb := LN_b (PA_NS (AOK_KP hO).1) f
    have t1b := t1
    have r25 : inR (m1 21 25) := by unfold inR; omega
    refine wq_istore_n (pc := 5) (L' := [(3, _), (0, _), (1, _), (2, _)]) dX7_byteAt_5 rfl rfl (by decide) ?_
    refine wq_aload_n (pc := 6) dX7_byteAt_6 rfl rfl ?_
    refine wq_aload_n (pc := 7) dX7_byteAt_7 rfl rfl ?_
    refine wq_getIK (pc := 8) (kk := 25) dX7_byteAt_8 hs (gf_X7_127 _ rfl) rfl rfl rfl rfl ?_
    refine wq_if_ne (pc := 11) (tgt := 29) dX7_byteAt_11 (by decide) (by first | (unfold inR; omega) | assumption) (fun c6 => ?_) (fun c6 => ?_)
    · skip
      refine wq_aload_n (pc := 29) dX7_byteAt_29 rfl rfl ?_
      refine wq_getIK (pc := 30) (kk := 25) dX7_byteAt_30 hs (gf_X7_127 _ rfl) rfl rfl rfl rfl ?_
      refine wq_putIK (pc := 33) (kk := 25) dX7_byteAt_33 hs (gf_X7_127 _ rfl) rfl rfl rfl rfl rfl ?_
      refine wq_aload_n (pc := 36) dX7_byteAt_36 rfl rfl ?_
      refine wq_getIK (pc := 37) (kk := 25) dX7_byteAt_37 hs (gf_X7_127 _ rfl) rfl rfl rfl rfl ?_
      rw [wr_s]
      refine wq_if_ne (pc := 40) (tgt := 61) dX7_byteAt_40 (by decide) (by first | (unfold inR; omega) | assumption) (fun c7 => ?_) (fun c7 => ?_)
      · skip
        refine wq_iconst (pc := 61) dX7_byteAt_61 ?_
        refine wq_iret (pc := 62) dX7_byteAt_62 rfl ?_
        first
          | (rw [pI_on e3, pI_0 (fun z => z e4), pI_0 (fun z => z e5)] at h
             exact h _ _ C5 F5 (anM_v t5))
          | (exfalso; omega)
          | (rw [pI_on hd, pI_0 (fun z => z hf), pI_1 (by omega)] at h
             exact h _ _ (CM_25 C1) (FrM_t F1 (FrM_w (by omega))) (anM_x 0 rfl (wr_s _ _ _ _)))
          | (rcases t1 with ⟨q, t⟩ | ⟨q, q2, t⟩
             · rw [pI_1 q] at h; exact h _ _ (CM_25 C1) (FrM_t F1 (FrM_w (by omega))) (anM_x 1 rfl (by rw [wr_s, t]; rfl))
             · rw [pI_0 q, pI_1 q2] at h; exact h _ _ (CM_25 C1) (FrM_t F1 (FrM_w (by omega))) (anM_x 0 rfl (by rw [wr_s, t]; rfl)))
      · skip
        refine wq_sub1 (L' := [(0, _), (1, _), (2, _)]) ⟨rfl, rfl, rfl, trivial⟩ ?_
        first
          | (exfalso; omega)
          | exact cut1 _ (CM_25 C1) (FrM_t F1 (FrM_w (by omega))) (by first | exact wr_s _ _ _ _ | (rw [wr_s]; exact t1)) hd hf (by omega)
    · skip
      refine wq_iload_n (pc := 14) dX7_byteAt_14 rfl rfl ?_
      refine wq_iconst (pc := 15) dX7_byteAt_15 ?_
      refine wq_iload_n (pc := 16) dX7_byteAt_16 rfl rfl ?_
      refine wq_iconst (pc := 17) dX7_byteAt_17 ?_
      refine wq_isub (pc := 18) dX7_byteAt_18 ?_
      refine cS_3 (pc := 19) dX7_byteAt_19 (cw_X7_210 _ rfl) ⟨by decide, by decide⟩ (Nat.le_of_ble_eq_true rfl) (sp_X7_in r2 (by unfold inR; omega) (by unfold inR; omega) (fun hin => ?_) (fun hin => ?_))
      · skip
        refine kr_s ?_
        have hin9 := hin
        refine wq_if_ne (pc := 22) (tgt := 29) dX7_byteAt_22 (by decide) (by first | (unfold inR; omega) | assumption) (fun _ => ?_) (fun c => absurd c (by decide))
        refine wq_aload_n (pc := 29) dX7_byteAt_29 rfl rfl ?_
        refine wq_getIK (pc := 30) (kk := 25) dX7_byteAt_30 hs (gf_X7_127 _ rfl) rfl rfl rfl rfl ?_
        refine wq_putIK (pc := 33) (kk := 25) dX7_byteAt_33 hs (gf_X7_127 _ rfl) rfl rfl rfl rfl rfl ?_
        refine wq_aload_n (pc := 36) dX7_byteAt_36 rfl rfl ?_
        refine wq_getIK (pc := 37) (kk := 25) dX7_byteAt_37 hs (gf_X7_127 _ rfl) rfl rfl rfl rfl ?_
        rw [wr_s]
        refine wq_if_ne (pc := 40) (tgt := 61) dX7_byteAt_40 (by decide) (by first | (unfold inR; omega) | assumption) (fun c11 => ?_) (fun c11 => ?_)
        · skip
          refine wq_iconst (pc := 61) dX7_byteAt_61 ?_
          refine wq_iret (pc := 62) dX7_byteAt_62 rfl ?_
          first
            | (rw [pI_on e3, pI_0 (fun z => z e4), pI_0 (fun z => z e5)] at h
               exact h _ _ C5 F5 (anM_v t5))
            | (exfalso; omega)
            | (rw [pI_on hd, pI_0 (fun z => z hf), pI_1 (by omega)] at h
               exact h _ _ (CM_25 C1) (FrM_t F1 (FrM_w (by omega))) (anM_x 0 rfl (wr_s _ _ _ _)))
            | (rcases t1 with ⟨q, t⟩ | ⟨q, q2, t⟩
               · rw [pI_1 q] at h; exact h _ _ (CM_25 C1) (FrM_t F1 (FrM_w (by omega))) (anM_x 1 rfl (by rw [wr_s, t]; rfl))
               · rw [pI_0 q, pI_1 q2] at h; exact h _ _ (CM_25 C1) (FrM_t F1 (FrM_w (by omega))) (anM_x 0 rfl (by rw [wr_s, t]; rfl)))
        · skip
          refine wq_sub1 (L' := [(0, _), (1, _), (2, _)]) ⟨rfl, rfl, rfl, trivial⟩ ?_
          first
            | (exfalso; omega)
            | exact cut1 _ (CM_25 C1) (FrM_t F1 (FrM_w (by omega))) (by first | exact wr_s _ _ _ _ | (rw [wr_s]; exact t1)) hd hf (by omega)
      · skip
        refine kr_s ?_
        have hin9 := hin
        refine wq_if_ne (pc := 22) (tgt := 29) dX7_byteAt_22 (by decide) (by first | (unfold inR; omega) | assumption) (fun c => absurd c (by decide)) (fun _ => ?_)
        refine wq_iconst (pc := 25) dX7_byteAt_25 ?_
        refine wq_goto (pc := 26) (tgt := 33) dX7_byteAt_26 (by decide) ?_
        refine wq_putIK (pc := 33) (kk := 25) dX7_byteAt_33 hs (gf_X7_127 _ rfl) rfl rfl rfl rfl rfl ?_
        refine wq_aload_n (pc := 36) dX7_byteAt_36 rfl rfl ?_
        refine wq_getIK (pc := 37) (kk := 25) dX7_byteAt_37 hs (gf_X7_127 _ rfl) rfl rfl rfl rfl ?_
        rw [wr_s]
        refine wq_if_ne (pc := 40) (tgt := 61) dX7_byteAt_40 (by decide) (by first | (unfold inR; omega) | assumption) (fun c13 => ?_) (fun c13 => ?_)
        · skip
          refine wq_iconst (pc := 61) dX7_byteAt_61 ?_
          refine wq_iret (pc := 62) dX7_byteAt_62 rfl ?_
          first
            | (rw [pI_on e3, pI_0 (fun z => z e4), pI_0 (fun z => z e5)] at h
               exact h _ _ C5 F5 (anM_v t5))
            | (exfalso; omega)
            | (rw [pI_on hd, pI_0 (fun z => z hf), pI_1 (by omega)] at h
               exact h _ _ (CM_25 C1) (FrM_t F1 (FrM_w (by omega))) (anM_x 0 rfl (wr_s _ _ _ _)))
            | (rcases t1 with ⟨q, t⟩ | ⟨q, q2, t⟩
               · rw [pI_1 q] at h; exact h _ _ (CM_25 C1) (FrM_t F1 (FrM_w (by omega))) (anM_x 1 rfl (by rw [wr_s, t]; rfl))
               · rw [pI_0 q, pI_1 q2] at h; exact h _ _ (CM_25 C1) (FrM_t F1 (FrM_w (by omega))) (anM_x 0 rfl (by rw [wr_s, t]; rfl)))
        · skip
          refine wq_sub1 (L' := [(0, _), (1, _), (2, _)]) ⟨rfl, rfl, rfl, trivial⟩ ?_
          first
            | (exfalso; omega)
            | exact cut1 _ (CM_25 C1) (FrM_t F1 (FrM_w (by omega))) (by first | exact wr_s _ _ _ _ | (rw [wr_s]; exact t1)) hd hf (by omega)
  · skip
    refine kr_s ?_
    have t19 : 1 ≤ m1 21 25 ∧ m1 21 25 ≤ 2 := by rcases t1 with ⟨-, z⟩ | ⟨-, -, z⟩ <;> omega
    have r25 : inR (m1 21 25) := by unfold inR; omega
    refine wq_istore_n (pc := 5) (L' := [(3, _), (0, _), (1, _), (2, _)]) dX7_byteAt_5 rfl rfl (by decide) ?_
    refine wq_aload_n (pc := 6) dX7_byteAt_6 rfl rfl ?_
    refine wq_aload_n (pc := 7) dX7_byteAt_7 rfl rfl ?_
    refine wq_getIK (pc := 8) (kk := 25) dX7_byteAt_8 hs (gf_X7_127 _ rfl) rfl rfl rfl rfl ?_
    refine wq_if_ne (pc := 11) (tgt := 29) dX7_byteAt_11 (by decide) (by first | (unfold inR; omega) | assumption) (fun c14 => ?_) (fun c14 => ?_)
    · skip
      refine wq_aload_n (pc := 29) dX7_byteAt_29 rfl rfl ?_
      refine wq_getIK (pc := 30) (kk := 25) dX7_byteAt_30 hs (gf_X7_127 _ rfl) rfl rfl rfl rfl ?_
      refine wq_putIK (pc := 33) (kk := 25) dX7_byteAt_33 hs (gf_X7_127 _ rfl) rfl rfl rfl rfl rfl ?_
      refine wq_aload_n (pc := 36) dX7_byteAt_36 rfl rfl ?_
      refine wq_getIK (pc := 37) (kk := 25) dX7_byteAt_37 hs (gf_X7_127 _ rfl) rfl rfl rfl rfl ?_
      rw [wr_s]
      refine wq_if_ne (pc := 40) (tgt := 61) dX7_byteAt_40 (by decide) (by first | (unfold inR; omega) | assumption) (fun c15 => ?_) (fun c15 => ?_)
      · skip
        refine wq_iconst (pc := 61) dX7_byteAt_61 ?_
        refine wq_iret (pc := 62) dX7_byteAt_62 rfl ?_
        first
          | (rw [pI_on e3, pI_0 (fun z => z e4), pI_0 (fun z => z e5)] at h
             exact h _ _ C5 F5 (anM_v t5))
          | (exfalso; omega)
          | (rw [pI_on hd, pI_0 (fun z => z hf), pI_1 (by omega)] at h
             exact h _ _ (CM_25 C1) (FrM_t F1 (FrM_w (by omega))) (anM_x 0 rfl (wr_s _ _ _ _)))
          | (rcases t1 with ⟨q, t⟩ | ⟨q, q2, t⟩
             · rw [pI_1 q] at h; exact h _ _ (CM_25 C1) (FrM_t F1 (FrM_w (by omega))) (anM_x 1 rfl (by rw [wr_s, t]; rfl))
             · rw [pI_0 q, pI_1 q2] at h; exact h _ _ (CM_25 C1) (FrM_t F1 (FrM_w (by omega))) (anM_x 0 rfl (by rw [wr_s, t]; rfl)))
      · skip
        refine wq_sub1 (L' := [(0, _), (1, _), (2, _)]) ⟨rfl, rfl, rfl, trivial⟩ ?_
        first
          | (exfalso; omega)
          | exact cut1 _ (CM_25 C1) (FrM_t F1 (FrM_w (by omega))) (by first | exact wr_s _ _ _ _ | (rw [wr_s]; exact t1)) hd hf (by omega)
    · skip
      refine wq_iload_n (pc := 14) dX7_byteAt_14 rfl rfl ?_
      refine wq_iconst (pc := 15) dX7_byteAt_15 ?_
      refine wq_iload_n (pc := 16) dX7_byteAt_16 rfl rfl ?_
      refine wq_iconst (pc := 17) dX7_byteAt_17 ?_
      refine wq_isub (pc := 18) dX7_byteAt_18 ?_
      refine cS_3 (pc := 19) dX7_byteAt_19 (cw_X7_210 _ rfl) ⟨by decide, by decide⟩ (Nat.le_of_ble_eq_true rfl) (sp_X7_in r2 (by unfold inR; omega) (by unfold inR; omega) (fun hin => ?_) (fun hin => ?_))
      · skip
        refine kr_s ?_
        have hin9 := hin
        refine wq_if_ne (pc := 22) (tgt := 29) dX7_byteAt_22 (by decide) (by first | (unfold inR; omega) | assumption) (fun _ => ?_) (fun c => absurd c (by decide))
        refine wq_aload_n (pc := 29) dX7_byteAt_29 rfl rfl ?_
        refine wq_getIK (pc := 30) (kk := 25) dX7_byteAt_30 hs (gf_X7_127 _ rfl) rfl rfl rfl rfl ?_
        refine wq_putIK (pc := 33) (kk := 25) dX7_byteAt_33 hs (gf_X7_127 _ rfl) rfl rfl rfl rfl rfl ?_
        refine wq_aload_n (pc := 36) dX7_byteAt_36 rfl rfl ?_
        refine wq_getIK (pc := 37) (kk := 25) dX7_byteAt_37 hs (gf_X7_127 _ rfl) rfl rfl rfl rfl ?_
        rw [wr_s]
        refine wq_if_ne (pc := 40) (tgt := 61) dX7_byteAt_40 (by decide) (by first | (unfold inR; omega) | assumption) (fun c19 => ?_) (fun c19 => ?_)
        · skip
          refine wq_iconst (pc := 61) dX7_byteAt_61 ?_
          refine wq_iret (pc := 62) dX7_byteAt_62 rfl ?_
          first
            | (rw [pI_on e3, pI_0 (fun z => z e4), pI_0 (fun z => z e5)] at h
               exact h _ _ C5 F5 (anM_v t5))
            | (exfalso; omega)
            | (rw [pI_on hd, pI_0 (fun z => z hf), pI_1 (by omega)] at h
               exact h _ _ (CM_25 C1) (FrM_t F1 (FrM_w (by omega))) (anM_x 0 rfl (wr_s _ _ _ _)))
            | (rcases t1 with ⟨q, t⟩ | ⟨q, q2, t⟩
               · rw [pI_1 q] at h; exact h _ _ (CM_25 C1) (FrM_t F1 (FrM_w (by omega))) (anM_x 1 rfl (by rw [wr_s, t]; rfl))
               · rw [pI_0 q, pI_1 q2] at h; exact h _ _ (CM_25 C1) (FrM_t F1 (FrM_w (by omega))) (anM_x 0 rfl (by rw [wr_s, t]; rfl)))
        · skip
          refine wq_sub1 (L' := [(0, _), (1, _), (2, _)]) ⟨rfl, rfl, rfl, trivial⟩ ?_
          first
            | (exfalso; omega)
            | exact cut1 _ (CM_25 C1) (FrM_t F1 (FrM_w (by omega))) (by first | exact wr_s _ _ _ _ | (rw [wr_s]; exact t1)) hd hf (by omega)
      · skip
        refine kr_s ?_
        have hin9 := hin
        refine wq_if_ne (pc := 22) (tgt := 29) dX7_byteAt_22 (by decide) (by first | (unfold inR; omega) | assumption) (fun c => absurd c (by decide)) (fun _ => ?_)
        refine wq_iconst (pc := 25) dX7_byteAt_25 ?_
        refine wq_goto (pc := 26) (tgt := 33) dX7_byteAt_26 (by decide) ?_
        refine wq_putIK (pc := 33) (kk := 25) dX7_byteAt_33 hs (gf_X7_127 _ rfl) rfl rfl rfl rfl rfl ?_
        refine wq_aload_n (pc := 36) dX7_byteAt_36 rfl rfl ?_
        refine wq_getIK (pc := 37) (kk := 25) dX7_byteAt_37 hs (gf_X7_127 _ rfl) rfl rfl rfl rfl ?_
        rw [wr_s]
        refine wq_if_ne (pc := 40) (tgt := 61) dX7_byteAt_40 (by decide) (by first | (unfold inR; omega) | assumption) (fun c21 => ?_) (fun c21 => ?_)
        · skip
          refine wq_iconst (pc := 61) dX7_byteAt_61 ?_
          refine wq_iret (pc := 62) dX7_byteAt_62 rfl ?_
          first
            | (rw [pI_on e3, pI_0 (fun z => z e4), pI_0 (fun z => z e5)] at h
               exact h _ _ C5 F5 (anM_v t5))
            | (exfalso; omega)
            | (rw [pI_on hd, pI_0 (fun z => z hf), pI_1 (by omega)] at h
               exact h _ _ (CM_25 C1) (FrM_t F1 (FrM_w (by omega))) (anM_x 0 rfl (wr_s _ _ _ _)))
            | (rcases t1 with ⟨q, t⟩ | ⟨q, q2, t⟩
               · rw [pI_1 q] at h; exact h _ _ (CM_25 C1) (FrM_t F1 (FrM_w (by omega))) (anM_x 1 rfl (by rw [wr_s, t]; rfl))
               · rw [pI_0 q, pI_1 q2] at h; exact h _ _ (CM_25 C1) (FrM_t F1 (FrM_w (by omega))) (anM_x 0 rfl (by rw [wr_s, t]; rfl)))
        · skip
          refine wq_sub1 (L' := [(0, _), (1, _), (2, _)]) ⟨rfl, rfl, rfl, trivial⟩ ?_
          first
            | (exfalso; omega)
            | exact cut1 _ (CM_25 C1) (FrM_t F1 (FrM_w (by omega))) (by first | exact wr_s _ _ _ _ | (rw [wr_s]; exact t1)) hd hf (by omega)
theorem sp_X7_byteByNodes {μ : nMem} {ε : nEnv} {Q : nOut → nMem → nEnv → Prop} {A : AS} {nb vb f p : Int} (hC : CM A μ ε) (hO : AOK A nb vb) (r1 : inR f) (r2 : inR p) (h : ∀ m v, CM (actByteAt A f p).2 m ε → FrM μ m → anM (actByteAt A f p).1 [xI, xS] v m → Q (.inl (some (vI v))) m ε) : Sp mX7_byteByNodes [vR 21, vI f, vI p] μ ε Q := by
  refine Sp_of (L := [(0, vR 21), (1, vI f), (2, vI p)]) (by decide) rfl rfl (Nat.le_of_ble_eq_true rfl) ?_
  have hs := hC.1.1
  refine wq_aload_n (pc := 0) dX7_byteByNodes_0 rfl rfl ?_
  refine wq_iload_n (pc := 1) dX7_byteByNodes_1 rfl rfl ?_
  refine wq_iload_n (pc := 2) dX7_byteByNodes_2 rfl rfl ?_
  refine cVK_2 (pc := 3) dX7_byteByNodes_3 hs (cw_X7_301 _ rfl) (by decide) rfl ⟨by decide, by decide⟩ (Nat.le_of_ble_eq_true rfl) (sp_X7_byteAt hC hO r1 r2 (fun m9 v9 c9 f9 a9 => ?_))
  refine kr_s ?_
  refine wq_iret (pc := 6) dX7_byteByNodes_6 rfl ?_
  exact h _ _ c9 f9 a9
theorem sp_X7_written {μ : nMem} {ε : nEnv} {Q : nOut → nMem → nEnv → Prop} {A : AS} {b : Int} (hC : CM A μ ε) (r1 : inR b) (h : ∀ m v, CM (actWritten A b).2 m ε → FrM μ m → anM (actWritten A b).1 [xI] v m → Q (.inl (some (vI v))) m ε) : Sp mX7_written [vR 21, vI b] μ ε Q := by
  refine Sp_of (L := [(0, vR 21), (1, vI b)]) (by decide) rfl rfl (Nat.le_of_ble_eq_true rfl) ?_
  have hs := hC.1.1
  unfold actWritten qb at h
  have hRb := fun h0 h1 => (hC.1.2.2.1.1 b h0 h1).2.1
  refine wq_aload_n (pc := 0) dX7_written_0 rfl rfl ?_
  refine wq_iload_n (pc := 1) dX7_written_1 rfl rfl ?_
  refine cVK_1 (pc := 2) dX7_written_2 hs (cw_X7_307 _ rfl) (by decide) rfl ⟨by decide, by decide⟩ (Nat.le_of_ble_eq_true rfl) (sp_X7_isBlock hs r1 (fun hbk => ?_) (fun hbk => ?_))
  · skip
    refine kr_s ?_
    have hbk9 := hbk
    refine wq_if_eq (pc := 5) (tgt := 17) dX7_written_5 (by decide) (by first | (unfold inR; omega) | assumption) (fun c => absurd c (by decide)) (fun _ => ?_)
    refine wq_aload_n (pc := 8) dX7_written_8 rfl rfl ?_
    refine wq_getS (pc := 9) dX7_written_9 hs (gf_X7_51 _ rfl) rfl rfl rfl rfl rfl ?_
    refine wq_iload_n (pc := 12) dX7_written_12 rfl rfl ?_
    refine wq_ialdK (pc := 13) dX7_written_13 hs rfl (by omega) (by omega) ?_
    rw [wr_n _ _ (by omega), hRb (by omega) (by omega)]
    refine wq_goto (pc := 14) (tgt := 18) dX7_written_14 (by decide) ?_
    refine wq_iret (pc := 18) dX7_written_18 rfl ?_
    first
      | (rw [pI_0 (fun z => z (by omega))] at h
         exact h _ _ (CM_25 hC) (FrM_w (by omega)) (anM_v (wr_s _ _ _ _)))
      | (rw [pI_1 (by omega)] at h
         exact h _ _ (CM_25 hC) (FrM_w (by omega)) (anM_x 0 rfl (wr_s _ _ _ _)))
  · skip
    refine kr_s ?_
    have hbk9 := hbk
    refine wq_if_eq (pc := 5) (tgt := 17) dX7_written_5 (by decide) (by first | (unfold inR; omega) | assumption) (fun _ => ?_) (fun c => absurd c (by decide))
    refine wq_iconst (pc := 17) dX7_written_17 ?_
    refine wq_iret (pc := 18) dX7_written_18 rfl ?_
    first
      | (rw [pI_0 (fun z => z (by omega))] at h
         exact h _ _ (CM_25 hC) (FrM_w (by omega)) (anM_v (wr_s _ _ _ _)))
      | (rw [pI_1 (by omega)] at h
         exact h _ _ (CM_25 hC) (FrM_w (by omega)) (anM_x 0 rfl (wr_s _ _ _ _)))
theorem sp_X7_nodes {μ : nMem} {ε : nEnv} {Q : nOut → nMem → nEnv → Prop} {A : AS} {b : Int} (hC : CM A μ ε) (r1 : inR b) (h : ∀ m v, CM (actNodes A b).2 m ε → FrM μ m → anM (actNodes A b).1 [xI] v m → Q (.inl (some (vI v))) m ε) : Sp mX7_nodes [vR 21, vI b] μ ε Q := by
  refine Sp_of (L := [(0, vR 21), (1, vI b)]) (by decide) rfl rfl (Nat.le_of_ble_eq_true rfl) ?_
  have hs := hC.1.1
  unfold actNodes qb at h
  have hRb := fun h0 h1 => (hC.1.2.2.1.1 b h0 h1).1
  refine wq_aload_n (pc := 0) dX7_nodes_0 rfl rfl ?_
  refine wq_iload_n (pc := 1) dX7_nodes_1 rfl rfl ?_
  refine cVK_1 (pc := 2) dX7_nodes_2 hs (cw_X7_307 _ rfl) (by decide) rfl ⟨by decide, by decide⟩ (Nat.le_of_ble_eq_true rfl) (sp_X7_isBlock hs r1 (fun hbk => ?_) (fun hbk => ?_))
  · skip
    refine kr_s ?_
    have hbk9 := hbk
    refine wq_if_eq (pc := 5) (tgt := 17) dX7_nodes_5 (by decide) (by first | (unfold inR; omega) | assumption) (fun c => absurd c (by decide)) (fun _ => ?_)
    refine wq_aload_n (pc := 8) dX7_nodes_8 rfl rfl ?_
    refine wq_getS (pc := 9) dX7_nodes_9 hs (gf_X7_48 _ rfl) rfl rfl rfl rfl rfl ?_
    refine wq_iload_n (pc := 12) dX7_nodes_12 rfl rfl ?_
    refine wq_ialdK (pc := 13) dX7_nodes_13 hs rfl (by omega) (by omega) ?_
    rw [wr_n _ _ (by omega), hRb (by omega) (by omega)]
    refine wq_goto (pc := 14) (tgt := 18) dX7_nodes_14 (by decide) ?_
    refine wq_iret (pc := 18) dX7_nodes_18 rfl ?_
    first
      | (rw [pI_0 (fun z => z (by omega))] at h
         exact h _ _ (CM_25 hC) (FrM_w (by omega)) (anM_v (wr_s _ _ _ _)))
      | (rw [pI_1 (by omega)] at h
         exact h _ _ (CM_25 hC) (FrM_w (by omega)) (anM_x 0 rfl (wr_s _ _ _ _)))
  · skip
    refine kr_s ?_
    have hbk9 := hbk
    refine wq_if_eq (pc := 5) (tgt := 17) dX7_nodes_5 (by decide) (by first | (unfold inR; omega) | assumption) (fun _ => ?_) (fun c => absurd c (by decide))
    refine wq_iconst (pc := 17) dX7_nodes_17 ?_
    refine wq_iret (pc := 18) dX7_nodes_18 rfl ?_
    first
      | (rw [pI_0 (fun z => z (by omega))] at h
         exact h _ _ (CM_25 hC) (FrM_w (by omega)) (anM_v (wr_s _ _ _ _)))
      | (rw [pI_1 (by omega)] at h
         exact h _ _ (CM_25 hC) (FrM_w (by omega)) (anM_x 0 rfl (wr_s _ _ _ _)))
theorem sp_X7_erased {μ : nMem} {ε : nEnv} {Q : nOut → nMem → nEnv → Prop} {A : AS} {b : Int} (hC : CM A μ ε) (r1 : inR b) (h : ∀ m v, CM (actErased A b).2 m ε → FrM μ m → anM (actErased A b).1 [xI] v m → Q (.inl (some (vI v))) m ε) : Sp mX7_erased [vR 21, vI b] μ ε Q := by
  refine Sp_of (L := [(0, vR 21), (1, vI b)]) (by decide) rfl rfl (Nat.le_of_ble_eq_true rfl) ?_
  have hs := hC.1.1
  unfold actErased qb at h
  have hRb := fun h0 h1 => (hC.1.2.2.1.1 b h0 h1).2.2
  refine wq_aload_n (pc := 0) dX7_erased_0 rfl rfl ?_
  refine wq_iload_n (pc := 1) dX7_erased_1 rfl rfl ?_
  refine cVK_1 (pc := 2) dX7_erased_2 hs (cw_X7_307 _ rfl) (by decide) rfl ⟨by decide, by decide⟩ (Nat.le_of_ble_eq_true rfl) (sp_X7_isBlock hs r1 (fun hbk => ?_) (fun hbk => ?_))
  · skip
    refine kr_s ?_
    have hbk9 := hbk
    refine wq_if_eq (pc := 5) (tgt := 17) dX7_erased_5 (by decide) (by first | (unfold inR; omega) | assumption) (fun c => absurd c (by decide)) (fun _ => ?_)
    refine wq_aload_n (pc := 8) dX7_erased_8 rfl rfl ?_
    refine wq_getS (pc := 9) dX7_erased_9 hs (gf_X7_54 _ rfl) rfl rfl rfl rfl rfl ?_
    refine wq_iload_n (pc := 12) dX7_erased_12 rfl rfl ?_
    refine wq_ialdK (pc := 13) dX7_erased_13 hs rfl (by omega) (by omega) ?_
    rw [wr_n _ _ (by omega), hRb (by omega) (by omega)]
    refine wq_goto (pc := 14) (tgt := 18) dX7_erased_14 (by decide) ?_
    refine wq_iret (pc := 18) dX7_erased_18 rfl ?_
    first
      | (rw [pI_0 (fun z => z (by omega))] at h
         exact h _ _ (CM_25 hC) (FrM_w (by omega)) (anM_v (wr_s _ _ _ _)))
      | (rw [pI_1 (by omega)] at h
         exact h _ _ (CM_25 hC) (FrM_w (by omega)) (anM_x 0 rfl (wr_s _ _ _ _)))
  · skip
    refine kr_s ?_
    have hbk9 := hbk
    refine wq_if_eq (pc := 5) (tgt := 17) dX7_erased_5 (by decide) (by first | (unfold inR; omega) | assumption) (fun _ => ?_) (fun c => absurd c (by decide))
    refine wq_iconst (pc := 17) dX7_erased_17 ?_
    refine wq_iret (pc := 18) dX7_erased_18 rfl ?_
    first
      | (rw [pI_0 (fun z => z (by omega))] at h
         exact h _ _ (CM_25 hC) (FrM_w (by omega)) (anM_v (wr_s _ _ _ _)))
      | (rw [pI_1 (by omega)] at h
         exact h _ _ (CM_25 hC) (FrM_w (by omega)) (anM_x 0 rfl (wr_s _ _ _ _)))
theorem sp_X7_cut {μ : nMem} {ε : nEnv} {Q : nOut → nMem → nEnv → Prop} {A : AS} {u : Int} (hC : CM A μ ε) (r1 : inR u) (h : ∀ m v, CM (actCut A u).2 m ε → FrM μ m → anM (actCut A u).1 [xA] v m → Q (.inl (some (vI v))) m ε) : Sp mX7_cut [vR 21, vI u] μ ε Q := by
  refine Sp_of (L := [(0, vR 21), (1, vI u)]) (by decide) rfl rfl (Nat.le_of_ble_eq_true rfl) ?_
  have hs := hC.1.1
  unfold actCut at h
  have q20 := hC.2.1.1
  refine wq_aload_n (pc := 0) dX7_cut_0 rfl rfl ?_
  refine wq_iload_n (pc := 1) dX7_cut_1 rfl rfl ?_
  refine wq_iconst (pc := 2) dX7_cut_2 ?_
  refine wq_sipush (pc := 3) dX7_cut_3 (by decide) (by decide) ?_
  refine cS_3 (pc := 6) dX7_cut_6 (cw_X7_210 _ rfl) ⟨by decide, by decide⟩ (Nat.le_of_ble_eq_true rfl) (sp_X7_in r1 (by unfold inR; omega) (by unfold inR; omega) (fun hin => ?_) (fun hin => ?_))
  · skip
    refine kr_s ?_
    have hin9 := hin
    refine wq_if_eq (pc := 9) (tgt := 16) dX7_cut_9 (by decide) (by first | (unfold inR; omega) | assumption) (fun c => absurd c (by decide)) (fun _ => ?_)
    refine wq_iconst (pc := 12) dX7_cut_12 ?_
    refine wq_goto (pc := 13) (tgt := 17) dX7_cut_13 (by decide) ?_
    refine wq_putIK (pc := 17) (kk := 25) dX7_cut_17 hs (gf_X7_127 _ rfl) rfl rfl rfl rfl rfl ?_
    refine wq_aload_n (pc := 20) dX7_cut_20 rfl rfl ?_
    refine wq_getIK (pc := 21) (kk := 25) dX7_cut_21 hs (gf_X7_127 _ rfl) rfl rfl rfl rfl ?_
    rw [wr_s]
    refine wq_if_le (pc := 24) (tgt := 29) dX7_cut_24 (by decide) (by first | (unfold inR; omega) | assumption) (fun c4 => ?_) (fun c4 => ?_)
    · skip
      refine wq_aload_n (pc := 29) dX7_cut_29 rfl rfl ?_
      refine wq_getIK (pc := 30) (kk := 20) dX7_cut_30 hs (gf_X7_121 _ rfl) rfl rfl rfl rfl ?_
      refine wq_istore_n (pc := 33) (L' := [(2, _), (0, _), (1, _)]) dX7_cut_33 rfl rfl (by decide) ?_
      refine wq_aload_n (pc := 34) dX7_cut_34 rfl rfl ?_
      refine wq_iload_n (pc := 35) dX7_cut_35 rfl rfl ?_
      refine wq_putIK (pc := 36) (kk := 20) dX7_cut_36 hs (gf_X7_121 _ rfl) rfl rfl rfl rfl rfl ?_
      refine wq_iload_n (pc := 39) dX7_cut_39 rfl rfl ?_
      refine wq_iret (pc := 40) dX7_cut_40 rfl ?_
      first
        | (exfalso; omega)
        | (rw [pI_0 (fun z => z hin9)] at h
           rw [wr_n _ _ (by omega), q20]
           exact h _ _ (CM_21 (CM_25 hC)) (FrM_t (FrM_w (by omega)) (FrM_w (by omega))) (anM_v (by rw [wr_n _ _ (by omega), wr_s])))
        | (rw [pI_1 hin9] at h
           exact h _ _ (CM_25 hC) (FrM_w (by omega)) (anM_x 0 rfl (wr_s _ _ _ _)))
    · skip
      refine wq_iconst (pc := 27) dX7_cut_27 ?_
      refine wq_iret (pc := 28) dX7_cut_28 rfl ?_
      first
        | (exfalso; omega)
        | (rw [pI_0 (fun z => z hin9)] at h
           rw [wr_n _ _ (by omega), q20]
           exact h _ _ (CM_21 (CM_25 hC)) (FrM_t (FrM_w (by omega)) (FrM_w (by omega))) (anM_v (by rw [wr_n _ _ (by omega), wr_s])))
        | (rw [pI_1 hin9] at h
           exact h _ _ (CM_25 hC) (FrM_w (by omega)) (anM_x 0 rfl (wr_s _ _ _ _)))
  · skip
    refine kr_s ?_
    have hin9 := hin
    refine wq_if_eq (pc := 9) (tgt := 16) dX7_cut_9 (by decide) (by first | (unfold inR; omega) | assumption) (fun _ => ?_) (fun c => absurd c (by decide))
    refine wq_iconst (pc := 16) dX7_cut_16 ?_
    refine wq_putIK (pc := 17) (kk := 25) dX7_cut_17 hs (gf_X7_127 _ rfl) rfl rfl rfl rfl rfl ?_
    refine wq_aload_n (pc := 20) dX7_cut_20 rfl rfl ?_
    refine wq_getIK (pc := 21) (kk := 25) dX7_cut_21 hs (gf_X7_127 _ rfl) rfl rfl rfl rfl ?_
    rw [wr_s]
    refine wq_if_le (pc := 24) (tgt := 29) dX7_cut_24 (by decide) (by first | (unfold inR; omega) | assumption) (fun c6 => ?_) (fun c6 => ?_)
    · skip
      refine wq_aload_n (pc := 29) dX7_cut_29 rfl rfl ?_
      refine wq_getIK (pc := 30) (kk := 20) dX7_cut_30 hs (gf_X7_121 _ rfl) rfl rfl rfl rfl ?_
      refine wq_istore_n (pc := 33) (L' := [(2, _), (0, _), (1, _)]) dX7_cut_33 rfl rfl (by decide) ?_
      refine wq_aload_n (pc := 34) dX7_cut_34 rfl rfl ?_
      refine wq_iload_n (pc := 35) dX7_cut_35 rfl rfl ?_
      refine wq_putIK (pc := 36) (kk := 20) dX7_cut_36 hs (gf_X7_121 _ rfl) rfl rfl rfl rfl rfl ?_
      refine wq_iload_n (pc := 39) dX7_cut_39 rfl rfl ?_
      refine wq_iret (pc := 40) dX7_cut_40 rfl ?_
      first
        | (exfalso; omega)
        | (rw [pI_0 (fun z => z hin9)] at h
           rw [wr_n _ _ (by omega), q20]
           exact h _ _ (CM_21 (CM_25 hC)) (FrM_t (FrM_w (by omega)) (FrM_w (by omega))) (anM_v (by rw [wr_n _ _ (by omega), wr_s])))
        | (rw [pI_1 hin9] at h
           exact h _ _ (CM_25 hC) (FrM_w (by omega)) (anM_x 0 rfl (wr_s _ _ _ _)))
    · skip
      refine wq_iconst (pc := 27) dX7_cut_27 ?_
      refine wq_iret (pc := 28) dX7_cut_28 rfl ?_
      first
        | (exfalso; omega)
        | (rw [pI_0 (fun z => z hin9)] at h
           rw [wr_n _ _ (by omega), q20]
           exact h _ _ (CM_21 (CM_25 hC)) (FrM_t (FrM_w (by omega)) (FrM_w (by omega))) (anM_v (by rw [wr_n _ _ (by omega), wr_s])))
        | (rw [pI_1 hin9] at h
           exact h _ _ (CM_25 hC) (FrM_w (by omega)) (anM_x 0 rfl (wr_s _ _ _ _)))
theorem sq_X7_isDark {μ : nMem} {ε : nEnv} {Q : nOut → nMem → nEnv → Prop} {A : AS} {nb vb : Int} (hC : CM A μ ε) (hO : AOK A nb vb) (h : ∀ m, CM A m ε → FrM μ m → Q (.inl (some (vI (fD (aF A))))) m ε) : Sp mX7_isDark [vR 21] μ ε Q := by
  have q := hC.2.1.2
  have hD := hO.2.1
  refine sp_X7_isDark hC.1.1 (by omega) ?_
  rw [q]
  exact h _ (CM_25 hC) (FrM_w (by omega))
