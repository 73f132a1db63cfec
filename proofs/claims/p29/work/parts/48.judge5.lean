theorem CFz_mem {Z : Int → Int} {F : Fl} {μ μ1 : nMem} {ε : nEnv} (hC : CFz Z F μ ε) (h : ∀ x j, x ≠ 17 → x ≠ 18 → μ1 x j = μ x j) : CFz Z F μ1 ε := by
  obtain ⟨c1, c2, c3, c4, c5, c6, c7, c8⟩ := hC
  have h3 : ∀ j, μ1 3 j = μ 3 j := fun j => h 3 j (by omega) (by omega)
  have hn : ∀ i j, μ1 (nRow μ i) j = μ (nRow μ i) j := by
    intro i j
    rcases nRow_far c2 i with e | ⟨e, -⟩
    · exact h _ _ (by omega) (by omega)
    · exact h _ _ (by omega) (by omega)
  refine ⟨c1, nRows_congr c2 h3 (fun i => nB_of (hn i) (c2.2.2 i)), fun i i0 i1 k k0 k1 => by rw [nRow_congr h3, hn]; exact c3 i i0 i1 k k0 k1, fun i i0 i1 => by rw [nRow_congr h3, hn]; exact c4 i i0 i1, fun b b0 b1 => by rw [h 4 _ (by omega) (by omega), h 5 _ (by omega) (by omega), h 6 _ (by omega) (by omega)]; exact c5 b b0 b1, by rw [h 2 _ (by omega) (by omega)]; exact c6, by rw [h 2 _ (by omega) (by omega)]; exact c7, fun k k0 k1 => by rw [h 7 _ (by omega) (by omega)]; exact c8 k k0 k1⟩
theorem CJ_keep {cs : List Int} {μ μ1 : nMem} (h : CJ cs μ) (h3 : ∀ j, μ1 3 j = μ 3 j) (h17 : μ1 17 4 = μ 17 4) (h18 : ∀ j, μ1 18 j = μ 18 j) : CJ cs μ1 := by
  obtain ⟨a, b, c⟩ := h
  exact ⟨by rw [h17]; exact a, b, fun i hi => ⟨(c i hi).1, by rw [h18, nRow_congr h3]; exact (c i hi).2⟩⟩
theorem CJ_add {cs : List Int} {μ : nMem} {i a : Int} (h : CJ cs μ) (hl : cs.length < 16) (i0 : 0 ≤ i) (i1 : i < 128) (ha : a = nRow μ i) : CJ (cs ++ [i]) (wr (wr μ 18 (μ 17 4) a) 17 4 (wr μ 18 (μ 17 4) a 17 4 + 1)) := by
  obtain ⟨q, b, c⟩ := h
  have h3 : ∀ j, (wr (wr μ 18 (μ 17 4) a) 17 4 (wr μ 18 (μ 17 4) a 17 4 + 1)) 3 j = μ 3 j := fun j => by rw [wr_n _ _ (by omega), wr_n _ _ (by omega)]
  refine ⟨?_, by rw [List.length_append]; simp; omega, fun j hj => ?_⟩
  · rw [wr_s, wr_n _ _ (by omega), q, List.length_append]; simp
  · rw [List.length_append] at hj
    simp only [List.length_cons, List.length_nil] at hj
    rw [nRow_congr h3, wr_n _ _ (by omega)]
    by_cases e : j < cs.length
    · rw [getD_app1 e, wr_n _ _ (by omega)]; exact c j e
    · have e2 : j = cs.length := by omega
      subst e2
      rw [getD_app2, q, wr_s]; exact ⟨⟨i0, i1⟩, ha⟩
noncomputable def jd (F : Fl) (S : Tr) (i : Int) : Int := @ite Int (jDead F F S i) (Classical.propDecidable _) 1 0
theorem jd_1 {F : Fl} {S : Tr} {i : Int} (h : jDead F F S i) : jd F S i = 1 := if_pos h
theorem jd_0 {F : Fl} {S : Tr} {i : Int} (h : ¬ jDead F F S i) : jd F S i = 0 := if_neg h
theorem jd_r (F : Fl) (S : Tr) (i : Int) : jd F S i = 0 ∨ jd F S i = 1 := by
  by_cases h : jDead F F S i
  · exact Or.inr (jd_1 h)
  · exact Or.inl (jd_0 h)
abbrev jNo (F : Fl) (i : Int) : Prop := ¬ (fN F i 0 ≠ 0 ∧ fN F i 2 = fN F i 1) ∨ fN F i 0 = 3
/-- a row looked at: passed over, or chosen -/
noncomputable def ckS (F : Fl) (S : Tr) (i : Int) (s : (Int → Int) × List Int) : (Int → Int) × List Int :=
  if jNo F i then s else @ite _ (jDead F F S i ∧ ¬ jMiss F S s.1 i) (Classical.propDecidable _) (zSet s.1 i 1, s.2) (s.1, s.2 ++ [i])
theorem ckS_0 {F : Fl} {S : Tr} {i : Int} {s : (Int → Int) × List Int} (h : jNo F i) : ckS F S i s = s := if_pos h
theorem ckS_1 {F : Fl} {S : Tr} {i : Int} {s : (Int → Int) × List Int} (h : ¬ jNo F i) (h2 : jDead F F S i ∧ ¬ jMiss F S s.1 i) : ckS F S i s = (zSet s.1 i 1, s.2) := (if_neg h).trans (if_pos h2)
theorem ckS_2 {F : Fl} {S : Tr} {i : Int} {s : (Int → Int) × List Int} (h : ¬ jNo F i) (h2 : ¬ (jDead F F S i ∧ ¬ jMiss F S s.1 i)) : ckS F S i s = (s.1, s.2 ++ [i]) := (if_neg h).trans (if_neg h2)
/-- what a collection passes over, and what it chooses, among the first nodes of a block -/
noncomputable def ck (F : Fl) (S : Tr) (b : Int) : Nat → (Int → Int) × List Int
  | 0 => (fun _ => 0, [])
  | n + 1 => ckS F S (b * 16 + n) (ck F S b n)
theorem ck_s (F : Fl) (S : Tr) (b : Int) (n : Nat) : ck F S b (n + 1) = ckS F S (b * 16 + n) (ck F S b n) := rfl
theorem ck_z (F : Fl) (S : Tr) (b : Int) (n : Nat) : ∀ j, ¬ (b * 16 ≤ j ∧ j < b * 16 + n) → (ck F S b n).1 j = 0 := by
  induction n with
  | zero => intro j _; rfl
  | succ n ih =>
    intro j hj
    rw [ck_s]
    have h0 := ih j (by omega)
    by_cases h : jNo F (b * 16 + n)
    · rw [ckS_0 h]; exact h0
    · by_cases h2 : jDead F F S (b * 16 + n) ∧ ¬ jMiss F S (ck F S b n).1 (b * 16 + n)
      · rw [ckS_1 h h2]
        show (if j = b * 16 + n then 1 else (ck F S b n).1 j) = 0
        rw [if_neg (by omega)]; exact h0
      · rw [ckS_2 h h2]; exact h0
theorem ck_l (F : Fl) (S : Tr) (b : Int) (n : Nat) : (ck F S b n).2.length ≤ n := by
  induction n with
  | zero => exact Nat.le_refl _
  | succ n ih =>
    rw [ck_s]
    by_cases h : jNo F (b * 16 + n)
    · rw [ckS_0 h]; omega
    · by_cases h2 : jDead F F S (b * 16 + n) ∧ ¬ jMiss F S (ck F S b n).1 (b * 16 + n)
      · rw [ckS_1 h h2]; show (ck F S b n).2.length ≤ n + 1; omega
      · rw [ckS_2 h h2]; show ((ck F S b n).2 ++ [b * 16 + (n : Int)]).length ≤ n + 1; rw [List.length_append]; simp; omega
/-- all nodes of a block tell a kind -/
abbrev blkK (F : Fl) (b : Int) : Prop := ∀ p : Int, 0 ≤ p → p < fC F b → fN F (b * 16 + p) 0 ≠ 0
theorem sp_X2_lookAt {μ : nMem} {ε : nEnv} {Q : nOut → nMem → nEnv → Prop} {F : Fl} {Z : Int → Int} {S : Tr} {cs : List Int} {dz a i : Int} (hC : CFz Z F μ ε) (hT : CT S μ ε) (hB : tB S) (i0 : 0 ≤ i) (i1 : i < 128) (ha : a = nRow μ i) (hk0 : fN F i 0 ≠ 0) (hZ : Z i = 0) (hJ : CJ cs μ) (hl : cs.length < 16) (hd12 : μ a 12 = dz) (hdz : dz = 0 ∨ dz = 1) (h0 : jNo F i → Q (.inl none) μ ε) (h1 : ¬ jNo F i → dz = 1 ∧ ¬ jMiss F S Z i → ∀ μ9, CFz (zSet Z i 1) F μ9 ε → CJ cs μ9 → FrJ μ μ9 → (∀ x, x ≠ 17 → x ≠ 18 → μ9 x 12 = μ x 12) → Q (.inl none) μ9 ε) (h2 : ¬ jNo F i → ¬ (dz = 1 ∧ ¬ jMiss F S Z i) → ∀ μ9, CFz Z F μ9 ε → CJ (cs ++ [i]) μ9 → FrJ μ μ9 → (∀ x, x ≠ 17 → x ≠ 18 → μ9 x 12 = μ x 12) → Q (.inl none) μ9 ε) : Sp mX2_lookAt [vR 17, vR a] μ ε Q := by
  refine Sp_of (L := [(0, vR 17), (1, vR a)]) (by decide) rfl rfl (Nat.le_of_ble_eq_true rfl) ?_
  have hs := hC.1
  have hsT := hT.1
  have hr := hC.2.1
  have hk : eKind ε a = 5 := by rw [ha]; exact nRow_kd hs hr i
  have hb : nB μ a := by rw [ha]; exact nRow_nB hr i
  have hn0 : 0 ≤ a := by rw [ha]; exact nRow_0 hr i
  obtain ⟨b0, b1, b2, b3, b4, b5, b6, b9, b10, b11, b12, b13⟩ := id hb
  obtain ⟨ra, -⟩ := CFz_row hC i0 i1
  rw [← ha] at ra
  have f0 := ra 0 (by omega) (by omega)
  have f1 := ra 1 (by omega) (by omega)
  have f2 := ra 2 (by omega) (by omega)
  have f3 := ra 3 (by omega) (by omega)
  have f4 := ra 4 (by omega) (by omega)
  have f5 := ra 5 (by omega) (by omega)
  have f8 := ra 8 (by omega) (by omega)
  have f10 := ra 10 (by omega) (by omega)
  have hJ0 := hJ.1
  refine wq_aload_n (pc := 0) dX2_lookAt_0 rfl rfl ?_
  refine cV_0 (pc := 1) dX2_lookAt_1 (cw_X2_70 _ rfl) (by decide) (by with_reducible assumption) ⟨by decide, by decide⟩ (Nat.le_of_ble_eq_true rfl) (sp_X4_isWhole hk hb (fun hw => ?_) (fun hw => ?_))
  · skip
    refine kr_s ?_
    refine wq_if_eq (pc := 4) (tgt := 15) dX2_lookAt_4 (by decide) (by first | (unfold inR; omega) | assumption) (fun c => absurd c (by decide)) (fun _ => ?_)
    refine wq_aload_n (pc := 7) dX2_lookAt_7 rfl rfl ?_
    refine wq_getI (pc := 8) (kk := 0) dX2_lookAt_8 (gf_X2_34 _ rfl) (by with_reducible assumption) rfl rfl rfl ?_
    refine wq_iconst (pc := 11) dX2_lookAt_11 ?_
    refine wq_icmp_ne (pc := 12) (tgt := 16) dX2_lookAt_12 (by decide) (by first | (unfold inR; omega) | assumption) (by first | (unfold inR; omega) | assumption) (fun c4 => ?_) (fun c4 => ?_)
    · skip
      refine wq_aload_n (pc := 16) dX2_lookAt_16 rfl rfl ?_
      refine wq_getI (pc := 17) (kk := 12) dX2_lookAt_17 (gf_X2_95 _ rfl) (by with_reducible assumption) rfl rfl rfl ?_
      refine wq_if_eq (pc := 20) (tgt := 39) dX2_lookAt_20 (by decide) (by first | (unfold inR; omega) | assumption) (fun c5 => ?_) (fun c5 => ?_)
      · skip
        refine wq_aload_n (pc := 39) dX2_lookAt_39 rfl rfl ?_
        refine wq_getIK (pc := 40) (kk := 4) dX2_lookAt_40 hs (gf_X2_92 _ rfl) rfl rfl rfl rfl ?_
        refine wq_if_lt (pc := 43) (tgt := 75) dX2_lookAt_43 (by decide) (by first | (unfold inR; omega) | assumption) (fun c6 => ?_) (fun c6 => ?_)
        · skip
          refine wq_vret (pc := 75) dX2_lookAt_75 rfl ?_
          rw [f0, f1, f2] at hw
          first
            | (exfalso; omega)
            | exact h0 (Or.inl hw)
            | exact h0 (Or.inr (by omega))
            | (have hj9 : ¬ jNo F i := fun z => by rcases z with z | z; exact z hw; omega
               refine h1 hj9 ⟨by omega, hmi⟩ _ (by rw [ha]; exact CFz_13 hC i0 i1 hk0 (Or.inr rfl)) (CJ_keep hJ (fun j => ?_) ?_ (fun j => ?_)) (by rw [ha]; exact FrJ_row hC i0 i1 hk0 (Or.inr rfl)) (fun x x1 x2 => wr_n _ _ (by omega))
               all_goals (obtain ⟨z0, z1, z2⟩ := row_nz hC i0 i1 hk0; rw [← ha] at z2; exact wr_n _ _ (by omega)))
            | (have hj9 : ¬ jNo F i := fun z => by rcases z with z | z; exact z hw; omega
               refine h2 hj9 (fun z => by first | (exfalso; omega) | exact z.2 hmi) _ (CFz_mem hC (fun x j x1 x2 => ?_)) (CJ_add hJ hl i0 i1 ha) (FrJ_trans (FrJ_jd (Or.inr rfl)) (FrJ_jd (Or.inl rfl))) (fun x x1 x2 => ?_)
               all_goals rw [wr_n _ _ (by omega), wr_n _ _ (by omega)])
        · skip
          refine wq_aload_n (pc := 46) dX2_lookAt_46 rfl rfl ?_
          refine wq_getIK (pc := 47) (kk := 4) dX2_lookAt_47 hs (gf_X2_92 _ rfl) rfl rfl rfl rfl ?_
          refine wq_bipush (pc := 50) dX2_lookAt_50 (by decide) (by decide) ?_
          refine wq_icmp_ge (pc := 52) (tgt := 75) dX2_lookAt_52 (by decide) (by first | (unfold inR; omega) | assumption) (by first | (unfold inR; omega) | assumption) (fun c7 => ?_) (fun c7 => ?_)
          · skip
            refine wq_vret (pc := 75) dX2_lookAt_75 rfl ?_
            rw [f0, f1, f2] at hw
            first
              | (exfalso; omega)
              | exact h0 (Or.inl hw)
              | exact h0 (Or.inr (by omega))
              | (have hj9 : ¬ jNo F i := fun z => by rcases z with z | z; exact z hw; omega
                 refine h1 hj9 ⟨by omega, hmi⟩ _ (by rw [ha]; exact CFz_13 hC i0 i1 hk0 (Or.inr rfl)) (CJ_keep hJ (fun j => ?_) ?_ (fun j => ?_)) (by rw [ha]; exact FrJ_row hC i0 i1 hk0 (Or.inr rfl)) (fun x x1 x2 => wr_n _ _ (by omega))
                 all_goals (obtain ⟨z0, z1, z2⟩ := row_nz hC i0 i1 hk0; rw [← ha] at z2; exact wr_n _ _ (by omega)))
              | (have hj9 : ¬ jNo F i := fun z => by rcases z with z | z; exact z hw; omega
                 refine h2 hj9 (fun z => by first | (exfalso; omega) | exact z.2 hmi) _ (CFz_mem hC (fun x j x1 x2 => ?_)) (CJ_add hJ hl i0 i1 ha) (FrJ_trans (FrJ_jd (Or.inr rfl)) (FrJ_jd (Or.inl rfl))) (fun x x1 x2 => ?_)
                 all_goals rw [wr_n _ _ (by omega), wr_n _ _ (by omega)])
          · skip
            refine wq_aload_n (pc := 55) dX2_lookAt_55 rfl rfl ?_
            refine wq_getS (pc := 56) dX2_lookAt_56 hs (gf_X2_11 _ rfl) rfl rfl rfl rfl rfl ?_
            refine wq_aload_n (pc := 59) dX2_lookAt_59 rfl rfl ?_
            refine wq_getIK (pc := 60) (kk := 4) dX2_lookAt_60 hs (gf_X2_92 _ rfl) rfl rfl rfl rfl ?_
            refine wq_aload_n (pc := 63) dX2_lookAt_63 rfl rfl ?_
            refine wq_aastNK (pc := 64) dX2_lookAt_64 hs rfl (by omega) (by omega) (by with_reducible assumption) ?_
            refine wq_aload_n (pc := 65) dX2_lookAt_65 rfl rfl ?_
            refine wq_dup (pc := 66) dX2_lookAt_66 rfl ?_
            refine wq_getIK (pc := 67) (kk := 4) dX2_lookAt_67 hs (gf_X2_92 _ rfl) rfl rfl rfl rfl ?_
            refine wq_iconst (pc := 70) dX2_lookAt_70 ?_
            refine wq_iadd (pc := 71) dX2_lookAt_71 ?_
            refine wq_putIK (pc := 72) (kk := 4) dX2_lookAt_72 hs (gf_X2_92 _ rfl) rfl rfl rfl rfl rfl ?_
            refine wq_vret (pc := 75) dX2_lookAt_75 rfl ?_
            rw [f0, f1, f2] at hw
            first
              | (exfalso; omega)
              | exact h0 (Or.inl hw)
              | exact h0 (Or.inr (by omega))
              | (have hj9 : ¬ jNo F i := fun z => by rcases z with z | z; exact z hw; omega
                 refine h1 hj9 ⟨by omega, hmi⟩ _ (by rw [ha]; exact CFz_13 hC i0 i1 hk0 (Or.inr rfl)) (CJ_keep hJ (fun j => ?_) ?_ (fun j => ?_)) (by rw [ha]; exact FrJ_row hC i0 i1 hk0 (Or.inr rfl)) (fun x x1 x2 => wr_n _ _ (by omega))
                 all_goals (obtain ⟨z0, z1, z2⟩ := row_nz hC i0 i1 hk0; rw [← ha] at z2; exact wr_n _ _ (by omega)))
              | (have hj9 : ¬ jNo F i := fun z => by rcases z with z | z; exact z hw; omega
                 refine h2 hj9 (fun z => by first | (exfalso; omega) | exact z.2 hmi) _ (CFz_mem hC (fun x j x1 x2 => ?_)) (CJ_add hJ hl i0 i1 ha) (FrJ_trans (FrJ_jd (Or.inr rfl)) (FrJ_jd (Or.inl rfl))) (fun x x1 x2 => ?_)
                 all_goals rw [wr_n _ _ (by omega), wr_n _ _ (by omega)])
      · skip
        refine wq_aload_n (pc := 23) dX2_lookAt_23 rfl rfl ?_
        refine wq_aload_n (pc := 24) dX2_lookAt_24 rfl rfl ?_
        refine cVK_1 (pc := 25) dX2_lookAt_25 hs (cw_X2_106 _ rfl) (by decide) rfl ⟨by decide, by decide⟩ (Nat.le_of_ble_eq_true rfl) (sp_X2_isMissed hC hT hB i0 i1 ha (by omega) hZ (fun hmi => ?_) (fun hmi => ?_))
        · skip
          refine kr_s ?_
          refine wq_if_ne (pc := 28) (tgt := 39) dX2_lookAt_28 (by decide) (by first | (unfold inR; omega) | assumption) (fun _ => ?_) (fun c => absurd c (by decide))
          refine wq_aload_n (pc := 39) dX2_lookAt_39 rfl rfl ?_
          refine wq_getIK (pc := 40) (kk := 4) dX2_lookAt_40 hs (gf_X2_92 _ rfl) rfl rfl rfl rfl ?_
          refine wq_if_lt (pc := 43) (tgt := 75) dX2_lookAt_43 (by decide) (by first | (unfold inR; omega) | assumption) (fun c11 => ?_) (fun c11 => ?_)
          · skip
            refine wq_vret (pc := 75) dX2_lookAt_75 rfl ?_
            rw [f0, f1, f2] at hw
            first
              | (exfalso; omega)
              | exact h0 (Or.inl hw)
              | exact h0 (Or.inr (by omega))
              | (have hj9 : ¬ jNo F i := fun z => by rcases z with z | z; exact z hw; omega
                 refine h1 hj9 ⟨by omega, hmi⟩ _ (by rw [ha]; exact CFz_13 hC i0 i1 hk0 (Or.inr rfl)) (CJ_keep hJ (fun j => ?_) ?_ (fun j => ?_)) (by rw [ha]; exact FrJ_row hC i0 i1 hk0 (Or.inr rfl)) (fun x x1 x2 => wr_n _ _ (by omega))
                 all_goals (obtain ⟨z0, z1, z2⟩ := row_nz hC i0 i1 hk0; rw [← ha] at z2; exact wr_n _ _ (by omega)))
              | (have hj9 : ¬ jNo F i := fun z => by rcases z with z | z; exact z hw; omega
                 refine h2 hj9 (fun z => by first | (exfalso; omega) | exact z.2 hmi) _ (CFz_mem hC (fun x j x1 x2 => ?_)) (CJ_add hJ hl i0 i1 ha) (FrJ_trans (FrJ_jd (Or.inr rfl)) (FrJ_jd (Or.inl rfl))) (fun x x1 x2 => ?_)
                 all_goals rw [wr_n _ _ (by omega), wr_n _ _ (by omega)])
          · skip
            refine wq_aload_n (pc := 46) dX2_lookAt_46 rfl rfl ?_
            refine wq_getIK (pc := 47) (kk := 4) dX2_lookAt_47 hs (gf_X2_92 _ rfl) rfl rfl rfl rfl ?_
            refine wq_bipush (pc := 50) dX2_lookAt_50 (by decide) (by decide) ?_
            refine wq_icmp_ge (pc := 52) (tgt := 75) dX2_lookAt_52 (by decide) (by first | (unfold inR; omega) | assumption) (by first | (unfold inR; omega) | assumption) (fun c12 => ?_) (fun c12 => ?_)
            · skip
              refine wq_vret (pc := 75) dX2_lookAt_75 rfl ?_
              rw [f0, f1, f2] at hw
              first
                | (exfalso; omega)
                | exact h0 (Or.inl hw)
                | exact h0 (Or.inr (by omega))
                | (have hj9 : ¬ jNo F i := fun z => by rcases z with z | z; exact z hw; omega
                   refine h1 hj9 ⟨by omega, hmi⟩ _ (by rw [ha]; exact CFz_13 hC i0 i1 hk0 (Or.inr rfl)) (CJ_keep hJ (fun j => ?_) ?_ (fun j => ?_)) (by rw [ha]; exact FrJ_row hC i0 i1 hk0 (Or.inr rfl)) (fun x x1 x2 => wr_n _ _ (by omega))
                   all_goals (obtain ⟨z0, z1, z2⟩ := row_nz hC i0 i1 hk0; rw [← ha] at z2; exact wr_n _ _ (by omega)))
                | (have hj9 : ¬ jNo F i := fun z => by rcases z with z | z; exact z hw; omega
                   refine h2 hj9 (fun z => by first | (exfalso; omega) | exact z.2 hmi) _ (CFz_mem hC (fun x j x1 x2 => ?_)) (CJ_add hJ hl i0 i1 ha) (FrJ_trans (FrJ_jd (Or.inr rfl)) (FrJ_jd (Or.inl rfl))) (fun x x1 x2 => ?_)
                   all_goals rw [wr_n _ _ (by omega), wr_n _ _ (by omega)])
            · skip
              refine wq_aload_n (pc := 55) dX2_lookAt_55 rfl rfl ?_
              refine wq_getS (pc := 56) dX2_lookAt_56 hs (gf_X2_11 _ rfl) rfl rfl rfl rfl rfl ?_
              refine wq_aload_n (pc := 59) dX2_lookAt_59 rfl rfl ?_
              refine wq_getIK (pc := 60) (kk := 4) dX2_lookAt_60 hs (gf_X2_92 _ rfl) rfl rfl rfl rfl ?_
              refine wq_aload_n (pc := 63) dX2_lookAt_63 rfl rfl ?_
              refine wq_aastNK (pc := 64) dX2_lookAt_64 hs rfl (by omega) (by omega) (by with_reducible assumption) ?_
              refine wq_aload_n (pc := 65) dX2_lookAt_65 rfl rfl ?_
              refine wq_dup (pc := 66) dX2_lookAt_66 rfl ?_
              refine wq_getIK (pc := 67) (kk := 4) dX2_lookAt_67 hs (gf_X2_92 _ rfl) rfl rfl rfl rfl ?_
              refine wq_iconst (pc := 70) dX2_lookAt_70 ?_
              refine wq_iadd (pc := 71) dX2_lookAt_71 ?_
              refine wq_putIK (pc := 72) (kk := 4) dX2_lookAt_72 hs (gf_X2_92 _ rfl) rfl rfl rfl rfl rfl ?_
              refine wq_vret (pc := 75) dX2_lookAt_75 rfl ?_
              rw [f0, f1, f2] at hw
              first
                | (exfalso; omega)
                | exact h0 (Or.inl hw)
                | exact h0 (Or.inr (by omega))
                | (have hj9 : ¬ jNo F i := fun z => by rcases z with z | z; exact z hw; omega
                   refine h1 hj9 ⟨by omega, hmi⟩ _ (by rw [ha]; exact CFz_13 hC i0 i1 hk0 (Or.inr rfl)) (CJ_keep hJ (fun j => ?_) ?_ (fun j => ?_)) (by rw [ha]; exact FrJ_row hC i0 i1 hk0 (Or.inr rfl)) (fun x x1 x2 => wr_n _ _ (by omega))
                   all_goals (obtain ⟨z0, z1, z2⟩ := row_nz hC i0 i1 hk0; rw [← ha] at z2; exact wr_n _ _ (by omega)))
                | (have hj9 : ¬ jNo F i := fun z => by rcases z with z | z; exact z hw; omega
                   refine h2 hj9 (fun z => by first | (exfalso; omega) | exact z.2 hmi) _ (CFz_mem hC (fun x j x1 x2 => ?_)) (CJ_add hJ hl i0 i1 ha) (FrJ_trans (FrJ_jd (Or.inr rfl)) (FrJ_jd (Or.inl rfl))) (fun x x1 x2 => ?_)
                   all_goals rw [wr_n _ _ (by omega), wr_n _ _ (by omega)])
        · skip
          refine kr_s ?_
          refine wq_if_ne (pc := 28) (tgt := 39) dX2_lookAt_28 (by decide) (by first | (unfold inR; omega) | assumption) (fun c => absurd c (by decide)) (fun _ => ?_)
          refine wq_aload_n (pc := 31) dX2_lookAt_31 rfl rfl ?_
          refine wq_iconst (pc := 32) dX2_lookAt_32 ?_
          refine wq_putZ (pc := 33) (kk := 13) dX2_lookAt_33 (gf_X2_103 _ rfl) (by with_reducible assumption) rfl rfl rfl rfl (by first | omega | (simp; done) | assumption) ?_
          refine wq_goto (pc := 36) (tgt := 75) dX2_lookAt_36 (by decide) ?_
          refine wq_vret (pc := 75) dX2_lookAt_75 rfl ?_
          rw [f0, f1, f2] at hw
          first
            | (exfalso; omega)
            | exact h0 (Or.inl hw)
            | exact h0 (Or.inr (by omega))
            | (have hj9 : ¬ jNo F i := fun z => by rcases z with z | z; exact z hw; omega
               refine h1 hj9 ⟨by omega, hmi⟩ _ (by rw [ha]; exact CFz_13 hC i0 i1 hk0 (Or.inr rfl)) (CJ_keep hJ (fun j => ?_) ?_ (fun j => ?_)) (by rw [ha]; exact FrJ_row hC i0 i1 hk0 (Or.inr rfl)) (fun x x1 x2 => wr_n _ _ (by omega))
               all_goals (obtain ⟨z0, z1, z2⟩ := row_nz hC i0 i1 hk0; rw [← ha] at z2; exact wr_n _ _ (by omega)))
            | (have hj9 : ¬ jNo F i := fun z => by rcases z with z | z; exact z hw; omega
               refine h2 hj9 (fun z => by first | (exfalso; omega) | exact z.2 hmi) _ (CFz_mem hC (fun x j x1 x2 => ?_)) (CJ_add hJ hl i0 i1 ha) (FrJ_trans (FrJ_jd (Or.inr rfl)) (FrJ_jd (Or.inl rfl))) (fun x x1 x2 => ?_)
               all_goals rw [wr_n _ _ (by omega), wr_n _ _ (by omega)])
    · skip
      refine wq_vret (pc := 15) dX2_lookAt_15 rfl ?_
      rw [f0, f1, f2] at hw
      first
        | (exfalso; omega)
        | exact h0 (Or.inl hw)
        | exact h0 (Or.inr (by omega))
        | (have hj9 : ¬ jNo F i := fun z => by rcases z with z | z; exact z hw; omega
           refine h1 hj9 ⟨by omega, hmi⟩ _ (by rw [ha]; exact CFz_13 hC i0 i1 hk0 (Or.inr rfl)) (CJ_keep hJ (fun j => ?_) ?_ (fun j => ?_)) (by rw [ha]; exact FrJ_row hC i0 i1 hk0 (Or.inr rfl)) (fun x x1 x2 => wr_n _ _ (by omega))
           all_goals (obtain ⟨z0, z1, z2⟩ := row_nz hC i0 i1 hk0; rw [← ha] at z2; exact wr_n _ _ (by omega)))
        | (have hj9 : ¬ jNo F i := fun z => by rcases z with z | z; exact z hw; omega
           refine h2 hj9 (fun z => by first | (exfalso; omega) | exact z.2 hmi) _ (CFz_mem hC (fun x j x1 x2 => ?_)) (CJ_add hJ hl i0 i1 ha) (FrJ_trans (FrJ_jd (Or.inr rfl)) (FrJ_jd (Or.inl rfl))) (fun x x1 x2 => ?_)
           all_goals rw [wr_n _ _ (by omega), wr_n _ _ (by omega)])
  · skip
    refine kr_s ?_
    refine wq_if_eq (pc := 4) (tgt := 15) dX2_lookAt_4 (by decide) (by first | (unfold inR; omega) | assumption) (fun _ => ?_) (fun c => absurd c (by decide))
    refine wq_vret (pc := 15) dX2_lookAt_15 rfl ?_
    rw [f0, f1, f2] at hw
    first
      | (exfalso; omega)
      | exact h0 (Or.inl hw)
      | exact h0 (Or.inr (by omega))
      | (have hj9 : ¬ jNo F i := fun z => by rcases z with z | z; exact z hw; omega
         refine h1 hj9 ⟨by omega, hmi⟩ _ (by rw [ha]; exact CFz_13 hC i0 i1 hk0 (Or.inr rfl)) (CJ_keep hJ (fun j => ?_) ?_ (fun j => ?_)) (by rw [ha]; exact FrJ_row hC i0 i1 hk0 (Or.inr rfl)) (fun x x1 x2 => wr_n _ _ (by omega))
         all_goals (obtain ⟨z0, z1, z2⟩ := row_nz hC i0 i1 hk0; rw [← ha] at z2; exact wr_n _ _ (by omega)))
      | (have hj9 : ¬ jNo F i := fun z => by rcases z with z | z; exact z hw; omega
         refine h2 hj9 (fun z => by first | (exfalso; omega) | exact z.2 hmi) _ (CFz_mem hC (fun x j x1 x2 => ?_)) (CJ_add hJ hl i0 i1 ha) (FrJ_trans (FrJ_jd (Or.inr rfl)) (FrJ_jd (Or.inl rfl))) (fun x x1 x2 => ?_)
         all_goals rw [wr_n _ _ (by omega), wr_n _ _ (by omega)])
theorem sp_X2_choose {μ : nMem} {ε : nEnv} {Q : nOut → nMem → nEnv → Prop} {F : Fl} {S : Tr} {b : Int} (hC : CF F μ ε) (hT : CT S μ ε) (hB : tB S) (hb : 0 ≤ b ∧ b < 8) (hcnt : 0 ≤ fC F b ∧ fC F b ≤ 16) (hW : blkK F b) (h : ∀ μ9, CF F μ9 ε → CT S μ9 ε → CJ (ck F S b (fC F b).toNat).2 μ9 → FrJ μ μ9 → Q (.inl (some (vI (((ck F S b (fC F b).toNat).2.length : Nat) : Int)))) μ9 ε) : Sp mX2_choose [vR 17, vI b] μ ε Q := by
  refine Sp_of (L := [(0, vR 17), (1, vI b)]) (by decide) rfl rfl (Nat.le_of_ble_eq_true rfl) ?_
  have hs := hC.1
  have hr := hC.2.1
  have hcn := (hC.2.2.2.2.1 b hb.1 hb.2).2.1
  refine wq_aload_n (pc := 0) dX2_choose_0 rfl rfl ?_
  refine wq_getS (pc := 1) dX2_choose_1 hs (gf_X2_22 _ rfl) rfl rfl rfl rfl rfl ?_
  refine wq_iload_n (pc := 4) dX2_choose_4 rfl rfl ?_
  refine cVK_1 (pc := 5) dX2_choose_5 hs (cw_X2_78 _ rfl) (by decide) rfl ⟨by decide, by decide⟩ (Nat.le_of_ble_eq_true rfl) (sq_X0_countOf hs hb ?_)
  refine kr_s ?_
  rw [hcn]
  generalize hc9 : fC F b = c at hcnt ⊢
  have hcc : c = fC F b := hc9.symm
  rw [← hc9] at hcnt
  refine wq_istore_n (pc := 8) (L' := [(2, _), (0, _), (1, _)]) dX2_choose_8 rfl rfl (by decide) ?_
  refine wq_iconst (pc := 9) dX2_choose_9 ?_
  refine wq_istore_n (pc := 10) (L' := [(3, _), (2, _), (0, _), (1, _)]) dX2_choose_10 rfl rfl (by decide) ?_
  have loop1 : ∀ (n k : Nat), ∀ (m : nMem) (i : Int), k ≤ (fC F b).toNat → (fC F b).toNat < k + n → i = (k : Int) → CF F m ε → CT S m ε → FrJ μ m → (∀ p : Nat, p < k → m (nRow m (b * 16 + p)) 12 = jd F S (b * 16 + p)) → wp mX2_choose 11 [(0, vR 17), (1, vI b), (2, vI c), (3, vI i)] [] m ε Q := by
    intro n
    induction n with
    | zero => intro k m i hk1 hk2 e0 e1 e2 e3 e4; exact absurd hk2 (by omega)
    | succ n ih =>
      intro k m i hk1 hk2 e0 e1 e2 e3 e4
      subst e0
      have hs := e1.1
      have hr := e1.2.1
      have hk0 : (k : Int) < fC F b → fN F (b * 16 + (k : Int)) 0 ≠ 0 := fun q => hW k (by omega) q
      refine wq_iload_n (pc := 11) dX2_choose_11 rfl rfl ?_
      refine wq_iload_n (pc := 12) dX2_choose_12 rfl rfl ?_
      refine wq_icmp_ge (pc := 13) (tgt := 44) dX2_choose_13 (by decide) (by first | (unfold inR; omega) | assumption) (by first | (unfold inR; omega) | assumption) (fun c2 => ?_) (fun c2 => ?_)
      · skip
        refine wq_aload_n (pc := 44) dX2_choose_44 rfl rfl ?_
        refine wq_iconst (pc := 45) dX2_choose_45 ?_
        refine wq_putIK (pc := 46) (kk := 4) dX2_choose_46 hs (gf_X2_92 _ rfl) rfl rfl rfl rfl rfl ?_
        have C2 : CFz (ck F S b 0).1 F (wr m 17 4 0) ε := CFz_mem (CFz_of e1) (fun x j x1 x2 => wr_n _ _ (by omega))
        have F2a : FrJ m (wr m 17 4 0) := FrJ_jd (Or.inl rfl)
        have T2 := (CT_FrJ e2 e1.2.1 F2a).1
        have J2 : CJ (ck F S b 0).2 (wr m 17 4 0) := ⟨by rw [wr_s]; rfl, Nat.zero_le _, fun i hi => absurd hi (Nat.not_lt_zero _)⟩
        have F2 := FrJ_trans e3 F2a
        have hr9 := e1.2.1
        have W2 : ∀ p : Nat, p < (fC F b).toNat → wr m 17 4 0 (nRow (wr m 17 4 0) (b * 16 + p)) 12 = jd F S (b * 16 + p) := fun p hp => by
          have far : nRow m (b * 16 + p) = 7 ∨ 20 < nRow m (b * 16 + p) := by rcases nRow_far hr9 (b * 16 + p) with z | z; exact Or.inl z; exact Or.inr z.1
          rw [nRow_congr F2a.1, wr_n _ _ (by omega)]; exact e4 p (by omega)
        refine wq_iconst (pc := 49) dX2_choose_49 ?_
        refine wq_istore_n (pc := 50) (L' := [(3, _), (0, _), (1, _), (2, _)]) dX2_choose_50 rfl rfl (by decide) ?_
        have loop3 : ∀ (n k : Nat), ∀ (m : nMem) (i : Int), k ≤ (fC F b).toNat → (fC F b).toNat < k + n → i = (k : Int) → CFz (ck F S b k).1 F m ε → CT S m ε → CJ (ck F S b k).2 m → FrJ μ m → (∀ p : Nat, p < (fC F b).toNat → m (nRow m (b * 16 + p)) 12 = jd F S (b * 16 + p)) → wp mX2_choose 51 [(0, vR 17), (1, vI b), (2, vI c), (3, vI i)] [] m ε Q := by
          intro n
          induction n with
          | zero => intro k m i hk1 hk2 e0 e1 e2 e3 e4 e5; exact absurd hk2 (by omega)
          | succ n ih =>
            intro k m i hk1 hk2 e0 e1 e2 e3 e4 e5
            subst e0
            have hs := e1.1
            have hr := e1.2.1
            have hk0 : (k : Int) < fC F b → fN F (b * 16 + (k : Int)) 0 ≠ 0 := fun q => hW k (by omega) q
            refine wq_iload_n (pc := 51) dX2_choose_51 rfl rfl ?_
            refine wq_iload_n (pc := 52) dX2_choose_52 rfl rfl ?_
            refine wq_icmp_ge (pc := 53) (tgt := 75) dX2_choose_53 (by decide) (by first | (unfold inR; omega) | assumption) (by first | (unfold inR; omega) | assumption) (fun c4 => ?_) (fun c4 => ?_)
            · skip
              have ek9 : (fC F b).toNat = k := by omega
              have e1z : CFz (ck F S b (fC F b).toNat).1 F m ε := by rw [ek9]; exact e1
              have C3 : CFz (fun j => if b * 16 ≤ j ∧ j < b * 16 + ((0 : Nat) : Int) then 0 else (ck F S b (fC F b).toNat).1 j) F m ε := CFz_ext e1z (fun j _ _ => by rw [if_neg (by omega)])
              have J3 : CJ (ck F S b (fC F b).toNat).2 m := by rw [ek9]; exact e3
              refine wq_iconst (pc := 75) dX2_choose_75 ?_
              refine wq_istore_n (pc := 76) (L' := [(3, _), (0, _), (1, _), (2, _)]) dX2_choose_76 rfl rfl (by decide) ?_
              have loop5 : ∀ (n k : Nat), ∀ (m : nMem) (i : Int), k ≤ (fC F b).toNat → (fC F b).toNat < k + n → i = (k : Int) → CFz (fun j => if b * 16 ≤ j ∧ j < b * 16 + k then 0 else (ck F S b (fC F b).toNat).1 j) F m ε → CT S m ε → CJ (ck F S b (fC F b).toNat).2 m → FrJ μ m → wp mX2_choose 77 [(0, vR 17), (1, vI b), (2, vI c), (3, vI i)] [] m ε Q := by
                intro n
                induction n with
                | zero => intro k m i hk1 hk2 e0 e1 e2 e3 e4; exact absurd hk2 (by omega)
                | succ n ih =>
                  intro k m i hk1 hk2 e0 e1 e2 e3 e4
                  subst e0
                  have hs := e1.1
                  have hr := e1.2.1
                  have hk0 : (k : Int) < fC F b → fN F (b * 16 + (k : Int)) 0 ≠ 0 := fun q => hW k (by omega) q
                  refine wq_iload_n (pc := 77) dX2_choose_77 rfl rfl ?_
                  refine wq_iload_n (pc := 78) dX2_choose_78 rfl rfl ?_
                  refine wq_icmp_ge (pc := 79) (tgt := 101) dX2_choose_79 (by decide) (by first | (unfold inR; omega) | assumption) (by first | (unfold inR; omega) | assumption) (fun c6 => ?_) (fun c6 => ?_)
                  · skip
                    refine wq_aload_n (pc := 101) dX2_choose_101 rfl rfl ?_
                    refine wq_getIK (pc := 102) (kk := 4) dX2_choose_102 hs (gf_X2_92 _ rfl) rfl rfl rfl rfl ?_
                    refine wq_iret (pc := 105) dX2_choose_105 rfl ?_
                    have hcz : CF F m ε := CF_of e1 (fun j j0 j1 => by
                      by_cases q : b * 16 ≤ j ∧ j < b * 16 + k
                      · rw [if_pos q]
                      · rw [if_neg q]; exact ck_z F S b _ j (by omega))
                    rw [e3.1]
                    exact h _ hcz e2 e3 e4
                  · skip
                    refine wq_aload_n (pc := 82) dX2_choose_82 rfl rfl ?_
                    refine wq_getS (pc := 83) dX2_choose_83 hs (gf_X2_22 _ rfl) rfl rfl rfl rfl rfl ?_
                    refine wq_iload_n (pc := 86) dX2_choose_86 rfl rfl ?_
                    refine wq_iload_n (pc := 87) dX2_choose_87 rfl rfl ?_
                    refine cVK_2 (pc := 88) dX2_choose_88 hs (cw_X2_82 _ rfl) (by decide) rfl ⟨by decide, by decide⟩ (Nat.le_of_ble_eq_true rfl) (sp_X0_at e1.1 (by unfold inR; omega) (by unfold inR; omega) ?_)
                    refine kr_s ?_
                    rw [nAtB_in hb (by omega)]
                    have hkn := nRow_kd hs hr (b * 16 + (k : Int))
                    have hnb := nRow_nB hr (b * 16 + (k : Int))
                    refine wq_iconst (pc := 91) dX2_choose_91 ?_
                    refine wq_putZ (pc := 92) (kk := 13) dX2_choose_92 (gf_X2_103 _ rfl) (by with_reducible assumption) rfl rfl rfl rfl (by first | omega | (simp; done) | assumption) ?_
                    refine wq_iinc (pc := 95) (L' := [(3, _), (0, _), (1, _), (2, _)]) dX2_choose_95 rfl rfl (by decide) ?_
                    refine wq_goto (pc := 98) (tgt := 77) dX2_choose_98 (by decide) ?_
                    refine wq_sub1 (L' := [(0, _), (1, _), (2, _), (3, _)]) ⟨rfl, rfl, rfl, rfl, trivial⟩ ?_
                    have hF := FrJ_row (k := 13) e1 (i := b * 16 + (k : Int)) (by omega) (by omega) (hk0 (by omega)) (Or.inr rfl) (v := 0)
                    have hC1 := CFz_13 (v := 0) e1 (i := b * 16 + (k : Int)) (by omega) (by omega) (hk0 (by omega)) (Or.inl rfl)
                    obtain ⟨z0, z1, z2⟩ := row_nz e1 (i := b * 16 + (k : Int)) (by omega) (by omega) (hk0 (by omega))
                    refine ih (k + 1) _ _ (by omega) (by omega) (by omega) (CFz_ext hC1 (fun j j0 j1 => ?_)) (CT_FrJ e2 hr hF).1 (CJ_keep e3 hF.1 (wr_n _ _ (by omega)) (fun j => wr_n _ _ (by omega))) (FrJ_trans e4 hF)
                    unfold zSet
                    by_cases ej : j = b * 16 + k
                    · rw [if_pos ej, if_pos (by omega)]
                    · rw [if_neg ej]
                      show _ = if b * 16 ≤ j ∧ j < b * 16 + (k : Int) then 0 else _
                      by_cases ej2 : b * 16 ≤ j ∧ j < b * 16 + k
                      · rw [if_pos ej2, if_pos (by omega)]
                      · rw [if_neg ej2, if_neg (by omega)]
              refine wq_sub1 (L' := [(0, _), (1, _), (2, _), (3, _)]) ⟨rfl, rfl, rfl, rfl, trivial⟩ ?_
              exact loop5 ((fC F b).toNat + 1) 0 m _ (by omega) (by omega) (by omega) C3 e2 J3 e4
            · skip
              refine wq_aload_n (pc := 56) dX2_choose_56 rfl rfl ?_
              refine wq_aload_n (pc := 57) dX2_choose_57 rfl rfl ?_
              refine wq_getS (pc := 58) dX2_choose_58 hs (gf_X2_22 _ rfl) rfl rfl rfl rfl rfl ?_
              refine wq_iload_n (pc := 61) dX2_choose_61 rfl rfl ?_
              refine wq_iload_n (pc := 62) dX2_choose_62 rfl rfl ?_
              refine cVK_2 (pc := 63) dX2_choose_63 hs (cw_X2_82 _ rfl) (by decide) rfl ⟨by decide, by decide⟩ (Nat.le_of_ble_eq_true rfl) (sp_X0_at e1.1 (by unfold inR; omega) (by unfold inR; omega) ?_)
              refine kr_s ?_
              rw [nAtB_in hb (by omega)]
              have hkn := nRow_kd hs hr (b * 16 + (k : Int))
              have hnb := nRow_nB hr (b * 16 + (k : Int))
              refine cVK_1 (pc := 66) dX2_choose_66 hs (cw_X2_99 _ rfl) (by decide) rfl ⟨by decide, by decide⟩ (Nat.le_of_ble_eq_true rfl) (sp_X2_lookAt e1 e2 hB (i := b * 16 + (k : Int)) (by omega) (by omega) rfl (hk0 (by omega)) (ck_z F S b k _ (by omega)) e3 (by have := ck_l F S b k; omega) (e5 k (by omega)) (jd_r _ _ _) (fun hjn => ?_) (fun hjn hj2 m1 C1 J1 F1 W1 => ?_) (fun hjn hj2 m1 C1 J1 F1 W1 => ?_))
              · skip
                refine kr_v ?_
                refine wq_iinc (pc := 69) (L' := [(3, _), (0, _), (1, _), (2, _)]) dX2_choose_69 rfl rfl (by decide) ?_
                refine wq_goto (pc := 72) (tgt := 51) dX2_choose_72 (by decide) ?_
                refine wq_sub1 (L' := [(0, _), (1, _), (2, _), (3, _)]) ⟨rfl, rfl, rfl, rfl, trivial⟩ ?_
                have hjj : ∀ q : Int, q = jd F S (b * 16 + k) → (q = 1 ↔ jDead F F S (b * 16 + k)) := fun q hq => by
                  rw [hq]
                  constructor
                  · intro z
                    by_cases w : jDead F F S (b * 16 + k)
                    · exact w
                    · rw [jd_0 w] at z; omega
                  · intro z; exact jd_1 z
                have hw12 : ∀ m1 : nMem, FrJ m m1 → (∀ x, x ≠ 17 → x ≠ 18 → m1 x 12 = m x 12) → ∀ p : Nat, p < (fC F b).toNat → m1 (nRow m1 (b * 16 + p)) 12 = jd F S (b * 16 + p) := fun m1 f1 w1 p hp => by
                  have far : nRow m (b * 16 + p) = 7 ∨ 20 < nRow m (b * 16 + p) := by rcases nRow_far hr (b * 16 + p) with z | z; exact Or.inl z; exact Or.inr z.1
                  rw [nRow_congr f1.1, w1 _ (by omega) (by omega)]; exact e5 p hp
                first
                  | (have es : ck F S b (k + 1) = ck F S b k := by rw [ck_s]; exact ckS_0 hjn
                     exact ih (k + 1) m _ (by omega) (by omega) (by omega) (by rw [es]; exact e1) e2 (by rw [es]; exact e3) e4 e5)
                  | (have es : ck F S b (k + 1) = (zSet (ck F S b k).1 (b * 16 + k) 1, (ck F S b k).2) := by rw [ck_s]; exact ckS_1 hjn ⟨(hjj _ rfl).mp hj2.1, hj2.2⟩
                     exact ih (k + 1) m1 _ (by omega) (by omega) (by omega) (by rw [es]; exact C1) (CT_FrJ e2 hr F1).1 (by rw [es]; exact J1) (FrJ_trans e4 F1) (hw12 m1 F1 W1))
                  | (have es : ck F S b (k + 1) = ((ck F S b k).1, (ck F S b k).2 ++ [b * 16 + (k : Int)]) := by rw [ck_s]; exact ckS_2 hjn (fun z => hj2 ⟨(hjj _ rfl).mpr z.1, z.2⟩)
                     exact ih (k + 1) m1 _ (by omega) (by omega) (by omega) (by rw [es]; exact C1) (CT_FrJ e2 hr F1).1 (by rw [es]; exact J1) (FrJ_trans e4 F1) (hw12 m1 F1 W1))
              · skip
                refine kr_v ?_
                refine wq_iinc (pc := 69) (L' := [(3, _), (0, _), (1, _), (2, _)]) dX2_choose_69 rfl rfl (by decide) ?_
                refine wq_goto (pc := 72) (tgt := 51) dX2_choose_72 (by decide) ?_
                refine wq_sub1 (L' := [(0, _), (1, _), (2, _), (3, _)]) ⟨rfl, rfl, rfl, rfl, trivial⟩ ?_
                have hjj : ∀ q : Int, q = jd F S (b * 16 + k) → (q = 1 ↔ jDead F F S (b * 16 + k)) := fun q hq => by
                  rw [hq]
                  constructor
                  · intro z
                    by_cases w : jDead F F S (b * 16 + k)
                    · exact w
                    · rw [jd_0 w] at z; omega
                  · intro z; exact jd_1 z
                have hw12 : ∀ m1 : nMem, FrJ m m1 → (∀ x, x ≠ 17 → x ≠ 18 → m1 x 12 = m x 12) → ∀ p : Nat, p < (fC F b).toNat → m1 (nRow m1 (b * 16 + p)) 12 = jd F S (b * 16 + p) := fun m1 f1 w1 p hp => by
                  have far : nRow m (b * 16 + p) = 7 ∨ 20 < nRow m (b * 16 + p) := by rcases nRow_far hr (b * 16 + p) with z | z; exact Or.inl z; exact Or.inr z.1
                  rw [nRow_congr f1.1, w1 _ (by omega) (by omega)]; exact e5 p hp
                first
                  | (have es : ck F S b (k + 1) = ck F S b k := by rw [ck_s]; exact ckS_0 hjn
                     exact ih (k + 1) m _ (by omega) (by omega) (by omega) (by rw [es]; exact e1) e2 (by rw [es]; exact e3) e4 e5)
                  | (have es : ck F S b (k + 1) = (zSet (ck F S b k).1 (b * 16 + k) 1, (ck F S b k).2) := by rw [ck_s]; exact ckS_1 hjn ⟨(hjj _ rfl).mp hj2.1, hj2.2⟩
                     exact ih (k + 1) m1 _ (by omega) (by omega) (by omega) (by rw [es]; exact C1) (CT_FrJ e2 hr F1).1 (by rw [es]; exact J1) (FrJ_trans e4 F1) (hw12 m1 F1 W1))
                  | (have es : ck F S b (k + 1) = ((ck F S b k).1, (ck F S b k).2 ++ [b * 16 + (k : Int)]) := by rw [ck_s]; exact ckS_2 hjn (fun z => hj2 ⟨(hjj _ rfl).mpr z.1, z.2⟩)
                     exact ih (k + 1) m1 _ (by omega) (by omega) (by omega) (by rw [es]; exact C1) (CT_FrJ e2 hr F1).1 (by rw [es]; exact J1) (FrJ_trans e4 F1) (hw12 m1 F1 W1))
              · skip
                refine kr_v ?_
                refine wq_iinc (pc := 69) (L' := [(3, _), (0, _), (1, _), (2, _)]) dX2_choose_69 rfl rfl (by decide) ?_
                refine wq_goto (pc := 72) (tgt := 51) dX2_choose_72 (by decide) ?_
                refine wq_sub1 (L' := [(0, _), (1, _), (2, _), (3, _)]) ⟨rfl, rfl, rfl, rfl, trivial⟩ ?_
                have hjj : ∀ q : Int, q = jd F S (b * 16 + k) → (q = 1 ↔ jDead F F S (b * 16 + k)) := fun q hq => by
                  rw [hq]
                  constructor
                  · intro z
                    by_cases w : jDead F F S (b * 16 + k)
                    · exact w
                    · rw [jd_0 w] at z; omega
                  · intro z; exact jd_1 z
                have hw12 : ∀ m1 : nMem, FrJ m m1 → (∀ x, x ≠ 17 → x ≠ 18 → m1 x 12 = m x 12) → ∀ p : Nat, p < (fC F b).toNat → m1 (nRow m1 (b * 16 + p)) 12 = jd F S (b * 16 + p) := fun m1 f1 w1 p hp => by
                  have far : nRow m (b * 16 + p) = 7 ∨ 20 < nRow m (b * 16 + p) := by rcases nRow_far hr (b * 16 + p) with z | z; exact Or.inl z; exact Or.inr z.1
                  rw [nRow_congr f1.1, w1 _ (by omega) (by omega)]; exact e5 p hp
                first
                  | (have es : ck F S b (k + 1) = ck F S b k := by rw [ck_s]; exact ckS_0 hjn
                     exact ih (k + 1) m _ (by omega) (by omega) (by omega) (by rw [es]; exact e1) e2 (by rw [es]; exact e3) e4 e5)
                  | (have es : ck F S b (k + 1) = (zSet (ck F S b k).1 (b * 16 + k) 1, (ck F S b k).2) := by rw [ck_s]; exact ckS_1 hjn ⟨(hjj _ rfl).mp hj2.1, hj2.2⟩
                     exact ih (k + 1) m1 _ (by omega) (by omega) (by omega) (by rw [es]; exact C1) (CT_FrJ e2 hr F1).1 (by rw [es]; exact J1) (FrJ_trans e4 F1) (hw12 m1 F1 W1))
                  | (have es : ck F S b (k + 1) = ((ck F S b k).1, (ck F S b k).2 ++ [b * 16 + (k : Int)]) := by rw [ck_s]; exact ckS_2 hjn (fun z => hj2 ⟨(hjj _ rfl).mpr z.1, z.2⟩)
                     exact ih (k + 1) m1 _ (by omega) (by omega) (by omega) (by rw [es]; exact C1) (CT_FrJ e2 hr F1).1 (by rw [es]; exact J1) (FrJ_trans e4 F1) (hw12 m1 F1 W1))
        refine wq_sub1 (L' := [(0, _), (1, _), (2, _), (3, _)]) ⟨rfl, rfl, rfl, rfl, trivial⟩ ?_
        exact loop3 ((fC F b).toNat + 1) 0 _ _ (by omega) (by omega) (by omega) C2 T2 J2 F2 W2
      · skip
        refine wq_aload_n (pc := 16) dX2_choose_16 rfl rfl ?_
        refine wq_getS (pc := 17) dX2_choose_17 hs (gf_X2_22 _ rfl) rfl rfl rfl rfl rfl ?_
        refine wq_iload_n (pc := 20) dX2_choose_20 rfl rfl ?_
        refine wq_iload_n (pc := 21) dX2_choose_21 rfl rfl ?_
        refine cVK_2 (pc := 22) dX2_choose_22 hs (cw_X2_82 _ rfl) (by decide) rfl ⟨by decide, by decide⟩ (Nat.le_of_ble_eq_true rfl) (sp_X0_at e1.1 (by unfold inR; omega) (by unfold inR; omega) ?_)
        refine kr_s ?_
        rw [nAtB_in hb (by omega)]
        have hkn := nRow_kd hs hr (b * 16 + (k : Int))
        have hnb := nRow_nB hr (b * 16 + (k : Int))
        refine wq_astore (pc := 25) (L' := [(4, _), (0, _), (1, _), (2, _), (3, _)]) dX2_choose_25 rfl (by decide) ?_
        refine wq_aload (pc := 27) dX2_choose_27 rfl ?_
        refine wq_aload_n (pc := 29) dX2_choose_29 rfl rfl ?_
        refine wq_aload (pc := 30) dX2_choose_30 rfl ?_
        refine cVK_1 (pc := 32) dX2_choose_32 hs (cw_X2_86 _ rfl) (by decide) rfl ⟨by decide, by decide⟩ (Nat.le_of_ble_eq_true rfl) (sp_X2_isDead (CFz_of e1) e2 hB (i := b * 16 + (k : Int)) (by omega) (by omega) rfl (fun hdd => ?_) (fun hdd => ?_))
        · skip
          refine kr_s ?_
          rw [fHid_0] at hdd
          refine wq_putZ (pc := 35) (kk := 12) dX2_choose_35 (gf_X2_95 _ rfl) (by with_reducible assumption) rfl rfl rfl rfl (by first | omega | (simp; done) | assumption) ?_
          refine wq_iinc (pc := 38) (L' := [(3, _), (4, _), (0, _), (1, _), (2, _)]) dX2_choose_38 rfl rfl (by decide) ?_
          refine wq_goto (pc := 41) (tgt := 11) dX2_choose_41 (by decide) ?_
          refine wq_sub1 (L' := [(0, _), (1, _), (2, _), (3, _)]) ⟨rfl, rfl, rfl, rfl, trivial⟩ ?_
          have hF := fun v : Int => FrJ_row (k := 12) (v := v) (CFz_of e1) (i := b * 16 + (k : Int)) (by omega) (by omega) (hk0 (by omega)) (Or.inl rfl)
          have hC1 := fun v hv => CFz_12 (v := v) (CFz_of e1) (i := b * 16 + (k : Int)) (by omega) (by omega) (hk0 (by omega)) hv
          refine ih (k + 1) _ _ (by omega) (by omega) (by omega) (CF_of (hC1 _ (by first | exact Or.inl rfl | exact Or.inr rfl)) (fun _ _ _ => rfl)) (CT_FrJ e2 hr (hF _)).1 (FrJ_trans e3 (hF _)) (fun p hp => ?_)
          rw [nRow_congr (hF _).1]
          by_cases ep : p = k
          · subst ep
            rw [wr_s]
            first
              | exact (jd_1 hdd).symm
              | exact (jd_0 hdd).symm
          · rw [wr_n _ _ (fun q => ep (by have := rowz_apart (CFz_of e1) (i := b * 16 + (k : Int)) (j := b * 16 + (p : Int)) (by omega) (by omega) (by omega) (by omega) (hk0 (by omega)) q.1.symm; omega))]
            exact e4 p (by omega)
        · skip
          refine kr_s ?_
          rw [fHid_0] at hdd
          refine wq_putZ (pc := 35) (kk := 12) dX2_choose_35 (gf_X2_95 _ rfl) (by with_reducible assumption) rfl rfl rfl rfl (by first | omega | (simp; done) | assumption) ?_
          refine wq_iinc (pc := 38) (L' := [(3, _), (4, _), (0, _), (1, _), (2, _)]) dX2_choose_38 rfl rfl (by decide) ?_
          refine wq_goto (pc := 41) (tgt := 11) dX2_choose_41 (by decide) ?_
          refine wq_sub1 (L' := [(0, _), (1, _), (2, _), (3, _)]) ⟨rfl, rfl, rfl, rfl, trivial⟩ ?_
          have hF := fun v : Int => FrJ_row (k := 12) (v := v) (CFz_of e1) (i := b * 16 + (k : Int)) (by omega) (by omega) (hk0 (by omega)) (Or.inl rfl)
          have hC1 := fun v hv => CFz_12 (v := v) (CFz_of e1) (i := b * 16 + (k : Int)) (by omega) (by omega) (hk0 (by omega)) hv
          refine ih (k + 1) _ _ (by omega) (by omega) (by omega) (CF_of (hC1 _ (by first | exact Or.inl rfl | exact Or.inr rfl)) (fun _ _ _ => rfl)) (CT_FrJ e2 hr (hF _)).1 (FrJ_trans e3 (hF _)) (fun p hp => ?_)
          rw [nRow_congr (hF _).1]
          by_cases ep : p = k
          · subst ep
            rw [wr_s]
            first
              | exact (jd_1 hdd).symm
              | exact (jd_0 hdd).symm
          · rw [wr_n _ _ (fun q => ep (by have := rowz_apart (CFz_of e1) (i := b * 16 + (k : Int)) (j := b * 16 + (p : Int)) (by omega) (by omega) (by omega) (by omega) (hk0 (by omega)) q.1.symm; omega))]
            exact e4 p (by omega)
  refine wq_sub1 (L' := [(0, _), (1, _), (2, _), (3, _)]) ⟨rfl, rfl, rfl, rfl, trivial⟩ ?_
  exact loop1 ((fC F b).toNat + 1) 0 μ _ (by omega) (by omega) (by omega) hC hT (FrJ_refl _) (fun p hp => absurd hp (by omega))
