theorem nRow_pos2 {m : nMem} {ε : nEnv} (hr : nRows m ε) {i : Int} (h : 20 < nRow m i) : m 3 i ≠ 0 := nRow_pos h
/-- the first n nodes of a block cleared -/
def fClr (F : Fl) (b : Int) (n : Nat) : Fl := (fun i k => if b * 16 ≤ i ∧ i < b * 16 + n then 0 else fN F i k, fU F, fC F, fE F, fL F, fD F)
theorem CF_clr {F : Fl} {μ : nMem} {ε : nEnv} {i : Int} (h : CF F μ ε) (hi : 0 ≤ i ∧ i < 128) : CF (fun i' k => if i' = i then 0 else fN F i' k, fU F, fC F, fE F, fL F, fD F) (mClear μ (nRow μ i)) ε ∧ FrF μ ε (mClear μ (nRow μ i)) ε := by
  obtain ⟨c1, c2, c3, c4, c5, c6, c7, c8⟩ := h
  have far : ∀ j, nRow μ j = 7 ∨ 20 < nRow μ j := fun j => by rcases nRow_far c2 j with e | ⟨e, -⟩ <;> omega
  have hx : ∀ x, x ≠ nRow μ i → ∀ j, mClear μ (nRow μ i) x j = μ x j := fun x hx j => by rw [mClear_v, if_neg (fun q => hx q.1)]
  have h3 : ∀ j, mClear μ (nRow μ i) 3 j = μ 3 j := fun j => hx 3 (by have := far i; omega) j
  have h7 : ∀ j, mClear μ (nRow μ i) 7 j = μ 7 j := fun j => by
    rw [mClear_v]
    split
    · rename_i q; exact (c8 j q.2.1 q.2.2).symm
    · rfl
  have hn : ∀ j k, mClear μ (nRow μ i) (nRow μ j) k = if j = i ∧ 0 ≤ k ∧ k ≤ 13 then 0 else μ (nRow μ j) k := by
    intro j k
    by_cases e : j = i
    · subst e
      rw [mClear_v]
      simp
    · rw [if_neg (fun q => e q.1)]
      by_cases e2 : nRow μ j = nRow μ i
      · rcases far j with e3 | e3
        · rw [e3]; exact h7 k
        · have := nRow_inj c2 hi (nRow_pos2 c2 (by rw [← e2]; exact e3)) e2
          exact absurd this e
      · exact hx _ e2 k
  have hnB : ∀ j, nB (mClear μ (nRow μ i)) (nRow μ j) := by
    intro j
    have hb := c2.2.2 j
    unfold nB at hb ⊢
    simp only [hn]
    by_cases e : j = i
    · simp [e]
    · simp [e]; exact hb
  refine ⟨⟨c1, nRows_congr c2 h3 hnB, fun j j0 j1 k k0 k1 => ?_, fun j => ?_, fun b b0 b1 => ?_, ?_, ?_, fun k k0 k1 => ?_⟩, fun x hx0 x2 x3 x4 x5 x6 x7 j => ?_, fun _ _ => ⟨rfl, rfl, fun _ => rfl⟩, fun j _ _ _ => h3 j, fun j _ _ => Or.inl (h3 j), rfl, fun t ht => Cap_congr ht h3 (fun j => hx 13 (by have := far i; omega) j) rfl rfl⟩
  · rw [nRow_congr h3, hn]
    show _ = if j = i then 0 else fN F j k
    by_cases e : j = i
    · rw [if_pos ⟨e, k0, by omega⟩, if_pos e]
    · rw [if_neg (fun q => e q.1), if_neg e]; exact c3 j j0 j1 k k0 k1
  · rw [nRow_congr h3, hn]
    split
    · rfl
    · exact c4 j
  · rw [hx 4 (by have := far i; omega), hx 5 (by have := far i; omega), hx 6 (by have := far i; omega)]; exact c5 b b0 b1
  · rw [hx 2 (by have := far i; omega)]; exact c6
  · rw [hx 2 (by have := far i; omega)]; exact c7
  · rw [h7]; exact c8 k k0 k1
  · by_cases e : x = nRow μ i
    · rcases far i with e3 | e3
      · rw [e3] at e ⊢; rw [e]; have := h7 j; rw [e3] at this; exact this
      · exact absurd ⟨i, hi.1, hi.2, by
          have h9 := nRow_pos2 c2 e3
          rw [e]; unfold nRow; rw [if_pos ⟨hi.1, hi.2, h9⟩]⟩ x7
    · exact hx x e j
def fEra (F : Fl) (b : Int) : Fl := (fun i k => if b * 16 ≤ i ∧ i < b * 16 + 16 then 0 else fN F i k, fun c => if c = b then 0 else fU F c, fun c => if c = b then 0 else fC F c, fun c => if c = b then fE F b + 1 else fE F c, fL F, fD F)
theorem era_fin {F : Fl} {μ m : nMem} {ε : nEnv} {b : Int} {P : nMem → nEnv → Prop} (hC : CF (fClr F b 16) m ε) (hF : FrF μ ε m ε) (hb : 0 ≤ b ∧ b < 8) (kk : ∀ m', CF (fEra F b) m' ε → FrF μ ε m' ε → P m' ε) : P (wr (wr (wr m 5 b 0) 4 b 0) 6 b (wr (wr m 5 b 0) 4 b 0 6 b + 1)) ε := by
  have k1 := CF_C (b := b) (v := 0) hC
  have k2 := CF_U (b := b) (v := 0) k1
  have k3 := CF_E (b := b) (v := wr (wr m 5 b 0) 4 b 0 6 b + 1) k2
  have v6 : wr (wr m 5 b 0) 4 b 0 6 b = fE F b := by rw [wr_n _ _ (by omega), wr_n _ _ (by omega)]; exact (hC.2.2.2.2.1 b hb.1 hb.2).2.2
  refine kk _ (CF_ext k3 (fun i i0 i1 q q0 q1 => rfl) (fun c c0 c1 => ⟨rfl, rfl, ?_⟩) rfl rfl) (FrF_trans k2.2.1 (FrF_trans k1.2.1 (FrF_trans hC.2.1 hF (FrF_wr (by omega))) (FrF_wr (by omega))) (FrF_wr (by omega)))
  show (if c = b then fE F b + 1 else fE F c) = if c = b then wr (wr m 5 b 0) 4 b 0 6 b + 1 else fE F c
  rw [v6]
theorem sp_X0_erase {μ : nMem} {ε : nEnv} {Q : nOut → nMem → nEnv → Prop} {F : Fl} {b : Int} (hC : CF F μ ε) (hb : 0 ≤ b ∧ b < 8) (hlf : -1 ≤ fL F ∧ fL F ≤ 1000) (h0 : fL F = 0 → ∀ μ9, CF (fDark F) μ9 ε → FrF μ ε μ9 ε → Q (.inl (some (vI 0))) μ9 ε) (h2 : fL F = 1 → ∀ μ9, CF (fDark (fEra (fSpd F) b)) μ9 ε → FrF μ ε μ9 ε → Q (.inl (some (vI 0))) μ9 ε) (h1 : (fL F < 0 ∨ 2 ≤ fL F) → ∀ μ9, CF (fSetU (fSpd (fEra (fSpd F) b)) b 1) μ9 ε → FrF μ ε μ9 ε → Q (.inl (some (vI 1))) μ9 ε) : Sp mX0_erase [vR 2, vI b] μ ε Q := by
  refine Sp_of (L := [(0, vR 2), (1, vI b)]) (by decide) rfl rfl (Nat.le_of_ble_eq_true rfl) ?_
  have hs := hC.1
  have hCn := hC
  have hFn := FrF_refl μ ε
  refine wq_aload_n (pc := 0) dX0_erase_0 rfl rfl ?_
  refine wq_iload_n (pc := 1) dX0_erase_1 rfl rfl ?_
  refine cVK_1 (pc := 2) dX0_erase_2 hs (cw_X0_36 _ rfl) (by decide) rfl ⟨by decide, by decide⟩ (Nat.le_of_ble_eq_true rfl) (sq_X0_has (by omega) ?_)
  refine kr_s ?_
  refine wq_if_eq (pc := 5) (tgt := 15) dX0_erase_5 (by decide) (by first | (unfold inR; omega) | assumption) (fun c => absurd c (by decide)) (fun _ => ?_)
  refine wq_aload_n (pc := 8) dX0_erase_8 rfl rfl ?_
  refine cVK_0 (pc := 9) dX0_erase_9 hs (cw_X0_72 _ rfl) (by decide) rfl ⟨by decide, by decide⟩ (Nat.le_of_ble_eq_true rfl) (sr_X0_spend hCn (by first | omega | (show -1 ≤ (if fL F < 0 then fL F else fL F - 1) ∧ (if fL F < 0 then fL F else fL F - 1) ≤ 1000; split <;> omega)) (fun hl m1 hC1 hF1 => ?_) (fun hl m1 hC1 hF1 => ?_))
  · skip
    refine kr_s ?_
    refine wq_if_ne (pc := 12) (tgt := 17) dX0_erase_12 (by decide) (by first | (unfold inR; omega) | assumption) (fun c => absurd c (by decide)) (fun _ => ?_)
    refine wq_iconst (pc := 15) dX0_erase_15 ?_
    refine wq_zret (pc := 16) dX0_erase_16 rfl (by first | omega | (simp; done) | assumption) ?_
    first
      | exact h0 hl _ hC1 hF1
      | exact h2 (by have h9 : (if fL F < 0 then fL F else fL F - 1) = 0 := hl; split at h9 <;> omega) _ hC1 (FrF_trans hCn.2.1 hFn hF1)
      | exact h1 (by have h9 : ¬ (if fL F < 0 then fL F else fL F - 1) = 0 := hl; split at h9 <;> omega) _ (CF_U hCa) (FrF_trans hCa.2.1 hFa (FrF_wr (by omega)))
  · skip
    refine kr_s ?_
    try have hfs := hl
    have hCa := hC1
    have hFa := FrF_trans hCn.2.1 hFn hF1
    have hs := hCa.1
    have hr := hCa.2.1
    refine wq_if_ne (pc := 12) (tgt := 17) dX0_erase_12 (by decide) (by first | (unfold inR; omega) | assumption) (fun _ => ?_) (fun c => absurd c (by decide))
    refine wq_iconst (pc := 17) dX0_erase_17 ?_
    refine wq_istore_n (pc := 18) (L' := [(2, _), (0, _), (1, _)]) dX0_erase_18 rfl rfl (by decide) ?_
    have loop6 : ∀ (n k : Nat), ∀ (m : nMem) (p : Int), k ≤ 16 → 16 < k + n → p = (k : Int) → CF (fClr (fSpd F) b k) m ε → FrF μ ε m ε → wp mX0_erase 19 [(0, vR 2), (1, vI b), (2, vI p)] [] m ε Q := by
      intro n
      induction n with
      | zero => intro k m p hk1 hk2 e0 e1 e2; exact absurd hk2 (by omega)
      | succ n ih =>
        intro k m p hk1 hk2 e0 e1 e2
        subst e0
        have hs := e1.1
        have hr := e1.2.1
        refine wq_iload_n (pc := 19) dX0_erase_19 rfl rfl ?_
        refine wq_bipush (pc := 20) dX0_erase_20 (by decide) (by decide) ?_
        refine wq_icmp_ge (pc := 22) (tgt := 40) dX0_erase_22 (by decide) (by first | (unfold inR; omega) | assumption) (by first | (unfold inR; omega) | assumption) (fun c7 => ?_) (fun c7 => ?_)
        · skip
          refine wq_aload_n (pc := 40) dX0_erase_40 rfl rfl ?_
          refine wq_getS (pc := 41) dX0_erase_41 hs (gf_X0_21 _ rfl) rfl rfl rfl rfl rfl ?_
          refine wq_iload_n (pc := 44) dX0_erase_44 rfl rfl ?_
          refine wq_iconst (pc := 45) dX0_erase_45 ?_
          refine wq_iastK (pc := 46) dX0_erase_46 hs rfl (by omega) (by omega) ?_
          refine wq_aload_n (pc := 47) dX0_erase_47 rfl rfl ?_
          refine wq_getS (pc := 48) dX0_erase_48 hs (gf_X0_17 _ rfl) rfl rfl rfl rfl rfl ?_
          refine wq_iload_n (pc := 51) dX0_erase_51 rfl rfl ?_
          refine wq_iconst (pc := 52) dX0_erase_52 ?_
          refine wq_iastK (pc := 53) dX0_erase_53 hs rfl (by omega) (by omega) ?_
          refine wq_aload_n (pc := 54) dX0_erase_54 rfl rfl ?_
          refine wq_getS (pc := 55) dX0_erase_55 hs (gf_X0_24 _ rfl) rfl rfl rfl rfl rfl ?_
          refine wq_iload_n (pc := 58) dX0_erase_58 rfl rfl ?_
          refine wq_dup2 (pc := 59) dX0_erase_59 rfl rfl ?_
          refine wq_ialdK (pc := 60) dX0_erase_60 hs rfl (by omega) (by omega) ?_
          refine wq_iconst (pc := 61) dX0_erase_61 ?_
          refine wq_iadd (pc := 62) dX0_erase_62 ?_
          refine wq_iastK (pc := 63) dX0_erase_63 hs rfl (by omega) (by omega) ?_
          have hk9 : k = 16 := by omega
          subst hk9
          refine era_fin (P := fun mm ee => wp mX0_erase 64 _ _ mm ee Q) e1 e2 hb (fun m5 hC5 hF5 => ?_)
          have hCn := hC5
          have hFn := hF5
          have hs := hC5.1
          refine wq_aload_n (pc := 64) dX0_erase_64 rfl rfl ?_
          refine cVK_0 (pc := 65) dX0_erase_65 hs (cw_X0_72 _ rfl) (by decide) rfl ⟨by decide, by decide⟩ (Nat.le_of_ble_eq_true rfl) (sr_X0_spend hCn (by first | omega | (show -1 ≤ (if fL F < 0 then fL F else fL F - 1) ∧ (if fL F < 0 then fL F else fL F - 1) ≤ 1000; split <;> omega)) (fun hl m1 hC1 hF1 => ?_) (fun hl m1 hC1 hF1 => ?_))
          · skip
            refine kr_s ?_
            refine wq_if_ne (pc := 68) (tgt := 73) dX0_erase_68 (by decide) (by first | (unfold inR; omega) | assumption) (fun c => absurd c (by decide)) (fun _ => ?_)
            refine wq_iconst (pc := 71) dX0_erase_71 ?_
            refine wq_zret (pc := 72) dX0_erase_72 rfl (by first | omega | (simp; done) | assumption) ?_
            first
              | exact h0 hl _ hC1 hF1
              | exact h2 (by have h9 : (if fL F < 0 then fL F else fL F - 1) = 0 := hl; split at h9 <;> omega) _ hC1 (FrF_trans hCn.2.1 hFn hF1)
              | exact h1 (by have h9 : ¬ (if fL F < 0 then fL F else fL F - 1) = 0 := hl; split at h9 <;> omega) _ (CF_U hCa) (FrF_trans hCa.2.1 hFa (FrF_wr (by omega)))
          · skip
            refine kr_s ?_
            try have hfs := hl
            have hCa := hC1
            have hFa := FrF_trans hCn.2.1 hFn hF1
            have hs := hCa.1
            have hr := hCa.2.1
            refine wq_if_ne (pc := 68) (tgt := 73) dX0_erase_68 (by decide) (by first | (unfold inR; omega) | assumption) (fun _ => ?_) (fun c => absurd c (by decide))
            refine wq_aload_n (pc := 73) dX0_erase_73 rfl rfl ?_
            refine wq_getS (pc := 74) dX0_erase_74 hs (gf_X0_17 _ rfl) rfl rfl rfl rfl rfl ?_
            refine wq_iload_n (pc := 77) dX0_erase_77 rfl rfl ?_
            refine wq_iconst (pc := 78) dX0_erase_78 ?_
            refine wq_iastK (pc := 79) dX0_erase_79 hs rfl (by omega) (by omega) ?_
            refine wq_iconst (pc := 80) dX0_erase_80 ?_
            refine wq_zret (pc := 81) dX0_erase_81 rfl (by first | omega | (simp; done) | assumption) ?_
            first
              | exact h0 hl _ hC1 hF1
              | exact h2 (by have h9 : (if fL F < 0 then fL F else fL F - 1) = 0 := hl; split at h9 <;> omega) _ hC1 (FrF_trans hCn.2.1 hFn hF1)
              | exact h1 (by have h9 : ¬ (if fL F < 0 then fL F else fL F - 1) = 0 := hl; split at h9 <;> omega) _ (CF_U hCa) (FrF_trans hCa.2.1 hFa (FrF_wr (by omega)))
        · skip
          refine wq_aload_n (pc := 25) dX0_erase_25 rfl rfl ?_
          refine wq_iload_n (pc := 26) dX0_erase_26 rfl rfl ?_
          refine wq_iload_n (pc := 27) dX0_erase_27 rfl rfl ?_
          refine cVK_2 (pc := 28) dX0_erase_28 hs (cw_X0_87 _ rfl) (by decide) rfl ⟨by decide, by decide⟩ (Nat.le_of_ble_eq_true rfl) (sp_X0_at hs (by first | (unfold inR; omega) | assumption) (by first | (unfold inR; omega) | assumption) ?_)
          refine kr_s ?_
          refine cV_0 (pc := 31) dX0_erase_31 (cw_X0_91 _ rfl) (by decide) (by first | with_reducible assumption | exact nAtB_kd hs hr _ _) ⟨by decide, by decide⟩ (Nat.le_of_ble_eq_true rfl) (sp_X4_clear (by first | with_reducible assumption | exact nAtB_kd hs hr _ _) ?_)
          refine kr_v ?_
          refine wq_iinc (pc := 34) (L' := [(2, _), (0, _), (1, _)]) dX0_erase_34 rfl rfl (by decide) ?_
          refine wq_goto (pc := 37) (tgt := 19) dX0_erase_37 (by decide) ?_
          refine wq_sub1 (L' := [(0, _), (1, _), (2, _)]) ⟨rfl, rfl, rfl, trivial⟩ ?_
          have hA : nAtB m b (k : Int) = nRow m (b * 16 + k) := by unfold nAtB; rw [if_pos (by omega)]
          rw [hA]
          obtain ⟨k1, k2⟩ := CF_clr (i := b * 16 + k) e1 (by omega)
          refine ih (k + 1) _ _ (by omega) (by omega) (by omega) (CF_ext k1 (fun i i0 i1 q q0 q1 => ?_) (fun c c0 c1 => ⟨rfl, rfl, rfl⟩) rfl rfl) (FrF_trans e1.2.1 e2 k2)
          show (if b * 16 ≤ i ∧ i < b * 16 + ((k + 1 : Nat) : Int) then (0 : Int) else fN F i q) = if i = b * 16 + (k : Int) then 0 else if b * 16 ≤ i ∧ i < b * 16 + (k : Int) then 0 else fN F i q
          (repeat' split) <;> first | rfl | (exfalso; omega)
    refine wq_sub1 (L' := [(0, _), (1, _), (2, _)]) ⟨rfl, rfl, rfl, trivial⟩ ?_
    exact loop6 17 0 _ _ (by omega) (by omega) (by omega) (CF_ext hCa (fun i i0 i1 q q0 q1 => by show (if b * 16 ≤ i ∧ i < b * 16 + ((0 : Nat) : Int) then (0 : Int) else fN F i q) = fN F i q; rw [if_neg (by omega)]) (fun c c0 c1 => ⟨rfl, rfl, rfl⟩) rfl rfl) hFa
