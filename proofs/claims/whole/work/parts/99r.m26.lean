/-! ### dead units, and the state of a block, by the reference -/
theorem jDo_S (F : Fl) (S : Tr) (b : Int) : ∀ n : Nat, jDo F S b n = jSum F S b n
  | 0 => rfl
  | n + 1 => by
    rw [jDo_s, jSum_s, jDo_S F S b n]
    by_cases c : jSm F (b * 16 + n)
    · rw [if_pos c]
      have : ¬ jDead F F S (b * 16 + n) := fun z => by
        rcases z with z | z
        · exact z ⟨by rw [c.1]; decide, c.2⟩
        · exact z.1 c.1
      unfold jDd
      rw [if_neg this]
    · rw [if_neg c]
theorem GM_len {F : Fl} {g : Lg} (hL : PL F g) : g.2.1.length ≤ 8 ∧ g.2.2.length ≤ 8 := ⟨len8 hL.2.2.2.2.1.1 (fun b hb => (hL.2.2.1 b hb).1), len8 hL.2.2.2.2.1.2.1 (fun b hb => (hL.2.2.2.1 b hb).1)⟩
theorem sp_X7_isDead {μ : nMem} {ε : nEnv} {Q : nOut → nMem → nEnv → Prop} {F : Fl} {fl : Int → Int} {i : Int} (hK : KM F μ ε) (hA : KP F) (hf : flOK F fl) (i0 : 0 ≤ i) (i1 : i < 128) (h1 : jDead F F (tS F) i → ∀ m, KM F m ε → FrY μ m → Q (.inl (some (vI 1))) m ε) (h0 : ¬ jDead F F (tS F) i → ∀ m, KM F m ε → FrY μ m → Q (.inl (some (vI 0))) m ε) : Sp mX7_isDead [vR 21, vI i] μ ε Q := by
  refine Sp_of (L := [(0, vR 21), (1, vI i)]) (by decide) rfl rfl (Nat.le_of_ble_eq_true rfl) ?_
  have hs := hK.1
  have hS := PA_NS hA.1
  have ri : inR i := by unfold inR; omega
  refine wq_aload_n (pc := 0) dX7_isDead_0 rfl rfl ?_
  refine cVK_0 (pc := 1) dX7_isDead_1 hs (cw_X7_168 _ rfl) (by decide) rfl ⟨by decide, by decide⟩ (Nat.le_of_ble_eq_true rfl) (sp_X7_layNow hK hA (fun m1 K1 Y1 => ?_))
  refine kr_v ?_
  have hR1 := K1.1.2.2.1
  have hwi := wh_iff hA.1 hR1 i0 i1
  have r22 : inR (m1 22 i) := (mR_of K1.1.2.1) 22 _ (by decide) (by decide) (by decide)
  refine wq_aload_n (pc := 4) dX7_isDead_4 rfl rfl ?_
  refine wq_iload_n (pc := 5) dX7_isDead_5 rfl rfl ?_
  refine cVK_1 (pc := 6) dX7_isDead_6 hs (cw_X7_155 _ rfl) (by decide) rfl ⟨by decide, by decide⟩ (Nat.le_of_ble_eq_true rfl) (sp_X7_isWhole hs i0 i1 ((mR_of K1.1.2.1) 34 _ (by decide) (by decide) (by decide)) ((mR_of K1.1.2.1) 33 _ (by decide) (by decide) (by decide)) ((mR_of K1.1.2.1) 32 _ (by decide) (by decide) (by decide)) (fun hwh => ?_) (fun hwh => ?_))
  · skip
    refine kr_s ?_
    have hwh9 := hwi.mp hwh
    obtain ⟨hin, p22, -⟩ := RM_w hA.1 hR1 i0 i1 hwh9.1
    have hno := (PA_in hA.1 i0 i1 hin).1
    refine wq_if_eq (pc := 9) (tgt := 30) dX7_isDead_9 (by decide) (by first | (unfold inR; omega) | assumption) (fun c => absurd c (by decide)) (fun _ => ?_)
    refine wq_aload_n (pc := 12) dX7_isDead_12 rfl rfl ?_
    refine wq_getS (pc := 13) dX7_isDead_13 hs (gf_X7_7 _ rfl) rfl rfl rfl rfl rfl ?_
    refine wq_iload_n (pc := 16) dX7_isDead_16 rfl rfl ?_
    refine wq_ialdK (pc := 17) dX7_isDead_17 hs rfl (by omega) (by omega) ?_
    refine wq_iconst (pc := 18) dX7_isDead_18 ?_
    refine wq_icmp_eq (pc := 19) (tgt := 34) dX7_isDead_19 (by decide) (by first | (unfold inR; omega) | assumption) (by first | (unfold inR; omega) | assumption) (fun c5 => ?_) (fun c5 => ?_)
    · skip
      refine wq_iconst (pc := 34) dX7_isDead_34 ?_
      refine wq_zret (pc := 35) dX7_isDead_35 rfl (by first | omega | (simp; done) | assumption) ?_
      first
        | exact h1 (Or.inl hwh9) _ K1.1 Y1
        | exact h0 (fun z => z.elim (fun q => q hwh9) (fun q => q.1 (by omega))) _ K1.1 Y1
        | exact h0 (fun z => z.elim (fun q => q hwh9) (fun q => q.2 hlv9)) _ K2 (FrY_t Y1 Y2)
        | exact h1 (Or.inr ⟨by omega, hlv9⟩) _ K2 (FrY_t Y1 Y2)
    · skip
      have hrw : rW F i := by
        refine ⟨?_, hwh9.2⟩
        rcases hno with q | q
        · have := sOK_k q; omega
        · have := q.1; omega
      refine wq_aload_n (pc := 22) dX7_isDead_22 rfl rfl ?_
      refine wq_iload_n (pc := 23) dX7_isDead_23 rfl rfl ?_
      refine cVK_1 (pc := 24) dX7_isDead_24 hs (cw_X7_252 _ rfl) (by decide) rfl ⟨by decide, by decide⟩ (Nat.le_of_ble_eq_true rfl) (sp_X7_isLive K1.1 hA i0 i1 hrw (fun hlv m2 K2 Y2 => ?_) (fun hlv m2 K2 Y2 => ?_))
      · skip
        refine kr_s ?_
        have hlv9 := (rLive_iff hS hA.2 hf i0 i1 hrw).mp hlv
        refine wq_if_ne (pc := 27) (tgt := 34) dX7_isDead_27 (by decide) (by first | (unfold inR; omega) | assumption) (fun _ => ?_) (fun c => absurd c (by decide))
        refine wq_iconst (pc := 34) dX7_isDead_34 ?_
        refine wq_zret (pc := 35) dX7_isDead_35 rfl (by first | omega | (simp; done) | assumption) ?_
        first
          | exact h1 (Or.inl hwh9) _ K1.1 Y1
          | exact h0 (fun z => z.elim (fun q => q hwh9) (fun q => q.1 (by omega))) _ K1.1 Y1
          | exact h0 (fun z => z.elim (fun q => q hwh9) (fun q => q.2 hlv9)) _ K2 (FrY_t Y1 Y2)
          | exact h1 (Or.inr ⟨by omega, hlv9⟩) _ K2 (FrY_t Y1 Y2)
      · skip
        refine kr_s ?_
        have hlv9 := fun z => hlv ((rLive_iff hS hA.2 hf i0 i1 hrw).mpr z)
        refine wq_if_ne (pc := 27) (tgt := 34) dX7_isDead_27 (by decide) (by first | (unfold inR; omega) | assumption) (fun c => absurd c (by decide)) (fun _ => ?_)
        refine wq_iconst (pc := 30) dX7_isDead_30 ?_
        refine wq_goto (pc := 31) (tgt := 35) dX7_isDead_31 (by decide) ?_
        refine wq_zret (pc := 35) dX7_isDead_35 rfl (by first | omega | (simp; done) | assumption) ?_
        first
          | exact h1 (Or.inl hwh9) _ K1.1 Y1
          | exact h0 (fun z => z.elim (fun q => q hwh9) (fun q => q.1 (by omega))) _ K1.1 Y1
          | exact h0 (fun z => z.elim (fun q => q hwh9) (fun q => q.2 hlv9)) _ K2 (FrY_t Y1 Y2)
          | exact h1 (Or.inr ⟨by omega, hlv9⟩) _ K2 (FrY_t Y1 Y2)
  · skip
    refine kr_s ?_
    have hwh9 := fun z => hwh (hwi.mpr z)
    refine wq_if_eq (pc := 9) (tgt := 30) dX7_isDead_9 (by decide) (by first | (unfold inR; omega) | assumption) (fun _ => ?_) (fun c => absurd c (by decide))
    refine wq_iconst (pc := 30) dX7_isDead_30 ?_
    refine wq_goto (pc := 31) (tgt := 35) dX7_isDead_31 (by decide) ?_
    refine wq_zret (pc := 35) dX7_isDead_35 rfl (by first | omega | (simp; done) | assumption) ?_
    first
      | exact h1 (Or.inl hwh9) _ K1.1 Y1
      | exact h0 (fun z => z.elim (fun q => q hwh9) (fun q => q.1 (by omega))) _ K1.1 Y1
      | exact h0 (fun z => z.elim (fun q => q hwh9) (fun q => q.2 hlv9)) _ K2 (FrY_t Y1 Y2)
      | exact h1 (Or.inr ⟨by omega, hlv9⟩) _ K2 (FrY_t Y1 Y2)
theorem sp_X7_deadOf {μ : nMem} {ε : nEnv} {Q : nOut → nMem → nEnv → Prop} {F : Fl} {fl : Int → Int} {b : Int} (hK : KM F μ ε) (hA : KP F) (hf : flOK F fl) (hb : 0 ≤ b ∧ b < 8) (h : ∀ m, KM F m ε → FrY μ m → (0 ≤ jSum F (tS F) b (fC F b).toNat ∧ jSum F (tS F) b (fC F b).toNat ≤ 400) → Q (.inl (some (vI (jSum F (tS F) b (fC F b).toNat)))) m ε) : Sp mX7_deadOf [vR 21, vI b] μ ε Q := by
  refine Sp_of (L := [(0, vR 21), (1, vI b)]) (by decide) rfl rfl (Nat.le_of_ble_eq_true rfl) ?_
  have hs := hK.1
  have hR := hK.2.2.1
  have hRb := (hR.1 b hb.1 hb.2).1
  have hcb := (hA.1 b hb.1 hb.2).1.1
  refine wq_iconst (pc := 0) dX7_deadOf_0 ?_
  refine wq_istore_n (pc := 1) (L' := [(2, _), (0, _), (1, _)]) dX7_deadOf_1 rfl rfl (by decide) ?_
  refine wq_bipush (pc := 2) dX7_deadOf_2 (by decide) (by decide) ?_
  refine wq_iload_n (pc := 4) dX7_deadOf_4 rfl rfl ?_
  refine wq_imul (pc := 5) dX7_deadOf_5 ?_
  refine wq_istore_n (pc := 6) (L' := [(3, _), (2, _), (0, _), (1, _)]) dX7_deadOf_6 rfl rfl (by decide) ?_
  have loop1 : ∀ (n k : Nat), ∀ (m : nMem) (w : Int) (j : Int), k ≤ 16 → 16 < k + n → j = 16 * b + (k : Int) → (k : Int) ≤ fC F b → KM F m ε → FrY μ m → w = jSum F (tS F) b k → 0 ≤ w ∧ w ≤ 20 * (k : Int) → wp mX7_deadOf 7 [(0, vR 21), (1, vI b), (2, vI w), (3, vI j)] [] m ε Q := by
    intro n
    induction n with
    | zero => intro k m w j hk1 hk2 e0 e1 e2 e3 e4 e5; exact absurd hk2 (by omega)
    | succ n ih =>
      intro k m w j hk1 hk2 e0 e1 e2 e3 e4 e5
      subst e0
      have hbi : 16 * b + (k : Int) = b * 16 + (k : Int) := by omega
      have rk : inR (16 * b + (k : Int)) := by unfold inR; omega
      have s34 : m 34 b = fC F b := (e3 34 b (by omega) (by omega)).trans hRb
      have r34 : inR (16 * b + m 34 b) := by unfold inR; omega
      have g33 := b33 hK.2.1 (16 * b + (k : Int))
      have p33 : (k : Int) < fC F b → μ 33 (16 * b + (k : Int)) = fN F (b * 16 + (k : Int)) 2 := fun z => by
        have := (hR.2 (16 * b + (k : Int)) (by omega) (by omega) (by rw [show (16 * b + (k : Int)) / 16 = b by omega]; omega)).1.2.2.2.2
        rw [this, hbi]
      refine wq_iload_n (pc := 7) dX7_deadOf_7 rfl rfl ?_
      refine wq_bipush (pc := 8) dX7_deadOf_8 (by decide) (by decide) ?_
      refine wq_iload_n (pc := 10) dX7_deadOf_10 rfl rfl ?_
      refine wq_imul (pc := 11) dX7_deadOf_11 ?_
      refine wq_aload_n (pc := 12) dX7_deadOf_12 rfl rfl ?_
      refine wq_getS (pc := 13) dX7_deadOf_13 hs (gf_X7_48 _ rfl) rfl rfl rfl rfl rfl ?_
      refine wq_iload_n (pc := 16) dX7_deadOf_16 rfl rfl ?_
      refine wq_ialdK (pc := 17) dX7_deadOf_17 hs rfl (by omega) (by omega) ?_
      refine wq_iadd (pc := 18) dX7_deadOf_18 ?_
      refine wq_icmp_ge (pc := 19) (tgt := 49) dX7_deadOf_19 (by decide) (by first | (unfold inR; omega) | assumption) (by first | (unfold inR; omega) | assumption) (fun c2 => ?_) (fun c2 => ?_)
      · skip
        refine wq_iload_n (pc := 49) dX7_deadOf_49 rfl rfl ?_
        refine wq_iret (pc := 50) dX7_deadOf_50 rfl ?_
        have hk9 : k = (fC F b).toNat := by omega
        rw [← hk9] at h
        rw [e4] at e5 ⊢
        exact h _ e2 e3 (by omega)
      · skip
        refine wq_iload_n (pc := 22) dX7_deadOf_22 rfl rfl ?_
        refine wq_aload_n (pc := 23) dX7_deadOf_23 rfl rfl ?_
        refine wq_iload_n (pc := 24) dX7_deadOf_24 rfl rfl ?_
        refine cVK_1 (pc := 25) dX7_deadOf_25 hs (cw_X7_255 _ rfl) (by decide) rfl ⟨by decide, by decide⟩ (Nat.le_of_ble_eq_true rfl) (sp_X7_isDead e2 hA hf (by omega) (by omega) (fun hdd m2 K2 Y2 => ?_) (fun hdd m2 K2 Y2 => ?_))
        · skip
          refine kr_s ?_
          have Y9 := FrY_t e3 Y2
          have hdz : jDd F (tS F) (b * 16 + (k : Int)) = fN F (b * 16 + (k : Int)) 2 := by unfold jDd; rw [if_pos (by rw [← hbi]; exact hdd)]
          refine wq_if_eq (pc := 28) (tgt := 40) dX7_deadOf_28 (by decide) (by first | (unfold inR; omega) | assumption) (fun c => absurd c (by decide)) (fun _ => ?_)
          refine wq_aload_n (pc := 31) dX7_deadOf_31 rfl rfl ?_
          refine wq_getS (pc := 32) dX7_deadOf_32 hs (gf_X7_45 _ rfl) rfl rfl rfl rfl rfl ?_
          refine wq_iload_n (pc := 35) dX7_deadOf_35 rfl rfl ?_
          refine wq_ialdK (pc := 36) dX7_deadOf_36 hs rfl (by omega) (by omega) ?_
          refine wq_goto (pc := 37) (tgt := 41) dX7_deadOf_37 (by decide) ?_
          refine wq_iadd (pc := 41) dX7_deadOf_41 ?_
          refine wq_istore_n (pc := 42) (L' := [(2, _), (0, _), (1, _), (3, _)]) dX7_deadOf_42 rfl rfl (by decide) ?_
          refine wq_iinc (pc := 43) (L' := [(3, _), (2, _), (0, _), (1, _)]) dX7_deadOf_43 rfl rfl (by decide) ?_
          refine wq_goto (pc := 46) (tgt := 7) dX7_deadOf_46 (by decide) ?_
          refine wq_sub1 (L' := [(0, _), (1, _), (2, _), (3, _)]) ⟨rfl, rfl, rfl, rfl, trivial⟩ ?_
          have q33 := p33 (by omega)
          have s33 : m2 33 (16 * b + (k : Int)) = μ 33 (16 * b + (k : Int)) := Y9 33 _ (by omega) (by omega)
          exact ih (k + 1) _ _ _ (by omega) (by omega) (by omega) (by omega) K2 Y9 (by rw [jSum_s, hdz]; omega) (by omega)
        · skip
          refine kr_s ?_
          have Y9 := FrY_t e3 Y2
          have hdz : jDd F (tS F) (b * 16 + (k : Int)) = 0 := by unfold jDd; rw [if_neg (by rw [← hbi]; exact hdd)]
          refine wq_if_eq (pc := 28) (tgt := 40) dX7_deadOf_28 (by decide) (by first | (unfold inR; omega) | assumption) (fun _ => ?_) (fun c => absurd c (by decide))
          refine wq_iconst (pc := 40) dX7_deadOf_40 ?_
          refine wq_iadd (pc := 41) dX7_deadOf_41 ?_
          refine wq_istore_n (pc := 42) (L' := [(2, _), (0, _), (1, _), (3, _)]) dX7_deadOf_42 rfl rfl (by decide) ?_
          refine wq_iinc (pc := 43) (L' := [(3, _), (2, _), (0, _), (1, _)]) dX7_deadOf_43 rfl rfl (by decide) ?_
          refine wq_goto (pc := 46) (tgt := 7) dX7_deadOf_46 (by decide) ?_
          refine wq_sub1 (L' := [(0, _), (1, _), (2, _), (3, _)]) ⟨rfl, rfl, rfl, rfl, trivial⟩ ?_
          have q33 := p33 (by omega)
          have s33 : m2 33 (16 * b + (k : Int)) = μ 33 (16 * b + (k : Int)) := Y9 33 _ (by omega) (by omega)
          exact ih (k + 1) _ _ _ (by omega) (by omega) (by omega) (by omega) K2 Y9 (by rw [jSum_s, hdz]; omega) (by omega)
  refine wq_sub1 (L' := [(0, _), (1, _), (2, _), (3, _)]) ⟨rfl, rfl, rfl, rfl, trivial⟩ ?_
  exact loop1 17 0 _ _ _ (by omega) (by omega) (by omega) (by omega) hK (FrY_r _) rfl (by omega)
theorem sp_X7_stateOf {μ : nMem} {ε : nEnv} {Q : nOut → nMem → nEnv → Prop} {A : AS} {fl : Int → Int} {b : Int} (hC : CM A μ ε) (hA : KP (aF A)) (hf : flOK (aF A) fl) (hd : fD (aF A) = 0) (hL : PL (aF A) (aG A)) (hb : 0 ≤ b ∧ b < 8) (h : ∀ m v, CM A m ε → FrM μ m → m 21 25 = μ 21 25 → v = (if b ∈ (aG A).2.1 then 0 else if b = (aG A).1 then 1 else jDirt (aF A) (tS (aF A)) b) → Q (.inl (some (vI v))) m ε) : Sp mX7_stateOf [vR 21, vI b] μ ε Q := by
  refine Sp_of (L := [(0, vR 21), (1, vI b)]) (by decide) rfl rfl (Nat.le_of_ble_eq_true rfl) ?_
  have hs := hC.1.1
  have hR := hC.1.2.2.1
  have hRb := (hR.1 b hb.1 hb.2).1
  have hcb := (hA.1 b hb.1 hb.2).1.1
  obtain ⟨hG, -, -⟩ := hC.2.2 hd
  have hL1 := hL.1
  have q17 := hG.1
  have q16 := hG.2.1
  obtain ⟨l1, l2⟩ := GM_len hL
  have r17 : inR (μ 21 17) := by unfold inR; omega
  have rb : inR b := by unfold inR; omega
  have r16 : inR (μ 21 16) := by unfold inR; omega
  refine wq_iload_n (pc := 0) dX7_stateOf_0 rfl rfl ?_
  refine wq_aload_n (pc := 1) dX7_stateOf_1 rfl rfl ?_
  refine wq_getIK (pc := 2) (kk := 17) dX7_stateOf_2 hs (gf_X7_118 _ rfl) rfl rfl rfl rfl ?_
  refine wq_icmp_ne (pc := 5) (tgt := 10) dX7_stateOf_5 (by decide) (by first | (unfold inR; omega) | assumption) (by first | (unfold inR; omega) | assumption) (fun c1 => ?_) (fun c1 => ?_)
  · skip
    have cut2 : (b ∉ (aG A).2.1) → wp mX7_stateOf 38 [(0, vR 21), (1, vI b)] [] μ ε Q := by
      intro e0
      have hnf := e0
      refine wq_iconst (pc := 38) dX7_stateOf_38 ?_
      refine wq_istore_n (pc := 39) (L' := [(2, _), (0, _), (1, _)]) dX7_stateOf_39 rfl rfl (by decide) ?_
      refine wq_bipush (pc := 40) dX7_stateOf_40 (by decide) (by decide) ?_
      refine wq_iload_n (pc := 42) dX7_stateOf_42 rfl rfl ?_
      refine wq_imul (pc := 43) dX7_stateOf_43 ?_
      refine wq_istore_n (pc := 44) (L' := [(3, _), (2, _), (0, _), (1, _)]) dX7_stateOf_44 rfl rfl (by decide) ?_
      have loop3 : ∀ (n k : Nat), ∀ (w : Int) (j : Int), k ≤ 16 → 16 < k + n → j = 16 * b + (k : Int) → (k : Int) ≤ fC (aF A) b → w = jAl (aF A) b k → 0 ≤ w ∧ w ≤ 20 * (k : Int) → wp mX7_stateOf 45 [(0, vR 21), (1, vI b), (2, vI w), (3, vI j)] [] μ ε Q := by
        intro n
        induction n with
        | zero => intro k w j hk1 hk2 e0 e1 e2 e3; exact absurd hk2 (by omega)
        | succ n ih =>
          intro k w j hk1 hk2 e0 e1 e2 e3
          subst e0
          have hbi : 16 * b + (k : Int) = b * 16 + (k : Int) := by omega
          have rk : inR (16 * b + (k : Int)) := by unfold inR; omega
          have r34 : inR (16 * b + μ 34 b) := by unfold inR; omega
          have g33 := b33 hC.1.2.1 (16 * b + (k : Int))
          have r22 : inR (μ 22 (16 * b + (k : Int))) := (mR_of hC.1.2.1) 22 _ (by decide) (by decide) (by decide)
          have hwi : (k : Int) < 16 → _ := fun z => wh_iff hA.1 hR (i := 16 * b + (k : Int)) (by omega) (by omega)
          have p33 : (k : Int) < fC (aF A) b → μ 33 (16 * b + (k : Int)) = fN (aF A) (b * 16 + (k : Int)) 2 ∧ μ 22 (16 * b + (k : Int)) = fN (aF A) (b * 16 + (k : Int)) 0 := fun z => by
            have := (hR.2 (16 * b + (k : Int)) (by omega) (by omega) (by rw [show (16 * b + (k : Int)) / 16 = b by omega]; omega)).1
            rw [this.1, this.2.2.2.2, hbi]; exact ⟨rfl, rfl⟩
          refine wq_iload_n (pc := 45) dX7_stateOf_45 rfl rfl ?_
          refine wq_bipush (pc := 46) dX7_stateOf_46 (by decide) (by decide) ?_
          refine wq_iload_n (pc := 48) dX7_stateOf_48 rfl rfl ?_
          refine wq_imul (pc := 49) dX7_stateOf_49 ?_
          refine wq_aload_n (pc := 50) dX7_stateOf_50 rfl rfl ?_
          refine wq_getS (pc := 51) dX7_stateOf_51 hs (gf_X7_48 _ rfl) rfl rfl rfl rfl rfl ?_
          refine wq_iload_n (pc := 54) dX7_stateOf_54 rfl rfl ?_
          refine wq_ialdK (pc := 55) dX7_stateOf_55 hs rfl (by omega) (by omega) ?_
          refine wq_iadd (pc := 56) dX7_stateOf_56 ?_
          refine wq_icmp_ge (pc := 57) (tgt := 97) dX7_stateOf_57 (by decide) (by first | (unfold inR; omega) | assumption) (by first | (unfold inR; omega) | assumption) (fun c4 => ?_) (fun c4 => ?_)
          · skip
            have hk9 : k = (fC (aF A) b).toNat := by omega
            rw [hk9] at e2
            have rw1 : inR w := by unfold inR; omega
            refine wq_aload_n (pc := 97) dX7_stateOf_97 rfl rfl ?_
            refine wq_iload_n (pc := 98) dX7_stateOf_98 rfl rfl ?_
            refine cVK_1 (pc := 99) dX7_stateOf_99 hs (cw_X7_258 _ rfl) (by decide) rfl ⟨by decide, by decide⟩ (Nat.le_of_ble_eq_true rfl) (sp_X7_deadOf hC.1 hA hf hb (fun m2 K2 Y2 sb => ?_))
            refine kr_s ?_
            have C2 := CM_Y hC K2 Y2
            have F2 := FrM_Y Y2
            have t2 : m2 21 25 = μ 21 25 := Y2 21 25 (by omega) (by omega)
            have rsm : inR (jSum (aF A) (tS (aF A)) b (fC (aF A) b).toNat) := by unfold inR; omega
            refine wq_istore_n (pc := 102) (L' := [(3, _), (0, _), (1, _), (2, _)]) dX7_stateOf_102 rfl rfl (by decide) ?_
            refine wq_iload_n (pc := 103) dX7_stateOf_103 rfl rfl ?_
            refine wq_if_ne (pc := 104) (tgt := 111) dX7_stateOf_104 (by decide) (by first | (unfold inR; omega) | assumption) (fun c6 => ?_) (fun c6 => ?_)
            · skip
              refine wq_iconst (pc := 111) dX7_stateOf_111 ?_
              refine wq_iload_n (pc := 112) dX7_stateOf_112 rfl rfl ?_
              refine wq_imul (pc := 113) dX7_stateOf_113 ?_
              refine wq_iload_n (pc := 114) dX7_stateOf_114 rfl rfl ?_
              refine wq_icmp_lt (pc := 115) (tgt := 122) dX7_stateOf_115 (by decide) (by first | (unfold inR; omega) | assumption) (by first | (unfold inR; omega) | assumption) (fun c7 => ?_) (fun c7 => ?_)
              · skip
                refine wq_iconst (pc := 122) dX7_stateOf_122 ?_
                refine wq_iret (pc := 123) dX7_stateOf_123 rfl ?_
                first
                  | (have hcur : b = (aG A).1 := by omega
                     exact h _ _ hC (FrM_r _) rfl (by rw [if_neg (by rw [hcur]; exact hL.2.2.2.2.1.2.2.2.1), if_pos hcur]))
                  | (have q9 := hGk (by omega)
                     have hbm : b ∈ (aG A).2.1 := by rw [show b = (aG A).2.1.getD k 0 by omega]; exact lget_mem 0 (by omega)
                     exact h _ _ hC (FrM_r _) rfl (by rw [if_pos hbm]))
                  | (refine h _ _ C2 F2 t2 ?_
                     rw [if_neg hnf, if_neg (by omega)]
                     unfold jDirt
                     rw [jDo_S, ← e2]
                     first
                       | rw [if_pos (by omega)]
                       | rw [if_neg (by omega), if_pos (by omega)]
                       | rw [if_neg (by omega), if_neg (by omega)])
              · skip
                refine wq_iconst (pc := 118) dX7_stateOf_118 ?_
                refine wq_goto (pc := 119) (tgt := 123) dX7_stateOf_119 (by decide) ?_
                refine wq_iret (pc := 123) dX7_stateOf_123 rfl ?_
                first
                  | (have hcur : b = (aG A).1 := by omega
                     exact h _ _ hC (FrM_r _) rfl (by rw [if_neg (by rw [hcur]; exact hL.2.2.2.2.1.2.2.2.1), if_pos hcur]))
                  | (have q9 := hGk (by omega)
                     have hbm : b ∈ (aG A).2.1 := by rw [show b = (aG A).2.1.getD k 0 by omega]; exact lget_mem 0 (by omega)
                     exact h _ _ hC (FrM_r _) rfl (by rw [if_pos hbm]))
                  | (refine h _ _ C2 F2 t2 ?_
                     rw [if_neg hnf, if_neg (by omega)]
                     unfold jDirt
                     rw [jDo_S, ← e2]
                     first
                       | rw [if_pos (by omega)]
                       | rw [if_neg (by omega), if_pos (by omega)]
                       | rw [if_neg (by omega), if_neg (by omega)])
            · skip
              refine wq_iconst (pc := 107) dX7_stateOf_107 ?_
              refine wq_goto (pc := 108) (tgt := 123) dX7_stateOf_108 (by decide) ?_
              refine wq_iret (pc := 123) dX7_stateOf_123 rfl ?_
              first
                | (have hcur : b = (aG A).1 := by omega
                   exact h _ _ hC (FrM_r _) rfl (by rw [if_neg (by rw [hcur]; exact hL.2.2.2.2.1.2.2.2.1), if_pos hcur]))
                | (have q9 := hGk (by omega)
                   have hbm : b ∈ (aG A).2.1 := by rw [show b = (aG A).2.1.getD k 0 by omega]; exact lget_mem 0 (by omega)
                   exact h _ _ hC (FrM_r _) rfl (by rw [if_pos hbm]))
                | (refine h _ _ C2 F2 t2 ?_
                   rw [if_neg hnf, if_neg (by omega)]
                   unfold jDirt
                   rw [jDo_S, ← e2]
                   first
                     | rw [if_pos (by omega)]
                     | rw [if_neg (by omega), if_pos (by omega)]
                     | rw [if_neg (by omega), if_neg (by omega)])
          · skip
            refine wq_iload_n (pc := 60) dX7_stateOf_60 rfl rfl ?_
            refine wq_aload_n (pc := 61) dX7_stateOf_61 rfl rfl ?_
            refine wq_iload_n (pc := 62) dX7_stateOf_62 rfl rfl ?_
            refine cVK_1 (pc := 63) dX7_stateOf_63 hs (cw_X7_155 _ rfl) (by decide) rfl ⟨by decide, by decide⟩ (Nat.le_of_ble_eq_true rfl) (sp_X7_isWhole hs (by omega) (by omega) ((mR_of hC.1.2.1) 34 _ (by decide) (by decide) (by decide)) ((mR_of hC.1.2.1) 33 _ (by decide) (by decide) (by decide)) ((mR_of hC.1.2.1) 32 _ (by decide) (by decide) (by decide)) (fun hwh => ?_) (fun hwh => ?_))
            · skip
              refine kr_s ?_
              have hwh9 := (hwi (by omega)).mp hwh
              refine wq_if_eq (pc := 66) (tgt := 83) dX7_stateOf_66 (by decide) (by first | (unfold inR; omega) | assumption) (fun c => absurd c (by decide)) (fun _ => ?_)
              refine wq_aload_n (pc := 69) dX7_stateOf_69 rfl rfl ?_
              refine wq_getS (pc := 70) dX7_stateOf_70 hs (gf_X7_7 _ rfl) rfl rfl rfl rfl rfl ?_
              refine wq_iload_n (pc := 73) dX7_stateOf_73 rfl rfl ?_
              refine wq_ialdK (pc := 74) dX7_stateOf_74 hs rfl (by omega) (by omega) ?_
              refine wq_iconst (pc := 75) dX7_stateOf_75 ?_
              refine wq_icmp_ne (pc := 76) (tgt := 83) dX7_stateOf_76 (by decide) (by first | (unfold inR; omega) | assumption) (by first | (unfold inR; omega) | assumption) (fun c11 => ?_) (fun c11 => ?_)
              · skip
                refine wq_aload_n (pc := 83) dX7_stateOf_83 rfl rfl ?_
                refine wq_getS (pc := 84) dX7_stateOf_84 hs (gf_X7_45 _ rfl) rfl rfl rfl rfl rfl ?_
                refine wq_iload_n (pc := 87) dX7_stateOf_87 rfl rfl ?_
                refine wq_ialdK (pc := 88) dX7_stateOf_88 hs rfl (by omega) (by omega) ?_
                refine wq_iadd (pc := 89) dX7_stateOf_89 ?_
                refine wq_istore_n (pc := 90) (L' := [(2, _), (0, _), (1, _), (3, _)]) dX7_stateOf_90 rfl rfl (by decide) ?_
                refine wq_iinc (pc := 91) (L' := [(3, _), (2, _), (0, _), (1, _)]) dX7_stateOf_91 rfl rfl (by decide) ?_
                refine wq_goto (pc := 94) (tgt := 45) dX7_stateOf_94 (by decide) ?_
                refine wq_sub1 (L' := [(0, _), (1, _), (2, _), (3, _)]) ⟨rfl, rfl, rfl, rfl, trivial⟩ ?_
                obtain ⟨q33, q22⟩ := p33 (by omega)
                have key : jAl (aF A) b (k + 1) = jAl (aF A) b k + _ := jAl_s _ _ _
                first
                  | (have hz : jSm (aF A) (b * 16 + (k : Int)) := ⟨by omega, by rw [← hbi]; exact hwh9.2⟩
                     rw [if_pos hz] at key
                     exact ih (k + 1) _ _ (by omega) (by omega) (by omega) (by omega) (by rw [key]; omega) (by omega))
                  | (have hz : ¬ jSm (aF A) (b * 16 + (k : Int)) := fun z => by have z1 := z.1; clear z; omega
                     rw [if_neg hz] at key
                     exact ih (k + 1) _ _ (by omega) (by omega) (by omega) (by omega) (by rw [key]; omega) (by omega))
                  | (have hz : ¬ jSm (aF A) (b * 16 + (k : Int)) := fun z => hwh9 ⟨by rw [hbi, z.1]; decide, by rw [hbi]; exact z.2⟩
                     rw [if_neg hz] at key
                     exact ih (k + 1) _ _ (by omega) (by omega) (by omega) (by omega) (by rw [key]; omega) (by omega))
              · skip
                refine wq_iconst (pc := 79) dX7_stateOf_79 ?_
                refine wq_goto (pc := 80) (tgt := 89) dX7_stateOf_80 (by decide) ?_
                refine wq_iadd (pc := 89) dX7_stateOf_89 ?_
                refine wq_istore_n (pc := 90) (L' := [(2, _), (0, _), (1, _), (3, _)]) dX7_stateOf_90 rfl rfl (by decide) ?_
                refine wq_iinc (pc := 91) (L' := [(3, _), (2, _), (0, _), (1, _)]) dX7_stateOf_91 rfl rfl (by decide) ?_
                refine wq_goto (pc := 94) (tgt := 45) dX7_stateOf_94 (by decide) ?_
                refine wq_sub1 (L' := [(0, _), (1, _), (2, _), (3, _)]) ⟨rfl, rfl, rfl, rfl, trivial⟩ ?_
                obtain ⟨q33, q22⟩ := p33 (by omega)
                have key : jAl (aF A) b (k + 1) = jAl (aF A) b k + _ := jAl_s _ _ _
                first
                  | (have hz : jSm (aF A) (b * 16 + (k : Int)) := ⟨by omega, by rw [← hbi]; exact hwh9.2⟩
                     rw [if_pos hz] at key
                     exact ih (k + 1) _ _ (by omega) (by omega) (by omega) (by omega) (by rw [key]; omega) (by omega))
                  | (have hz : ¬ jSm (aF A) (b * 16 + (k : Int)) := fun z => by have z1 := z.1; clear z; omega
                     rw [if_neg hz] at key
                     exact ih (k + 1) _ _ (by omega) (by omega) (by omega) (by omega) (by rw [key]; omega) (by omega))
                  | (have hz : ¬ jSm (aF A) (b * 16 + (k : Int)) := fun z => hwh9 ⟨by rw [hbi, z.1]; decide, by rw [hbi]; exact z.2⟩
                     rw [if_neg hz] at key
                     exact ih (k + 1) _ _ (by omega) (by omega) (by omega) (by omega) (by rw [key]; omega) (by omega))
            · skip
              refine kr_s ?_
              have hwh9 := fun z => hwh ((hwi (by omega)).mpr z)
              refine wq_if_eq (pc := 66) (tgt := 83) dX7_stateOf_66 (by decide) (by first | (unfold inR; omega) | assumption) (fun _ => ?_) (fun c => absurd c (by decide))
              refine wq_aload_n (pc := 83) dX7_stateOf_83 rfl rfl ?_
              refine wq_getS (pc := 84) dX7_stateOf_84 hs (gf_X7_45 _ rfl) rfl rfl rfl rfl rfl ?_
              refine wq_iload_n (pc := 87) dX7_stateOf_87 rfl rfl ?_
              refine wq_ialdK (pc := 88) dX7_stateOf_88 hs rfl (by omega) (by omega) ?_
              refine wq_iadd (pc := 89) dX7_stateOf_89 ?_
              refine wq_istore_n (pc := 90) (L' := [(2, _), (0, _), (1, _), (3, _)]) dX7_stateOf_90 rfl rfl (by decide) ?_
              refine wq_iinc (pc := 91) (L' := [(3, _), (2, _), (0, _), (1, _)]) dX7_stateOf_91 rfl rfl (by decide) ?_
              refine wq_goto (pc := 94) (tgt := 45) dX7_stateOf_94 (by decide) ?_
              refine wq_sub1 (L' := [(0, _), (1, _), (2, _), (3, _)]) ⟨rfl, rfl, rfl, rfl, trivial⟩ ?_
              obtain ⟨q33, q22⟩ := p33 (by omega)
              have key : jAl (aF A) b (k + 1) = jAl (aF A) b k + _ := jAl_s _ _ _
              first
                | (have hz : jSm (aF A) (b * 16 + (k : Int)) := ⟨by omega, by rw [← hbi]; exact hwh9.2⟩
                   rw [if_pos hz] at key
                   exact ih (k + 1) _ _ (by omega) (by omega) (by omega) (by omega) (by rw [key]; omega) (by omega))
                | (have hz : ¬ jSm (aF A) (b * 16 + (k : Int)) := fun z => by have z1 := z.1; clear z; omega
                   rw [if_neg hz] at key
                   exact ih (k + 1) _ _ (by omega) (by omega) (by omega) (by omega) (by rw [key]; omega) (by omega))
                | (have hz : ¬ jSm (aF A) (b * 16 + (k : Int)) := fun z => hwh9 ⟨by rw [hbi, z.1]; decide, by rw [hbi]; exact z.2⟩
                   rw [if_neg hz] at key
                   exact ih (k + 1) _ _ (by omega) (by omega) (by omega) (by omega) (by rw [key]; omega) (by omega))
      refine wq_sub1 (L' := [(0, _), (1, _), (2, _), (3, _)]) ⟨rfl, rfl, rfl, rfl, trivial⟩ ?_
      exact loop3 17 0 _ _ (by omega) (by omega) (by omega) (by omega) rfl (by omega)
    refine wq_iconst (pc := 10) dX7_stateOf_10 ?_
    refine wq_istore_n (pc := 11) (L' := [(2, _), (0, _), (1, _)]) dX7_stateOf_11 rfl rfl (by decide) ?_
    have loop13 : ∀ (n k : Nat), ∀ (j : Int), k ≤ 8 → 8 < k + n → j = (k : Int) → (k : Int) ≤ (aG A).2.1.length → (∀ i : Nat, i < k → (aG A).2.1.getD i 0 ≠ b) → wp mX7_stateOf 12 [(0, vR 21), (1, vI b), (2, vI j)] [] μ ε Q := by
      intro n
      induction n with
      | zero => intro k j hk1 hk2 e0 e1 e2; exact absurd hk2 (by omega)
      | succ n ih =>
        intro k j hk1 hk2 e0 e1 e2
        subst e0
        have rk : inR (k : Int) := by unfold inR; omega
        have r37 : inR (μ 37 (k : Int)) := (mR_of hC.1.2.1) 37 _ (by decide) (by decide) (by decide)
        have hGk := fun z => hG.2.2.1 k z
        refine wq_iload_n (pc := 12) dX7_stateOf_12 rfl rfl ?_
        refine wq_aload_n (pc := 13) dX7_stateOf_13 rfl rfl ?_
        refine wq_getIK (pc := 14) (kk := 16) dX7_stateOf_14 hs (gf_X7_114 _ rfl) rfl rfl rfl rfl ?_
        refine wq_icmp_ge (pc := 17) (tgt := 38) dX7_stateOf_17 (by decide) (by first | (unfold inR; omega) | assumption) (by first | (unfold inR; omega) | assumption) (fun c14 => ?_) (fun c14 => ?_)
        · skip
          refine wq_sub1 (L' := [(0, _), (1, _)]) ⟨rfl, rfl, trivial⟩ ?_
          refine cut2 (fun z => ?_)
          obtain ⟨i, hi, e⟩ := mem_lget 0 z
          exact e2 i (by omega) e
        · skip
          refine wq_aload_n (pc := 20) dX7_stateOf_20 rfl rfl ?_
          refine wq_getS (pc := 21) dX7_stateOf_21 hs (gf_X7_57 _ rfl) rfl rfl rfl rfl rfl ?_
          refine wq_iload_n (pc := 24) dX7_stateOf_24 rfl rfl ?_
          refine wq_ialdK (pc := 25) dX7_stateOf_25 hs rfl (by omega) (by omega) ?_
          refine wq_iload_n (pc := 26) dX7_stateOf_26 rfl rfl ?_
          refine wq_icmp_ne (pc := 27) (tgt := 32) dX7_stateOf_27 (by decide) (by first | (unfold inR; omega) | assumption) (by first | (unfold inR; omega) | assumption) (fun c15 => ?_) (fun c15 => ?_)
          · skip
            refine wq_iinc (pc := 32) (L' := [(2, _), (0, _), (1, _)]) dX7_stateOf_32 rfl rfl (by decide) ?_
            refine wq_goto (pc := 35) (tgt := 12) dX7_stateOf_35 (by decide) ?_
            refine wq_sub1 (L' := [(0, _), (1, _), (2, _)]) ⟨rfl, rfl, rfl, trivial⟩ ?_
            have q9 := hGk (by omega)
            exact ih (k + 1) _ (by omega) (by omega) (by omega) (by omega) (fun i hi => by
              by_cases c9 : i = k
              · rw [c9]; omega
              · exact e2 i (by omega))
          · skip
            refine wq_iconst (pc := 30) dX7_stateOf_30 ?_
            refine wq_iret (pc := 31) dX7_stateOf_31 rfl ?_
            first
              | (have hcur : b = (aG A).1 := by omega
                 exact h _ _ hC (FrM_r _) rfl (by rw [if_neg (by rw [hcur]; exact hL.2.2.2.2.1.2.2.2.1), if_pos hcur]))
              | (have q9 := hGk (by omega)
                 have hbm : b ∈ (aG A).2.1 := by rw [show b = (aG A).2.1.getD k 0 by omega]; exact lget_mem 0 (by omega)
                 exact h _ _ hC (FrM_r _) rfl (by rw [if_pos hbm]))
              | (refine h _ _ C2 F2 t2 ?_
                 rw [if_neg hnf, if_neg (by omega)]
                 unfold jDirt
                 rw [jDo_S, ← e2]
                 first
                   | rw [if_pos (by omega)]
                   | rw [if_neg (by omega), if_pos (by omega)]
                   | rw [if_neg (by omega), if_neg (by omega)])
    refine wq_sub1 (L' := [(0, _), (1, _), (2, _)]) ⟨rfl, rfl, rfl, trivial⟩ ?_
    exact loop13 9 0 _ (by omega) (by omega) (by omega) (by omega) (fun i hi => absurd hi (Nat.not_lt_zero i))
  · skip
    refine wq_iconst (pc := 8) dX7_stateOf_8 ?_
    refine wq_iret (pc := 9) dX7_stateOf_9 rfl ?_
    first
      | (have hcur : b = (aG A).1 := by omega
         exact h _ _ hC (FrM_r _) rfl (by rw [if_neg (by rw [hcur]; exact hL.2.2.2.2.1.2.2.2.1), if_pos hcur]))
      | (have q9 := hGk (by omega)
         have hbm : b ∈ (aG A).2.1 := by rw [show b = (aG A).2.1.getD k 0 by omega]; exact lget_mem 0 (by omega)
         exact h _ _ hC (FrM_r _) rfl (by rw [if_pos hbm]))
      | (refine h _ _ C2 F2 t2 ?_
         rw [if_neg hnf, if_neg (by omega)]
         unfold jDirt
         rw [jDo_S, ← e2]
         first
           | rw [if_pos (by omega)]
           | rw [if_neg (by omega), if_pos (by omega)]
           | rw [if_neg (by omega), if_neg (by omega)])
