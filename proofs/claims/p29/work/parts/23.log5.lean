/-- a block erased, as far as the power goes -/
def fErR (F : Fl) (b : Int) : Fl × Bool := if fL F = 0 then (fDark F, false) else if fL F = 1 then (fDark (fEra (fSpd F) b), false) else (fSetU (fSpd (fEra (fSpd F) b)) b 1, true)
theorem sr_X0_erase {μ : nMem} {ε : nEnv} {Q : nOut → nMem → nEnv → Prop} {F : Fl} {b : Int} (hC : CF F μ ε) (hb : 0 ≤ b ∧ b < 8) (hlf : -1 ≤ fL F ∧ fL F ≤ 1000) (h0 : (fErR F b).2 = false → ∀ μ9, CF (fErR F b).1 μ9 ε → FrF μ ε μ9 ε → Q (.inl (some (vI 0))) μ9 ε) (h1 : (fErR F b).2 = true → ∀ μ9, CF (fErR F b).1 μ9 ε → FrF μ ε μ9 ε → Q (.inl (some (vI 1))) μ9 ε) : Sp mX0_erase [vR 2, vI b] μ ε Q := by
  refine sp_X0_erase hC hb hlf (fun e μ9 q1 q2 => ?_) (fun e μ9 q1 q2 => ?_) (fun e μ9 q1 q2 => ?_)
  · have e9 : fErR F b = (fDark F, false) := by unfold fErR; rw [if_pos e]
    rw [e9] at h0; exact h0 rfl μ9 q1 q2
  · have e9 : fErR F b = (fDark (fEra (fSpd F) b), false) := by unfold fErR; rw [if_neg (by omega), if_pos e]
    rw [e9] at h0; exact h0 rfl μ9 q1 q2
  · have e9 : fErR F b = (fSetU (fSpd (fEra (fSpd F) b)) b 1, true) := by unfold fErR; rw [if_neg (by omega), if_neg (by omega)]
    rw [e9] at h1; exact h1 rfl μ9 q1 q2
theorem fErR_L {F : Fl} (b : Int) (h : -1 ≤ fL F ∧ fL F ≤ 1000) : -1 ≤ fL (fErR F b).1 ∧ fL (fErR F b).1 ≤ 1000 := by
  unfold fErR
  split
  · show (-1 : Int) ≤ -1 ∧ (-1 : Int) ≤ 1000; omega
  · split
    · show (-1 : Int) ≤ -1 ∧ (-1 : Int) ≤ 1000; omega
    · rename_i h0 h1
      have e : fL (fSpd (fEra (fSpd F) b)) = if (if fL F < 0 then fL F else fL F - 1) < 0 then (if fL F < 0 then fL F else fL F - 1) else (if fL F < 0 then fL F else fL F - 1) - 1 := rfl
      show -1 ≤ fL (fSpd (fEra (fSpd F) b)) ∧ fL (fSpd (fEra (fSpd F) b)) ≤ 1000
      rw [e]
      (repeat' split) <;> omega
theorem fErR_U (F : Fl) (b : Int) : ∀ c, c ≠ b → fU (fErR F b).1 c = fU F c ∧ fC (fErR F b).1 c = fC F c := by
  intro c hc
  unfold fErR
  split
  · exact ⟨rfl, rfl⟩
  · split
    · exact ⟨if_neg hc, if_neg hc⟩
    · exact ⟨by show (if c = b then 1 else if c = b then (0 : Int) else fU F c) = _; rw [if_neg hc, if_neg hc], if_neg hc⟩
def lFree (F : Fl) (g : Lg) (b : Int) : Fl × Lg × Bool := ((fErR F b).1, (if (fErR F b).2 = true then (g.1, g.2.1 ++ [b], g.2.2.filter (fun x => !(x == b))) else g), (fErR F b).2)
def lBrk (F : Fl) (g : Lg) : Nat → Fl × Lg × Bool
  | 0 => (F, g, true)
  | k + 1 => if (lBrk F g k).2.2 = false then lBrk F g k else if fU (lBrk F g k).1 k = 0 then ((fErR (lBrk F g k).1 k).1, (if (fErR (lBrk F g k).1 k).2 = true then ((lBrk F g k).2.1.1, (lBrk F g k).2.1.2.1 ++ [(k : Int)], (lBrk F g k).2.1.2.2) else (lBrk F g k).2.1), (fErR (lBrk F g k).1 k).2) else lBrk F g k
theorem lBrk_s (F : Fl) (g : Lg) (k : Nat) : lBrk F g (k + 1) = if (lBrk F g k).2.2 = false then lBrk F g k else if fU (lBrk F g k).1 k = 0 then ((fErR (lBrk F g k).1 k).1, (if (fErR (lBrk F g k).1 k).2 = true then ((lBrk F g k).2.1.1, (lBrk F g k).2.1.2.1 ++ [(k : Int)], (lBrk F g k).2.1.2.2) else (lBrk F g k).2.1), (fErR (lBrk F g k).1 k).2) else lBrk F g k := rfl
theorem lBrk_false {F : Fl} {g : Lg} {k : Nat} (h : (lBrk F g k).2.2 = false) : ∀ n, lBrk F g (k + n) = lBrk F g k := by
  intro n
  induction n with
  | zero => rfl
  | succ n ih =>
    rw [Nat.add_succ, lBrk_s, ih, if_pos h]
theorem lBrk_L {F : Fl} {g : Lg} (h : -1 ≤ fL F ∧ fL F ≤ 1000) (k : Nat) : -1 ≤ fL (lBrk F g k).1 ∧ fL (lBrk F g k).1 ≤ 1000 := by
  induction k with
  | zero => exact h
  | succ k ih =>
    rw [lBrk_s]
    split
    · exact ih
    · split
      · exact fErR_L _ ih
      · exact ih
theorem lBrk_U (F : Fl) (g : Lg) (k : Nat) : ∀ c : Int, (k : Int) ≤ c → fU (lBrk F g k).1 c = fU F c := by
  induction k with
  | zero => intro c _; rfl
  | succ k ih =>
    intro c hc
    rw [lBrk_s]
    split
    · exact ih c (by omega)
    · split
      · rw [(fErR_U _ _ c (by omega)).1]; exact ih c (by omega)
      · exact ih c (by omega)
theorem lBrk_n (F : Fl) (g : Lg) (k : Nat) : (lBrk F g k).2.1.2.1.length ≤ g.2.1.length + k := by
  induction k with
  | zero => exact Nat.le_refl _
  | succ k ih =>
    rw [lBrk_s]
    split
    · omega
    · split
      · show (if _ then _ else _ : Lg).2.1.length ≤ _
        split
        · show ((lBrk F g k).2.1.2.1 ++ [(k : Int)]).length ≤ _
          rw [List.length_append]; simp; omega
        · omega
      · omega
abbrev wWhole (F : Fl) (i : Int) : Prop := fN F i 0 ≠ 0 ∧ fN F i 2 = fN F i 1
abbrev gAll (F : Fl) (b : Int) (n : Nat) : Prop := ∀ p : Nat, p < n → fN F (b * 16 + p) 0 ≠ 3 ∧ wWhole F (b * 16 + p)
abbrev gCan (F : Fl) (b : Int) : Prop := gAll F b (fC F b).toNat ∧ 0 < fC F b ∧ fU F b + fC F b + 4 ≤ 40
def gCur (F : Fl) : Nat → Int
  | 0 => -1
  | k + 1 => if (gCur F k = -1 ∨ fU F k < fU F (gCur F k)) ∧ gCan F k then (k : Int) else gCur F k
theorem gCur_s (F : Fl) (k : Nat) : gCur F (k + 1) = if (gCur F k = -1 ∨ fU F k < fU F (gCur F k)) ∧ gCan F k then (k : Int) else gCur F k := rfl
theorem gCur_r (F : Fl) (k : Nat) : gCur F k = -1 ∨ (0 ≤ gCur F k ∧ gCur F k < k) := by
  induction k with
  | zero => exact Or.inl rfl
  | succ k ih =>
    rw [gCur_s]
    split <;> omega
def gFree (F : Fl) : Nat → List Int
  | 0 => []
  | k + 1 => if fU F k = 1 then gFree F k ++ [(k : Int)] else gFree F k
theorem gFree_s (F : Fl) (k : Nat) : gFree F (k + 1) = if fU F k = 1 then gFree F k ++ [(k : Int)] else gFree F k := rfl
def gClosed (F : Fl) (c : Int) : Nat → List Int
  | 0 => []
  | k + 1 => if fU F k ≠ 1 ∧ 1 < fU F k ∧ (k : Int) ≠ c then gClosed F c k ++ [(k : Int)] else gClosed F c k
theorem gClosed_s (F : Fl) (c : Int) (k : Nat) : gClosed F c (k + 1) = if fU F k ≠ 1 ∧ 1 < fU F k ∧ (k : Int) ≠ c then gClosed F c k ++ [(k : Int)] else gClosed F c k := rfl
theorem gFree_n (F : Fl) (k : Nat) : (gFree F k).length ≤ k := by
  induction k with
  | zero => exact Nat.le_refl _
  | succ k ih =>
    rw [gFree_s]
    split
    · rw [List.length_append]; simp; exact ih
    · omega
theorem gClosed_n (F : Fl) (c : Int) (k : Nat) : (gClosed F c k).length ≤ k := by
  induction k with
  | zero => exact Nat.le_refl _
  | succ k ih =>
    rw [gClosed_s]
    split
    · rw [List.length_append]; simp; exact ih
    · omega
def fBd (F : Fl) : Prop := ∀ b, 0 ≤ b → b < 8 → 0 ≤ fU F b ∧ fU F b ≤ 40 ∧ 0 ≤ fC F b ∧ fC F b ≤ 16
theorem CF_UC {F : Fl} {μ : nMem} {ε : nEnv} (hC : CF F μ ε) {b : Int} (hb : 0 ≤ b ∧ b < 8) : μ 4 b = fU F b ∧ μ 5 b = fC F b := ⟨(hC.2.2.2.2.1 b hb.1 hb.2).1, (hC.2.2.2.2.1 b hb.1 hb.2).2.1⟩
theorem CF_at {F : Fl} {μ : nMem} {ε : nEnv} (hC : CF F μ ε) {b p : Int} (hb : 0 ≤ b ∧ b < 8) (hp : 0 ≤ p ∧ p < 16) : nAtB μ b p = nRow μ (b * 16 + p) ∧ ∀ k, 0 ≤ k → k ≤ 11 → μ (nAtB μ b p) k = fN F (b * 16 + p) k := by
  have e : nAtB μ b p = nRow μ (b * 16 + p) := by unfold nAtB; rw [if_pos (by omega)]
  exact ⟨e, fun k h0 h1 => by rw [e]; exact hC.2.2.1 _ (by omega) (by omega) k h0 h1⟩
theorem sp_X3_freeClosed {μ : nMem} {ε : nEnv} {Q : nOut → nMem → nEnv → Prop} {F : Fl} {g : Lg} {b : Int} (hC : CF F μ ε) (hL : CL g μ) (hb : 0 ≤ b ∧ b < 8) (hlf : -1 ≤ fL F ∧ fL F ≤ 1000) (hn : g.2.1.length < 8) (h0 : (lFree F g b).2.2 = false → ∀ μ9, CF (lFree F g b).1 μ9 ε → CL (lFree F g b).2.1 μ9 → FrX XP μ ε μ9 ε → Q (.inl (some (vI 0))) μ9 ε) (h1 : (lFree F g b).2.2 = true → ∀ μ9, CF (lFree F g b).1 μ9 ε → CL (lFree F g b).2.1 μ9 → FrX XP μ ε μ9 ε → Q (.inl (some (vI 1))) μ9 ε) : Sp mX3_freeClosed [vR 8, vI b] μ ε Q := by
  refine Sp_of (L := [(0, vR 8), (1, vI b)]) (by decide) rfl rfl (Nat.le_of_ble_eq_true rfl) ?_
  have hs := hC.1
  refine wq_aload_n (pc := 0) dX3_freeClosed_0 rfl rfl ?_
  refine wq_getS (pc := 1) dX3_freeClosed_1 hs (gf_X3_29 _ rfl) rfl rfl rfl rfl rfl ?_
  refine wq_iload_n (pc := 4) dX3_freeClosed_4 rfl rfl ?_
  refine cVK_1 (pc := 5) dX3_freeClosed_5 hs (cw_X3_83 _ rfl) (by decide) rfl ⟨by decide, by decide⟩ (Nat.le_of_ble_eq_true rfl) (sr_X0_erase hC (by omega) hlf (fun ha m1 hC1 hF1 => ?_) (fun ha m1 hC1 hF1 => ?_))
  · skip
    refine kr_s ?_
    refine wq_if_ne (pc := 8) (tgt := 13) dX3_freeClosed_8 (by decide) (by first | (unfold inR; omega) | assumption) (fun c => absurd c (by decide)) (fun _ => ?_)
    refine wq_iconst (pc := 11) dX3_freeClosed_11 ?_
    refine wq_zret (pc := 12) dX3_freeClosed_12 rfl (by first | omega | (simp; done) | assumption) ?_
    first
      | exact h0 ha _ hC1 (by unfold lFree; show CL (if _ then _ else _) _; rw [if_neg (by rw [ha]; decide)]; exact CL_FrF hC.1 hC.2.1 hL hF1) (XP_F hF1)
      | exact h1 ha _ hCc (by unfold lFree; show CL (if _ then _ else _) _; rw [if_pos ha]; exact hL3) hXc
  · skip
    refine kr_s ?_
    have hs := hC1.1
    have hL1 := CL_FrF hC.1 hC.2.1 hL hF1
    have hX1 := XP_F hF1
    refine wq_if_ne (pc := 8) (tgt := 13) dX3_freeClosed_8 (by decide) (by first | (unfold inR; omega) | assumption) (fun _ => ?_) (fun c => absurd c (by decide))
    refine wq_aload_n (pc := 13) dX3_freeClosed_13 rfl rfl ?_
    refine wq_iload_n (pc := 14) dX3_freeClosed_14 rfl rfl ?_
    refine cVK_1 (pc := 15) dX3_freeClosed_15 hs (cw_X3_87 _ rfl) (by decide) rfl ⟨by decide, by decide⟩ (Nat.le_of_ble_eq_true rfl) (sp_X3_dropClosed hs (show CL (g.1, g.2.1, g.2.2) m1 from hL1) (by omega) (fun m2 hL2 hC2 hX2 => ?_))
    refine kr_v ?_
    have hCb := hC2 _ hC1
    have hXb := FrX_trans hC1.2.1 hX1 (XP_L hX2)
    have hs := hCb.1
    refine wq_aload_n (pc := 18) dX3_freeClosed_18 rfl rfl ?_
    refine wq_iload_n (pc := 19) dX3_freeClosed_19 rfl rfl ?_
    refine cVK_1 (pc := 20) dX3_freeClosed_20 hs (cw_X3_90 _ rfl) (by decide) rfl ⟨by decide, by decide⟩ (Nat.le_of_ble_eq_true rfl) (sp_X3_addFree hs hL2 (by omega) (by show g.2.1.length < 8; omega) (fun m3 hL3 hC3 hX3 => ?_))
    refine kr_v ?_
    have hCc := hC3 _ hCb
    have hXc := FrX_trans hCb.2.1 hXb (XP_L hX3)
    have hs := hCc.1
    refine wq_iconst (pc := 23) dX3_freeClosed_23 ?_
    refine wq_zret (pc := 24) dX3_freeClosed_24 rfl (by first | omega | (simp; done) | assumption) ?_
    first
      | exact h0 ha _ hC1 (by unfold lFree; show CL (if _ then _ else _) _; rw [if_neg (by rw [ha]; decide)]; exact CL_FrF hC.1 hC.2.1 hL hF1) (XP_F hF1)
      | exact h1 ha _ hCc (by unfold lFree; show CL (if _ then _ else _) _; rw [if_pos ha]; exact hL3) hXc
theorem sp_X3_eraseBroken {μ : nMem} {ε : nEnv} {Q : nOut → nMem → nEnv → Prop} {F : Fl} {g : Lg} (hC : CF F μ ε) (hL : CL g μ) (hbd : fBd F) (hlf : -1 ≤ fL F ∧ fL F ≤ 1000) (hn : ∀ k : Nat, k < 8 → (lBrk F g k).2.1.2.1.length < 8) (h0 : (lBrk F g 8).2.2 = false → ∀ μ9, CF (lBrk F g 8).1 μ9 ε → CL (lBrk F g 8).2.1 μ9 → FrX XP μ ε μ9 ε → Q (.inl (some (vI 0))) μ9 ε) (h1 : (lBrk F g 8).2.2 = true → ∀ μ9, CF (lBrk F g 8).1 μ9 ε → CL (lBrk F g 8).2.1 μ9 → FrX XP μ ε μ9 ε → Q (.inl (some (vI 1))) μ9 ε) : Sp mX3_eraseBroken [vR 8] μ ε Q := by
  refine Sp_of (L := [(0, vR 8)]) (by decide) rfl rfl (Nat.le_of_ble_eq_true rfl) ?_
  have hs := hC.1
  refine wq_iconst (pc := 0) dX3_eraseBroken_0 ?_
  refine wq_istore_n (pc := 1) (L' := [(1, _), (0, _)]) dX3_eraseBroken_1 rfl rfl (by decide) ?_
  have loop1 : ∀ (n k : Nat), ∀ (m : nMem) (i : Int), k ≤ 8 → 8 < k + n → i = (k : Int) → CF (lBrk F g k).1 m ε → CL (lBrk F g k).2.1 m → FrX XP μ ε m ε → (lBrk F g k).2.2 = true → wp mX3_eraseBroken 2 [(0, vR 8), (1, vI i)] [] m ε Q := by
    intro n
    induction n with
    | zero => intro k m i hk1 hk2 e0 e1 e2 e3 e4; exact absurd hk2 (by omega)
    | succ n ih =>
      intro k m i hk1 hk2 e0 e1 e2 e3 e4
      subst e0
      have hs := e1.1
      have u0 : k < 8 → m 4 k = fU (lBrk F g k).1 k ∧ 0 ≤ m 4 k ∧ m 4 k ≤ 40 := fun q => by
        have h9 := (CF_UC e1 (b := k) (by omega)).1
        rw [h9, lBrk_U F g k k (by omega)]
        have := hbd k (by omega) (by omega)
        exact ⟨rfl, this.1, this.2.1⟩
      refine wq_iload_n (pc := 2) dX3_eraseBroken_2 rfl rfl ?_
      refine wq_bipush (pc := 3) dX3_eraseBroken_3 (by decide) (by decide) ?_
      refine wq_icmp_ge (pc := 5) (tgt := 43) dX3_eraseBroken_5 (by decide) (by first | (unfold inR; omega) | assumption) (by first | (unfold inR; omega) | assumption) (fun c2 => ?_) (fun c2 => ?_)
      · skip
        refine wq_iconst (pc := 43) dX3_eraseBroken_43 ?_
        refine wq_zret (pc := 44) dX3_eraseBroken_44 rfl (by first | omega | (simp; done) | assumption) ?_
        first
          | (have hk9 : k = 8 := by omega
             subst hk9
             exact h1 e4 _ e1 e2 e3)
          | (have es : lBrk F g (k + 1) = ((fErR (lBrk F g k).1 k).1, (lBrk F g k).2.1, (fErR (lBrk F g k).1 k).2) := by rw [lBrk_s, if_neg (by rw [e4]; decide), if_pos (by rw [← u1]; assumption), if_neg (by rw [ha]; decide)]
             have ef : (lBrk F g (k + 1)).2.2 = false := by rw [es]; exact ha
             have e8 := lBrk_false ef (7 - k)
             rw [show k + 1 + (7 - k) = 8 by omega] at e8
             rw [e8, es] at h0
             exact h0 ha _ hC1 (CL_FrF e1.1 e1.2.1 e2 hF1) (FrX_trans e1.2.1 e3 (XP_F hF1)))
      · skip
        obtain ⟨u1, u2, u3⟩ := u0 (by omega)
        have hs := e1.1
        refine wq_aload_n (pc := 8) dX3_eraseBroken_8 rfl rfl ?_
        refine wq_getS (pc := 9) dX3_eraseBroken_9 hs (gf_X3_29 _ rfl) rfl rfl rfl rfl rfl ?_
        refine wq_iload_n (pc := 12) dX3_eraseBroken_12 rfl rfl ?_
        refine cVK_1 (pc := 13) dX3_eraseBroken_13 hs (cw_X3_39 _ rfl) (by decide) rfl ⟨by decide, by decide⟩ (Nat.le_of_ble_eq_true rfl) (sq_X0_usedOf hs (by omega) ?_)
        refine kr_s ?_
        refine wq_if_ne (pc := 16) (tgt := 37) dX3_eraseBroken_16 (by decide) (by first | (unfold inR; omega) | assumption) (fun c3 => ?_) (fun c3 => ?_)
        · skip
          refine wq_iinc (pc := 37) (L' := [(1, _), (0, _)]) dX3_eraseBroken_37 rfl rfl (by decide) ?_
          refine wq_goto (pc := 40) (tgt := 2) dX3_eraseBroken_40 (by decide) ?_
          refine wq_sub1 (L' := [(0, _), (1, _)]) ⟨rfl, rfl, trivial⟩ ?_
          first
            | (have es : lBrk F g (k + 1) = lBrk F g k := by rw [lBrk_s, if_neg (by rw [e4]; decide), if_neg (by rw [← u1]; assumption)]
               refine ih (k + 1) m _ (by omega) (by omega) (by omega) ?_ ?_ e3 ?_ <;> rw [es] <;> assumption)
            | (have es : lBrk F g (k + 1) = ((fErR (lBrk F g k).1 k).1, ((lBrk F g k).2.1.1, (lBrk F g k).2.1.2.1 ++ [(k : Int)], (lBrk F g k).2.1.2.2), (fErR (lBrk F g k).1 k).2) := by rw [lBrk_s, if_neg (by rw [e4]; decide), if_pos (by rw [← u1]; assumption), if_pos ha]
               refine ih (k + 1) m3 _ (by omega) (by omega) (by omega) ?_ ?_ hXc ?_ <;> rw [es] <;> assumption)
        · skip
          refine wq_aload_n (pc := 19) dX3_eraseBroken_19 rfl rfl ?_
          refine wq_getS (pc := 20) dX3_eraseBroken_20 hs (gf_X3_29 _ rfl) rfl rfl rfl rfl rfl ?_
          refine wq_iload_n (pc := 23) dX3_eraseBroken_23 rfl rfl ?_
          refine cVK_1 (pc := 24) dX3_eraseBroken_24 hs (cw_X3_83 _ rfl) (by decide) rfl ⟨by decide, by decide⟩ (Nat.le_of_ble_eq_true rfl) (sr_X0_erase e1 (by omega) (lBrk_L hlf k) (fun ha m1 hC1 hF1 => ?_) (fun ha m1 hC1 hF1 => ?_))
          · skip
            refine kr_s ?_
            refine wq_if_ne (pc := 27) (tgt := 32) dX3_eraseBroken_27 (by decide) (by first | (unfold inR; omega) | assumption) (fun c => absurd c (by decide)) (fun _ => ?_)
            refine wq_iconst (pc := 30) dX3_eraseBroken_30 ?_
            refine wq_zret (pc := 31) dX3_eraseBroken_31 rfl (by first | omega | (simp; done) | assumption) ?_
            first
              | (have hk9 : k = 8 := by omega
                 subst hk9
                 exact h1 e4 _ e1 e2 e3)
              | (have es : lBrk F g (k + 1) = ((fErR (lBrk F g k).1 k).1, (lBrk F g k).2.1, (fErR (lBrk F g k).1 k).2) := by rw [lBrk_s, if_neg (by rw [e4]; decide), if_pos (by rw [← u1]; assumption), if_neg (by rw [ha]; decide)]
                 have ef : (lBrk F g (k + 1)).2.2 = false := by rw [es]; exact ha
                 have e8 := lBrk_false ef (7 - k)
                 rw [show k + 1 + (7 - k) = 8 by omega] at e8
                 rw [e8, es] at h0
                 exact h0 ha _ hC1 (CL_FrF e1.1 e1.2.1 e2 hF1) (FrX_trans e1.2.1 e3 (XP_F hF1)))
          · skip
            refine kr_s ?_
            have hs := hC1.1
            have hL1 := CL_FrF e1.1 e1.2.1 e2 hF1
            have hX1 := FrX_trans e1.2.1 e3 (XP_F hF1)
            refine wq_if_ne (pc := 27) (tgt := 32) dX3_eraseBroken_27 (by decide) (by first | (unfold inR; omega) | assumption) (fun _ => ?_) (fun c => absurd c (by decide))
            refine wq_aload_n (pc := 32) dX3_eraseBroken_32 rfl rfl ?_
            refine wq_iload_n (pc := 33) dX3_eraseBroken_33 rfl rfl ?_
            refine cVK_1 (pc := 34) dX3_eraseBroken_34 hs (cw_X3_90 _ rfl) (by decide) rfl ⟨by decide, by decide⟩ (Nat.le_of_ble_eq_true rfl) (sp_X3_addFree hs hL1 (by omega) (hn k (by omega)) (fun m3 hL3 hC3 hX3 => ?_))
            refine kr_v ?_
            have hCc := hC3 _ hC1
            have hXc := FrX_trans hC1.2.1 hX1 (XP_L hX3)
            have hs := hCc.1
            refine wq_iinc (pc := 37) (L' := [(1, _), (0, _)]) dX3_eraseBroken_37 rfl rfl (by decide) ?_
            refine wq_goto (pc := 40) (tgt := 2) dX3_eraseBroken_40 (by decide) ?_
            refine wq_sub1 (L' := [(0, _), (1, _)]) ⟨rfl, rfl, trivial⟩ ?_
            first
              | (have es : lBrk F g (k + 1) = lBrk F g k := by rw [lBrk_s, if_neg (by rw [e4]; decide), if_neg (by rw [← u1]; assumption)]
                 refine ih (k + 1) m _ (by omega) (by omega) (by omega) ?_ ?_ e3 ?_ <;> rw [es] <;> assumption)
              | (have es : lBrk F g (k + 1) = ((fErR (lBrk F g k).1 k).1, ((lBrk F g k).2.1.1, (lBrk F g k).2.1.2.1 ++ [(k : Int)], (lBrk F g k).2.1.2.2), (fErR (lBrk F g k).1 k).2) := by rw [lBrk_s, if_neg (by rw [e4]; decide), if_pos (by rw [← u1]; assumption), if_pos ha]
                 refine ih (k + 1) m3 _ (by omega) (by omega) (by omega) ?_ ?_ hXc ?_ <;> rw [es] <;> assumption)
  refine wq_sub1 (L' := [(0, _), (1, _)]) ⟨rfl, rfl, trivial⟩ ?_
  exact loop1 9 0 μ _ (by omega) (by omega) (by omega) hC hL (FrX_refl _ _ _) rfl
theorem sp_X3_canGoOn {μ : nMem} {ε : nEnv} {Q : nOut → nMem → nEnv → Prop} {F : Fl} {b : Int} (hC : CF F μ ε) (hbd : fBd F) (hb : 0 ≤ b ∧ b < 8) (h1 : gCan F b → Q (.inl (some (vI 1))) μ ε) (h2 : ¬ gCan F b → Q (.inl (some (vI 0))) μ ε) : Sp mX3_canGoOn [vR 8, vI b] μ ε Q := by
  refine Sp_of (L := [(0, vR 8), (1, vI b)]) (by decide) rfl rfl (Nat.le_of_ble_eq_true rfl) ?_
  have hs := hC.1
  have hr := hC.2.1
  obtain ⟨u1, u2⟩ := CF_UC hC hb
  obtain ⟨d1, d2, d3, d4⟩ := hbd b hb.1 hb.2
  refine wq_aload_n (pc := 0) dX3_canGoOn_0 rfl rfl ?_
  refine wq_getS (pc := 1) dX3_canGoOn_1 hs (gf_X3_29 _ rfl) rfl rfl rfl rfl rfl ?_
  refine wq_iload_n (pc := 4) dX3_canGoOn_4 rfl rfl ?_
  refine cVK_1 (pc := 5) dX3_canGoOn_5 hs (cw_X3_48 _ rfl) (by decide) rfl ⟨by decide, by decide⟩ (Nat.le_of_ble_eq_true rfl) (sq_X0_countOf hs (by omega) ?_)
  refine kr_s ?_
  refine wq_istore_n (pc := 8) (L' := [(2, _), (0, _), (1, _)]) dX3_canGoOn_8 rfl rfl (by decide) ?_
  refine wq_iconst (pc := 9) dX3_canGoOn_9 ?_
  refine wq_istore_n (pc := 10) (L' := [(3, _), (2, _), (0, _), (1, _)]) dX3_canGoOn_10 rfl rfl (by decide) ?_
  have loop1 : ∀ (n k : Nat), ∀ (p : Int), k ≤ 16 → 16 < k + n → p = (k : Int) → gAll F b k → ((k : Int) ≤ μ 5 b) → wp mX3_canGoOn 11 [(0, vR 8), (1, vI b), (2, vI (μ 5 b)), (3, vI p)] [] μ ε Q := by
    intro n
    induction n with
    | zero => intro k p hk1 hk2 e0 e1 e2; exact absurd hk2 (by omega)
    | succ n ih =>
      intro k p hk1 hk2 e0 e1 e2
      subst e0
      have hat : k < 16 → ∀ q, 0 ≤ q → q ≤ 11 → μ (nAtB μ b k) q = fN F (b * 16 + k) q := fun q => (CF_at hC hb (p := k) (by omega)).2
      obtain ⟨b0, b1, b2, b3, b4, b5, b6, b9, b10, b11, b12, b13⟩ := nAtB_nB hr b (k : Int)
      refine wq_iload_n (pc := 11) dX3_canGoOn_11 rfl rfl ?_
      refine wq_iload_n (pc := 12) dX3_canGoOn_12 rfl rfl ?_
      refine wq_icmp_ge (pc := 13) (tgt := 52) dX3_canGoOn_13 (by decide) (by first | (unfold inR; omega) | assumption) (by first | (unfold inR; omega) | assumption) (fun c2 => ?_) (fun c2 => ?_)
      · skip
        refine wq_iload_n (pc := 52) dX3_canGoOn_52 rfl rfl ?_
        refine wq_if_le (pc := 53) (tgt := 77) dX3_canGoOn_53 (by decide) (by first | (unfold inR; omega) | assumption) (fun c3 => ?_) (fun c3 => ?_)
        · skip
          refine wq_iconst (pc := 77) dX3_canGoOn_77 ?_
          refine wq_zret (pc := 78) dX3_canGoOn_78 rfl (by first | omega | (simp; done) | assumption) ?_
          first
            | exact h1 ⟨by rw [show (fC F b).toNat = k by omega]; exact e1, by omega, by omega⟩
            | exact h2 (fun q => by
                have h9 := q.1 k (by omega)
                have a0 := hat (by omega) 0 (by omega) (by omega)
                have a1 := hat (by omega) 1 (by omega) (by omega)
                have a2 := hat (by omega) 2 (by omega) (by omega)
                unfold wWhole at h9
                rw [← a0, ← a1, ← a2] at h9
                first | exact absurd h9.2 (by assumption) | omega)
            | exact h2 (fun q => by have := q.2; omega)
        · skip
          refine wq_aload_n (pc := 56) dX3_canGoOn_56 rfl rfl ?_
          refine wq_aload_n (pc := 57) dX3_canGoOn_57 rfl rfl ?_
          refine wq_getS (pc := 58) dX3_canGoOn_58 hs (gf_X3_29 _ rfl) rfl rfl rfl rfl rfl ?_
          refine wq_iload_n (pc := 61) dX3_canGoOn_61 rfl rfl ?_
          refine cVK_1 (pc := 62) dX3_canGoOn_62 hs (cw_X3_39 _ rfl) (by decide) rfl ⟨by decide, by decide⟩ (Nat.le_of_ble_eq_true rfl) (sq_X0_usedOf hs (by omega) ?_)
          refine kr_s ?_
          refine wq_iload_n (pc := 65) dX3_canGoOn_65 rfl rfl ?_
          refine wq_iconst (pc := 66) dX3_canGoOn_66 ?_
          refine cVK_3 (pc := 67) dX3_canGoOn_67 hs (cw_X3_57 _ rfl) (by decide) rfl ⟨by decide, by decide⟩ (Nat.le_of_ble_eq_true rfl) (sp_X3_fits (by omega) (by omega) (by omega) (fun hf4 => ?_) (fun hf5 => ?_))
          · skip
            refine kr_s ?_
            refine wq_if_eq (pc := 70) (tgt := 77) dX3_canGoOn_70 (by decide) (by first | (unfold inR; omega) | assumption) (fun c => absurd c (by decide)) (fun _ => ?_)
            refine wq_iconst (pc := 73) dX3_canGoOn_73 ?_
            refine wq_goto (pc := 74) (tgt := 78) dX3_canGoOn_74 (by decide) ?_
            refine wq_zret (pc := 78) dX3_canGoOn_78 rfl (by first | omega | (simp; done) | assumption) ?_
            first
              | exact h1 ⟨by rw [show (fC F b).toNat = k by omega]; exact e1, by omega, by omega⟩
              | exact h2 (fun q => by
                  have h9 := q.1 k (by omega)
                  have a0 := hat (by omega) 0 (by omega) (by omega)
                  have a1 := hat (by omega) 1 (by omega) (by omega)
                  have a2 := hat (by omega) 2 (by omega) (by omega)
                  unfold wWhole at h9
                  rw [← a0, ← a1, ← a2] at h9
                  first | exact absurd h9.2 (by assumption) | omega)
              | exact h2 (fun q => by have := q.2; omega)
          · skip
            refine kr_s ?_
            refine wq_if_eq (pc := 70) (tgt := 77) dX3_canGoOn_70 (by decide) (by first | (unfold inR; omega) | assumption) (fun _ => ?_) (fun c => absurd c (by decide))
            refine wq_iconst (pc := 77) dX3_canGoOn_77 ?_
            refine wq_zret (pc := 78) dX3_canGoOn_78 rfl (by first | omega | (simp; done) | assumption) ?_
            first
              | exact h1 ⟨by rw [show (fC F b).toNat = k by omega]; exact e1, by omega, by omega⟩
              | exact h2 (fun q => by
                  have h9 := q.1 k (by omega)
                  have a0 := hat (by omega) 0 (by omega) (by omega)
                  have a1 := hat (by omega) 1 (by omega) (by omega)
                  have a2 := hat (by omega) 2 (by omega) (by omega)
                  unfold wWhole at h9
                  rw [← a0, ← a1, ← a2] at h9
                  first | exact absurd h9.2 (by assumption) | omega)
              | exact h2 (fun q => by have := q.2; omega)
      · skip
        refine wq_aload_n (pc := 16) dX3_canGoOn_16 rfl rfl ?_
        refine wq_getS (pc := 17) dX3_canGoOn_17 hs (gf_X3_29 _ rfl) rfl rfl rfl rfl rfl ?_
        refine wq_iload_n (pc := 20) dX3_canGoOn_20 rfl rfl ?_
        refine wq_iload_n (pc := 21) dX3_canGoOn_21 rfl rfl ?_
        refine cVK_2 (pc := 22) dX3_canGoOn_22 hs (cw_X3_96 _ rfl) (by decide) rfl ⟨by decide, by decide⟩ (Nat.le_of_ble_eq_true rfl) (sp_X0_at hs (by first | (unfold inR; omega) | assumption) (by first | (unfold inR; omega) | assumption) ?_)
        refine kr_s ?_
        refine wq_astore (pc := 25) (L' := [(4, _), (0, _), (1, _), (2, _), (3, _)]) dX3_canGoOn_25 rfl (by decide) ?_
        refine wq_aload (pc := 27) dX3_canGoOn_27 rfl ?_
        refine wq_getI (pc := 29) (kk := 0) dX3_canGoOn_29 (gf_X3_100 _ rfl) (by first | with_reducible assumption | exact nAtB_kd hs hr _ _) rfl rfl rfl ?_
        refine wq_iconst (pc := 32) dX3_canGoOn_32 ?_
        refine wq_icmp_eq (pc := 33) (tgt := 44) dX3_canGoOn_33 (by decide) (by first | (unfold inR; omega) | assumption) (by first | (unfold inR; omega) | assumption) (fun c8 => ?_) (fun c8 => ?_)
        · skip
          refine wq_iconst (pc := 44) dX3_canGoOn_44 ?_
          refine wq_zret (pc := 45) dX3_canGoOn_45 rfl (by first | omega | (simp; done) | assumption) ?_
          first
            | exact h1 ⟨by rw [show (fC F b).toNat = k by omega]; exact e1, by omega, by omega⟩
            | exact h2 (fun q => by
                have h9 := q.1 k (by omega)
                have a0 := hat (by omega) 0 (by omega) (by omega)
                have a1 := hat (by omega) 1 (by omega) (by omega)
                have a2 := hat (by omega) 2 (by omega) (by omega)
                unfold wWhole at h9
                rw [← a0, ← a1, ← a2] at h9
                first | exact absurd h9.2 (by assumption) | omega)
            | exact h2 (fun q => by have := q.2; omega)
        · skip
          refine wq_aload (pc := 36) dX3_canGoOn_36 rfl ?_
          refine cV_0 (pc := 38) dX3_canGoOn_38 (cw_X3_103 _ rfl) (by decide) (by first | with_reducible assumption | exact nAtB_kd hs hr _ _) ⟨by decide, by decide⟩ (Nat.le_of_ble_eq_true rfl) (sp_X4_isWhole (by first | with_reducible assumption | exact nAtB_kd hs hr _ _) (nAtB_nB hr _ _) (fun hw9 => ?_) (fun hw10 => ?_))
          · skip
            refine kr_s ?_
            refine wq_if_ne (pc := 41) (tgt := 46) dX3_canGoOn_41 (by decide) (by first | (unfold inR; omega) | assumption) (fun _ => ?_) (fun c => absurd c (by decide))
            refine wq_iinc (pc := 46) (L' := [(3, _), (4, _), (0, _), (1, _), (2, _)]) dX3_canGoOn_46 rfl rfl (by decide) ?_
            refine wq_goto (pc := 49) (tgt := 11) dX3_canGoOn_49 (by decide) ?_
            refine wq_sub1 (L' := [(0, _), (1, _), (2, _), (3, _)]) ⟨rfl, rfl, rfl, rfl, trivial⟩ ?_
            have a0 := hat (by omega) 0 (by omega) (by omega)
            have a1 := hat (by omega) 1 (by omega) (by omega)
            have a2 := hat (by omega) 2 (by omega) (by omega)
            refine ih (k + 1) _ (by omega) (by omega) (by omega) (fun j hj => ?_) (by omega)
            by_cases e : j = k
            · subst e; rw [← a0]; unfold wWhole; rw [← a0, ← a1, ← a2]; exact ⟨by assumption, by assumption⟩
            · exact e1 j (by omega)
          · skip
            refine kr_s ?_
            refine wq_if_ne (pc := 41) (tgt := 46) dX3_canGoOn_41 (by decide) (by first | (unfold inR; omega) | assumption) (fun c => absurd c (by decide)) (fun _ => ?_)
            refine wq_iconst (pc := 44) dX3_canGoOn_44 ?_
            refine wq_zret (pc := 45) dX3_canGoOn_45 rfl (by first | omega | (simp; done) | assumption) ?_
            first
              | exact h1 ⟨by rw [show (fC F b).toNat = k by omega]; exact e1, by omega, by omega⟩
              | exact h2 (fun q => by
                  have h9 := q.1 k (by omega)
                  have a0 := hat (by omega) 0 (by omega) (by omega)
                  have a1 := hat (by omega) 1 (by omega) (by omega)
                  have a2 := hat (by omega) 2 (by omega) (by omega)
                  unfold wWhole at h9
                  rw [← a0, ← a1, ← a2] at h9
                  first | exact absurd h9.2 (by assumption) | omega)
              | exact h2 (fun q => by have := q.2; omega)
  refine wq_sub1 (L' := [(0, _), (1, _), (2, _), (3, _)]) ⟨rfl, rfl, rfl, rfl, trivial⟩ ?_
  exact loop1 17 0 _ (by omega) (by omega) (by omega) (fun j hj => absurd hj (by omega)) (by omega)
