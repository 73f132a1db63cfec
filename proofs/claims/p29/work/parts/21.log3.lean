/-- what of a node is written -/
def nSrc (f : Int → Int) : Int → Int := fun k => if 0 ≤ k ∧ k ≤ 11 then f k else 0
theorem nSrc_congr {f g : Int → Int} (h : ∀ k, 0 ≤ k → k ≤ 11 → f k = g k) : nSrc f = nSrc g := by
  funext k
  unfold nSrc
  split
  · rename_i q; exact h k q.1 q.2
  · rfl
theorem nSrc_1 (f : Int → Int) : nSrc f 1 = f 1 := by unfold nSrc; rw [if_pos (by omega)]
theorem CF_nSrc {F : Fl} {b : Int} {s : Int → Int} {k : Nat} {μ : nMem} {ε : nEnv} (h : CF (fApp F b s k) μ ε) : CF (fApp F b (nSrc s) k) μ ε := by
  refine CF_ext h (fun i i0 i1 q q0 q1 => ?_) (fun c _ _ => ?_) ?_ ?_
  · unfold fApp
    split
    · rfl
    · show (if i = b * 16 + fC F b then (if q = 2 then (k : Int) else nSrc s q) else fN F i q) = if i = b * 16 + fC F b then (if q = 2 then (k : Int) else s q) else fN F i q
      rw [show nSrc s q = s q by unfold nSrc; rw [if_pos ⟨q0, q1⟩]]
  · unfold fApp; split <;> exact ⟨rfl, rfl, rfl⟩
  · unfold fApp; split <;> rfl
  · unfold fApp; split <;> rfl
theorem CF_nSrcR {F : Fl} {b : Int} {s : Int → Int} {μ : nMem} {ε : nEnv} (h : CF (fApR F b s).1 μ ε) : CF (fApR F b (nSrc s)).1 μ ε := by
  unfold fApR at h ⊢
  rw [nSrc_1]
  split at h
  · rename_i q
    rw [if_pos q]
    refine CF_ext h (fun i i0 i1 q q0 q1 => ?_) (fun c _ _ => ?_) rfl rfl
    · show fN (fApp F b (nSrc s) (fL F).toNat) i q = fN (fApp F b s (fL F).toNat) i q
      unfold fApp
      split
      · rfl
      · show (if i = b * 16 + fC F b then (if q = 2 then _ else nSrc s q) else fN F i q) = if i = b * 16 + fC F b then (if q = 2 then _ else s q) else fN F i q
        rw [show nSrc s q = s q by unfold nSrc; rw [if_pos ⟨q0, q1⟩]]
    · show fU (fApp F b (nSrc s) (fL F).toNat) c = fU (fApp F b s (fL F).toNat) c ∧ fC (fApp F b (nSrc s) (fL F).toNat) c = fC (fApp F b s (fL F).toNat) c ∧ fE (fApp F b (nSrc s) (fL F).toNat) c = fE (fApp F b s (fL F).toNat) c
      unfold fApp; split <;> exact ⟨rfl, rfl, rfl⟩
  · rename_i q
    rw [if_neg q]
    exact CF_nSrc h
theorem fApR_2 (F : Fl) (b : Int) (s : Int → Int) : (fApR F b (nSrc s)).2 = (fApR F b s).2 := by
  unfold fApR
  rw [nSrc_1]
  split <;> rfl
def summSrc (c : Int) : Int → Int := fun k => if k = 0 then 3 else if k = 1 then 1 + c else 0
theorem nSrc_summ (c : Int) : nSrc (summSrc c) = summSrc c := by
  funext k
  unfold nSrc summSrc
  split
  · rfl
  · rw [if_neg (by omega), if_neg (by omega)]
abbrev XP : Int → Prop := fun x => x = 2 ∨ x = 3 ∨ x = 4 ∨ x = 5 ∨ x = 6 ∨ x = 8 ∨ x = 9 ∨ x = 10 ∨ x = 11
theorem XP_F {μ μ1 : nMem} {ε ε1 : nEnv} (h : FrF μ ε μ1 ε1) : FrX XP μ ε μ1 ε1 := FrX_of (by unfold XP; omega) h
theorem XP_L {μ μ1 : nMem} {ε ε1 : nEnv} (h : FrX (fun x => x = 8 ∨ x = 10 ∨ x = 11) μ ε μ1 ε1) : FrX XP μ ε μ1 ε1 := FrX_mono (fun x hx => by unfold XP; omega) h
/-- the log goes on with the next free block -/
def lGo (F : Fl) (g : Lg) : Fl × Lg × Bool :=
  if g.1 = -1 then (match g.2.1 with | [] => (F, g, false) | b :: fr => (F, (b, fr, g.2.2), true))
  else if (fApR F g.1 (summSrc (fC F g.1))).2 = false then ((fApR F g.1 (summSrc (fC F g.1))).1, g, false)
  else match g.2.1 with | [] => ((fApR F g.1 (summSrc (fC F g.1))).1, (-1, [], g.2.2 ++ [g.1]), false) | b :: fr => ((fApR F g.1 (summSrc (fC F g.1))).1, (b, fr, g.2.2 ++ [g.1]), true)
def lPut (F : Fl) (g : Lg) (s : Int → Int) : Fl × Lg × Bool :=
  if g.1 ≠ -1 ∧ fU F g.1 + s 1 + fC F g.1 + 2 ≤ 40 then ((fApR F g.1 s).1, g, (fApR F g.1 s).2)
  else if (lGo F g).2.2 = false then lGo F g
  else ((fApR (lGo F g).1 (lGo F g).2.1.1 s).1, (lGo F g).2.1, (fApR (lGo F g).1 (lGo F g).2.1.1 s).2)
/-- the power left, and the blocks that may be written into -/
def wfP (F : Fl) (g : Lg) : Prop := (-1 ≤ fL F ∧ fL F ≤ 1000) ∧ (g.1 = -1 ∨ (0 ≤ g.1 ∧ g.1 < 8)) ∧ (g.1 ≠ -1 → 0 ≤ fC F g.1 ∧ fC F g.1 < 16 ∧ 0 ≤ fU F g.1 ∧ fU F g.1 ≤ 40 ∧ g.2.2.length < 8) ∧ (∀ b ∈ g.2.1, fC F b = 0 ∧ b ≠ g.1)
theorem sm_fin {F : Fl} {g : Lg} {μ : nMem} {ε : nEnv} {c : Int} {P : nMem → Prop} (hC : CF F μ ε) (hL : CL g μ) (hc : 0 ≤ c ∧ c < 16)
    (k : ∀ m, CF F m ε → CL g m → FrX XP μ ε m ε → (∀ b, srcOK F m ε b 9) → nSrc (m 9) = summSrc c → P m) : P (mSumm μ 9 c) := by
  have hx : ∀ x, x ≠ 9 → ∀ j, mSumm μ 9 c x j = μ x j := fun x hx j => by rw [mSumm_v, if_neg (fun q => hx q.1)]
  have h9 : ¬ isRow μ 9 := not_row hC.2.1 (by omega) (Or.inr (by omega))
  have hrow : ∀ x, isRow (mSumm μ 9 c) x → isRow μ x := fun x ⟨i, i0, i1, i2⟩ => ⟨i, i0, i1, by rw [← hx 3 (by omega)]; exact i2⟩
  have hv : ∀ j, 0 ≤ j → j ≤ 13 → mSumm μ 9 c 9 j = if j = 0 then 3 else if j = 1 then 1 + c else 0 := fun j h0 h1 => by rw [mSumm_v, if_pos ⟨rfl, h0, h1⟩]
  refine k _ (CF_mem hC (fun x q j => hx x (fun e => ?_) j)) (CL_mem hL ⟨hx 8 (by omega) 4, hx 8 (by omega) 5, hx 8 (by omega) 6⟩ (hx 10 (by omega)) (hx 11 (by omega))) (FrX_mem (fun x q j => hx x (fun e => q (by unfold XP; omega)) j) (hx 3 (by omega)) (hx 13 (by omega))) (fun b => ⟨(hC.1 9 5 0 _ rfl (by decide)).1, ?_, by omega, Or.inl (fun q => h9 (hrow 9 q))⟩) ?_
  · rcases q with q | q | q | q | q | q | q
    · omega
    · omega
    · omega
    · omega
    · omega
    · omega
    · rw [e] at q; exact h9 q
  · unfold nB
    rw [hv 0 (by omega) (by omega), hv 1 (by omega) (by omega), hv 2 (by omega) (by omega), hv 3 (by omega) (by omega), hv 4 (by omega) (by omega), hv 5 (by omega) (by omega), hv 6 (by omega) (by omega), hv 9 (by omega) (by omega), hv 10 (by omega) (by omega), hv 11 (by omega) (by omega), hv 12 (by omega) (by omega), hv 13 (by omega) (by omega)]
    simp
    omega
  · rw [← nSrc_summ]
    exact nSrc_congr (fun j h0 h1 => hv j h0 (by omega))
theorem sq_X3_takeFree {μ : nMem} {ε : nEnv} {Q : nOut → nMem → nEnv → Prop} {g : Lg} {b : Int} {fr : List Int} (hs : SkP skC ε) (hL : CL g μ) (hfr : g.2.1 = b :: fr) (h : ∀ μ9, CL (g.1, fr, g.2.2) μ9 → (∀ F, CF F μ ε → CF F μ9 ε) → FrX (fun x => x = 8 ∨ x = 10 ∨ x = 11) μ ε μ9 ε → Q (.inl (some (vI b))) μ9 ε) : Sp mX3_takeFree [vR 8] μ ε Q := by
  obtain ⟨gc, gf, gl⟩ := g
  have hfr : gf = b :: fr := hfr
  subst hfr
  exact sp_X3_takeFree hs hL h
theorem cur_fin {g : Lg} {F : Fl} {m : nMem} {ε : nEnv} {b : Int} {P : nMem → Prop} (hL : CL g m) (hC : CF F m ε) (k : ∀ m', CL (b, g.2.1, g.2.2) m' → CF F m' ε → FrX XP m ε m' ε → P m') : P (wr m 8 4 b) := by
  obtain ⟨c1, c2, c3, c4, c5, c6⟩ := hL
  exact k _ ⟨wr_s _ _ _ _, by rw [wr_n _ _ (by omega)]; exact c2, lsAt_far c3 (by omega), by rw [wr_n _ _ (by omega)]; exact c4, lsAt_far c5 (by omega), c6⟩ (CF_wrx hC (by omega)) (FrX_wr (by unfold XP; omega) (by omega) (by omega))
theorem sp_X3_goOn {μ : nMem} {ε : nEnv} {Q : nOut → nMem → nEnv → Prop} {F : Fl} {g : Lg} {b : Int} {fr : List Int} {t : Nat} (hC : CF F μ ε) (hL : CL g μ) (hwf : wfP F g) (hfr : g.2.1 = b :: fr) (hcap : Cap μ ε t) (h0 : (lGo F g).2.2 = false → ∀ μ9 ε9, CF (lGo F g).1 μ9 ε9 → CL (lGo F g).2.1 μ9 → FrX XP μ ε μ9 ε9 → Q (.inl (some (vI 0))) μ9 ε9) (h1 : (lGo F g).2.2 = true → ∀ μ9 ε9, CF (lGo F g).1 μ9 ε9 → CL (lGo F g).2.1 μ9 → FrX XP μ ε μ9 ε9 → Q (.inl (some (vI 1))) μ9 ε9) : Sp mX3_goOn [vR 8] μ ε Q := by
  refine Sp_of (L := [(0, vR 8)]) (by decide) rfl rfl (Nat.le_of_ble_eq_true rfl) ?_
  have hs := hC.1
  have c4 := hL.1
  have hwf2 := hwf.2.1
  have hwf3 := hwf.2.2.1
  have hCf := hC
  have hLf := hL
  have hXf := FrX_refl XP μ ε
  have hbb : 0 ≤ b ∧ b < 8 := hL.2.2.2.2.2.2.2.1 b (by rw [hfr]; exact List.mem_cons_self)
  have e5 : g.1 = -1 ∨ μ 5 g.1 = fC F g.1 := hwf2.imp id (fun q => (hC.2.2.2.2.1 g.1 q.1 q.2).2.1)
  refine wq_aload_n (pc := 0) dX3_goOn_0 rfl rfl ?_
  refine wq_getIK (pc := 1) (kk := 4) dX3_goOn_1 hs (gf_X3_25 _ rfl) rfl rfl rfl rfl ?_
  refine wq_iconst (pc := 4) dX3_goOn_4 ?_
  refine wq_icmp_eq (pc := 5) (tgt := 54) dX3_goOn_5 (by decide) (by first | (unfold inR; omega) | assumption) (by first | (unfold inR; omega) | assumption) (fun c1 => ?_) (fun c1 => ?_)
  · skip
    refine wq_aload_n (pc := 54) dX3_goOn_54 rfl rfl ?_
    refine wq_aload_n (pc := 55) dX3_goOn_55 rfl rfl ?_
    refine cVK_0 (pc := 56) dX3_goOn_56 hs (cw_X3_79 _ rfl) (by decide) rfl ⟨by decide, by decide⟩ (Nat.le_of_ble_eq_true rfl) (sq_X3_takeFree hs hLf hfr (fun m7 hL7 hF7 hX7 => ?_))
    refine kr_s ?_
    have hC7 := hF7 _ hCf
    have hX8 := FrX_trans hCf.2.1 hXf (XP_L hX7)
    have hs := hC7.1
    refine wq_putIK (pc := 59) (kk := 4) dX3_goOn_59 hs (gf_X3_25 _ rfl) rfl rfl rfl rfl rfl ?_
    refine cur_fin (P := fun mm => wp mX3_goOn 62 _ _ mm _ Q) hL7 hC7 (fun m8 hL8 hC8 hX9 => ?_)
    have hs := hC8.1
    have c48 : m8 8 4 = b := hL8.1
    have hXX := FrX_trans hC7.2.1 hX8 hX9
    refine wq_aload_n (pc := 62) dX3_goOn_62 rfl rfl ?_
    refine wq_getIK (pc := 63) (kk := 4) dX3_goOn_63 hs (gf_X3_25 _ rfl) rfl rfl rfl rfl ?_
    refine wq_iconst (pc := 66) dX3_goOn_66 ?_
    refine wq_icmp_eq (pc := 67) (tgt := 74) dX3_goOn_67 (by decide) (by first | (unfold inR; omega) | assumption) (by first | (unfold inR; omega) | assumption) (fun c3 => ?_) (fun c3 => ?_)
    · skip
      refine wq_iconst (pc := 74) dX3_goOn_74 ?_
      refine wq_zret (pc := 75) dX3_goOn_75 rfl (by first | omega | (simp; done) | assumption) ?_
      first
        | (exfalso; omega)
        | (have e : lGo F g = ((fApR F g.1 (summSrc (fC F g.1))).1, g, false) := by unfold lGo; rw [if_neg (by omega), ← c4s, if_pos (by rw [c4s]; rw [c4s] at ha; exact ha), c4s]
           rw [e] at h0
           exact h0 rfl _ _ (c4s ▸ hC2b) (CL_FrF hCa.1 hCa.2.1 hLa hF2) (FrX_trans hCa.2.1 hXa (XP_F hF2)))
        | (have e : lGo F g = (F, (b, fr, g.2.2), true) := by unfold lGo; rw [if_pos (by omega), hfr]
           rw [e] at h1
           exact h1 rfl _ _ hC8 hL8 hXX)
        | (have e : lGo F g = ((fApR F g.1 (summSrc (fC F g.1))).1, (b, fr, g.2.2 ++ [g.1]), true) := by unfold lGo; rw [if_neg (by omega), if_neg (by rw [c4s] at ha; rw [ha]; decide), hfr]
           rw [e] at h1
           exact h1 rfl _ _ (c4s ▸ hC8) (c42 ▸ hL8) hXX)
    · skip
      refine wq_iconst (pc := 70) dX3_goOn_70 ?_
      refine wq_goto (pc := 71) (tgt := 75) dX3_goOn_71 (by decide) ?_
      refine wq_zret (pc := 75) dX3_goOn_75 rfl (by first | omega | (simp; done) | assumption) ?_
      first
        | (exfalso; omega)
        | (have e : lGo F g = ((fApR F g.1 (summSrc (fC F g.1))).1, g, false) := by unfold lGo; rw [if_neg (by omega), ← c4s, if_pos (by rw [c4s]; rw [c4s] at ha; exact ha), c4s]
           rw [e] at h0
           exact h0 rfl _ _ (c4s ▸ hC2b) (CL_FrF hCa.1 hCa.2.1 hLa hF2) (FrX_trans hCa.2.1 hXa (XP_F hF2)))
        | (have e : lGo F g = (F, (b, fr, g.2.2), true) := by unfold lGo; rw [if_pos (by omega), hfr]
           rw [e] at h1
           exact h1 rfl _ _ hC8 hL8 hXX)
        | (have e : lGo F g = ((fApR F g.1 (summSrc (fC F g.1))).1, (b, fr, g.2.2 ++ [g.1]), true) := by unfold lGo; rw [if_neg (by omega), if_neg (by rw [c4s] at ha; rw [ha]; decide), hfr]
           rw [e] at h1
           exact h1 rfl _ _ (c4s ▸ hC8) (c42 ▸ hL8) hXX)
  · skip
    have hwf4 := hwf3 (by omega)
    have e55 := e5.resolve_left (by omega)
    refine wq_aload_n (pc := 8) dX3_goOn_8 rfl rfl ?_
    refine wq_getS (pc := 9) dX3_goOn_9 hs (gf_X3_12 _ rfl) rfl rfl rfl rfl rfl ?_
    refine wq_aload_n (pc := 12) dX3_goOn_12 rfl rfl ?_
    refine wq_getS (pc := 13) dX3_goOn_13 hs (gf_X3_29 _ rfl) rfl rfl rfl rfl rfl ?_
    refine wq_aload_n (pc := 16) dX3_goOn_16 rfl rfl ?_
    refine wq_getIK (pc := 17) (kk := 4) dX3_goOn_17 hs (gf_X3_25 _ rfl) rfl rfl rfl rfl ?_
    refine cVK_1 (pc := 20) dX3_goOn_20 hs (cw_X3_48 _ rfl) (by decide) rfl ⟨by decide, by decide⟩ (Nat.le_of_ble_eq_true rfl) (sq_X0_countOf hs (by omega) ?_)
    refine kr_s ?_
    refine cVK_1 (pc := 23) dX3_goOn_23 hs (cw_X3_72 _ rfl) (by decide) rfl ⟨by decide, by decide⟩ (Nat.le_of_ble_eq_true rfl) (sp_X4_becomeSummary (hs 9 5 0 _ rfl (by decide)).1 ?_)
    refine kr_v ?_
    refine sm_fin (P := fun mm => wp mX3_goOn 26 _ _ mm ε Q) hC hL (by first | omega | (rw [c4]; omega)) (fun ms hCa hLa hXa hsrc hnS => ?_)
    have hs := hCa.1
    have c4s : ms 8 4 = g.1 := hLa.1
    rw [c4, e55] at hnS
    refine wq_aload_n (pc := 26) dX3_goOn_26 rfl rfl ?_
    refine wq_getS (pc := 27) dX3_goOn_27 hs (gf_X3_29 _ rfl) rfl rfl rfl rfl rfl ?_
    refine wq_aload_n (pc := 30) dX3_goOn_30 rfl rfl ?_
    refine wq_getIK (pc := 31) (kk := 4) dX3_goOn_31 hs (gf_X3_25 _ rfl) rfl rfl rfl rfl ?_
    refine wq_aload_n (pc := 34) dX3_goOn_34 rfl rfl ?_
    refine wq_getS (pc := 35) dX3_goOn_35 hs (gf_X3_12 _ rfl) rfl rfl rfl rfl rfl ?_
    refine cVK_2 (pc := 38) dX3_goOn_38 hs (cw_X3_68 _ rfl) (by decide) rfl ⟨by decide, by decide⟩ (Nat.le_of_ble_eq_true rfl) (sr_X0_append hCa (by omega) (by rw [c4s]; omega) hwf.1 (hsrc _) (by have h9 := nSrc_1 (ms 9); rw [hnS] at h9; rw [← h9]; show 1 ≤ 1 + fC F g.1; omega) (hXa.2.2.2.2.2 t hcap) (fun ha m2 ε2 hC2 hF2 => ?_) (fun ha m2 ε2 hC2 hF2 => ?_))
    · skip
      refine kr_s ?_
      rw [← fApR_2, hnS] at ha
      have hC2b := CF_nSrcR hC2
      rw [hnS] at hC2b
      refine wq_if_ne (pc := 41) (tgt := 46) dX3_goOn_41 (by decide) (by first | (unfold inR; omega) | assumption) (fun c => absurd c (by decide)) (fun _ => ?_)
      refine wq_iconst (pc := 44) dX3_goOn_44 ?_
      refine wq_zret (pc := 45) dX3_goOn_45 rfl (by first | omega | (simp; done) | assumption) ?_
      first
        | (exfalso; omega)
        | (have e : lGo F g = ((fApR F g.1 (summSrc (fC F g.1))).1, g, false) := by unfold lGo; rw [if_neg (by omega), ← c4s, if_pos (by rw [c4s]; rw [c4s] at ha; exact ha), c4s]
           rw [e] at h0
           exact h0 rfl _ _ (c4s ▸ hC2b) (CL_FrF hCa.1 hCa.2.1 hLa hF2) (FrX_trans hCa.2.1 hXa (XP_F hF2)))
        | (have e : lGo F g = (F, (b, fr, g.2.2), true) := by unfold lGo; rw [if_pos (by omega), hfr]
           rw [e] at h1
           exact h1 rfl _ _ hC8 hL8 hXX)
        | (have e : lGo F g = ((fApR F g.1 (summSrc (fC F g.1))).1, (b, fr, g.2.2 ++ [g.1]), true) := by unfold lGo; rw [if_neg (by omega), if_neg (by rw [c4s] at ha; rw [ha]; decide), hfr]
           rw [e] at h1
           exact h1 rfl _ _ (c4s ▸ hC8) (c42 ▸ hL8) hXX)
    · skip
      refine kr_s ?_
      rw [← fApR_2, hnS] at ha
      have hC2b := CF_nSrcR hC2
      rw [hnS] at hC2b
      have hs := hC2.1
      have hL2 := CL_FrF hCa.1 hCa.2.1 hLa hF2
      have hX2 := FrX_trans hCa.2.1 hXa (XP_F hF2)
      have c42 : m2 8 4 = g.1 := hL2.1
      have hwf2 := hwf.2.2.1 (by omega)
      refine wq_if_ne (pc := 41) (tgt := 46) dX3_goOn_41 (by decide) (by first | (unfold inR; omega) | assumption) (fun _ => ?_) (fun c => absurd c (by decide))
      refine wq_aload_n (pc := 46) dX3_goOn_46 rfl rfl ?_
      refine wq_aload_n (pc := 47) dX3_goOn_47 rfl rfl ?_
      refine wq_getIK (pc := 48) (kk := 4) dX3_goOn_48 hs (gf_X3_25 _ rfl) rfl rfl rfl rfl ?_
      refine cVK_1 (pc := 51) dX3_goOn_51 hs (cw_X3_76 _ rfl) (by decide) rfl ⟨by decide, by decide⟩ (Nat.le_of_ble_eq_true rfl) (sp_X3_addClosed hs hL2 (by omega) (by have := hwf2.2.2.2.2; exact this) (fun m3 hL3 hC3 hX3 => ?_))
      refine kr_v ?_
      have hCf := hC3 _ hC2b
      have hXf := FrX_trans hC2.2.1 hX2 (XP_L hX3)
      have hLf := hL3
      have hs := hCf.1
      refine wq_aload_n (pc := 54) dX3_goOn_54 rfl rfl ?_
      refine wq_aload_n (pc := 55) dX3_goOn_55 rfl rfl ?_
      refine cVK_0 (pc := 56) dX3_goOn_56 hs (cw_X3_79 _ rfl) (by decide) rfl ⟨by decide, by decide⟩ (Nat.le_of_ble_eq_true rfl) (sq_X3_takeFree hs hLf hfr (fun m7 hL7 hF7 hX7 => ?_))
      refine kr_s ?_
      have hC7 := hF7 _ hCf
      have hX8 := FrX_trans hCf.2.1 hXf (XP_L hX7)
      have hs := hC7.1
      refine wq_putIK (pc := 59) (kk := 4) dX3_goOn_59 hs (gf_X3_25 _ rfl) rfl rfl rfl rfl rfl ?_
      refine cur_fin (P := fun mm => wp mX3_goOn 62 _ _ mm _ Q) hL7 hC7 (fun m8 hL8 hC8 hX9 => ?_)
      have hs := hC8.1
      have c48 : m8 8 4 = b := hL8.1
      have hXX := FrX_trans hC7.2.1 hX8 hX9
      refine wq_aload_n (pc := 62) dX3_goOn_62 rfl rfl ?_
      refine wq_getIK (pc := 63) (kk := 4) dX3_goOn_63 hs (gf_X3_25 _ rfl) rfl rfl rfl rfl ?_
      refine wq_iconst (pc := 66) dX3_goOn_66 ?_
      refine wq_icmp_eq (pc := 67) (tgt := 74) dX3_goOn_67 (by decide) (by first | (unfold inR; omega) | assumption) (by first | (unfold inR; omega) | assumption) (fun c10 => ?_) (fun c10 => ?_)
      · skip
        refine wq_iconst (pc := 74) dX3_goOn_74 ?_
        refine wq_zret (pc := 75) dX3_goOn_75 rfl (by first | omega | (simp; done) | assumption) ?_
        first
          | (exfalso; omega)
          | (have e : lGo F g = ((fApR F g.1 (summSrc (fC F g.1))).1, g, false) := by unfold lGo; rw [if_neg (by omega), ← c4s, if_pos (by rw [c4s]; rw [c4s] at ha; exact ha), c4s]
             rw [e] at h0
             exact h0 rfl _ _ (c4s ▸ hC2b) (CL_FrF hCa.1 hCa.2.1 hLa hF2) (FrX_trans hCa.2.1 hXa (XP_F hF2)))
          | (have e : lGo F g = (F, (b, fr, g.2.2), true) := by unfold lGo; rw [if_pos (by omega), hfr]
             rw [e] at h1
             exact h1 rfl _ _ hC8 hL8 hXX)
          | (have e : lGo F g = ((fApR F g.1 (summSrc (fC F g.1))).1, (b, fr, g.2.2 ++ [g.1]), true) := by unfold lGo; rw [if_neg (by omega), if_neg (by rw [c4s] at ha; rw [ha]; decide), hfr]
             rw [e] at h1
             exact h1 rfl _ _ (c4s ▸ hC8) (c42 ▸ hL8) hXX)
      · skip
        refine wq_iconst (pc := 70) dX3_goOn_70 ?_
        refine wq_goto (pc := 71) (tgt := 75) dX3_goOn_71 (by decide) ?_
        refine wq_zret (pc := 75) dX3_goOn_75 rfl (by first | omega | (simp; done) | assumption) ?_
        first
          | (exfalso; omega)
          | (have e : lGo F g = ((fApR F g.1 (summSrc (fC F g.1))).1, g, false) := by unfold lGo; rw [if_neg (by omega), ← c4s, if_pos (by rw [c4s]; rw [c4s] at ha; exact ha), c4s]
             rw [e] at h0
             exact h0 rfl _ _ (c4s ▸ hC2b) (CL_FrF hCa.1 hCa.2.1 hLa hF2) (FrX_trans hCa.2.1 hXa (XP_F hF2)))
          | (have e : lGo F g = (F, (b, fr, g.2.2), true) := by unfold lGo; rw [if_pos (by omega), hfr]
             rw [e] at h1
             exact h1 rfl _ _ hC8 hL8 hXX)
          | (have e : lGo F g = ((fApR F g.1 (summSrc (fC F g.1))).1, (b, fr, g.2.2 ++ [g.1]), true) := by unfold lGo; rw [if_neg (by omega), if_neg (by rw [c4s] at ha; rw [ha]; decide), hfr]
             rw [e] at h1
             exact h1 rfl _ _ (c4s ▸ hC8) (c42 ▸ hL8) hXX)
