theorem fApR_N (F : Fl) (b : Int) (s : Int → Int) : ∀ j, j ≠ b * 16 + fC F b → ∀ q, fN (fApR F b s).1 j q = fN F j q := by
  intro j hj q
  unfold fApR
  split
  · exact fApp_N F b s _ j hj q
  · exact fApp_N F b s _ j hj q
theorem fApp_C (F : Fl) (b : Int) (s : Int → Int) (k : Nat) : ∀ c, c ≠ b → fC (fApp F b s k) c = fC F c ∧ fU (fApp F b s k) c = fU F c := by
  intro c hc
  unfold fApp
  split
  · exact ⟨rfl, rfl⟩
  · exact ⟨if_neg hc, if_neg hc⟩
theorem fApR_C (F : Fl) (b : Int) (s : Int → Int) : ∀ c, c ≠ b → fC (fApR F b s).1 c = fC F c ∧ fU (fApR F b s).1 c = fU F c := by
  intro c hc
  unfold fApR
  split
  · exact fApp_C F b s _ c hc
  · exact fApp_C F b s _ c hc
theorem fApR_L {F : Fl} (b : Int) (s : Int → Int) (h : -1 ≤ fL F ∧ fL F ≤ 1000) (hs : 0 ≤ s 1) : -1 ≤ fL (fApR F b s).1 ∧ fL (fApR F b s).1 ≤ 1000 := by
  unfold fApR
  split
  · show (-1 : Int) ≤ -1 ∧ (-1 : Int) ≤ 1000
    omega
  · rename_i q
    show -1 ≤ fL (fApp F b s (s 1).toNat) ∧ fL (fApp F b s (s 1).toNat) ≤ 1000
    rw [fApp_L]
    split <;> omega
theorem lGo_N (F : Fl) (g : Lg) : ∀ j, (g.1 ≠ -1 → j ≠ g.1 * 16 + fC F g.1) → ∀ q, fN (lGo F g).1 j q = fN F j q := by
  intro j hj q
  unfold lGo
  split
  · split <;> rfl
  · rename_i h
    split
    · exact fApR_N F g.1 _ j (hj h) q
    · split
      · exact fApR_N F g.1 _ j (hj h) q
      · exact fApR_N F g.1 _ j (hj h) q
theorem lGo_C (F : Fl) (g : Lg) : ∀ c, c ≠ g.1 → fC (lGo F g).1 c = fC F c ∧ fU (lGo F g).1 c = fU F c := by
  intro c hc
  unfold lGo
  split
  · split <;> exact ⟨rfl, rfl⟩
  · split
    · exact fApR_C F g.1 _ c hc
    · split
      · exact fApR_C F g.1 _ c hc
      · exact fApR_C F g.1 _ c hc
theorem lGo_L {F : Fl} {g : Lg} (h : wfP F g) : -1 ≤ fL (lGo F g).1 ∧ fL (lGo F g).1 ≤ 1000 := by
  obtain ⟨h1, h2, h3, h4⟩ := h
  unfold lGo
  split
  · split <;> exact h1
  · rename_i q
    have hs : (0 : Int) ≤ summSrc (fC F g.1) 1 := by
      have := h3 q
      show 0 ≤ 1 + fC F g.1
      omega
    split
    · exact fApR_L g.1 _ h1 hs
    · split
      · exact fApR_L g.1 _ h1 hs
      · exact fApR_L g.1 _ h1 hs
theorem lGo_1 {F : Fl} {g : Lg} {b : Int} {fr : List Int} (hfr : g.2.1 = b :: fr) (h : (lGo F g).2.2 = true) : (lGo F g).2.1 = (b, fr, if g.1 = -1 then g.2.2 else g.2.2 ++ [g.1]) := by
  unfold lGo at h ⊢
  rw [hfr] at h ⊢
  by_cases e : g.1 = -1
  · rw [if_pos e, if_pos e]
  · rw [if_neg e] at h ⊢
    rw [if_neg e]
    by_cases e2 : (fApR F g.1 (summSrc (fC F g.1))).2 = false
    · rw [if_pos e2] at h; cases h
    · rw [if_neg e2]
/-- the node to be written: no row's, or one of a block that isn't written into -/
def srcP (F : Fl) (μ : nMem) (ε : nEnv) (g : Lg) (o : Int) : Prop := eKind ε o = 5 ∧ nB μ o ∧ o ≠ 7 ∧ o ≠ 9 ∧ (¬ isRow μ o ∨ ∃ j, 0 ≤ j ∧ j < 128 ∧ μ 3 j = o ∧ o ≠ 0 ∧ ∀ b, (b = g.1 ∨ b ∈ g.2.1) → ¬ (b * 16 ≤ j ∧ j < b * 16 + 16))
theorem srcP_ok {F : Fl} {μ : nMem} {ε : nEnv} {g : Lg} {o b : Int} (h : srcP F μ ε g o) (hb : b = g.1 ∨ b ∈ g.2.1) (hc : 0 ≤ fC F b ∧ fC F b < 16) : srcOK F μ ε b o := by
  obtain ⟨h1, h2, h3, h4, h5⟩ := h
  refine ⟨h1, h2, h3, h5.imp id ?_⟩
  rintro ⟨j, j0, j1, j2, j3, j4⟩
  exact ⟨j, j0, j1, j2, j3, fun e => j4 b hb (by omega)⟩
theorem srcP_go {F : Fl} {μ m : nMem} {ε e : nEnv} {g : Lg} {o b : Int} (h : srcP F μ ε g o) (hC : CF F μ ε) (hwf : wfP F g) (hC2 : CF (lGo F g).1 m e) (hX : FrX XP μ ε m e) (hb : b ∈ g.2.1) : (∀ k, 0 ≤ k → k ≤ 11 → m o k = μ o k) ∧ srcOK (lGo F g).1 m e b o := by
  obtain ⟨h1, h2, h3, h4, h5⟩ := h
  have hk : eKind e o = 5 := (hX.2.1 o (by rw [h1]; decide)).1.trans h1
  have hcb := hwf.2.2.2 b hb
  have hne : ∀ x : Int, ∀ kd ln fs, skC x = some (kd, ln, fs) → kd ≠ 0 → kd ≠ 5 → o ≠ x := by
    intro x kd ln fs hx q1 q2 q3
    have := (hC.1 x kd ln fs hx q1).1
    rw [← q3, h1] at this
    exact q2 this.symm
  have hxp : ¬ XP o := by
    have a2 := hne 2 1 _ _ rfl (by decide) (by decide)
    have a3 := hne 3 15 _ _ rfl (by decide) (by decide)
    have a4 := hne 4 11 _ _ rfl (by decide) (by decide)
    have a5 := hne 5 11 _ _ rfl (by decide) (by decide)
    have a6 := hne 6 11 _ _ rfl (by decide) (by decide)
    have a8 := hne 8 4 _ _ rfl (by decide) (by decide)
    have a10 := hne 10 11 _ _ rfl (by decide) (by decide)
    have a11 := hne 11 11 _ _ rfl (by decide) (by decide)
    unfold XP
    omega
  rcases h5 with h5 | ⟨j, j0, j1, j2, j3, j4⟩
  · have hkp : ∀ q, m o q = μ o q := hX.1 o (Or.inl (by rw [h1]; decide)) hxp h5
    refine ⟨fun k _ _ => hkp k, hk, nB_of hkp h2, h3, Or.inl ?_⟩
    rintro ⟨i, i0, i1, i2⟩
    rcases hX.2.2.2.1 i i0 i1 with q | q
    · exact h5 ⟨i, i0, i1, by rw [← q]; exact i2⟩
    · rw [i2, h1] at q; cases q
  · have em : m 3 j = o := by rw [hX.2.2.1 j j0 j1 (by rw [j2]; exact j3), j2]
    have er : nRow m j = o := by unfold nRow; rw [if_pos ⟨j0, j1, by rw [em]; exact j3⟩, em]
    have er0 : nRow μ j = o := by unfold nRow; rw [if_pos ⟨j0, j1, by rw [j2]; exact j3⟩, j2]
    refine ⟨fun q q0 q1 => ?_, hk, er ▸ hC2.2.1.2.2 j, h3, Or.inr ⟨j, j0, j1, em, j3, fun q => j4 b (Or.inr hb) ?_⟩⟩
    · have h1 := hC2.2.2.1 j j0 j1 q q0 q1
      have h2 := hC.2.2.1 j j0 j1 q q0 q1
      rw [er] at h1
      rw [er0] at h2
      rw [h1, h2, lGo_N F g j (fun hg e9 => j4 g.1 (Or.inl rfl) (by have := hwf.2.2.1 hg; omega))]
    · rw [(lGo_C F g b hcb.2).1, hcb.1] at q; omega
theorem sp_X3_put {μ : nMem} {ε : nEnv} {Q : nOut → nMem → nEnv → Prop} {F : Fl} {g : Lg} {o : Int} {t : Nat} (hC : CF F μ ε) (hL : CL g μ) (hwf : wfP F g) (hfr : ¬ (g.1 ≠ -1 ∧ fU F g.1 + μ o 1 + fC F g.1 + 2 ≤ 40) → g.2.1 ≠ []) (hcap : Cap μ ε t) (hsrc : srcP F μ ε g o) (hu : 1 ≤ μ o 1) (h0 : (lPut F g (nSrc (μ o))).2.2 = false → ∀ μ9 ε9, CF (lPut F g (nSrc (μ o))).1 μ9 ε9 → CL (lPut F g (nSrc (μ o))).2.1 μ9 → FrX XP μ ε μ9 ε9 → Q (.inl (some (vI 0))) μ9 ε9) (h1 : (lPut F g (nSrc (μ o))).2.2 = true → ∀ μ9 ε9, CF (lPut F g (nSrc (μ o))).1 μ9 ε9 → CL (lPut F g (nSrc (μ o))).2.1 μ9 → FrX XP μ ε μ9 ε9 → Q (.inl (some (vI 1))) μ9 ε9) : Sp mX3_put [vR 8, vR o] μ ε Q := by
  refine Sp_of (L := [(0, vR 8), (1, vR o)]) (by decide) rfl rfl (Nat.le_of_ble_eq_true rfl) ?_
  have hs := hC.1
  have c4 := hL.1
  have hwf2 := hwf.2.1
  have hwf3 := hwf.2.2.1
  obtain ⟨b0, b1, b2, b3, b4, b5, b6, b9, b10, b11, b12, b13⟩ := id hsrc.2.1
  have e5 : g.1 = -1 ∨ (μ 4 g.1 = fU F g.1 ∧ μ 5 g.1 = fC F g.1) := hwf2.imp id (fun q => ⟨(hC.2.2.2.2.1 g.1 q.1 q.2).1, (hC.2.2.2.2.1 g.1 q.1 q.2).2.1⟩)
  have n1 := nSrc_1 (μ o)
  refine wq_aload_n (pc := 0) dX3_put_0 rfl rfl ?_
  refine wq_getIK (pc := 1) (kk := 4) dX3_put_1 hs (gf_X3_25 _ rfl) rfl rfl rfl rfl ?_
  refine wq_iconst (pc := 4) dX3_put_4 ?_
  refine wq_icmp_eq (pc := 5) (tgt := 45) dX3_put_5 (by decide) (by first | (unfold inR; omega) | assumption) (by first | (unfold inR; omega) | assumption) (fun c1 => ?_) (fun c1 => ?_)
  · skip
    refine wq_iconst (pc := 45) dX3_put_45 ?_
    refine wq_istore_n (pc := 46) (L' := [(2, _), (0, _), (1, _)]) dX3_put_46 rfl rfl (by decide) ?_
    refine wq_iload_n (pc := 47) dX3_put_47 rfl rfl ?_
    refine wq_if_ne (pc := 48) (tgt := 58) dX3_put_48 (by decide) (by first | (unfold inR; omega) | assumption) (fun c => absurd c (by decide)) (fun _ => ?_)
    have hng : ¬ (g.1 ≠ -1 ∧ fU F g.1 + μ o 1 + fC F g.1 + 2 ≤ 40) := by first | omega | (rw [← c4]; omega)
    obtain ⟨b9, fr9, hfr9⟩ : ∃ b fr, g.2.1 = b :: fr := List.exists_cons_of_ne_nil (hfr hng)
    refine wq_aload_n (pc := 51) dX3_put_51 rfl rfl ?_
    refine cVK_0 (pc := 52) dX3_put_52 hs (cw_X3_64 _ rfl) (by decide) rfl ⟨by decide, by decide⟩ (Nat.le_of_ble_eq_true rfl) (sp_X3_goOn hC hL hwf hfr9 hcap (fun ha m2 ε2 hC2 hL2 hX2 => ?_) (fun ha m2 ε2 hC2 hL2 hX2 => ?_))
    · skip
      refine kr_s ?_
      refine wq_if_eq (pc := 55) (tgt := 77) dX3_put_55 (by decide) (by first | (unfold inR; omega) | assumption) (fun _ => ?_) (fun c => absurd c (by decide))
      refine wq_iconst (pc := 77) dX3_put_77 ?_
      refine wq_zret (pc := 78) dX3_put_78 rfl (by first | omega | (simp; done) | assumption) ?_
      first
        | (have e : lPut F g (nSrc (μ o)) = lGo F g := by unfold lPut; rw [n1, if_neg hng, if_pos ha]
           rw [e] at h0
           exact h0 ha _ _ hC2 hL2 hX2)
        | (have e : lPut F g (nSrc (μ o)) = ((fApR F g.1 (nSrc (μ o))).1, g, (fApR F g.1 (nSrc (μ o))).2) := by unfold lPut; rw [n1, if_pos hgo]
           rw [e] at h0 h1
           rw [c4] at ha2 hC3b
           first
             | exact h0 ha2 _ _ hC3b (CL_FrF hC.1 hC.2.1 hL hF3) (XP_F hF3)
             | exact h1 ha2 _ _ hC3b (CL_FrF hC.1 hC.2.1 hL hF3) (XP_F hF3))
        | (have e : lPut F g (nSrc (μ o)) = ((fApR (lGo F g).1 b9 (nSrc (μ o))).1, (lGo F g).2.1, (fApR (lGo F g).1 b9 (nSrc (μ o))).2) := by unfold lPut; rw [n1, if_neg hng, if_neg (by rw [ha]; decide), hl1]
           have es : nSrc (m2 o) = nSrc (μ o) := nSrc_congr sk1
           rw [e] at h0 h1
           rw [c42, es] at ha2 hC3b
           first
             | exact h0 ha2 _ _ hC3b (CL_FrF hC2.1 hC2.2.1 hL2 hF3) (FrX_trans hC2.2.1 hX2 (XP_F hF3))
             | exact h1 ha2 _ _ hC3b (CL_FrF hC2.1 hC2.2.1 hL2 hF3) (FrX_trans hC2.2.1 hX2 (XP_F hF3)))
    · skip
      refine kr_s ?_
      have hs := hC2.1
      have hl1 := lGo_1 hfr9 ha
      obtain ⟨sk1, sk2⟩ := srcP_go (b := b9) hsrc hC hwf hC2 hX2 (by rw [hfr9]; exact List.mem_cons_self)
      have c42 : m2 8 4 = b9 := by rw [hL2.1, hl1]
      have hLL := lGo_L hwf
      have hcb := hwf.2.2.2 b9 (by rw [hfr9]; exact List.mem_cons_self)
      have hcc : fC (lGo F g).1 b9 = 0 := by rw [(lGo_C F g b9 hcb.2).1]; exact hcb.1
      have hbb : 0 ≤ b9 ∧ b9 < 8 := hL.2.2.2.2.2.2.2.1 b9 (by rw [hfr9]; exact List.mem_cons_self)
      refine wq_if_eq (pc := 55) (tgt := 77) dX3_put_55 (by decide) (by first | (unfold inR; omega) | assumption) (fun c => absurd c (by decide)) (fun _ => ?_)
      try have hgo : g.1 ≠ -1 ∧ fU F g.1 + μ o 1 + fC F g.1 + 2 ≤ 40 := by first | omega | (rw [← c4]; omega)
      refine wq_aload_n (pc := 58) dX3_put_58 rfl rfl ?_
      refine wq_getS (pc := 59) dX3_put_59 hs (gf_X3_29 _ rfl) rfl rfl rfl rfl rfl ?_
      refine wq_aload_n (pc := 62) dX3_put_62 rfl rfl ?_
      refine wq_getIK (pc := 63) (kk := 4) dX3_put_63 hs (gf_X3_25 _ rfl) rfl rfl rfl rfl ?_
      refine wq_aload_n (pc := 66) dX3_put_66 rfl rfl ?_
      refine cVK_2 (pc := 67) dX3_put_67 hs (cw_X3_68 _ rfl) (by decide) rfl ⟨by decide, by decide⟩ (Nat.le_of_ble_eq_true rfl) (sr_X0_append (by first | exact hC2 | exact hC) (by omega) (by first | (rw [c42, hcc]; omega) | (rw [c4]; omega)) (by first | exact hLL | exact hwf.1) (by first | (rw [c42]; exact sk2) | (rw [c4]; exact srcP_ok hsrc (Or.inl rfl) (by omega))) (by first | (rw [sk1 1 (by omega) (by omega)]; exact hu) | exact hu) (by first | exact hX2.2.2.2.2.2 t hcap | exact hcap) (fun ha2 m3 ε3 hC3 hF3 => ?_) (fun ha2 m3 ε3 hC3 hF3 => ?_))
      · skip
        refine kr_s ?_
        rw [← fApR_2] at ha2
        have hC3b := CF_nSrcR hC3
        refine wq_if_eq (pc := 70) (tgt := 77) dX3_put_70 (by decide) (by first | (unfold inR; omega) | assumption) (fun _ => ?_) (fun c => absurd c (by decide))
        refine wq_iconst (pc := 77) dX3_put_77 ?_
        refine wq_zret (pc := 78) dX3_put_78 rfl (by first | omega | (simp; done) | assumption) ?_
        first
          | (have e : lPut F g (nSrc (μ o)) = lGo F g := by unfold lPut; rw [n1, if_neg hng, if_pos ha]
             rw [e] at h0
             exact h0 ha _ _ hC2 hL2 hX2)
          | (have e : lPut F g (nSrc (μ o)) = ((fApR F g.1 (nSrc (μ o))).1, g, (fApR F g.1 (nSrc (μ o))).2) := by unfold lPut; rw [n1, if_pos hgo]
             rw [e] at h0 h1
             rw [c4] at ha2 hC3b
             first
               | exact h0 ha2 _ _ hC3b (CL_FrF hC.1 hC.2.1 hL hF3) (XP_F hF3)
               | exact h1 ha2 _ _ hC3b (CL_FrF hC.1 hC.2.1 hL hF3) (XP_F hF3))
          | (have e : lPut F g (nSrc (μ o)) = ((fApR (lGo F g).1 b9 (nSrc (μ o))).1, (lGo F g).2.1, (fApR (lGo F g).1 b9 (nSrc (μ o))).2) := by unfold lPut; rw [n1, if_neg hng, if_neg (by rw [ha]; decide), hl1]
             have es : nSrc (m2 o) = nSrc (μ o) := nSrc_congr sk1
             rw [e] at h0 h1
             rw [c42, es] at ha2 hC3b
             first
               | exact h0 ha2 _ _ hC3b (CL_FrF hC2.1 hC2.2.1 hL2 hF3) (FrX_trans hC2.2.1 hX2 (XP_F hF3))
               | exact h1 ha2 _ _ hC3b (CL_FrF hC2.1 hC2.2.1 hL2 hF3) (FrX_trans hC2.2.1 hX2 (XP_F hF3)))
      · skip
        refine kr_s ?_
        rw [← fApR_2] at ha2
        have hC3b := CF_nSrcR hC3
        refine wq_if_eq (pc := 70) (tgt := 77) dX3_put_70 (by decide) (by first | (unfold inR; omega) | assumption) (fun c => absurd c (by decide)) (fun _ => ?_)
        refine wq_iconst (pc := 73) dX3_put_73 ?_
        refine wq_goto (pc := 74) (tgt := 78) dX3_put_74 (by decide) ?_
        refine wq_zret (pc := 78) dX3_put_78 rfl (by first | omega | (simp; done) | assumption) ?_
        first
          | (have e : lPut F g (nSrc (μ o)) = lGo F g := by unfold lPut; rw [n1, if_neg hng, if_pos ha]
             rw [e] at h0
             exact h0 ha _ _ hC2 hL2 hX2)
          | (have e : lPut F g (nSrc (μ o)) = ((fApR F g.1 (nSrc (μ o))).1, g, (fApR F g.1 (nSrc (μ o))).2) := by unfold lPut; rw [n1, if_pos hgo]
             rw [e] at h0 h1
             rw [c4] at ha2 hC3b
             first
               | exact h0 ha2 _ _ hC3b (CL_FrF hC.1 hC.2.1 hL hF3) (XP_F hF3)
               | exact h1 ha2 _ _ hC3b (CL_FrF hC.1 hC.2.1 hL hF3) (XP_F hF3))
          | (have e : lPut F g (nSrc (μ o)) = ((fApR (lGo F g).1 b9 (nSrc (μ o))).1, (lGo F g).2.1, (fApR (lGo F g).1 b9 (nSrc (μ o))).2) := by unfold lPut; rw [n1, if_neg hng, if_neg (by rw [ha]; decide), hl1]
             have es : nSrc (m2 o) = nSrc (μ o) := nSrc_congr sk1
             rw [e] at h0 h1
             rw [c42, es] at ha2 hC3b
             first
               | exact h0 ha2 _ _ hC3b (CL_FrF hC2.1 hC2.2.1 hL2 hF3) (FrX_trans hC2.2.1 hX2 (XP_F hF3))
               | exact h1 ha2 _ _ hC3b (CL_FrF hC2.1 hC2.2.1 hL2 hF3) (FrX_trans hC2.2.1 hX2 (XP_F hF3)))
  · skip
    have hwf4 := hwf3 (by omega)
    have e55 : μ 4 (μ 8 4) = fU F g.1 ∧ μ 5 (μ 8 4) = fC F g.1 := by rw [c4]; exact e5.resolve_left (by omega)
    refine wq_aload_n (pc := 8) dX3_put_8 rfl rfl ?_
    refine wq_aload_n (pc := 9) dX3_put_9 rfl rfl ?_
    refine wq_getS (pc := 10) dX3_put_10 hs (gf_X3_29 _ rfl) rfl rfl rfl rfl rfl ?_
    refine wq_aload_n (pc := 13) dX3_put_13 rfl rfl ?_
    refine wq_getIK (pc := 14) (kk := 4) dX3_put_14 hs (gf_X3_25 _ rfl) rfl rfl rfl rfl ?_
    refine cVK_1 (pc := 17) dX3_put_17 hs (cw_X3_39 _ rfl) (by decide) rfl ⟨by decide, by decide⟩ (Nat.le_of_ble_eq_true rfl) (sq_X0_usedOf hs (by omega) ?_)
    refine kr_s ?_
    refine wq_aload_n (pc := 20) dX3_put_20 rfl rfl ?_
    refine wq_getS (pc := 21) dX3_put_21 hs (gf_X3_29 _ rfl) rfl rfl rfl rfl rfl ?_
    refine wq_aload_n (pc := 24) dX3_put_24 rfl rfl ?_
    refine wq_getIK (pc := 25) (kk := 4) dX3_put_25 hs (gf_X3_25 _ rfl) rfl rfl rfl rfl ?_
    refine cVK_1 (pc := 28) dX3_put_28 hs (cw_X3_48 _ rfl) (by decide) rfl ⟨by decide, by decide⟩ (Nat.le_of_ble_eq_true rfl) (sq_X0_countOf hs (by omega) ?_)
    refine kr_s ?_
    refine wq_aload_n (pc := 31) dX3_put_31 rfl rfl ?_
    refine wq_getI (pc := 32) (kk := 1) dX3_put_32 (gf_X3_61 _ rfl) (by first | with_reducible assumption | exact hsrc.1) rfl rfl rfl ?_
    refine cVK_3 (pc := 35) dX3_put_35 hs (cw_X3_57 _ rfl) (by decide) rfl ⟨by decide, by decide⟩ (Nat.le_of_ble_eq_true rfl) (sp_X3_fits (by omega) (by omega) (by omega) (fun hf11 => ?_) (fun hf12 => ?_))
    · skip
      refine kr_s ?_
      refine wq_if_eq (pc := 38) (tgt := 45) dX3_put_38 (by decide) (by first | (unfold inR; omega) | assumption) (fun c => absurd c (by decide)) (fun _ => ?_)
      refine wq_iconst (pc := 41) dX3_put_41 ?_
      refine wq_goto (pc := 42) (tgt := 46) dX3_put_42 (by decide) ?_
      refine wq_istore_n (pc := 46) (L' := [(2, _), (0, _), (1, _)]) dX3_put_46 rfl rfl (by decide) ?_
      refine wq_iload_n (pc := 47) dX3_put_47 rfl rfl ?_
      refine wq_if_ne (pc := 48) (tgt := 58) dX3_put_48 (by decide) (by first | (unfold inR; omega) | assumption) (fun _ => ?_) (fun c => absurd c (by decide))
      try have hgo : g.1 ≠ -1 ∧ fU F g.1 + μ o 1 + fC F g.1 + 2 ≤ 40 := by first | omega | (rw [← c4]; omega)
      refine wq_aload_n (pc := 58) dX3_put_58 rfl rfl ?_
      refine wq_getS (pc := 59) dX3_put_59 hs (gf_X3_29 _ rfl) rfl rfl rfl rfl rfl ?_
      refine wq_aload_n (pc := 62) dX3_put_62 rfl rfl ?_
      refine wq_getIK (pc := 63) (kk := 4) dX3_put_63 hs (gf_X3_25 _ rfl) rfl rfl rfl rfl ?_
      refine wq_aload_n (pc := 66) dX3_put_66 rfl rfl ?_
      refine cVK_2 (pc := 67) dX3_put_67 hs (cw_X3_68 _ rfl) (by decide) rfl ⟨by decide, by decide⟩ (Nat.le_of_ble_eq_true rfl) (sr_X0_append (by first | exact hC2 | exact hC) (by omega) (by first | (rw [c42, hcc]; omega) | (rw [c4]; omega)) (by first | exact hLL | exact hwf.1) (by first | (rw [c42]; exact sk2) | (rw [c4]; exact srcP_ok hsrc (Or.inl rfl) (by omega))) (by first | (rw [sk1 1 (by omega) (by omega)]; exact hu) | exact hu) (by first | exact hX2.2.2.2.2.2 t hcap | exact hcap) (fun ha2 m3 ε3 hC3 hF3 => ?_) (fun ha2 m3 ε3 hC3 hF3 => ?_))
      · skip
        refine kr_s ?_
        rw [← fApR_2] at ha2
        have hC3b := CF_nSrcR hC3
        refine wq_if_eq (pc := 70) (tgt := 77) dX3_put_70 (by decide) (by first | (unfold inR; omega) | assumption) (fun _ => ?_) (fun c => absurd c (by decide))
        refine wq_iconst (pc := 77) dX3_put_77 ?_
        refine wq_zret (pc := 78) dX3_put_78 rfl (by first | omega | (simp; done) | assumption) ?_
        first
          | (have e : lPut F g (nSrc (μ o)) = lGo F g := by unfold lPut; rw [n1, if_neg hng, if_pos ha]
             rw [e] at h0
             exact h0 ha _ _ hC2 hL2 hX2)
          | (have e : lPut F g (nSrc (μ o)) = ((fApR F g.1 (nSrc (μ o))).1, g, (fApR F g.1 (nSrc (μ o))).2) := by unfold lPut; rw [n1, if_pos hgo]
             rw [e] at h0 h1
             rw [c4] at ha2 hC3b
             first
               | exact h0 ha2 _ _ hC3b (CL_FrF hC.1 hC.2.1 hL hF3) (XP_F hF3)
               | exact h1 ha2 _ _ hC3b (CL_FrF hC.1 hC.2.1 hL hF3) (XP_F hF3))
          | (have e : lPut F g (nSrc (μ o)) = ((fApR (lGo F g).1 b9 (nSrc (μ o))).1, (lGo F g).2.1, (fApR (lGo F g).1 b9 (nSrc (μ o))).2) := by unfold lPut; rw [n1, if_neg hng, if_neg (by rw [ha]; decide), hl1]
             have es : nSrc (m2 o) = nSrc (μ o) := nSrc_congr sk1
             rw [e] at h0 h1
             rw [c42, es] at ha2 hC3b
             first
               | exact h0 ha2 _ _ hC3b (CL_FrF hC2.1 hC2.2.1 hL2 hF3) (FrX_trans hC2.2.1 hX2 (XP_F hF3))
               | exact h1 ha2 _ _ hC3b (CL_FrF hC2.1 hC2.2.1 hL2 hF3) (FrX_trans hC2.2.1 hX2 (XP_F hF3)))
      · skip
        refine kr_s ?_
        rw [← fApR_2] at ha2
        have hC3b := CF_nSrcR hC3
        refine wq_if_eq (pc := 70) (tgt := 77) dX3_put_70 (by decide) (by first | (unfold inR; omega) | assumption) (fun c => absurd c (by decide)) (fun _ => ?_)
        refine wq_iconst (pc := 73) dX3_put_73 ?_
        refine wq_goto (pc := 74) (tgt := 78) dX3_put_74 (by decide) ?_
        refine wq_zret (pc := 78) dX3_put_78 rfl (by first | omega | (simp; done) | assumption) ?_
        first
          | (have e : lPut F g (nSrc (μ o)) = lGo F g := by unfold lPut; rw [n1, if_neg hng, if_pos ha]
             rw [e] at h0
             exact h0 ha _ _ hC2 hL2 hX2)
          | (have e : lPut F g (nSrc (μ o)) = ((fApR F g.1 (nSrc (μ o))).1, g, (fApR F g.1 (nSrc (μ o))).2) := by unfold lPut; rw [n1, if_pos hgo]
             rw [e] at h0 h1
             rw [c4] at ha2 hC3b
             first
               | exact h0 ha2 _ _ hC3b (CL_FrF hC.1 hC.2.1 hL hF3) (XP_F hF3)
               | exact h1 ha2 _ _ hC3b (CL_FrF hC.1 hC.2.1 hL hF3) (XP_F hF3))
          | (have e : lPut F g (nSrc (μ o)) = ((fApR (lGo F g).1 b9 (nSrc (μ o))).1, (lGo F g).2.1, (fApR (lGo F g).1 b9 (nSrc (μ o))).2) := by unfold lPut; rw [n1, if_neg hng, if_neg (by rw [ha]; decide), hl1]
             have es : nSrc (m2 o) = nSrc (μ o) := nSrc_congr sk1
             rw [e] at h0 h1
             rw [c42, es] at ha2 hC3b
             first
               | exact h0 ha2 _ _ hC3b (CL_FrF hC2.1 hC2.2.1 hL2 hF3) (FrX_trans hC2.2.1 hX2 (XP_F hF3))
               | exact h1 ha2 _ _ hC3b (CL_FrF hC2.1 hC2.2.1 hL2 hF3) (FrX_trans hC2.2.1 hX2 (XP_F hF3)))
    · skip
      refine kr_s ?_
      refine wq_if_eq (pc := 38) (tgt := 45) dX3_put_38 (by decide) (by first | (unfold inR; omega) | assumption) (fun _ => ?_) (fun c => absurd c (by decide))
      refine wq_iconst (pc := 45) dX3_put_45 ?_
      refine wq_istore_n (pc := 46) (L' := [(2, _), (0, _), (1, _)]) dX3_put_46 rfl rfl (by decide) ?_
      refine wq_iload_n (pc := 47) dX3_put_47 rfl rfl ?_
      refine wq_if_ne (pc := 48) (tgt := 58) dX3_put_48 (by decide) (by first | (unfold inR; omega) | assumption) (fun c => absurd c (by decide)) (fun _ => ?_)
      have hng : ¬ (g.1 ≠ -1 ∧ fU F g.1 + μ o 1 + fC F g.1 + 2 ≤ 40) := by first | omega | (rw [← c4]; omega)
      obtain ⟨b9, fr9, hfr9⟩ : ∃ b fr, g.2.1 = b :: fr := List.exists_cons_of_ne_nil (hfr hng)
      refine wq_aload_n (pc := 51) dX3_put_51 rfl rfl ?_
      refine cVK_0 (pc := 52) dX3_put_52 hs (cw_X3_64 _ rfl) (by decide) rfl ⟨by decide, by decide⟩ (Nat.le_of_ble_eq_true rfl) (sp_X3_goOn hC hL hwf hfr9 hcap (fun ha m2 ε2 hC2 hL2 hX2 => ?_) (fun ha m2 ε2 hC2 hL2 hX2 => ?_))
      · skip
        refine kr_s ?_
        refine wq_if_eq (pc := 55) (tgt := 77) dX3_put_55 (by decide) (by first | (unfold inR; omega) | assumption) (fun _ => ?_) (fun c => absurd c (by decide))
        refine wq_iconst (pc := 77) dX3_put_77 ?_
        refine wq_zret (pc := 78) dX3_put_78 rfl (by first | omega | (simp; done) | assumption) ?_
        first
          | (have e : lPut F g (nSrc (μ o)) = lGo F g := by unfold lPut; rw [n1, if_neg hng, if_pos ha]
             rw [e] at h0
             exact h0 ha _ _ hC2 hL2 hX2)
          | (have e : lPut F g (nSrc (μ o)) = ((fApR F g.1 (nSrc (μ o))).1, g, (fApR F g.1 (nSrc (μ o))).2) := by unfold lPut; rw [n1, if_pos hgo]
             rw [e] at h0 h1
             rw [c4] at ha2 hC3b
             first
               | exact h0 ha2 _ _ hC3b (CL_FrF hC.1 hC.2.1 hL hF3) (XP_F hF3)
               | exact h1 ha2 _ _ hC3b (CL_FrF hC.1 hC.2.1 hL hF3) (XP_F hF3))
          | (have e : lPut F g (nSrc (μ o)) = ((fApR (lGo F g).1 b9 (nSrc (μ o))).1, (lGo F g).2.1, (fApR (lGo F g).1 b9 (nSrc (μ o))).2) := by unfold lPut; rw [n1, if_neg hng, if_neg (by rw [ha]; decide), hl1]
             have es : nSrc (m2 o) = nSrc (μ o) := nSrc_congr sk1
             rw [e] at h0 h1
             rw [c42, es] at ha2 hC3b
             first
               | exact h0 ha2 _ _ hC3b (CL_FrF hC2.1 hC2.2.1 hL2 hF3) (FrX_trans hC2.2.1 hX2 (XP_F hF3))
               | exact h1 ha2 _ _ hC3b (CL_FrF hC2.1 hC2.2.1 hL2 hF3) (FrX_trans hC2.2.1 hX2 (XP_F hF3)))
      · skip
        refine kr_s ?_
        have hs := hC2.1
        have hl1 := lGo_1 hfr9 ha
        obtain ⟨sk1, sk2⟩ := srcP_go (b := b9) hsrc hC hwf hC2 hX2 (by rw [hfr9]; exact List.mem_cons_self)
        have c42 : m2 8 4 = b9 := by rw [hL2.1, hl1]
        have hLL := lGo_L hwf
        have hcb := hwf.2.2.2 b9 (by rw [hfr9]; exact List.mem_cons_self)
        have hcc : fC (lGo F g).1 b9 = 0 := by rw [(lGo_C F g b9 hcb.2).1]; exact hcb.1
        have hbb : 0 ≤ b9 ∧ b9 < 8 := hL.2.2.2.2.2.2.2.1 b9 (by rw [hfr9]; exact List.mem_cons_self)
        refine wq_if_eq (pc := 55) (tgt := 77) dX3_put_55 (by decide) (by first | (unfold inR; omega) | assumption) (fun c => absurd c (by decide)) (fun _ => ?_)
        try have hgo : g.1 ≠ -1 ∧ fU F g.1 + μ o 1 + fC F g.1 + 2 ≤ 40 := by first | omega | (rw [← c4]; omega)
        refine wq_aload_n (pc := 58) dX3_put_58 rfl rfl ?_
        refine wq_getS (pc := 59) dX3_put_59 hs (gf_X3_29 _ rfl) rfl rfl rfl rfl rfl ?_
        refine wq_aload_n (pc := 62) dX3_put_62 rfl rfl ?_
        refine wq_getIK (pc := 63) (kk := 4) dX3_put_63 hs (gf_X3_25 _ rfl) rfl rfl rfl rfl ?_
        refine wq_aload_n (pc := 66) dX3_put_66 rfl rfl ?_
        refine cVK_2 (pc := 67) dX3_put_67 hs (cw_X3_68 _ rfl) (by decide) rfl ⟨by decide, by decide⟩ (Nat.le_of_ble_eq_true rfl) (sr_X0_append (by first | exact hC2 | exact hC) (by omega) (by first | (rw [c42, hcc]; omega) | (rw [c4]; omega)) (by first | exact hLL | exact hwf.1) (by first | (rw [c42]; exact sk2) | (rw [c4]; exact srcP_ok hsrc (Or.inl rfl) (by omega))) (by first | (rw [sk1 1 (by omega) (by omega)]; exact hu) | exact hu) (by first | exact hX2.2.2.2.2.2 t hcap | exact hcap) (fun ha2 m3 ε3 hC3 hF3 => ?_) (fun ha2 m3 ε3 hC3 hF3 => ?_))
        · skip
          refine kr_s ?_
          rw [← fApR_2] at ha2
          have hC3b := CF_nSrcR hC3
          refine wq_if_eq (pc := 70) (tgt := 77) dX3_put_70 (by decide) (by first | (unfold inR; omega) | assumption) (fun _ => ?_) (fun c => absurd c (by decide))
          refine wq_iconst (pc := 77) dX3_put_77 ?_
          refine wq_zret (pc := 78) dX3_put_78 rfl (by first | omega | (simp; done) | assumption) ?_
          first
            | (have e : lPut F g (nSrc (μ o)) = lGo F g := by unfold lPut; rw [n1, if_neg hng, if_pos ha]
               rw [e] at h0
               exact h0 ha _ _ hC2 hL2 hX2)
            | (have e : lPut F g (nSrc (μ o)) = ((fApR F g.1 (nSrc (μ o))).1, g, (fApR F g.1 (nSrc (μ o))).2) := by unfold lPut; rw [n1, if_pos hgo]
               rw [e] at h0 h1
               rw [c4] at ha2 hC3b
               first
                 | exact h0 ha2 _ _ hC3b (CL_FrF hC.1 hC.2.1 hL hF3) (XP_F hF3)
                 | exact h1 ha2 _ _ hC3b (CL_FrF hC.1 hC.2.1 hL hF3) (XP_F hF3))
            | (have e : lPut F g (nSrc (μ o)) = ((fApR (lGo F g).1 b9 (nSrc (μ o))).1, (lGo F g).2.1, (fApR (lGo F g).1 b9 (nSrc (μ o))).2) := by unfold lPut; rw [n1, if_neg hng, if_neg (by rw [ha]; decide), hl1]
               have es : nSrc (m2 o) = nSrc (μ o) := nSrc_congr sk1
               rw [e] at h0 h1
               rw [c42, es] at ha2 hC3b
               first
                 | exact h0 ha2 _ _ hC3b (CL_FrF hC2.1 hC2.2.1 hL2 hF3) (FrX_trans hC2.2.1 hX2 (XP_F hF3))
                 | exact h1 ha2 _ _ hC3b (CL_FrF hC2.1 hC2.2.1 hL2 hF3) (FrX_trans hC2.2.1 hX2 (XP_F hF3)))
        · skip
          refine kr_s ?_
          rw [← fApR_2] at ha2
          have hC3b := CF_nSrcR hC3
          refine wq_if_eq (pc := 70) (tgt := 77) dX3_put_70 (by decide) (by first | (unfold inR; omega) | assumption) (fun c => absurd c (by decide)) (fun _ => ?_)
          refine wq_iconst (pc := 73) dX3_put_73 ?_
          refine wq_goto (pc := 74) (tgt := 78) dX3_put_74 (by decide) ?_
          refine wq_zret (pc := 78) dX3_put_78 rfl (by first | omega | (simp; done) | assumption) ?_
          first
            | (have e : lPut F g (nSrc (μ o)) = lGo F g := by unfold lPut; rw [n1, if_neg hng, if_pos ha]
               rw [e] at h0
               exact h0 ha _ _ hC2 hL2 hX2)
            | (have e : lPut F g (nSrc (μ o)) = ((fApR F g.1 (nSrc (μ o))).1, g, (fApR F g.1 (nSrc (μ o))).2) := by unfold lPut; rw [n1, if_pos hgo]
               rw [e] at h0 h1
               rw [c4] at ha2 hC3b
               first
                 | exact h0 ha2 _ _ hC3b (CL_FrF hC.1 hC.2.1 hL hF3) (XP_F hF3)
                 | exact h1 ha2 _ _ hC3b (CL_FrF hC.1 hC.2.1 hL hF3) (XP_F hF3))
            | (have e : lPut F g (nSrc (μ o)) = ((fApR (lGo F g).1 b9 (nSrc (μ o))).1, (lGo F g).2.1, (fApR (lGo F g).1 b9 (nSrc (μ o))).2) := by unfold lPut; rw [n1, if_neg hng, if_neg (by rw [ha]; decide), hl1]
               have es : nSrc (m2 o) = nSrc (μ o) := nSrc_congr sk1
               rw [e] at h0 h1
               rw [c42, es] at ha2 hC3b
               first
                 | exact h0 ha2 _ _ hC3b (CL_FrF hC2.1 hC2.2.1 hL2 hF3) (FrX_trans hC2.2.1 hX2 (XP_F hF3))
                 | exact h1 ha2 _ _ hC3b (CL_FrF hC2.1 hC2.2.1 hL2 hF3) (FrX_trans hC2.2.1 hX2 (XP_F hF3)))
