theorem sp_X2_targetOf {μ : nMem} {ε : nEnv} {Q : nOut → nMem → nEnv → Prop} {a : Int} {F : Fl} {i : Int} (hC : CF F μ ε) (hi : i = -1 ∨ (0 ≤ i ∧ i < 128)) (ha : a = qAd μ i) (h : Q (.inl (some (vI (if i = -1 then 0 else fN F i 10)))) μ ε) : Sp mX2_targetOf [vR 17, vR a] μ ε Q := by
  refine Sp_of (L := [(0, vR 17), (1, vR a)]) (by decide) rfl rfl (Nat.le_of_ble_eq_true rfl) ?_
  have hs := hC.1
  have h0 := qAd_0 (μ := μ) hC.2.1 (i := i)
  rw [← ha] at h0
  have hk : a ≠ 0 → eKind ε a = 5 ∧ i ≠ -1 ∧ μ a 10 = fN F i 10 := fun q => by
    have hi9 : i ≠ -1 := fun z => q (h0.mpr z)
    rw [ha]; unfold qAd; rw [if_neg hi9]
    exact ⟨nRow_kd hs hC.2.1 i, hi9, (CF_row hC (by omega) (by omega)).1 10 (by omega) (by omega)⟩
  refine wq_aload_n (pc := 0) dX2_targetOf_0 rfl rfl ?_
  refine wq_ifnonnull (pc := 1) (tgt := 8) dX2_targetOf_1 (by decide)  (fun c1 => ?_) (fun c1 => ?_)
  · skip
    obtain ⟨kk, ki, kt⟩ := hk c1
    refine wq_aload_n (pc := 8) dX2_targetOf_8 rfl rfl ?_
    refine wq_getI (pc := 9) (kk := 10) dX2_targetOf_9 (gf_X2_43 _ rfl) (by with_reducible assumption) rfl rfl rfl ?_
    refine wq_iret (pc := 12) dX2_targetOf_12 rfl ?_
    first
      | (rw [if_neg ki, ← kt] at h; exact h)
      | (rw [if_pos kn] at h; exact h)
  · skip
    have kn := h0.mp c1
    refine wq_iconst (pc := 4) dX2_targetOf_4 ?_
    refine wq_goto (pc := 5) (tgt := 12) dX2_targetOf_5 (by decide) ?_
    refine wq_iret (pc := 12) dX2_targetOf_12 rfl ?_
    first
      | (rw [if_neg ki, ← kt] at h; exact h)
      | (rw [if_pos kn] at h; exact h)
