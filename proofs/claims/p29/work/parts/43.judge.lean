theorem sp_X2_targetOf {μ : nMem} {ε : nEnv} {Q : nOut → nMem → nEnv → Prop} {a : Int} {F : Fl} {i : Int} (hC : CF F μ ε) (hi : i = -1 ∨ (0 ≤ i ∧ i < 128)) (ha : a = qAd μ i) (h : Q (.inl (some (vI (if i = -1 then 0 else fN F i 10)))) μ ε) : Sp mX2_targetOf [vR 17, vR a] μ ε Q := by
  refine Sp_of (L := [(0, vR 17), (1, vR a)]) (by decide) rfl rfl (Nat.le_of_ble_eq_true rfl) ?_
  have hs := hC.1
  have h0 := qAd_0 (μ := μ) hC.2.1 (i := i)
  rw [← ha] at h0
  have hk : a ≠ 0 → eKind ε a = 5 ∧ i ≠ -1 ∧ μ a 10 = fN F i 10 := fun q => by
    have hi9 : i ≠ -1 := fun z => q (h0.mpr z)
    rw [ha]; unfold qAd; rw [if_neg hi9]
    exact ⟨nRow_kd hs hC.2.1 i, hi9, (CF_row hC (by omega) (by omega)).1 10 (by omega) (by omega)⟩
  refine wq_aload_n (pc := 0) dX2_targetOf_0 rfl rfl ?_
  refine wq_ifnonnull (pc := 1) (tgt := 8) dX2_targetOf_1 (by decide)  (fun c1 => ?_) (fun c1 => ?_)
  · skip
    obtain ⟨kk, ki, kt⟩ := hk c1
    refine wq_aload_n (pc := 8) dX2_targetOf_8 rfl rfl ?_
    refine wq_getI (pc := 9) (kk := 10) dX2_targetOf_9 (gf_X2_43 _ rfl) (by with_reducible assumption) rfl rfl rfl ?_
    refine wq_iret (pc := 12) dX2_targetOf_12 rfl ?_
    first
      | (rw [if_neg ki, ← kt] at h; exact h)
      | (rw [if_pos kn] at h; exact h)
  · skip
    have kn := h0.mp c1
    refine wq_iconst (pc := 4) dX2_targetOf_4 ?_
    refine wq_goto (pc := 5) (tgt := 12) dX2_targetOf_5 (by decide) ?_
    refine wq_iret (pc := 12) dX2_targetOf_12 rfl ?_
    first
      | (rw [if_neg ki, ← kt] at h; exact h)
      | (rw [if_pos kn] at h; exact h)
/-- the chosen nodes, by their rows -/
def CJ (cs : List Int) (μ : nMem) : Prop := μ 17 4 = cs.length ∧ cs.length ≤ 16 ∧ ∀ i : Nat, i < cs.length → (0 ≤ cs.getD i 0 ∧ cs.getD i 0 < 128) ∧ μ 18 i = nRow μ (cs.getD i 0)
theorem sp_X2_chosenAt {μ : nMem} {ε : nEnv} {Q : nOut → nMem → nEnv → Prop} {F : Fl} {cs : List Int} {i : Nat} {ii : Int} (hC : CF F μ ε) (hJ : CJ cs μ) (he : ii = (i : Int)) (hi : i < cs.length) (h : Q (.inl (some (vR (nRow μ (cs.getD i 0))))) μ ε) : Sp mX2_chosenAt [vR 17, vI ii] μ ε Q := by
  refine Sp_of (L := [(0, vR 17), (1, vI ii)]) (by decide) rfl rfl (Nat.le_of_ble_eq_true rfl) ?_
  subst he
  have hs := hC.1
  obtain ⟨j1, j2, j3⟩ := hJ
  obtain ⟨⟨r0, r1⟩, r2⟩ := j3 i hi
  have hz := nRow_ne hC.2.1 (cs.getD i 0)
  refine wq_iload_n (pc := 0) dX2_chosenAt_0 rfl rfl ?_
  refine wq_if_lt (pc := 1) (tgt := 27) dX2_chosenAt_1 (by decide) (by first | (unfold inR; omega) | assumption) (fun c1 => ?_) (fun c1 => ?_)
  · skip
    exfalso; omega
  · skip
    refine wq_iload_n (pc := 4) dX2_chosenAt_4 rfl rfl ?_
    refine wq_aload_n (pc := 5) dX2_chosenAt_5 rfl rfl ?_
    refine wq_getIK (pc := 6) (kk := 4) dX2_chosenAt_6 hs (gf_X2_92 _ rfl) rfl rfl rfl rfl ?_
    refine wq_icmp_ge (pc := 9) (tgt := 27) dX2_chosenAt_9 (by decide) (by first | (unfold inR; omega) | assumption) (by first | (unfold inR; omega) | assumption) (fun c2 => ?_) (fun c2 => ?_)
    · skip
      exfalso; omega
    · skip
      refine wq_iload_n (pc := 12) dX2_chosenAt_12 rfl rfl ?_
      refine wq_bipush (pc := 13) dX2_chosenAt_13 (by decide) (by decide) ?_
      refine wq_icmp_ge (pc := 15) (tgt := 27) dX2_chosenAt_15 (by decide) (by first | (unfold inR; omega) | assumption) (by first | (unfold inR; omega) | assumption) (fun c3 => ?_) (fun c3 => ?_)
      · skip
        exfalso; omega
      · skip
        refine wq_aload_n (pc := 18) dX2_chosenAt_18 rfl rfl ?_
        refine wq_getS (pc := 19) dX2_chosenAt_19 hs (gf_X2_11 _ rfl) rfl rfl rfl rfl rfl ?_
        refine wq_iload_n (pc := 22) dX2_chosenAt_22 rfl rfl ?_
        refine wq_aaldNK (pc := 23) dX2_chosenAt_23 hs rfl (by omega) (by omega) ?_
        refine wq_goto (pc := 24) (tgt := 28) dX2_chosenAt_24 (by decide) ?_
        refine wq_astore_n (pc := 28) (L' := [(2, _), (0, _), (1, _)]) dX2_chosenAt_28 rfl rfl (by decide) ?_
        refine wq_aload_n (pc := 29) dX2_chosenAt_29 rfl rfl ?_
        refine wq_ifnonnull (pc := 30) (tgt := 40) dX2_chosenAt_30 (by decide)  (fun c4 => ?_) (fun c4 => ?_)
        · skip
          refine wq_aload_n (pc := 40) dX2_chosenAt_40 rfl rfl ?_
          refine wq_aret (pc := 41) dX2_chosenAt_41 rfl ?_
          rw [← r2] at h; exact h
        · skip
          exfalso; rw [r2] at c4; exact hz c4
