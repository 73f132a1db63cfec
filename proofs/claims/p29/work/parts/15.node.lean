def nB (μ : nMem) (a : Int) : Prop := (0 ≤ μ a 0 ∧ μ a 0 ≤ 3) ∧ (0 ≤ μ a 1 ∧ μ a 1 ≤ 20) ∧ (0 ≤ μ a 2 ∧ μ a 2 ≤ 20) ∧ (0 ≤ μ a 3 ∧ μ a 3 ≤ 2000) ∧ (0 ≤ μ a 4 ∧ μ a 4 ≤ 4000) ∧ (0 ≤ μ a 5 ∧ μ a 5 ≤ 99) ∧ (0 ≤ μ a 6 ∧ μ a 6 ≤ 8) ∧ (0 ≤ μ a 9 ∧ μ a 9 ≤ 64) ∧ (0 ≤ μ a 10 ∧ μ a 10 ≤ 2000) ∧ (μ a 11 = 0 ∨ μ a 11 = 1) ∧ (μ a 12 = 0 ∨ μ a 12 = 1) ∧ (μ a 13 = 0 ∨ μ a 13 = 1)
theorem sp_X4_init {μ : nMem} {ε : nEnv} {Q : nOut → nMem → nEnv → Prop} {a : Int} (ha : 1 ≤ a) (h : Q (.inl none) μ ε) : Sp mX4_init [vR a] μ ε Q := by
  refine Sp_of (L := [(0, vR a)]) (by decide) rfl rfl (Nat.le_of_ble_eq_true rfl) ?_
  refine wq_aload_n (pc := 0) dX4_init_0 rfl rfl ?_
  refine wq_oinit (pc := 1) dX4_init_1 (by omega) (co_X4_3 mX4_init rfl).1 (co_X4_3 mX4_init rfl).2.1 (co_X4_3 mX4_init rfl).2.2 (by decide) (by decide) (Nat.le_of_ble_eq_true rfl) ?_
  refine wq_vret (pc := 4) dX4_init_4 rfl ?_
  first | exact h | exact h rfl | exact h (by omega) | exact h1 (by omega) | exact h2 (by omega) | exact h3 (by omega) | exact h4 (by omega)
theorem sp_X4_isWhole {μ : nMem} {ε : nEnv} {Q : nOut → nMem → nEnv → Prop} {a : Int} (hk : eKind ε a = 5) (hb : nB μ a) (h1 : μ a 0 ≠ 0 ∧ μ a 2 = μ a 1 → Q (.inl (some (vI 1))) μ ε) (h2 : ¬ (μ a 0 ≠ 0 ∧ μ a 2 = μ a 1) → Q (.inl (some (vI 0))) μ ε) : Sp mX4_isWhole [vR a] μ ε Q := by
  refine Sp_of (L := [(0, vR a)]) (by decide) rfl rfl (Nat.le_of_ble_eq_true rfl) ?_
  obtain ⟨b0, b1, b2, b3, b4, b5, b6, b9, b10, b11, b12, b13⟩ := hb
  refine wq_aload_n (pc := 0) dX4_isWhole_0 rfl rfl ?_
  refine wq_getI (pc := 1) (kk := 0) dX4_isWhole_1 (gf_X4_9 _ rfl) (by with_reducible assumption) rfl rfl rfl ?_
  refine wq_if_eq (pc := 4) (tgt := 22) dX4_isWhole_4 (by decide) (by first | (unfold inR; omega) | assumption) (fun c1 => ?_) (fun c1 => ?_)
  · skip
    refine wq_iconst (pc := 22) dX4_isWhole_22 ?_
    refine wq_zret (pc := 23) dX4_isWhole_23 rfl (by first | omega | (simp; done) | assumption) ?_
    first | exact h | exact h rfl | exact h (by omega) | exact h1 (by omega) | exact h2 (by omega) | exact h3 (by omega) | exact h4 (by omega)
  · skip
    refine wq_aload_n (pc := 7) dX4_isWhole_7 rfl rfl ?_
    refine wq_getI (pc := 8) (kk := 2) dX4_isWhole_8 (gf_X4_18 _ rfl) (by with_reducible assumption) rfl rfl rfl ?_
    refine wq_aload_n (pc := 11) dX4_isWhole_11 rfl rfl ?_
    refine wq_getI (pc := 12) (kk := 1) dX4_isWhole_12 (gf_X4_15 _ rfl) (by with_reducible assumption) rfl rfl rfl ?_
    refine wq_icmp_ne (pc := 15) (tgt := 22) dX4_isWhole_15 (by decide) (by first | (unfold inR; omega) | assumption) (by first | (unfold inR; omega) | assumption) (fun c2 => ?_) (fun c2 => ?_)
    · skip
      refine wq_iconst (pc := 22) dX4_isWhole_22 ?_
      refine wq_zret (pc := 23) dX4_isWhole_23 rfl (by first | omega | (simp; done) | assumption) ?_
      first | exact h | exact h rfl | exact h (by omega) | exact h1 (by omega) | exact h2 (by omega) | exact h3 (by omega) | exact h4 (by omega)
    · skip
      refine wq_iconst (pc := 18) dX4_isWhole_18 ?_
      refine wq_goto (pc := 19) (tgt := 23) dX4_isWhole_19 (by decide) ?_
      refine wq_zret (pc := 23) dX4_isWhole_23 rfl (by first | omega | (simp; done) | assumption) ?_
      first | exact h | exact h rfl | exact h (by omega) | exact h1 (by omega) | exact h2 (by omega) | exact h3 (by omega) | exact h4 (by omega)
abbrev nTells (μ : nMem) (a wk wn : Int) : Prop := μ a 0 = wk ∧ μ a 3 = wn ∧ μ a 2 = μ a 1 ∧ μ a 13 = 0
theorem sp_X4_tells {μ : nMem} {ε : nEnv} {Q : nOut → nMem → nEnv → Prop} {a wk wn : Int} (hk : eKind ε a = 5) (hb : nB μ a) (r1 : inR wk) (r2 : inR wn) (h1 : nTells μ a wk wn → Q (.inl (some (vI 1))) μ ε) (h2 : ¬ nTells μ a wk wn → Q (.inl (some (vI 0))) μ ε) : Sp mX4_tells [vR a, vI wk, vI wn] μ ε Q := by
  refine Sp_of (L := [(0, vR a), (1, vI wk), (2, vI wn)]) (by decide) rfl rfl (Nat.le_of_ble_eq_true rfl) ?_
  obtain ⟨b0, b1, b2, b3, b4, b5, b6, b9, b10, b11, b12, b13⟩ := hb
  unfold nTells at h1 h2
  refine wq_aload_n (pc := 0) dX4_tells_0 rfl rfl ?_
  refine wq_getI (pc := 1) (kk := 0) dX4_tells_1 (gf_X4_9 _ rfl) (by with_reducible assumption) rfl rfl rfl ?_
  refine wq_iload_n (pc := 4) dX4_tells_4 rfl rfl ?_
  refine wq_icmp_ne (pc := 5) (tgt := 38) dX4_tells_5 (by decide) (by first | (unfold inR; omega) | assumption) (by first | (unfold inR; omega) | assumption) (fun c1 => ?_) (fun c1 => ?_)
  · skip
    refine wq_iconst (pc := 38) dX4_tells_38 ?_
    refine wq_zret (pc := 39) dX4_tells_39 rfl (by first | omega | (simp; done) | assumption) ?_
    first | exact h | exact h rfl | exact h (by omega) | exact h1 (by omega) | exact h2 (by omega) | exact h3 (by omega) | exact h4 (by omega)
  · skip
    refine wq_aload_n (pc := 8) dX4_tells_8 rfl rfl ?_
    refine wq_getI (pc := 9) (kk := 3) dX4_tells_9 (gf_X4_21 _ rfl) (by with_reducible assumption) rfl rfl rfl ?_
    refine wq_iload_n (pc := 12) dX4_tells_12 rfl rfl ?_
    refine wq_icmp_ne (pc := 13) (tgt := 38) dX4_tells_13 (by decide) (by first | (unfold inR; omega) | assumption) (by first | (unfold inR; omega) | assumption) (fun c2 => ?_) (fun c2 => ?_)
    · skip
      refine wq_iconst (pc := 38) dX4_tells_38 ?_
      refine wq_zret (pc := 39) dX4_tells_39 rfl (by first | omega | (simp; done) | assumption) ?_
      first | exact h | exact h rfl | exact h (by omega) | exact h1 (by omega) | exact h2 (by omega) | exact h3 (by omega) | exact h4 (by omega)
    · skip
      refine wq_aload_n (pc := 16) dX4_tells_16 rfl rfl ?_
      refine wq_getI (pc := 17) (kk := 2) dX4_tells_17 (gf_X4_18 _ rfl) (by with_reducible assumption) rfl rfl rfl ?_
      refine wq_aload_n (pc := 20) dX4_tells_20 rfl rfl ?_
      refine wq_getI (pc := 21) (kk := 1) dX4_tells_21 (gf_X4_15 _ rfl) (by with_reducible assumption) rfl rfl rfl ?_
      refine wq_icmp_ne (pc := 24) (tgt := 38) dX4_tells_24 (by decide) (by first | (unfold inR; omega) | assumption) (by first | (unfold inR; omega) | assumption) (fun c3 => ?_) (fun c3 => ?_)
      · skip
        refine wq_iconst (pc := 38) dX4_tells_38 ?_
        refine wq_zret (pc := 39) dX4_tells_39 rfl (by first | omega | (simp; done) | assumption) ?_
        first | exact h | exact h rfl | exact h (by omega) | exact h1 (by omega) | exact h2 (by omega) | exact h3 (by omega) | exact h4 (by omega)
      · skip
        refine wq_aload_n (pc := 27) dX4_tells_27 rfl rfl ?_
        refine wq_getI (pc := 28) (kk := 13) dX4_tells_28 (gf_X4_53 _ rfl) (by with_reducible assumption) rfl rfl rfl ?_
        refine wq_if_ne (pc := 31) (tgt := 38) dX4_tells_31 (by decide) (by first | (unfold inR; omega) | assumption) (fun c4 => ?_) (fun c4 => ?_)
        · skip
          refine wq_iconst (pc := 38) dX4_tells_38 ?_
          refine wq_zret (pc := 39) dX4_tells_39 rfl (by first | omega | (simp; done) | assumption) ?_
          first | exact h | exact h rfl | exact h (by omega) | exact h1 (by omega) | exact h2 (by omega) | exact h3 (by omega) | exact h4 (by omega)
        · skip
          refine wq_iconst (pc := 34) dX4_tells_34 ?_
          refine wq_goto (pc := 35) (tgt := 39) dX4_tells_35 (by decide) ?_
          refine wq_zret (pc := 39) dX4_tells_39 rfl (by first | omega | (simp; done) | assumption) ?_
          first | exact h | exact h rfl | exact h (by omega) | exact h1 (by omega) | exact h2 (by omega) | exact h3 (by omega) | exact h4 (by omega)
abbrev nCopy (μ : nMem) (a o : Int) : Prop := nTells μ a (μ o 0) (μ o 3) ∧ μ a 4 = μ o 4
theorem sp_X4_isCopyOf {μ : nMem} {ε : nEnv} {Q : nOut → nMem → nEnv → Prop} {a o : Int} (hk : eKind ε a = 5) (hb : nB μ a) (hk2 : eKind ε o = 5) (hb2 : nB μ o) (h1 : nCopy μ a o → Q (.inl (some (vI 1))) μ ε) (h2 : ¬ nCopy μ a o → Q (.inl (some (vI 0))) μ ε) : Sp mX4_isCopyOf [vR a, vR o] μ ε Q := by
  refine Sp_of (L := [(0, vR a), (1, vR o)]) (by decide) rfl rfl (Nat.le_of_ble_eq_true rfl) ?_
  have hb0 := hb
  obtain ⟨b0, b1, b2, b3, b4, b5, b6, b9, b10, b11, b12, b13⟩ := hb
  obtain ⟨d0, d1, d2, d3, d4, d5, d6, d9, d10, d11, d12, d13⟩ := hb2
  refine wq_aload_n (pc := 0) dX4_isCopyOf_0 rfl rfl ?_
  refine wq_aload_n (pc := 1) dX4_isCopyOf_1 rfl rfl ?_
  refine wq_getI (pc := 2) (kk := 0) dX4_isCopyOf_2 (gf_X4_9 _ rfl) (by with_reducible assumption) rfl rfl rfl ?_
  refine wq_aload_n (pc := 5) dX4_isCopyOf_5 rfl rfl ?_
  refine wq_getI (pc := 6) (kk := 3) dX4_isCopyOf_6 (gf_X4_21 _ rfl) (by with_reducible assumption) rfl rfl rfl ?_
  refine cV_2 (pc := 9) dX4_isCopyOf_9 (cw_X4_59 _ rfl) (by decide) (by with_reducible assumption) ⟨by decide, by decide⟩ (Nat.le_of_ble_eq_true rfl) (sp_X4_tells (by with_reducible assumption) (by assumption) (by first | (unfold inR; omega) | assumption) (by first | (unfold inR; omega) | assumption) (fun ht1 => ?_) (fun ht2 => ?_))
  · skip
    refine kr_s ?_
    refine wq_if_eq (pc := 12) (tgt := 30) dX4_isCopyOf_12 (by decide) (by first | (unfold inR; omega) | assumption) (fun c => absurd c (by decide)) (fun _ => ?_)
    refine wq_aload_n (pc := 15) dX4_isCopyOf_15 rfl rfl ?_
    refine wq_getI (pc := 16) (kk := 4) dX4_isCopyOf_16 (gf_X4_24 _ rfl) (by with_reducible assumption) rfl rfl rfl ?_
    refine wq_aload_n (pc := 19) dX4_isCopyOf_19 rfl rfl ?_
    refine wq_getI (pc := 20) (kk := 4) dX4_isCopyOf_20 (gf_X4_24 _ rfl) (by with_reducible assumption) rfl rfl rfl ?_
    refine wq_icmp_ne (pc := 23) (tgt := 30) dX4_isCopyOf_23 (by decide) (by first | (unfold inR; omega) | assumption) (by first | (unfold inR; omega) | assumption) (fun c4 => ?_) (fun c4 => ?_)
    · skip
      refine wq_iconst (pc := 30) dX4_isCopyOf_30 ?_
      refine wq_zret (pc := 31) dX4_isCopyOf_31 rfl (by first | omega | (simp; done) | assumption) ?_
      first | exact h1 ⟨by assumption, by assumption⟩ | exact h2 (fun q => absurd q.1 (by assumption)) | exact h2 (fun q => absurd q.2 (by omega))
    · skip
      refine wq_iconst (pc := 26) dX4_isCopyOf_26 ?_
      refine wq_goto (pc := 27) (tgt := 31) dX4_isCopyOf_27 (by decide) ?_
      refine wq_zret (pc := 31) dX4_isCopyOf_31 rfl (by first | omega | (simp; done) | assumption) ?_
      first | exact h1 ⟨by assumption, by assumption⟩ | exact h2 (fun q => absurd q.1 (by assumption)) | exact h2 (fun q => absurd q.2 (by omega))
  · skip
    refine kr_s ?_
    refine wq_if_eq (pc := 12) (tgt := 30) dX4_isCopyOf_12 (by decide) (by first | (unfold inR; omega) | assumption) (fun _ => ?_) (fun c => absurd c (by decide))
    refine wq_iconst (pc := 30) dX4_isCopyOf_30 ?_
    refine wq_zret (pc := 31) dX4_isCopyOf_31 rfl (by first | omega | (simp; done) | assumption) ?_
    first | exact h1 ⟨by assumption, by assumption⟩ | exact h2 (fun q => absurd q.1 (by assumption)) | exact h2 (fun q => absurd q.2 (by omega))
abbrev nLays (μ : nMem) (a p : Int) : Prop := μ a 5 ≤ p ∧ p - μ a 5 < μ a 6
theorem sp_X4_laysAt {μ : nMem} {ε : nEnv} {Q : nOut → nMem → nEnv → Prop} {a p : Int} (hk : eKind ε a = 5) (hb : nB μ a) (r1 : -1000 ≤ p ∧ p ≤ 2147483647) (h1 : nLays μ a p → Q (.inl (some (vI 1))) μ ε) (h2 : ¬ nLays μ a p → Q (.inl (some (vI 0))) μ ε) : Sp mX4_laysAt [vR a, vI p] μ ε Q := by
  refine Sp_of (L := [(0, vR a), (1, vI p)]) (by decide) rfl rfl (Nat.le_of_ble_eq_true rfl) ?_
  obtain ⟨b0, b1, b2, b3, b4, b5, b6, b9, b10, b11, b12, b13⟩ := hb
  unfold nLays at h1 h2
  refine wq_iload_n (pc := 0) dX4_laysAt_0 rfl rfl ?_
  refine wq_aload_n (pc := 1) dX4_laysAt_1 rfl rfl ?_
  refine wq_getI (pc := 2) (kk := 5) dX4_laysAt_2 (gf_X4_27 _ rfl) (by with_reducible assumption) rfl rfl rfl ?_
  refine wq_icmp_lt (pc := 5) (tgt := 25) dX4_laysAt_5 (by decide) (by first | (unfold inR; omega) | assumption) (by first | (unfold inR; omega) | assumption) (fun c1 => ?_) (fun c1 => ?_)
  · skip
    refine wq_iconst (pc := 25) dX4_laysAt_25 ?_
    refine wq_zret (pc := 26) dX4_laysAt_26 rfl (by first | omega | (simp; done) | assumption) ?_
    first | exact h | exact h rfl | exact h (by omega) | exact h1 (by omega) | exact h2 (by omega) | exact h3 (by omega) | exact h4 (by omega)
  · skip
    refine wq_iload_n (pc := 8) dX4_laysAt_8 rfl rfl ?_
    refine wq_aload_n (pc := 9) dX4_laysAt_9 rfl rfl ?_
    refine wq_getI (pc := 10) (kk := 5) dX4_laysAt_10 (gf_X4_27 _ rfl) (by with_reducible assumption) rfl rfl rfl ?_
    refine wq_isub (pc := 13) dX4_laysAt_13 ?_
    refine wq_aload_n (pc := 14) dX4_laysAt_14 rfl rfl ?_
    refine wq_getI (pc := 15) (kk := 6) dX4_laysAt_15 (gf_X4_30 _ rfl) (by with_reducible assumption) rfl rfl rfl ?_
    refine wq_icmp_ge (pc := 18) (tgt := 25) dX4_laysAt_18 (by decide) (by first | (unfold inR; omega) | assumption) (by first | (unfold inR; omega) | assumption) (fun c2 => ?_) (fun c2 => ?_)
    · skip
      refine wq_iconst (pc := 25) dX4_laysAt_25 ?_
      refine wq_zret (pc := 26) dX4_laysAt_26 rfl (by first | omega | (simp; done) | assumption) ?_
      first | exact h | exact h rfl | exact h (by omega) | exact h1 (by omega) | exact h2 (by omega) | exact h3 (by omega) | exact h4 (by omega)
    · skip
      refine wq_iconst (pc := 21) dX4_laysAt_21 ?_
      refine wq_goto (pc := 22) (tgt := 26) dX4_laysAt_22 (by decide) ?_
      refine wq_zret (pc := 26) dX4_laysAt_26 rfl (by first | omega | (simp; done) | assumption) ?_
      first | exact h | exact h rfl | exact h (by omega) | exact h1 (by omega) | exact h2 (by omega) | exact h3 (by omega) | exact h4 (by omega)
abbrev nSettles (μ : nMem) (a k : Int) : Prop := (μ a 0 = 2 ∧ μ a 5 = k) ∨ (μ a 0 ≠ 2 ∧ (μ a 9 ≤ k ∨ (μ a 5 ≤ k ∧ k - μ a 5 < μ a 6)))
theorem sp_X4_settles {μ : nMem} {ε : nEnv} {Q : nOut → nMem → nEnv → Prop} {a p : Int} (hk : eKind ε a = 5) (hb : nB μ a) (r1 : -1000 ≤ p ∧ p ≤ 2147483647) (h1 : nSettles μ a p → Q (.inl (some (vI 1))) μ ε) (h2 : ¬ nSettles μ a p → Q (.inl (some (vI 0))) μ ε) : Sp mX4_settles [vR a, vI p] μ ε Q := by
  refine Sp_of (L := [(0, vR a), (1, vI p)]) (by decide) rfl rfl (Nat.le_of_ble_eq_true rfl) ?_
  obtain ⟨b0, b1, b2, b3, b4, b5, b6, b9, b10, b11, b12, b13⟩ := hb
  unfold nSettles at h1 h2
  refine wq_aload_n (pc := 0) dX4_settles_0 rfl rfl ?_
  refine wq_getI (pc := 1) (kk := 0) dX4_settles_1 (gf_X4_9 _ rfl) (by with_reducible assumption) rfl rfl rfl ?_
  refine wq_iconst (pc := 4) dX4_settles_4 ?_
  refine wq_icmp_ne (pc := 5) (tgt := 22) dX4_settles_5 (by decide) (by first | (unfold inR; omega) | assumption) (by first | (unfold inR; omega) | assumption) (fun c1 => ?_) (fun c1 => ?_)
  · skip
    refine wq_iload_n (pc := 22) dX4_settles_22 rfl rfl ?_
    refine wq_aload_n (pc := 23) dX4_settles_23 rfl rfl ?_
    refine wq_getI (pc := 24) (kk := 9) dX4_settles_24 (gf_X4_40 _ rfl) (by with_reducible assumption) rfl rfl rfl ?_
    refine wq_icmp_ge (pc := 27) (tgt := 51) dX4_settles_27 (by decide) (by first | (unfold inR; omega) | assumption) (by first | (unfold inR; omega) | assumption) (fun c2 => ?_) (fun c2 => ?_)
    · skip
      refine wq_iconst (pc := 51) dX4_settles_51 ?_
      refine wq_goto (pc := 52) (tgt := 56) dX4_settles_52 (by decide) ?_
      refine wq_zret (pc := 56) dX4_settles_56 rfl (by first | omega | (simp; done) | assumption) ?_
      first | exact h | exact h rfl | exact h (by omega) | exact h1 (by omega) | exact h2 (by omega) | exact h3 (by omega) | exact h4 (by omega)
    · skip
      refine wq_iload_n (pc := 30) dX4_settles_30 rfl rfl ?_
      refine wq_aload_n (pc := 31) dX4_settles_31 rfl rfl ?_
      refine wq_getI (pc := 32) (kk := 5) dX4_settles_32 (gf_X4_27 _ rfl) (by with_reducible assumption) rfl rfl rfl ?_
      refine wq_icmp_lt (pc := 35) (tgt := 55) dX4_settles_35 (by decide) (by first | (unfold inR; omega) | assumption) (by first | (unfold inR; omega) | assumption) (fun c3 => ?_) (fun c3 => ?_)
      · skip
        refine wq_iconst (pc := 55) dX4_settles_55 ?_
        refine wq_zret (pc := 56) dX4_settles_56 rfl (by first | omega | (simp; done) | assumption) ?_
        first | exact h | exact h rfl | exact h (by omega) | exact h1 (by omega) | exact h2 (by omega) | exact h3 (by omega) | exact h4 (by omega)
      · skip
        refine wq_iload_n (pc := 38) dX4_settles_38 rfl rfl ?_
        refine wq_aload_n (pc := 39) dX4_settles_39 rfl rfl ?_
        refine wq_getI (pc := 40) (kk := 5) dX4_settles_40 (gf_X4_27 _ rfl) (by with_reducible assumption) rfl rfl rfl ?_
        refine wq_isub (pc := 43) dX4_settles_43 ?_
        refine wq_aload_n (pc := 44) dX4_settles_44 rfl rfl ?_
        refine wq_getI (pc := 45) (kk := 6) dX4_settles_45 (gf_X4_30 _ rfl) (by with_reducible assumption) rfl rfl rfl ?_
        refine wq_icmp_ge (pc := 48) (tgt := 55) dX4_settles_48 (by decide) (by first | (unfold inR; omega) | assumption) (by first | (unfold inR; omega) | assumption) (fun c4 => ?_) (fun c4 => ?_)
        · skip
          refine wq_iconst (pc := 55) dX4_settles_55 ?_
          refine wq_zret (pc := 56) dX4_settles_56 rfl (by first | omega | (simp; done) | assumption) ?_
          first | exact h | exact h rfl | exact h (by omega) | exact h1 (by omega) | exact h2 (by omega) | exact h3 (by omega) | exact h4 (by omega)
        · skip
          refine wq_iconst (pc := 51) dX4_settles_51 ?_
          refine wq_goto (pc := 52) (tgt := 56) dX4_settles_52 (by decide) ?_
          refine wq_zret (pc := 56) dX4_settles_56 rfl (by first | omega | (simp; done) | assumption) ?_
          first | exact h | exact h rfl | exact h (by omega) | exact h1 (by omega) | exact h2 (by omega) | exact h3 (by omega) | exact h4 (by omega)
  · skip
    refine wq_aload_n (pc := 8) dX4_settles_8 rfl rfl ?_
    refine wq_getI (pc := 9) (kk := 5) dX4_settles_9 (gf_X4_27 _ rfl) (by with_reducible assumption) rfl rfl rfl ?_
    refine wq_iload_n (pc := 12) dX4_settles_12 rfl rfl ?_
    refine wq_icmp_ne (pc := 13) (tgt := 20) dX4_settles_13 (by decide) (by first | (unfold inR; omega) | assumption) (by first | (unfold inR; omega) | assumption) (fun c5 => ?_) (fun c5 => ?_)
    · skip
      refine wq_iconst (pc := 20) dX4_settles_20 ?_
      refine wq_zret (pc := 21) dX4_settles_21 rfl (by first | omega | (simp; done) | assumption) ?_
      first | exact h | exact h rfl | exact h (by omega) | exact h1 (by omega) | exact h2 (by omega) | exact h3 (by omega) | exact h4 (by omega)
    · skip
      refine wq_iconst (pc := 16) dX4_settles_16 ?_
      refine wq_goto (pc := 17) (tgt := 21) dX4_settles_17 (by decide) ?_
      refine wq_zret (pc := 21) dX4_settles_21 rfl (by first | omega | (simp; done) | assumption) ?_
      first | exact h | exact h rfl | exact h (by omega) | exact h1 (by omega) | exact h2 (by omega) | exact h3 (by omega) | exact h4 (by omega)
def nByte (μ : nMem) (a p : Int) : Int := iAnd (jUshr (μ a 7) (8 * (p - μ a 5))) 255
def nByteFor (μ : nMem) (a p : Int) : Int := if μ a 5 ≤ p ∧ p - μ a 5 < μ a 6 then nByte μ a p else 0
theorem sp_X4_byteFor {μ : nMem} {ε : nEnv} {Q : nOut → nMem → nEnv → Prop} {a p : Int} (hk : eKind ε a = 5) (hb : nB μ a) (r1 : -1000 ≤ p ∧ p ≤ 2147483647) (h : Q (.inl (some (vI (nByteFor μ a p)))) μ ε) : Sp mX4_byteFor [vR a, vI p] μ ε Q := by
  refine Sp_of (L := [(0, vR a), (1, vI p)]) (by decide) rfl rfl (Nat.le_of_ble_eq_true rfl) ?_
  unfold nByteFor at h
  refine wq_aload_n (pc := 0) dX4_byteFor_0 rfl rfl ?_
  refine wq_iload_n (pc := 1) dX4_byteFor_1 rfl rfl ?_
  refine cV_1 (pc := 2) dX4_byteFor_2 (cw_X4_63 _ rfl) (by decide) (by with_reducible assumption) ⟨by decide, by decide⟩ (Nat.le_of_ble_eq_true rfl) (sp_X4_laysAt (by with_reducible assumption) (by assumption) (by omega) (fun hl1 => ?_) (fun hl2 => ?_))
  · skip
    refine kr_s ?_
    refine wq_if_eq (pc := 5) (tgt := 30) dX4_byteFor_5 (by decide) (by first | (unfold inR; omega) | assumption) (fun c => absurd c (by decide)) (fun _ => ?_)
    refine wq_aload_n (pc := 8) dX4_byteFor_8 rfl rfl ?_
    refine wq_getJ (pc := 9) (kk := 7) dX4_byteFor_9 (gf_X4_33 _ rfl) (by with_reducible assumption) rfl rfl rfl ?_
    refine wq_bipush (pc := 12) dX4_byteFor_12 (by decide) (by decide) ?_
    refine wq_iload_n (pc := 14) dX4_byteFor_14 rfl rfl ?_
    refine wq_aload_n (pc := 15) dX4_byteFor_15 rfl rfl ?_
    refine wq_getI (pc := 16) (kk := 5) dX4_byteFor_16 (gf_X4_27 _ rfl) (by with_reducible assumption) rfl rfl rfl ?_
    refine wq_isub (pc := 19) dX4_byteFor_19 ?_
    refine wq_imul (pc := 20) dX4_byteFor_20 ?_
    refine wq_lushr (pc := 21) dX4_byteFor_21 ?_
    refine wq_l2i (pc := 22) dX4_byteFor_22 ?_
    refine wq_sipush (pc := 23) dX4_byteFor_23 (by decide) (by decide) ?_
    refine wq_iand (pc := 26) dX4_byteFor_26 ?_
    refine wq_goto (pc := 27) (tgt := 31) dX4_byteFor_27 (by decide) ?_
    refine wq_iret (pc := 31) dX4_byteFor_31 rfl ?_
    first | (rw [if_pos (by assumption)] at h; exact h) | (rw [if_neg (by assumption)] at h; exact h)
  · skip
    refine kr_s ?_
    refine wq_if_eq (pc := 5) (tgt := 30) dX4_byteFor_5 (by decide) (by first | (unfold inR; omega) | assumption) (fun _ => ?_) (fun c => absurd c (by decide))
    refine wq_iconst (pc := 30) dX4_byteFor_30 ?_
    refine wq_iret (pc := 31) dX4_byteFor_31 rfl ?_
    first | (rw [if_pos (by assumption)] at h; exact h) | (rw [if_neg (by assumption)] at h; exact h)
def nSettled (μ : nMem) (a : Int) : Int := if 64 ≤ μ a 9 then μ a 8 else jOr (μ a 8) (jShl (-1) (μ a 9))
theorem sp_X4_settledPlaces {μ : nMem} {ε : nEnv} {Q : nOut → nMem → nEnv → Prop} {a : Int} (hk : eKind ε a = 5) (hb : nB μ a) (h : Q (.inl (some (vJ (nSettled μ a)))) μ ε) : Sp mX4_settledPlaces [vR a] μ ε Q := by
  refine Sp_of (L := [(0, vR a)]) (by decide) rfl rfl (Nat.le_of_ble_eq_true rfl) ?_
  obtain ⟨b0, b1, b2, b3, b4, b5, b6, b9, b10, b11, b12, b13⟩ := hb
  unfold nSettled at h
  refine wq_aload_n (pc := 0) dX4_settledPlaces_0 rfl rfl ?_
  refine wq_getI (pc := 1) (kk := 9) dX4_settledPlaces_1 (gf_X4_40 _ rfl) (by with_reducible assumption) rfl rfl rfl ?_
  refine wq_bipush (pc := 4) dX4_settledPlaces_4 (by decide) (by decide) ?_
  refine wq_icmp_lt (pc := 6) (tgt := 16) dX4_settledPlaces_6 (by decide) (by first | (unfold inR; omega) | assumption) (by first | (unfold inR; omega) | assumption) (fun c1 => ?_) (fun c1 => ?_)
  · skip
    refine wq_aload_n (pc := 16) dX4_settledPlaces_16 rfl rfl ?_
    refine wq_getJ (pc := 17) (kk := 8) dX4_settledPlaces_17 (gf_X4_37 _ rfl) (by with_reducible assumption) rfl rfl rfl ?_
    refine wq_ldc2 (pc := 20) dX4_settledPlaces_20 (kc_X4_67 _ rfl) ?_
    refine wq_aload_n (pc := 23) dX4_settledPlaces_23 rfl rfl ?_
    refine wq_getI (pc := 24) (kk := 9) dX4_settledPlaces_24 (gf_X4_40 _ rfl) (by with_reducible assumption) rfl rfl rfl ?_
    refine wq_lshl (pc := 27) dX4_settledPlaces_27 ?_
    refine wq_lor (pc := 28) dX4_settledPlaces_28 ?_
    refine wq_lret (pc := 29) dX4_settledPlaces_29 rfl ?_
    first | (rw [if_pos (by omega)] at h; exact h) | (rw [if_neg (by omega)] at h; exact h)
  · skip
    refine wq_aload_n (pc := 9) dX4_settledPlaces_9 rfl rfl ?_
    refine wq_getJ (pc := 10) (kk := 8) dX4_settledPlaces_10 (gf_X4_37 _ rfl) (by with_reducible assumption) rfl rfl rfl ?_
    refine wq_goto (pc := 13) (tgt := 29) dX4_settledPlaces_13 (by decide) ?_
    refine wq_lret (pc := 29) dX4_settledPlaces_29 rfl ?_
    first | (rw [if_pos (by omega)] at h; exact h) | (rw [if_neg (by omega)] at h; exact h)
def mClear (μ : nMem) (a : Int) : nMem := wr (wr (wr (wr (wr (wr (wr (wr (wr (wr (wr (wr (wr (wr μ a 0 0) a 1 0) a 2 0) a 3 0) a 4 0) a 5 0) a 6 0) a 7 0) a 8 0) a 9 0) a 10 0) a 11 0) a 12 0) a 13 0
theorem sp_X4_clear {μ : nMem} {ε : nEnv} {Q : nOut → nMem → nEnv → Prop} {a : Int} (hk : eKind ε a = 5) (h : Q (.inl none) (mClear μ a) ε) : Sp mX4_clear [vR a] μ ε Q := by
  refine Sp_of (L := [(0, vR a)]) (by decide) rfl rfl (Nat.le_of_ble_eq_true rfl) ?_
  refine wq_aload_n (pc := 0) dX4_clear_0 rfl rfl ?_
  refine wq_iconst (pc := 1) dX4_clear_1 ?_
  refine wq_putI (pc := 2) (kk := 0) dX4_clear_2 (gf_X4_9 _ rfl) (by with_reducible assumption) rfl rfl rfl rfl ?_
  refine wq_aload_n (pc := 5) dX4_clear_5 rfl rfl ?_
  refine wq_iconst (pc := 6) dX4_clear_6 ?_
  refine wq_putI (pc := 7) (kk := 1) dX4_clear_7 (gf_X4_15 _ rfl) (by with_reducible assumption) rfl rfl rfl rfl ?_
  refine wq_aload_n (pc := 10) dX4_clear_10 rfl rfl ?_
  refine wq_iconst (pc := 11) dX4_clear_11 ?_
  refine wq_putI (pc := 12) (kk := 2) dX4_clear_12 (gf_X4_18 _ rfl) (by with_reducible assumption) rfl rfl rfl rfl ?_
  refine wq_aload_n (pc := 15) dX4_clear_15 rfl rfl ?_
  refine wq_iconst (pc := 16) dX4_clear_16 ?_
  refine wq_putI (pc := 17) (kk := 3) dX4_clear_17 (gf_X4_21 _ rfl) (by with_reducible assumption) rfl rfl rfl rfl ?_
  refine wq_aload_n (pc := 20) dX4_clear_20 rfl rfl ?_
  refine wq_iconst (pc := 21) dX4_clear_21 ?_
  refine wq_putI (pc := 22) (kk := 4) dX4_clear_22 (gf_X4_24 _ rfl) (by with_reducible assumption) rfl rfl rfl rfl ?_
  refine wq_aload_n (pc := 25) dX4_clear_25 rfl rfl ?_
  refine wq_iconst (pc := 26) dX4_clear_26 ?_
  refine wq_putI (pc := 27) (kk := 5) dX4_clear_27 (gf_X4_27 _ rfl) (by with_reducible assumption) rfl rfl rfl rfl ?_
  refine wq_aload_n (pc := 30) dX4_clear_30 rfl rfl ?_
  refine wq_iconst (pc := 31) dX4_clear_31 ?_
  refine wq_putI (pc := 32) (kk := 6) dX4_clear_32 (gf_X4_30 _ rfl) (by with_reducible assumption) rfl rfl rfl rfl ?_
  refine wq_aload_n (pc := 35) dX4_clear_35 rfl rfl ?_
  refine wq_lconst (pc := 36) (v := 0) dX4_clear_36 rfl ?_
  refine wq_putJ (pc := 37) (kk := 7) dX4_clear_37 (gf_X4_33 _ rfl) (by with_reducible assumption) rfl rfl rfl rfl ?_
  refine wq_aload_n (pc := 40) dX4_clear_40 rfl rfl ?_
  refine wq_lconst (pc := 41) (v := 0) dX4_clear_41 rfl ?_
  refine wq_putJ (pc := 42) (kk := 8) dX4_clear_42 (gf_X4_37 _ rfl) (by with_reducible assumption) rfl rfl rfl rfl ?_
  refine wq_aload_n (pc := 45) dX4_clear_45 rfl rfl ?_
  refine wq_iconst (pc := 46) dX4_clear_46 ?_
  refine wq_putI (pc := 47) (kk := 9) dX4_clear_47 (gf_X4_40 _ rfl) (by with_reducible assumption) rfl rfl rfl rfl ?_
  refine wq_aload_n (pc := 50) dX4_clear_50 rfl rfl ?_
  refine wq_iconst (pc := 51) dX4_clear_51 ?_
  refine wq_putI (pc := 52) (kk := 10) dX4_clear_52 (gf_X4_43 _ rfl) (by with_reducible assumption) rfl rfl rfl rfl ?_
  refine wq_aload_n (pc := 55) dX4_clear_55 rfl rfl ?_
  refine wq_iconst (pc := 56) dX4_clear_56 ?_
  refine wq_putZ (pc := 57) (kk := 11) dX4_clear_57 (gf_X4_46 _ rfl) (by with_reducible assumption) rfl rfl rfl rfl (by first | omega | (simp; done) | assumption) ?_
  refine wq_aload_n (pc := 60) dX4_clear_60 rfl rfl ?_
  refine wq_iconst (pc := 61) dX4_clear_61 ?_
  refine wq_putZ (pc := 62) (kk := 12) dX4_clear_62 (gf_X4_50 _ rfl) (by with_reducible assumption) rfl rfl rfl rfl (by first | omega | (simp; done) | assumption) ?_
  refine wq_aload_n (pc := 65) dX4_clear_65 rfl rfl ?_
  refine wq_iconst (pc := 66) dX4_clear_66 ?_
  refine wq_putZ (pc := 67) (kk := 13) dX4_clear_67 (gf_X4_53 _ rfl) (by with_reducible assumption) rfl rfl rfl rfl (by first | omega | (simp; done) | assumption) ?_
  refine wq_vret (pc := 70) dX4_clear_70 rfl ?_
  first | exact h | exact h rfl | exact h (by omega) | exact h1 (by omega) | exact h2 (by omega) | exact h3 (by omega) | exact h4 (by omega)
def mData (μ : nMem) (a f v o z : Int) : nMem := wr (wr (wr (wr (wr (wr (mClear μ a) a 0 1) a 1 2) a 3 f) a 4 v) a 5 o) a 9 z
def mBytes (μ : nMem) (a b n : Int) : nMem := wr (wr (wr (wr μ a 7 b) a 6 n) a 8 (jShl (jShl 1 n - 1) (μ a 5))) a 1 (2 + n)
def mName (μ : nMem) (a d v nm t td : Int) : nMem := wr (wr (wr (wr (wr (wr (wr (mClear μ a) a 0 2) a 1 3) a 3 d) a 4 v) a 5 nm) a 10 t) a 11 td
def mSumm (μ : nMem) (a c : Int) : nMem := wr (wr (mClear μ a) a 0 3) a 1 (1 + c)
def mCopy (μ : nMem) (a o : Int) : nMem := wr (wr (wr (wr (wr (wr (wr (wr (wr (wr (wr (wr (wr (wr μ a 0 (μ o 0)) a 1 (μ o 1)) a 2 0) a 3 (μ o 3)) a 4 (μ o 4)) a 5 (μ o 5)) a 6 (μ o 6)) a 7 (μ o 7)) a 8 (μ o 8)) a 9 (μ o 9)) a 10 (μ o 10)) a 11 (μ o 11)) a 12 0) a 13 0
theorem sp_X4_becomeData {μ : nMem} {ε : nEnv} {Q : nOut → nMem → nEnv → Prop} {a f v o z : Int} (hk : eKind ε a = 5) (h : Q (.inl none) (mData μ a f v o z) ε) : Sp mX4_becomeData [vR a, vI f, vI v, vI o, vI z] μ ε Q := by
  refine Sp_of (L := [(0, vR a), (1, vI f), (2, vI v), (3, vI o), (4, vI z)]) (by decide) rfl rfl (Nat.le_of_ble_eq_true rfl) ?_
  refine wq_aload_n (pc := 0) dX4_becomeData_0 rfl rfl ?_
  refine cV_0 (pc := 1) dX4_becomeData_1 (cw_X4_56 _ rfl) (by decide) (by with_reducible assumption) ⟨by decide, by decide⟩ (Nat.le_of_ble_eq_true rfl) (sp_X4_clear (by with_reducible assumption) ?_)
  refine kr_v ?_
  refine wq_aload_n (pc := 4) dX4_becomeData_4 rfl rfl ?_
  refine wq_iconst (pc := 5) dX4_becomeData_5 ?_
  refine wq_putI (pc := 6) (kk := 0) dX4_becomeData_6 (gf_X4_9 _ rfl) (by with_reducible assumption) rfl rfl rfl rfl ?_
  refine wq_aload_n (pc := 9) dX4_becomeData_9 rfl rfl ?_
  refine wq_iconst (pc := 10) dX4_becomeData_10 ?_
  refine wq_putI (pc := 11) (kk := 1) dX4_becomeData_11 (gf_X4_15 _ rfl) (by with_reducible assumption) rfl rfl rfl rfl ?_
  refine wq_aload_n (pc := 14) dX4_becomeData_14 rfl rfl ?_
  refine wq_iload_n (pc := 15) dX4_becomeData_15 rfl rfl ?_
  refine wq_putI (pc := 16) (kk := 3) dX4_becomeData_16 (gf_X4_21 _ rfl) (by with_reducible assumption) rfl rfl rfl rfl ?_
  refine wq_aload_n (pc := 19) dX4_becomeData_19 rfl rfl ?_
  refine wq_iload_n (pc := 20) dX4_becomeData_20 rfl rfl ?_
  refine wq_putI (pc := 21) (kk := 4) dX4_becomeData_21 (gf_X4_24 _ rfl) (by with_reducible assumption) rfl rfl rfl rfl ?_
  refine wq_aload_n (pc := 24) dX4_becomeData_24 rfl rfl ?_
  refine wq_iload_n (pc := 25) dX4_becomeData_25 rfl rfl ?_
  refine wq_putI (pc := 26) (kk := 5) dX4_becomeData_26 (gf_X4_27 _ rfl) (by with_reducible assumption) rfl rfl rfl rfl ?_
  refine wq_aload_n (pc := 29) dX4_becomeData_29 rfl rfl ?_
  refine wq_iload (pc := 30) dX4_becomeData_30 rfl ?_
  refine wq_putI (pc := 32) (kk := 9) dX4_becomeData_32 (gf_X4_40 _ rfl) (by with_reducible assumption) rfl rfl rfl rfl ?_
  refine wq_vret (pc := 35) dX4_becomeData_35 rfl ?_
  first | exact h | exact h rfl | exact h (by omega) | exact h1 (by omega) | exact h2 (by omega) | exact h3 (by omega) | exact h4 (by omega)
theorem sp_X4_becomeName {μ : nMem} {ε : nEnv} {Q : nOut → nMem → nEnv → Prop} {a d v nm t td : Int} (hk : eKind ε a = 5) (htd : td = 0 ∨ td = 1) (h : Q (.inl none) (mName μ a d v nm t td) ε) : Sp mX4_becomeName [vR a, vI d, vI v, vI nm, vI t, vI td] μ ε Q := by
  refine Sp_of (L := [(0, vR a), (1, vI d), (2, vI v), (3, vI nm), (4, vI t), (5, vI td)]) (by decide) rfl rfl (Nat.le_of_ble_eq_true rfl) ?_
  refine wq_aload_n (pc := 0) dX4_becomeName_0 rfl rfl ?_
  refine cV_0 (pc := 1) dX4_becomeName_1 (cw_X4_56 _ rfl) (by decide) (by with_reducible assumption) ⟨by decide, by decide⟩ (Nat.le_of_ble_eq_true rfl) (sp_X4_clear (by with_reducible assumption) ?_)
  refine kr_v ?_
  refine wq_aload_n (pc := 4) dX4_becomeName_4 rfl rfl ?_
  refine wq_iconst (pc := 5) dX4_becomeName_5 ?_
  refine wq_putI (pc := 6) (kk := 0) dX4_becomeName_6 (gf_X4_9 _ rfl) (by with_reducible assumption) rfl rfl rfl rfl ?_
  refine wq_aload_n (pc := 9) dX4_becomeName_9 rfl rfl ?_
  refine wq_iconst (pc := 10) dX4_becomeName_10 ?_
  refine wq_putI (pc := 11) (kk := 1) dX4_becomeName_11 (gf_X4_15 _ rfl) (by with_reducible assumption) rfl rfl rfl rfl ?_
  refine wq_aload_n (pc := 14) dX4_becomeName_14 rfl rfl ?_
  refine wq_iload_n (pc := 15) dX4_becomeName_15 rfl rfl ?_
  refine wq_putI (pc := 16) (kk := 3) dX4_becomeName_16 (gf_X4_21 _ rfl) (by with_reducible assumption) rfl rfl rfl rfl ?_
  refine wq_aload_n (pc := 19) dX4_becomeName_19 rfl rfl ?_
  refine wq_iload_n (pc := 20) dX4_becomeName_20 rfl rfl ?_
  refine wq_putI (pc := 21) (kk := 4) dX4_becomeName_21 (gf_X4_24 _ rfl) (by with_reducible assumption) rfl rfl rfl rfl ?_
  refine wq_aload_n (pc := 24) dX4_becomeName_24 rfl rfl ?_
  refine wq_iload_n (pc := 25) dX4_becomeName_25 rfl rfl ?_
  refine wq_putI (pc := 26) (kk := 5) dX4_becomeName_26 (gf_X4_27 _ rfl) (by with_reducible assumption) rfl rfl rfl rfl ?_
  refine wq_aload_n (pc := 29) dX4_becomeName_29 rfl rfl ?_
  refine wq_iload (pc := 30) dX4_becomeName_30 rfl ?_
  refine wq_putI (pc := 32) (kk := 10) dX4_becomeName_32 (gf_X4_43 _ rfl) (by with_reducible assumption) rfl rfl rfl rfl ?_
  refine wq_aload_n (pc := 35) dX4_becomeName_35 rfl rfl ?_
  refine wq_iload (pc := 36) dX4_becomeName_36 rfl ?_
  refine wq_putZ (pc := 38) (kk := 11) dX4_becomeName_38 (gf_X4_46 _ rfl) (by with_reducible assumption) rfl rfl rfl rfl (by first | omega | (simp; done) | assumption) ?_
  refine wq_vret (pc := 41) dX4_becomeName_41 rfl ?_
  first | exact h | exact h rfl | exact h (by omega) | exact h1 (by omega) | exact h2 (by omega) | exact h3 (by omega) | exact h4 (by omega)
theorem sp_X4_becomeSummary {μ : nMem} {ε : nEnv} {Q : nOut → nMem → nEnv → Prop} {a c : Int} (hk : eKind ε a = 5) (h : Q (.inl none) (mSumm μ a c) ε) : Sp mX4_becomeSummary [vR a, vI c] μ ε Q := by
  refine Sp_of (L := [(0, vR a), (1, vI c)]) (by decide) rfl rfl (Nat.le_of_ble_eq_true rfl) ?_
  refine wq_aload_n (pc := 0) dX4_becomeSummary_0 rfl rfl ?_
  refine cV_0 (pc := 1) dX4_becomeSummary_1 (cw_X4_56 _ rfl) (by decide) (by with_reducible assumption) ⟨by decide, by decide⟩ (Nat.le_of_ble_eq_true rfl) (sp_X4_clear (by with_reducible assumption) ?_)
  refine kr_v ?_
  refine wq_aload_n (pc := 4) dX4_becomeSummary_4 rfl rfl ?_
  refine wq_iconst (pc := 5) dX4_becomeSummary_5 ?_
  refine wq_putI (pc := 6) (kk := 0) dX4_becomeSummary_6 (gf_X4_9 _ rfl) (by with_reducible assumption) rfl rfl rfl rfl ?_
  refine wq_aload_n (pc := 9) dX4_becomeSummary_9 rfl rfl ?_
  refine wq_iconst (pc := 10) dX4_becomeSummary_10 ?_
  refine wq_iload_n (pc := 11) dX4_becomeSummary_11 rfl rfl ?_
  refine wq_iadd (pc := 12) dX4_becomeSummary_12 ?_
  refine wq_putI (pc := 13) (kk := 1) dX4_becomeSummary_13 (gf_X4_15 _ rfl) (by with_reducible assumption) rfl rfl rfl rfl ?_
  refine wq_vret (pc := 16) dX4_becomeSummary_16 rfl ?_
  first | exact h | exact h rfl | exact h (by omega) | exact h1 (by omega) | exact h2 (by omega) | exact h3 (by omega) | exact h4 (by omega)
theorem sp_X4_giveBytes {μ : nMem} {ε : nEnv} {Q : nOut → nMem → nEnv → Prop} {a b n : Int} (hk : eKind ε a = 5) (h : Q (.inl none) (mBytes μ a b n) ε) : Sp mX4_giveBytes [vR a, vJ b, vI n] μ ε Q := by
  refine Sp_of (L := [(0, vR a), (1, vJ b), (3, vI n)]) (by decide) rfl rfl (Nat.le_of_ble_eq_true rfl) ?_
  have e5 : (wr (wr μ a 7 b) a 6 n) a 5 = μ a 5 := by rw [wr_n _ _ (by omega), wr_n _ _ (by omega)]
  refine wq_aload_n (pc := 0) dX4_giveBytes_0 rfl rfl ?_
  refine wq_lload_n (pc := 1) dX4_giveBytes_1 rfl rfl ?_
  refine wq_putJ (pc := 2) (kk := 7) dX4_giveBytes_2 (gf_X4_33 _ rfl) (by with_reducible assumption) rfl rfl rfl rfl ?_
  refine wq_aload_n (pc := 5) dX4_giveBytes_5 rfl rfl ?_
  refine wq_iload_n (pc := 6) dX4_giveBytes_6 rfl rfl ?_
  refine wq_putI (pc := 7) (kk := 6) dX4_giveBytes_7 (gf_X4_30 _ rfl) (by with_reducible assumption) rfl rfl rfl rfl ?_
  refine wq_aload_n (pc := 10) dX4_giveBytes_10 rfl rfl ?_
  refine wq_lconst (pc := 11) (v := 1) dX4_giveBytes_11 rfl ?_
  refine wq_iload_n (pc := 12) dX4_giveBytes_12 rfl rfl ?_
  refine wq_lshl (pc := 13) dX4_giveBytes_13 ?_
  refine wq_lconst (pc := 14) (v := 1) dX4_giveBytes_14 rfl ?_
  refine wq_lsub (pc := 15) dX4_giveBytes_15 ?_
  refine wq_aload_n (pc := 16) dX4_giveBytes_16 rfl rfl ?_
  refine wq_getI (pc := 17) (kk := 5) dX4_giveBytes_17 (gf_X4_27 _ rfl) (by with_reducible assumption) rfl rfl rfl ?_
  refine wq_lshl (pc := 20) dX4_giveBytes_20 ?_
  refine wq_putJ (pc := 21) (kk := 8) dX4_giveBytes_21 (gf_X4_37 _ rfl) (by with_reducible assumption) rfl rfl rfl rfl ?_
  refine wq_aload_n (pc := 24) dX4_giveBytes_24 rfl rfl ?_
  refine wq_iconst (pc := 25) dX4_giveBytes_25 ?_
  refine wq_iload_n (pc := 26) dX4_giveBytes_26 rfl rfl ?_
  refine wq_iadd (pc := 27) dX4_giveBytes_27 ?_
  refine wq_putI (pc := 28) (kk := 1) dX4_giveBytes_28 (gf_X4_15 _ rfl) (by with_reducible assumption) rfl rfl rfl rfl ?_
  refine wq_vret (pc := 31) dX4_giveBytes_31 rfl ?_
  unfold mBytes at h; rw [e5]; exact h
theorem sp_X4_copyFrom {μ : nMem} {ε : nEnv} {Q : nOut → nMem → nEnv → Prop} {a o : Int} (hk : eKind ε a = 5) (hk2 : eKind ε o = 5) (hne : o ≠ a) (hb2 : nB μ o) (h : Q (.inl none) (mCopy μ a o) ε) : Sp mX4_copyFrom [vR a, vR o] μ ε Q := by
  refine Sp_of (L := [(0, vR a), (1, vR o)]) (by decide) rfl rfl (Nat.le_of_ble_eq_true rfl) ?_
  have w : ∀ (μ : nMem) (k v j : Int), wr μ a k v o j = μ o j := fun μ k v j => wr_n _ _ (fun q => hne q.1)
  obtain ⟨d0, d1, d2, d3, d4, d5, d6, d9, d10, d11, d12, d13⟩ := hb2
  refine wq_aload_n (pc := 0) dX4_copyFrom_0 rfl rfl ?_
  refine wq_aload_n (pc := 1) dX4_copyFrom_1 rfl rfl ?_
  refine wq_getI (pc := 2) (kk := 0) dX4_copyFrom_2 (gf_X4_9 _ rfl) (by with_reducible assumption) rfl rfl rfl ?_
  refine wq_putI (pc := 5) (kk := 0) dX4_copyFrom_5 (gf_X4_9 _ rfl) (by with_reducible assumption) rfl rfl rfl rfl ?_
  refine wq_aload_n (pc := 8) dX4_copyFrom_8 rfl rfl ?_
  refine wq_aload_n (pc := 9) dX4_copyFrom_9 rfl rfl ?_
  refine wq_getI (pc := 10) (kk := 1) dX4_copyFrom_10 (gf_X4_15 _ rfl) (by with_reducible assumption) rfl rfl rfl ?_
  refine wq_putI (pc := 13) (kk := 1) dX4_copyFrom_13 (gf_X4_15 _ rfl) (by with_reducible assumption) rfl rfl rfl rfl ?_
  refine wq_aload_n (pc := 16) dX4_copyFrom_16 rfl rfl ?_
  refine wq_iconst (pc := 17) dX4_copyFrom_17 ?_
  refine wq_putI (pc := 18) (kk := 2) dX4_copyFrom_18 (gf_X4_18 _ rfl) (by with_reducible assumption) rfl rfl rfl rfl ?_
  refine wq_aload_n (pc := 21) dX4_copyFrom_21 rfl rfl ?_
  refine wq_aload_n (pc := 22) dX4_copyFrom_22 rfl rfl ?_
  refine wq_getI (pc := 23) (kk := 3) dX4_copyFrom_23 (gf_X4_21 _ rfl) (by with_reducible assumption) rfl rfl rfl ?_
  refine wq_putI (pc := 26) (kk := 3) dX4_copyFrom_26 (gf_X4_21 _ rfl) (by with_reducible assumption) rfl rfl rfl rfl ?_
  refine wq_aload_n (pc := 29) dX4_copyFrom_29 rfl rfl ?_
  refine wq_aload_n (pc := 30) dX4_copyFrom_30 rfl rfl ?_
  refine wq_getI (pc := 31) (kk := 4) dX4_copyFrom_31 (gf_X4_24 _ rfl) (by with_reducible assumption) rfl rfl rfl ?_
  refine wq_putI (pc := 34) (kk := 4) dX4_copyFrom_34 (gf_X4_24 _ rfl) (by with_reducible assumption) rfl rfl rfl rfl ?_
  refine wq_aload_n (pc := 37) dX4_copyFrom_37 rfl rfl ?_
  refine wq_aload_n (pc := 38) dX4_copyFrom_38 rfl rfl ?_
  refine wq_getI (pc := 39) (kk := 5) dX4_copyFrom_39 (gf_X4_27 _ rfl) (by with_reducible assumption) rfl rfl rfl ?_
  refine wq_putI (pc := 42) (kk := 5) dX4_copyFrom_42 (gf_X4_27 _ rfl) (by with_reducible assumption) rfl rfl rfl rfl ?_
  refine wq_aload_n (pc := 45) dX4_copyFrom_45 rfl rfl ?_
  refine wq_aload_n (pc := 46) dX4_copyFrom_46 rfl rfl ?_
  refine wq_getI (pc := 47) (kk := 6) dX4_copyFrom_47 (gf_X4_30 _ rfl) (by with_reducible assumption) rfl rfl rfl ?_
  refine wq_putI (pc := 50) (kk := 6) dX4_copyFrom_50 (gf_X4_30 _ rfl) (by with_reducible assumption) rfl rfl rfl rfl ?_
  refine wq_aload_n (pc := 53) dX4_copyFrom_53 rfl rfl ?_
  refine wq_aload_n (pc := 54) dX4_copyFrom_54 rfl rfl ?_
  refine wq_getJ (pc := 55) (kk := 7) dX4_copyFrom_55 (gf_X4_33 _ rfl) (by with_reducible assumption) rfl rfl rfl ?_
  refine wq_putJ (pc := 58) (kk := 7) dX4_copyFrom_58 (gf_X4_33 _ rfl) (by with_reducible assumption) rfl rfl rfl rfl ?_
  refine wq_aload_n (pc := 61) dX4_copyFrom_61 rfl rfl ?_
  refine wq_aload_n (pc := 62) dX4_copyFrom_62 rfl rfl ?_
  refine wq_getJ (pc := 63) (kk := 8) dX4_copyFrom_63 (gf_X4_37 _ rfl) (by with_reducible assumption) rfl rfl rfl ?_
  refine wq_putJ (pc := 66) (kk := 8) dX4_copyFrom_66 (gf_X4_37 _ rfl) (by with_reducible assumption) rfl rfl rfl rfl ?_
  refine wq_aload_n (pc := 69) dX4_copyFrom_69 rfl rfl ?_
  refine wq_aload_n (pc := 70) dX4_copyFrom_70 rfl rfl ?_
  refine wq_getI (pc := 71) (kk := 9) dX4_copyFrom_71 (gf_X4_40 _ rfl) (by with_reducible assumption) rfl rfl rfl ?_
  refine wq_putI (pc := 74) (kk := 9) dX4_copyFrom_74 (gf_X4_40 _ rfl) (by with_reducible assumption) rfl rfl rfl rfl ?_
  refine wq_aload_n (pc := 77) dX4_copyFrom_77 rfl rfl ?_
  refine wq_aload_n (pc := 78) dX4_copyFrom_78 rfl rfl ?_
  refine wq_getI (pc := 79) (kk := 10) dX4_copyFrom_79 (gf_X4_43 _ rfl) (by with_reducible assumption) rfl rfl rfl ?_
  refine wq_putI (pc := 82) (kk := 10) dX4_copyFrom_82 (gf_X4_43 _ rfl) (by with_reducible assumption) rfl rfl rfl rfl ?_
  refine wq_aload_n (pc := 85) dX4_copyFrom_85 rfl rfl ?_
  refine wq_aload_n (pc := 86) dX4_copyFrom_86 rfl rfl ?_
  refine wq_getI (pc := 87) (kk := 11) dX4_copyFrom_87 (gf_X4_46 _ rfl) (by with_reducible assumption) rfl rfl rfl ?_
  refine wq_putZ (pc := 90) (kk := 11) dX4_copyFrom_90 (gf_X4_46 _ rfl) (by with_reducible assumption) rfl rfl rfl rfl (by first | omega | (simp only [w]; assumption)) ?_
  refine wq_aload_n (pc := 93) dX4_copyFrom_93 rfl rfl ?_
  refine wq_iconst (pc := 94) dX4_copyFrom_94 ?_
  refine wq_putZ (pc := 95) (kk := 12) dX4_copyFrom_95 (gf_X4_50 _ rfl) (by with_reducible assumption) rfl rfl rfl rfl (by first | omega | (simp only [w]; assumption)) ?_
  refine wq_aload_n (pc := 98) dX4_copyFrom_98 rfl rfl ?_
  refine wq_iconst (pc := 99) dX4_copyFrom_99 ?_
  refine wq_putZ (pc := 100) (kk := 13) dX4_copyFrom_100 (gf_X4_53 _ rfl) (by with_reducible assumption) rfl rfl rfl rfl (by first | omega | (simp only [w]; assumption)) ?_
  refine wq_vret (pc := 103) dX4_copyFrom_103 rfl ?_
  simp only [w]; exact h
