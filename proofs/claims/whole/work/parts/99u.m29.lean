abbrev FrC (μ m : nMem) : Prop := ∀ x y, ¬ (41 ≤ x ∧ x ≤ 51) → ¬ (54 ≤ x ∧ x ≤ 55) → ¬ (x = 21 ∧ y = 27) → m x y = μ x y
theorem CM_C {A : AS} {μ m : nMem} {ε : nEnv} (h : CM A μ ε) (hK : KM (aF A) m ε) (hY : FrC μ m) : CM A m ε := by
  obtain ⟨a, b, c⟩ := h
  refine ⟨hK, ⟨by rw [hY 21 20 (by omega) (by omega) (by omega)]; exact b.1, by rw [hY 21 21 (by omega) (by omega) (by omega)]; exact b.2⟩, fun q => ?_⟩
  obtain ⟨c1, c2, c3⟩ := c q
  refine ⟨GM_cg c1 (fun x j hx => hY x j (by omega) (by omega) (by omega)), by rw [hY 21 22 (by omega) (by omega) (by omega)]; exact c2, fun n n0 n1 => ?_⟩
  rw [hY 39 n (by omega) (by omega) (by omega), hY 40 n (by omega) (by omega) (by omega)]; exact c3 n n0 n1
theorem FrC_Y {μ m : nMem} (h : FrY μ m) : FrC μ m := fun x y a _ c => h x y a c
theorem FrC_t {μ m m2 : nMem} (h : FrC μ m) (k : FrC m m2) : FrC μ m2 := fun x y a b c => (k x y a b c).trans (h x y a b c)
theorem FrM_C {μ m : nMem} (h : FrC μ m) : FrM μ m := fun x y c => h x y (by omega) (by omega) (by omega)
theorem sp_X7_layCopies {μ : nMem} {ε : nEnv} {Q : nOut → nMem → nEnv → Prop} {A : AS} {nb vb b : Int} (hC : CM A μ ε) (hO : AOK A nb vb) (hd : fD (aF A) = 0) (hb : 0 ≤ b ∧ b < 8) (h : ∀ m, CM A m ε → FrC μ m → m 21 27 = 0 → (∀ t : Nat, t < (ck (aF A) (tS (aF A)) b (fC (aF A) b).toNat).2.length → m 54 t = (ck (aF A) (tS (aF A)) b (fC (aF A) b).toNat).2.getD t 0) → Q (.inl (some (vI (((ck (aF A) (tS (aF A)) b (fC (aF A) b).toNat).2.length : Nat) : Int)))) m ε) : Sp mX7_layCopies [vR 21, vI b] μ ε Q := by
  refine Sp_of (L := [(0, vR 21), (1, vI b)]) (by decide) rfl rfl (Nat.le_of_ble_eq_true rfl) ?_
  have hs := hC.1.1
  have hA := AOK_KP hO
  have hS := PA_NS hA.1
  obtain ⟨fl, S0, hP, hT'⟩ := hO.2.2 hd
  have hf := hP.2.2.2.2.2.1
  have hSS := tS_S hP hT'
  have hRb := (hC.1.2.2.1.1 b hb.1 hb.2).1
  have hcb := (hA.1 b hb.1 hb.2).1.1
  have hck := fun (n : Nat) (hn : (n : Int) ≤ fC (aF A) b) => by
    have q := ck_EQ hP hT' hb n hn
    rw [ck_cg hSS] at q
    exact q
  refine wq_iconst (pc := 0) dX7_layCopies_0 ?_
  refine wq_istore_n (pc := 1) (L' := [(2, _), (0, _), (1, _)]) dX7_layCopies_1 rfl rfl (by decide) ?_
  have loop1 : ∀ (n k : Nat), ∀ (m : nMem) (j : Int), k ≤ 16 → 16 < k + n → j = (k : Int) → (k : Int) ≤ fC (aF A) b → KM (aF A) m ε → FrC μ m → (∀ t : Nat, t < k → (m 55 t ≠ 0 ↔ jDead (aF A) (aF A) (tS (aF A)) (16 * b + t))) → wp mX7_layCopies 2 [(0, vR 21), (1, vI b), (2, vI j)] [] m ε Q := by
    intro n
    induction n with
    | zero => intro k m j hk1 hk2 e0 e1 e2 e3 e4; exact absurd hk2 (by omega)
    | succ n ih =>
      intro k m j hk1 hk2 e0 e1 e2 e3 e4
      subst e0
      have rk : inR (k : Int) := by unfold inR; omega
      have s34 : m 34 b = fC (aF A) b := (e3 34 b (by omega) (by omega) (by omega)).trans hRb
      have r34 : inR (m 34 b) := by unfold inR; omega
      refine wq_iload_n (pc := 2) dX7_layCopies_2 rfl rfl ?_
      refine wq_aload_n (pc := 3) dX7_layCopies_3 rfl rfl ?_
      refine wq_getS (pc := 4) dX7_layCopies_4 hs (gf_X7_48 _ rfl) rfl rfl rfl rfl rfl ?_
      refine wq_iload_n (pc := 7) dX7_layCopies_7 rfl rfl ?_
      refine wq_ialdK (pc := 8) dX7_layCopies_8 hs rfl (by omega) (by omega) ?_
      refine wq_icmp_ge (pc := 9) (tgt := 34) dX7_layCopies_9 (by decide) (by first | (unfold inR; omega) | assumption) (by first | (unfold inR; omega) | assumption) (fun c2 => ?_) (fun c2 => ?_)
      · skip
        have hk9 : (k : Int) = fC (aF A) b := by omega
        have hs := e2.1
        have Y1 := e3
        have hD1 : ∀ t : Nat, (t : Int) < fC (aF A) b → (m 55 t ≠ 0 ↔ jDead (aF A) (aF A) (tS (aF A)) (16 * b + t)) := fun t ht => e4 t (by omega)
        have K1 := e2
        refine wq_aload_n (pc := 34) dX7_layCopies_34 rfl rfl ?_
        refine cVK_0 (pc := 35) dX7_layCopies_35 hs (cw_X7_162 _ rfl) (by decide) rfl ⟨by decide, by decide⟩ (Nat.le_of_ble_eq_true rfl) (sp_X7_layPresent hs K1.2.1 K1.2.2.1 hA.1 (fun mp hbp fp Pp => ?_))
        refine kr_v ?_
        have Yp : FrC μ mp := fun x y a b c => by rw [fp x y (by omega)]; exact Y1 x y a b c
        have hDp : ∀ t : Nat, (t : Int) < fC (aF A) b → (mp 55 t ≠ 0 ↔ jDead (aF A) (aF A) (tS (aF A)) (16 * b + t)) := fun t ht => by rw [fp 55 t (by omega)]; exact hD1 t ht
        refine wq_iconst (pc := 38) dX7_layCopies_38 ?_
        refine wq_istore_n (pc := 39) (L' := [(2, _), (0, _), (1, _)]) dX7_layCopies_39 rfl rfl (by decide) ?_
        refine wq_iconst (pc := 40) dX7_layCopies_40 ?_
        refine wq_istore_n (pc := 41) (L' := [(3, _), (2, _), (0, _), (1, _)]) dX7_layCopies_41 rfl rfl (by decide) ?_
        have loop4 : ∀ (n k : Nat), ∀ (m : nMem) (q j : Int), k ≤ 16 → 16 < k + n → j = (k : Int) → (k : Int) ≤ fC (aF A) b → mB m → FrC μ m → PrM (fHid (aF A) (ck (aF A) (tS (aF A)) b k).1) m → q = ((ck (aF A) (tS (aF A)) b k).2.length : Nat) → (∀ t : Nat, t < (ck (aF A) (tS (aF A)) b k).2.length → m 54 t = (ck (aF A) (tS (aF A)) b k).2.getD t 0) → (∀ t : Nat, (t : Int) < fC (aF A) b → (m 55 t ≠ 0 ↔ jDead (aF A) (aF A) (tS (aF A)) (16 * b + t))) → wp mX7_layCopies 42 [(0, vR 21), (1, vI b), (2, vI q), (3, vI j)] [] m ε Q := by
          intro n
          induction n with
          | zero => intro k m q j hk1 hk2 e0 e1 e2 e3 e4 e5 e6 e7; exact absurd hk2 (by omega)
          | succ n ih =>
            intro k m q j hk1 hk2 e0 e1 e2 e3 e4 e5 e6 e7
            subst e0
            have rk : inR (k : Int) := by unfold inR; omega
            have s34 : m 34 b = fC (aF A) b := (e3 34 b (by omega) (by omega) (by omega)).trans hRb
            have r34 : inR (m 34 b) := by unfold inR; omega
            have hbi : 16 * b + (k : Int) = b * 16 + (k : Int) := by omega
            have g41 := b41 e2 (16 * b + (k : Int))
            have g55 := b55 e2 (k : Int)
            have r41 : inR (m 41 (16 * b + (k : Int))) := by unfold inR; omega
            have r55 : inR (m 55 (k : Int)) := by unfold inR; omega
            have hcl := ck_len (aF A) (tS (aF A)) b k
            have cks := ck_s (aF A) (tS (aF A)) b k
            obtain ⟨kE, kD, kC, -⟩ := hck k e1
            have hZi : (ck (aF A) (tS (aF A)) b k).1 (b * 16 + (k : Int)) = 0 := ck_z (aF A) (tS (aF A)) b k _ (by omega)
            have hpr : (k : Int) < fC (aF A) b → (m 41 (16 * b + (k : Int)) ≠ 0 ↔ rW (aF A) (b * 16 + (k : Int))) := fun z => by
              rw [(e4 (16 * b + (k : Int)) (by omega) (by omega)).1, hid_rW, hbi]
              exact ⟨fun w => w.1, fun w => ⟨w, hZi⟩⟩
            have hno : (k : Int) < fC (aF A) b → (¬ jNo (aF A) (b * 16 + (k : Int)) ↔ rW (aF A) (b * 16 + (k : Int))) := fun z => jNo_rW hA.1 (by omega) (by omega) (by rw [show (b * 16 + (k : Int)) / 16 = b by omega]; omega)
            have hSn := hid_NS (Z := (ck (aF A) (tS (aF A)) b k).1) hS
            have hUn := NU_hid hA.2 (ck (aF A) (tS (aF A)) b k).1
            have hSn2 := hid_NS (Z := zSet (ck (aF A) (tS (aF A)) b k).1 (16 * b + (k : Int)) 1) hS
            have hUn2 := NU_hid hA.2 (zSet (ck (aF A) (tS (aF A)) b k).1 (16 * b + (k : Int)) 1)
            refine wq_iload_n (pc := 42) dX7_layCopies_42 rfl rfl ?_
            refine wq_aload_n (pc := 43) dX7_layCopies_43 rfl rfl ?_
            refine wq_getS (pc := 44) dX7_layCopies_44 hs (gf_X7_48 _ rfl) rfl rfl rfl rfl rfl ?_
            refine wq_iload_n (pc := 47) dX7_layCopies_47 rfl rfl ?_
            refine wq_ialdK (pc := 48) dX7_layCopies_48 hs rfl (by omega) (by omega) ?_
            refine wq_icmp_ge (pc := 49) (tgt := 139) dX7_layCopies_49 (by decide) (by first | (unfold inR; omega) | assumption) (by first | (unfold inR; omega) | assumption) (fun c5 => ?_) (fun c5 => ?_)
            · skip
              refine wq_aload_n (pc := 139) dX7_layCopies_139 rfl rfl ?_
              refine wq_iconst (pc := 140) dX7_layCopies_140 ?_
              refine wq_putZK (pc := 141) (kk := 27) dX7_layCopies_141 hs (gf_X7_158 _ rfl) rfl rfl rfl rfl rfl (by first | omega | (simp; done) | assumption) ?_
              refine wq_iload_n (pc := 144) dX7_layCopies_144 rfl rfl ?_
              refine wq_iret (pc := 145) dX7_layCopies_145 rfl ?_
              have hk9 : (k : Nat) = (fC (aF A) b).toNat := by omega
              rw [← hk9] at h
              rw [e5]
              refine h _ (CM_C hC ⟨hs, mB_wr e2 (Or.inr (Or.inl rfl)), RM_cg hC.1.2.2.1 (fun x j x0 x1 => by rw [wr_n _ _ (by omega)]; exact e3 x j (by omega) (by omega) (by omega)), Or.inl (wr_s _ _ _ _)⟩ (fun x y c1 c2 c3 => by rw [wr_n _ _ (by omega)]; exact e3 x y c1 c2 c3)) (fun x y c1 c2 c3 => by rw [wr_n _ _ (by omega)]; exact e3 x y c1 c2 c3) (wr_s _ _ _ _) (fun t ht => by rw [wr_n _ _ (by omega)]; exact e6 t ht)
            · skip
              refine wq_bipush (pc := 52) dX7_layCopies_52 (by decide) (by decide) ?_
              refine wq_iload_n (pc := 54) dX7_layCopies_54 rfl rfl ?_
              refine wq_imul (pc := 55) dX7_layCopies_55 ?_
              refine wq_iload_n (pc := 56) dX7_layCopies_56 rfl rfl ?_
              refine wq_iadd (pc := 57) dX7_layCopies_57 ?_
              refine wq_istore (pc := 58) (L' := [(4, _), (0, _), (1, _), (2, _), (3, _)]) dX7_layCopies_58 rfl (by decide) ?_
              refine wq_aload_n (pc := 60) dX7_layCopies_60 rfl rfl ?_
              refine wq_getS (pc := 61) dX7_layCopies_61 hs (gf_X7_69 _ rfl) rfl rfl rfl rfl rfl ?_
              refine wq_iload (pc := 64) dX7_layCopies_64 rfl ?_
              refine wq_zaldK (pc := 66) dX7_layCopies_66 hs rfl (by omega) (by omega) ?_
              refine wq_if_eq (pc := 67) (tgt := 133) dX7_layCopies_67 (by decide) (by first | (unfold inR; omega) | assumption) (fun c6 => ?_) (fun c6 => ?_)
              · skip
                refine wq_iinc (pc := 133) (L' := [(3, _), (4, _), (0, _), (1, _), (2, _)]) dX7_layCopies_133 rfl rfl (by decide) ?_
                refine wq_goto (pc := 136) (tgt := 42) dX7_layCopies_136 (by decide) ?_
                refine wq_sub1 (L' := [(0, _), (1, _), (2, _), (3, _)]) ⟨rfl, rfl, rfl, rfl, trivial⟩ ?_
                have hw9 : m 41 (16 * b + (k : Int)) ≠ 0 → rW (aF A) (b * 16 + (k : Int)) := (hpr (by omega)).mp
                have hd9 := e7 k (by omega)
                rw [hbi] at hd9
                first
                  | (have hn : jNo (aF A) (b * 16 + (k : Int)) := Classical.byContradiction (fun z => absurd ((hpr (by omega)).mpr ((hno (by omega)).mp z)) (by omega))
                     rw [ckS_0 hn] at cks
                     exact ih (k + 1) _ _ _ (by omega) (by omega) (by omega) (by omega) e2 e3 (by rw [cks]; exact e4) (by rw [cks]; exact e5) (by rw [cks]; exact e6) e7)
                  | (have hn := (hno (by omega)).mpr (hw9 (by omega))
                     have hdd := hd9.mp (by omega)
                     have hnm := (over_iff hP hT' (by omega) (by omega) hZi (hw9 (by omega)) ((jDead_cg hSS _).mpr hdd) kE kD).mp (by rw [← hbi]; exact hsm9)
                     have hnm2 := fun z => hnm ((jMiss_cg hSS _ _).mpr z)
                     rw [ckS_1 hn ⟨hdd, hnm2⟩] at cks
                     exact ih (k + 1) _ _ _ (by omega) (by omega) (by omega) (by omega) hb3 Y5 (by rw [cks, ← hbi]; exact P5) (by rw [cks]; exact e5) (by rw [cks]; intro t ht; rw [T5 54 t (by omega) (by omega)]; exact e6 t ht) (fun t ht => by rw [T5 55 t (by omega) (by omega)]; exact e7 t ht))
                  | (have hn := (hno (by omega)).mpr (hw9 (by omega))
                     have hnn : ¬ (jDead (aF A) (aF A) (tS (aF A)) (b * 16 + (k : Int)) ∧ ¬ jMiss (aF A) (tS (aF A)) (ck (aF A) (tS (aF A)) b k).1 (b * 16 + (k : Int))) := fun z => hsm9 (by rw [hbi]; exact (over_iff hP hT' (by omega) (by omega) hZi (hw9 (by omega)) ((jDead_cg hSS _).mpr z.1) kE kD).mpr (fun y => z.2 ((jMiss_cg hSS _ _).mp y)))
                     rw [ckS_2 hn hnn] at cks
                     rw [e5] at *
                     refine ih (k + 1) _ _ _ (by omega) (by omega) (by omega) (by omega) (mB_wr (mB_wr hb3 (Or.inr (Or.inr (by decide)))) (Or.inr (Or.inr (by show 0 ≤ 16 * b + (k : Int) ∧ 16 * b + (k : Int) ≤ 127; omega)))) (fun x y c1 c2 c3 => by rw [wr_n _ _ (by omega), wr_n _ _ (by omega)]; exact Y5 x y c1 c2 c3) ?_ ?_ (fun t ht => ?_) (fun t ht => by rw [wr_n _ _ (by omega), wr_n _ _ (by omega), T5 55 t (by omega) (by omega)]; exact e7 t ht)
                     all_goals rw [cks]
                     all_goals first
                       | exact PrM_cg2 (PrM_s e4 R5 (by omega)) (fun x j x0 x1 => wr_n _ _ (by omega))
                       | (rw [List.length_append]; rfl)
                       | (rw [cks, List.length_append] at ht
                          have ht : t < (ck (aF A) (tS (aF A)) b k).2.length + 1 := ht
                          rw [getD_app]
                          by_cases ct : t < (ck (aF A) (tS (aF A)) b k).2.length
                          · rw [if_pos ct, wr_n _ _ (by omega), wr_n _ _ (by omega), T5 54 t (by omega) (by omega)]; exact e6 t ct
                          · rw [if_neg ct, if_pos (by omega), show (t : Int) = (((ck (aF A) (tS (aF A)) b k).2.length : Nat) : Int) by omega, wr_s, hbi]))
                  | (have hn := (hno (by omega)).mpr (hw9 (by omega))
                     have hnn : ¬ (jDead (aF A) (aF A) (tS (aF A)) (b * 16 + (k : Int)) ∧ ¬ jMiss (aF A) (tS (aF A)) (ck (aF A) (tS (aF A)) b k).1 (b * 16 + (k : Int))) := fun z => absurd (hd9.mpr z.1) (by omega)
                     rw [ckS_2 hn hnn] at cks
                     rw [e5] at *
                     refine ih (k + 1) _ _ _ (by omega) (by omega) (by omega) (by omega) (mB_wr (mB_wr e2 (Or.inr (Or.inr (by decide)))) (Or.inr (Or.inr (by show 0 ≤ 16 * b + (k : Int) ∧ 16 * b + (k : Int) ≤ 127; omega)))) (fun x y c1 c2 c3 => by rw [wr_n _ _ (by omega), wr_n _ _ (by omega)]; exact e3 x y c1 c2 c3) ?_ ?_ (fun t ht => ?_) (fun t ht => by rw [wr_n _ _ (by omega), wr_n _ _ (by omega)]; exact e7 t ht)
                     all_goals rw [cks]
                     all_goals first
                       | exact PrM_cg2 (PrM_s e4 (fun _ _ _ _ _ => rfl) (by omega)) (fun x j x0 x1 => wr_n _ _ (by omega))
                       | (rw [List.length_append]; rfl)
                       | (rw [cks, List.length_append] at ht
                          have ht : t < (ck (aF A) (tS (aF A)) b k).2.length + 1 := ht
                          rw [getD_app]
                          by_cases ct : t < (ck (aF A) (tS (aF A)) b k).2.length
                          · rw [if_pos ct, wr_n _ _ (by omega), wr_n _ _ (by omega)]; exact e6 t ct
                          · rw [if_neg ct, if_pos (by omega), show (t : Int) = (((ck (aF A) (tS (aF A)) b k).2.length : Nat) : Int) by omega, wr_s, hbi]))
              · skip
                refine wq_aload_n (pc := 70) dX7_layCopies_70 rfl rfl ?_
                refine wq_getS (pc := 71) dX7_layCopies_71 hs (gf_X7_111 _ rfl) rfl rfl rfl rfl rfl ?_
                refine wq_iload_n (pc := 74) dX7_layCopies_74 rfl rfl ?_
                refine wq_zaldK (pc := 75) dX7_layCopies_75 hs rfl (by omega) (by omega) ?_
                refine wq_istore (pc := 76) (L' := [(5, _), (4, _), (0, _), (1, _), (2, _), (3, _)]) dX7_layCopies_76 rfl (by decide) ?_
                refine wq_iload (pc := 78) dX7_layCopies_78 rfl ?_
                refine wq_if_eq (pc := 80) (tgt := 109) dX7_layCopies_80 (by decide) (by first | (unfold inR; omega) | assumption) (fun c7 => ?_) (fun c7 => ?_)
                · skip
                  refine wq_iload (pc := 109) dX7_layCopies_109 rfl ?_
                  refine wq_if_ne (pc := 111) (tgt := 133) dX7_layCopies_111 (by decide) (by first | (unfold inR; omega) | assumption) (fun c8 => ?_) (fun c8 => ?_)
                  · skip
                    refine wq_iinc (pc := 133) (L' := [(3, _), (5, _), (4, _), (0, _), (1, _), (2, _)]) dX7_layCopies_133 rfl rfl (by decide) ?_
                    refine wq_goto (pc := 136) (tgt := 42) dX7_layCopies_136 (by decide) ?_
                    refine wq_sub1 (L' := [(0, _), (1, _), (2, _), (3, _)]) ⟨rfl, rfl, rfl, rfl, trivial⟩ ?_
                    have hw9 : m 41 (16 * b + (k : Int)) ≠ 0 → rW (aF A) (b * 16 + (k : Int)) := (hpr (by omega)).mp
                    have hd9 := e7 k (by omega)
                    rw [hbi] at hd9
                    first
                      | (have hn : jNo (aF A) (b * 16 + (k : Int)) := Classical.byContradiction (fun z => absurd ((hpr (by omega)).mpr ((hno (by omega)).mp z)) (by omega))
                         rw [ckS_0 hn] at cks
                         exact ih (k + 1) _ _ _ (by omega) (by omega) (by omega) (by omega) e2 e3 (by rw [cks]; exact e4) (by rw [cks]; exact e5) (by rw [cks]; exact e6) e7)
                      | (have hn := (hno (by omega)).mpr (hw9 (by omega))
                         have hdd := hd9.mp (by omega)
                         have hnm := (over_iff hP hT' (by omega) (by omega) hZi (hw9 (by omega)) ((jDead_cg hSS _).mpr hdd) kE kD).mp (by rw [← hbi]; exact hsm9)
                         have hnm2 := fun z => hnm ((jMiss_cg hSS _ _).mpr z)
                         rw [ckS_1 hn ⟨hdd, hnm2⟩] at cks
                         exact ih (k + 1) _ _ _ (by omega) (by omega) (by omega) (by omega) hb3 Y5 (by rw [cks, ← hbi]; exact P5) (by rw [cks]; exact e5) (by rw [cks]; intro t ht; rw [T5 54 t (by omega) (by omega)]; exact e6 t ht) (fun t ht => by rw [T5 55 t (by omega) (by omega)]; exact e7 t ht))
                      | (have hn := (hno (by omega)).mpr (hw9 (by omega))
                         have hnn : ¬ (jDead (aF A) (aF A) (tS (aF A)) (b * 16 + (k : Int)) ∧ ¬ jMiss (aF A) (tS (aF A)) (ck (aF A) (tS (aF A)) b k).1 (b * 16 + (k : Int))) := fun z => hsm9 (by rw [hbi]; exact (over_iff hP hT' (by omega) (by omega) hZi (hw9 (by omega)) ((jDead_cg hSS _).mpr z.1) kE kD).mpr (fun y => z.2 ((jMiss_cg hSS _ _).mp y)))
                         rw [ckS_2 hn hnn] at cks
                         rw [e5] at *
                         refine ih (k + 1) _ _ _ (by omega) (by omega) (by omega) (by omega) (mB_wr (mB_wr hb3 (Or.inr (Or.inr (by decide)))) (Or.inr (Or.inr (by show 0 ≤ 16 * b + (k : Int) ∧ 16 * b + (k : Int) ≤ 127; omega)))) (fun x y c1 c2 c3 => by rw [wr_n _ _ (by omega), wr_n _ _ (by omega)]; exact Y5 x y c1 c2 c3) ?_ ?_ (fun t ht => ?_) (fun t ht => by rw [wr_n _ _ (by omega), wr_n _ _ (by omega), T5 55 t (by omega) (by omega)]; exact e7 t ht)
                         all_goals rw [cks]
                         all_goals first
                           | exact PrM_cg2 (PrM_s e4 R5 (by omega)) (fun x j x0 x1 => wr_n _ _ (by omega))
                           | (rw [List.length_append]; rfl)
                           | (rw [cks, List.length_append] at ht
                              have ht : t < (ck (aF A) (tS (aF A)) b k).2.length + 1 := ht
                              rw [getD_app]
                              by_cases ct : t < (ck (aF A) (tS (aF A)) b k).2.length
                              · rw [if_pos ct, wr_n _ _ (by omega), wr_n _ _ (by omega), T5 54 t (by omega) (by omega)]; exact e6 t ct
                              · rw [if_neg ct, if_pos (by omega), show (t : Int) = (((ck (aF A) (tS (aF A)) b k).2.length : Nat) : Int) by omega, wr_s, hbi]))
                      | (have hn := (hno (by omega)).mpr (hw9 (by omega))
                         have hnn : ¬ (jDead (aF A) (aF A) (tS (aF A)) (b * 16 + (k : Int)) ∧ ¬ jMiss (aF A) (tS (aF A)) (ck (aF A) (tS (aF A)) b k).1 (b * 16 + (k : Int))) := fun z => absurd (hd9.mpr z.1) (by omega)
                         rw [ckS_2 hn hnn] at cks
                         rw [e5] at *
                         refine ih (k + 1) _ _ _ (by omega) (by omega) (by omega) (by omega) (mB_wr (mB_wr e2 (Or.inr (Or.inr (by decide)))) (Or.inr (Or.inr (by show 0 ≤ 16 * b + (k : Int) ∧ 16 * b + (k : Int) ≤ 127; omega)))) (fun x y c1 c2 c3 => by rw [wr_n _ _ (by omega), wr_n _ _ (by omega)]; exact e3 x y c1 c2 c3) ?_ ?_ (fun t ht => ?_) (fun t ht => by rw [wr_n _ _ (by omega), wr_n _ _ (by omega)]; exact e7 t ht)
                         all_goals rw [cks]
                         all_goals first
                           | exact PrM_cg2 (PrM_s e4 (fun _ _ _ _ _ => rfl) (by omega)) (fun x j x0 x1 => wr_n _ _ (by omega))
                           | (rw [List.length_append]; rfl)
                           | (rw [cks, List.length_append] at ht
                              have ht : t < (ck (aF A) (tS (aF A)) b k).2.length + 1 := ht
                              rw [getD_app]
                              by_cases ct : t < (ck (aF A) (tS (aF A)) b k).2.length
                              · rw [if_pos ct, wr_n _ _ (by omega), wr_n _ _ (by omega)]; exact e6 t ct
                              · rw [if_neg ct, if_pos (by omega), show (t : Int) = (((ck (aF A) (tS (aF A)) b k).2.length : Nat) : Int) by omega, wr_s, hbi]))
                  · skip
                    refine wq_aload_n (pc := 114) dX7_layCopies_114 rfl rfl ?_
                    refine wq_getS (pc := 115) dX7_layCopies_115 hs (gf_X7_69 _ rfl) rfl rfl rfl rfl rfl ?_
                    refine wq_iload (pc := 118) dX7_layCopies_118 rfl ?_
                    refine wq_iconst (pc := 120) dX7_layCopies_120 ?_
                    refine wq_zastK (pc := 121) dX7_layCopies_121 hs rfl (by omega) (by omega) (by first | omega | (simp; done) | assumption) ?_
                    refine wq_aload_n (pc := 122) dX7_layCopies_122 rfl rfl ?_
                    refine wq_getS (pc := 123) dX7_layCopies_123 hs (gf_X7_108 _ rfl) rfl rfl rfl rfl rfl ?_
                    refine wq_iload_n (pc := 126) dX7_layCopies_126 rfl rfl ?_
                    refine wq_iload (pc := 127) dX7_layCopies_127 rfl ?_
                    refine wq_iastK (pc := 129) dX7_layCopies_129 hs rfl (by omega) (by omega) ?_
                    refine wq_iinc (pc := 130) (L' := [(2, _), (5, _), (4, _), (0, _), (1, _), (3, _)]) dX7_layCopies_130 rfl rfl (by decide) ?_
                    refine wq_iinc (pc := 133) (L' := [(3, _), (2, _), (5, _), (4, _), (0, _), (1, _)]) dX7_layCopies_133 rfl rfl (by decide) ?_
                    refine wq_goto (pc := 136) (tgt := 42) dX7_layCopies_136 (by decide) ?_
                    refine wq_sub1 (L' := [(0, _), (1, _), (2, _), (3, _)]) ⟨rfl, rfl, rfl, rfl, trivial⟩ ?_
                    have hw9 : m 41 (16 * b + (k : Int)) ≠ 0 → rW (aF A) (b * 16 + (k : Int)) := (hpr (by omega)).mp
                    have hd9 := e7 k (by omega)
                    rw [hbi] at hd9
                    first
                      | (have hn : jNo (aF A) (b * 16 + (k : Int)) := Classical.byContradiction (fun z => absurd ((hpr (by omega)).mpr ((hno (by omega)).mp z)) (by omega))
                         rw [ckS_0 hn] at cks
                         exact ih (k + 1) _ _ _ (by omega) (by omega) (by omega) (by omega) e2 e3 (by rw [cks]; exact e4) (by rw [cks]; exact e5) (by rw [cks]; exact e6) e7)
                      | (have hn := (hno (by omega)).mpr (hw9 (by omega))
                         have hdd := hd9.mp (by omega)
                         have hnm := (over_iff hP hT' (by omega) (by omega) hZi (hw9 (by omega)) ((jDead_cg hSS _).mpr hdd) kE kD).mp (by rw [← hbi]; exact hsm9)
                         have hnm2 := fun z => hnm ((jMiss_cg hSS _ _).mpr z)
                         rw [ckS_1 hn ⟨hdd, hnm2⟩] at cks
                         exact ih (k + 1) _ _ _ (by omega) (by omega) (by omega) (by omega) hb3 Y5 (by rw [cks, ← hbi]; exact P5) (by rw [cks]; exact e5) (by rw [cks]; intro t ht; rw [T5 54 t (by omega) (by omega)]; exact e6 t ht) (fun t ht => by rw [T5 55 t (by omega) (by omega)]; exact e7 t ht))
                      | (have hn := (hno (by omega)).mpr (hw9 (by omega))
                         have hnn : ¬ (jDead (aF A) (aF A) (tS (aF A)) (b * 16 + (k : Int)) ∧ ¬ jMiss (aF A) (tS (aF A)) (ck (aF A) (tS (aF A)) b k).1 (b * 16 + (k : Int))) := fun z => hsm9 (by rw [hbi]; exact (over_iff hP hT' (by omega) (by omega) hZi (hw9 (by omega)) ((jDead_cg hSS _).mpr z.1) kE kD).mpr (fun y => z.2 ((jMiss_cg hSS _ _).mp y)))
                         rw [ckS_2 hn hnn] at cks
                         rw [e5] at *
                         refine ih (k + 1) _ _ _ (by omega) (by omega) (by omega) (by omega) (mB_wr (mB_wr hb3 (Or.inr (Or.inr (by decide)))) (Or.inr (Or.inr (by show 0 ≤ 16 * b + (k : Int) ∧ 16 * b + (k : Int) ≤ 127; omega)))) (fun x y c1 c2 c3 => by rw [wr_n _ _ (by omega), wr_n _ _ (by omega)]; exact Y5 x y c1 c2 c3) ?_ ?_ (fun t ht => ?_) (fun t ht => by rw [wr_n _ _ (by omega), wr_n _ _ (by omega), T5 55 t (by omega) (by omega)]; exact e7 t ht)
                         all_goals rw [cks]
                         all_goals first
                           | exact PrM_cg2 (PrM_s e4 R5 (by omega)) (fun x j x0 x1 => wr_n _ _ (by omega))
                           | (rw [List.length_append]; rfl)
                           | (rw [cks, List.length_append] at ht
                              have ht : t < (ck (aF A) (tS (aF A)) b k).2.length + 1 := ht
                              rw [getD_app]
                              by_cases ct : t < (ck (aF A) (tS (aF A)) b k).2.length
                              · rw [if_pos ct, wr_n _ _ (by omega), wr_n _ _ (by omega), T5 54 t (by omega) (by omega)]; exact e6 t ct
                              · rw [if_neg ct, if_pos (by omega), show (t : Int) = (((ck (aF A) (tS (aF A)) b k).2.length : Nat) : Int) by omega, wr_s, hbi]))
                      | (have hn := (hno (by omega)).mpr (hw9 (by omega))
                         have hnn : ¬ (jDead (aF A) (aF A) (tS (aF A)) (b * 16 + (k : Int)) ∧ ¬ jMiss (aF A) (tS (aF A)) (ck (aF A) (tS (aF A)) b k).1 (b * 16 + (k : Int))) := fun z => absurd (hd9.mpr z.1) (by omega)
                         rw [ckS_2 hn hnn] at cks
                         rw [e5] at *
                         refine ih (k + 1) _ _ _ (by omega) (by omega) (by omega) (by omega) (mB_wr (mB_wr e2 (Or.inr (Or.inr (by decide)))) (Or.inr (Or.inr (by show 0 ≤ 16 * b + (k : Int) ∧ 16 * b + (k : Int) ≤ 127; omega)))) (fun x y c1 c2 c3 => by rw [wr_n _ _ (by omega), wr_n _ _ (by omega)]; exact e3 x y c1 c2 c3) ?_ ?_ (fun t ht => ?_) (fun t ht => by rw [wr_n _ _ (by omega), wr_n _ _ (by omega)]; exact e7 t ht)
                         all_goals rw [cks]
                         all_goals first
                           | exact PrM_cg2 (PrM_s e4 (fun _ _ _ _ _ => rfl) (by omega)) (fun x j x0 x1 => wr_n _ _ (by omega))
                           | (rw [List.length_append]; rfl)
                           | (rw [cks, List.length_append] at ht
                              have ht : t < (ck (aF A) (tS (aF A)) b k).2.length + 1 := ht
                              rw [getD_app]
                              by_cases ct : t < (ck (aF A) (tS (aF A)) b k).2.length
                              · rw [if_pos ct, wr_n _ _ (by omega), wr_n _ _ (by omega)]; exact e6 t ct
                              · rw [if_neg ct, if_pos (by omega), show (t : Int) = (((ck (aF A) (tS (aF A)) b k).2.length : Nat) : Int) by omega, wr_s, hbi]))
                · skip
                  refine wq_aload_n (pc := 83) dX7_layCopies_83 rfl rfl ?_
                  refine wq_iconst (pc := 84) dX7_layCopies_84 ?_
                  refine cVK_1 (pc := 85) dX7_layCopies_85 hs (cw_X7_165 _ rfl) (by decide) rfl ⟨by decide, by decide⟩ (Nat.le_of_ble_eq_true rfl) (sp_X7_lay hs e2 (Or.inl rfl) e4 hSn hUn (fun m2 hb2 f2 L2 => ?_))
                  refine kr_v ?_
                  have P2 : PrM (fHid (aF A) (ck (aF A) (tS (aF A)) b k).1) m2 := PrM_cg2 e4 (fun x j x0 x1 => f2 x j (by unfold inLay; omega))
                  have P2h := PrM_h (i := 16 * b + (k : Int)) P2
                  have hb2h := mB_wr (x := 41) (j := 16 * b + (k : Int)) (v := 0) hb2 (Or.inr (Or.inr (by decide)))
                  refine wq_aload_n (pc := 88) dX7_layCopies_88 rfl rfl ?_
                  refine wq_getS (pc := 89) dX7_layCopies_89 hs (gf_X7_69 _ rfl) rfl rfl rfl rfl rfl ?_
                  refine wq_iload (pc := 92) dX7_layCopies_92 rfl ?_
                  refine wq_iconst (pc := 94) dX7_layCopies_94 ?_
                  refine wq_zastK (pc := 95) dX7_layCopies_95 hs rfl (by omega) (by omega) (by first | omega | (simp; done) | assumption) ?_
                  refine wq_aload_n (pc := 96) dX7_layCopies_96 rfl rfl ?_
                  refine wq_sipush (pc := 97) dX7_layCopies_97 (by decide) (by decide) ?_
                  refine cVK_1 (pc := 100) dX7_layCopies_100 hs (cw_X7_165 _ rfl) (by decide) rfl ⟨by decide, by decide⟩ (Nat.le_of_ble_eq_true rfl) (sp_X7_lay hs hb2h (Or.inr rfl) P2h hSn2 hUn2 (fun m3 hb3 f3 L3 => ?_))
                  refine kr_v ?_
                  have L2c : LE (fHid (aF A) (ck (aF A) (tS (aF A)) b k).1) 0 m3 := LE_cg (Or.inl rfl) L2 (fun x y x0 x1 hl => by rw [f3 x y (by unfold inLay at hl ⊢; omega), wr_n _ _ (by omega)])
                  have hsme := mSm_EQ hSn hSn2 L2c L3
                  have P5 : PrM (fHid (aF A) (zSet (ck (aF A) (tS (aF A)) b k).1 (16 * b + (k : Int)) 1)) m3 := PrM_cg2 P2h (fun x j x0 x1 => f3 x j (by unfold inLay; omega))
                  have R5 : ∀ x j, 22 ≤ x → x ≤ 41 → ¬ (x = 41 ∧ j = 16 * b + (k : Int)) → m3 x j = m x j := fun x j x0 x1 hx => by rw [f3 x j (by unfold inLay; omega), wr_n _ _ hx, f2 x j (by unfold inLay; omega)]
                  have T5 : ∀ x j, 52 ≤ x → x ≤ 56 → m3 x j = m x j := fun x j x0 x1 => by rw [f3 x j (by unfold inLay; omega), wr_n _ _ (by omega), f2 x j (by unfold inLay; omega)]
                  have Y5 : FrC μ m3 := fun x y c1 c2 c3 => by rw [f3 x y (by unfold inLay; omega), wr_n _ _ (by omega), f2 x y (by unfold inLay; omega)]; exact e3 x y c1 c2 c3
                  refine wq_aload_n (pc := 103) dX7_layCopies_103 rfl rfl ?_
                  refine cVK_0 (pc := 104) dX7_layCopies_104 hs (cw_X7_261 _ rfl) (by decide) rfl ⟨by decide, by decide⟩ (Nat.le_of_ble_eq_true rfl) (sp_X7_areSame hs hb3 (fun hsm => ?_) (fun hsm => ?_))
                  · skip
                    refine kr_s ?_
                    have hsm9 := hsme.mp hsm
                    refine wq_istore (pc := 107) (L' := [(5, _), (4, _), (0, _), (1, _), (2, _), (3, _)]) dX7_layCopies_107 rfl (by decide) ?_
                    refine wq_iload (pc := 109) dX7_layCopies_109 rfl ?_
                    refine wq_if_ne (pc := 111) (tgt := 133) dX7_layCopies_111 (by decide) (by first | (unfold inR; omega) | assumption) (fun _ => ?_) (fun c => absurd c (by decide))
                    refine wq_iinc (pc := 133) (L' := [(3, _), (5, _), (4, _), (0, _), (1, _), (2, _)]) dX7_layCopies_133 rfl rfl (by decide) ?_
                    refine wq_goto (pc := 136) (tgt := 42) dX7_layCopies_136 (by decide) ?_
                    refine wq_sub1 (L' := [(0, _), (1, _), (2, _), (3, _)]) ⟨rfl, rfl, rfl, rfl, trivial⟩ ?_
                    have hw9 : m 41 (16 * b + (k : Int)) ≠ 0 → rW (aF A) (b * 16 + (k : Int)) := (hpr (by omega)).mp
                    have hd9 := e7 k (by omega)
                    rw [hbi] at hd9
                    first
                      | (have hn : jNo (aF A) (b * 16 + (k : Int)) := Classical.byContradiction (fun z => absurd ((hpr (by omega)).mpr ((hno (by omega)).mp z)) (by omega))
                         rw [ckS_0 hn] at cks
                         exact ih (k + 1) _ _ _ (by omega) (by omega) (by omega) (by omega) e2 e3 (by rw [cks]; exact e4) (by rw [cks]; exact e5) (by rw [cks]; exact e6) e7)
                      | (have hn := (hno (by omega)).mpr (hw9 (by omega))
                         have hdd := hd9.mp (by omega)
                         have hnm := (over_iff hP hT' (by omega) (by omega) hZi (hw9 (by omega)) ((jDead_cg hSS _).mpr hdd) kE kD).mp (by rw [← hbi]; exact hsm9)
                         have hnm2 := fun z => hnm ((jMiss_cg hSS _ _).mpr z)
                         rw [ckS_1 hn ⟨hdd, hnm2⟩] at cks
                         exact ih (k + 1) _ _ _ (by omega) (by omega) (by omega) (by omega) hb3 Y5 (by rw [cks, ← hbi]; exact P5) (by rw [cks]; exact e5) (by rw [cks]; intro t ht; rw [T5 54 t (by omega) (by omega)]; exact e6 t ht) (fun t ht => by rw [T5 55 t (by omega) (by omega)]; exact e7 t ht))
                      | (have hn := (hno (by omega)).mpr (hw9 (by omega))
                         have hnn : ¬ (jDead (aF A) (aF A) (tS (aF A)) (b * 16 + (k : Int)) ∧ ¬ jMiss (aF A) (tS (aF A)) (ck (aF A) (tS (aF A)) b k).1 (b * 16 + (k : Int))) := fun z => hsm9 (by rw [hbi]; exact (over_iff hP hT' (by omega) (by omega) hZi (hw9 (by omega)) ((jDead_cg hSS _).mpr z.1) kE kD).mpr (fun y => z.2 ((jMiss_cg hSS _ _).mp y)))
                         rw [ckS_2 hn hnn] at cks
                         rw [e5] at *
                         refine ih (k + 1) _ _ _ (by omega) (by omega) (by omega) (by omega) (mB_wr (mB_wr hb3 (Or.inr (Or.inr (by decide)))) (Or.inr (Or.inr (by show 0 ≤ 16 * b + (k : Int) ∧ 16 * b + (k : Int) ≤ 127; omega)))) (fun x y c1 c2 c3 => by rw [wr_n _ _ (by omega), wr_n _ _ (by omega)]; exact Y5 x y c1 c2 c3) ?_ ?_ (fun t ht => ?_) (fun t ht => by rw [wr_n _ _ (by omega), wr_n _ _ (by omega), T5 55 t (by omega) (by omega)]; exact e7 t ht)
                         all_goals rw [cks]
                         all_goals first
                           | exact PrM_cg2 (PrM_s e4 R5 (by omega)) (fun x j x0 x1 => wr_n _ _ (by omega))
                           | (rw [List.length_append]; rfl)
                           | (rw [cks, List.length_append] at ht
                              have ht : t < (ck (aF A) (tS (aF A)) b k).2.length + 1 := ht
                              rw [getD_app]
                              by_cases ct : t < (ck (aF A) (tS (aF A)) b k).2.length
                              · rw [if_pos ct, wr_n _ _ (by omega), wr_n _ _ (by omega), T5 54 t (by omega) (by omega)]; exact e6 t ct
                              · rw [if_neg ct, if_pos (by omega), show (t : Int) = (((ck (aF A) (tS (aF A)) b k).2.length : Nat) : Int) by omega, wr_s, hbi]))
                      | (have hn := (hno (by omega)).mpr (hw9 (by omega))
                         have hnn : ¬ (jDead (aF A) (aF A) (tS (aF A)) (b * 16 + (k : Int)) ∧ ¬ jMiss (aF A) (tS (aF A)) (ck (aF A) (tS (aF A)) b k).1 (b * 16 + (k : Int))) := fun z => absurd (hd9.mpr z.1) (by omega)
                         rw [ckS_2 hn hnn] at cks
                         rw [e5] at *
                         refine ih (k + 1) _ _ _ (by omega) (by omega) (by omega) (by omega) (mB_wr (mB_wr e2 (Or.inr (Or.inr (by decide)))) (Or.inr (Or.inr (by show 0 ≤ 16 * b + (k : Int) ∧ 16 * b + (k : Int) ≤ 127; omega)))) (fun x y c1 c2 c3 => by rw [wr_n _ _ (by omega), wr_n _ _ (by omega)]; exact e3 x y c1 c2 c3) ?_ ?_ (fun t ht => ?_) (fun t ht => by rw [wr_n _ _ (by omega), wr_n _ _ (by omega)]; exact e7 t ht)
                         all_goals rw [cks]
                         all_goals first
                           | exact PrM_cg2 (PrM_s e4 (fun _ _ _ _ _ => rfl) (by omega)) (fun x j x0 x1 => wr_n _ _ (by omega))
                           | (rw [List.length_append]; rfl)
                           | (rw [cks, List.length_append] at ht
                              have ht : t < (ck (aF A) (tS (aF A)) b k).2.length + 1 := ht
                              rw [getD_app]
                              by_cases ct : t < (ck (aF A) (tS (aF A)) b k).2.length
                              · rw [if_pos ct, wr_n _ _ (by omega), wr_n _ _ (by omega)]; exact e6 t ct
                              · rw [if_neg ct, if_pos (by omega), show (t : Int) = (((ck (aF A) (tS (aF A)) b k).2.length : Nat) : Int) by omega, wr_s, hbi]))
                  · skip
                    refine kr_s ?_
                    have hsm9 := fun z => hsm (hsme.mpr z)
                    refine wq_istore (pc := 107) (L' := [(5, _), (4, _), (0, _), (1, _), (2, _), (3, _)]) dX7_layCopies_107 rfl (by decide) ?_
                    refine wq_iload (pc := 109) dX7_layCopies_109 rfl ?_
                    refine wq_if_ne (pc := 111) (tgt := 133) dX7_layCopies_111 (by decide) (by first | (unfold inR; omega) | assumption) (fun c => absurd c (by decide)) (fun _ => ?_)
                    refine wq_aload_n (pc := 114) dX7_layCopies_114 rfl rfl ?_
                    refine wq_getS (pc := 115) dX7_layCopies_115 hs (gf_X7_69 _ rfl) rfl rfl rfl rfl rfl ?_
                    refine wq_iload (pc := 118) dX7_layCopies_118 rfl ?_
                    refine wq_iconst (pc := 120) dX7_layCopies_120 ?_
                    refine wq_zastK (pc := 121) dX7_layCopies_121 hs rfl (by omega) (by omega) (by first | omega | (simp; done) | assumption) ?_
                    refine wq_aload_n (pc := 122) dX7_layCopies_122 rfl rfl ?_
                    refine wq_getS (pc := 123) dX7_layCopies_123 hs (gf_X7_108 _ rfl) rfl rfl rfl rfl rfl ?_
                    refine wq_iload_n (pc := 126) dX7_layCopies_126 rfl rfl ?_
                    refine wq_iload (pc := 127) dX7_layCopies_127 rfl ?_
                    refine wq_iastK (pc := 129) dX7_layCopies_129 hs rfl (by omega) (by omega) ?_
                    refine wq_iinc (pc := 130) (L' := [(2, _), (5, _), (4, _), (0, _), (1, _), (3, _)]) dX7_layCopies_130 rfl rfl (by decide) ?_
                    refine wq_iinc (pc := 133) (L' := [(3, _), (2, _), (5, _), (4, _), (0, _), (1, _)]) dX7_layCopies_133 rfl rfl (by decide) ?_
                    refine wq_goto (pc := 136) (tgt := 42) dX7_layCopies_136 (by decide) ?_
                    refine wq_sub1 (L' := [(0, _), (1, _), (2, _), (3, _)]) ⟨rfl, rfl, rfl, rfl, trivial⟩ ?_
                    have hw9 : m 41 (16 * b + (k : Int)) ≠ 0 → rW (aF A) (b * 16 + (k : Int)) := (hpr (by omega)).mp
                    have hd9 := e7 k (by omega)
                    rw [hbi] at hd9
                    first
                      | (have hn : jNo (aF A) (b * 16 + (k : Int)) := Classical.byContradiction (fun z => absurd ((hpr (by omega)).mpr ((hno (by omega)).mp z)) (by omega))
                         rw [ckS_0 hn] at cks
                         exact ih (k + 1) _ _ _ (by omega) (by omega) (by omega) (by omega) e2 e3 (by rw [cks]; exact e4) (by rw [cks]; exact e5) (by rw [cks]; exact e6) e7)
                      | (have hn := (hno (by omega)).mpr (hw9 (by omega))
                         have hdd := hd9.mp (by omega)
                         have hnm := (over_iff hP hT' (by omega) (by omega) hZi (hw9 (by omega)) ((jDead_cg hSS _).mpr hdd) kE kD).mp (by rw [← hbi]; exact hsm9)
                         have hnm2 := fun z => hnm ((jMiss_cg hSS _ _).mpr z)
                         rw [ckS_1 hn ⟨hdd, hnm2⟩] at cks
                         exact ih (k + 1) _ _ _ (by omega) (by omega) (by omega) (by omega) hb3 Y5 (by rw [cks, ← hbi]; exact P5) (by rw [cks]; exact e5) (by rw [cks]; intro t ht; rw [T5 54 t (by omega) (by omega)]; exact e6 t ht) (fun t ht => by rw [T5 55 t (by omega) (by omega)]; exact e7 t ht))
                      | (have hn := (hno (by omega)).mpr (hw9 (by omega))
                         have hnn : ¬ (jDead (aF A) (aF A) (tS (aF A)) (b * 16 + (k : Int)) ∧ ¬ jMiss (aF A) (tS (aF A)) (ck (aF A) (tS (aF A)) b k).1 (b * 16 + (k : Int))) := fun z => hsm9 (by rw [hbi]; exact (over_iff hP hT' (by omega) (by omega) hZi (hw9 (by omega)) ((jDead_cg hSS _).mpr z.1) kE kD).mpr (fun y => z.2 ((jMiss_cg hSS _ _).mp y)))
                         rw [ckS_2 hn hnn] at cks
                         rw [e5] at *
                         refine ih (k + 1) _ _ _ (by omega) (by omega) (by omega) (by omega) (mB_wr (mB_wr hb3 (Or.inr (Or.inr (by decide)))) (Or.inr (Or.inr (by show 0 ≤ 16 * b + (k : Int) ∧ 16 * b + (k : Int) ≤ 127; omega)))) (fun x y c1 c2 c3 => by rw [wr_n _ _ (by omega), wr_n _ _ (by omega)]; exact Y5 x y c1 c2 c3) ?_ ?_ (fun t ht => ?_) (fun t ht => by rw [wr_n _ _ (by omega), wr_n _ _ (by omega), T5 55 t (by omega) (by omega)]; exact e7 t ht)
                         all_goals rw [cks]
                         all_goals first
                           | exact PrM_cg2 (PrM_s e4 R5 (by omega)) (fun x j x0 x1 => wr_n _ _ (by omega))
                           | (rw [List.length_append]; rfl)
                           | (rw [cks, List.length_append] at ht
                              have ht : t < (ck (aF A) (tS (aF A)) b k).2.length + 1 := ht
                              rw [getD_app]
                              by_cases ct : t < (ck (aF A) (tS (aF A)) b k).2.length
                              · rw [if_pos ct, wr_n _ _ (by omega), wr_n _ _ (by omega), T5 54 t (by omega) (by omega)]; exact e6 t ct
                              · rw [if_neg ct, if_pos (by omega), show (t : Int) = (((ck (aF A) (tS (aF A)) b k).2.length : Nat) : Int) by omega, wr_s, hbi]))
                      | (have hn := (hno (by omega)).mpr (hw9 (by omega))
                         have hnn : ¬ (jDead (aF A) (aF A) (tS (aF A)) (b * 16 + (k : Int)) ∧ ¬ jMiss (aF A) (tS (aF A)) (ck (aF A) (tS (aF A)) b k).1 (b * 16 + (k : Int))) := fun z => absurd (hd9.mpr z.1) (by omega)
                         rw [ckS_2 hn hnn] at cks
                         rw [e5] at *
                         refine ih (k + 1) _ _ _ (by omega) (by omega) (by omega) (by omega) (mB_wr (mB_wr e2 (Or.inr (Or.inr (by decide)))) (Or.inr (Or.inr (by show 0 ≤ 16 * b + (k : Int) ∧ 16 * b + (k : Int) ≤ 127; omega)))) (fun x y c1 c2 c3 => by rw [wr_n _ _ (by omega), wr_n _ _ (by omega)]; exact e3 x y c1 c2 c3) ?_ ?_ (fun t ht => ?_) (fun t ht => by rw [wr_n _ _ (by omega), wr_n _ _ (by omega)]; exact e7 t ht)
                         all_goals rw [cks]
                         all_goals first
                           | exact PrM_cg2 (PrM_s e4 (fun _ _ _ _ _ => rfl) (by omega)) (fun x j x0 x1 => wr_n _ _ (by omega))
                           | (rw [List.length_append]; rfl)
                           | (rw [cks, List.length_append] at ht
                              have ht : t < (ck (aF A) (tS (aF A)) b k).2.length + 1 := ht
                              rw [getD_app]
                              by_cases ct : t < (ck (aF A) (tS (aF A)) b k).2.length
                              · rw [if_pos ct, wr_n _ _ (by omega), wr_n _ _ (by omega)]; exact e6 t ct
                              · rw [if_neg ct, if_pos (by omega), show (t : Int) = (((ck (aF A) (tS (aF A)) b k).2.length : Nat) : Int) by omega, wr_s, hbi]))
        refine wq_sub1 (L' := [(0, _), (1, _), (2, _), (3, _)]) ⟨rfl, rfl, rfl, rfl, trivial⟩ ?_
        exact loop4 17 0 _ _ _ (by omega) (by omega) (by omega) (by omega) hbp Yp (PrM_0 Pp) rfl (fun t ht => absurd ht (Nat.not_lt_zero t)) hDp
      · skip
        refine wq_aload_n (pc := 12) dX7_layCopies_12 rfl rfl ?_
        refine wq_getS (pc := 13) dX7_layCopies_13 hs (gf_X7_111 _ rfl) rfl rfl rfl rfl rfl ?_
        refine wq_iload_n (pc := 16) dX7_layCopies_16 rfl rfl ?_
        refine wq_aload_n (pc := 17) dX7_layCopies_17 rfl rfl ?_
        refine wq_bipush (pc := 18) dX7_layCopies_18 (by decide) (by decide) ?_
        refine wq_iload_n (pc := 20) dX7_layCopies_20 rfl rfl ?_
        refine wq_imul (pc := 21) dX7_layCopies_21 ?_
        refine wq_iload_n (pc := 22) dX7_layCopies_22 rfl rfl ?_
        refine wq_iadd (pc := 23) dX7_layCopies_23 ?_
        refine cVK_1 (pc := 24) dX7_layCopies_24 hs (cw_X7_255 _ rfl) (by decide) rfl ⟨by decide, by decide⟩ (Nat.le_of_ble_eq_true rfl) (sp_X7_isDead e2 hA hf (by omega) (by omega) (fun hdd m2 K2 Y2 => ?_) (fun hdd m2 K2 Y2 => ?_))
        · skip
          refine kr_s ?_
          have Y9 := FrC_t e3 (FrC_Y Y2)
          refine wq_zastK (pc := 27) dX7_layCopies_27 hs rfl (by omega) (by omega) (by first | omega | (simp; done) | assumption) ?_
          refine wq_iinc (pc := 28) (L' := [(2, _), (0, _), (1, _)]) dX7_layCopies_28 rfl rfl (by decide) ?_
          refine wq_goto (pc := 31) (tgt := 2) dX7_layCopies_31 (by decide) ?_
          refine wq_sub1 (L' := [(0, _), (1, _), (2, _)]) ⟨rfl, rfl, rfl, trivial⟩ ?_
          have hfin : ∀ v : Int, (v = 0 ∨ v = 1) → (v ≠ 0 ↔ jDead (aF A) (aF A) (tS (aF A)) (16 * b + (k : Int))) → wp mX7_layCopies 2 [(0, vR 21), (1, vI b), (2, vI ((k : Int) + 1))] [] (wr m2 55 k v) ε Q := fun v hv hv2 => by
            refine ih (k + 1) _ _ (by omega) (by omega) (by omega) (by omega) (KM_cg K2 (mB_wr K2.2.1 (Or.inr (Or.inr (by show 0 ≤ v ∧ v ≤ 1; omega)))) (fun x i hx => wr_n _ _ (by omega))) (fun x y a b c => by rw [wr_n _ _ (by omega)]; exact Y9 x y a b c) (fun t ht => ?_)
            by_cases c9 : t = k
            · rw [c9, wr_s]; exact hv2
            · rw [wr_n _ _ (by omega), Y2 55 t (by omega) (by omega)]; exact e4 t (by omega)
          first
            | exact hfin 1 (Or.inr rfl) ⟨fun _ => hdd, fun _ => by decide⟩
            | exact hfin 0 (Or.inl rfl) ⟨fun z => absurd rfl z, fun z => absurd z hdd⟩
        · skip
          refine kr_s ?_
          have Y9 := FrC_t e3 (FrC_Y Y2)
          refine wq_zastK (pc := 27) dX7_layCopies_27 hs rfl (by omega) (by omega) (by first | omega | (simp; done) | assumption) ?_
          refine wq_iinc (pc := 28) (L' := [(2, _), (0, _), (1, _)]) dX7_layCopies_28 rfl rfl (by decide) ?_
          refine wq_goto (pc := 31) (tgt := 2) dX7_layCopies_31 (by decide) ?_
          refine wq_sub1 (L' := [(0, _), (1, _), (2, _)]) ⟨rfl, rfl, rfl, trivial⟩ ?_
          have hfin : ∀ v : Int, (v = 0 ∨ v = 1) → (v ≠ 0 ↔ jDead (aF A) (aF A) (tS (aF A)) (16 * b + (k : Int))) → wp mX7_layCopies 2 [(0, vR 21), (1, vI b), (2, vI ((k : Int) + 1))] [] (wr m2 55 k v) ε Q := fun v hv hv2 => by
            refine ih (k + 1) _ _ (by omega) (by omega) (by omega) (by omega) (KM_cg K2 (mB_wr K2.2.1 (Or.inr (Or.inr (by show 0 ≤ v ∧ v ≤ 1; omega)))) (fun x i hx => wr_n _ _ (by omega))) (fun x y a b c => by rw [wr_n _ _ (by omega)]; exact Y9 x y a b c) (fun t ht => ?_)
            by_cases c9 : t = k
            · rw [c9, wr_s]; exact hv2
            · rw [wr_n _ _ (by omega), Y2 55 t (by omega) (by omega)]; exact e4 t (by omega)
          first
            | exact hfin 1 (Or.inr rfl) ⟨fun _ => hdd, fun _ => by decide⟩
            | exact hfin 0 (Or.inl rfl) ⟨fun z => absurd rfl z, fun z => absurd z hdd⟩
  refine wq_sub1 (L' := [(0, _), (1, _), (2, _)]) ⟨rfl, rfl, rfl, trivial⟩ ?_
  exact loop1 17 0 _ _ (by omega) (by omega) (by omega) (by omega) hC.1 (fun _ _ _ _ _ => rfl) (fun t ht => absurd ht (Nat.not_lt_zero t))
