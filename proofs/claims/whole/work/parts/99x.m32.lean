theorem sp_X7_layVersions {μ : nMem} {ε : nEnv} {Q : nOut → nMem → nEnv → Prop} {F : Fl} (hs : SkP skM ε) (hb : mB μ) (hR : RM F μ) (hA : PA F) (h : ∀ m, mB m → (∀ x j, x ≠ 39 → x ≠ 40 → ¬ (x = 21 ∧ j = 22) → m x j = μ x j) → m 21 22 = nxF F → (∀ n : Int, 0 ≤ n → n < 2048 → m 39 n = vD F n ∧ m 40 n = vN F n) → Q (.inl none) m ε) : Sp mX7_layVersions [vR 21] μ ε Q := by
  refine Sp_of (L := [(0, vR 21)]) (by decide) rfl rfl (Nat.le_of_ble_eq_true rfl) ?_
  have hS := PA_NS hA
  refine wq_aload_n (pc := 0) dX7_layVersions_0 rfl rfl ?_
  refine wq_iconst (pc := 1) dX7_layVersions_1 ?_
  refine wq_putIK (pc := 2) (kk := 22) dX7_layVersions_2 hs (gf_X7_124 _ rfl) rfl rfl rfl rfl rfl ?_
  refine wq_iconst (pc := 5) dX7_layVersions_5 ?_
  refine wq_istore_n (pc := 6) (L' := [(1, _), (0, _)]) dX7_layVersions_6 rfl rfl (by decide) ?_
  have loop1 : ∀ (n k : Nat), ∀ (m : nMem) (j : Int), k ≤ 2048 → 2048 < k + n → j = (k : Int) → mB m → (∀ x j, x ≠ 39 → x ≠ 40 → ¬ (x = 21 ∧ j = 22) → m x j = μ x j) → m 21 22 = 2 → (∀ n : Int, 0 ≤ n → n < (k : Int) → m 39 n = 0 ∧ m 40 n = 0) → wp mX7_layVersions 7 [(0, vR 21), (1, vI j)] [] m ε Q := by
    intro n
    induction n with
    | zero => intro k m j hk1 hk2 e0 e1 e2 e3 e4; exact absurd hk2 (by omega)
    | succ n ih =>
      intro k m j hk1 hk2 e0 e1 e2 e3 e4
      subst e0
      have rk : inR (k : Int) := by unfold inR; omega
      refine wq_iload_n (pc := 7) dX7_layVersions_7 rfl rfl ?_
      refine wq_sipush (pc := 8) dX7_layVersions_8 (by decide) (by decide) ?_
      refine wq_icmp_ge (pc := 11) (tgt := 34) dX7_layVersions_11 (by decide) (by first | (unfold inR; omega) | assumption) (by first | (unfold inR; omega) | assumption) (fun c2 => ?_) (fun c2 => ?_)
      · skip
        refine wq_iconst (pc := 34) dX7_layVersions_34 ?_
        refine wq_istore_n (pc := 35) (L' := [(1, _), (0, _)]) dX7_layVersions_35 rfl rfl (by decide) ?_
        have loop3 : ∀ (n k : Nat), ∀ (m : nMem) (j : Int), k ≤ 128 → 128 < k + n → j = (k : Int) → mB m → (∀ x j, x ≠ 39 → x ≠ 40 → ¬ (x = 21 ∧ j = 22) → m x j = μ x j) → m 21 22 = rsX F 2 k ∧ 2 ≤ rsX F 2 k ∧ rsX F 2 k ≤ 2001 → (∀ n : Int, 0 ≤ n → n < 2048 → m 39 n = mxV F 1 n k ∧ m 40 n = mxV F 2 n k) → wp mX7_layVersions 36 [(0, vR 21), (1, vI j)] [] m ε Q := by
          intro n
          induction n with
          | zero => intro k m j hk1 hk2 e0 e1 e2 e3 e4; exact absurd hk2 (by omega)
          | succ n ih =>
            intro k m j hk1 hk2 e0 e1 e2 e3 e4
            subst e0
            have rk : inR (k : Int) := by unfold inR; omega
            have hRm := RM_cg hR (m := m) (fun x j x0 x1 => e2 x j (by omega) (by omega) (by omega))
            have hwi := fun z : k < 128 => wh_iff hA hRm (i := (k : Int)) (by omega) (by omega)
            have r22 : inR (m 22 (k : Int)) := (mR_of e1) 22 _ (by decide) (by decide) (by decide)
            have rs1 := rsX_s F 2 k
            have mx1 := fun n => mxV_s F 1 n k
            have mx2 := fun n => mxV_s F 2 n k
            have e3o := e3
            have ihB := ih
            refine wq_iload_n (pc := 36) dX7_layVersions_36 rfl rfl ?_
            refine wq_sipush (pc := 37) dX7_layVersions_37 (by decide) (by decide) ?_
            refine wq_icmp_ge (pc := 40) (tgt := 224) dX7_layVersions_40 (by decide) (by first | (unfold inR; omega) | assumption) (by first | (unfold inR; omega) | assumption) (fun c4 => ?_) (fun c4 => ?_)
            · skip
              refine wq_vret (pc := 224) dX7_layVersions_224 rfl ?_
              have hk9 : k = 128 := by omega
              subst hk9
              exact h _ e1 e2 e3.1 e4
            · skip
              refine wq_aload_n (pc := 43) dX7_layVersions_43 rfl rfl ?_
              refine wq_iload_n (pc := 44) dX7_layVersions_44 rfl rfl ?_
              refine cVK_1 (pc := 45) dX7_layVersions_45 hs (cw_X7_155 _ rfl) (by decide) rfl ⟨by decide, by decide⟩ (Nat.le_of_ble_eq_true rfl) (sp_X7_isWhole hs (by omega) (by omega) ((mR_of e1) 34 _ (by decide) (by decide) (by decide)) ((mR_of e1) 33 _ (by decide) (by decide) (by decide)) ((mR_of e1) 32 _ (by decide) (by decide) (by decide)) (fun hwh => ?_) (fun hwh => ?_))
              · skip
                refine kr_s ?_
                have hwh9 := (hwi (by omega)).mp hwh
                refine wq_if_eq (pc := 48) (tgt := 218) dX7_layVersions_48 (by decide) (by first | (unfold inR; omega) | assumption) (fun c => absurd c (by decide)) (fun _ => ?_)
                refine wq_aload_n (pc := 51) dX7_layVersions_51 rfl rfl ?_
                refine wq_getS (pc := 52) dX7_layVersions_52 hs (gf_X7_7 _ rfl) rfl rfl rfl rfl rfl ?_
                refine wq_iload_n (pc := 55) dX7_layVersions_55 rfl rfl ?_
                refine wq_ialdK (pc := 56) dX7_layVersions_56 hs rfl (by omega) (by omega) ?_
                refine wq_iconst (pc := 57) dX7_layVersions_57 ?_
                refine wq_icmp_eq (pc := 58) (tgt := 218) dX7_layVersions_58 (by decide) (by first | (unfold inR; omega) | assumption) (by first | (unfold inR; omega) | assumption) (fun c8 => ?_) (fun c8 => ?_)
                · skip
                  refine wq_iinc (pc := 218) (L' := [(1, _), (0, _)]) dX7_layVersions_218 rfl rfl (by decide) ?_
                  refine wq_goto (pc := 221) (tgt := 36) dX7_layVersions_221 (by decide) ?_
                  refine wq_sub1 (L' := [(0, _), (1, _)]) ⟨rfl, rfl, trivial⟩ ?_
                  first
                    | (have hn : ¬ (fN F k 0 ≠ 0 ∧ fN F k 2 = fN F k 1) := hwh9
                       have t1 : ∀ kd n, kd ≠ 0 → ¬ rT F k kd n := fun kd n hkd z => hn ⟨by have := z.1; omega, z.2.2⟩
                       exact ihB (k + 1) _ _ (by omega) (by omega) (by omega) e1 e2 (by rw [rs1, if_neg hn]; exact e3) (fun n n0 n1 => by rw [mx1, mx2, if_neg (t1 1 n (by decide)), if_neg (t1 2 n (by decide))]; exact e4 n n0 n1))
                    | exact ihB (k + 1) _ _ (by omega) (by omega) (by omega) e0 e1 (by rw [rs1, if_pos hwh9]; omega) (fun n n0 n1 => e3 n n0 n1)
                    | (obtain ⟨hin, p22, -⟩ := RM_w hA hRm (by omega) (by omega) hwh9.1
                       have hk3 : fN F k 0 = 3 := by omega
                       have hsm : isSm (fN F k) ((k : Int) % 16) := by
                         rcases (PA_in hA (by omega) (by omega) hin).1 with q | q
                         · have := sOK_k q; omega
                         · exact q
                       have z3 := hsm.2.2 3 (by omega) (by omega)
                       have z10 := hsm.2.2 10 (by omega) (by omega)
                       have t1 : ∀ kd n, kd ≠ 3 → ¬ rT F k kd n := fun kd n hkd z => by have := z.1; omega
                       exact ihB (k + 1) _ _ (by omega) (by omega) (by omega) e1 e2 (by rw [rs1, if_pos hwh9, z3, z10]; omega) (fun n n0 n1 => by rw [mx1, mx2, if_neg (t1 1 n (by decide)), if_neg (t1 2 n (by decide))]; exact e4 n n0 n1))
                · skip
                  obtain ⟨hin, p22, p23, p24, -, -, p2⟩ := RM_w hA hRm (i := (k : Int)) (by omega) (by omega) hwh9.1
                  have hrw : rW F k := by
                    refine ⟨?_, hwh9.2⟩
                    rcases (PA_in hA (by omega) (by omega) hin).1 with q | q
                    · have := sOK_k q; omega
                    · have := q.1; omega
                  have hsk := hS k (by omega) (by omega) hrw
                  have hsk2 := sOK_k hsk
                  have h10 : fN F k 0 = 1 → fN F k 10 = 0 := fun z => by
                    rcases hsk with q | q
                    · omega
                    · omega
                  have hvs := e4 (fN F k 3) (by omega) (by omega)
                  have g39 := b39 e1 (fN F k 3)
                  have g40 := b40 e1 (fN F k 3)
                  have r39 : inR (m 39 (fN F k 3)) := by unfold inR; omega
                  have r40 : inR (m 40 (fN F k 3)) := by unfold inR; omega
                  have r24 : inR (m 24 (k : Int)) := (mR_of e1) 24 _ (by decide) (by decide) (by decide)
                  obtain ⟨kk, hkk⟩ : ∃ kk : Int, kk = (k : Int) := ⟨k, rfl⟩
                  have f1 := e1
                  have f2 := e2
                  have f3 := e3.1
                  have f4 := e4
                  have cut9 : ∀ (m4 : nMem), (mB m4) → (∀ x j, x ≠ 39 → x ≠ 40 → ¬ (x = 21 ∧ j = 22) → m4 x j = μ x j) → (m4 21 22 = max (max (rsX F 2 k) (fN F k 3 + 1)) (fN F k 10 + 1)) → (∀ n : Int, 0 ≤ n → n < 2048 → m4 39 n = mxV F 1 n (k + 1) ∧ m4 40 n = mxV F 2 n (k + 1)) → wp mX7_layVersions 218 [(0, vR 21), (1, vI (k : Int))] [] m4 ε Q := by
                    intro m4 e0 e1 e2 e3
                    refine wq_iinc (pc := 218) (L' := [(1, _), (0, _)]) dX7_layVersions_218 rfl rfl (by decide) ?_
                    refine wq_goto (pc := 221) (tgt := 36) dX7_layVersions_221 (by decide) ?_
                    refine wq_sub1 (L' := [(0, _), (1, _)]) ⟨rfl, rfl, trivial⟩ ?_
                    first
                      | (have hn : ¬ (fN F k 0 ≠ 0 ∧ fN F k 2 = fN F k 1) := hwh9
                         have t1 : ∀ kd n, kd ≠ 0 → ¬ rT F k kd n := fun kd n hkd z => hn ⟨by have := z.1; omega, z.2.2⟩
                         exact ihB (k + 1) _ _ (by omega) (by omega) (by omega) e1 e2 (by rw [rs1, if_neg hn]; exact e3) (fun n n0 n1 => by rw [mx1, mx2, if_neg (t1 1 n (by decide)), if_neg (t1 2 n (by decide))]; exact e4 n n0 n1))
                      | exact ihB (k + 1) _ _ (by omega) (by omega) (by omega) e0 e1 (by rw [rs1, if_pos hwh9]; omega) (fun n n0 n1 => e3 n n0 n1)
                      | (obtain ⟨hin, p22, -⟩ := RM_w hA hRm (by omega) (by omega) hwh9.1
                         have hk3 : fN F k 0 = 3 := by omega
                         have hsm : isSm (fN F k) ((k : Int) % 16) := by
                           rcases (PA_in hA (by omega) (by omega) hin).1 with q | q
                           · have := sOK_k q; omega
                           · exact q
                         have z3 := hsm.2.2 3 (by omega) (by omega)
                         have z10 := hsm.2.2 10 (by omega) (by omega)
                         have t1 : ∀ kd n, kd ≠ 3 → ¬ rT F k kd n := fun kd n hkd z => by have := z.1; omega
                         exact ihB (k + 1) _ _ (by omega) (by omega) (by omega) e1 e2 (by rw [rs1, if_pos hwh9, z3, z10]; omega) (fun n n0 n1 => by rw [mx1, mx2, if_neg (t1 1 n (by decide)), if_neg (t1 2 n (by decide))]; exact e4 n n0 n1))
                  have cut10 : ∀ (m5 : nMem), (mB m5) → (∀ x j, x ≠ 39 → x ≠ 40 → ¬ (x = 21 ∧ j = 22) → m5 x j = μ x j) → (m5 21 22 = max (rsX F 2 k) (fN F k 3 + 1)) → (∀ n : Int, 0 ≤ n → n < 2048 → m5 39 n = mxV F 1 n (k + 1) ∧ m5 40 n = mxV F 2 n (k + 1)) → wp mX7_layVersions 196 [(0, vR 21), (1, vI (k : Int)), (2, vI (fN F k 3)), (3, vI (fN F k 10))] [] m5 ε Q := by
                    intro m5 e0 e1 e2 e3
                    have d0 := e0
                    have d1 := e1
                    have d2 := e2
                    have d3 := e3
                    have rx : inR (m5 21 22) := by unfold inR; omega
                    have ry : inR (fN F k 10) := by unfold inR; omega
                    refine wq_aload_n (pc := 196) dX7_layVersions_196 rfl rfl ?_
                    refine wq_iload_n (pc := 197) dX7_layVersions_197 rfl rfl ?_
                    refine wq_aload_n (pc := 198) dX7_layVersions_198 rfl rfl ?_
                    refine wq_getIK (pc := 199) (kk := 22) dX7_layVersions_199 hs (gf_X7_124 _ rfl) rfl rfl rfl rfl ?_
                    refine wq_icmp_lt (pc := 202) (tgt := 211) dX7_layVersions_202 (by decide) (by first | (unfold inR; omega) | assumption) (by first | (unfold inR; omega) | assumption) (fun c11 => ?_) (fun c11 => ?_)
                    · skip
                      refine wq_aload_n (pc := 211) dX7_layVersions_211 rfl rfl ?_
                      refine wq_getIK (pc := 212) (kk := 22) dX7_layVersions_212 hs (gf_X7_124 _ rfl) rfl rfl rfl rfl ?_
                      refine wq_putIK (pc := 215) (kk := 22) dX7_layVersions_215 hs (gf_X7_124 _ rfl) rfl rfl rfl rfl rfl ?_
                      refine wq_sub1 (L' := [(0, _), (1, _)]) ⟨rfl, rfl, trivial⟩ ?_
                      exact cut9 _ (mB_wr d0 (Or.inr (Or.inl rfl))) (fun x j c1 c2 c3 => by rw [wr_n _ _ c3]; exact d1 x j c1 c2 c3) (by rw [wr_s]; omega) (fun n n0 n1 => by rw [wr_n _ _ (by omega), wr_n _ _ (by omega)]; exact d3 n n0 n1)
                    · skip
                      refine wq_iload_n (pc := 205) dX7_layVersions_205 rfl rfl ?_
                      refine wq_iconst (pc := 206) dX7_layVersions_206 ?_
                      refine wq_iadd (pc := 207) dX7_layVersions_207 ?_
                      refine wq_goto (pc := 208) (tgt := 215) dX7_layVersions_208 (by decide) ?_
                      refine wq_putIK (pc := 215) (kk := 22) dX7_layVersions_215 hs (gf_X7_124 _ rfl) rfl rfl rfl rfl rfl ?_
                      refine wq_sub1 (L' := [(0, _), (1, _)]) ⟨rfl, rfl, trivial⟩ ?_
                      exact cut9 _ (mB_wr d0 (Or.inr (Or.inl rfl))) (fun x j c1 c2 c3 => by rw [wr_n _ _ c3]; exact d1 x j c1 c2 c3) (by rw [wr_s]; omega) (fun n n0 n1 => by rw [wr_n _ _ (by omega), wr_n _ _ (by omega)]; exact d3 n n0 n1)
                  have cut12 : ∀ (m6 : nMem), (mB m6) → (∀ x j, x ≠ 39 → x ≠ 40 → ¬ (x = 21 ∧ j = 22) → m6 x j = μ x j) → (m6 21 22 = rsX F 2 k) → (∀ n : Int, 0 ≤ n → n < 2048 → m6 39 n = mxV F 1 n (k + 1) ∧ m6 40 n = mxV F 2 n (k + 1)) → wp mX7_layVersions 174 [(0, vR 21), (1, vI (k : Int)), (2, vI (fN F k 3)), (3, vI (fN F k 10))] [] m6 ε Q := by
                    intro m6 e0 e1 e2 e3
                    have d0 := e0
                    have d1 := e1
                    have d2 := e2
                    have d3 := e3
                    have rx : inR (m6 21 22) := by unfold inR; omega
                    have ry : inR (fN F k 3) := by unfold inR; omega
                    refine wq_aload_n (pc := 174) dX7_layVersions_174 rfl rfl ?_
                    refine wq_iload_n (pc := 175) dX7_layVersions_175 rfl rfl ?_
                    refine wq_aload_n (pc := 176) dX7_layVersions_176 rfl rfl ?_
                    refine wq_getIK (pc := 177) (kk := 22) dX7_layVersions_177 hs (gf_X7_124 _ rfl) rfl rfl rfl rfl ?_
                    refine wq_icmp_lt (pc := 180) (tgt := 189) dX7_layVersions_180 (by decide) (by first | (unfold inR; omega) | assumption) (by first | (unfold inR; omega) | assumption) (fun c13 => ?_) (fun c13 => ?_)
                    · skip
                      refine wq_aload_n (pc := 189) dX7_layVersions_189 rfl rfl ?_
                      refine wq_getIK (pc := 190) (kk := 22) dX7_layVersions_190 hs (gf_X7_124 _ rfl) rfl rfl rfl rfl ?_
                      refine wq_putIK (pc := 193) (kk := 22) dX7_layVersions_193 hs (gf_X7_124 _ rfl) rfl rfl rfl rfl rfl ?_
                      refine wq_sub1 (L' := [(0, _), (1, _), (2, _), (3, _)]) ⟨rfl, rfl, rfl, rfl, trivial⟩ ?_
                      exact cut10 _ (mB_wr d0 (Or.inr (Or.inl rfl))) (fun x j c1 c2 c3 => by rw [wr_n _ _ c3]; exact d1 x j c1 c2 c3) (by rw [wr_s]; omega) (fun n n0 n1 => by rw [wr_n _ _ (by omega), wr_n _ _ (by omega)]; exact d3 n n0 n1)
                    · skip
                      refine wq_iload_n (pc := 183) dX7_layVersions_183 rfl rfl ?_
                      refine wq_iconst (pc := 184) dX7_layVersions_184 ?_
                      refine wq_iadd (pc := 185) dX7_layVersions_185 ?_
                      refine wq_goto (pc := 186) (tgt := 193) dX7_layVersions_186 (by decide) ?_
                      refine wq_putIK (pc := 193) (kk := 22) dX7_layVersions_193 hs (gf_X7_124 _ rfl) rfl rfl rfl rfl rfl ?_
                      refine wq_sub1 (L' := [(0, _), (1, _), (2, _), (3, _)]) ⟨rfl, rfl, rfl, rfl, trivial⟩ ?_
                      exact cut10 _ (mB_wr d0 (Or.inr (Or.inl rfl))) (fun x j c1 c2 c3 => by rw [wr_n _ _ c3]; exact d1 x j c1 c2 c3) (by rw [wr_s]; omega) (fun n n0 n1 => by rw [wr_n _ _ (by omega), wr_n _ _ (by omega)]; exact d3 n n0 n1)
                  have cut14 : (True) → wp mX7_layVersions 89 [(0, vR 21), (1, vI (k : Int)), (2, vI (fN F k 3)), (3, vI (fN F k 10))] [] m ε Q := by
                    intro e0
                    refine wq_aload_n (pc := 89) dX7_layVersions_89 rfl rfl ?_
                    refine wq_getS (pc := 90) dX7_layVersions_90 hs (gf_X7_7 _ rfl) rfl rfl rfl rfl rfl ?_
                    refine wq_iload_n (pc := 93) dX7_layVersions_93 rfl rfl ?_
                    refine wq_ialdK (pc := 94) dX7_layVersions_94 hs rfl (by omega) (by omega) ?_
                    refine wq_iconst (pc := 95) dX7_layVersions_95 ?_
                    refine wq_icmp_ne (pc := 96) (tgt := 138) dX7_layVersions_96 (by decide) (by first | (unfold inR; omega) | assumption) (by first | (unfold inR; omega) | assumption) (fun c15 => ?_) (fun c15 => ?_)
                    · skip
                      refine wq_aload_n (pc := 138) dX7_layVersions_138 rfl rfl ?_
                      refine wq_getS (pc := 139) dX7_layVersions_139 hs (gf_X7_66 _ rfl) rfl rfl rfl rfl rfl ?_
                      refine wq_iload_n (pc := 142) dX7_layVersions_142 rfl rfl ?_
                      refine wq_aload_n (pc := 143) dX7_layVersions_143 rfl rfl ?_
                      refine wq_getS (pc := 144) dX7_layVersions_144 hs (gf_X7_16 _ rfl) rfl rfl rfl rfl rfl ?_
                      refine wq_iload_n (pc := 147) dX7_layVersions_147 rfl rfl ?_
                      refine wq_ialdK (pc := 148) dX7_layVersions_148 hs rfl (by omega) (by omega) ?_
                      refine wq_aload_n (pc := 149) dX7_layVersions_149 rfl rfl ?_
                      refine wq_getS (pc := 150) dX7_layVersions_150 hs (gf_X7_66 _ rfl) rfl rfl rfl rfl rfl ?_
                      refine wq_iload_n (pc := 153) dX7_layVersions_153 rfl rfl ?_
                      refine wq_ialdK (pc := 154) dX7_layVersions_154 hs rfl (by omega) (by omega) ?_
                      refine wq_icmp_le (pc := 155) (tgt := 167) dX7_layVersions_155 (by decide) (by first | (unfold inR; omega) | assumption) (by first | (unfold inR; omega) | assumption) (fun c16 => ?_) (fun c16 => ?_)
                      · skip
                        refine wq_aload_n (pc := 167) dX7_layVersions_167 rfl rfl ?_
                        refine wq_getS (pc := 168) dX7_layVersions_168 hs (gf_X7_66 _ rfl) rfl rfl rfl rfl rfl ?_
                        refine wq_iload_n (pc := 171) dX7_layVersions_171 rfl rfl ?_
                        refine wq_ialdK (pc := 172) dX7_layVersions_172 hs rfl (by omega) (by omega) ?_
                        refine wq_iastK (pc := 173) dX7_layVersions_173 hs rfl (by omega) (by omega) ?_
                        refine wq_sub1 (L' := [(0, _), (1, _), (2, _), (3, _)]) ⟨rfl, rfl, rfl, rfl, trivial⟩ ?_
                        have hm1 := mx1 (fN F k 3)
                        have hm2 := mx2 (fN F k 3)
                        first
                          | (exfalso; omega)
                          | (have hk1 : fN F k 0 = 1 := by omega
                             refine cut12 _ (mB_wr f1 (Or.inr (Or.inr (by show 0 ≤ _ ∧ _ ≤ (5000 : Int); omega)))) (fun x j c1 c2 c3 => by rw [wr_n _ _ (by omega)]; exact f2 x j c1 c2 c3) (by rw [wr_n _ _ (by omega)]; exact f3) (fun n n0 n1 => ⟨?_, ?_⟩)
                             · rw [mx1]
                               by_cases c9 : n = fN F k 3
                               · rw [c9, wr_s, if_pos ⟨hk1, rfl, hwh9.2⟩]; omega
                               · rw [wr_n _ _ (by omega), if_neg (fun z => c9 z.2.1.symm)]; exact (f4 n n0 n1).1
                             · rw [mx2, if_neg (fun z => by have := z.1; omega), wr_n _ _ (by omega)]; exact (f4 n n0 n1).2)
                          | (have hk2 : fN F k 0 = 2 := by omega
                             refine cut12 _ (mB_wr f1 (Or.inr (Or.inr (by show 0 ≤ _ ∧ _ ≤ (5000 : Int); omega)))) (fun x j c1 c2 c3 => by rw [wr_n _ _ (by omega)]; exact f2 x j c1 c2 c3) (by rw [wr_n _ _ (by omega)]; exact f3) (fun n n0 n1 => ⟨?_, ?_⟩)
                             · rw [mx1, if_neg (fun z => by have := z.1; omega), wr_n _ _ (by omega)]; exact (f4 n n0 n1).1
                             · rw [mx2]
                               by_cases c9 : n = fN F k 3
                               · rw [c9, wr_s, if_pos ⟨hk2, rfl, hwh9.2⟩]; omega
                               · rw [wr_n _ _ (by omega), if_neg (fun z => c9 z.2.1.symm)]; exact (f4 n n0 n1).2)
                      · skip
                        refine wq_aload_n (pc := 158) dX7_layVersions_158 rfl rfl ?_
                        refine wq_getS (pc := 159) dX7_layVersions_159 hs (gf_X7_16 _ rfl) rfl rfl rfl rfl rfl ?_
                        refine wq_iload_n (pc := 162) dX7_layVersions_162 rfl rfl ?_
                        refine wq_ialdK (pc := 163) dX7_layVersions_163 hs rfl (by omega) (by omega) ?_
                        refine wq_goto (pc := 164) (tgt := 173) dX7_layVersions_164 (by decide) ?_
                        refine wq_iastK (pc := 173) dX7_layVersions_173 hs rfl (by omega) (by omega) ?_
                        refine wq_sub1 (L' := [(0, _), (1, _), (2, _), (3, _)]) ⟨rfl, rfl, rfl, rfl, trivial⟩ ?_
                        have hm1 := mx1 (fN F k 3)
                        have hm2 := mx2 (fN F k 3)
                        first
                          | (exfalso; omega)
                          | (have hk1 : fN F k 0 = 1 := by omega
                             refine cut12 _ (mB_wr f1 (Or.inr (Or.inr (by show 0 ≤ _ ∧ _ ≤ (5000 : Int); omega)))) (fun x j c1 c2 c3 => by rw [wr_n _ _ (by omega)]; exact f2 x j c1 c2 c3) (by rw [wr_n _ _ (by omega)]; exact f3) (fun n n0 n1 => ⟨?_, ?_⟩)
                             · rw [mx1]
                               by_cases c9 : n = fN F k 3
                               · rw [c9, wr_s, if_pos ⟨hk1, rfl, hwh9.2⟩]; omega
                               · rw [wr_n _ _ (by omega), if_neg (fun z => c9 z.2.1.symm)]; exact (f4 n n0 n1).1
                             · rw [mx2, if_neg (fun z => by have := z.1; omega), wr_n _ _ (by omega)]; exact (f4 n n0 n1).2)
                          | (have hk2 : fN F k 0 = 2 := by omega
                             refine cut12 _ (mB_wr f1 (Or.inr (Or.inr (by show 0 ≤ _ ∧ _ ≤ (5000 : Int); omega)))) (fun x j c1 c2 c3 => by rw [wr_n _ _ (by omega)]; exact f2 x j c1 c2 c3) (by rw [wr_n _ _ (by omega)]; exact f3) (fun n n0 n1 => ⟨?_, ?_⟩)
                             · rw [mx1, if_neg (fun z => by have := z.1; omega), wr_n _ _ (by omega)]; exact (f4 n n0 n1).1
                             · rw [mx2]
                               by_cases c9 : n = fN F k 3
                               · rw [c9, wr_s, if_pos ⟨hk2, rfl, hwh9.2⟩]; omega
                               · rw [wr_n _ _ (by omega), if_neg (fun z => c9 z.2.1.symm)]; exact (f4 n n0 n1).2)
                    · skip
                      refine wq_aload_n (pc := 99) dX7_layVersions_99 rfl rfl ?_
                      refine wq_getS (pc := 100) dX7_layVersions_100 hs (gf_X7_63 _ rfl) rfl rfl rfl rfl rfl ?_
                      refine wq_iload_n (pc := 103) dX7_layVersions_103 rfl rfl ?_
                      refine wq_aload_n (pc := 104) dX7_layVersions_104 rfl rfl ?_
                      refine wq_getS (pc := 105) dX7_layVersions_105 hs (gf_X7_16 _ rfl) rfl rfl rfl rfl rfl ?_
                      refine wq_iload_n (pc := 108) dX7_layVersions_108 rfl rfl ?_
                      refine wq_ialdK (pc := 109) dX7_layVersions_109 hs rfl (by omega) (by omega) ?_
                      refine wq_aload_n (pc := 110) dX7_layVersions_110 rfl rfl ?_
                      refine wq_getS (pc := 111) dX7_layVersions_111 hs (gf_X7_63 _ rfl) rfl rfl rfl rfl rfl ?_
                      refine wq_iload_n (pc := 114) dX7_layVersions_114 rfl rfl ?_
                      refine wq_ialdK (pc := 115) dX7_layVersions_115 hs rfl (by omega) (by omega) ?_
                      refine wq_icmp_le (pc := 116) (tgt := 128) dX7_layVersions_116 (by decide) (by first | (unfold inR; omega) | assumption) (by first | (unfold inR; omega) | assumption) (fun c17 => ?_) (fun c17 => ?_)
                      · skip
                        refine wq_aload_n (pc := 128) dX7_layVersions_128 rfl rfl ?_
                        refine wq_getS (pc := 129) dX7_layVersions_129 hs (gf_X7_63 _ rfl) rfl rfl rfl rfl rfl ?_
                        refine wq_iload_n (pc := 132) dX7_layVersions_132 rfl rfl ?_
                        refine wq_ialdK (pc := 133) dX7_layVersions_133 hs rfl (by omega) (by omega) ?_
                        refine wq_iastK (pc := 134) dX7_layVersions_134 hs rfl (by omega) (by omega) ?_
                        refine wq_goto (pc := 135) (tgt := 174) dX7_layVersions_135 (by decide) ?_
                        refine wq_sub1 (L' := [(0, _), (1, _), (2, _), (3, _)]) ⟨rfl, rfl, rfl, rfl, trivial⟩ ?_
                        have hm1 := mx1 (fN F k 3)
                        have hm2 := mx2 (fN F k 3)
                        first
                          | (exfalso; omega)
                          | (have hk1 : fN F k 0 = 1 := by omega
                             refine cut12 _ (mB_wr f1 (Or.inr (Or.inr (by show 0 ≤ _ ∧ _ ≤ (5000 : Int); omega)))) (fun x j c1 c2 c3 => by rw [wr_n _ _ (by omega)]; exact f2 x j c1 c2 c3) (by rw [wr_n _ _ (by omega)]; exact f3) (fun n n0 n1 => ⟨?_, ?_⟩)
                             · rw [mx1]
                               by_cases c9 : n = fN F k 3
                               · rw [c9, wr_s, if_pos ⟨hk1, rfl, hwh9.2⟩]; omega
                               · rw [wr_n _ _ (by omega), if_neg (fun z => c9 z.2.1.symm)]; exact (f4 n n0 n1).1
                             · rw [mx2, if_neg (fun z => by have := z.1; omega), wr_n _ _ (by omega)]; exact (f4 n n0 n1).2)
                          | (have hk2 : fN F k 0 = 2 := by omega
                             refine cut12 _ (mB_wr f1 (Or.inr (Or.inr (by show 0 ≤ _ ∧ _ ≤ (5000 : Int); omega)))) (fun x j c1 c2 c3 => by rw [wr_n _ _ (by omega)]; exact f2 x j c1 c2 c3) (by rw [wr_n _ _ (by omega)]; exact f3) (fun n n0 n1 => ⟨?_, ?_⟩)
                             · rw [mx1, if_neg (fun z => by have := z.1; omega), wr_n _ _ (by omega)]; exact (f4 n n0 n1).1
                             · rw [mx2]
                               by_cases c9 : n = fN F k 3
                               · rw [c9, wr_s, if_pos ⟨hk2, rfl, hwh9.2⟩]; omega
                               · rw [wr_n _ _ (by omega), if_neg (fun z => c9 z.2.1.symm)]; exact (f4 n n0 n1).2)
                      · skip
                        refine wq_aload_n (pc := 119) dX7_layVersions_119 rfl rfl ?_
                        refine wq_getS (pc := 120) dX7_layVersions_120 hs (gf_X7_16 _ rfl) rfl rfl rfl rfl rfl ?_
                        refine wq_iload_n (pc := 123) dX7_layVersions_123 rfl rfl ?_
                        refine wq_ialdK (pc := 124) dX7_layVersions_124 hs rfl (by omega) (by omega) ?_
                        refine wq_goto (pc := 125) (tgt := 134) dX7_layVersions_125 (by decide) ?_
                        refine wq_iastK (pc := 134) dX7_layVersions_134 hs rfl (by omega) (by omega) ?_
                        refine wq_goto (pc := 135) (tgt := 174) dX7_layVersions_135 (by decide) ?_
                        refine wq_sub1 (L' := [(0, _), (1, _), (2, _), (3, _)]) ⟨rfl, rfl, rfl, rfl, trivial⟩ ?_
                        have hm1 := mx1 (fN F k 3)
                        have hm2 := mx2 (fN F k 3)
                        first
                          | (exfalso; omega)
                          | (have hk1 : fN F k 0 = 1 := by omega
                             refine cut12 _ (mB_wr f1 (Or.inr (Or.inr (by show 0 ≤ _ ∧ _ ≤ (5000 : Int); omega)))) (fun x j c1 c2 c3 => by rw [wr_n _ _ (by omega)]; exact f2 x j c1 c2 c3) (by rw [wr_n _ _ (by omega)]; exact f3) (fun n n0 n1 => ⟨?_, ?_⟩)
                             · rw [mx1]
                               by_cases c9 : n = fN F k 3
                               · rw [c9, wr_s, if_pos ⟨hk1, rfl, hwh9.2⟩]; omega
                               · rw [wr_n _ _ (by omega), if_neg (fun z => c9 z.2.1.symm)]; exact (f4 n n0 n1).1
                             · rw [mx2, if_neg (fun z => by have := z.1; omega), wr_n _ _ (by omega)]; exact (f4 n n0 n1).2)
                          | (have hk2 : fN F k 0 = 2 := by omega
                             refine cut12 _ (mB_wr f1 (Or.inr (Or.inr (by show 0 ≤ _ ∧ _ ≤ (5000 : Int); omega)))) (fun x j c1 c2 c3 => by rw [wr_n _ _ (by omega)]; exact f2 x j c1 c2 c3) (by rw [wr_n _ _ (by omega)]; exact f3) (fun n n0 n1 => ⟨?_, ?_⟩)
                             · rw [mx1, if_neg (fun z => by have := z.1; omega), wr_n _ _ (by omega)]; exact (f4 n n0 n1).1
                             · rw [mx2]
                               by_cases c9 : n = fN F k 3
                               · rw [c9, wr_s, if_pos ⟨hk2, rfl, hwh9.2⟩]; omega
                               · rw [wr_n _ _ (by omega), if_neg (fun z => c9 z.2.1.symm)]; exact (f4 n n0 n1).2)
                  refine wq_aload_n (pc := 61) dX7_layVersions_61 rfl rfl ?_
                  refine wq_getS (pc := 62) dX7_layVersions_62 hs (gf_X7_13 _ rfl) rfl rfl rfl rfl rfl ?_
                  refine wq_iload_n (pc := 65) dX7_layVersions_65 rfl rfl ?_
                  refine wq_ialdK (pc := 66) dX7_layVersions_66 hs rfl (by omega) (by omega) ?_
                  rw [p23]
                  refine wq_istore_n (pc := 67) (L' := [(2, _), (0, _), (1, _)]) dX7_layVersions_67 rfl rfl (by decide) ?_
                  refine wq_aload_n (pc := 68) dX7_layVersions_68 rfl rfl ?_
                  refine wq_getS (pc := 69) dX7_layVersions_69 hs (gf_X7_7 _ rfl) rfl rfl rfl rfl rfl ?_
                  refine wq_iload_n (pc := 72) dX7_layVersions_72 rfl rfl ?_
                  refine wq_ialdK (pc := 73) dX7_layVersions_73 hs rfl (by omega) (by omega) ?_
                  refine wq_iconst (pc := 74) dX7_layVersions_74 ?_
                  refine wq_icmp_ne (pc := 75) (tgt := 87) dX7_layVersions_75 (by decide) (by first | (unfold inR; omega) | assumption) (by first | (unfold inR; omega) | assumption) (fun c18 => ?_) (fun c18 => ?_)
                  · skip
                    refine wq_iconst (pc := 87) dX7_layVersions_87 ?_
                    refine wq_istore_n (pc := 88) (L' := [(3, _), (2, _), (0, _), (1, _)]) dX7_layVersions_88 rfl rfl (by decide) ?_
                    refine wq_sub1 (L' := [(0, _), (1, _), (2, _), (3, _)]) ⟨rfl, rfl, rfl, rfl, trivial⟩ ?_
                    first
                      | (exfalso; omega)
                      | (have ez : m 30 (k : Int) = fN F k 10 := (p2 (by omega)).2.1
                         rw [ez]
                         exact cut14 trivial)
                      | (have ez : fN F k 10 = 0 := h10 (by omega)
                         rw [ez] at cut14
                         exact cut14 trivial)
                  · skip
                    refine wq_aload_n (pc := 78) dX7_layVersions_78 rfl rfl ?_
                    refine wq_getS (pc := 79) dX7_layVersions_79 hs (gf_X7_35 _ rfl) rfl rfl rfl rfl rfl ?_
                    refine wq_iload_n (pc := 82) dX7_layVersions_82 rfl rfl ?_
                    refine wq_ialdK (pc := 83) dX7_layVersions_83 hs rfl (by omega) (by omega) ?_
                    refine wq_goto (pc := 84) (tgt := 88) dX7_layVersions_84 (by decide) ?_
                    refine wq_istore_n (pc := 88) (L' := [(3, _), (2, _), (0, _), (1, _)]) dX7_layVersions_88 rfl rfl (by decide) ?_
                    refine wq_sub1 (L' := [(0, _), (1, _), (2, _), (3, _)]) ⟨rfl, rfl, rfl, rfl, trivial⟩ ?_
                    first
                      | (exfalso; omega)
                      | (have ez : m 30 (k : Int) = fN F k 10 := (p2 (by omega)).2.1
                         rw [ez]
                         exact cut14 trivial)
                      | (have ez : fN F k 10 = 0 := h10 (by omega)
                         rw [ez] at cut14
                         exact cut14 trivial)
              · skip
                refine kr_s ?_
                have hwh9 := fun z => hwh ((hwi (by omega)).mpr z)
                refine wq_if_eq (pc := 48) (tgt := 218) dX7_layVersions_48 (by decide) (by first | (unfold inR; omega) | assumption) (fun _ => ?_) (fun c => absurd c (by decide))
                refine wq_iinc (pc := 218) (L' := [(1, _), (0, _)]) dX7_layVersions_218 rfl rfl (by decide) ?_
                refine wq_goto (pc := 221) (tgt := 36) dX7_layVersions_221 (by decide) ?_
                refine wq_sub1 (L' := [(0, _), (1, _)]) ⟨rfl, rfl, trivial⟩ ?_
                first
                  | (have hn : ¬ (fN F k 0 ≠ 0 ∧ fN F k 2 = fN F k 1) := hwh9
                     have t1 : ∀ kd n, kd ≠ 0 → ¬ rT F k kd n := fun kd n hkd z => hn ⟨by have := z.1; omega, z.2.2⟩
                     exact ihB (k + 1) _ _ (by omega) (by omega) (by omega) e1 e2 (by rw [rs1, if_neg hn]; exact e3) (fun n n0 n1 => by rw [mx1, mx2, if_neg (t1 1 n (by decide)), if_neg (t1 2 n (by decide))]; exact e4 n n0 n1))
                  | exact ihB (k + 1) _ _ (by omega) (by omega) (by omega) e0 e1 (by rw [rs1, if_pos hwh9]; omega) (fun n n0 n1 => e3 n n0 n1)
                  | (obtain ⟨hin, p22, -⟩ := RM_w hA hRm (by omega) (by omega) hwh9.1
                     have hk3 : fN F k 0 = 3 := by omega
                     have hsm : isSm (fN F k) ((k : Int) % 16) := by
                       rcases (PA_in hA (by omega) (by omega) hin).1 with q | q
                       · have := sOK_k q; omega
                       · exact q
                     have z3 := hsm.2.2 3 (by omega) (by omega)
                     have z10 := hsm.2.2 10 (by omega) (by omega)
                     have t1 : ∀ kd n, kd ≠ 3 → ¬ rT F k kd n := fun kd n hkd z => by have := z.1; omega
                     exact ihB (k + 1) _ _ (by omega) (by omega) (by omega) e1 e2 (by rw [rs1, if_pos hwh9, z3, z10]; omega) (fun n n0 n1 => by rw [mx1, mx2, if_neg (t1 1 n (by decide)), if_neg (t1 2 n (by decide))]; exact e4 n n0 n1))
        refine wq_sub1 (L' := [(0, _), (1, _)]) ⟨rfl, rfl, trivial⟩ ?_
        exact loop3 129 0 _ _ (by omega) (by omega) (by omega) e1 e2 ⟨e3, by show (2 : Int) ≤ 2; decide, by show (2 : Int) ≤ 2001; decide⟩ (fun n n0 n1 => e4 n n0 (by omega))
      · skip
        refine wq_aload_n (pc := 14) dX7_layVersions_14 rfl rfl ?_
        refine wq_getS (pc := 15) dX7_layVersions_15 hs (gf_X7_63 _ rfl) rfl rfl rfl rfl rfl ?_
        refine wq_iload_n (pc := 18) dX7_layVersions_18 rfl rfl ?_
        refine wq_iconst (pc := 19) dX7_layVersions_19 ?_
        refine wq_iastK (pc := 20) dX7_layVersions_20 hs rfl (by omega) (by omega) ?_
        refine wq_aload_n (pc := 21) dX7_layVersions_21 rfl rfl ?_
        refine wq_getS (pc := 22) dX7_layVersions_22 hs (gf_X7_66 _ rfl) rfl rfl rfl rfl rfl ?_
        refine wq_iload_n (pc := 25) dX7_layVersions_25 rfl rfl ?_
        refine wq_iconst (pc := 26) dX7_layVersions_26 ?_
        refine wq_iastK (pc := 27) dX7_layVersions_27 hs rfl (by omega) (by omega) ?_
        refine wq_iinc (pc := 28) (L' := [(1, _), (0, _)]) dX7_layVersions_28 rfl rfl (by decide) ?_
        refine wq_goto (pc := 31) (tgt := 7) dX7_layVersions_31 (by decide) ?_
        refine wq_sub1 (L' := [(0, _), (1, _)]) ⟨rfl, rfl, trivial⟩ ?_
        refine ih (k + 1) _ _ (by omega) (by omega) (by omega) (mB_wr (mB_wr e1 (Or.inr (Or.inr (by decide)))) (Or.inr (Or.inr (by decide)))) (fun x j c1 c2 c3 => by rw [wr_n _ _ (by omega), wr_n _ _ (by omega)]; exact e2 x j c1 c2 c3) (by rw [wr_n _ _ (by omega), wr_n _ _ (by omega)]; exact e3) (fun n n0 n1 => ?_)
        by_cases c9 : n = (k : Int)
        · rw [c9, wr_n _ _ (by omega), wr_s, wr_s]; exact ⟨rfl, rfl⟩
        · rw [wr_n _ _ (by omega), wr_n _ _ (by omega), wr_n _ _ (by omega), wr_n _ _ (by omega)]; exact e4 n n0 (by omega)
  refine wq_sub1 (L' := [(0, _), (1, _)]) ⟨rfl, rfl, trivial⟩ ?_
  exact loop1 2049 0 _ _ (by omega) (by omega) (by omega) (mB_wr hb (Or.inr (Or.inl rfl))) (fun x j c1 c2 c3 => wr_n _ _ c3) (wr_s _ _ _ _) (fun n n0 n1 => by omega)
