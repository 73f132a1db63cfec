/-! ### live and dead of the reference -/
theorem RM_w {F : Fl} {μ : nMem} {i : Int} (hA : PA F) (hR : RM F μ) (i0 : 0 ≤ i) (i1 : i < 128) (hw : fN F i 0 ≠ 0) : i % 16 < fC F (i / 16) ∧ μ 22 i = fN F i 0 ∧ μ 23 i = fN F i 3 ∧ μ 24 i = fN F i 4 ∧ μ 32 i = fN F i 1 ∧ μ 33 i = fN F i 2 ∧ (fN F i 0 = 2 → μ 29 i = fN F i 5 ∧ μ 30 i = fN F i 10 ∧ μ 31 i = fN F i 11) := by
  have hin : i % 16 < fC F (i / 16) := Classical.byContradiction (fun h => hw (PA_out hA i0 i1 h 0 (by decide) (by decide)))
  obtain ⟨⟨a, b, c, d, e⟩, -, f⟩ := hR.2 i i0 i1 hin
  exact ⟨hin, a, b, c, d, e, f⟩
theorem cpB_iff {F : Fl} {μ : nMem} {i j : Int} (hA : PA F) (hR : RM F μ) (i0 : 0 ≤ i) (i1 : i < 128) (j0 : 0 ≤ j) (j1 : j < 128) (hw : rW F i) : (j % 16 < μ 34 (j / 16) ∧ μ 33 j = μ 32 j) ∧ (μ 22 i = μ 22 j ∧ μ 23 i = μ 23 j ∧ μ 24 i = μ 24 j) ↔ cpB F i j := by
  have hwi := hw.1
  obtain ⟨-, a, b, c, -, -, -⟩ := RM_w hA hR i0 i1 (by omega)
  rw [wh_iff hA hR j0 j1]
  constructor
  · rintro ⟨⟨p, q⟩, r1, r2, r3⟩
    obtain ⟨-, a', b', c', -, -, -⟩ := RM_w hA hR j0 j1 p
    exact ⟨⟨by omega, q⟩, by omega, by omega, by omega⟩
  · rintro ⟨w, r1, r2, r3⟩
    have hwj := w.1
    obtain ⟨-, a', b', c', -, -, -⟩ := RM_w hA hR j0 j1 (by omega)
    exact ⟨⟨by omega, w.2⟩, by omega, by omega, by omega⟩
theorem cnC_iff {F : Fl} {μ : nMem} {i : Int} (hP : PrM F μ) (i0 : 0 ≤ i) (i1 : i < 128) (hw : rW F i) (hk : fN F i 0 = 2) : mCnC μ i ↔ 0 < fN F i 10 ∧ ∀ j, 0 ≤ j → j < 128 → ¬ rvB F i j := by
  obtain ⟨-, -, p23, p24, p29, p30, -⟩ := PrM_2' hP i0 i1 hw hk
  unfold mCnC
  rw [p30]
  refine and_congr_right (fun _ => forall_congr' (fun j => forall_congr' (fun j0 => forall_congr' (fun j1 => not_congr ?_))))
  unfold mBlC rvB
  rw [p23, p29, p24]
  constructor
  · rintro ⟨a, b, c, d, e⟩
    obtain ⟨w, k2, q3, q4, q5, -, -⟩ := PrM_2 hP j0 j1 a b
    exact ⟨w, k2, by omega, by omega, by omega⟩
  · rintro ⟨a, b, c, d, e⟩
    obtain ⟨w, k2, q3, q4, q5, -, -⟩ := PrM_2' hP j0 j1 a b
    exact ⟨w, k2, by omega, by omega, by omega⟩
theorem sp_X7_isLive {μ : nMem} {ε : nEnv} {Q : nOut → nMem → nEnv → Prop} {F : Fl} {i : Int} (hK : KM F μ ε) (hA : KP F) (i0 : 0 ≤ i) (i1 : i < 128) (hw : rW F i) (h1 : rLive F i → ∀ m, KM F m ε → FrY μ m → Q (.inl (some (vI 1))) m ε) (h0 : ¬ rLive F i → ∀ m, KM F m ε → FrY μ m → Q (.inl (some (vI 0))) m ε) : Sp mX7_isLive [vR 21, vI i] μ ε Q := by
  refine Sp_of (L := [(0, vR 21), (1, vI i)]) (by decide) rfl rfl (Nat.le_of_ble_eq_true rfl) ?_
  have hs := hK.1
  have hR := hK.2.2.1
  have hS := PA_NS hA.1
  have hsk := sOK_k (hS i i0 i1 hw)
  obtain ⟨hin, p22, p23, p24, p32, p33, p2⟩ := RM_w hA.1 hR i0 i1 (by omega)
  have r22 : inR (μ 22 i) := by unfold inR; omega
  have r23 : inR (μ 23 i) := by unfold inR; omega
  refine wq_iconst (pc := 0) dX7_isLive_0 ?_
  refine wq_istore_n (pc := 1) (L' := [(2, _), (0, _), (1, _)]) dX7_isLive_1 rfl rfl (by decide) ?_
  have loop1 : ∀ (n k : Nat), ∀ (j : Int), k ≤ 128 → 128 < k + n → j = (k : Int) → (k : Int) ≤ i → (∀ j : Int, 0 ≤ j → j < (k : Int) → ¬ cpB F i j) → wp mX7_isLive 2 [(0, vR 21), (1, vI i), (2, vI j)] [] μ ε Q := by
    intro n
    induction n with
    | zero => intro k j hk1 hk2 e0 e1 e2; exact absurd hk2 (by omega)
    | succ n ih =>
      intro k j hk1 hk2 e0 e1 e2
      subst e0
      have rk : inR (k : Int) := by unfold inR; omega
      have ri : inR i := by unfold inR; omega
      have hci := fun h0 h1 => cpB_iff (j := (k : Int)) hA.1 hR i0 i1 h0 h1 hw
      refine wq_iload_n (pc := 2) dX7_isLive_2 rfl rfl ?_
      refine wq_iload_n (pc := 3) dX7_isLive_3 rfl rfl ?_
      refine wq_icmp_ge (pc := 4) (tgt := 32) dX7_isLive_4 (by decide) (by first | (unfold inR; omega) | assumption) (by first | (unfold inR; omega) | assumption) (fun c2 => ?_) (fun c2 => ?_)
      · skip
        have hnc : ∀ j, 0 ≤ j → j < i → ¬ cpB F i j := fun j j0 j1 => e2 j j0 (by omega)
        refine wq_aload_n (pc := 32) dX7_isLive_32 rfl rfl ?_
        refine wq_getS (pc := 33) dX7_isLive_33 hs (gf_X7_7 _ rfl) rfl rfl rfl rfl rfl ?_
        refine wq_iload_n (pc := 36) dX7_isLive_36 rfl rfl ?_
        refine wq_ialdK (pc := 37) dX7_isLive_37 hs rfl (by omega) (by omega) ?_
        refine wq_iconst (pc := 38) dX7_isLive_38 ?_
        refine wq_icmp_ne (pc := 39) (tgt := 99) dX7_isLive_39 (by decide) (by first | (unfold inR; omega) | assumption) (by first | (unfold inR; omega) | assumption) (fun c3 => ?_) (fun c3 => ?_)
        · skip
          have hkd : fN F i 0 = 1 := by omega
          refine wq_aload_n (pc := 99) dX7_isLive_99 rfl rfl ?_
          refine wq_aload_n (pc := 100) dX7_isLive_100 rfl rfl ?_
          refine wq_getS (pc := 101) dX7_isLive_101 hs (gf_X7_13 _ rfl) rfl rfl rfl rfl rfl ?_
          refine wq_iload_n (pc := 104) dX7_isLive_104 rfl rfl ?_
          refine wq_ialdK (pc := 105) dX7_isLive_105 hs rfl (by omega) (by omega) ?_
          rw [p23] at r23 ⊢
          refine cVK_1 (pc := 106) dX7_isLive_106 hs (cw_X7_233 _ rfl) (by decide) rfl ⟨by decide, by decide⟩ (Nat.le_of_ble_eq_true rfl) (sp_X7_fileAt hK hA r23 (fun hfil m1 a K1 Y1 a0 a1 q46 co => ?_) (fun hfil m1 K1 Y1 => ?_))
          · skip
            refine kr_s ?_
            have hfil9 := hfil
            have ra : inR a := by unfold inR; omega
            have s23 : m1 23 i = fN F i 3 := (Y1 23 i (by omega) (by omega)).trans p23
            have s24 : m1 24 i = fN F i 4 := (Y1 24 i (by omega) (by omega)).trans p24
            have hlb := LN_b (PA_NS hA.1) (fN F i 3)
            have hq9 := mNxt_q K1.2.2.2 (fN F i 3) (fN F i 4) 128 (Nat.le_refl _)
            have hqr := qNxt_r F (fN F i 3) (fN F i 4) 128
            have rq : inR (qNxt F (fN F i 3) (fN F i 4) 128) := by unfold inR; omega
            refine wq_istore_n (pc := 109) (L' := [(2, _), (0, _), (1, _)]) dX7_isLive_109 rfl rfl (by decide) ?_
            refine wq_iload_n (pc := 110) dX7_isLive_110 rfl rfl ?_
            refine wq_iconst (pc := 111) dX7_isLive_111 ?_
            refine wq_icmp_ne (pc := 112) (tgt := 117) dX7_isLive_112 (by decide) (by first | (unfold inR; omega) | assumption) (by first | (unfold inR; omega) | assumption) (fun c6 => ?_) (fun c6 => ?_)
            · skip
              refine wq_aload_n (pc := 117) dX7_isLive_117 rfl rfl ?_
              refine wq_aload_n (pc := 118) dX7_isLive_118 rfl rfl ?_
              refine wq_getS (pc := 119) dX7_isLive_119 hs (gf_X7_13 _ rfl) rfl rfl rfl rfl rfl ?_
              refine wq_iload_n (pc := 122) dX7_isLive_122 rfl rfl ?_
              refine wq_ialdK (pc := 123) dX7_isLive_123 hs rfl (by omega) (by omega) ?_
              refine wq_aload_n (pc := 124) dX7_isLive_124 rfl rfl ?_
              refine wq_getS (pc := 125) dX7_isLive_125 hs (gf_X7_16 _ rfl) rfl rfl rfl rfl rfl ?_
              refine wq_iload_n (pc := 128) dX7_isLive_128 rfl rfl ?_
              refine wq_ialdK (pc := 129) dX7_isLive_129 hs rfl (by omega) (by omega) ?_
              rw [s23, s24]
              refine cVK_2 (pc := 130) dX7_isLive_130 hs (cw_X7_134 _ rfl) (by decide) rfl ⟨by decide, by decide⟩ (Nat.le_of_ble_eq_true rfl) (sp_X7_nextData hs (mR_of K1.1.2.1) (by unfold inR; omega) (by unfold inR; omega) ?_)
              refine kr_s ?_
              rw [hq9]
              refine wq_iconst (pc := 133) dX7_isLive_133 ?_
              refine wq_icmp_ne (pc := 134) (tgt := 141) dX7_isLive_134 (by decide) (by first | (unfold inR; omega) | assumption) (by first | (unfold inR; omega) | assumption) (fun c7 => ?_) (fun c7 => ?_)
              · skip
                refine wq_iconst (pc := 141) dX7_isLive_141 ?_
                refine wq_istore_n (pc := 142) (L' := [(3, _), (2, _), (0, _), (1, _)]) dX7_isLive_142 rfl rfl (by decide) ?_
                refine wq_bipush (pc := 143) dX7_isLive_143 (by decide) (by decide) ?_
                refine wq_iload_n (pc := 145) dX7_isLive_145 rfl rfl ?_
                refine wq_imul (pc := 146) dX7_isLive_146 ?_
                refine wq_istore (pc := 147) (L' := [(4, _), (3, _), (2, _), (0, _), (1, _)]) dX7_isLive_147 rfl (by decide) ?_
                have loop8 : ∀ (n k : Nat), ∀ (w : Int) (j : Int), k ≤ 64 → 64 < k + n → j = 64 * a + (k : Int) → w = 0 ∨ w = 1 → (k : Int) ≤ LN F (fN F i 3) → (w ≠ 0 → qNxt F (fN F i 3) (fN F i 4) 128 = -1 ∨ owB F i) → (w = 0 → qNxt F (fN F i 3) (fN F i 4) 128 ≠ -1 ∧ ∀ p : Int, 0 ≤ p → p < (k : Int) → OW F (fN F i 3) p ≠ fN F i 4) → wp mX7_isLive 149 [(0, vR 21), (1, vI i), (2, vI a), (3, vI w), (4, vI j)] [] m1 ε Q := by
                  intro n
                  induction n with
                  | zero => intro k w j hk1 hk2 e0 e1 e2 e3 e4; exact absurd hk2 (by omega)
                  | succ n ih =>
                    intro k w j hk1 hk2 e0 e1 e2 e3 e4
                    subst e0
                    have rk : inR (64 * a + (k : Int)) := by unfold inR; omega
                    have rw1 : inR w := by unfold inR; omega
                    have s47 : m1 47 a = LN F (fN F i 3) := co.1
                    have r47 : inR (64 * a + m1 47 a) := by unfold inR; omega
                    have r50 : inR (m1 50 (64 * a + (k : Int))) := (mR_of K1.1.2.1) 50 _ (by decide) (by decide) (by decide)
                    have r24b : inR (m1 24 i) := (mR_of K1.1.2.1) 24 _ (by decide) (by decide) (by decide)
                    have s50 : ∀ z : (k : Int) < 64, m1 50 (64 * a + (k : Int)) = OW F (fN F i 3) k := fun z => (co.2 k (by omega) z).2
                    refine wq_iload (pc := 149) dX7_isLive_149 rfl ?_
                    refine wq_bipush (pc := 151) dX7_isLive_151 (by decide) (by decide) ?_
                    refine wq_iload_n (pc := 153) dX7_isLive_153 rfl rfl ?_
                    refine wq_imul (pc := 154) dX7_isLive_154 ?_
                    refine wq_aload_n (pc := 155) dX7_isLive_155 rfl rfl ?_
                    refine wq_getS (pc := 156) dX7_isLive_156 hs (gf_X7_87 _ rfl) rfl rfl rfl rfl rfl ?_
                    refine wq_iload_n (pc := 159) dX7_isLive_159 rfl rfl ?_
                    refine wq_ialdK (pc := 160) dX7_isLive_160 hs rfl (by omega) (by omega) ?_
                    refine wq_iadd (pc := 161) dX7_isLive_161 ?_
                    refine wq_icmp_ge (pc := 162) (tgt := 197) dX7_isLive_162 (by decide) (by first | (unfold inR; omega) | assumption) (by first | (unfold inR; omega) | assumption) (fun c9 => ?_) (fun c9 => ?_)
                    · skip
                      refine wq_iload_n (pc := 197) dX7_isLive_197 rfl rfl ?_
                      refine wq_zret (pc := 198) dX7_isLive_198 rfl (by first | omega | (simp; done) | assumption) ?_
                      first
                        | (exfalso; omega)
                        | exact h0 (fun z => z.1 k (by omega) (by omega) ((hci (by omega) (by omega)).mp ⟨hwk9, hcp9⟩)) _ hK (FrY_r _)
                        | exact h1 ⟨hnc, fun _ => ⟨hdir9, by omega, hcn9.1, hcn9.2⟩, fun z => absurd z (by omega)⟩ _ K3.1 Y5
                        | exact h0 (fun z => hcn9 ⟨(z.2.1 hkn).2.2.1, (z.2.1 hkn).2.2.2⟩) _ K3.1 Y5
                        | exact h0 (fun z => (z.2.1 hkn).2.1 (by omega)) _ K3.1 Y5
                        | exact h0 (fun z => hdir9 (z.2.1 hkn).1) _ K3.1 Y5
                        | exact h0 (fun z => hfil9 (z.2.2 hkd).1) _ K1.1 Y1
                        | (rcases e1 with c | c
                           · rw [c]
                             refine h0 (fun z => ?_) _ K1.1 Y1
                             obtain ⟨e4a, e4b⟩ := e4 c
                             rcases (z.2.2 hkd).2 with y | ⟨p, ⟨p0, p1⟩, y⟩
                             · exact e4a y
                             · exact e4b p p0 (by omega) y
                           · rw [c]
                             exact h1 ⟨hnc, fun z => absurd z (by omega), fun _ => ⟨hfil9, e3 (by omega)⟩⟩ _ K1.1 Y1)
                    · skip
                      refine wq_iload_n (pc := 165) dX7_isLive_165 rfl rfl ?_
                      refine wq_if_ne (pc := 166) (tgt := 185) dX7_isLive_166 (by decide) (by first | (unfold inR; omega) | assumption) (fun c10 => ?_) (fun c10 => ?_)
                      · skip
                        refine wq_iconst (pc := 185) dX7_isLive_185 ?_
                        refine wq_goto (pc := 186) (tgt := 190) dX7_isLive_186 (by decide) ?_
                        refine wq_istore_n (pc := 190) (L' := [(3, _), (0, _), (1, _), (2, _), (4, _)]) dX7_isLive_190 rfl rfl (by decide) ?_
                        refine wq_iinc (pc := 191) (L' := [(4, _), (3, _), (0, _), (1, _), (2, _)]) dX7_isLive_191 rfl rfl (by decide) ?_
                        refine wq_goto (pc := 194) (tgt := 149) dX7_isLive_194 (by decide) ?_
                        refine wq_sub1 (L' := [(0, _), (1, _), (2, _), (3, _), (4, _)]) ⟨rfl, rfl, rfl, rfl, rfl, trivial⟩ ?_
                        first
                          | (exfalso; omega)
                          | exact ih (k + 1) _ _ (by omega) (by omega) (by omega) (Or.inr rfl) (by omega) (fun _ => e3 (by assumption)) (fun z => absurd z (by decide))
                          | exact ih (k + 1) _ _ (by omega) (by omega) (by omega) (Or.inr rfl) (by omega) (fun _ => Or.inr ⟨k, by omega, by have := s50 (by omega); omega⟩) (fun z => absurd z (by decide))
                          | exact ih (k + 1) _ _ (by omega) (by omega) (by omega) (Or.inl rfl) (by omega) (fun z => absurd rfl z) (fun _ => ⟨(e4 (by omega)).1, fun p p0 p1 => by
                              by_cases c9 : p = k
                              · rw [c9]; have := s50 (by omega); omega
                              · exact (e4 (by omega)).2 p p0 (by omega)⟩)
                      · skip
                        refine wq_aload_n (pc := 169) dX7_isLive_169 rfl rfl ?_
                        refine wq_getS (pc := 170) dX7_isLive_170 hs (gf_X7_96 _ rfl) rfl rfl rfl rfl rfl ?_
                        refine wq_iload (pc := 173) dX7_isLive_173 rfl ?_
                        refine wq_ialdK (pc := 175) dX7_isLive_175 hs rfl (by omega) (by omega) ?_
                        refine wq_aload_n (pc := 176) dX7_isLive_176 rfl rfl ?_
                        refine wq_getS (pc := 177) dX7_isLive_177 hs (gf_X7_16 _ rfl) rfl rfl rfl rfl rfl ?_
                        refine wq_iload_n (pc := 180) dX7_isLive_180 rfl rfl ?_
                        refine wq_ialdK (pc := 181) dX7_isLive_181 hs rfl (by omega) (by omega) ?_
                        refine wq_icmp_ne (pc := 182) (tgt := 189) dX7_isLive_182 (by decide) (by first | (unfold inR; omega) | assumption) (by first | (unfold inR; omega) | assumption) (fun c11 => ?_) (fun c11 => ?_)
                        · skip
                          refine wq_iconst (pc := 189) dX7_isLive_189 ?_
                          refine wq_istore_n (pc := 190) (L' := [(3, _), (0, _), (1, _), (2, _), (4, _)]) dX7_isLive_190 rfl rfl (by decide) ?_
                          refine wq_iinc (pc := 191) (L' := [(4, _), (3, _), (0, _), (1, _), (2, _)]) dX7_isLive_191 rfl rfl (by decide) ?_
                          refine wq_goto (pc := 194) (tgt := 149) dX7_isLive_194 (by decide) ?_
                          refine wq_sub1 (L' := [(0, _), (1, _), (2, _), (3, _), (4, _)]) ⟨rfl, rfl, rfl, rfl, rfl, trivial⟩ ?_
                          first
                            | (exfalso; omega)
                            | exact ih (k + 1) _ _ (by omega) (by omega) (by omega) (Or.inr rfl) (by omega) (fun _ => e3 (by assumption)) (fun z => absurd z (by decide))
                            | exact ih (k + 1) _ _ (by omega) (by omega) (by omega) (Or.inr rfl) (by omega) (fun _ => Or.inr ⟨k, by omega, by have := s50 (by omega); omega⟩) (fun z => absurd z (by decide))
                            | exact ih (k + 1) _ _ (by omega) (by omega) (by omega) (Or.inl rfl) (by omega) (fun z => absurd rfl z) (fun _ => ⟨(e4 (by omega)).1, fun p p0 p1 => by
                                by_cases c9 : p = k
                                · rw [c9]; have := s50 (by omega); omega
                                · exact (e4 (by omega)).2 p p0 (by omega)⟩)
                        · skip
                          refine wq_iconst (pc := 185) dX7_isLive_185 ?_
                          refine wq_goto (pc := 186) (tgt := 190) dX7_isLive_186 (by decide) ?_
                          refine wq_istore_n (pc := 190) (L' := [(3, _), (0, _), (1, _), (2, _), (4, _)]) dX7_isLive_190 rfl rfl (by decide) ?_
                          refine wq_iinc (pc := 191) (L' := [(4, _), (3, _), (0, _), (1, _), (2, _)]) dX7_isLive_191 rfl rfl (by decide) ?_
                          refine wq_goto (pc := 194) (tgt := 149) dX7_isLive_194 (by decide) ?_
                          refine wq_sub1 (L' := [(0, _), (1, _), (2, _), (3, _), (4, _)]) ⟨rfl, rfl, rfl, rfl, rfl, trivial⟩ ?_
                          first
                            | (exfalso; omega)
                            | exact ih (k + 1) _ _ (by omega) (by omega) (by omega) (Or.inr rfl) (by omega) (fun _ => e3 (by assumption)) (fun z => absurd z (by decide))
                            | exact ih (k + 1) _ _ (by omega) (by omega) (by omega) (Or.inr rfl) (by omega) (fun _ => Or.inr ⟨k, by omega, by have := s50 (by omega); omega⟩) (fun z => absurd z (by decide))
                            | exact ih (k + 1) _ _ (by omega) (by omega) (by omega) (Or.inl rfl) (by omega) (fun z => absurd rfl z) (fun _ => ⟨(e4 (by omega)).1, fun p p0 p1 => by
                                by_cases c9 : p = k
                                · rw [c9]; have := s50 (by omega); omega
                                · exact (e4 (by omega)).2 p p0 (by omega)⟩)
                refine wq_sub1 (L' := [(0, _), (1, _), (2, _), (3, _), (4, _)]) ⟨rfl, rfl, rfl, rfl, rfl, trivial⟩ ?_
                exact loop8 65 0 _ _ (by omega) (by omega) (by omega) (by first | exact Or.inr rfl | exact Or.inl rfl) (by omega) (fun z => by first | exact absurd rfl z | exact Or.inl (by assumption)) (fun z => by first | exact absurd z (by decide) | exact ⟨by assumption, fun p p0 p1 => by omega⟩)
              · skip
                refine wq_iconst (pc := 137) dX7_isLive_137 ?_
                refine wq_goto (pc := 138) (tgt := 142) dX7_isLive_138 (by decide) ?_
                refine wq_istore_n (pc := 142) (L' := [(3, _), (2, _), (0, _), (1, _)]) dX7_isLive_142 rfl rfl (by decide) ?_
                refine wq_bipush (pc := 143) dX7_isLive_143 (by decide) (by decide) ?_
                refine wq_iload_n (pc := 145) dX7_isLive_145 rfl rfl ?_
                refine wq_imul (pc := 146) dX7_isLive_146 ?_
                refine wq_istore (pc := 147) (L' := [(4, _), (3, _), (2, _), (0, _), (1, _)]) dX7_isLive_147 rfl (by decide) ?_
                have loop12 : ∀ (n k : Nat), ∀ (w : Int) (j : Int), k ≤ 64 → 64 < k + n → j = 64 * a + (k : Int) → w = 0 ∨ w = 1 → (k : Int) ≤ LN F (fN F i 3) → (w ≠ 0 → qNxt F (fN F i 3) (fN F i 4) 128 = -1 ∨ owB F i) → (w = 0 → qNxt F (fN F i 3) (fN F i 4) 128 ≠ -1 ∧ ∀ p : Int, 0 ≤ p → p < (k : Int) → OW F (fN F i 3) p ≠ fN F i 4) → wp mX7_isLive 149 [(0, vR 21), (1, vI i), (2, vI a), (3, vI w), (4, vI j)] [] m1 ε Q := by
                  intro n
                  induction n with
                  | zero => intro k w j hk1 hk2 e0 e1 e2 e3 e4; exact absurd hk2 (by omega)
                  | succ n ih =>
                    intro k w j hk1 hk2 e0 e1 e2 e3 e4
                    subst e0
                    have rk : inR (64 * a + (k : Int)) := by unfold inR; omega
                    have rw1 : inR w := by unfold inR; omega
                    have s47 : m1 47 a = LN F (fN F i 3) := co.1
                    have r47 : inR (64 * a + m1 47 a) := by unfold inR; omega
                    have r50 : inR (m1 50 (64 * a + (k : Int))) := (mR_of K1.1.2.1) 50 _ (by decide) (by decide) (by decide)
                    have r24b : inR (m1 24 i) := (mR_of K1.1.2.1) 24 _ (by decide) (by decide) (by decide)
                    have s50 : ∀ z : (k : Int) < 64, m1 50 (64 * a + (k : Int)) = OW F (fN F i 3) k := fun z => (co.2 k (by omega) z).2
                    refine wq_iload (pc := 149) dX7_isLive_149 rfl ?_
                    refine wq_bipush (pc := 151) dX7_isLive_151 (by decide) (by decide) ?_
                    refine wq_iload_n (pc := 153) dX7_isLive_153 rfl rfl ?_
                    refine wq_imul (pc := 154) dX7_isLive_154 ?_
                    refine wq_aload_n (pc := 155) dX7_isLive_155 rfl rfl ?_
                    refine wq_getS (pc := 156) dX7_isLive_156 hs (gf_X7_87 _ rfl) rfl rfl rfl rfl rfl ?_
                    refine wq_iload_n (pc := 159) dX7_isLive_159 rfl rfl ?_
                    refine wq_ialdK (pc := 160) dX7_isLive_160 hs rfl (by omega) (by omega) ?_
                    refine wq_iadd (pc := 161) dX7_isLive_161 ?_
                    refine wq_icmp_ge (pc := 162) (tgt := 197) dX7_isLive_162 (by decide) (by first | (unfold inR; omega) | assumption) (by first | (unfold inR; omega) | assumption) (fun c13 => ?_) (fun c13 => ?_)
                    · skip
                      refine wq_iload_n (pc := 197) dX7_isLive_197 rfl rfl ?_
                      refine wq_zret (pc := 198) dX7_isLive_198 rfl (by first | omega | (simp; done) | assumption) ?_
                      first
                        | (exfalso; omega)
                        | exact h0 (fun z => z.1 k (by omega) (by omega) ((hci (by omega) (by omega)).mp ⟨hwk9, hcp9⟩)) _ hK (FrY_r _)
                        | exact h1 ⟨hnc, fun _ => ⟨hdir9, by omega, hcn9.1, hcn9.2⟩, fun z => absurd z (by omega)⟩ _ K3.1 Y5
                        | exact h0 (fun z => hcn9 ⟨(z.2.1 hkn).2.2.1, (z.2.1 hkn).2.2.2⟩) _ K3.1 Y5
                        | exact h0 (fun z => (z.2.1 hkn).2.1 (by omega)) _ K3.1 Y5
                        | exact h0 (fun z => hdir9 (z.2.1 hkn).1) _ K3.1 Y5
                        | exact h0 (fun z => hfil9 (z.2.2 hkd).1) _ K1.1 Y1
                        | (rcases e1 with c | c
                           · rw [c]
                             refine h0 (fun z => ?_) _ K1.1 Y1
                             obtain ⟨e4a, e4b⟩ := e4 c
                             rcases (z.2.2 hkd).2 with y | ⟨p, ⟨p0, p1⟩, y⟩
                             · exact e4a y
                             · exact e4b p p0 (by omega) y
                           · rw [c]
                             exact h1 ⟨hnc, fun z => absurd z (by omega), fun _ => ⟨hfil9, e3 (by omega)⟩⟩ _ K1.1 Y1)
                    · skip
                      refine wq_iload_n (pc := 165) dX7_isLive_165 rfl rfl ?_
                      refine wq_if_ne (pc := 166) (tgt := 185) dX7_isLive_166 (by decide) (by first | (unfold inR; omega) | assumption) (fun c14 => ?_) (fun c14 => ?_)
                      · skip
                        refine wq_iconst (pc := 185) dX7_isLive_185 ?_
                        refine wq_goto (pc := 186) (tgt := 190) dX7_isLive_186 (by decide) ?_
                        refine wq_istore_n (pc := 190) (L' := [(3, _), (0, _), (1, _), (2, _), (4, _)]) dX7_isLive_190 rfl rfl (by decide) ?_
                        refine wq_iinc (pc := 191) (L' := [(4, _), (3, _), (0, _), (1, _), (2, _)]) dX7_isLive_191 rfl rfl (by decide) ?_
                        refine wq_goto (pc := 194) (tgt := 149) dX7_isLive_194 (by decide) ?_
                        refine wq_sub1 (L' := [(0, _), (1, _), (2, _), (3, _), (4, _)]) ⟨rfl, rfl, rfl, rfl, rfl, trivial⟩ ?_
                        first
                          | (exfalso; omega)
                          | exact ih (k + 1) _ _ (by omega) (by omega) (by omega) (Or.inr rfl) (by omega) (fun _ => e3 (by assumption)) (fun z => absurd z (by decide))
                          | exact ih (k + 1) _ _ (by omega) (by omega) (by omega) (Or.inr rfl) (by omega) (fun _ => Or.inr ⟨k, by omega, by have := s50 (by omega); omega⟩) (fun z => absurd z (by decide))
                          | exact ih (k + 1) _ _ (by omega) (by omega) (by omega) (Or.inl rfl) (by omega) (fun z => absurd rfl z) (fun _ => ⟨(e4 (by omega)).1, fun p p0 p1 => by
                              by_cases c9 : p = k
                              · rw [c9]; have := s50 (by omega); omega
                              · exact (e4 (by omega)).2 p p0 (by omega)⟩)
                      · skip
                        refine wq_aload_n (pc := 169) dX7_isLive_169 rfl rfl ?_
                        refine wq_getS (pc := 170) dX7_isLive_170 hs (gf_X7_96 _ rfl) rfl rfl rfl rfl rfl ?_
                        refine wq_iload (pc := 173) dX7_isLive_173 rfl ?_
                        refine wq_ialdK (pc := 175) dX7_isLive_175 hs rfl (by omega) (by omega) ?_
                        refine wq_aload_n (pc := 176) dX7_isLive_176 rfl rfl ?_
                        refine wq_getS (pc := 177) dX7_isLive_177 hs (gf_X7_16 _ rfl) rfl rfl rfl rfl rfl ?_
                        refine wq_iload_n (pc := 180) dX7_isLive_180 rfl rfl ?_
                        refine wq_ialdK (pc := 181) dX7_isLive_181 hs rfl (by omega) (by omega) ?_
                        refine wq_icmp_ne (pc := 182) (tgt := 189) dX7_isLive_182 (by decide) (by first | (unfold inR; omega) | assumption) (by first | (unfold inR; omega) | assumption) (fun c15 => ?_) (fun c15 => ?_)
                        · skip
                          refine wq_iconst (pc := 189) dX7_isLive_189 ?_
                          refine wq_istore_n (pc := 190) (L' := [(3, _), (0, _), (1, _), (2, _), (4, _)]) dX7_isLive_190 rfl rfl (by decide) ?_
                          refine wq_iinc (pc := 191) (L' := [(4, _), (3, _), (0, _), (1, _), (2, _)]) dX7_isLive_191 rfl rfl (by decide) ?_
                          refine wq_goto (pc := 194) (tgt := 149) dX7_isLive_194 (by decide) ?_
                          refine wq_sub1 (L' := [(0, _), (1, _), (2, _), (3, _), (4, _)]) ⟨rfl, rfl, rfl, rfl, rfl, trivial⟩ ?_
                          first
                            | (exfalso; omega)
                            | exact ih (k + 1) _ _ (by omega) (by omega) (by omega) (Or.inr rfl) (by omega) (fun _ => e3 (by assumption)) (fun z => absurd z (by decide))
                            | exact ih (k + 1) _ _ (by omega) (by omega) (by omega) (Or.inr rfl) (by omega) (fun _ => Or.inr ⟨k, by omega, by have := s50 (by omega); omega⟩) (fun z => absurd z (by decide))
                            | exact ih (k + 1) _ _ (by omega) (by omega) (by omega) (Or.inl rfl) (by omega) (fun z => absurd rfl z) (fun _ => ⟨(e4 (by omega)).1, fun p p0 p1 => by
                                by_cases c9 : p = k
                                · rw [c9]; have := s50 (by omega); omega
                                · exact (e4 (by omega)).2 p p0 (by omega)⟩)
                        · skip
                          refine wq_iconst (pc := 185) dX7_isLive_185 ?_
                          refine wq_goto (pc := 186) (tgt := 190) dX7_isLive_186 (by decide) ?_
                          refine wq_istore_n (pc := 190) (L' := [(3, _), (0, _), (1, _), (2, _), (4, _)]) dX7_isLive_190 rfl rfl (by decide) ?_
                          refine wq_iinc (pc := 191) (L' := [(4, _), (3, _), (0, _), (1, _), (2, _)]) dX7_isLive_191 rfl rfl (by decide) ?_
                          refine wq_goto (pc := 194) (tgt := 149) dX7_isLive_194 (by decide) ?_
                          refine wq_sub1 (L' := [(0, _), (1, _), (2, _), (3, _), (4, _)]) ⟨rfl, rfl, rfl, rfl, rfl, trivial⟩ ?_
                          first
                            | (exfalso; omega)
                            | exact ih (k + 1) _ _ (by omega) (by omega) (by omega) (Or.inr rfl) (by omega) (fun _ => e3 (by assumption)) (fun z => absurd z (by decide))
                            | exact ih (k + 1) _ _ (by omega) (by omega) (by omega) (Or.inr rfl) (by omega) (fun _ => Or.inr ⟨k, by omega, by have := s50 (by omega); omega⟩) (fun z => absurd z (by decide))
                            | exact ih (k + 1) _ _ (by omega) (by omega) (by omega) (Or.inl rfl) (by omega) (fun z => absurd rfl z) (fun _ => ⟨(e4 (by omega)).1, fun p p0 p1 => by
                                by_cases c9 : p = k
                                · rw [c9]; have := s50 (by omega); omega
                                · exact (e4 (by omega)).2 p p0 (by omega)⟩)
                refine wq_sub1 (L' := [(0, _), (1, _), (2, _), (3, _), (4, _)]) ⟨rfl, rfl, rfl, rfl, rfl, trivial⟩ ?_
                exact loop12 65 0 _ _ (by omega) (by omega) (by omega) (by first | exact Or.inr rfl | exact Or.inl rfl) (by omega) (fun z => by first | exact absurd rfl z | exact Or.inl (by assumption)) (fun z => by first | exact absurd z (by decide) | exact ⟨by assumption, fun p p0 p1 => by omega⟩)
            · skip
              refine wq_iconst (pc := 115) dX7_isLive_115 ?_
              refine wq_zret (pc := 116) dX7_isLive_116 rfl (by first | omega | (simp; done) | assumption) ?_
              first
                | (exfalso; omega)
                | exact h0 (fun z => z.1 k (by omega) (by omega) ((hci (by omega) (by omega)).mp ⟨hwk9, hcp9⟩)) _ hK (FrY_r _)
                | exact h1 ⟨hnc, fun _ => ⟨hdir9, by omega, hcn9.1, hcn9.2⟩, fun z => absurd z (by omega)⟩ _ K3.1 Y5
                | exact h0 (fun z => hcn9 ⟨(z.2.1 hkn).2.2.1, (z.2.1 hkn).2.2.2⟩) _ K3.1 Y5
                | exact h0 (fun z => (z.2.1 hkn).2.1 (by omega)) _ K3.1 Y5
                | exact h0 (fun z => hdir9 (z.2.1 hkn).1) _ K3.1 Y5
                | exact h0 (fun z => hfil9 (z.2.2 hkd).1) _ K1.1 Y1
                | (rcases e1 with c | c
                   · rw [c]
                     refine h0 (fun z => ?_) _ K1.1 Y1
                     obtain ⟨e4a, e4b⟩ := e4 c
                     rcases (z.2.2 hkd).2 with y | ⟨p, ⟨p0, p1⟩, y⟩
                     · exact e4a y
                     · exact e4b p p0 (by omega) y
                   · rw [c]
                     exact h1 ⟨hnc, fun z => absurd z (by omega), fun _ => ⟨hfil9, e3 (by omega)⟩⟩ _ K1.1 Y1)
          · skip
            refine kr_s ?_
            have hfil9 := hfil
            refine wq_istore_n (pc := 109) (L' := [(2, _), (0, _), (1, _)]) dX7_isLive_109 rfl rfl (by decide) ?_
            refine wq_iload_n (pc := 110) dX7_isLive_110 rfl rfl ?_
            refine wq_iconst (pc := 111) dX7_isLive_111 ?_
            refine wq_icmp_ne (pc := 112) (tgt := 117) dX7_isLive_112 (by decide) (by first | (unfold inR; omega) | assumption) (by first | (unfold inR; omega) | assumption) (fun c9 => by exfalso; omega) (fun _ => ?_)
            refine wq_iconst (pc := 115) dX7_isLive_115 ?_
            refine wq_zret (pc := 116) dX7_isLive_116 rfl (by first | omega | (simp; done) | assumption) ?_
            first
              | (exfalso; omega)
              | exact h0 (fun z => z.1 k (by omega) (by omega) ((hci (by omega) (by omega)).mp ⟨hwk9, hcp9⟩)) _ hK (FrY_r _)
              | exact h1 ⟨hnc, fun _ => ⟨hdir9, by omega, hcn9.1, hcn9.2⟩, fun z => absurd z (by omega)⟩ _ K3.1 Y5
              | exact h0 (fun z => hcn9 ⟨(z.2.1 hkn).2.2.1, (z.2.1 hkn).2.2.2⟩) _ K3.1 Y5
              | exact h0 (fun z => (z.2.1 hkn).2.1 (by omega)) _ K3.1 Y5
              | exact h0 (fun z => hdir9 (z.2.1 hkn).1) _ K3.1 Y5
              | exact h0 (fun z => hfil9 (z.2.2 hkd).1) _ K1.1 Y1
              | (rcases e1 with c | c
                 · rw [c]
                   refine h0 (fun z => ?_) _ K1.1 Y1
                   obtain ⟨e4a, e4b⟩ := e4 c
                   rcases (z.2.2 hkd).2 with y | ⟨p, ⟨p0, p1⟩, y⟩
                   · exact e4a y
                   · exact e4b p p0 (by omega) y
                 · rw [c]
                   exact h1 ⟨hnc, fun z => absurd z (by omega), fun _ => ⟨hfil9, e3 (by omega)⟩⟩ _ K1.1 Y1)
        · skip
          have hkn : fN F i 0 = 2 := by omega
          obtain ⟨q29, q30, q31⟩ := p2 hkn
          have hnm : nmR (fN F i 5) := by rcases hS i i0 i1 hw with q | q; omega; exact q.2.2.2.2.1
          refine wq_aload_n (pc := 42) dX7_isLive_42 rfl rfl ?_
          refine wq_aload_n (pc := 43) dX7_isLive_43 rfl rfl ?_
          refine wq_getS (pc := 44) dX7_isLive_44 hs (gf_X7_13 _ rfl) rfl rfl rfl rfl rfl ?_
          refine wq_iload_n (pc := 47) dX7_isLive_47 rfl rfl ?_
          refine wq_ialdK (pc := 48) dX7_isLive_48 hs rfl (by omega) (by omega) ?_
          rw [p23] at r23 ⊢
          refine cVK_1 (pc := 49) dX7_isLive_49 hs (cw_X7_213 _ rfl) (by decide) rfl ⟨by decide, by decide⟩ (Nat.le_of_ble_eq_true rfl) (sp_X7_hasDirectory hK hA r23 (fun hdir m1 K1 Y1 => ?_) (fun hdir m1 K1 Y1 => ?_))
          · skip
            refine kr_s ?_
            have hdir9 := hdir
            have s23 : m1 23 i = fN F i 3 := (Y1 23 i (by omega) (by omega)).trans p23
            have s29 : m1 29 i = fN F i 5 := (Y1 29 i (by omega) (by omega)).trans q29
            refine wq_if_eq (pc := 52) (tgt := 74) dX7_isLive_52 (by decide) (by first | (unfold inR; omega) | assumption) (fun c => absurd c (by decide)) (fun _ => ?_)
            refine wq_aload_n (pc := 55) dX7_isLive_55 rfl rfl ?_
            refine wq_aload_n (pc := 56) dX7_isLive_56 rfl rfl ?_
            refine wq_getS (pc := 57) dX7_isLive_57 hs (gf_X7_13 _ rfl) rfl rfl rfl rfl rfl ?_
            refine wq_iload_n (pc := 60) dX7_isLive_60 rfl rfl ?_
            refine wq_ialdK (pc := 61) dX7_isLive_61 hs rfl (by omega) (by omega) ?_
            refine wq_aload_n (pc := 62) dX7_isLive_62 rfl rfl ?_
            refine wq_getS (pc := 63) dX7_isLive_63 hs (gf_X7_32 _ rfl) rfl rfl rfl rfl rfl ?_
            refine wq_iload_n (pc := 66) dX7_isLive_66 rfl rfl ?_
            refine wq_ialdK (pc := 67) dX7_isLive_67 hs rfl (by omega) (by omega) ?_
            rw [s23, s29]
            refine cVK_2 (pc := 68) dX7_isLive_68 hs (cw_X7_171 _ rfl) (by decide) rfl ⟨by decide, by decide⟩ (Nat.le_of_ble_eq_true rfl) (sp_X7_entry K1.1 hA hdir hnm (fun m2 v K2 Y2 ev => ?_))
            refine kr_s ?_
            have rv : inR v := by unfold inR; omega
            have K4 := K2
            have Y4 := FrY_t Y1 Y2
            refine wq_goto (pc := 71) (tgt := 75) dX7_isLive_71 (by decide) ?_
            refine wq_istore_n (pc := 75) (L' := [(2, _), (0, _), (1, _)]) dX7_isLive_75 rfl rfl (by decide) ?_
            refine wq_aload_n (pc := 76) dX7_isLive_76 rfl rfl ?_
            refine cVK_0 (pc := 77) dX7_isLive_77 hs (cw_X7_168 _ rfl) (by decide) rfl ⟨by decide, by decide⟩ (Nat.le_of_ble_eq_true rfl) (sp_X7_layNow K4.1 hA (fun m3 K3 Y3 => ?_))
            refine kr_v ?_
            have Y5 := FrY_t Y4 Y3
            refine wq_iload_n (pc := 80) dX7_isLive_80 rfl rfl ?_
            refine wq_iconst (pc := 81) dX7_isLive_81 ?_
            refine wq_icmp_eq (pc := 82) (tgt := 97) dX7_isLive_82 (by decide) (by first | (unfold inR; omega) | assumption) (by first | (unfold inR; omega) | assumption) (fun c22 => ?_) (fun c22 => ?_)
            · skip
              refine wq_iconst (pc := 97) dX7_isLive_97 ?_
              refine wq_zret (pc := 98) dX7_isLive_98 rfl (by first | omega | (simp; done) | assumption) ?_
              first
                | (exfalso; omega)
                | exact h0 (fun z => z.1 k (by omega) (by omega) ((hci (by omega) (by omega)).mp ⟨hwk9, hcp9⟩)) _ hK (FrY_r _)
                | exact h1 ⟨hnc, fun _ => ⟨hdir9, by omega, hcn9.1, hcn9.2⟩, fun z => absurd z (by omega)⟩ _ K3.1 Y5
                | exact h0 (fun z => hcn9 ⟨(z.2.1 hkn).2.2.1, (z.2.1 hkn).2.2.2⟩) _ K3.1 Y5
                | exact h0 (fun z => (z.2.1 hkn).2.1 (by omega)) _ K3.1 Y5
                | exact h0 (fun z => hdir9 (z.2.1 hkn).1) _ K3.1 Y5
                | exact h0 (fun z => hfil9 (z.2.2 hkd).1) _ K1.1 Y1
                | (rcases e1 with c | c
                   · rw [c]
                     refine h0 (fun z => ?_) _ K1.1 Y1
                     obtain ⟨e4a, e4b⟩ := e4 c
                     rcases (z.2.2 hkd).2 with y | ⟨p, ⟨p0, p1⟩, y⟩
                     · exact e4a y
                     · exact e4b p p0 (by omega) y
                   · rw [c]
                     exact h1 ⟨hnc, fun z => absurd z (by omega), fun _ => ⟨hfil9, e3 (by omega)⟩⟩ _ K1.1 Y1)
            · skip
              refine wq_aload_n (pc := 85) dX7_isLive_85 rfl rfl ?_
              refine wq_iload_n (pc := 86) dX7_isLive_86 rfl rfl ?_
              refine cVK_1 (pc := 87) dX7_isLive_87 hs (cw_X7_249 _ rfl) (by decide) rfl ⟨by decide, by decide⟩ (Nat.le_of_ble_eq_true rfl) (sp_X7_isCounting hs (mR_of K3.1.2.1) i0 i1 (fun hcn => ?_) (fun hcn => ?_))
              · skip
                refine kr_s ?_
                have hcn9 := (cnC_iff K3.2.2.2 i0 i1 hw hkn).mp hcn
                refine wq_if_eq (pc := 90) (tgt := 97) dX7_isLive_90 (by decide) (by first | (unfold inR; omega) | assumption) (fun c => absurd c (by decide)) (fun _ => ?_)
                refine wq_iconst (pc := 93) dX7_isLive_93 ?_
                refine wq_goto (pc := 94) (tgt := 98) dX7_isLive_94 (by decide) ?_
                refine wq_zret (pc := 98) dX7_isLive_98 rfl (by first | omega | (simp; done) | assumption) ?_
                first
                  | (exfalso; omega)
                  | exact h0 (fun z => z.1 k (by omega) (by omega) ((hci (by omega) (by omega)).mp ⟨hwk9, hcp9⟩)) _ hK (FrY_r _)
                  | exact h1 ⟨hnc, fun _ => ⟨hdir9, by omega, hcn9.1, hcn9.2⟩, fun z => absurd z (by omega)⟩ _ K3.1 Y5
                  | exact h0 (fun z => hcn9 ⟨(z.2.1 hkn).2.2.1, (z.2.1 hkn).2.2.2⟩) _ K3.1 Y5
                  | exact h0 (fun z => (z.2.1 hkn).2.1 (by omega)) _ K3.1 Y5
                  | exact h0 (fun z => hdir9 (z.2.1 hkn).1) _ K3.1 Y5
                  | exact h0 (fun z => hfil9 (z.2.2 hkd).1) _ K1.1 Y1
                  | (rcases e1 with c | c
                     · rw [c]
                       refine h0 (fun z => ?_) _ K1.1 Y1
                       obtain ⟨e4a, e4b⟩ := e4 c
                       rcases (z.2.2 hkd).2 with y | ⟨p, ⟨p0, p1⟩, y⟩
                       · exact e4a y
                       · exact e4b p p0 (by omega) y
                     · rw [c]
                       exact h1 ⟨hnc, fun z => absurd z (by omega), fun _ => ⟨hfil9, e3 (by omega)⟩⟩ _ K1.1 Y1)
              · skip
                refine kr_s ?_
                have hcn9 := fun z => hcn ((cnC_iff K3.2.2.2 i0 i1 hw hkn).mpr z)
                refine wq_if_eq (pc := 90) (tgt := 97) dX7_isLive_90 (by decide) (by first | (unfold inR; omega) | assumption) (fun _ => ?_) (fun c => absurd c (by decide))
                refine wq_iconst (pc := 97) dX7_isLive_97 ?_
                refine wq_zret (pc := 98) dX7_isLive_98 rfl (by first | omega | (simp; done) | assumption) ?_
                first
                  | (exfalso; omega)
                  | exact h0 (fun z => z.1 k (by omega) (by omega) ((hci (by omega) (by omega)).mp ⟨hwk9, hcp9⟩)) _ hK (FrY_r _)
                  | exact h1 ⟨hnc, fun _ => ⟨hdir9, by omega, hcn9.1, hcn9.2⟩, fun z => absurd z (by omega)⟩ _ K3.1 Y5
                  | exact h0 (fun z => hcn9 ⟨(z.2.1 hkn).2.2.1, (z.2.1 hkn).2.2.2⟩) _ K3.1 Y5
                  | exact h0 (fun z => (z.2.1 hkn).2.1 (by omega)) _ K3.1 Y5
                  | exact h0 (fun z => hdir9 (z.2.1 hkn).1) _ K3.1 Y5
                  | exact h0 (fun z => hfil9 (z.2.2 hkd).1) _ K1.1 Y1
                  | (rcases e1 with c | c
                     · rw [c]
                       refine h0 (fun z => ?_) _ K1.1 Y1
                       obtain ⟨e4a, e4b⟩ := e4 c
                       rcases (z.2.2 hkd).2 with y | ⟨p, ⟨p0, p1⟩, y⟩
                       · exact e4a y
                       · exact e4b p p0 (by omega) y
                     · rw [c]
                       exact h1 ⟨hnc, fun z => absurd z (by omega), fun _ => ⟨hfil9, e3 (by omega)⟩⟩ _ K1.1 Y1)
          · skip
            refine kr_s ?_
            have hdir9 := hdir
            have K4 := K1
            have Y4 := Y1
            refine wq_if_eq (pc := 52) (tgt := 74) dX7_isLive_52 (by decide) (by first | (unfold inR; omega) | assumption) (fun _ => ?_) (fun c => absurd c (by decide))
            refine wq_iconst (pc := 74) dX7_isLive_74 ?_
            refine wq_istore_n (pc := 75) (L' := [(2, _), (0, _), (1, _)]) dX7_isLive_75 rfl rfl (by decide) ?_
            refine wq_aload_n (pc := 76) dX7_isLive_76 rfl rfl ?_
            refine cVK_0 (pc := 77) dX7_isLive_77 hs (cw_X7_168 _ rfl) (by decide) rfl ⟨by decide, by decide⟩ (Nat.le_of_ble_eq_true rfl) (sp_X7_layNow K4.1 hA (fun m3 K3 Y3 => ?_))
            refine kr_v ?_
            have Y5 := FrY_t Y4 Y3
            refine wq_iload_n (pc := 80) dX7_isLive_80 rfl rfl ?_
            refine wq_iconst (pc := 81) dX7_isLive_81 ?_
            refine wq_icmp_eq (pc := 82) (tgt := 97) dX7_isLive_82 (by decide) (by first | (unfold inR; omega) | assumption) (by first | (unfold inR; omega) | assumption) (fun _ => ?_) (fun c9 => by exfalso; omega)
            refine wq_iconst (pc := 97) dX7_isLive_97 ?_
            refine wq_zret (pc := 98) dX7_isLive_98 rfl (by first | omega | (simp; done) | assumption) ?_
            first
              | (exfalso; omega)
              | exact h0 (fun z => z.1 k (by omega) (by omega) ((hci (by omega) (by omega)).mp ⟨hwk9, hcp9⟩)) _ hK (FrY_r _)
              | exact h1 ⟨hnc, fun _ => ⟨hdir9, by omega, hcn9.1, hcn9.2⟩, fun z => absurd z (by omega)⟩ _ K3.1 Y5
              | exact h0 (fun z => hcn9 ⟨(z.2.1 hkn).2.2.1, (z.2.1 hkn).2.2.2⟩) _ K3.1 Y5
              | exact h0 (fun z => (z.2.1 hkn).2.1 (by omega)) _ K3.1 Y5
              | exact h0 (fun z => hdir9 (z.2.1 hkn).1) _ K3.1 Y5
              | exact h0 (fun z => hfil9 (z.2.2 hkd).1) _ K1.1 Y1
              | (rcases e1 with c | c
                 · rw [c]
                   refine h0 (fun z => ?_) _ K1.1 Y1
                   obtain ⟨e4a, e4b⟩ := e4 c
                   rcases (z.2.2 hkd).2 with y | ⟨p, ⟨p0, p1⟩, y⟩
                   · exact e4a y
                   · exact e4b p p0 (by omega) y
                 · rw [c]
                   exact h1 ⟨hnc, fun z => absurd z (by omega), fun _ => ⟨hfil9, e3 (by omega)⟩⟩ _ K1.1 Y1)
      · skip
        refine wq_aload_n (pc := 7) dX7_isLive_7 rfl rfl ?_
        refine wq_iload_n (pc := 8) dX7_isLive_8 rfl rfl ?_
        refine cVK_1 (pc := 9) dX7_isLive_9 hs (cw_X7_155 _ rfl) (by decide) rfl ⟨by decide, by decide⟩ (Nat.le_of_ble_eq_true rfl) (sp_X7_isWhole hs (by omega) (by omega) ((mR_of hK.2.1) 34 _ (by decide) (by decide) (by decide)) ((mR_of hK.2.1) 33 _ (by decide) (by decide) (by decide)) ((mR_of hK.2.1) 32 _ (by decide) (by decide) (by decide)) (fun hwk => ?_) (fun hwk => ?_))
        · skip
          refine kr_s ?_
          have hwk9 := hwk
          refine wq_if_eq (pc := 12) (tgt := 26) dX7_isLive_12 (by decide) (by first | (unfold inR; omega) | assumption) (fun c => absurd c (by decide)) (fun _ => ?_)
          refine wq_aload_n (pc := 15) dX7_isLive_15 rfl rfl ?_
          refine wq_iload_n (pc := 16) dX7_isLive_16 rfl rfl ?_
          refine wq_iload_n (pc := 17) dX7_isLive_17 rfl rfl ?_
          refine cVK_2 (pc := 18) dX7_isLive_18 hs (cw_X7_246 _ rfl) (by decide) rfl ⟨by decide, by decide⟩ (Nat.le_of_ble_eq_true rfl) (sp_X7_areCopies hs (mR_of hK.2.1) i0 i1 (by omega) (by omega) (fun hcp => ?_) (fun hcp => ?_))
          · skip
            refine kr_s ?_
            have hcp9 := hcp
            refine wq_if_eq (pc := 21) (tgt := 26) dX7_isLive_21 (by decide) (by first | (unfold inR; omega) | assumption) (fun c => absurd c (by decide)) (fun _ => ?_)
            refine wq_iconst (pc := 24) dX7_isLive_24 ?_
            refine wq_zret (pc := 25) dX7_isLive_25 rfl (by first | omega | (simp; done) | assumption) ?_
            first
              | (exfalso; omega)
              | exact h0 (fun z => z.1 k (by omega) (by omega) ((hci (by omega) (by omega)).mp ⟨hwk9, hcp9⟩)) _ hK (FrY_r _)
              | exact h1 ⟨hnc, fun _ => ⟨hdir9, by omega, hcn9.1, hcn9.2⟩, fun z => absurd z (by omega)⟩ _ K3.1 Y5
              | exact h0 (fun z => hcn9 ⟨(z.2.1 hkn).2.2.1, (z.2.1 hkn).2.2.2⟩) _ K3.1 Y5
              | exact h0 (fun z => (z.2.1 hkn).2.1 (by omega)) _ K3.1 Y5
              | exact h0 (fun z => hdir9 (z.2.1 hkn).1) _ K3.1 Y5
              | exact h0 (fun z => hfil9 (z.2.2 hkd).1) _ K1.1 Y1
              | (rcases e1 with c | c
                 · rw [c]
                   refine h0 (fun z => ?_) _ K1.1 Y1
                   obtain ⟨e4a, e4b⟩ := e4 c
                   rcases (z.2.2 hkd).2 with y | ⟨p, ⟨p0, p1⟩, y⟩
                   · exact e4a y
                   · exact e4b p p0 (by omega) y
                 · rw [c]
                   exact h1 ⟨hnc, fun z => absurd z (by omega), fun _ => ⟨hfil9, e3 (by omega)⟩⟩ _ K1.1 Y1)
          · skip
            refine kr_s ?_
            have hcp9 := hcp
            refine wq_if_eq (pc := 21) (tgt := 26) dX7_isLive_21 (by decide) (by first | (unfold inR; omega) | assumption) (fun _ => ?_) (fun c => absurd c (by decide))
            refine wq_iinc (pc := 26) (L' := [(2, _), (0, _), (1, _)]) dX7_isLive_26 rfl rfl (by decide) ?_
            refine wq_goto (pc := 29) (tgt := 2) dX7_isLive_29 (by decide) ?_
            refine wq_sub1 (L' := [(0, _), (1, _), (2, _)]) ⟨rfl, rfl, rfl, trivial⟩ ?_
            have key : ¬ cpB F i k := fun z => by
              have z2 := (hci (by omega) (by omega)).mpr z
              first
                | exact hcp9 z2.2
                | exact hwk9 z2.1
            exact ih (k + 1) _ (by omega) (by omega) (by omega) (by omega) (fun j j0 j1 z => by
              by_cases c9 : j = k
              · rw [c9] at z; exact key z
              · exact e2 j j0 (by omega) z)
        · skip
          refine kr_s ?_
          have hwk9 := hwk
          refine wq_if_eq (pc := 12) (tgt := 26) dX7_isLive_12 (by decide) (by first | (unfold inR; omega) | assumption) (fun _ => ?_) (fun c => absurd c (by decide))
          refine wq_iinc (pc := 26) (L' := [(2, _), (0, _), (1, _)]) dX7_isLive_26 rfl rfl (by decide) ?_
          refine wq_goto (pc := 29) (tgt := 2) dX7_isLive_29 (by decide) ?_
          refine wq_sub1 (L' := [(0, _), (1, _), (2, _)]) ⟨rfl, rfl, rfl, trivial⟩ ?_
          have key : ¬ cpB F i k := fun z => by
            have z2 := (hci (by omega) (by omega)).mpr z
            first
              | exact hcp9 z2.2
              | exact hwk9 z2.1
          exact ih (k + 1) _ (by omega) (by omega) (by omega) (by omega) (fun j j0 j1 z => by
            by_cases c9 : j = k
            · rw [c9] at z; exact key z
            · exact e2 j j0 (by omega) z)
  refine wq_sub1 (L' := [(0, _), (1, _), (2, _)]) ⟨rfl, rfl, rfl, trivial⟩ ?_
  exact loop1 129 0 _ (by omega) (by omega) (by omega) (by omega) (fun j j0 j1 => by omega)
