/-! ### the reference writes nodes -/
abbrev bMd (F : Fl) (i : Int) : Prop := 0 ≤ i ∧ i < 128
/-- a row of the reference holds what a node says -/
def SR (s : Int → Int) (i : Int) (μ : nMem) : Prop := (μ 22 i = s 0 ∧ μ 23 i = s 3 ∧ μ 24 i = s 4 ∧ μ 32 i = s 1) ∧ (s 0 = 1 → μ 25 i = s 5 ∧ μ 26 i = s 6 ∧ μ 27 i = s 7 ∧ μ 28 i = s 9) ∧ (s 0 = 2 → μ 29 i = s 5 ∧ μ 30 i = s 10 ∧ μ 31 i = s 11)
theorem SR_cg {s : Int → Int} {i : Int} {μ m : nMem} (h : SR s i μ) (e : ∀ x, 22 ≤ x → x ≤ 32 → m x i = μ x i) : SR s i m := by
  unfold SR at h ⊢
  rw [e 22 (by decide) (by decide), e 23 (by decide) (by decide), e 24 (by decide) (by decide), e 25 (by decide) (by decide), e 26 (by decide) (by decide), e 27 (by decide) (by decide), e 28 (by decide) (by decide), e 29 (by decide) (by decide), e 30 (by decide) (by decide), e 31 (by decide) (by decide), e 32 (by decide) (by decide)]
  exact h
theorem RM_ext {F F' : Fl} {μ : nMem} (h : RM F μ) (hN : ∀ i k, fN F' i k = fN F i k) (hU : ∀ b, 0 ≤ b → b < 8 → fU F' b = fU F b) (hC : ∀ b, 0 ≤ b → b < 8 → fC F' b = fC F b) (hE : ∀ b, 0 ≤ b → b < 8 → fE F' b = fE F b) : RM F' μ := by
  obtain ⟨h1, h2⟩ := h
  refine ⟨fun b b0 b1 => by rw [hU b b0 b1, hC b b0 b1, hE b b0 b1]; exact h1 b b0 b1, fun i i0 i1 c => ?_⟩
  obtain ⟨a, b, -, -⟩ := row_b i0 i1
  rw [hC _ a.1 a.2] at c
  have := h2 i i0 i1 c
  simp only [hN]
  exact this
theorem RM_D {F : Fl} {μ : nMem} (h : RM F μ) (v w : Int) : RM (fSetD (fSetL F v) w) μ := h
theorem row_is {F : Fl} {b i : Int} (hb : 0 ≤ b ∧ b < 8) (hc : 0 ≤ fC F b ∧ fC F b < 16) (hi : i = 16 * b + fC F b) : (0 ≤ i ∧ i < 128) ∧ i / 16 = b ∧ i % 16 = fC F b := by omega
/-- the row that is written is none of the flash's -/
theorem RM_row {F : Fl} {μ m : nMem} {b i : Int} (h : RM F μ) (hb : 0 ≤ b ∧ b < 8) (hc : 0 ≤ fC F b ∧ fC F b < 16) (hi : i = 16 * b + fC F b) (e : ∀ x j, 22 ≤ x → x ≤ 36 → ¬ (x ≤ 33 ∧ j = i) → m x j = μ x j) : RM F m := by
  obtain ⟨h1, h2⟩ := h
  obtain ⟨-, r1, r2⟩ := row_is hb hc hi
  refine ⟨fun c c0 c1 => by rw [e 34 c (by decide) (by decide) (by omega), e 35 c (by decide) (by decide) (by omega), e 36 c (by decide) (by decide) (by omega)]; exact h1 c c0 c1, fun j j0 j1 c => ?_⟩
  have hj : ¬ j = i := fun z => by rw [z, r1, r2] at c; omega
  rw [e 22 j (by decide) (by decide) (by omega), e 23 j (by decide) (by decide) (by omega), e 24 j (by decide) (by decide) (by omega), e 25 j (by decide) (by decide) (by omega), e 26 j (by decide) (by decide) (by omega), e 27 j (by decide) (by decide) (by omega), e 28 j (by decide) (by decide) (by omega), e 29 j (by decide) (by decide) (by omega), e 30 j (by decide) (by decide) (by omega), e 31 j (by decide) (by decide) (by omega), e 32 j (by decide) (by decide) (by omega), e 33 j (by decide) (by decide) (by omega)]
  exact h2 j j0 j1 c
/-- what a write may change -/
abbrev FrW (i b : Int) (μ m : nMem) : Prop := ∀ x j, ¬ (x = 33 ∧ j = i) → ¬ (x = 34 ∧ j = b) → ¬ (x = 35 ∧ j = b) → ¬ (x = 21 ∧ (j = 20 ∨ j = 21)) → m x j = μ x j
theorem RM_app {F : Fl} {μ m : nMem} {b i : Int} {s : Int → Int} {k : Nat} (h : RM F μ) (hb : 0 ≤ b ∧ b < 8) (hc : 0 ≤ fC F b ∧ fC F b < 16) (hi : i = 16 * b + fC F b) (hS : SR s i μ) (e : FrW i b μ m) (e34 : m 34 b = fC F b + (if k = 0 then 0 else 1)) (e35 : m 35 b = fU F b + k) (e33 : m 33 i = k) : RM (fApp F b s k) m := by
  obtain ⟨r0, r1, r2⟩ := row_is hb hc hi
  by_cases hk : k = 0
  · subst hk
    have e9 : fApp F b s 0 = F := if_pos rfl
    rw [e9]
    obtain ⟨b1, b2, b3⟩ := h.1 b hb.1 hb.2
    refine RM_row h hb hc hi (fun x j x0 x1 hx => ?_)
    by_cases c34 : x = 34 ∧ j = b
    · rw [c34.1, c34.2, e34, b1]; exact Int.add_zero _
    · by_cases c35 : x = 35 ∧ j = b
      · rw [c35.1, c35.2, e35, b2]; exact Int.add_zero _
      · exact e x j (by omega) c34 c35 (by omega)
  · have hS' := SR_cg hS (m := m) (fun x x0 x1 => e x i (by omega) (by omega) (by omega) (by omega))
    refine ⟨fun c c0 c1 => ?_, fun j j0 j1 c => ?_⟩
    · rw [app_C F b s hk, app_U F b s hk, (app_DE F b s k).2]
      obtain ⟨q1, q2, q3⟩ := h.1 c c0 c1
      by_cases cb : c = b
      · rw [if_pos cb, if_pos cb, cb, e34, e35, if_neg hk, e 36 b (by omega) (by omega) (by omega) (by omega)]
        rw [cb] at q3
        exact ⟨rfl, rfl, q3⟩
      · rw [if_neg cb, if_neg cb, e 34 c (by omega) (by omega) (by omega) (by omega), e 35 c (by omega) (by omega) (by omega) (by omega), e 36 c (by omega) (by omega) (by omega) (by omega)]
        exact ⟨q1, q2, q3⟩
    · rw [app_C F b s hk] at c
      by_cases ji : j = i
      · have jb : j = b * 16 + fC F b := by omega
        have v : ∀ x, fN (fApp F b s k) j x = if x = 2 then (k : Int) else s x := fun x => by rw [app_N F b s hk, if_pos jb]
        rw [v 0, v 1, v 2, v 3, v 4, v 5, v 6, v 7, v 9, v 10, v 11, ji]
        obtain ⟨⟨s1, s2, s3, s4⟩, s5, s6⟩ := hS'
        exact ⟨⟨s1, s2, s3, s4, e33⟩, s5, s6⟩
      · have v : ∀ x, fN (fApp F b s k) j x = fN F j x := fun x => by rw [app_N F b s hk, if_neg (by omega)]
        have cj : j % 16 < fC F (j / 16) := by
          by_cases q : j / 16 = b
          · rw [if_pos q] at c; rw [q]; omega
          · rw [if_neg q] at c; exact c
        rw [v 0, v 1, v 2, v 3, v 4, v 5, v 6, v 7, v 9, v 10, v 11]
        have w : ∀ x, 22 ≤ x → x ≤ 33 → m x j = μ x j := fun x x0 x1 => e x j (by omega) (by omega) (by omega) (by omega)
        rw [w 22 (by decide) (by decide), w 23 (by decide) (by decide), w 24 (by decide) (by decide), w 25 (by decide) (by decide), w 26 (by decide) (by decide), w 27 (by decide) (by decide), w 28 (by decide) (by decide), w 29 (by decide) (by decide), w 30 (by decide) (by decide), w 31 (by decide) (by decide), w 32 (by decide) (by decide), w 33 (by decide) (by decide)]
        exact h.2 j j0 j1 cj
theorem app_L (F : Fl) (b : Int) (s : Int → Int) (k : Nat) : fL (fApp F b s k) = if fL F < 0 then fL F else fL F - k := by
  unfold fApp
  by_cases h : k = 0
  · rw [if_pos h, h]; split
    · rfl
    · show fL F = fL F - ((0 : Nat) : Int); omega
  · rw [if_neg h]; rfl
/-- the log, as the reference keeps it -/
def GM (g : Lg) (μ : nMem) : Prop := μ 21 17 = g.1 ∧ μ 21 16 = g.2.1.length ∧ (∀ i : Nat, i < g.2.1.length → μ 37 i = g.2.1.getD i 0) ∧ μ 21 19 = g.2.2.length ∧ ∀ i : Nat, i < g.2.2.length → μ 38 i = g.2.2.getD i 0
theorem GM_cg {g : Lg} {μ m : nMem} (h : GM g μ) (e : ∀ x j, (x = 37 ∨ x = 38 ∨ (x = 21 ∧ (j = 16 ∨ j = 17 ∨ j = 19))) → m x j = μ x j) : GM g m := by
  obtain ⟨a, b, c, d, f⟩ := h
  refine ⟨by rw [e 21 17 (by omega)]; exact a, by rw [e 21 16 (by omega)]; exact b, fun i hi => by rw [e 37 i (by omega)]; exact c i hi, by rw [e 21 19 (by omega)]; exact d, fun i hi => by rw [e 38 i (by omega)]; exact f i hi⟩
abbrev pw (F : Fl) (μ : nMem) : Prop := μ 21 20 = fL F ∧ μ 21 21 = fD F
abbrev fitsP (F : Fl) (g : Lg) (z : Int) : Prop := g.1 ≠ -1 ∧ fU F g.1 + z + fC F g.1 + 2 ≤ 40
abbrev FrP (μ m : nMem) : Prop := ∀ x j, ¬ (22 ≤ x ∧ x ≤ 38) → ¬ (x = 21 ∧ (j = 16 ∨ j = 17 ∨ j = 19 ∨ j = 20 ∨ j = 21 ∨ j = 27)) → m x j = μ x j
theorem FrP_t {μ m m2 : nMem} (h : FrP μ m) (k : FrP m m2) : FrP μ m2 := fun x y c d => (k x y c d).trans (h x y c d)
theorem getD_app {l : List Int} {x z : Int} {i : Nat} : (l ++ [x]).getD i z = if i < l.length then l.getD i z else if i = l.length then x else z := by
  rw [List.getD_eq_getElem?_getD, List.getD_eq_getElem?_getD]
  by_cases c : i < l.length
  · rw [if_pos c, List.getElem?_append_left c]
  · rw [if_neg c, List.getElem?_append_right (by omega)]
    by_cases d : i = l.length
    · rw [if_pos d, d, Nat.sub_self]; rfl
    · rw [if_neg d, List.getElem?_eq_none (by rw [List.length_singleton]; omega)]; rfl
theorem sp_X7_writeOut {μ : nMem} {ε : nEnv} {Q : nOut → nMem → nEnv → Prop} {F : Fl} {b i : Int} {s : Int → Int} (hs : SkP skM ε) (hb : mB μ) (hR : RM F μ) (hB : 0 ≤ b ∧ b < 8) (hc : 0 ≤ fC F b ∧ fC F b < 16) (hi : i = 16 * b + fC F b) (hS : SR s i μ) (h20 : μ 21 20 = fL F) (h21 : μ 21 21 = fD F) (hL : -1 ≤ fL F ∧ fL F ≤ 1000) (hs1 : 1 ≤ s 1 ∧ s 1 ≤ 20) (hU : 0 ≤ fU F b ∧ fU F b + s 1 ≤ 40) (h0 : (fApR F b s).2 = false → ∀ m, mB m → RM (fApR F b s).1 m → pw (fApR F b s).1 m → FrW i b μ m → Q (.inl (some (vI 0))) m ε) (h1 : (fApR F b s).2 = true → ∀ m, mB m → RM (fApR F b s).1 m → pw (fApR F b s).1 m → FrW i b μ m → Q (.inl (some (vI 1))) m ε) : Sp mX7_writeOut [vR 21, vI i] μ ε Q := by
  refine Sp_of (L := [(0, vR 21), (1, vI i)]) (by decide) rfl rfl (Nat.le_of_ble_eq_true rfl) ?_
  obtain ⟨r0, r1, r2⟩ := row_is hB hc hi
  have hR1 := hR.1 b hB.1 hB.2
  refine wq_iload_n (pc := 0) dX7_writeOut_0 rfl rfl ?_
  refine wq_bipush (pc := 1) dX7_writeOut_1 (by decide) (by decide) ?_
  refine wq_idiv (pc := 3) dX7_writeOut_3 (by omega) (by omega) ?_
  refine wq_istore_n (pc := 4) (L' := [(2, _), (0, _), (1, _)]) dX7_writeOut_4 rfl rfl (by decide) ?_
  rw [r1]
  refine wq_aload_n (pc := 5) dX7_writeOut_5 rfl rfl ?_
  refine wq_getS (pc := 6) dX7_writeOut_6 hs (gf_X7_45 _ rfl) rfl rfl rfl rfl rfl ?_
  refine wq_iload_n (pc := 9) dX7_writeOut_9 rfl rfl ?_
  refine wq_iconst (pc := 10) dX7_writeOut_10 ?_
  refine wq_iastK (pc := 11) dX7_writeOut_11 hs rfl (by omega) (by omega) ?_
  refine wq_iconst (pc := 12) dX7_writeOut_12 ?_
  refine wq_istore_n (pc := 13) (L' := [(3, _), (2, _), (0, _), (1, _)]) dX7_writeOut_13 rfl rfl (by decide) ?_
  have loop1 : ∀ (n k : Nat), ∀ (m : nMem) (j : Int), k ≤ 20 → 20 < k + n → j = (k : Int) → (k : Int) ≤ s 1 → mB m → m 34 b = fC F b + (if k = 0 then 0 else 1) → m 35 b = fU F b + k → m 33 i = k → m 21 20 = (if fL F < 0 then fL F else fL F - k) → (fL F < 0 ∨ (k : Int) ≤ fL F) → m 21 21 = fD F → FrW i b μ m → wp mX7_writeOut 14 [(0, vR 21), (1, vI i), (2, vI b), (3, vI j)] [] m ε Q := by
    intro n
    induction n with
    | zero => intro k m j hk1 hk2 e0 e1 e2 e3 e4 e5 e6 e7 e8 e9; exact absurd hk2 (by omega)
    | succ n ih =>
      intro k m j hk1 hk2 e0 e1 e2 e3 e4 e5 e6 e7 e8 e9
      subst e0
      have rk : inR (k : Int) := by unfold inR; omega
      have t32 : m 32 i = s 1 := (e9 32 i (by omega) (by omega) (by omega) (by omega)).trans hS.1.2.2.2
      have rs1 : inR (m 32 i) := by unfold inR; omega
      have c20 : -1 ≤ m 21 20 ∧ m 21 20 ≤ 1000 := by rw [e6]; split <;> omega
      have k34 : (if k = 0 then (0 : Int) else 1) = 0 ∨ (if k = 0 then (0 : Int) else 1) = 1 := by split; exact Or.inl rfl; exact Or.inr rfl
      have k0 : k = 0 → (if k = 0 then (0 : Int) else 1) = 0 := fun z => if_pos z
      have k1 : k ≠ 0 → (if k = 0 then (0 : Int) else 1) = 1 := fun z => if_neg z
      refine wq_iload_n (pc := 14) dX7_writeOut_14 rfl rfl ?_
      refine wq_aload_n (pc := 15) dX7_writeOut_15 rfl rfl ?_
      refine wq_getS (pc := 16) dX7_writeOut_16 hs (gf_X7_42 _ rfl) rfl rfl rfl rfl rfl ?_
      refine wq_iload_n (pc := 19) dX7_writeOut_19 rfl rfl ?_
      refine wq_ialdK (pc := 20) dX7_writeOut_20 hs rfl (by omega) (by omega) ?_
      refine wq_icmp_ge (pc := 21) (tgt := 73) dX7_writeOut_21 (by decide) (by first | (unfold inR; omega) | assumption) (by first | (unfold inR; omega) | assumption) (fun c2 => ?_) (fun c2 => ?_)
      · skip
        refine wq_iconst (pc := 73) dX7_writeOut_73 ?_
        refine wq_zret (pc := 74) dX7_writeOut_74 rfl (by first | omega | (simp; done) | assumption) ?_
        first
          | (have hlf : fL F = k := by
               by_cases c : fL F < 0
               · rw [if_pos c] at e6; omega
               · rw [if_neg c] at e6; omega
             have ea : fApR F b s = (fDark (fApp F b s k), false) := by
               unfold fApR
               rw [if_pos (by omega), show (fL F).toNat = k by omega]
             have hRm := RM_app (k := k) hR hB hc hi hS e9 e3 e4 e5
             refine h0 (by rw [ea]) _ (mB_wr (mB_wr e2 (Or.inr (Or.inl rfl))) (Or.inr (Or.inl rfl))) ?_ ?_ (fun x y g1 g2 g3 g4 => by rw [wr_n _ _ (by omega), wr_n _ _ (by omega)]; exact e9 x y g1 g2 g3 g4)
             · rw [ea]
               exact RM_D (RM_cg hRm (fun x y x0 x1 => by rw [wr_n _ _ (by omega), wr_n _ _ (by omega)])) _ _
             · rw [ea]
               exact ⟨wr_s _ _ _ _, by rw [wr_n _ _ (by omega), wr_s]; rfl⟩)
          | (have hks : (k : Int) = s 1 := by omega
             have ea : fApR F b s = (fApp F b s k, true) := by
               unfold fApR
               rw [if_neg (by omega), show (s 1).toNat = k by omega]
             have hRm := RM_app (k := k) hR hB hc hi hS e9 e3 e4 e5
             refine h1 (by rw [ea]) _ e2 (by rw [ea]; exact hRm) ⟨?_, ?_⟩ e9
             · rw [ea, e6]; exact (app_L F b s k).symm
             · rw [ea, e8]; exact (app_DE F b s k).1.symm)
      · skip
        refine wq_aload_n (pc := 24) dX7_writeOut_24 rfl rfl ?_
        refine cVK_0 (pc := 25) dX7_writeOut_25 hs (cw_X7_177 _ rfl) (by decide) rfl ⟨by decide, by decide⟩ (Nat.le_of_ble_eq_true rfl) (sp_X7_spends hs (by omega) (by omega) (fun hz => ?_) (fun hz => ?_))
        · skip
          refine kr_s ?_
          have hz9 := hz
          refine wq_if_ne (pc := 28) (tgt := 33) dX7_writeOut_28 (by decide) (by first | (unfold inR; omega) | assumption) (fun c => absurd c (by decide)) (fun _ => ?_)
          refine wq_iconst (pc := 31) dX7_writeOut_31 ?_
          refine wq_zret (pc := 32) dX7_writeOut_32 rfl (by first | omega | (simp; done) | assumption) ?_
          first
            | (have hlf : fL F = k := by
                 by_cases c : fL F < 0
                 · rw [if_pos c] at e6; omega
                 · rw [if_neg c] at e6; omega
               have ea : fApR F b s = (fDark (fApp F b s k), false) := by
                 unfold fApR
                 rw [if_pos (by omega), show (fL F).toNat = k by omega]
               have hRm := RM_app (k := k) hR hB hc hi hS e9 e3 e4 e5
               refine h0 (by rw [ea]) _ (mB_wr (mB_wr e2 (Or.inr (Or.inl rfl))) (Or.inr (Or.inl rfl))) ?_ ?_ (fun x y g1 g2 g3 g4 => by rw [wr_n _ _ (by omega), wr_n _ _ (by omega)]; exact e9 x y g1 g2 g3 g4)
               · rw [ea]
                 exact RM_D (RM_cg hRm (fun x y x0 x1 => by rw [wr_n _ _ (by omega), wr_n _ _ (by omega)])) _ _
               · rw [ea]
                 exact ⟨wr_s _ _ _ _, by rw [wr_n _ _ (by omega), wr_s]; rfl⟩)
            | (have hks : (k : Int) = s 1 := by omega
               have ea : fApR F b s = (fApp F b s k, true) := by
                 unfold fApR
                 rw [if_neg (by omega), show (s 1).toNat = k by omega]
               have hRm := RM_app (k := k) hR hB hc hi hS e9 e3 e4 e5
               refine h1 (by rw [ea]) _ e2 (by rw [ea]; exact hRm) ⟨?_, ?_⟩ e9
               · rw [ea, e6]; exact (app_L F b s k).symm
               · rw [ea, e8]; exact (app_DE F b s k).1.symm)
        · skip
          refine kr_s ?_
          have t20 : wr m 21 20 (if 0 < m 21 20 then m 21 20 - 1 else m 21 20) 21 20 = (if 0 < m 21 20 then m 21 20 - 1 else m 21 20) := wr_s _ _ _ _
          have tF : ∀ x j, ¬ (x = 21 ∧ j = 20) → wr m 21 20 (if 0 < m 21 20 then m 21 20 - 1 else m 21 20) x j = m x j := fun x j hx => wr_n _ _ hx
          have tB : mB (wr m 21 20 (if 0 < m 21 20 then m 21 20 - 1 else m 21 20)) := mB_wr e2 (Or.inr (Or.inl rfl))
          generalize wr m 21 20 (if 0 < m 21 20 then m 21 20 - 1 else m 21 20) = mS at t20 tF tB ⊢
          have s34 : mS 34 b = m 34 b := tF 34 b (by omega)
          have s35 : mS 35 b = m 35 b := tF 35 b (by omega)
          have s33 : mS 33 i = m 33 i := tF 33 i (by omega)
          refine wq_if_ne (pc := 28) (tgt := 33) dX7_writeOut_28 (by decide) (by first | (unfold inR; omega) | assumption) (fun _ => ?_) (fun c => absurd c (by decide))
          refine wq_iload_n (pc := 33) dX7_writeOut_33 rfl rfl ?_
          refine wq_if_ne (pc := 34) (tgt := 47) dX7_writeOut_34 (by decide) (by first | (unfold inR; omega) | assumption) (fun c7 => ?_) (fun c7 => ?_)
          · skip
            refine wq_aload_n (pc := 47) dX7_writeOut_47 rfl rfl ?_
            refine wq_getS (pc := 48) dX7_writeOut_48 hs (gf_X7_45 _ rfl) rfl rfl rfl rfl rfl ?_
            refine wq_iload_n (pc := 51) dX7_writeOut_51 rfl rfl ?_
            refine wq_dup2 (pc := 52) dX7_writeOut_52 rfl rfl ?_
            refine wq_ialdK (pc := 53) dX7_writeOut_53 hs rfl (by omega) (by omega) ?_
            refine wq_iconst (pc := 54) dX7_writeOut_54 ?_
            refine wq_iadd (pc := 55) dX7_writeOut_55 ?_
            refine wq_iastK (pc := 56) dX7_writeOut_56 hs rfl (by omega) (by omega) ?_
            refine wq_aload_n (pc := 57) dX7_writeOut_57 rfl rfl ?_
            refine wq_getS (pc := 58) dX7_writeOut_58 hs (gf_X7_51 _ rfl) rfl rfl rfl rfl rfl ?_
            refine wq_iload_n (pc := 61) dX7_writeOut_61 rfl rfl ?_
            refine wq_dup2 (pc := 62) dX7_writeOut_62 rfl rfl ?_
            refine wq_ialdK (pc := 63) dX7_writeOut_63 hs rfl (by omega) (by omega) ?_
            refine wq_iconst (pc := 64) dX7_writeOut_64 ?_
            refine wq_iadd (pc := 65) dX7_writeOut_65 ?_
            refine wq_iastK (pc := 66) dX7_writeOut_66 hs rfl (by omega) (by omega) ?_
            refine wq_iinc (pc := 67) (L' := [(3, _), (0, _), (1, _), (2, _)]) dX7_writeOut_67 rfl rfl (by decide) ?_
            refine wq_goto (pc := 70) (tgt := 14) dX7_writeOut_70 (by decide) ?_
            refine wq_sub1 (L' := [(0, _), (1, _), (2, _), (3, _)]) ⟨rfl, rfl, rfl, rfl, trivial⟩ ?_
            have k2 : (if k + 1 = 0 then (0 : Int) else 1) = 1 := if_neg (by omega)
            refine ih (k + 1) _ _ (by omega) (by omega) (by omega) (by omega) ?_ ?_ ?_ ?_ ?_ ?_ ?_ (fun x y h1 h2 h3 h4 => ?_)
            · first
                | exact mB_wr (mB_wr (mB_wr tB (Or.inr (Or.inr (by show 0 ≤ mS 34 b + 1 ∧ mS 34 b + 1 ≤ 16; omega)))) (Or.inr (Or.inr (by (repeat (first | rw [wr_s] | rw [wr_n _ _ (by omega)])); show 0 ≤ mS 33 i + 1 ∧ mS 33 i + 1 ≤ 20; omega)))) (Or.inr (Or.inr (by (repeat (first | rw [wr_s] | rw [wr_n _ _ (by omega)])); show 0 ≤ mS 35 b + 1 ∧ mS 35 b + 1 ≤ 40; omega)))
                | exact mB_wr (mB_wr tB (Or.inr (Or.inr (by show 0 ≤ mS 33 i + 1 ∧ mS 33 i + 1 ≤ 20; omega)))) (Or.inr (Or.inr (by (repeat (first | rw [wr_s] | rw [wr_n _ _ (by omega)])); show 0 ≤ mS 35 b + 1 ∧ mS 35 b + 1 ≤ 40; omega)))
            · (repeat (first | rw [wr_s] | rw [wr_n _ _ (by omega)]))
              rw [s34, e3, k2]
              first | (rw [k0 (by omega)]; omega) | (rw [k1 (by omega)])
            · (repeat (first | rw [wr_s] | rw [wr_n _ _ (by omega)]))
              omega
            · (repeat (first | rw [wr_s] | rw [wr_n _ _ (by omega)]))
              omega
            · (repeat (first | rw [wr_s] | rw [wr_n _ _ (by omega)]))
              rw [t20, e6]
              (repeat' split) <;> omega
            · by_cases c : fL F < 0
              · exact Or.inl c
              · right
                rw [if_neg c] at e6
                omega
            · (repeat (first | rw [wr_s] | rw [wr_n _ _ (by omega)]))
              rw [tF 21 21 (by omega)]; exact e8
            · (repeat (first | rw [wr_s] | rw [wr_n _ _ (by omega)]))
              rw [tF x y (by omega)]; exact e9 x y h1 h2 h3 h4
          · skip
            refine wq_aload_n (pc := 37) dX7_writeOut_37 rfl rfl ?_
            refine wq_getS (pc := 38) dX7_writeOut_38 hs (gf_X7_48 _ rfl) rfl rfl rfl rfl rfl ?_
            refine wq_iload_n (pc := 41) dX7_writeOut_41 rfl rfl ?_
            refine wq_dup2 (pc := 42) dX7_writeOut_42 rfl rfl ?_
            refine wq_ialdK (pc := 43) dX7_writeOut_43 hs rfl (by omega) (by omega) ?_
            refine wq_iconst (pc := 44) dX7_writeOut_44 ?_
            refine wq_iadd (pc := 45) dX7_writeOut_45 ?_
            refine wq_iastK (pc := 46) dX7_writeOut_46 hs rfl (by omega) (by omega) ?_
            refine wq_aload_n (pc := 47) dX7_writeOut_47 rfl rfl ?_
            refine wq_getS (pc := 48) dX7_writeOut_48 hs (gf_X7_45 _ rfl) rfl rfl rfl rfl rfl ?_
            refine wq_iload_n (pc := 51) dX7_writeOut_51 rfl rfl ?_
            refine wq_dup2 (pc := 52) dX7_writeOut_52 rfl rfl ?_
            refine wq_ialdK (pc := 53) dX7_writeOut_53 hs rfl (by omega) (by omega) ?_
            refine wq_iconst (pc := 54) dX7_writeOut_54 ?_
            refine wq_iadd (pc := 55) dX7_writeOut_55 ?_
            refine wq_iastK (pc := 56) dX7_writeOut_56 hs rfl (by omega) (by omega) ?_
            refine wq_aload_n (pc := 57) dX7_writeOut_57 rfl rfl ?_
            refine wq_getS (pc := 58) dX7_writeOut_58 hs (gf_X7_51 _ rfl) rfl rfl rfl rfl rfl ?_
            refine wq_iload_n (pc := 61) dX7_writeOut_61 rfl rfl ?_
            refine wq_dup2 (pc := 62) dX7_writeOut_62 rfl rfl ?_
            refine wq_ialdK (pc := 63) dX7_writeOut_63 hs rfl (by omega) (by omega) ?_
            refine wq_iconst (pc := 64) dX7_writeOut_64 ?_
            refine wq_iadd (pc := 65) dX7_writeOut_65 ?_
            refine wq_iastK (pc := 66) dX7_writeOut_66 hs rfl (by omega) (by omega) ?_
            refine wq_iinc (pc := 67) (L' := [(3, _), (0, _), (1, _), (2, _)]) dX7_writeOut_67 rfl rfl (by decide) ?_
            refine wq_goto (pc := 70) (tgt := 14) dX7_writeOut_70 (by decide) ?_
            refine wq_sub1 (L' := [(0, _), (1, _), (2, _), (3, _)]) ⟨rfl, rfl, rfl, rfl, trivial⟩ ?_
            have k2 : (if k + 1 = 0 then (0 : Int) else 1) = 1 := if_neg (by omega)
            refine ih (k + 1) _ _ (by omega) (by omega) (by omega) (by omega) ?_ ?_ ?_ ?_ ?_ ?_ ?_ (fun x y h1 h2 h3 h4 => ?_)
            · first
                | exact mB_wr (mB_wr (mB_wr tB (Or.inr (Or.inr (by show 0 ≤ mS 34 b + 1 ∧ mS 34 b + 1 ≤ 16; omega)))) (Or.inr (Or.inr (by (repeat (first | rw [wr_s] | rw [wr_n _ _ (by omega)])); show 0 ≤ mS 33 i + 1 ∧ mS 33 i + 1 ≤ 20; omega)))) (Or.inr (Or.inr (by (repeat (first | rw [wr_s] | rw [wr_n _ _ (by omega)])); show 0 ≤ mS 35 b + 1 ∧ mS 35 b + 1 ≤ 40; omega)))
                | exact mB_wr (mB_wr tB (Or.inr (Or.inr (by show 0 ≤ mS 33 i + 1 ∧ mS 33 i + 1 ≤ 20; omega)))) (Or.inr (Or.inr (by (repeat (first | rw [wr_s] | rw [wr_n _ _ (by omega)])); show 0 ≤ mS 35 b + 1 ∧ mS 35 b + 1 ≤ 40; omega)))
            · (repeat (first | rw [wr_s] | rw [wr_n _ _ (by omega)]))
              rw [s34, e3, k2]
              first | (rw [k0 (by omega)]; omega) | (rw [k1 (by omega)])
            · (repeat (first | rw [wr_s] | rw [wr_n _ _ (by omega)]))
              omega
            · (repeat (first | rw [wr_s] | rw [wr_n _ _ (by omega)]))
              omega
            · (repeat (first | rw [wr_s] | rw [wr_n _ _ (by omega)]))
              rw [t20, e6]
              (repeat' split) <;> omega
            · by_cases c : fL F < 0
              · exact Or.inl c
              · right
                rw [if_neg c] at e6
                omega
            · (repeat (first | rw [wr_s] | rw [wr_n _ _ (by omega)]))
              rw [tF 21 21 (by omega)]; exact e8
            · (repeat (first | rw [wr_s] | rw [wr_n _ _ (by omega)]))
              rw [tF x y (by omega)]; exact e9 x y h1 h2 h3 h4
  refine wq_sub1 (L' := [(0, _), (1, _), (2, _), (3, _)]) ⟨rfl, rfl, rfl, rfl, trivial⟩ ?_
  refine loop1 21 0 _ _ (by omega) (by omega) (by omega) (by omega) (mB_wr hb (Or.inr (Or.inr (by decide)))) ?_ ?_ ?_ ?_ (by omega) ?_ (fun x y h1 h2 h3 h4 => ?_)
  · (repeat (first | rw [wr_s] | rw [wr_n _ _ (by omega)]))
    rw [if_pos rfl, hR1.1, Int.add_zero]
  · (repeat (first | rw [wr_s] | rw [wr_n _ _ (by omega)]))
    rw [hR1.2.1]; exact (Int.add_zero _).symm
  · (repeat (first | rw [wr_s] | rw [wr_n _ _ (by omega)]))
    rfl
  · (repeat (first | rw [wr_s] | rw [wr_n _ _ (by omega)]))
    rw [h20]; split
    · rfl
    · show fL F = fL F - ((0 : Nat) : Int); omega
  · (repeat (first | rw [wr_s] | rw [wr_n _ _ (by omega)]))
    exact h21
  · (repeat (first | rw [wr_s] | rw [wr_n _ _ (by omega)]))
