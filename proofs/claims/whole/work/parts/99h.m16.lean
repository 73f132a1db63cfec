/-! ### the reference holds the state -/
def CM (A : AS) (μ : nMem) (ε : nEnv) : Prop := KM (aF A) μ ε ∧ pw (aF A) μ ∧ (fD (aF A) = 0 → GM (aG A) μ ∧ μ 21 22 = aX A ∧ ∀ n, 0 ≤ n → n < 2048 → μ 39 n = aD A n ∧ μ 40 n = aN A n)
abbrev FrM (μ m : nMem) : Prop := ∀ x j, x < 21 ∨ 55 < x → m x j = μ x j
theorem FrM_t {μ m m2 : nMem} (h : FrM μ m) (k : FrM m m2) : FrM μ m2 := fun x y c => (k x y c).trans (h x y c)
theorem FrM_r (μ : nMem) : FrM μ μ := fun _ _ _ => rfl
theorem FrM_Y {μ m : nMem} (h : FrY μ m) : FrM μ m := fun x y c => h x y (by omega) (by omega)
theorem FrM_P {μ m : nMem} (h : FrP μ m) : FrM μ m := fun x y c => h x y (by omega) (by omega)
theorem FrM_w {μ : nMem} {x j v : Int} (h : 21 ≤ x ∧ x ≤ 55) : FrM μ (wr μ x j v) := fun y i c => wr_n _ _ (by omega)
/-- what is known of the state beside the memories -/
def AOK (A : AS) (nb vb : Int) : Prop := IB (aF A) nb vb ∧ (fD (aF A) = 0 ∨ fD (aF A) = 1) ∧ (fD (aF A) = 0 → ∃ fl S, IP A fl nb vb ∧ TSA A fl S)
theorem MC_AOK {A : AS} {nb vb : Int} {μ : nMem} {ε : nEnv} (h : MC A nb vb μ ε) : AOK A nb vb := by
  obtain ⟨S, -, -, h3, h4, -, h6⟩ := h
  exact ⟨h3, h4, fun q => by obtain ⟨fl, a, b⟩ := h6 q; exact ⟨fl, S, a, b⟩⟩
theorem AOK_KP {A : AS} {nb vb : Int} (h : AOK A nb vb) : KP (aF A) := ⟨h.1.1, h.1.2.1⟩
def anM (a : Ans) (Es : List String) (v : Int) (m : nMem) : Prop := (∃ z, a = .inl z ∧ v = z ∧ m 21 25 = 0) ∨ (∃ (i : Nat) (E : String), a = .inr E ∧ Es[i]? = some E ∧ m 21 25 = i + 1)
theorem anM_v {z : Int} {Es : List String} {m : nMem} (h : m 21 25 = 0) : anM (.inl z) Es z m := Or.inl ⟨z, rfl, rfl, h⟩
theorem anM_x {E : String} {Es : List String} {v : Int} {m : nMem} (i : Nat) (h : Es[i]? = some E) (h2 : m 21 25 = i + 1) : anM (.inr E) Es v m := Or.inr ⟨i, E, rfl, h, h2⟩
theorem CM_Y {A : AS} {μ m : nMem} {ε : nEnv} (h : CM A μ ε) (hK : KM (aF A) m ε) (hY : FrY μ m) : CM A m ε := by
  obtain ⟨a, b, c⟩ := h
  refine ⟨hK, ⟨by rw [hY 21 20 (by omega) (by omega)]; exact b.1, by rw [hY 21 21 (by omega) (by omega)]; exact b.2⟩, fun q => ?_⟩
  obtain ⟨c1, c2, c3⟩ := c q
  refine ⟨GM_cg c1 (fun x j hx => hY x j (by omega) (by omega)), by rw [hY 21 22 (by omega) (by omega)]; exact c2, fun n n0 n1 => ?_⟩
  rw [hY 39 n (by omega) (by omega), hY 40 n (by omega) (by omega)]; exact c3 n n0 n1
theorem LD_cg {F : Fl} {μ m : nMem} (h : LD F μ) (e : ∀ x j, (x = 21 ∧ j = 27) ∨ (22 ≤ x ∧ x ≤ 51) → m x j = μ x j) : LD F m := by
  rcases h with h | ⟨h1, h2, h3⟩
  · left; rw [e 21 27 (Or.inl ⟨rfl, rfl⟩)]; exact h
  · right
    exact ⟨by rw [e 21 27 (Or.inl ⟨rfl, rfl⟩)]; exact h1, LE_cg (Or.inl rfl) h2 (fun x y x0 x1 _ => e x y (by omega)), PrM_cg2 h3 (fun x j x0 x1 => e x j (by omega))⟩
theorem KM_cg {F : Fl} {μ m : nMem} {ε : nEnv} (h : KM F μ ε) (hb : mB m) (e : ∀ x j, (x = 21 ∧ j = 27) ∨ (22 ≤ x ∧ x ≤ 51) → m x j = μ x j) : KM F m ε :=
  ⟨h.1, hb, RM_cg h.2.2.1 (fun x j x0 x1 => e x j (by omega)), LD_cg h.2.2.2 e⟩
/-- fields and arrays that hold nothing of the state -/
theorem CM_w {A : AS} {μ : nMem} {ε : nEnv} {x j v : Int} (h : CM A μ ε) (hx : (x = 21 ∧ j = 25) ∨ (52 ≤ x ∧ x ≤ 55 ∧ 0 ≤ v ∧ v ≤ hiM x)) : CM A (wr μ x j v) ε := by
  obtain ⟨a, b, c⟩ := h
  have e : ∀ y i, (y = 21 ∧ i ≠ 25) ∨ (22 ≤ y ∧ y ≤ 51) → wr μ x j v y i = μ y i := fun y i c => wr_n _ _ (by omega)
  refine ⟨KM_cg a (mB_wr a.2.1 (by omega)) (fun y i c => e y i (by omega)), ⟨by rw [e 21 20 (by omega)]; exact b.1, by rw [e 21 21 (by omega)]; exact b.2⟩, fun q => ?_⟩
  obtain ⟨c1, c2, c3⟩ := c q
  refine ⟨GM_cg c1 (fun y i hy => e y i (by omega)), by rw [e 21 22 (by omega)]; exact c2, fun n n0 n1 => ?_⟩
  rw [e 39 n (by omega), e 40 n (by omega)]; exact c3 n n0 n1
theorem CM_25 {A : AS} {μ : nMem} {ε : nEnv} {v : Int} (h : CM A μ ε) : CM A (wr μ 21 25 v) ε := CM_w h (Or.inl ⟨rfl, rfl⟩)
/-- the state behind a put -/
theorem CM_put {R : Fl × Lg × Bool} {X : Int} {D N : Int → Int} {μ m : nMem} {ε : nEnv} (hs : SkP skM ε) (h : PO R μ m) (h2 : R.2.2 = true → μ 21 22 = X ∧ ∀ n, 0 ≤ n → n < 2048 → μ 39 n = D n ∧ μ 40 n = N n) (h3 : R.2.2 = false → fD R.1 = 1) : CM (R.1, R.2.1, X, D, N) m ε := by
  obtain ⟨a, b, c, d, e, f⟩ := h
  refine ⟨⟨hs, a, b, Or.inl d⟩, c, fun q => ?_⟩
  have q : fD R.1 = 0 := q
  by_cases r : R.2.2 = true
  · obtain ⟨k1, k2⟩ := h2 r
    refine ⟨f r, by rw [e 21 22 (by omega) (by omega)]; exact k1, fun n n0 n1 => ?_⟩
    rw [e 39 n (by omega) (by omega), e 40 n (by omega) (by omega)]; exact k2 n n0 n1
  · have := h3 (by cases hh : R.2.2; rfl; exact absurd hh r)
    omega
/-! ### room -/
def stM (s : Int × Int × Int) (u : Int) : Int × Int × Int := if s.1 + s.2.1 + u + 2 ≤ 40 then (s.1 + u, s.2.1 + 1, s.2.2) else (1 + u, 1, s.2.2 + 1)
theorem stM_mono (s : Int × Int × Int) (u : Int) : s.2.2 ≤ (stM s u).2.2 := by unfold stM; split; exact Int.le_refl _; show s.2.2 ≤ s.2.2 + 1; omega
theorem fold_mono : ∀ (l : List Int) (s : Int × Int × Int), s.2.2 ≤ (l.foldl stM s).2.2
  | [], s => Int.le_refl _
  | u :: l, s => Int.le_trans (stM_mono s u) (fold_mono l (stM s u))
theorem trL_fold (fr : Int) : ∀ (l : List Int) (w n r : Int), r ≤ max fr 0 → 0 ≤ r → (trL l (w, n, fr - r) ↔ (l.foldl stM (w, n, r)).2.2 ≤ max fr 0)
  | [], w, n, r, h, _ => ⟨fun _ => h, fun _ => trivial⟩
  | u :: l, w, n, r, h, h0 => by
    show (match trS u (w, n, fr - r) with | none => False | some s' => trL l s') ↔ (l.foldl stM (stM (w, n, r) u)).2.2 ≤ max fr 0
    unfold trS stM
    by_cases c : w + u + n + 2 ≤ 40
    · rw [if_pos (show (w, n, fr - r).1 + u + (w, n, fr - r).2.1 + 2 ≤ 40 from c), if_pos (show (w, n, r).1 + (w, n, r).2.1 + u + 2 ≤ 40 by show w + n + u + 2 ≤ 40; omega)]
      exact trL_fold fr l (w + u) (n + 1) r h h0
    · rw [if_neg (show ¬ (w, n, fr - r).1 + u + (w, n, fr - r).2.1 + 2 ≤ 40 from c), if_neg (show ¬ (w, n, r).1 + (w, n, r).2.1 + u + 2 ≤ 40 by show ¬ w + n + u + 2 ≤ 40; omega)]
      by_cases d : 0 < fr - r
      · rw [if_pos (show 0 < (w, n, fr - r).2.2 from d)]
        show trL l (1 + u, 1, fr - r - 1) ↔ _
        rw [show fr - r - 1 = fr - (r + 1) by omega]
        exact trL_fold fr l (1 + u) 1 (r + 1) (by omega) (by omega)
      · rw [if_neg (show ¬ 0 < (w, n, fr - r).2.2 from d)]
        have := fold_mono l (1 + u, 1, r + 1)
        have this : r + 1 ≤ (l.foldl stM (1 + u, 1, r + 1)).2.2 := this
        refine ⟨fun z => absurd z id, fun z => ?_⟩
        have z : (l.foldl stM (1 + u, 1, r + 1)).2.2 ≤ max fr 0 := z
        omega
theorem mRm_fold {μ : nMem} {U N : Int} {us : List Int} : ∀ k : Nat, k ≤ us.length → (∀ i : Nat, i < us.length → μ 52 i = us.getD i 0) → mRm μ U N k = (us.take k).foldl stM (U, N, 0)
  | 0, _, _ => rfl
  | k + 1, hk, h => by
    rw [mRm_s, mRm_fold k (by omega) h, List.take_succ_eq_append_getElem (by omega), List.foldl_append]
    have e := h k (by omega)
    rw [getD_E _ (by omega)] at e
    rw [e]
    rfl
theorem mRm_trL {μ : nMem} {U N fr fr' : Int} {us : List Int} (h : ∀ i : Nat, i < us.length → μ 52 i = us.getD i 0) (hf : fr' = max fr 0) : (mRm μ U N us.length).2.2 ≤ fr' ↔ trL us (U, N, fr) := by
  have a := trL_fold fr us U N 0 (by omega) (by omega)
  rw [Int.sub_zero] at a
  rw [a, mRm_fold us.length (Nat.le_refl _) h, List.take_length, hf]
theorem sp_X7_writeData {μ : nMem} {ε : nEnv} {Q : nOut → nMem → nEnv → Prop} {F : Fl} {g : Lg} {f o b q z v0 : Int} (hW : WM F g μ ε) (hA : PA F) (hL : PL F g) (hf : 0 ≤ f ∧ f < 2048) (hv : 0 ≤ v0 ∧ v0 ≤ 4500) (hv0 : μ 39 f = v0) (hso : sOK (dbSrc f (v0 + 1) o z b q)) (hfr : ¬ fitsP F g ((dbSrc f (v0 + 1) o z b q) 1) → g.2.1 ≠ []) (h0 : (lPut F g (dbSrc f (v0 + 1) o z b q)).2.2 = false → ∀ m, PO (lPut F g (dbSrc f (v0 + 1) o z b q)) (wr μ 39 f (v0 + 1)) m → Q (.inl (some (vI 0))) m ε) (h1 : (lPut F g (dbSrc f (v0 + 1) o z b q)).2.2 = true → ∀ m, PO (lPut F g (dbSrc f (v0 + 1) o z b q)) (wr μ 39 f (v0 + 1)) m → Q (.inl (some (vI 1))) m ε) : Sp mX7_writeData [vR 21, vI f, vI o, vJ b, vI q, vI z] μ ε Q := by
  refine Sp_of (L := [(0, vR 21), (1, vI f), (2, vI o), (3, vJ b), (5, vI q), (6, vI z)]) (by decide) rfl rfl (Nat.le_of_ble_eq_true rfl) ?_
  obtain ⟨hs, hb, hR, hG, hp⟩ := hW
  refine wq_aload_n (pc := 0) dX7_writeData_0 rfl rfl ?_
  refine wq_getS (pc := 1) dX7_writeData_1 hs (gf_X7_63 _ rfl) rfl rfl rfl rfl rfl ?_
  refine wq_iload_n (pc := 4) dX7_writeData_4 rfl rfl ?_
  refine wq_dup2 (pc := 5) dX7_writeData_5 rfl rfl ?_
  refine wq_ialdK (pc := 6) dX7_writeData_6 hs rfl (by omega) (by omega) ?_
  refine wq_iconst (pc := 7) dX7_writeData_7 ?_
  refine wq_iadd (pc := 8) dX7_writeData_8 ?_
  refine wq_iastK (pc := 9) dX7_writeData_9 hs rfl (by omega) (by omega) ?_
  refine wq_aload_n (pc := 10) dX7_writeData_10 rfl rfl ?_
  refine wq_iload_n (pc := 11) dX7_writeData_11 rfl rfl ?_
  refine wq_aload_n (pc := 12) dX7_writeData_12 rfl rfl ?_
  refine wq_getS (pc := 13) dX7_writeData_13 hs (gf_X7_63 _ rfl) rfl rfl rfl rfl rfl ?_
  refine wq_iload_n (pc := 16) dX7_writeData_16 rfl rfl ?_
  refine wq_ialdK (pc := 17) dX7_writeData_17 hs rfl (by omega) (by omega) ?_
  rw [wr_s, hv0]
  refine wq_iload_n (pc := 18) dX7_writeData_18 rfl rfl ?_
  refine wq_lload_n (pc := 19) dX7_writeData_19 rfl rfl ?_
  refine wq_iload (pc := 20) dX7_writeData_20 rfl ?_
  refine wq_iload (pc := 22) dX7_writeData_22 rfl ?_
  refine cVK_6 (pc := 24) dX7_writeData_24 hs (cw_X7_198 _ rfl) (by decide) rfl ⟨by decide, by decide⟩ (Nat.le_of_ble_eq_true rfl) (sp_X7_putData (F := F) (g := g) (s := (dbSrc f (v0 + 1) o z b q)) hs (mB_wr hb (Or.inr (Or.inr (by show 0 ≤ v0 + 1 ∧ v0 + 1 ≤ 5000; omega)))) (RM_cg hR (fun x j x0 x1 => by rw [wr_n _ _ (by omega)])) hA hL (GM_cg hG (fun x j hx => by rw [wr_n _ _ (by omega)])) ⟨by rw [wr_n _ _ (by omega)]; exact hp.1, by rw [wr_n _ _ (by omega)]; exact hp.2⟩ hso ⟨rfl, rfl, rfl, rfl, rfl, rfl, rfl, trivial, trivial⟩ hfr (fun hr m2 P2 => ?_) (fun hr m2 P2 => ?_))
  · skip
    refine kr_s ?_
    have hr9 := hr
    refine wq_zret (pc := 27) dX7_writeData_27 rfl (by first | omega | (simp; done) | assumption) ?_
    first | exact h0 hr9 _ P2 | exact h1 hr9 _ P2
  · skip
    refine kr_s ?_
    have hr9 := hr
    refine wq_zret (pc := 27) dX7_writeData_27 rfl (by first | omega | (simp; done) | assumption) ?_
    first | exact h0 hr9 _ P2 | exact h1 hr9 _ P2
theorem sp_X7_writeName {μ : nMem} {ε : nEnv} {Q : nOut → nMem → nEnv → Prop} {F : Fl} {g : Lg} {f o t td v0 : Int} (hW : WM F g μ ε) (hA : PA F) (hL : PL F g) (hf : 0 ≤ f ∧ f < 2048) (hv : 0 ≤ v0 ∧ v0 ≤ 4500) (hv0 : μ 40 f = v0) (hso : sOK (nmSrc f (v0 + 1) o t td)) (hfr : ¬ fitsP F g ((nmSrc f (v0 + 1) o t td) 1) → g.2.1 ≠ []) (h0 : (lPut F g (nmSrc f (v0 + 1) o t td)).2.2 = false → ∀ m, PO (lPut F g (nmSrc f (v0 + 1) o t td)) (wr μ 40 f (v0 + 1)) m → Q (.inl (some (vI 0))) m ε) (h1 : (lPut F g (nmSrc f (v0 + 1) o t td)).2.2 = true → ∀ m, PO (lPut F g (nmSrc f (v0 + 1) o t td)) (wr μ 40 f (v0 + 1)) m → Q (.inl (some (vI 1))) m ε) : Sp mX7_writeName [vR 21, vI f, vI o, vI t, vI td] μ ε Q := by
  refine Sp_of (L := [(0, vR 21), (1, vI f), (2, vI o), (3, vI t), (4, vI td)]) (by decide) rfl rfl (Nat.le_of_ble_eq_true rfl) ?_
  obtain ⟨hs, hb, hR, hG, hp⟩ := hW
  refine wq_aload_n (pc := 0) dX7_writeName_0 rfl rfl ?_
  refine wq_getS (pc := 1) dX7_writeName_1 hs (gf_X7_66 _ rfl) rfl rfl rfl rfl rfl ?_
  refine wq_iload_n (pc := 4) dX7_writeName_4 rfl rfl ?_
  refine wq_dup2 (pc := 5) dX7_writeName_5 rfl rfl ?_
  refine wq_ialdK (pc := 6) dX7_writeName_6 hs rfl (by omega) (by omega) ?_
  refine wq_iconst (pc := 7) dX7_writeName_7 ?_
  refine wq_iadd (pc := 8) dX7_writeName_8 ?_
  refine wq_iastK (pc := 9) dX7_writeName_9 hs rfl (by omega) (by omega) ?_
  refine wq_aload_n (pc := 10) dX7_writeName_10 rfl rfl ?_
  refine wq_iload_n (pc := 11) dX7_writeName_11 rfl rfl ?_
  refine wq_aload_n (pc := 12) dX7_writeName_12 rfl rfl ?_
  refine wq_getS (pc := 13) dX7_writeName_13 hs (gf_X7_66 _ rfl) rfl rfl rfl rfl rfl ?_
  refine wq_iload_n (pc := 16) dX7_writeName_16 rfl rfl ?_
  refine wq_ialdK (pc := 17) dX7_writeName_17 hs rfl (by omega) (by omega) ?_
  rw [wr_s, hv0]
  refine wq_iload_n (pc := 18) dX7_writeName_18 rfl rfl ?_
  refine wq_iload_n (pc := 19) dX7_writeName_19 rfl rfl ?_
  refine wq_iload (pc := 20) dX7_writeName_20 rfl ?_
  refine cVK_5 (pc := 22) dX7_writeName_22 hs (cw_X7_202 _ rfl) (by decide) rfl ⟨by decide, by decide⟩ (Nat.le_of_ble_eq_true rfl) (sp_X7_putName (F := F) (g := g) (s := (nmSrc f (v0 + 1) o t td)) hs (mB_wr hb (Or.inr (Or.inr (by show 0 ≤ v0 + 1 ∧ v0 + 1 ≤ 5000; omega)))) (RM_cg hR (fun x j x0 x1 => by rw [wr_n _ _ (by omega)])) hA hL (GM_cg hG (fun x j hx => by rw [wr_n _ _ (by omega)])) ⟨by rw [wr_n _ _ (by omega)]; exact hp.1, by rw [wr_n _ _ (by omega)]; exact hp.2⟩ hso ⟨rfl, rfl, rfl, rfl, rfl, rfl, trivial, trivial, trivial⟩ hfr (fun hr m2 P2 => ?_) (fun hr m2 P2 => ?_))
  · skip
    refine kr_s ?_
    have hr9 := hr
    refine wq_zret (pc := 25) dX7_writeName_25 rfl (by first | omega | (simp; done) | assumption) ?_
    first | exact h0 hr9 _ P2 | exact h1 hr9 _ P2
  · skip
    refine kr_s ?_
    have hr9 := hr
    refine wq_zret (pc := 25) dX7_writeName_25 rfl (by first | omega | (simp; done) | assumption) ?_
    first | exact h0 hr9 _ P2 | exact h1 hr9 _ P2
theorem sp_X7_canWrite {μ : nMem} {ε : nEnv} {Q : nOut → nMem → nEnv → Prop} {A : AS} {u u2 : Int} (hC : CM A μ ε) (hd : fD (aF A) = 0) (hL : PL (aF A) (aG A)) (hu : 0 ≤ u ∧ u ≤ 20) (hu2 : 0 ≤ u2 ∧ u2 ≤ 20) (h1 : trL (if 0 < u2 then [u, u2] else [u]) (tr0 (aF A) (aG A) (((aG A).2.1.length : Int) - 1)) → ∀ m, CM A m ε → FrM μ m → m 21 25 = μ 21 25 → Q (.inl (some (vI 1))) m ε) (h0 : ¬ trL (if 0 < u2 then [u, u2] else [u]) (tr0 (aF A) (aG A) (((aG A).2.1.length : Int) - 1)) → ∀ m, CM A m ε → FrM μ m → m 21 25 = μ 21 25 → Q (.inl (some (vI 0))) m ε) : Sp mX7_canWrite [vR 21, vI u, vI u2] μ ε Q := by
  refine Sp_of (L := [(0, vR 21), (1, vI u), (2, vI u2)]) (by decide) rfl rfl (Nat.le_of_ble_eq_true rfl) ?_
  obtain ⟨⟨hs, hb, hR, -⟩, hp, hon⟩ := id hC
  obtain ⟨hG, -, -⟩ := hon hd
  have hL1 := hL.1
  have hlen8 : (aG A).2.1.length ≤ 8 := len8 hL.2.2.2.2.1.1 (fun b hb => (hL.2.2.1 b hb).1)
  have q17 := hG.1
  have q16 := hG.2.1
  have hbw := mB_wr (j := 1) (mB_wr (j := 0) hb (Or.inr (Or.inr hu) : (52 : Int) = 27 ∨ (52 : Int) = 21 ∨ 0 ≤ u ∧ u ≤ hiM 52)) (Or.inr (Or.inr hu2) : (52 : Int) = 27 ∨ (52 : Int) = 21 ∨ 0 ≤ u2 ∧ u2 ≤ hiM 52)
  have w2 : ∀ x j, x ≠ 52 → wr (wr μ 52 0 u) 52 1 u2 x j = μ x j := fun x j hx => by rw [wr_n _ _ (by omega), wr_n _ _ (by omega)]
  have r16 : inR (wr (wr μ 52 0 u) 52 1 u2 21 16) := by rw [w2 21 16 (by omega)]; unfold inR; omega
  have t16 := w2 21 16 (by omega)
  have hCm : CM A (wr (wr μ 52 0 u) 52 1 u2) ε := CM_w (CM_w hC (Or.inr ⟨by omega, by omega, hu⟩)) (Or.inr ⟨by omega, by omega, hu2⟩)
  have hFm : FrM μ (wr (wr μ 52 0 u) 52 1 u2) := fun x j hx => w2 x j (by omega)
  have h25 := w2 21 25 (by omega)
  have hU : tr0 (aF A) (aG A) (((aG A).2.1.length : Int) - 1) = (if μ 21 17 = -1 then 40 else μ 35 (μ 21 17), if μ 21 17 = -1 then 0 else μ 34 (μ 21 17), ((aG A).2.1.length : Int) - 1) := by
    unfold tr0
    rw [q17]
    by_cases c : (aG A).1 = -1
    · rw [if_pos c, if_pos c, if_pos c, if_pos c]
    · have := hR.1 (aG A).1 (by omega) (by omega)
      rw [if_neg c, if_neg c, if_neg c, if_neg c, this.1, this.2.1]
  have t2 : ∀ fr', fr' = max (((aG A).2.1.length : Int) - 1) 0 → 0 < u2 → ((mRm (wr (wr μ 52 0 u) 52 1 u2) (if μ 21 17 = -1 then 40 else μ 35 (μ 21 17)) (if μ 21 17 = -1 then 0 else μ 34 (μ 21 17)) (2 : Int).toNat).2.2 ≤ fr' ↔ trL (if 0 < u2 then [u, u2] else [u]) (tr0 (aF A) (aG A) (((aG A).2.1.length : Int) - 1))) := fun fr' hf c => by
    rw [hU, if_pos c]
    exact mRm_trL (us := [u, u2]) (fun i hi => by
      have hi : i < 2 := hi
      rcases i with _ | _ | i
      · show wr (wr μ 52 0 u) 52 1 u2 52 0 = u
        rw [wr_n _ _ (by omega), wr_s]
      · show wr (wr μ 52 0 u) 52 1 u2 52 1 = u2
        rw [wr_s]
      · omega) hf
  have t1 : ∀ fr', fr' = max (((aG A).2.1.length : Int) - 1) 0 → ¬ 0 < u2 → ((mRm (wr (wr μ 52 0 u) 52 1 u2) (if μ 21 17 = -1 then 40 else μ 35 (μ 21 17)) (if μ 21 17 = -1 then 0 else μ 34 (μ 21 17)) (1 : Int).toNat).2.2 ≤ fr' ↔ trL (if 0 < u2 then [u, u2] else [u]) (tr0 (aF A) (aG A) (((aG A).2.1.length : Int) - 1))) := fun fr' hf c => by
    rw [hU, if_neg c]
    exact mRm_trL (us := [u]) (fun i hi => by
      have hi : i < 1 := hi
      rcases i with _ | i
      · show wr (wr μ 52 0 u) 52 1 u2 52 0 = u
        rw [wr_n _ _ (by omega), wr_s]
      · omega) hf
  have ru : inR u2 := by unfold inR; omega
  refine wq_aload_n (pc := 0) dX7_canWrite_0 rfl rfl ?_
  refine wq_getS (pc := 1) dX7_canWrite_1 hs (gf_X7_102 _ rfl) rfl rfl rfl rfl rfl ?_
  refine wq_iconst (pc := 4) dX7_canWrite_4 ?_
  refine wq_iload_n (pc := 5) dX7_canWrite_5 rfl rfl ?_
  refine wq_iastK (pc := 6) dX7_canWrite_6 hs rfl (by omega) (by omega) ?_
  refine wq_aload_n (pc := 7) dX7_canWrite_7 rfl rfl ?_
  refine wq_getS (pc := 8) dX7_canWrite_8 hs (gf_X7_102 _ rfl) rfl rfl rfl rfl rfl ?_
  refine wq_iconst (pc := 11) dX7_canWrite_11 ?_
  refine wq_iload_n (pc := 12) dX7_canWrite_12 rfl rfl ?_
  refine wq_iastK (pc := 13) dX7_canWrite_13 hs rfl (by omega) (by omega) ?_
  refine wq_aload_n (pc := 14) dX7_canWrite_14 rfl rfl ?_
  refine wq_iload_n (pc := 15) dX7_canWrite_15 rfl rfl ?_
  refine wq_if_le (pc := 16) (tgt := 23) dX7_canWrite_16 (by decide) (by first | (unfold inR; omega) | assumption) (fun c1 => ?_) (fun c1 => ?_)
  · skip
    refine wq_iconst (pc := 23) dX7_canWrite_23 ?_
    refine wq_aload_n (pc := 24) dX7_canWrite_24 rfl rfl ?_
    refine wq_getIK (pc := 25) (kk := 16) dX7_canWrite_25 hs (gf_X7_114 _ rfl) rfl rfl rfl rfl ?_
    refine wq_if_le (pc := 28) (tgt := 40) dX7_canWrite_28 (by decide) (by first | (unfold inR; omega) | assumption) (fun c2 => ?_) (fun c2 => ?_)
    · skip
      refine wq_iconst (pc := 40) dX7_canWrite_40 ?_
      refine cVK_2 (pc := 41) dX7_canWrite_41 hs (cw_X7_206 _ rfl) (by decide) rfl ⟨by decide, by decide⟩ (Nat.le_of_ble_eq_true rfl) (sp_X7_hasRoom (U := if μ 21 17 = -1 then 40 else μ 35 (μ 21 17)) (N := if μ 21 17 = -1 then 0 else μ 34 (μ 21 17)) hs (mR_of hbw) (by rw [wr_n _ _ (by omega), wr_n _ _ (by omega)]; omega) (by rw [wr_n _ _ (by omega), wr_n _ _ (by omega)]; omega) (fun j => b52 hbw j) (by omega) (by omega) (by omega) (by omega) (fun b => b35 hbw b) (fun b => b34 hbw b) (by rw [w2 21 17 (by omega), w2 35 _ (by omega)]) (by rw [w2 21 17 (by omega), w2 34 _ (by omega)]) (fun hrm => ?_) (fun hrm => ?_))
      · skip
        refine kr_s ?_
        have hrm9 := hrm
        refine wq_zret (pc := 44) dX7_canWrite_44 rfl (by first | omega | (simp; done) | assumption) ?_
        first
          | exact h1 ((t2 _ (by omega) (by omega)).mp hrm9) _ hCm hFm h25
          | exact h1 ((t1 _ (by omega) (by omega)).mp hrm9) _ hCm hFm h25
          | exact h0 (fun z => hrm9 ((t2 _ (by omega) (by omega)).mpr z)) _ hCm hFm h25
          | exact h0 (fun z => hrm9 ((t1 _ (by omega) (by omega)).mpr z)) _ hCm hFm h25
      · skip
        refine kr_s ?_
        have hrm9 := hrm
        refine wq_zret (pc := 44) dX7_canWrite_44 rfl (by first | omega | (simp; done) | assumption) ?_
        first
          | exact h1 ((t2 _ (by omega) (by omega)).mp hrm9) _ hCm hFm h25
          | exact h1 ((t1 _ (by omega) (by omega)).mp hrm9) _ hCm hFm h25
          | exact h0 (fun z => hrm9 ((t2 _ (by omega) (by omega)).mpr z)) _ hCm hFm h25
          | exact h0 (fun z => hrm9 ((t1 _ (by omega) (by omega)).mpr z)) _ hCm hFm h25
    · skip
      refine wq_aload_n (pc := 31) dX7_canWrite_31 rfl rfl ?_
      refine wq_getIK (pc := 32) (kk := 16) dX7_canWrite_32 hs (gf_X7_114 _ rfl) rfl rfl rfl rfl ?_
      refine wq_iconst (pc := 35) dX7_canWrite_35 ?_
      refine wq_isub (pc := 36) dX7_canWrite_36 ?_
      refine wq_goto (pc := 37) (tgt := 41) dX7_canWrite_37 (by decide) ?_
      refine cVK_2 (pc := 41) dX7_canWrite_41 hs (cw_X7_206 _ rfl) (by decide) rfl ⟨by decide, by decide⟩ (Nat.le_of_ble_eq_true rfl) (sp_X7_hasRoom (U := if μ 21 17 = -1 then 40 else μ 35 (μ 21 17)) (N := if μ 21 17 = -1 then 0 else μ 34 (μ 21 17)) hs (mR_of hbw) (by rw [wr_n _ _ (by omega), wr_n _ _ (by omega)]; omega) (by rw [wr_n _ _ (by omega), wr_n _ _ (by omega)]; omega) (fun j => b52 hbw j) (by omega) (by omega) (by omega) (by omega) (fun b => b35 hbw b) (fun b => b34 hbw b) (by rw [w2 21 17 (by omega), w2 35 _ (by omega)]) (by rw [w2 21 17 (by omega), w2 34 _ (by omega)]) (fun hrm => ?_) (fun hrm => ?_))
      · skip
        refine kr_s ?_
        have hrm9 := hrm
        refine wq_zret (pc := 44) dX7_canWrite_44 rfl (by first | omega | (simp; done) | assumption) ?_
        first
          | exact h1 ((t2 _ (by omega) (by omega)).mp hrm9) _ hCm hFm h25
          | exact h1 ((t1 _ (by omega) (by omega)).mp hrm9) _ hCm hFm h25
          | exact h0 (fun z => hrm9 ((t2 _ (by omega) (by omega)).mpr z)) _ hCm hFm h25
          | exact h0 (fun z => hrm9 ((t1 _ (by omega) (by omega)).mpr z)) _ hCm hFm h25
      · skip
        refine kr_s ?_
        have hrm9 := hrm
        refine wq_zret (pc := 44) dX7_canWrite_44 rfl (by first | omega | (simp; done) | assumption) ?_
        first
          | exact h1 ((t2 _ (by omega) (by omega)).mp hrm9) _ hCm hFm h25
          | exact h1 ((t1 _ (by omega) (by omega)).mp hrm9) _ hCm hFm h25
          | exact h0 (fun z => hrm9 ((t2 _ (by omega) (by omega)).mpr z)) _ hCm hFm h25
          | exact h0 (fun z => hrm9 ((t1 _ (by omega) (by omega)).mpr z)) _ hCm hFm h25
  · skip
    refine wq_iconst (pc := 19) dX7_canWrite_19 ?_
    refine wq_goto (pc := 20) (tgt := 24) dX7_canWrite_20 (by decide) ?_
    refine wq_aload_n (pc := 24) dX7_canWrite_24 rfl rfl ?_
    refine wq_getIK (pc := 25) (kk := 16) dX7_canWrite_25 hs (gf_X7_114 _ rfl) rfl rfl rfl rfl ?_
    refine wq_if_le (pc := 28) (tgt := 40) dX7_canWrite_28 (by decide) (by first | (unfold inR; omega) | assumption) (fun c7 => ?_) (fun c7 => ?_)
    · skip
      refine wq_iconst (pc := 40) dX7_canWrite_40 ?_
      refine cVK_2 (pc := 41) dX7_canWrite_41 hs (cw_X7_206 _ rfl) (by decide) rfl ⟨by decide, by decide⟩ (Nat.le_of_ble_eq_true rfl) (sp_X7_hasRoom (U := if μ 21 17 = -1 then 40 else μ 35 (μ 21 17)) (N := if μ 21 17 = -1 then 0 else μ 34 (μ 21 17)) hs (mR_of hbw) (by rw [wr_n _ _ (by omega), wr_n _ _ (by omega)]; omega) (by rw [wr_n _ _ (by omega), wr_n _ _ (by omega)]; omega) (fun j => b52 hbw j) (by omega) (by omega) (by omega) (by omega) (fun b => b35 hbw b) (fun b => b34 hbw b) (by rw [w2 21 17 (by omega), w2 35 _ (by omega)]) (by rw [w2 21 17 (by omega), w2 34 _ (by omega)]) (fun hrm => ?_) (fun hrm => ?_))
      · skip
        refine kr_s ?_
        have hrm9 := hrm
        refine wq_zret (pc := 44) dX7_canWrite_44 rfl (by first | omega | (simp; done) | assumption) ?_
        first
          | exact h1 ((t2 _ (by omega) (by omega)).mp hrm9) _ hCm hFm h25
          | exact h1 ((t1 _ (by omega) (by omega)).mp hrm9) _ hCm hFm h25
          | exact h0 (fun z => hrm9 ((t2 _ (by omega) (by omega)).mpr z)) _ hCm hFm h25
          | exact h0 (fun z => hrm9 ((t1 _ (by omega) (by omega)).mpr z)) _ hCm hFm h25
      · skip
        refine kr_s ?_
        have hrm9 := hrm
        refine wq_zret (pc := 44) dX7_canWrite_44 rfl (by first | omega | (simp; done) | assumption) ?_
        first
          | exact h1 ((t2 _ (by omega) (by omega)).mp hrm9) _ hCm hFm h25
          | exact h1 ((t1 _ (by omega) (by omega)).mp hrm9) _ hCm hFm h25
          | exact h0 (fun z => hrm9 ((t2 _ (by omega) (by omega)).mpr z)) _ hCm hFm h25
          | exact h0 (fun z => hrm9 ((t1 _ (by omega) (by omega)).mpr z)) _ hCm hFm h25
    · skip
      refine wq_aload_n (pc := 31) dX7_canWrite_31 rfl rfl ?_
      refine wq_getIK (pc := 32) (kk := 16) dX7_canWrite_32 hs (gf_X7_114 _ rfl) rfl rfl rfl rfl ?_
      refine wq_iconst (pc := 35) dX7_canWrite_35 ?_
      refine wq_isub (pc := 36) dX7_canWrite_36 ?_
      refine wq_goto (pc := 37) (tgt := 41) dX7_canWrite_37 (by decide) ?_
      refine cVK_2 (pc := 41) dX7_canWrite_41 hs (cw_X7_206 _ rfl) (by decide) rfl ⟨by decide, by decide⟩ (Nat.le_of_ble_eq_true rfl) (sp_X7_hasRoom (U := if μ 21 17 = -1 then 40 else μ 35 (μ 21 17)) (N := if μ 21 17 = -1 then 0 else μ 34 (μ 21 17)) hs (mR_of hbw) (by rw [wr_n _ _ (by omega), wr_n _ _ (by omega)]; omega) (by rw [wr_n _ _ (by omega), wr_n _ _ (by omega)]; omega) (fun j => b52 hbw j) (by omega) (by omega) (by omega) (by omega) (fun b => b35 hbw b) (fun b => b34 hbw b) (by rw [w2 21 17 (by omega), w2 35 _ (by omega)]) (by rw [w2 21 17 (by omega), w2 34 _ (by omega)]) (fun hrm => ?_) (fun hrm => ?_))
      · skip
        refine kr_s ?_
        have hrm9 := hrm
        refine wq_zret (pc := 44) dX7_canWrite_44 rfl (by first | omega | (simp; done) | assumption) ?_
        first
          | exact h1 ((t2 _ (by omega) (by omega)).mp hrm9) _ hCm hFm h25
          | exact h1 ((t1 _ (by omega) (by omega)).mp hrm9) _ hCm hFm h25
          | exact h0 (fun z => hrm9 ((t2 _ (by omega) (by omega)).mpr z)) _ hCm hFm h25
          | exact h0 (fun z => hrm9 ((t1 _ (by omega) (by omega)).mpr z)) _ hCm hFm h25
      · skip
        refine kr_s ?_
        have hrm9 := hrm
        refine wq_zret (pc := 44) dX7_canWrite_44 rfl (by first | omega | (simp; done) | assumption) ?_
        first
          | exact h1 ((t2 _ (by omega) (by omega)).mp hrm9) _ hCm hFm h25
          | exact h1 ((t1 _ (by omega) (by omega)).mp hrm9) _ hCm hFm h25
          | exact h0 (fun z => hrm9 ((t2 _ (by omega) (by omega)).mpr z)) _ hCm hFm h25
          | exact h0 (fun z => hrm9 ((t1 _ (by omega) (by omega)).mpr z)) _ hCm hFm h25
theorem sp_X7_canName {μ : nMem} {ε : nEnv} {Q : nOut → nMem → nEnv → Prop} {A : AS} {nb vb d nm : Int} (hC : CM A μ ε) (hO : AOK A nb vb) (r1 : inR d) (r2 : inR nm) (h1 : fD (aF A) = 0 → isDr A d → nmR nm → ∀ m, CM A m ε → FrM μ m → m 21 25 = 0 → Q (.inl (some (vI 1))) m ε) (h0 : ∀ m, CM A m ε → FrM μ m → (dk A ∧ m 21 25 = 3) ∨ (¬ dk A ∧ ¬ isDr A d ∧ m 21 25 = 1) ∨ (¬ dk A ∧ isDr A d ∧ ¬ nmR nm ∧ m 21 25 = 2) → Q (.inl (some (vI 0))) m ε) : Sp mX7_canName [vR 21, vI d, vI nm] μ ε Q := by
  refine Sp_of (L := [(0, vR 21), (1, vI d), (2, vI nm)]) (by decide) rfl rfl (Nat.le_of_ble_eq_true rfl) ?_
  have hs := hC.1.1
  have q21 := hC.2.1.2
  have hD := hO.2.1
  have r21 : inR (μ 21 21) := by unfold inR; omega
  refine wq_aload_n (pc := 0) dX7_canName_0 rfl rfl ?_
  refine wq_aload_n (pc := 1) dX7_canName_1 rfl rfl ?_
  refine wq_getIK (pc := 2) (kk := 21) dX7_canName_2 hs (gf_X7_174 _ rfl) rfl rfl rfl rfl ?_
  refine wq_if_eq (pc := 5) (tgt := 12) dX7_canName_5 (by decide) (by first | (unfold inR; omega) | assumption) (fun c1 => ?_) (fun c1 => ?_)
  · skip
    refine wq_aload_n (pc := 12) dX7_canName_12 rfl rfl ?_
    refine wq_iload_n (pc := 13) dX7_canName_13 rfl rfl ?_
    refine cVK_1 (pc := 14) dX7_canName_14 hs (cw_X7_213 _ rfl) (by decide) rfl ⟨by decide, by decide⟩ (Nat.le_of_ble_eq_true rfl) (sp_X7_hasDirectory hC.1 (AOK_KP hO) r1 (fun hdir m1 K1 Y1 => ?_) (fun hdir m1 K1 Y1 => ?_))
    · skip
      refine kr_s ?_
      have hdir9 := hdir
      have hC1 := CM_Y hC K1.1 Y1
      have F1 := FrM_Y Y1
      refine wq_if_ne (pc := 17) (tgt := 24) dX7_canName_17 (by decide) (by first | (unfold inR; omega) | assumption) (fun _ => ?_) (fun c => absurd c (by decide))
      refine wq_iload_n (pc := 24) dX7_canName_24 rfl rfl ?_
      refine cS_1 (pc := 25) dX7_canName_25 (cw_X7_216 _ rfl) ⟨by decide, by decide⟩ (Nat.le_of_ble_eq_true rfl) (sp_X7_isName r2 (fun hnm => ?_) (fun hnm => ?_))
      · skip
        refine kr_s ?_
        have hnm9 := hnm
        refine wq_if_ne (pc := 28) (tgt := 35) dX7_canName_28 (by decide) (by first | (unfold inR; omega) | assumption) (fun _ => ?_) (fun c => absurd c (by decide))
        refine wq_iconst (pc := 35) dX7_canName_35 ?_
        refine wq_putIK (pc := 36) (kk := 25) dX7_canName_36 hs (gf_X7_127 _ rfl) rfl rfl rfl rfl rfl ?_
        refine wq_aload_n (pc := 39) dX7_canName_39 rfl rfl ?_
        refine wq_getIK (pc := 40) (kk := 25) dX7_canName_40 hs (gf_X7_127 _ rfl) rfl rfl rfl rfl ?_
        rw [wr_s]
        refine wq_if_ne (pc := 43) (tgt := 50) dX7_canName_43 (by decide) (by first | (unfold inR; omega) | assumption) (fun c8 => ?_) (fun c8 => ?_)
        · skip
          refine wq_iconst (pc := 50) dX7_canName_50 ?_
          refine wq_zret (pc := 51) dX7_canName_51 rfl (by first | omega | (simp; done) | assumption) ?_
          first
            | (exfalso; omega)
            | exact h1 (by omega) hdir9 hnm9 _ (CM_25 hC1) (FrM_t F1 (FrM_w (by omega))) (wr_s _ _ _ _)
            | exact h0 _ (CM_25 hC1) (FrM_t F1 (FrM_w (by omega))) (Or.inr (Or.inr ⟨by omega, hdir9, hnm9, wr_s _ _ _ _⟩))
            | exact h0 _ (CM_25 hC1) (FrM_t F1 (FrM_w (by omega))) (Or.inr (Or.inl ⟨by omega, hdir9, wr_s _ _ _ _⟩))
            | exact h0 _ (CM_25 hC) (FrM_w (by omega)) (Or.inl ⟨by omega, wr_s _ _ _ _⟩)
        · skip
          refine wq_iconst (pc := 46) dX7_canName_46 ?_
          refine wq_goto (pc := 47) (tgt := 51) dX7_canName_47 (by decide) ?_
          refine wq_zret (pc := 51) dX7_canName_51 rfl (by first | omega | (simp; done) | assumption) ?_
          first
            | (exfalso; omega)
            | exact h1 (by omega) hdir9 hnm9 _ (CM_25 hC1) (FrM_t F1 (FrM_w (by omega))) (wr_s _ _ _ _)
            | exact h0 _ (CM_25 hC1) (FrM_t F1 (FrM_w (by omega))) (Or.inr (Or.inr ⟨by omega, hdir9, hnm9, wr_s _ _ _ _⟩))
            | exact h0 _ (CM_25 hC1) (FrM_t F1 (FrM_w (by omega))) (Or.inr (Or.inl ⟨by omega, hdir9, wr_s _ _ _ _⟩))
            | exact h0 _ (CM_25 hC) (FrM_w (by omega)) (Or.inl ⟨by omega, wr_s _ _ _ _⟩)
      · skip
        refine kr_s ?_
        have hnm9 := hnm
        refine wq_if_ne (pc := 28) (tgt := 35) dX7_canName_28 (by decide) (by first | (unfold inR; omega) | assumption) (fun c => absurd c (by decide)) (fun _ => ?_)
        refine wq_iconst (pc := 31) dX7_canName_31 ?_
        refine wq_goto (pc := 32) (tgt := 36) dX7_canName_32 (by decide) ?_
        refine wq_putIK (pc := 36) (kk := 25) dX7_canName_36 hs (gf_X7_127 _ rfl) rfl rfl rfl rfl rfl ?_
        refine wq_aload_n (pc := 39) dX7_canName_39 rfl rfl ?_
        refine wq_getIK (pc := 40) (kk := 25) dX7_canName_40 hs (gf_X7_127 _ rfl) rfl rfl rfl rfl ?_
        rw [wr_s]
        refine wq_if_ne (pc := 43) (tgt := 50) dX7_canName_43 (by decide) (by first | (unfold inR; omega) | assumption) (fun c10 => ?_) (fun c10 => ?_)
        · skip
          refine wq_iconst (pc := 50) dX7_canName_50 ?_
          refine wq_zret (pc := 51) dX7_canName_51 rfl (by first | omega | (simp; done) | assumption) ?_
          first
            | (exfalso; omega)
            | exact h1 (by omega) hdir9 hnm9 _ (CM_25 hC1) (FrM_t F1 (FrM_w (by omega))) (wr_s _ _ _ _)
            | exact h0 _ (CM_25 hC1) (FrM_t F1 (FrM_w (by omega))) (Or.inr (Or.inr ⟨by omega, hdir9, hnm9, wr_s _ _ _ _⟩))
            | exact h0 _ (CM_25 hC1) (FrM_t F1 (FrM_w (by omega))) (Or.inr (Or.inl ⟨by omega, hdir9, wr_s _ _ _ _⟩))
            | exact h0 _ (CM_25 hC) (FrM_w (by omega)) (Or.inl ⟨by omega, wr_s _ _ _ _⟩)
        · skip
          refine wq_iconst (pc := 46) dX7_canName_46 ?_
          refine wq_goto (pc := 47) (tgt := 51) dX7_canName_47 (by decide) ?_
          refine wq_zret (pc := 51) dX7_canName_51 rfl (by first | omega | (simp; done) | assumption) ?_
          first
            | (exfalso; omega)
            | exact h1 (by omega) hdir9 hnm9 _ (CM_25 hC1) (FrM_t F1 (FrM_w (by omega))) (wr_s _ _ _ _)
            | exact h0 _ (CM_25 hC1) (FrM_t F1 (FrM_w (by omega))) (Or.inr (Or.inr ⟨by omega, hdir9, hnm9, wr_s _ _ _ _⟩))
            | exact h0 _ (CM_25 hC1) (FrM_t F1 (FrM_w (by omega))) (Or.inr (Or.inl ⟨by omega, hdir9, wr_s _ _ _ _⟩))
            | exact h0 _ (CM_25 hC) (FrM_w (by omega)) (Or.inl ⟨by omega, wr_s _ _ _ _⟩)
    · skip
      refine kr_s ?_
      have hdir9 := hdir
      have hC1 := CM_Y hC K1.1 Y1
      have F1 := FrM_Y Y1
      refine wq_if_ne (pc := 17) (tgt := 24) dX7_canName_17 (by decide) (by first | (unfold inR; omega) | assumption) (fun c => absurd c (by decide)) (fun _ => ?_)
      refine wq_iconst (pc := 20) dX7_canName_20 ?_
      refine wq_goto (pc := 21) (tgt := 36) dX7_canName_21 (by decide) ?_
      refine wq_putIK (pc := 36) (kk := 25) dX7_canName_36 hs (gf_X7_127 _ rfl) rfl rfl rfl rfl rfl ?_
      refine wq_aload_n (pc := 39) dX7_canName_39 rfl rfl ?_
      refine wq_getIK (pc := 40) (kk := 25) dX7_canName_40 hs (gf_X7_127 _ rfl) rfl rfl rfl rfl ?_
      rw [wr_s]
      refine wq_if_ne (pc := 43) (tgt := 50) dX7_canName_43 (by decide) (by first | (unfold inR; omega) | assumption) (fun c12 => ?_) (fun c12 => ?_)
      · skip
        refine wq_iconst (pc := 50) dX7_canName_50 ?_
        refine wq_zret (pc := 51) dX7_canName_51 rfl (by first | omega | (simp; done) | assumption) ?_
        first
          | (exfalso; omega)
          | exact h1 (by omega) hdir9 hnm9 _ (CM_25 hC1) (FrM_t F1 (FrM_w (by omega))) (wr_s _ _ _ _)
          | exact h0 _ (CM_25 hC1) (FrM_t F1 (FrM_w (by omega))) (Or.inr (Or.inr ⟨by omega, hdir9, hnm9, wr_s _ _ _ _⟩))
          | exact h0 _ (CM_25 hC1) (FrM_t F1 (FrM_w (by omega))) (Or.inr (Or.inl ⟨by omega, hdir9, wr_s _ _ _ _⟩))
          | exact h0 _ (CM_25 hC) (FrM_w (by omega)) (Or.inl ⟨by omega, wr_s _ _ _ _⟩)
      · skip
        refine wq_iconst (pc := 46) dX7_canName_46 ?_
        refine wq_goto (pc := 47) (tgt := 51) dX7_canName_47 (by decide) ?_
        refine wq_zret (pc := 51) dX7_canName_51 rfl (by first | omega | (simp; done) | assumption) ?_
        first
          | (exfalso; omega)
          | exact h1 (by omega) hdir9 hnm9 _ (CM_25 hC1) (FrM_t F1 (FrM_w (by omega))) (wr_s _ _ _ _)
          | exact h0 _ (CM_25 hC1) (FrM_t F1 (FrM_w (by omega))) (Or.inr (Or.inr ⟨by omega, hdir9, hnm9, wr_s _ _ _ _⟩))
          | exact h0 _ (CM_25 hC1) (FrM_t F1 (FrM_w (by omega))) (Or.inr (Or.inl ⟨by omega, hdir9, wr_s _ _ _ _⟩))
          | exact h0 _ (CM_25 hC) (FrM_w (by omega)) (Or.inl ⟨by omega, wr_s _ _ _ _⟩)
  · skip
    refine wq_iconst (pc := 8) dX7_canName_8 ?_
    refine wq_goto (pc := 9) (tgt := 36) dX7_canName_9 (by decide) ?_
    refine wq_putIK (pc := 36) (kk := 25) dX7_canName_36 hs (gf_X7_127 _ rfl) rfl rfl rfl rfl rfl ?_
    refine wq_aload_n (pc := 39) dX7_canName_39 rfl rfl ?_
    refine wq_getIK (pc := 40) (kk := 25) dX7_canName_40 hs (gf_X7_127 _ rfl) rfl rfl rfl rfl ?_
    rw [wr_s]
    refine wq_if_ne (pc := 43) (tgt := 50) dX7_canName_43 (by decide) (by first | (unfold inR; omega) | assumption) (fun c13 => ?_) (fun c13 => ?_)
    · skip
      refine wq_iconst (pc := 50) dX7_canName_50 ?_
      refine wq_zret (pc := 51) dX7_canName_51 rfl (by first | omega | (simp; done) | assumption) ?_
      first
        | (exfalso; omega)
        | exact h1 (by omega) hdir9 hnm9 _ (CM_25 hC1) (FrM_t F1 (FrM_w (by omega))) (wr_s _ _ _ _)
        | exact h0 _ (CM_25 hC1) (FrM_t F1 (FrM_w (by omega))) (Or.inr (Or.inr ⟨by omega, hdir9, hnm9, wr_s _ _ _ _⟩))
        | exact h0 _ (CM_25 hC1) (FrM_t F1 (FrM_w (by omega))) (Or.inr (Or.inl ⟨by omega, hdir9, wr_s _ _ _ _⟩))
        | exact h0 _ (CM_25 hC) (FrM_w (by omega)) (Or.inl ⟨by omega, wr_s _ _ _ _⟩)
    · skip
      refine wq_iconst (pc := 46) dX7_canName_46 ?_
      refine wq_goto (pc := 47) (tgt := 51) dX7_canName_47 (by decide) ?_
      refine wq_zret (pc := 51) dX7_canName_51 rfl (by first | omega | (simp; done) | assumption) ?_
      first
        | (exfalso; omega)
        | exact h1 (by omega) hdir9 hnm9 _ (CM_25 hC1) (FrM_t F1 (FrM_w (by omega))) (wr_s _ _ _ _)
        | exact h0 _ (CM_25 hC1) (FrM_t F1 (FrM_w (by omega))) (Or.inr (Or.inr ⟨by omega, hdir9, hnm9, wr_s _ _ _ _⟩))
        | exact h0 _ (CM_25 hC1) (FrM_t F1 (FrM_w (by omega))) (Or.inr (Or.inl ⟨by omega, hdir9, wr_s _ _ _ _⟩))
        | exact h0 _ (CM_25 hC) (FrM_w (by omega)) (Or.inl ⟨by omega, wr_s _ _ _ _⟩)
