/-! ### the log: the current block, the row of the free ones, the row of the closed ones -/
def lsAt (μ : nMem) (a : Int) (l : List Int) : Prop := ∀ i : Nat, i < l.length → μ a i = l.getD i 0
abbrev Lg : Type := Int × List Int × List Int
def CL (g : Lg) (μ : nMem) : Prop := μ 8 4 = g.1 ∧ μ 8 5 = g.2.1.length ∧ lsAt μ 10 g.2.1 ∧ μ 8 6 = g.2.2.length ∧ lsAt μ 11 g.2.2 ∧ g.2.1.length ≤ 8 ∧ g.2.2.length ≤ 8 ∧ (∀ b ∈ g.2.1, 0 ≤ b ∧ b < 8) ∧ (∀ b ∈ g.2.2, 0 ≤ b ∧ b < 8)
/-- what stands elsewhere stays: all but the rows' nodes and the places X -/
def FrX (X : Int → Prop) (μ : nMem) (ε : nEnv) (μ' : nMem) (ε' : nEnv) : Prop :=
  (∀ x, (eKind ε x ≠ 0 ∨ x = -1) → ¬ X x → ¬ isRow μ x → ∀ j, μ' x j = μ x j) ∧
  (∀ x, eKind ε x ≠ 0 → eKind ε' x = eKind ε x ∧ eLen ε' x = eLen ε x ∧ ∀ k, eFin ε' x k = eFin ε x k) ∧ (∀ i, 0 ≤ i → i < 128 → μ 3 i ≠ 0 → μ' 3 i = μ 3 i) ∧ (∀ i, 0 ≤ i → i < 128 → μ' 3 i = μ 3 i ∨ eKind ε (μ' 3 i) = 0) ∧
  eLen ε' (-1) = eLen ε (-1) ∧ (∀ t, Cap μ ε t → Cap μ' ε' t)
theorem FrX_refl (X : Int → Prop) (μ : nMem) (ε : nEnv) : FrX X μ ε μ ε := ⟨fun _ _ _ _ _ => rfl, fun _ _ => ⟨rfl, rfl, fun _ => rfl⟩, fun _ _ _ _ => rfl, fun _ _ _ => Or.inl rfl, rfl, fun _ h => h⟩
theorem FrX_trans {X : Int → Prop} {μ μ1 μ2 : nMem} {ε ε1 ε2 : nEnv} (hr : nRows μ1 ε1) (h : FrX X μ ε μ1 ε1) (k : FrX X μ1 ε1 μ2 ε2) : FrX X μ ε μ2 ε2 := by
  obtain ⟨a1, a2, a3, a4, a5, a6⟩ := h
  obtain ⟨b1, b2, b3, b4, b5, b6⟩ := k
  refine ⟨fun x hx h2 h7 j => ?_, fun x hx => ?_, fun i h1 h2 h3 => ?_, fun i h1 h2 => ?_, b5.trans a5, fun t h => b6 t (a6 t h)⟩
  · have h7' : ¬ isRow μ1 x := by
      rintro ⟨i, i1, i2, i3⟩
      rcases a4 i i1 i2 with e | e
      · exact h7 ⟨i, i1, i2, e ▸ i3⟩
      · rw [i3] at e
        rcases hx with hx | hx
        · exact hx e
        · have := (hr.1 i i1 i2 (by omega)).1
          omega
    rw [b1 x ?_ h2 h7' j, a1 x hx h2 h7 j]
    rcases hx with hx | hx
    · exact Or.inl (by rw [(a2 x hx).1]; exact hx)
    · exact Or.inr hx
  · obtain ⟨c1, c2, c3⟩ := a2 x hx
    obtain ⟨d1, d2, d3⟩ := b2 x (by rw [c1]; exact hx)
    exact ⟨d1.trans c1, d2.trans c2, fun k => (d3 k).trans (c3 k)⟩
  · have e := a3 i h1 h2 h3
    rw [b3 i h1 h2 (by rw [e]; exact h3), e]
  · rcases b4 i h1 h2 with e | e
    · rw [e]; exact a4 i h1 h2
    · refine Or.inr ?_
      by_cases h0 : eKind ε (μ2 3 i) = 0
      · exact h0
      · exact absurd e (by rw [(a2 _ h0).1]; exact h0)
theorem FrX_of {X : Int → Prop} {μ μ1 : nMem} {ε ε1 : nEnv} (hX : X 2 ∧ X 3 ∧ X 4 ∧ X 5 ∧ X 6) (h : FrF μ ε μ1 ε1) : FrX X μ ε μ1 ε1 := by
  obtain ⟨a1, a2⟩ := h
  exact ⟨fun x hx h2 h7 j => a1 x hx (fun e => h2 (e ▸ hX.1)) (fun e => h2 (e ▸ hX.2.1)) (fun e => h2 (e ▸ hX.2.2.1)) (fun e => h2 (e ▸ hX.2.2.2.1)) (fun e => h2 (e ▸ hX.2.2.2.2)) h7 j, a2⟩
/-- a change of places of X alone, the rows and the items' table not among them -/
theorem FrX_mem {X : Int → Prop} {μ μ1 : nMem} {ε : nEnv} (h : ∀ x, ¬ X x → ∀ j, μ1 x j = μ x j) (h3 : ∀ j, μ1 3 j = μ 3 j) (h13 : ∀ j, μ1 13 j = μ 13 j) : FrX X μ ε μ1 ε :=
  ⟨fun x _ hx _ j => h x hx j, fun _ _ => ⟨rfl, rfl, fun _ => rfl⟩, fun i _ _ _ => h3 i, fun i _ _ => Or.inl (h3 i), rfl, fun t ht => Cap_congr ht h3 h13 rfl rfl⟩
theorem FrX_wr {X : Int → Prop} {μ : nMem} {ε : nEnv} {a k v : Int} (ha : X a) (h3 : a ≠ 3) (h13 : a ≠ 13) : FrX X μ ε (wr μ a k v) ε :=
  FrX_mem (fun x hx j => wr_n _ _ (fun q => hx (q.1 ▸ ha))) (fun j => wr_n _ _ (fun q => h3 q.1.symm)) (fun j => wr_n _ _ (fun q => h13 q.1.symm))
theorem FrX_mono {X Y : Int → Prop} {μ μ1 : nMem} {ε ε1 : nEnv} (h : ∀ x, X x → Y x) (k : FrX X μ ε μ1 ε1) : FrX Y μ ε μ1 ε1 := ⟨fun x hx h2 h7 j => k.1 x hx (fun q => h2 (h x q)) h7 j, k.2⟩
/-- a change that leaves the flash's places alone -/
theorem CF_mem {F : Fl} {μ μ1 : nMem} {ε : nEnv} (hC : CF F μ ε) (h : ∀ x, (x = 2 ∨ x = 3 ∨ x = 4 ∨ x = 5 ∨ x = 6 ∨ x = 7 ∨ isRow μ x) → ∀ j, μ1 x j = μ x j) : CF F μ1 ε := by
  obtain ⟨c1, c2, c3, c4, c5, c6, c7, c8⟩ := hC
  have h3 : ∀ j, μ1 3 j = μ 3 j := h 3 (by omega)
  have hn : ∀ i j, μ1 (nRow μ i) j = μ (nRow μ i) j := by
    intro i j
    rcases nRow_far c2 i with e | ⟨e, e2, e3, e4⟩
    · exact h _ (by omega) j
    · exact h _ (by right; right; right; right; right; right; exact ⟨i, e3, e4, e2.symm⟩) j
  refine ⟨c1, nRows_congr c2 h3 (fun i => nB_of (hn i) (c2.2.2 i)), fun i i0 i1 k k0 k1 => by rw [nRow_congr h3, hn]; exact c3 i i0 i1 k k0 k1, fun i => by rw [nRow_congr h3, hn]; exact c4 i, fun b b0 b1 => by rw [h 4 (by omega), h 5 (by omega), h 6 (by omega)]; exact c5 b b0 b1, by rw [h 2 (by omega)]; exact c6, by rw [h 2 (by omega)]; exact c7, fun k k0 k1 => by rw [h 7 (by omega)]; exact c8 k k0 k1⟩
/-- a place that the tables know is no row's node, unless it is a node -/
theorem not_row {μ : nMem} {ε : nEnv} (hr : nRows μ ε) {x : Int} (h0 : x ≠ 0) (h : eKind ε x ≠ 5 ∨ x ≤ 20) : ¬ isRow μ x := by
  rintro ⟨i, i0, i1, i2⟩
  obtain ⟨a, b⟩ := hr.1 i i0 i1 (by omega)
  rw [i2] at a b
  rcases h with h | h
  · exact h b
  · omega
theorem CF_wrx {F : Fl} {μ : nMem} {ε : nEnv} {a k v : Int} (hC : CF F μ ε) (ha : 8 ≤ a ∧ a ≤ 20) : CF F (wr μ a k v) ε :=
  CF_mem hC (fun x hx j => wr_n _ _ (fun q => by
    rcases hx with h | h | h | h | h | h | ⟨i, i0, i1, i2⟩
    · omega
    · omega
    · omega
    · omega
    · omega
    · omega
    · have := (hC.2.1.1 i i0 i1 (by omega)).1
      omega))
theorem lsAt_far {μ : nMem} {a b k v : Int} {l : List Int} (h : lsAt μ a l) (hab : a ≠ b) : lsAt (wr μ b k v) a l := fun i hi => by rw [wr_n _ _ (fun q => hab q.1)]; exact h i hi
theorem lsAt_get {μ : nMem} {a : Int} {l : List Int} (h : lsAt μ a l) {i : Int} (h0 : 0 ≤ i) (h1 : i < l.length) : μ a i = l.getD i.toNat 0 ∧ μ a i ∈ l := by
  have e := h i.toNat (by omega)
  rw [show ((i.toNat : Nat) : Int) = i by omega] at e
  refine ⟨e, ?_⟩
  rw [e, List.getD_eq_getElem?_getD, List.getElem?_eq_getElem (by omega)]
  exact List.getElem_mem _
theorem CL_far {g : Lg} {μ : nMem} {a k v : Int} (h : CL g μ) (ha : a ≠ 8 ∧ a ≠ 10 ∧ a ≠ 11) : CL g (wr μ a k v) := by
  obtain ⟨c1, c2, c3, c4, c5, c6⟩ := h
  exact ⟨by rw [wr_n _ _ (by omega)]; exact c1, by rw [wr_n _ _ (by omega)]; exact c2, lsAt_far c3 (by omega), by rw [wr_n _ _ (by omega)]; exact c4, lsAt_far c5 (by omega), c6⟩
theorem CL_mem {g : Lg} {μ μ1 : nMem} (h : CL g μ) (h8 : μ1 8 4 = μ 8 4 ∧ μ1 8 5 = μ 8 5 ∧ μ1 8 6 = μ 8 6) (h10 : ∀ j, μ1 10 j = μ 10 j) (h11 : ∀ j, μ1 11 j = μ 11 j) : CL g μ1 := by
  obtain ⟨c1, c2, c3, c4, c5, c6⟩ := h
  exact ⟨by rw [h8.1]; exact c1, by rw [h8.2.1]; exact c2, fun i hi => by rw [h10]; exact c3 i hi, by rw [h8.2.2]; exact c4, fun i hi => by rw [h11]; exact c5 i hi, c6⟩
theorem CL_FrF {g : Lg} {μ μ1 : nMem} {ε ε1 : nEnv} (hs : SkP skC ε) (hr : nRows μ ε) (h : CL g μ) (hF : FrF μ ε μ1 ε1) : CL g μ1 := by
  have e : ∀ x, x = 8 ∨ x = 10 ∨ x = 11 → ∀ j, μ1 x j = μ x j := by
    intro x hx j
    have k8 := (hs 8 4 0 _ rfl (by decide)).1
    have k10 := (hs 10 11 8 _ rfl (by decide)).1
    have k11 := (hs 11 11 8 _ rfl (by decide)).1
    refine hF.1 x (Or.inl ?_) (by omega) (by omega) (by omega) (by omega) (by omega) (not_row hr (by omega) (Or.inr (by omega))) j
    rcases hx with e | e | e <;> subst e
    · rw [k8]; decide
    · rw [k10]; decide
    · rw [k11]; decide
  exact CL_mem h ⟨e 8 (by omega) 4, e 8 (by omega) 5, e 8 (by omega) 6⟩ (e 10 (by omega)) (e 11 (by omega))
theorem sp_X3_fits {μ : nMem} {ε : nEnv} {Q : nOut → nMem → nEnv → Prop} {u c n : Int} (r1 : -1000 ≤ u ∧ u ≤ 1000) (r2 : -1000 ≤ c ∧ c ≤ 1000) (r3 : -1000 ≤ n ∧ n ≤ 1000) (h1 : u + n + c + 2 ≤ 40 → Q (.inl (some (vI 1))) μ ε) (h2 : ¬ (u + n + c + 2 ≤ 40) → Q (.inl (some (vI 0))) μ ε) : Sp mX3_fits [vR 8, vI u, vI c, vI n] μ ε Q := by
  refine Sp_of (L := [(0, vR 8), (1, vI u), (2, vI c), (3, vI n)]) (by decide) rfl rfl (Nat.le_of_ble_eq_true rfl) ?_
  refine wq_iload_n (pc := 0) dX3_fits_0 rfl rfl ?_
  refine wq_iload_n (pc := 1) dX3_fits_1 rfl rfl ?_
  refine wq_iadd (pc := 2) dX3_fits_2 ?_
  refine wq_iconst (pc := 3) dX3_fits_3 ?_
  refine wq_iadd (pc := 4) dX3_fits_4 ?_
  refine wq_iload_n (pc := 5) dX3_fits_5 rfl rfl ?_
  refine wq_iadd (pc := 6) dX3_fits_6 ?_
  refine wq_iconst (pc := 7) dX3_fits_7 ?_
  refine wq_iadd (pc := 8) dX3_fits_8 ?_
  refine wq_bipush (pc := 9) dX3_fits_9 (by decide) (by decide) ?_
  refine wq_icmp_gt (pc := 11) (tgt := 18) dX3_fits_11 (by decide) (by first | (unfold inR; omega) | assumption) (by first | (unfold inR; omega) | assumption) (fun c1 => ?_) (fun c1 => ?_)
  · skip
    refine wq_iconst (pc := 18) dX3_fits_18 ?_
    refine wq_zret (pc := 19) dX3_fits_19 rfl (by first | omega | (simp; done) | assumption) ?_
    first | exact h | exact h rfl | exact h (by omega) | exact h1 (by omega) | exact h2 (by omega) | exact h3 (by omega) | exact h4 (by omega)
  · skip
    refine wq_iconst (pc := 14) dX3_fits_14 ?_
    refine wq_goto (pc := 15) (tgt := 19) dX3_fits_15 (by decide) ?_
    refine wq_zret (pc := 19) dX3_fits_19 rfl (by first | omega | (simp; done) | assumption) ?_
    first | exact h | exact h rfl | exact h (by omega) | exact h1 (by omega) | exact h2 (by omega) | exact h3 (by omega) | exact h4 (by omega)
theorem sp_X3_isFree {μ : nMem} {ε : nEnv} {Q : nOut → nMem → nEnv → Prop} {g : Lg} {b : Int} (hs : SkP skC ε) (hL : CL g μ) (r1 : inR b) (h1 : b ∈ g.2.1 → Q (.inl (some (vI 1))) μ ε) (h2 : b ∉ g.2.1 → Q (.inl (some (vI 0))) μ ε) : Sp mX3_isFree [vR 8, vI b] μ ε Q := by
  refine Sp_of (L := [(0, vR 8), (1, vI b)]) (by decide) rfl rfl (Nat.le_of_ble_eq_true rfl) ?_
  refine wq_iconst (pc := 0) dX3_isFree_0 ?_
  refine wq_istore_n (pc := 1) (L' := [(2, _), (0, _), (1, _)]) dX3_isFree_1 rfl rfl (by decide) ?_
  have loop1 : ∀ (n k : Nat), ∀ (i : Int), k ≤ 8 → 8 < k + n → i = (k : Int) → (∀ j : Nat, j < k → j < g.2.1.length → g.2.1.getD j 0 ≠ b) → wp mX3_isFree 2 [(0, vR 8), (1, vI b), (2, vI i)] [] μ ε Q := by
    intro n
    induction n with
    | zero => intro k i hk1 hk2 e0 e1; exact absurd hk2 (by omega)
    | succ n ih =>
      intro k i hk1 hk2 e0 e1
      subst e0
      have c5 := hL.2.1
      have c6 := hL.2.2.2.2.2.1
      have gk : (k : Int) < g.2.1.length → μ 10 k = g.2.1.getD k 0 ∧ 0 ≤ μ 10 k ∧ μ 10 k < 8 := fun q => by
        obtain ⟨q1, q2⟩ := lsAt_get hL.2.2.1 (i := k) (by omega) q
        exact ⟨q1, hL.2.2.2.2.2.2.2.1 _ q2⟩
      refine wq_iload_n (pc := 2) dX3_isFree_2 rfl rfl ?_
      refine wq_aload_n (pc := 3) dX3_isFree_3 rfl rfl ?_
      refine wq_getIK (pc := 4) (kk := 5) dX3_isFree_4 hs (gf_X3_33 _ rfl) rfl rfl rfl rfl ?_
      refine wq_icmp_ge (pc := 7) (tgt := 34) dX3_isFree_7 (by decide) (by first | (unfold inR; omega) | assumption) (by first | (unfold inR; omega) | assumption) (fun c2 => ?_) (fun c2 => ?_)
      · skip
        refine wq_iconst (pc := 34) dX3_isFree_34 ?_
        refine wq_zret (pc := 35) dX3_isFree_35 rfl (by first | omega | (simp; done) | assumption) ?_
        first
          | exact h1 (by first | (rename_i q; rw [← q]; exact hbb) | (rw [show b = μ 10 k by omega]; exact hbb))
          | exact h2 (fun hm => by
              obtain ⟨j, hj, hjj⟩ := List.mem_iff_getElem.mp hm
              have := e1 j (by omega) hj
              rw [List.getD_eq_getElem?_getD, List.getElem?_eq_getElem hj] at this
              exact this hjj)
      · skip
        obtain ⟨g1, g2, g3⟩ := gk (by omega)
        refine wq_iload_n (pc := 10) dX3_isFree_10 rfl rfl ?_
        refine wq_bipush (pc := 11) dX3_isFree_11 (by decide) (by decide) ?_
        refine wq_icmp_ge (pc := 13) (tgt := 34) dX3_isFree_13 (by decide) (by first | (unfold inR; omega) | assumption) (by first | (unfold inR; omega) | assumption) (fun c3 => ?_) (fun c3 => ?_)
        · skip
          refine wq_iconst (pc := 34) dX3_isFree_34 ?_
          refine wq_zret (pc := 35) dX3_isFree_35 rfl (by first | omega | (simp; done) | assumption) ?_
          first
            | exact h1 (by first | (rename_i q; rw [← q]; exact hbb) | (rw [show b = μ 10 k by omega]; exact hbb))
            | exact h2 (fun hm => by
                obtain ⟨j, hj, hjj⟩ := List.mem_iff_getElem.mp hm
                have := e1 j (by omega) hj
                rw [List.getD_eq_getElem?_getD, List.getElem?_eq_getElem hj] at this
                exact this hjj)
        · skip
          refine wq_aload_n (pc := 16) dX3_isFree_16 rfl rfl ?_
          refine wq_getS (pc := 17) dX3_isFree_17 hs (gf_X3_18 _ rfl) rfl rfl rfl rfl rfl ?_
          refine wq_iload_n (pc := 20) dX3_isFree_20 rfl rfl ?_
          refine wq_ialdK (pc := 21) dX3_isFree_21 hs rfl (by omega) (by omega) ?_
          refine wq_iload_n (pc := 22) dX3_isFree_22 rfl rfl ?_
          refine wq_icmp_ne (pc := 23) (tgt := 28) dX3_isFree_23 (by decide) (by first | (unfold inR; omega) | assumption) (by first | (unfold inR; omega) | assumption) (fun c4 => ?_) (fun c4 => ?_)
          · skip
            refine wq_iinc (pc := 28) (L' := [(2, _), (0, _), (1, _)]) dX3_isFree_28 rfl rfl (by decide) ?_
            refine wq_goto (pc := 31) (tgt := 2) dX3_isFree_31 (by decide) ?_
            refine wq_sub1 (L' := [(0, _), (1, _), (2, _)]) ⟨rfl, rfl, rfl, trivial⟩ ?_
            refine ih (k + 1) _ (by omega) (by omega) (by omega) (fun j h1 h2 => ?_)
            by_cases e : j = k
            · rw [e, ← (gk (by omega)).1]; assumption
            · exact e1 j (by omega) h2
          · skip
            have hbb := (lsAt_get hL.2.2.1 (i := (k : Int)) (by omega) (by omega)).2
            refine wq_iconst (pc := 26) dX3_isFree_26 ?_
            refine wq_zret (pc := 27) dX3_isFree_27 rfl (by first | omega | (simp; done) | assumption) ?_
            first
              | exact h1 (by first | (rename_i q; rw [← q]; exact hbb) | (rw [show b = μ 10 k by omega]; exact hbb))
              | exact h2 (fun hm => by
                  obtain ⟨j, hj, hjj⟩ := List.mem_iff_getElem.mp hm
                  have := e1 j (by omega) hj
                  rw [List.getD_eq_getElem?_getD, List.getElem?_eq_getElem hj] at this
                  exact this hjj)
  refine wq_sub1 (L' := [(0, _), (1, _), (2, _)]) ⟨rfl, rfl, rfl, trivial⟩ ?_
  exact loop1 9 0 _ (by omega) (by omega) (by omega) (fun j h1 _ => absurd h1 (by omega))
theorem sp_X3_closedAt {μ : nMem} {ε : nEnv} {Q : nOut → nMem → nEnv → Prop} {g : Lg} {i : Int} (hs : SkP skC ε) (hL : CL g μ) (r1 : 0 ≤ i ∧ i < g.2.2.length) (h : Q (.inl (some (vI (g.2.2.getD i.toNat 0)))) μ ε) : Sp mX3_closedAt [vR 8, vI i] μ ε Q := by
  refine Sp_of (L := [(0, vR 8), (1, vI i)]) (by decide) rfl rfl (Nat.le_of_ble_eq_true rfl) ?_
  have c5 := hL.2.2.2.1
  have c6 := hL.2.2.2.2.2.2.1
  refine wq_iload_n (pc := 0) dX3_closedAt_0 rfl rfl ?_
  refine wq_if_lt (pc := 1) (tgt := 27) dX3_closedAt_1 (by decide) (by first | (unfold inR; omega) | assumption) (fun c1 => ?_) (fun c1 => ?_)
  · skip
    exfalso; omega
  · skip
    refine wq_iload_n (pc := 4) dX3_closedAt_4 rfl rfl ?_
    refine wq_aload_n (pc := 5) dX3_closedAt_5 rfl rfl ?_
    refine wq_getIK (pc := 6) (kk := 6) dX3_closedAt_6 hs (gf_X3_36 _ rfl) rfl rfl rfl rfl ?_
    refine wq_icmp_ge (pc := 9) (tgt := 27) dX3_closedAt_9 (by decide) (by first | (unfold inR; omega) | assumption) (by first | (unfold inR; omega) | assumption) (fun c2 => ?_) (fun c2 => ?_)
    · skip
      exfalso; omega
    · skip
      refine wq_iload_n (pc := 12) dX3_closedAt_12 rfl rfl ?_
      refine wq_bipush (pc := 13) dX3_closedAt_13 (by decide) (by decide) ?_
      refine wq_icmp_ge (pc := 15) (tgt := 27) dX3_closedAt_15 (by decide) (by first | (unfold inR; omega) | assumption) (by first | (unfold inR; omega) | assumption) (fun c3 => ?_) (fun c3 => ?_)
      · skip
        exfalso; omega
      · skip
        refine wq_aload_n (pc := 18) dX3_closedAt_18 rfl rfl ?_
        refine wq_getS (pc := 19) dX3_closedAt_19 hs (gf_X3_22 _ rfl) rfl rfl rfl rfl rfl ?_
        refine wq_iload_n (pc := 22) dX3_closedAt_22 rfl rfl ?_
        refine wq_ialdK (pc := 23) dX3_closedAt_23 hs rfl (by omega) (by omega) ?_
        refine wq_goto (pc := 24) (tgt := 28) dX3_closedAt_24 (by decide) ?_
        refine wq_iret (pc := 28) dX3_closedAt_28 rfl ?_
        rw [← (lsAt_get hL.2.2.2.2.1 (i := i) (by omega) (by omega)).1] at h; exact h
theorem CL_addFree {g : Lg} {μ : nMem} {b : Int} (hL : CL g μ) (hb : 0 ≤ b ∧ b < 8) (hn : g.2.1.length < 8) : CL (g.1, g.2.1 ++ [b], g.2.2) (wr (wr μ 10 (μ 8 5) b) 8 5 (μ 8 5 + 1)) := by
  obtain ⟨c1, c2, c3, c4, c5, c6, c7, c8, c9⟩ := hL
  refine ⟨?_, ?_, ?_, ?_, ?_, ?_, ?_, ?_, ?_⟩
  · rw [wr_n _ _ (by omega), wr_n _ _ (by omega)]; exact c1
  · rw [wr_s, List.length_append, c2]; simp
  · intro i hi
    rw [List.length_append] at hi
    have hi : i < g.2.1.length + 1 := hi
    rw [wr_n _ _ (by omega)]
    by_cases e : i = g.2.1.length
    · rw [c2, e, wr_s]; simp
    · rw [wr_n _ _ (by omega), c3 i (by omega)]
      simp only [List.getD_eq_getElem?_getD]
      rw [List.getElem?_append_left (by omega)]
  · rw [wr_n _ _ (by omega), wr_n _ _ (by omega)]; exact c4
  · exact lsAt_far (lsAt_far c5 (by omega)) (by omega)
  · rw [List.length_append]; simp; omega
  · exact c7
  · intro x hx; rcases List.mem_append.mp hx with h | h; exact c8 x h; rw [List.mem_singleton.mp h]; exact hb
  · exact c9
theorem sp_X3_addFree {μ : nMem} {ε : nEnv} {Q : nOut → nMem → nEnv → Prop} {g : Lg} {b : Int} (hs : SkP skC ε) (hL : CL g μ) (hb : 0 ≤ b ∧ b < 8) (hn : g.2.1.length < 8) (h : ∀ μ9, CL (g.1, g.2.1 ++ [b], g.2.2) μ9 → (∀ F, CF F μ ε → CF F μ9 ε) → FrX (fun x => x = 8 ∨ x = 10 ∨ x = 11) μ ε μ9 ε → Q (.inl none) μ9 ε) : Sp mX3_addFree [vR 8, vI b] μ ε Q := by
  refine Sp_of (L := [(0, vR 8), (1, vI b)]) (by decide) rfl rfl (Nat.le_of_ble_eq_true rfl) ?_
  have c5 := hL.2.1
  refine wq_aload_n (pc := 0) dX3_addFree_0 rfl rfl ?_
  refine wq_getIK (pc := 1) (kk := 5) dX3_addFree_1 hs (gf_X3_33 _ rfl) rfl rfl rfl rfl ?_
  refine wq_if_lt (pc := 4) (tgt := 36) dX3_addFree_4 (by decide) (by first | (unfold inR; omega) | assumption) (fun c1 => ?_) (fun c1 => ?_)
  · skip
    exfalso; omega
  · skip
    refine wq_aload_n (pc := 7) dX3_addFree_7 rfl rfl ?_
    refine wq_getIK (pc := 8) (kk := 5) dX3_addFree_8 hs (gf_X3_33 _ rfl) rfl rfl rfl rfl ?_
    refine wq_bipush (pc := 11) dX3_addFree_11 (by decide) (by decide) ?_
    refine wq_icmp_ge (pc := 13) (tgt := 36) dX3_addFree_13 (by decide) (by first | (unfold inR; omega) | assumption) (by first | (unfold inR; omega) | assumption) (fun c2 => ?_) (fun c2 => ?_)
    · skip
      exfalso; omega
    · skip
      refine wq_aload_n (pc := 16) dX3_addFree_16 rfl rfl ?_
      refine wq_getS (pc := 17) dX3_addFree_17 hs (gf_X3_18 _ rfl) rfl rfl rfl rfl rfl ?_
      refine wq_aload_n (pc := 20) dX3_addFree_20 rfl rfl ?_
      refine wq_getIK (pc := 21) (kk := 5) dX3_addFree_21 hs (gf_X3_33 _ rfl) rfl rfl rfl rfl ?_
      refine wq_iload_n (pc := 24) dX3_addFree_24 rfl rfl ?_
      refine wq_iastK (pc := 25) dX3_addFree_25 hs rfl (by omega) (by omega) ?_
      refine wq_aload_n (pc := 26) dX3_addFree_26 rfl rfl ?_
      refine wq_dup (pc := 27) dX3_addFree_27 rfl ?_
      refine wq_getIK (pc := 28) (kk := 5) dX3_addFree_28 hs (gf_X3_33 _ rfl) rfl rfl rfl rfl ?_
      refine wq_iconst (pc := 31) dX3_addFree_31 ?_
      refine wq_iadd (pc := 32) dX3_addFree_32 ?_
      refine wq_putIK (pc := 33) (kk := 5) dX3_addFree_33 hs (gf_X3_33 _ rfl) rfl rfl rfl rfl rfl ?_
      refine wq_vret (pc := 36) dX3_addFree_36 rfl ?_
      rw [wr_n _ _ (by omega)]
      exact h _ (CL_addFree hL hb hn) (fun F hF => CF_wrx (CF_wrx hF (by omega)) (by omega)) (FrX_mem (fun x hx j => by rw [wr_n _ _ (fun q => hx (by omega)), wr_n _ _ (fun q => hx (by omega))]) (fun j => by rw [wr_n _ _ (by omega), wr_n _ _ (by omega)]) (fun j => by rw [wr_n _ _ (by omega), wr_n _ _ (by omega)]))
theorem CL_addClosed {g : Lg} {μ : nMem} {b : Int} (hL : CL g μ) (hb : 0 ≤ b ∧ b < 8) (hn : g.2.2.length < 8) : CL (g.1, g.2.1, g.2.2 ++ [b]) (wr (wr μ 11 (μ 8 6) b) 8 6 (μ 8 6 + 1)) := by
  obtain ⟨c1, c2, c3, c4, c5, c6, c7, c8, c9⟩ := hL
  refine ⟨?_, ?_, ?_, ?_, ?_, ?_, ?_, ?_, ?_⟩
  · rw [wr_n _ _ (by omega), wr_n _ _ (by omega)]; exact c1
  · rw [wr_n _ _ (by omega), wr_n _ _ (by omega)]; exact c2
  · exact lsAt_far (lsAt_far c3 (by omega)) (by omega)
  · rw [wr_s, List.length_append, c4]; simp
  · intro i hi
    rw [List.length_append] at hi
    have hi : i < g.2.2.length + 1 := hi
    rw [wr_n _ _ (by omega)]
    by_cases e : i = g.2.2.length
    · rw [c4, e, wr_s]; simp
    · rw [wr_n _ _ (by omega), c5 i (by omega)]
      simp only [List.getD_eq_getElem?_getD]
      rw [List.getElem?_append_left (by omega)]
  · exact c6
  · rw [List.length_append]; simp; omega
  · exact c8
  · intro x hx; rcases List.mem_append.mp hx with h | h; exact c9 x h; rw [List.mem_singleton.mp h]; exact hb
theorem sp_X3_addClosed {μ : nMem} {ε : nEnv} {Q : nOut → nMem → nEnv → Prop} {g : Lg} {b : Int} (hs : SkP skC ε) (hL : CL g μ) (hb : 0 ≤ b ∧ b < 8) (hn : g.2.2.length < 8) (h : ∀ μ9, CL (g.1, g.2.1, g.2.2 ++ [b]) μ9 → (∀ F, CF F μ ε → CF F μ9 ε) → FrX (fun x => x = 8 ∨ x = 10 ∨ x = 11) μ ε μ9 ε → Q (.inl none) μ9 ε) : Sp mX3_addClosed [vR 8, vI b] μ ε Q := by
  refine Sp_of (L := [(0, vR 8), (1, vI b)]) (by decide) rfl rfl (Nat.le_of_ble_eq_true rfl) ?_
  have c5 := hL.2.2.2.1
  refine wq_aload_n (pc := 0) dX3_addClosed_0 rfl rfl ?_
  refine wq_getIK (pc := 1) (kk := 6) dX3_addClosed_1 hs (gf_X3_36 _ rfl) rfl rfl rfl rfl ?_
  refine wq_if_lt (pc := 4) (tgt := 36) dX3_addClosed_4 (by decide) (by first | (unfold inR; omega) | assumption) (fun c1 => ?_) (fun c1 => ?_)
  · skip
    exfalso; omega
  · skip
    refine wq_aload_n (pc := 7) dX3_addClosed_7 rfl rfl ?_
    refine wq_getIK (pc := 8) (kk := 6) dX3_addClosed_8 hs (gf_X3_36 _ rfl) rfl rfl rfl rfl ?_
    refine wq_bipush (pc := 11) dX3_addClosed_11 (by decide) (by decide) ?_
    refine wq_icmp_ge (pc := 13) (tgt := 36) dX3_addClosed_13 (by decide) (by first | (unfold inR; omega) | assumption) (by first | (unfold inR; omega) | assumption) (fun c2 => ?_) (fun c2 => ?_)
    · skip
      exfalso; omega
    · skip
      refine wq_aload_n (pc := 16) dX3_addClosed_16 rfl rfl ?_
      refine wq_getS (pc := 17) dX3_addClosed_17 hs (gf_X3_22 _ rfl) rfl rfl rfl rfl rfl ?_
      refine wq_aload_n (pc := 20) dX3_addClosed_20 rfl rfl ?_
      refine wq_getIK (pc := 21) (kk := 6) dX3_addClosed_21 hs (gf_X3_36 _ rfl) rfl rfl rfl rfl ?_
      refine wq_iload_n (pc := 24) dX3_addClosed_24 rfl rfl ?_
      refine wq_iastK (pc := 25) dX3_addClosed_25 hs rfl (by omega) (by omega) ?_
      refine wq_aload_n (pc := 26) dX3_addClosed_26 rfl rfl ?_
      refine wq_dup (pc := 27) dX3_addClosed_27 rfl ?_
      refine wq_getIK (pc := 28) (kk := 6) dX3_addClosed_28 hs (gf_X3_36 _ rfl) rfl rfl rfl rfl ?_
      refine wq_iconst (pc := 31) dX3_addClosed_31 ?_
      refine wq_iadd (pc := 32) dX3_addClosed_32 ?_
      refine wq_putIK (pc := 33) (kk := 6) dX3_addClosed_33 hs (gf_X3_36 _ rfl) rfl rfl rfl rfl rfl ?_
      refine wq_vret (pc := 36) dX3_addClosed_36 rfl ?_
      rw [wr_n _ _ (by omega)]
      exact h _ (CL_addClosed hL hb hn) (fun F hF => CF_wrx (CF_wrx hF (by omega)) (by omega)) (FrX_mem (fun x hx j => by rw [wr_n _ _ (fun q => hx (by omega)), wr_n _ _ (fun q => hx (by omega))]) (fun j => by rw [wr_n _ _ (by omega), wr_n _ _ (by omega)]) (fun j => by rw [wr_n _ _ (by omega), wr_n _ _ (by omega)]))
