/-! ### the law: both sides together -/
theorem mTab_k : ∀ q ∈ mTab, q.1 = 11 ∨ q.1 = 12 ∨ q.1 = 13 := by decide
theorem R7_k {ε : nEnv} (h : R7 ε) {x : Int} (h0 : 21 ≤ x) (h1 : x ≤ 55) : eKind ε x = 8 ∨ eKind ε x = 11 ∨ eKind ε x = 12 ∨ eKind ε x = 13 := by
  by_cases c : x = 21
  · rw [c]; exact Or.inl h.1.1
  · have hl : (x - 22).toNat < mTab.length := by
      have e : mTab.length = 34 := by decide
      omega
    have hg := List.getElem?_eq_getElem hl
    have hm := List.getElem_mem hl
    generalize mTab[(x - 22).toNat] = q at hg hm
    obtain ⟨kd, ln, f⟩ := q
    have := (h.2 (x - 22).toNat kd ln f (by omega) hg).1
    rw [show (22 : Int) + ((x - 22).toNat : Int) = x by omega] at this
    have hk := mTab_k (kd, ln, f) hm
    rw [this]
    exact Or.inr hk
theorem R7_ext {ε ε' : nEnv} (h : R7 ε) (e : ∀ x, eKind ε x ≠ 0 → eKind ε' x = eKind ε x ∧ eLen ε' x = eLen ε x ∧ ∀ k, eFin ε' x k = eFin ε x k) : R7 ε' := by
  have h21 := e 21 (by rw [h.1.1]; decide)
  refine ⟨⟨h21.1.trans h.1.1, h21.2.1.trans h.1.2⟩, fun i kd ln f hi hg => ?_⟩
  obtain ⟨a, b, c⟩ := h.2 i kd ln f hi hg
  have hk := mTab_k (kd, ln, f) (List.mem_of_getElem? hg)
  have hk : kd = 11 ∨ kd = 12 ∨ kd = 13 := hk
  have q := e (22 + i) (by rw [a]; omega)
  exact ⟨q.1.trans a, q.2.1.trans b, (h21.2.2 f).trans c⟩
/-- the class's state lies outside of the reference's objects -/
theorem MC_M {A : AS} {nb vb : Int} {μ m : nMem} {ε : nEnv} (h : MC A nb vb μ ε) (h7 : R7 ε) (h56 : eKind ε 56 = 12) (e : ∀ x j, x < 21 ∨ 56 < x → m x j = μ x j) : MC A nb vb m ε := by
  obtain ⟨S, ⟨⟨a1, a2, a3, a4, a5, a6, a7, a8⟩, hL, ⟨t1, t2, t3, t4, t5, t6, t7⟩⟩, hB, hI, hD, hk, hon⟩ := h
  have e3 : ∀ i, m 3 i = μ 3 i := fun i => e 3 i (by omega)
  have e13 : ∀ i, m 13 i = μ 13 i := fun i => e 13 i (by omega)
  have hrow : ∀ i, nRow m i = nRow μ i := fun i => by unfold nRow; rw [e3]
  have out : ∀ x, eKind ε x = 5 → 21 ≤ x → x ≤ 56 → False := fun x hx x0 x1 => by
    by_cases c : x = 56
    · rw [c] at hx; omega
    · have := R7_k h7 x0 (by omega); omega
  have hro : ∀ i j, m (nRow μ i) j = μ (nRow μ i) j := fun i j => by
    by_cases c : nRow μ i < 21 ∨ 56 < nRow μ i
    · exact e _ j c
    · exact absurd (out _ (nRow_kd a1 a2 i) (by omega) (by omega)) id
  have hnB : ∀ i, nB m (nRow m i) := fun i => by
    have q := a2.2.2 i
    rw [hrow]
    unfold nB at q ⊢
    simp only [hro]
    exact q
  have hit : ∀ i : Nat, i < (tNl S).length → μ 13 i < 21 ∨ 56 < μ 13 i := fun i hi => by
    have q := (t2.1 i (by omega) (by omega) (t7 i hi).1).2.1
    omega
  have hic : ∀ i : Nat, i < (tNl S).length → eFin ε (μ 13 i) 0 < 21 ∨ 56 < eFin ε (μ 13 i) 0 := fun i hi => by
    have q := (t2.1 i (by omega) (by omega) (t7 i hi).1).2.2
    omega
  refine ⟨S, ⟨⟨a1, ⟨fun i i0 i1 => by rw [e3]; exact a2.1 i i0 i1, fun i j i0 i1 j0 j1 => by rw [e3, e3]; exact a2.2.1 i j i0 i1 j0 j1, hnB⟩, fun i i0 i1 k k0 k1 => by rw [hrow, hro]; exact a3 i i0 i1 k k0 k1, fun i => by rw [hrow, hro]; exact a4 i, fun b b0 b1 => by rw [e 4 b (by omega), e 5 b (by omega), e 6 b (by omega)]; exact a5 b b0 b1, by rw [e 2 5 (by omega)]; exact a6, by rw [e 2 6 (by omega)]; exact a7, fun k k0 k1 => by rw [e 7 k (by omega)]; exact a8 k k0 k1⟩, ?_, ⟨t1, ?_, t3, t4, by rw [e 12 2 (by omega)]; exact t5, by rw [e 12 3 (by omega)]; exact t6, fun i hi => ?_⟩⟩, hB, hI, hD, hk, hon⟩
  · obtain ⟨l1, l2, l3, l4, l5, l6⟩ := hL
    exact ⟨by rw [e 8 4 (by omega)]; exact l1, by rw [e 8 5 (by omega)]; exact l2, fun i hi => by rw [e 10 i (by omega)]; exact l3 i hi, by rw [e 8 6 (by omega)]; exact l4, fun i hi => by rw [e 11 i (by omega)]; exact l5 i hi, l6⟩
  · unfold nItems at t2 ⊢
    simp only [e13]
    exact t2
  · obtain ⟨q1, q2, q3, q4⟩ := t7 i hi
    have ea : ∀ j, m (μ 13 i) j = μ (μ 13 i) j := fun j => e _ j (hit i hi)
    have eb : ∀ j, m (eFin ε (μ 13 i) 0) j = μ (eFin ε (μ 13 i) 0) j := fun j => e _ j (hic i hi)
    rw [e13]
    refine ⟨q1, by rw [ea]; exact q2, fun k k0 k1 => by rw [ea]; exact q3 k k0 k1, fun j j0 j1 => by rw [eb]; exact q4 j j0 j1⟩
theorem CM_eq {A : AS} {μ m : nMem} {ε ε' : nEnv} (h : CM A μ ε) (hs : SkP skM ε') (e : ∀ x j, 21 ≤ x → x ≤ 55 → m x j = μ x j) : CM A m ε' := by
  obtain ⟨⟨k1, k2, k3, k4⟩, b, c⟩ := h
  refine ⟨⟨hs, fun x j x0 x1 x2 => by rw [e x j (by omega) x1]; exact k2 x j x0 x1 x2, RM_cg k3 (fun x j x0 x1 => e x j (by omega) (by omega)), LD_cg k4 (fun x j hx => e x j (by omega) (by omega))⟩, ⟨by rw [e 21 20 (by omega) (by omega)]; exact b.1, by rw [e 21 21 (by omega) (by omega)]; exact b.2⟩, fun q => ?_⟩
  obtain ⟨c1, c2, c3⟩ := c q
  refine ⟨GM_cg c1 (fun x j hx => e x j (by omega) (by omega)), by rw [e 21 22 (by omega) (by omega)]; exact c2, fun n n0 n1 => ?_⟩
  rw [e 39 n (by omega) (by omega), e 40 n (by omega) (by omega)]; exact c3 n n0 n1
/-- how a class's call may end -/
def exA (Es : List String) (a : Ans) : Prop := (∃ v, a = .inl v ∧ inR v) ∨ (∃ (i : Nat) (E : String), a = .inr E ∧ Es[i]? = some E)
theorem exA_v {Es : List String} {v : Int} (h : inR v) : exA Es (.inl v) := Or.inl ⟨v, rfl, h⟩
theorem exA_x {Es : List String} {E : String} (i : Nat) (h : Es[i]? = some E) : exA Es (.inr E) := Or.inr ⟨i, E, rfl, h⟩
theorem exA_p {Es : List String} {c : Prop} {a b : Ans × AS} (h1 : c → exA Es a.1) (h2 : ¬ c → exA Es b.1) : exA Es (pI c a b).1 := by
  by_cases q : c
  · rw [pI_1 q]; exact h1 q
  · rw [pI_0 q]; exact h2 q
theorem exA_q {Es : List String} {c : Prop} {a b : Ans} (h1 : c → exA Es a) (h2 : ¬ c → exA Es b) : exA Es (pI c a b) := by
  by_cases q : c
  · rw [pI_1 q]; exact h1 q
  · rw [pI_0 q]; exact h2 q
/-- the state where a call begins -/
def nLS (μ0 : nMem) (N : Int) (c : Nat) (A : AS) (μ : nMem) (ε : nEnv) : Prop := (MC A (2 + (c : Int)) (2 * (c : Int)) μ ε ∧ CM A μ ε ∧ Cap μ ε (600000 - c)) ∧ (R7 ε ∧ (eKind ε 56 = 12 ∧ eLen ε 56 = 1) ∧ eKind ε 1 = 7 ∧ (∀ j, μ (-1) j = μ0 (-1) j) ∧ eLen ε (-1) = N) ∧ ∀ b, 0 ≤ b → b < 8 → 0 ≤ fE (aF A) b ∧ fE (aF A) b ≤ 8 * (c : Int)
/-- the class's call has been made -/
def nL1 (μ0 : nMem) (N : Int) (c : Nat) (A A' : AS) (m : nMem) (e : nEnv) : Prop := (MC A' (2 + ((c + 1 : Nat) : Int)) (2 * ((c + 1 : Nat) : Int)) m e ∧ CM A m e ∧ Cap m e (600000 - (c + 1))) ∧ (R7 e ∧ (eKind e 56 = 12 ∧ eLen e 56 = 1) ∧ eKind e 1 = 7 ∧ (∀ j, m (-1) j = μ0 (-1) j) ∧ eLen e (-1) = N)
def AW (Es : List String) (a : Ans) (k : Int) (m : nMem) : Prop := (∃ v, a = .inl v ∧ inR v ∧ k = 0 ∧ m 56 0 = v) ∨ (∃ (i : Nat) (E : String), a = .inr E ∧ Es[i]? = some E ∧ k = (i : Int) + 1 ∧ i < Es.length)
theorem nL1_of {μ0 μ μ9 : nMem} {N : Int} {c : Nat} {A A' : AS} {ε ε9 : nEnv} (h : nLS μ0 N c A μ ε) (hM : MC A' (2 + (c : Int) + 1) (2 * (c : Int) + 2) μ9 ε9) (hc : Cap μ9 ε9 (600000 - (c + 1))) (hF : FrN μ ε μ9 ε9) : nL1 μ0 N c A A' μ9 ε9 := by
  obtain ⟨⟨h1, h2, h3⟩, ⟨h4, h5, h6, h7, h8⟩, -⟩ := h
  obtain ⟨f1, f2, f3⟩ := hF
  have R9 := R7_ext h4 f2
  refine ⟨⟨?_, CM_eq h2 (skM_of R9) (fun x j x0 x1 => f1 x (Or.inl ⟨x0, by omega, ?_, ?_, ?_⟩) j), hc⟩, R9, ⟨?_, ?_⟩, ?_, fun j => ?_, ?_⟩
  · rw [show 2 + ((c + 1 : Nat) : Int) = 2 + (c : Int) + 1 by omega, show 2 * ((c + 1 : Nat) : Int) = 2 * (c : Int) + 2 by omega]; exact hM
  · have := R7_k h4 x0 x1; omega
  · have := R7_k h4 x0 x1; omega
  · have := R7_k h4 x0 x1; omega
  · rw [(f2 56 (by rw [h5.1]; decide)).1]; exact h5.1
  · rw [(f2 56 (by rw [h5.1]; decide)).2.1]; exact h5.2
  · rw [(f2 1 (by rw [h6]; decide)).1]; exact h6
  · rw [f1 (-1) (Or.inr rfl) j]; exact h7 j
  · rw [f3]; exact h8
theorem Cap_56 {μ : nMem} {ε : nEnv} {t : Nat} {v : Int} (h : Cap μ ε t) : Cap (wr μ 56 0 v) ε t := by
  unfold Cap at h ⊢
  have e3 : wr μ 56 0 v 3 = μ 3 := funext (fun j => wr_n _ _ (by omega))
  have e13 : wr μ 56 0 v 13 = μ 13 := funext (fun j => wr_n _ _ (by omega))
  rw [e3, e13]; exact h
theorem nL1_56 {μ0 m : nMem} {N : Int} {c : Nat} {A A' : AS} {e : nEnv} {v : Int} (h : nL1 μ0 N c A A' m e) : nL1 μ0 N c A A' (wr m 56 0 v) e := by
  obtain ⟨⟨h1, h2, h3⟩, h4, h5, h6, h7, h8⟩ := h
  exact ⟨⟨MC_M h1 h4 h5.1 (fun x j hx => wr_n _ _ (by omega)), CM_eq h2 h2.1.1 (fun x j x0 x1 => wr_n _ _ (by omega)), Cap_56 h3⟩, h4, h5, h6, fun j => by rw [wr_n _ _ (by omega)]; exact h7 j, h8⟩
theorem kW_of {μ0 μ9 : nMem} {N : Int} {c : Nat} {A A' : AS} {ε9 : nEnv} {Es : List String} {a : Ans} (hx : exA Es a) (h : nL1 μ0 N c A A' μ9 ε9) : kW Es (fun k m e => AW Es a k m ∧ nL1 μ0 N c A A' m e) (oc a) μ9 ε9 := by
  rcases hx with ⟨v, e, hv⟩ | ⟨i, E, e, hi⟩
  · subst e
    exact Or.inl ⟨v, rfl, hv, h.2.2.1, Or.inl ⟨v, rfl, hv, rfl, wr_s _ _ _ _⟩, nL1_56 h⟩
  · subst e
    have hl : i < Es.length := by
      by_cases q : i < Es.length
      · exact q
      · rw [List.getElem?_eq_none (by omega)] at hi; exact absurd hi (by simp)
    exact Or.inr ⟨i, E, rfl, hl, hi, Or.inr ⟨i, E, rfl, hi, rfl, hl⟩, h⟩
/-- both answers are the same -/
theorem tie_an {Es : List String} {a : Ans} {k v : Int} {m1 m2 : nMem} (hn : Es.Nodup) (h3 : Es.length ≤ 3) (h : AW Es a k m1) (g : anM a Es v m2) : m2 21 25 = k ∧ (0 ≤ k ∧ k ≤ 3) ∧ (k = 0 → m1 56 0 = v ∧ inR v) := by
  rcases h with ⟨v1, e, hv, hk, hm⟩ | ⟨i, E, e, hi, hk, hl⟩
  · rcases g with ⟨z, e2, hz, ht⟩ | ⟨i2, E2, e2, -, -⟩
    · rw [e] at e2
      injection e2 with e2
      subst e2
      exact ⟨by omega, by omega, fun _ => ⟨by omega, by rw [hz]; exact hv⟩⟩
    · rw [e] at e2; cases e2
  · rcases g with ⟨z, e2, hz, ht⟩ | ⟨i2, E2, e2, hi2, ht⟩
    · rw [e] at e2; cases e2
    · rw [e] at e2
      injection e2 with e2
      subst e2
      have : i = i2 := (List.getElem?_inj hl hn).mp (hi.trans hi2.symm)
      subst this
      exact ⟨by omega, by omega, fun q => by omega⟩
def fEok (A A' : AS) : Prop := ∀ b, fE (aF A) b ≤ fE (aF A') b ∧ fE (aF A') b ≤ fE (aF A) b + 1
theorem nLS_of {μ0 m1 m2 μ : nMem} {N : Int} {c : Nat} {A A' : AS} {e ε : nEnv} (h0 : nLS μ0 N c A μ ε) (h : nL1 μ0 N c A A' m1 e) (hC : CM A' m2 e) (hF : FrM m1 m2) (hE : fEok A A') : nLS μ0 N (c + 1) A' m2 e := by
  obtain ⟨⟨h1, h2, h3⟩, h4, h5, h6, h7, h8⟩ := h
  refine ⟨⟨MC_M h1 h4 h5.1 (fun x j hx => hF x j (by omega)), hC, ?_⟩, ⟨h4, h5, h6, fun j => by rw [hF (-1) j (by omega)]; exact h7 j, h8⟩, fun b b0 b1 => ?_⟩
  · unfold Cap at h3 ⊢
    have e3 : m2 3 = m1 3 := funext (fun j => hF 3 j (by omega))
    have e13 : m2 13 = m1 13 := funext (fun j => hF 13 j (by omega))
    rw [e3, e13]; exact h3
  · have q := h0.2.2 b b0 b1
    have := hE b
    omega
theorem wl_callV {M' : nM} {pc idx ci : Nat} {L : List (Nat × nV)} {rest as : List nV} {μ : nMem} {ε : nEnv} {Q : nOut → nMem → nEnv → Prop} {x : Int} (hd : decode (mCode mL_law) pc = .ok (.invokevirtual idx, 3)) (hw : cxV mL_law idx M' (cTab ci).1 as.length) (hci : ci < 8) (hk : eKind ε x = ci + 1) (hfr : mFr M' + 1 ≤ mFr mL_law ∧ 8 + (mMax M' + 11) + mLo M' ≤ mLo mL_law) (hst8 : (rest.map nCat).sum ≤ 8) (h : Sp M' (vR x :: as) μ ε (kontL (pc + 3) L rest Q)) : wpL pc L (as.reverse ++ vR x :: rest) μ ε Q :=
  wq_callV hd hw hci hk hfr hst8 h (fun r _ _ q => by cases r <;> exact q) (fun _ _ _ q => absurd q id)
