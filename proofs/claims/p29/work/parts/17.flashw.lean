/-- what a frame's world knows of its environment -/
def eOK (ε : nEnv) : Prop := (∀ x, eKind ε x ≠ 0 → 1 ≤ x ∧ x ≤ eSz ε) ∧ eSz ε ≤ 600086 ∧ eSl ε ≤ 7301442 ∧ 0 ≤ eLen ε (-1)
theorem wq_env {M : nM} {pc : Nat} {L : List (Nat × nV)} {st : List nV} {μ : nMem} {ε : nEnv} {tb : List ExceptionTableEntry → Prop} {Fn : nG → Nat → Nat → List Frame → Array Value → State → State → Prop} (k : eOK ε → wpF M pc L st μ ε tb Fn) : wpF M pc L st μ ε tb Fn := by
  intro G hG z0 n0 p l e R s m args below meth c hC htb H locs ls hR hl hS hz hn
  exact k ⟨fun x hx => ⟨(hR.2.2.1 x hx).1, (hR.2.2.1 x hx).2.1⟩, hR.2.2.2.2.1.1, hR.2.2.2.2.1.2, hR.2.2.2.2.2.2.2.1⟩ G hG z0 n0 p l e R s m args below meth c hC htb H locs ls hR hl hS hz hn
theorem mClear_v (μ : nMem) (a x j : Int) : mClear μ a x j = if x = a ∧ 0 ≤ j ∧ j ≤ 13 then 0 else μ x j := by
  unfold mClear wr
  by_cases hx : x = a
  · by_cases h : 0 ≤ j ∧ j ≤ 13
    · rcases (show j = 0 ∨ j = 1 ∨ j = 2 ∨ j = 3 ∨ j = 4 ∨ j = 5 ∨ j = 6 ∨ j = 7 ∨ j = 8 ∨ j = 9 ∨ j = 10 ∨ j = 11 ∨ j = 12 ∨ j = 13 by omega) with e | e | e | e | e | e | e | e | e | e | e | e | e | e <;> simp [hx, e]
    · simp [hx, h, show j ≠ 0 by omega, show j ≠ 1 by omega, show j ≠ 2 by omega, show j ≠ 3 by omega, show j ≠ 4 by omega, show j ≠ 5 by omega, show j ≠ 6 by omega, show j ≠ 7 by omega, show j ≠ 8 by omega, show j ≠ 9 by omega, show j ≠ 10 by omega, show j ≠ 11 by omega, show j ≠ 12 by omega, show j ≠ 13 by omega]
  · simp [hx]
theorem mCopy_v (μ : nMem) (a o x j : Int) : mCopy μ a o x j = if x = a ∧ 0 ≤ j ∧ j ≤ 13 then (if j = 2 ∨ j = 12 ∨ j = 13 then 0 else μ o j) else μ x j := by
  unfold mCopy wr
  by_cases hx : x = a
  · by_cases h : 0 ≤ j ∧ j ≤ 13
    · rcases (show j = 0 ∨ j = 1 ∨ j = 2 ∨ j = 3 ∨ j = 4 ∨ j = 5 ∨ j = 6 ∨ j = 7 ∨ j = 8 ∨ j = 9 ∨ j = 10 ∨ j = 11 ∨ j = 12 ∨ j = 13 by omega) with e | e | e | e | e | e | e | e | e | e | e | e | e | e <;> simp [hx, e]
    · simp [hx, h, show j ≠ 0 by omega, show j ≠ 1 by omega, show j ≠ 2 by omega, show j ≠ 3 by omega, show j ≠ 4 by omega, show j ≠ 5 by omega, show j ≠ 6 by omega, show j ≠ 7 by omega, show j ≠ 8 by omega, show j ≠ 9 by omega, show j ≠ 10 by omega, show j ≠ 11 by omega, show j ≠ 12 by omega, show j ≠ 13 by omega]
  · simp [hx]
theorem mData_v (μ : nMem) (a f v o z x j : Int) : mData μ a f v o z x j = if x = a ∧ 0 ≤ j ∧ j ≤ 13 then (if j = 0 then 1 else if j = 1 then 2 else if j = 3 then f else if j = 4 then v else if j = 5 then o else if j = 9 then z else 0) else μ x j := by
  unfold mData wr
  by_cases hx : x = a
  · by_cases h : 0 ≤ j ∧ j ≤ 13
    · rcases (show j = 0 ∨ j = 1 ∨ j = 2 ∨ j = 3 ∨ j = 4 ∨ j = 5 ∨ j = 6 ∨ j = 7 ∨ j = 8 ∨ j = 9 ∨ j = 10 ∨ j = 11 ∨ j = 12 ∨ j = 13 by omega) with e | e | e | e | e | e | e | e | e | e | e | e | e | e <;> simp [hx, e, mClear_v]
    · simp [hx, h, show j ≠ 0 by omega, show j ≠ 1 by omega, show j ≠ 2 by omega, show j ≠ 3 by omega, show j ≠ 4 by omega, show j ≠ 5 by omega, show j ≠ 6 by omega, show j ≠ 7 by omega, show j ≠ 8 by omega, show j ≠ 9 by omega, show j ≠ 10 by omega, show j ≠ 11 by omega, show j ≠ 12 by omega, show j ≠ 13 by omega, mClear_v]
  · simp [hx, mClear_v]
theorem mName_v (μ : nMem) (a d v nm t td x j : Int) : mName μ a d v nm t td x j = if x = a ∧ 0 ≤ j ∧ j ≤ 13 then (if j = 0 then 2 else if j = 1 then 3 else if j = 3 then d else if j = 4 then v else if j = 5 then nm else if j = 10 then t else if j = 11 then td else 0) else μ x j := by
  unfold mName wr
  by_cases hx : x = a
  · by_cases h : 0 ≤ j ∧ j ≤ 13
    · rcases (show j = 0 ∨ j = 1 ∨ j = 2 ∨ j = 3 ∨ j = 4 ∨ j = 5 ∨ j = 6 ∨ j = 7 ∨ j = 8 ∨ j = 9 ∨ j = 10 ∨ j = 11 ∨ j = 12 ∨ j = 13 by omega) with e | e | e | e | e | e | e | e | e | e | e | e | e | e <;> simp [hx, e, mClear_v]
    · simp [hx, h, show j ≠ 0 by omega, show j ≠ 1 by omega, show j ≠ 2 by omega, show j ≠ 3 by omega, show j ≠ 4 by omega, show j ≠ 5 by omega, show j ≠ 6 by omega, show j ≠ 7 by omega, show j ≠ 8 by omega, show j ≠ 9 by omega, show j ≠ 10 by omega, show j ≠ 11 by omega, show j ≠ 12 by omega, show j ≠ 13 by omega, mClear_v]
  · simp [hx, mClear_v]
theorem mSumm_v (μ : nMem) (a c x j : Int) : mSumm μ a c x j = if x = a ∧ 0 ≤ j ∧ j ≤ 13 then (if j = 0 then 3 else if j = 1 then 1 + c else 0) else μ x j := by
  unfold mSumm wr
  by_cases hx : x = a
  · by_cases h : 0 ≤ j ∧ j ≤ 13
    · rcases (show j = 0 ∨ j = 1 ∨ j = 2 ∨ j = 3 ∨ j = 4 ∨ j = 5 ∨ j = 6 ∨ j = 7 ∨ j = 8 ∨ j = 9 ∨ j = 10 ∨ j = 11 ∨ j = 12 ∨ j = 13 by omega) with e | e | e | e | e | e | e | e | e | e | e | e | e | e <;> simp [hx, e, mClear_v]
    · simp [hx, h, show j ≠ 0 by omega, show j ≠ 1 by omega, show j ≠ 2 by omega, show j ≠ 3 by omega, show j ≠ 4 by omega, show j ≠ 5 by omega, show j ≠ 6 by omega, show j ≠ 7 by omega, show j ≠ 8 by omega, show j ≠ 9 by omega, show j ≠ 10 by omega, show j ≠ 11 by omega, show j ≠ 12 by omega, show j ≠ 13 by omega, mClear_v]
  · simp [hx, mClear_v]
theorem mBytes_v (μ : nMem) (a b n x j : Int) : mBytes μ a b n x j = if x = a ∧ (j = 1 ∨ j = 6 ∨ j = 7 ∨ j = 8) then (if j = 1 then 2 + n else if j = 6 then n else if j = 7 then b else jShl (jShl 1 n - 1) (μ a 5)) else μ x j := by
  unfold mBytes wr
  by_cases hx : x = a
  · subst hx
    simp only [eq_self, true_and]
    (repeat' split) <;> (try subst_vars) <;> first | rfl | (exfalso; omega) | simp_all
  · simp [hx]
theorem nB_of {μ μ' : nMem} {a : Int} (h : ∀ j, μ' a j = μ a j) (k : nB μ a) : nB μ' a := by
  unfold nB
  simp only [h]
  exact k
/-! ### the flash, as a mathematical value: the nodes, the units written, the nodes' numbers, the erasures, the power left, dark -/
abbrev Fl : Type := (Int → Int → Int) × (Int → Int) × (Int → Int) × (Int → Int) × Int × Int
def fN (F : Fl) : Int → Int → Int := F.1
def fU (F : Fl) : Int → Int := F.2.1
def fC (F : Fl) : Int → Int := F.2.2.1
def fE (F : Fl) : Int → Int := F.2.2.2.1
def fL (F : Fl) : Int := F.2.2.2.2.1
def fD (F : Fl) : Int := F.2.2.2.2.2
/-- zeros among the first n -/
def nul (f : Int → Int) : Nat → Nat
  | 0 => 0
  | n + 1 => nul f n + (if f n = 0 then 1 else 0)
/-- room for what may still be made, and for t throws -/
def Cap (μ : nMem) (ε : nEnv) (t : Nat) : Prop := eSz ε + nul (μ 3) 128 + 2 * nul (μ 13) 129 + t ≤ 600086 ∧ eSl ε + 14 * nul (μ 3) 128 + 108 * nul (μ 13) 129 + 6 * t ≤ 7301442
def isRow (μ : nMem) (x : Int) : Prop := ∃ i, 0 ≤ i ∧ i < 128 ∧ μ 3 i = x
def CF (F : Fl) (μ : nMem) (ε : nEnv) : Prop := SkP skC ε ∧ nRows μ ε ∧ (∀ i, 0 ≤ i → i < 128 → ∀ k, 0 ≤ k → k ≤ 11 → μ (nRow μ i) k = fN F i k) ∧ (∀ i, μ (nRow μ i) 13 = 0) ∧ (∀ b, 0 ≤ b → b < 8 → μ 4 b = fU F b ∧ μ 5 b = fC F b ∧ μ 6 b = fE F b) ∧ μ 2 5 = fL F ∧ μ 2 6 = fD F ∧ (∀ k, 0 ≤ k → k ≤ 13 → μ 7 k = 0)
/-- what stands outside the flash stays -/
def FrF (μ : nMem) (ε : nEnv) (μ' : nMem) (ε' : nEnv) : Prop :=
  (∀ x, (eKind ε x ≠ 0 ∨ x = -1) → x ≠ 2 → x ≠ 3 → x ≠ 4 → x ≠ 5 → x ≠ 6 → ¬ isRow μ x → ∀ j, μ' x j = μ x j) ∧
  (∀ x, eKind ε x ≠ 0 → eKind ε' x = eKind ε x ∧ eLen ε' x = eLen ε x ∧ ∀ k, eFin ε' x k = eFin ε x k) ∧ (∀ i, 0 ≤ i → i < 128 → μ 3 i ≠ 0 → μ' 3 i = μ 3 i) ∧ (∀ i, 0 ≤ i → i < 128 → μ' 3 i = μ 3 i ∨ eKind ε (μ' 3 i) = 0) ∧
  eLen ε' (-1) = eLen ε (-1) ∧ (∀ t, Cap μ ε t → Cap μ' ε' t)
theorem FrF_refl (μ : nMem) (ε : nEnv) : FrF μ ε μ ε := ⟨fun _ _ _ _ _ _ _ _ _ => rfl, fun _ _ => ⟨rfl, rfl, fun _ => rfl⟩, fun _ _ _ _ => rfl, fun _ _ _ => Or.inl rfl, rfl, fun _ h => h⟩
theorem FrF_trans {μ μ1 μ2 : nMem} {ε ε1 ε2 : nEnv} (hr : nRows μ1 ε1) (h : FrF μ ε μ1 ε1) (k : FrF μ1 ε1 μ2 ε2) : FrF μ ε μ2 ε2 := by
  obtain ⟨a1, a2, a3, a4, a5, a6⟩ := h
  obtain ⟨b1, b2, b3, b4, b5, b6⟩ := k
  refine ⟨fun x hx h2 h3 h4 h5 h6 h7 j => ?_, fun x hx => ?_, fun i h1 h2 h3 => ?_, fun i h1 h2 => ?_, b5.trans a5, fun t h => b6 t (a6 t h)⟩
  · have h7' : ¬ isRow μ1 x := by
      rintro ⟨i, i1, i2, i3⟩
      rcases a4 i i1 i2 with e | e
      · exact h7 ⟨i, i1, i2, e ▸ i3⟩
      · rw [i3] at e
        rcases hx with hx | hx
        · exact hx e
        · have := (hr.1 i i1 i2 (by omega)).1
          omega
    rw [b1 x ?_ h2 h3 h4 h5 h6 h7' j, a1 x hx h2 h3 h4 h5 h6 h7 j]
    rcases hx with hx | hx
    · exact Or.inl (by rw [(a2 x hx).1]; exact hx)
    · exact Or.inr hx
  · obtain ⟨c1, c2, c3⟩ := a2 x hx
    obtain ⟨d1, d2, d3⟩ := b2 x (by rw [c1]; exact hx)
    exact ⟨d1.trans c1, d2.trans c2, fun k => (d3 k).trans (c3 k)⟩
  · have e := a3 i h1 h2 h3
    rw [b3 i h1 h2 (by rw [e]; exact h3), e]
  · rcases b4 i h1 h2 with e | e
    · rw [e]; exact a4 i h1 h2
    · refine Or.inr ?_
      by_cases h0 : eKind ε (μ2 3 i) = 0
      · exact h0
      · exact absurd e (by rw [(a2 _ h0).1]; exact h0)
theorem nul_congr {f g : Int → Int} : ∀ n : Nat, (∀ i : Int, 0 ≤ i → i < n → f i = g i) → nul f n = nul g n
  | 0, _ => rfl
  | n + 1, h => by
    unfold nul
    rw [nul_congr n (fun i h1 h2 => h i h1 (by omega)), h n (by omega) (by omega)]
theorem Cap_congr {μ μ' : nMem} {ε ε' : nEnv} {t : Nat} (h : Cap μ ε t) (h3 : ∀ i, μ' 3 i = μ 3 i) (h13 : ∀ i, μ' 13 i = μ 13 i) (e1 : eSz ε' = eSz ε) (e2 : eSl ε' = eSl ε) : Cap μ' ε' t := by
  unfold Cap at h ⊢
  rw [nul_congr 128 (fun i _ _ => h3 i), nul_congr 129 (fun i _ _ => h13 i), e1, e2]
  exact h
theorem nRow_congr {μ μ' : nMem} (h : ∀ i, μ' 3 i = μ 3 i) (i : Int) : nRow μ' i = nRow μ i := by
  unfold nRow
  rw [h]
theorem nRow_far {μ : nMem} {ε : nEnv} (hr : nRows μ ε) (i : Int) : nRow μ i = 7 ∨ (20 < nRow μ i ∧ nRow μ i = μ 3 i ∧ 0 ≤ i ∧ i < 128) := by
  unfold nRow
  split
  · rename_i h; exact Or.inr ⟨(hr.1 i h.1 h.2.1 h.2.2).1, rfl, h.1, h.2.1⟩
  · exact Or.inl rfl
theorem nRows_congr {μ μ' : nMem} {ε : nEnv} (hr : nRows μ ε) (h : ∀ i, μ' 3 i = μ 3 i) (h2 : ∀ i, nB μ' (nRow μ i)) : nRows μ' ε := by
  obtain ⟨a, b, c⟩ := hr
  refine ⟨fun i h0 h1 => ?_, fun i j h0 h1 h3 h4 => ?_, fun i => ?_⟩
  · rw [h]; exact a i h0 h1
  · rw [h, h]; exact b i j h0 h1 h3 h4
  · rw [nRow_congr h]; exact h2 i
theorem wr_far {μ : nMem} {ε : nEnv} (hr : nRows μ ε) {a k v : Int} (ha : a = 2 ∨ a = 4 ∨ a = 5 ∨ a = 6) (i j : Int) : wr μ a k v (nRow μ i) j = μ (nRow μ i) j := by
  refine wr_n _ _ (fun h => ?_)
  rcases nRow_far hr i with e | ⟨e, -⟩ <;> omega
theorem CF_wr {F F' : Fl} {μ : nMem} {ε : nEnv} {a k v : Int} (h : CF F μ ε) (ha : a = 2 ∨ a = 4 ∨ a = 5 ∨ a = 6) (hN : fN F' = fN F) (hb : ∀ b, 0 ≤ b → b < 8 → wr μ a k v 4 b = fU F' b ∧ wr μ a k v 5 b = fC F' b ∧ wr μ a k v 6 b = fE F' b) (hl : wr μ a k v 2 5 = fL F') (hd : wr μ a k v 2 6 = fD F') : CF F' (wr μ a k v) ε := by
  obtain ⟨c1, c2, c3, c4, c5, c6, c7, c8⟩ := h
  have h3 : ∀ i, wr μ a k v 3 i = μ 3 i := fun i => wr_n _ _ (by omega)
  refine ⟨c1, nRows_congr c2 h3 (fun i => nB_of (fun j => wr_far c2 ha i j) (c2.2.2 i)), fun i h0 h1 k h2 h4 => ?_, fun i => ?_, hb, hl, hd, fun k h0 h1 => ?_⟩
  · rw [nRow_congr h3, wr_far c2 ha, hN]; exact c3 i h0 h1 k h2 h4
  · rw [nRow_congr h3, wr_far c2 ha]; exact c4 i
  · rw [wr_n _ _ (by omega)]; exact c8 k h0 h1
theorem FrF_wr {μ : nMem} {ε : nEnv} {a k v : Int} (ha : a = 2 ∨ a = 4 ∨ a = 5 ∨ a = 6) : FrF μ ε (wr μ a k v) ε :=
  ⟨fun x _ h2 h3 h4 h5 h6 _ j => wr_n _ _ (by omega), fun _ _ => ⟨rfl, rfl, fun _ => rfl⟩, fun i _ _ _ => wr_n _ _ (by omega), fun i _ _ => Or.inl (wr_n _ _ (by omega)), rfl, fun t h => Cap_congr h (fun i => wr_n _ _ (by omega)) (fun i => wr_n _ _ (by omega)) rfl rfl⟩
def fSetL (F : Fl) (v : Int) : Fl := (fN F, fU F, fC F, fE F, v, fD F)
def fSetD (F : Fl) (v : Int) : Fl := (fN F, fU F, fC F, fE F, fL F, v)
def fSetU (F : Fl) (b v : Int) : Fl := (fN F, fun c => if c = b then v else fU F c, fC F, fE F, fL F, fD F)
def fSetC (F : Fl) (b v : Int) : Fl := (fN F, fU F, fun c => if c = b then v else fC F c, fE F, fL F, fD F)
def fSetE (F : Fl) (b v : Int) : Fl := (fN F, fU F, fC F, fun c => if c = b then v else fE F c, fL F, fD F)
def fSetK (F : Fl) (i k v : Int) : Fl := (fun i' k' => if i' = i ∧ k' = k then v else fN F i' k', fU F, fC F, fE F, fL F, fD F)
theorem CF_L {F : Fl} {μ : nMem} {ε : nEnv} {v : Int} (h : CF F μ ε) : CF (fSetL F v) (wr μ 2 5 v) ε := by
  refine CF_wr h (by omega) rfl (fun b h0 h8 => ?_) (wr_s _ _ _ _) ?_
  · rw [wr_n _ _ (by omega), wr_n _ _ (by omega), wr_n _ _ (by omega)]; exact h.2.2.2.2.1 b h0 h8
  · rw [wr_n _ _ (by omega)]; exact h.2.2.2.2.2.2.1
theorem CF_D {F : Fl} {μ : nMem} {ε : nEnv} {v : Int} (h : CF F μ ε) : CF (fSetD F v) (wr μ 2 6 v) ε := by
  refine CF_wr h (by omega) rfl (fun b h0 h8 => ?_) ?_ (wr_s _ _ _ _)
  · rw [wr_n _ _ (by omega), wr_n _ _ (by omega), wr_n _ _ (by omega)]; exact h.2.2.2.2.1 b h0 h8
  · rw [wr_n _ _ (by omega)]; exact h.2.2.2.2.2.1
theorem CF_U {F : Fl} {μ : nMem} {ε : nEnv} {b v : Int} (h : CF F μ ε) : CF (fSetU F b v) (wr μ 4 b v) ε := by
  refine CF_wr h (by omega) rfl (fun c h0 h8 => ?_) ?_ ?_
  · rw [wr_n _ (a := 4) (x := 5) _ (by omega), wr_n _ (a := 4) (x := 6) _ (by omega)]
    refine ⟨?_, (h.2.2.2.2.1 c h0 h8).2⟩
    show wr μ 4 b v 4 c = if c = b then v else fU F c
    unfold wr
    by_cases e : c = b
    · simp [e]
    · simp [e, (h.2.2.2.2.1 c h0 h8).1]
  · rw [wr_n _ _ (by omega)]; exact h.2.2.2.2.2.1
  · rw [wr_n _ _ (by omega)]; exact h.2.2.2.2.2.2.1
theorem CF_C {F : Fl} {μ : nMem} {ε : nEnv} {b v : Int} (h : CF F μ ε) : CF (fSetC F b v) (wr μ 5 b v) ε := by
  refine CF_wr h (by omega) rfl (fun c h0 h8 => ?_) ?_ ?_
  · rw [wr_n _ (a := 5) (x := 4) _ (by omega), wr_n _ (a := 5) (x := 6) _ (by omega)]
    refine ⟨(h.2.2.2.2.1 c h0 h8).1, ?_, (h.2.2.2.2.1 c h0 h8).2.2⟩
    show wr μ 5 b v 5 c = if c = b then v else fC F c
    unfold wr
    by_cases e : c = b
    · simp [e]
    · simp [e, (h.2.2.2.2.1 c h0 h8).2.1]
  · rw [wr_n _ _ (by omega)]; exact h.2.2.2.2.2.1
  · rw [wr_n _ _ (by omega)]; exact h.2.2.2.2.2.2.1
theorem CF_E {F : Fl} {μ : nMem} {ε : nEnv} {b v : Int} (h : CF F μ ε) : CF (fSetE F b v) (wr μ 6 b v) ε := by
  refine CF_wr h (by omega) rfl (fun c h0 h8 => ?_) ?_ ?_
  · rw [wr_n _ (a := 6) (x := 4) _ (by omega), wr_n _ (a := 6) (x := 5) _ (by omega)]
    refine ⟨(h.2.2.2.2.1 c h0 h8).1, (h.2.2.2.2.1 c h0 h8).2.1, ?_⟩
    show wr μ 6 b v 6 c = if c = b then v else fE F c
    unfold wr
    by_cases e : c = b
    · simp [e]
    · simp [e, (h.2.2.2.2.1 c h0 h8).2.2]
  · rw [wr_n _ _ (by omega)]; exact h.2.2.2.2.2.1
  · rw [wr_n _ _ (by omega)]; exact h.2.2.2.2.2.2.1
/-- two rows' nodes differ -/
theorem nRow_inj {μ : nMem} {ε : nEnv} (hr : nRows μ ε) {i j : Int} (hi : 0 ≤ i ∧ i < 128) (h0 : μ 3 i ≠ 0) (h : nRow μ j = nRow μ i) : j = i := by
  have e : nRow μ i = μ 3 i := by unfold nRow; rw [if_pos ⟨hi.1, hi.2, h0⟩]
  rcases nRow_far hr j with e2 | ⟨e2, e3, e4, e5⟩
  · have := (hr.1 i hi.1 hi.2 h0).1
    omega
  · have e6 : μ 3 j = μ 3 i := by rw [← e3, ← e, h]
    exact hr.2.1 j i e4 e5 hi.1 hi.2 (by rw [e6]; exact h0) e6
theorem CF_2 {F : Fl} {μ : nMem} {ε : nEnv} {i v : Int} (h : CF F μ ε) (hi : 0 ≤ i ∧ i < 128) (h0 : μ 3 i ≠ 0) (hv : 0 ≤ v ∧ v ≤ 20) : CF (fSetK F i 2 v) (wr μ (nRow μ i) 2 v) ε ∧ FrF μ ε (wr μ (nRow μ i) 2 v) ε := by
  obtain ⟨c1, c2, c3, c4, c5, c6, c7, c8⟩ := h
  have ei : nRow μ i = μ 3 i := by unfold nRow; rw [if_pos ⟨hi.1, hi.2, h0⟩]
  have far := (c2.1 i hi.1 hi.2 h0).1
  have h3 : ∀ j, wr μ (nRow μ i) 2 v 3 j = μ 3 j := fun j => wr_n _ _ (by omega)
  have hn : ∀ j k, wr μ (nRow μ i) 2 v (nRow μ j) k = if j = i ∧ k = 2 then v else μ (nRow μ j) k := by
    intro j k
    unfold wr
    by_cases e : nRow μ j = nRow μ i
    · have := nRow_inj c2 hi h0 e
      subst this
      simp
    · have : j ≠ i := fun q => e (by rw [q])
      simp [e, this]
  refine ⟨⟨c1, nRows_congr c2 h3 (fun j => ?_), fun j h1 h2 k h4 h5 => ?_, fun j => ?_, fun b h1 h2 => ?_, ?_, ?_, fun k h1 h2 => ?_⟩, fun x hx h2 h4 h5 h6 h7 h8 j => ?_, fun _ _ => ⟨rfl, rfl, fun _ => rfl⟩, fun j _ _ _ => h3 j, fun j _ _ => Or.inl (h3 j), rfl, fun t h => Cap_congr h h3 (fun j => wr_n _ _ (by omega)) rfl rfl⟩
  · have hb := c2.2.2 j
    unfold nB at hb ⊢
    simp only [hn]
    by_cases e : j = i
    · simp [e] at hb ⊢; omega
    · simp [e]; exact hb
  · rw [nRow_congr h3, hn]
    show _ = if j = i ∧ k = 2 then v else fN F j k
    split
    · rfl
    · exact c3 j h1 h2 k h4 h5
  · rw [nRow_congr h3, hn, if_neg (by omega)]; exact c4 j
  · rw [wr_n _ _ (by omega), wr_n _ _ (by omega), wr_n _ _ (by omega)]; exact c5 b h1 h2
  · rw [wr_n _ _ (by omega)]; exact c6
  · rw [wr_n _ _ (by omega)]; exact c7
  · rw [wr_n _ _ (by omega)]; exact c8 k h1 h2
  · exact wr_n _ _ (fun q => h8 ⟨i, hi.1, hi.2, by rw [← ei]; exact q.1.symm⟩)
theorem SkP_ext {f : Int → Option (Nat × Int × List Int)} {ε ε' : nEnv} (h : SkP f ε) (he : ∀ x, eKind ε x ≠ 0 → eKind ε' x = eKind ε x ∧ eLen ε' x = eLen ε x ∧ ∀ k, eFin ε' x k = eFin ε x k) : SkP f ε' := by
  intro x kd ln fs hx h0
  obtain ⟨a, b, c⟩ := h x kd ln fs hx h0
  obtain ⟨d, e, g⟩ := he x (by rw [a]; exact h0)
  exact ⟨d.trans a, e.trans b, fun k v hv hv0 => (g k).trans (c k v hv hv0)⟩
theorem nul_set {f g : Int → Int} {i : Int} : ∀ n : Nat, 0 ≤ i → i < n → f i = 0 → g i ≠ 0 → (∀ j : Int, j ≠ i → g j = f j) → nul g n + 1 = nul f n
  | 0, h0, h1, _, _, _ => absurd h1 (by omega)
  | n + 1, h0, h1, hf, hg, ho => by
    unfold nul
    by_cases e : i = n
    · subst e
      rw [if_pos hf, if_neg hg, nul_congr n (fun j h2 h3 => ho j (by omega))]
    · have := nul_set n h0 (by omega) hf hg ho
      rw [ho n (by omega)]
      omega
theorem al_ext {ε : nEnv} (hok : eOK ε) (kd : Nat) (ln : Int) (n : Nat) : ∀ x, eKind ε x ≠ 0 → eKind (alF ε kd ln n) x = eKind ε x ∧ eLen (alF ε kd ln n) x = eLen ε x ∧ ∀ k, eFin (alF ε kd ln n) x k = eFin ε x k := by
  intro x hx
  have h := (hok.1 x hx).2
  exact ⟨if_neg (by omega), if_neg (by omega), fun k => if_neg (by omega)⟩
def fBeg (F : Fl) (b : Int) (src : Int → Int) : Fl := (fun i k => if i = b * 16 + fC F b then (if k = 2 then 0 else src k) else fN F i k, fU F, fun c => if c = b then fC F b + 1 else fC F c, fE F, fL F, fD F)
theorem CF_beg {F : Fl} {μ m : nMem} {ε ε' : nEnv} {b o a idx : Int} (h : CF F μ ε) (hb : 0 ≤ b ∧ b < 8) (hc : 0 ≤ fC F b ∧ fC F b < 16) (hidx : idx = b * 16 + fC F b) (hnb : nB μ o) (ha : 20 < a) (hka : eKind ε' a = 5)
    (hA : (μ 3 idx = a ∧ ε' = ε) ∨ (μ 3 idx = 0 ∧ eKind ε a = 0 ∧ ε' = alF ε 5 0 14 ∧ eOK ε))
    (h3 : ∀ j, m 3 j = if j = idx then a else μ 3 j) (h4 : ∀ j, 0 ≤ j → j ≤ 13 → m a j = if j = 2 ∨ j = 12 ∨ j = 13 then 0 else μ o j) (h5 : ∀ c, m 5 c = if c = b then fC F b + 1 else μ 5 c) (h6 : ∀ x, x ≠ 3 → x ≠ 5 → x ≠ a → ∀ j, m x j = μ x j) :
    CF (fBeg F b (μ o)) m ε' ∧ FrF μ ε m ε' ∧ nRow m idx = a := by
  obtain ⟨c1, c2, c3, c4, c5, c6, c7, c8⟩ := h
  have hext : ∀ x, eKind ε x ≠ 0 → eKind ε' x = eKind ε x ∧ eLen ε' x = eLen ε x ∧ ∀ k, eFin ε' x k = eFin ε x k := by
    rcases hA with ⟨-, e⟩ | ⟨-, -, e, hok⟩
    · subst e; exact fun _ _ => ⟨rfl, rfl, fun _ => rfl⟩
    · subst e; exact al_ext hok 5 0 14
  have hia : nRow m idx = a := by
    unfold nRow
    rw [h3, if_pos rfl, if_pos ⟨by omega, by omega, by omega⟩]
  have hne : ∀ j, 0 ≤ j → j < 128 → j ≠ idx → μ 3 j ≠ 0 → μ 3 j ≠ a := by
    intro j j0 j1 j2 j3 j4
    rcases hA with ⟨e, -⟩ | ⟨-, e, -⟩
    · exact j2 (c2.2.1 j idx j0 j1 (by omega) (by omega) j3 (by rw [j4, e]))
    · have := (c2.1 j j0 j1 j3).2
      rw [j4, e] at this
      omega
  have hrow : ∀ j, j ≠ idx → nRow m j = nRow μ j ∧ nRow μ j ≠ a := by
    intro j hj
    have e1 : nRow m j = nRow μ j := by unfold nRow; rw [h3, if_neg hj]
    refine ⟨e1, ?_⟩
    rcases nRow_far c2 j with e2 | ⟨e2, e3, e4, e5⟩
    · omega
    · rw [e3]; exact hne j e4 e5 hj (by omega)
  have hnode : ∀ j, j ≠ idx → ∀ k, m (nRow m j) k = μ (nRow μ j) k := by
    intro j hj k
    obtain ⟨e1, e2⟩ := hrow j hj
    rw [e1]
    rcases nRow_far c2 j with e3 | ⟨e3, -⟩
    · exact h6 _ (by omega) (by omega) e2 k
    · exact h6 _ (by omega) (by omega) e2 k
  refine ⟨⟨SkP_ext c1 hext, ⟨fun j j0 j1 j2 => ?_, fun i j i0 i1 j0 j1 i2 e => ?_, fun j => ?_⟩, fun i i0 i1 k k0 k1 => ?_, fun i => ?_, fun c d0 d1 => ?_, ?_, ?_, fun k k0 k1 => ?_⟩, ⟨fun x hx x2 x3 x4 x5 x6 x7 j => ?_, hext, fun i i0 i1 i2 => ?_, fun i i0 i1 => ?_, ?_, fun t ht => ?_⟩, hia⟩
  · rw [h3] at j2 ⊢
    by_cases e : j = idx
    · rw [if_pos e]; exact ⟨ha, hka⟩
    · rw [if_neg e] at j2 ⊢
      obtain ⟨g1, g2⟩ := c2.1 j j0 j1 j2
      exact ⟨g1, (hext _ (by rw [g2]; decide)).1.trans g2⟩
  · rw [h3] at i2
    rw [h3, h3] at e
    by_cases ei : i = idx
    · by_cases ej : j = idx
      · rw [ei, ej]
      · rw [if_pos ei, if_neg ej] at e
        exact absurd e.symm (hne j j0 j1 ej (by omega))
    · by_cases ej : j = idx
      · rw [if_neg ei, if_pos ej] at e
        rw [if_neg ei] at i2
        exact absurd e (hne i i0 i1 ei i2)
      · rw [if_neg ei, if_neg ej] at e
        rw [if_neg ei] at i2
        exact c2.2.1 i j i0 i1 j0 j1 i2 e
  · by_cases e : j = idx
    · rw [e, hia]
      have hb9 := hnb
      unfold nB at hb9 ⊢
      rw [h4 0 (by omega) (by omega), h4 1 (by omega) (by omega), h4 2 (by omega) (by omega), h4 3 (by omega) (by omega), h4 4 (by omega) (by omega), h4 5 (by omega) (by omega), h4 6 (by omega) (by omega), h4 9 (by omega) (by omega), h4 10 (by omega) (by omega), h4 11 (by omega) (by omega), h4 12 (by omega) (by omega), h4 13 (by omega) (by omega)]
      simp
      omega
    · exact nB_of (fun k => by rw [hnode j e k, (hrow j e).1]) (by rw [(hrow j e).1]; exact c2.2.2 j)
  · show _ = if i = b * 16 + fC F b then (if k = 2 then 0 else μ o k) else fN F i k
    rw [← hidx]
    by_cases e : i = idx
    · rw [if_pos e, e, hia, h4 k k0 (by omega)]
      by_cases e2 : k = 2
      · simp [e2]
      · rw [if_neg (by omega), if_neg e2]
    · rw [if_neg e, hnode i e]; exact c3 i i0 i1 k k0 k1
  · by_cases e : i = idx
    · rw [e, hia, h4 13 (by omega) (by omega)]; rfl
    · rw [hnode i e]; exact c4 i
  · refine ⟨?_, ?_, ?_⟩
    · rw [h6 4 (by omega) (by omega) (by omega)]; exact (c5 c d0 d1).1
    · rw [h5]
      show _ = if c = b then fC F b + 1 else fC F c
      split
      · rfl
      · exact (c5 c d0 d1).2.1
    · rw [h6 6 (by omega) (by omega) (by omega)]; exact (c5 c d0 d1).2.2
  · rw [h6 2 (by omega) (by omega) (by omega)]; exact c6
  · rw [h6 2 (by omega) (by omega) (by omega)]; exact c7
  · rw [h6 7 (by omega) (by omega) (by omega)]; exact c8 k k0 k1
  · refine h6 x x3 x5 (fun e => ?_) j
    rcases hA with ⟨e2, -⟩ | ⟨-, e2, -⟩
    · exact x7 ⟨idx, by omega, by omega, by rw [e2, e]⟩
    · rcases hx with hx | hx
      · rw [e] at hx; exact hx e2
      · omega
  · rw [h3]
    by_cases e : i = idx
    · rw [if_pos e]
      rcases hA with ⟨e2, -⟩ | ⟨e2, -⟩
      · rw [e, e2]
      · rw [e] at i2; exact absurd e2 i2
    · rw [if_neg e]
  · rw [h3]
    by_cases e : i = idx
    · rw [if_pos e]
      rcases hA with ⟨e2, -⟩ | ⟨-, e2, -⟩
      · left; rw [e, e2]
      · right; exact e2
    · rw [if_neg e]; left; rfl
  · rcases hA with ⟨-, e⟩ | ⟨-, -, e, hok⟩
    · rw [e]
    · rw [e]
      show (if (-1 : Int) = (eSz ε : Int) + 1 then (0 : Int) else eLen ε (-1)) = _
      exact if_neg (by omega)
  · have h13 : ∀ i, m 13 i = μ 13 i := fun i => h6 13 (by omega) (by omega) (by omega) i
    rcases hA with ⟨e2, e⟩ | ⟨e2, -, e, hok⟩
    · subst e
      refine Cap_congr ht (fun i => ?_) h13 rfl rfl
      rw [h3]
      split
      · rename_i e; rw [e, e2]
      · rfl
    · subst e
      unfold Cap at ht ⊢
      have hn := nul_set (f := μ 3) (g := m 3) (i := idx) 128 (by omega) (by omega) e2 (by rw [h3, if_pos rfl]; omega) (fun j hj => by rw [h3, if_neg hj])
      rw [nul_congr (f := m 13) (g := μ 13) 129 (fun i _ _ => h13 i)]
      have s1 : eSz (alF ε 5 0 14) = eSz ε + 1 := rfl
      have s2 : eSl (alF ε 5 0 14) = eSl ε + 14 := rfl
      omega
theorem nul_pos {f : Int → Int} {i : Int} : ∀ n : Nat, 0 ≤ i → i < n → f i = 0 → 1 ≤ nul f n
  | 0, h0, h1, _ => absurd h1 (by omega)
  | n + 1, h0, h1, hf => by
    unfold nul
    by_cases e : i = n
    · rw [if_pos (by rw [← e]; exact hf)]; omega
    · have := nul_pos n h0 (by omega) hf
      omega
theorem sq_X0_has {μ : nMem} {ε : nEnv} {Q : nOut → nMem → nEnv → Prop} {b : Int} (r1 : 0 ≤ b ∧ b < 8) (h : Q (.inl (some (vI 1))) μ ε) : Sp mX0_has [vR 2, vI b] μ ε Q := sp_X0_has (by unfold inR; omega) (fun _ => h) (fun q => absurd r1 q)
theorem beg_m (m0 : nMem) {a o : Int} (b v idx : Int) (ha : 20 < a) (ho : o ≠ a ∧ o ≠ 3 ∧ o ≠ 5) :
    (∀ j, mCopy (wr (wr m0 3 idx a) 5 b v) a o 3 j = if j = idx then a else m0 3 j) ∧ (∀ j, 0 ≤ j → j ≤ 13 → mCopy (wr (wr m0 3 idx a) 5 b v) a o a j = if j = 2 ∨ j = 12 ∨ j = 13 then 0 else m0 o j) ∧
    (∀ c, mCopy (wr (wr m0 3 idx a) 5 b v) a o 5 c = if c = b then v else m0 5 c) ∧ (∀ x, x ≠ 3 → x ≠ 5 → x ≠ a → ∀ j, mCopy (wr (wr m0 3 idx a) 5 b v) a o x j = m0 x j) := by
  refine ⟨fun j => ?_, fun j h0 h1 => ?_, fun c => ?_, fun x h3 h5 h6 j => ?_⟩
  · rw [mCopy_v, if_neg (by omega), wr_n _ _ (by omega)]
    unfold wr
    simp
  · rw [mCopy_v, if_pos ⟨rfl, h0, h1⟩, wr_n _ _ (by omega), wr_n _ _ (by omega)]
  · rw [mCopy_v, if_neg (by omega)]
    unfold wr
    simp
  · rw [mCopy_v, if_neg (by omega), wr_n _ _ (by omega), wr_n _ _ (by omega)]
theorem beg_fin {F : Fl} {μ m0 : nMem} {ε ε' : nEnv} {b o a idx v : Int} {P : nMem → nEnv → Prop} (h : CF F μ ε) (hb : 0 ≤ b ∧ b < 8) (hc : 0 ≤ fC F b ∧ fC F b < 16) (hidx : idx = b * 16 + fC F b) (hnb : nB μ o) (ha : 20 < a) (hka : eKind ε' a = 5) (ho : o ≠ a ∧ o ≠ 3 ∧ o ≠ 5)
    (hA : (μ 3 idx = a ∧ ε' = ε) ∨ (μ 3 idx = 0 ∧ eKind ε a = 0 ∧ ε' = alF ε 5 0 14 ∧ eOK ε)) (hm : ∀ x, x ≠ a → ∀ j, m0 x j = μ x j) (hv : v = fC F b + 1)
    (k : ∀ μ9, CF (fBeg F b (μ o)) μ9 ε' → FrF μ ε μ9 ε' → nRow μ9 (b * 16 + fC F b) = a → P μ9 ε') : P (mCopy (wr (wr m0 3 idx a) 5 b v) a o) ε' := by
  obtain ⟨q1, q2, q3, q4⟩ := beg_m m0 b v idx ha ho
  obtain ⟨k1, k2, k3⟩ := CF_beg (m := mCopy (wr (wr m0 3 idx a) 5 b v) a o) h hb hc hidx hnb ha hka hA (fun j => by rw [q1, hm 3 (by omega)]) (fun j h0 h1 => by rw [q2 j h0 h1, hm o ho.1]) (fun c => by rw [q3, hm 5 (by omega), hv]) (fun x h3 h5 h6 j => by rw [q4 x h3 h5 h6, hm x h6])
  exact k _ k1 k2 (by rw [← hidx]; exact k3)
theorem CF_ext {F F' : Fl} {μ : nMem} {ε : nEnv} (h : CF F μ ε) (hN : ∀ i, 0 ≤ i → i < 128 → ∀ k, 0 ≤ k → k ≤ 11 → fN F' i k = fN F i k) (hb : ∀ b, 0 ≤ b → b < 8 → fU F' b = fU F b ∧ fC F' b = fC F b ∧ fE F' b = fE F b) (hl : fL F' = fL F) (hd : fD F' = fD F) : CF F' μ ε := by
  obtain ⟨c1, c2, c3, c4, c5, c6, c7, c8⟩ := h
  refine ⟨c1, c2, fun i h0 h1 k h2 h3 => by rw [hN i h0 h1 k h2 h3]; exact c3 i h0 h1 k h2 h3, c4, fun b h0 h1 => ?_, by rw [hl]; exact c6, by rw [hd]; exact c7, c8⟩
  obtain ⟨d1, d2, d3⟩ := hb b h0 h1
  rw [d1, d2, d3]
  exact c5 b h0 h1
def fSpd (F : Fl) : Fl := fSetL F (if fL F < 0 then fL F else fL F - 1)
def fDark (F : Fl) : Fl := fSetD (fSetL F (-1)) 1
theorem sr_X0_spend {μ : nMem} {ε : nEnv} {Q : nOut → nMem → nEnv → Prop} {F : Fl} (hC : CF F μ ε) (hl : -1 ≤ fL F ∧ fL F ≤ 1000) (h0 : fL F = 0 → ∀ μ9, CF (fDark F) μ9 ε → FrF μ ε μ9 ε → Q (.inl (some (vI 0))) μ9 ε) (h1 : fL F ≠ 0 → ∀ μ9, CF (fSpd F) μ9 ε → FrF μ ε μ9 ε → Q (.inl (some (vI 1))) μ9 ε) : Sp mX0_spend [vR 2] μ ε Q := by
  have e : μ 2 5 = fL F := hC.2.2.2.2.2.1
  refine sp_X0_spend hC.1 (by omega) (fun c => ?_) (fun c => ?_) (fun c => ?_)
  · exact h0 (by omega) _ (CF_D (CF_L hC)) (FrF_trans (CF_L hC).2.1 (FrF_wr (by omega)) (FrF_wr (by omega)))
  · refine h1 (by omega) _ ?_ (FrF_wr (by omega))
    have h9 := CF_L (v := μ 2 5 - 1) hC
    rw [e] at h9 ⊢
    unfold fSpd
    rw [if_neg (by omega)]
    exact h9
  · refine h1 (by omega) _ ?_ (FrF_refl _ _)
    unfold fSpd
    rw [if_pos (by omega)]
    exact hC
/-- what has come of the flash when j units of a node are written -/
def fApp (F : Fl) (b : Int) (src : Int → Int) (j : Nat) : Fl := if j = 0 then F else (fun i k => if i = b * 16 + fC F b then (if k = 2 then (j : Int) else src k) else fN F i k, fun c => if c = b then fU F b + j else fU F c, fun c => if c = b then fC F b + 1 else fC F c, fE F, if fL F < 0 then fL F else fL F - j, fD F)
def isApp (F : Fl) (b : Int) (src : Int → Int) (k : Nat) (F1 : Fl) : Prop :=
  (∀ i, 0 ≤ i → i < 128 → ∀ q, 0 ≤ q → q ≤ 11 → fN F1 i q = if i = b * 16 + fC F b then (if q = 2 then (k : Int) else src q) else fN F i q) ∧ (∀ c, 0 ≤ c → c < 8 → fU F1 c = (if c = b then fU F b + k else fU F c) ∧ fC F1 c = (if c = b then fC F b + 1 else fC F c) ∧ fE F1 c = fE F c) ∧ fL F1 = (if fL F < 0 then fL F else fL F - (k + 1)) ∧ fD F1 = fD F
theorem app_fin {F F1 : Fl} {μ m : nMem} {ε e : nEnv} {b idx : Int} {src : Int → Int} {k : Nat} {P : nMem → nEnv → Prop} (hC : CF F1 m e) (hF : FrF μ ε m e) (hb : 0 ≤ b ∧ b < 8) (hc : 0 ≤ fC F b ∧ fC F b < 16) (hidx : idx = b * 16 + fC F b) (h0 : m 3 idx ≠ 0) (hA : isApp F b src k F1) (hk : k < 20)
    (kk : ∀ m', CF (fApp F b src (k + 1)) m' e → FrF μ ε m' e → nRow m' idx = nRow m idx → P m' e) : P (wr (wr m (nRow m idx) 2 (m (nRow m idx) 2 + 1)) 4 b (wr m (nRow m idx) 2 (m (nRow m idx) 2 + 1) 4 b + 1)) e := by
  obtain ⟨a1, a2, a3, a4⟩ := hA
  have hi : 0 ≤ idx ∧ idx < 128 := by omega
  have v2 : m (nRow m idx) 2 = k := by
    rw [hC.2.2.1 idx hi.1 hi.2 2 (by omega) (by omega), a1 idx hi.1 hi.2 2 (by omega) (by omega), if_pos hidx, if_pos rfl]
  obtain ⟨k1, k2⟩ := CF_2 (i := idx) (v := m (nRow m idx) 2 + 1) hC hi h0 (by omega)
  have k3 := CF_U (b := b) (v := wr m (nRow m idx) 2 (m (nRow m idx) 2 + 1) 4 b + 1) k1
  have v4 : wr m (nRow m idx) 2 (m (nRow m idx) 2 + 1) 4 b = fU F b + k := by
    rw [(k1.2.2.2.2.1 b hb.1 hb.2).1]
    show fU F1 b = _
    rw [(a2 b hb.1 hb.2).1, if_pos rfl]
  refine kk _ (CF_ext k3 (fun i i0 i1 q q0 q1 => ?_) (fun c c0 c1 => ?_) ?_ ?_) (FrF_trans k1.2.1 (FrF_trans hC.2.1 hF k2) (FrF_wr (by omega))) ?_
  · show (fApp F b src (k + 1)).1 i q = if i = idx ∧ q = 2 then m (nRow m idx) 2 + 1 else fN F1 i q
    unfold fApp
    rw [if_neg (by omega), a1 i i0 i1 q q0 q1, v2]
    show (if i = b * 16 + fC F b then (if q = 2 then ((k + 1 : Nat) : Int) else src q) else fN F i q) = _
    by_cases e1 : i = b * 16 + fC F b
    · by_cases e2 : q = 2
      · simp [e1, e2, hidx]
      · simp [e1, e2]
    · simp [e1, hidx]
  · unfold fApp
    rw [if_neg (by omega)]
    obtain ⟨d1, d2, d3⟩ := a2 c c0 c1
    refine ⟨?_, d2.symm, d3.symm⟩
    show (if c = b then fU F b + ((k + 1 : Nat) : Int) else fU F c) = if c = b then wr m (nRow m idx) 2 (m (nRow m idx) 2 + 1) 4 b + 1 else fU F1 c
    rw [v4, d1]
    by_cases e1 : c = b
    · simp [e1]; omega
    · simp [e1]
  · unfold fApp
    rw [if_neg (by omega)]
    show (if fL F < 0 then fL F else fL F - ((k + 1 : Nat) : Int)) = fL F1
    rw [a3]; rfl
  · unfold fApp
    rw [if_neg (by omega)]
    exact a4.symm
  · unfold nRow
    have e3 : ∀ j, wr (wr m (nRow m idx) 2 (m (nRow m idx) 2 + 1)) 4 b (wr m (nRow m idx) 2 (m (nRow m idx) 2 + 1) 4 b + 1) 3 j = m 3 j := by
      intro j
      rw [wr_n _ _ (by omega), wr_n _ _ (fun h => ?_)]
      have := (hC.2.1.1 idx hi.1 hi.2 h0).1
      have e : nRow m idx = m 3 idx := by unfold nRow; rw [if_pos ⟨hi.1, hi.2, h0⟩]
      omega
    unfold nRow at e3
    rw [e3]
/-- the node that is to be written: not one of the rows, or one in another place -/
def srcOK (F : Fl) (μ : nMem) (ε : nEnv) (b o : Int) : Prop := eKind ε o = 5 ∧ nB μ o ∧ o ≠ 7 ∧ (¬ isRow μ o ∨ ∃ j, 0 ≤ j ∧ j < 128 ∧ μ 3 j = o ∧ o ≠ 0 ∧ j ≠ b * 16 + fC F b)
theorem src_keep {F F' : Fl} {μ m : nMem} {ε e : nEnv} {b o : Int} (h0 : CF F μ ε) (hs : srcOK F μ ε b o) (hFN : ∀ j, j ≠ b * 16 + fC F b → ∀ q, fN F' j q = fN F j q) (hC : CF F' m e) (hF : FrF μ ε m e) :
    (∀ q, 0 ≤ q → q ≤ 11 → m o q = μ o q) ∧ nB m o ∧ eKind e o = 5 ∧ o ≠ nRow m (b * 16 + fC F b) := by
  obtain ⟨s1, s2, s3, s4⟩ := hs
  have hk : eKind e o = 5 := (hF.2.1 o (by rw [s1]; decide)).1.trans s1
  have hne : ∀ x : Int, ∀ kd ln fs, skC x = some (kd, ln, fs) → kd ≠ 0 → kd ≠ 5 → o ≠ x := by
    intro x kd ln fs hx h1 h2 h3
    have := (h0.1 x kd ln fs hx h1).1
    rw [← h3, s1] at this
    exact h2 this.symm
  rcases s4 with s4 | ⟨j, j0, j1, j2, o0, j3⟩
  · have hkp : ∀ q, m o q = μ o q := hF.1 o (Or.inl (by rw [s1]; decide)) (hne 2 1 _ _ rfl (by decide) (by decide)) (hne 3 15 _ _ rfl (by decide) (by decide)) (hne 4 11 _ _ rfl (by decide) (by decide)) (hne 5 11 _ _ rfl (by decide) (by decide)) (hne 6 11 _ _ rfl (by decide) (by decide)) s4
    refine ⟨fun q _ _ => hkp q, nB_of hkp s2, hk, fun h9 => ?_⟩
    rcases nRow_far hC.2.1 (b * 16 + fC F b) with e1 | ⟨e1, e2, e3, e4⟩
    · omega
    · rcases hF.2.2.2.1 _ e3 e4 with e5 | e5
      · exact s4 ⟨_, e3, e4, by rw [← e5, ← e2, ← h9]⟩
      · rw [← e2, ← h9, s1] at e5; cases e5
  · have em : m 3 j = o := by rw [hF.2.2.1 j j0 j1 (by rw [j2]; exact o0), j2]
    have er : nRow m j = o := by unfold nRow; rw [if_pos ⟨j0, j1, by rw [em]; exact o0⟩, em]
    have er0 : nRow μ j = o := by unfold nRow; rw [if_pos ⟨j0, j1, by rw [j2]; exact o0⟩, j2]
    refine ⟨fun q q0 q1 => ?_, er ▸ hC.2.1.2.2 j, hk, fun h9 => ?_⟩
    · have h1 := hC.2.2.1 j j0 j1 q q0 q1
      have h2 := h0.2.2.1 j j0 j1 q q0 q1
      rw [er] at h1
      rw [er0] at h2
      rw [h1, h2, hFN j j3]
    · have := nRow_inj hC.2.1 (i := j) ⟨j0, j1⟩ (by rw [em]; exact o0) (j := b * 16 + fC F b) (by rw [← h9, er])
      omega
theorem fApp_N (F : Fl) (b : Int) (src : Int → Int) (k : Nat) : ∀ j, j ≠ b * 16 + fC F b → ∀ q, fN (fApp F b src k) j q = fN F j q := by
  intro j hj q
  unfold fApp
  split
  · rfl
  · exact if_neg hj
theorem fApp_L (F : Fl) (b : Int) (src : Int → Int) (k : Nat) : fL (fApp F b src k) = if fL F < 0 then fL F else fL F - k := by
  unfold fApp
  split
  · rename_i h; subst h; split <;> simp
  · rfl
theorem isApp_t {F : Fl} {b : Int} {src : Int → Int} {k : Nat} (hk : k ≠ 0) (hk2 : fL F < 0 ∨ (k : Int) ≤ fL F) (hk3 : (if fL F < 0 then fL F else fL F - k) ≠ 0) : isApp F b src k (fSpd (fApp F b src k)) := by
  refine ⟨fun i _ _ q _ _ => ?_, fun c _ _ => ⟨?_, ?_, ?_⟩, ?_, ?_⟩
  · show fN (fApp F b src k) i q = _
    unfold fApp; rw [if_neg hk]; rfl
  · show fU (fApp F b src k) c = _
    unfold fApp; rw [if_neg hk]; rfl
  · show fC (fApp F b src k) c = _
    unfold fApp; rw [if_neg hk]; rfl
  · show fE (fApp F b src k) c = _
    unfold fApp; rw [if_neg hk]; rfl
  · show (if fL (fApp F b src k) < 0 then fL (fApp F b src k) else fL (fApp F b src k) - 1) = _
    rw [fApp_L]
    by_cases h : fL F < 0
    · simp [h]
    · simp only [if_neg h] at hk3 ⊢
      rw [if_neg (by omega)]
      omega
  · show fD (fApp F b src k) = _
    unfold fApp; rw [if_neg hk]; rfl
theorem isApp_f {F : Fl} {b : Int} {src s1 : Int → Int} (h : ∀ q, 0 ≤ q → q ≤ 11 → s1 q = src q) : isApp F b src 0 (fBeg (fSpd (fApp F b src 0)) b s1) := by
  refine ⟨fun i _ _ q q0 q1 => ?_, fun c _ _ => ⟨?_, rfl, rfl⟩, ?_, rfl⟩
  · show (if i = b * 16 + fC F b then (if q = 2 then 0 else s1 q) else fN F i q) = _
    rw [h q q0 q1]; rfl
  · show fU F c = if c = b then fU F b + ((0 : Nat) : Int) else fU F c
    split
    · rename_i e; rw [e]; simp
    · rfl
  · show (if fL F < 0 then fL F else fL F - 1) = _
    split <;> simp
theorem nRow_pos {m : nMem} {i : Int} (h : 20 < nRow m i) : m 3 i ≠ 0 := by
  unfold nRow at h
  split at h
  · rename_i q; exact q.2.2
  · omega
theorem FrF_row {m m1 : nMem} {e e1 : nEnv} {i : Int} (hF : FrF m e m1 e1) (hi : 0 ≤ i ∧ i < 128) (h0 : m 3 i ≠ 0) : m1 3 i ≠ 0 ∧ nRow m1 i = nRow m i := by
  have h1 := hF.2.2.1 i hi.1 hi.2 h0
  refine ⟨by rw [h1]; exact h0, ?_⟩
  unfold nRow
  rw [h1]
theorem sp_X0_begin {μ : nMem} {ε : nEnv} {Q : nOut → nMem → nEnv → Prop} {F : Fl} {b o : Int} {t : Nat} (hC : CF F μ ε) (hb : 0 ≤ b ∧ b < 8) (hc : 0 ≤ fC F b ∧ fC F b < 16) (hko : eKind ε o = 5) (hnb : nB μ o) (hno : o ≠ nRow μ (b * 16 + fC F b)) (hcap : Cap μ ε t) (h : ∀ μ9 ε9, CF (fBeg F b (μ o)) μ9 ε9 → FrF μ ε μ9 ε9 → 20 < nRow μ9 (b * 16 + fC F b) → Q (.inl (some (vR (nRow μ9 (b * 16 + fC F b))))) μ9 ε9) : Sp mX0_begin [vR 2, vI b, vR o] μ ε Q := by
  refine Sp_of (L := [(0, vR 2), (1, vI b), (2, vR o)]) (by decide) rfl rfl (Nat.le_of_ble_eq_true rfl) ?_
  refine wq_env (fun hok => ?_)
  have hs := hC.1
  have hr := hC.2.1
  have e5 : μ 5 b = fC F b := (hC.2.2.2.2.1 b hb.1 hb.2).2.1
  have ho3 : o ≠ 3 ∧ o ≠ 5 := by
    constructor
    · intro e; rw [e, (hs 3 15 128 [] rfl (by decide)).1] at hko; cases hko
    · intro e; rw [e, (hs 5 11 8 [] rfl (by decide)).1] at hko; cases hko
  have ho1 : o ≤ eSz ε := (hok.1 o (by rw [hko]; decide)).2
  have h20 : (20 : Int) ≤ eSz ε := (hok.1 20 (by rw [(hs 20 5 0 [] rfl (by decide)).1]; decide)).2
  refine wq_aload_n (pc := 0) dX0_begin_0 rfl rfl ?_
  refine wq_iload_n (pc := 1) dX0_begin_1 rfl rfl ?_
  refine cVK_1 (pc := 2) dX0_begin_2 (by first | with_reducible exact hs | with_reducible exact hs2) (cw_X0_36 _ rfl) (by decide) rfl ⟨by decide, by decide⟩ (Nat.le_of_ble_eq_true rfl) (sq_X0_has (by omega) ?_)
  refine kr_s ?_
  refine wq_if_eq (pc := 5) (tgt := 19) dX0_begin_5 (by decide) (by first | (unfold inR; omega) | assumption) (fun c => absurd c (by decide)) (fun _ => ?_)
  refine wq_aload_n (pc := 8) dX0_begin_8 rfl rfl ?_
  refine wq_getS (pc := 9) dX0_begin_9 (by first | with_reducible exact hs | with_reducible exact hs2) (gf_X0_21 _ rfl) rfl rfl rfl rfl rfl ?_
  refine wq_iload_n (pc := 12) dX0_begin_12 rfl rfl ?_
  refine wq_ialdK (pc := 13) dX0_begin_13 (by first | with_reducible exact hs | with_reducible exact hs2) rfl (by omega) (by omega) ?_
  refine wq_bipush (pc := 14) dX0_begin_14 (by decide) (by decide) ?_
  refine wq_icmp_lt (pc := 16) (tgt := 24) dX0_begin_16 (by decide) (by first | (unfold inR; omega) | assumption) (by first | (unfold inR; omega) | assumption) (fun c2 => ?_) (fun c2 => ?_)
  · skip
    refine wq_iload_n (pc := 24) dX0_begin_24 rfl rfl ?_
    refine wq_bipush (pc := 25) dX0_begin_25 (by decide) (by decide) ?_
    refine wq_imul (pc := 27) dX0_begin_27 ?_
    refine wq_aload_n (pc := 28) dX0_begin_28 rfl rfl ?_
    refine wq_getS (pc := 29) dX0_begin_29 (by first | with_reducible exact hs | with_reducible exact hs2) (gf_X0_21 _ rfl) rfl rfl rfl rfl rfl ?_
    refine wq_iload_n (pc := 32) dX0_begin_32 rfl rfl ?_
    refine wq_ialdK (pc := 33) dX0_begin_33 (by first | with_reducible exact hs | with_reducible exact hs2) rfl (by omega) (by omega) ?_
    refine wq_iadd (pc := 34) dX0_begin_34 ?_
    generalize hidx : b * 16 + μ 5 b = idx
    refine wq_istore_n (pc := 35) (L' := [(3, _), (0, _), (1, _), (2, _)]) dX0_begin_35 rfl rfl (by decide) ?_
    refine wq_iload_n (pc := 36) dX0_begin_36 rfl rfl ?_
    refine wq_if_lt (pc := 37) (tgt := 49) dX0_begin_37 (by decide) (by first | (unfold inR; omega) | assumption) (fun c3 => ?_) (fun c3 => ?_)
    · skip
      exfalso; omega
    · skip
      refine wq_iload_n (pc := 40) dX0_begin_40 rfl rfl ?_
      refine wq_aload_n (pc := 41) dX0_begin_41 rfl rfl ?_
      refine wq_getS (pc := 42) dX0_begin_42 (by first | with_reducible exact hs | with_reducible exact hs2) (gf_X0_11 _ rfl) rfl rfl rfl rfl rfl ?_
      refine wq_alenK (pc := 45) dX0_begin_45 (by first | with_reducible exact hs | with_reducible exact hs2) rfl rfl ?_
      refine wq_icmp_lt (pc := 46) (tgt := 54) dX0_begin_46 (by decide) (by first | (unfold inR; omega) | assumption) (by first | (unfold inR; omega) | assumption) (fun c4 => ?_) (fun c4 => ?_)
      · skip
        refine wq_aload_n (pc := 54) dX0_begin_54 rfl rfl ?_
        refine wq_getS (pc := 55) dX0_begin_55 (by first | with_reducible exact hs | with_reducible exact hs2) (gf_X0_11 _ rfl) rfl rfl rfl rfl rfl ?_
        refine wq_iload_n (pc := 58) dX0_begin_58 rfl rfl ?_
        refine wq_aaldNK (pc := 59) dX0_begin_59 (by first | with_reducible exact hs | with_reducible exact hs2) rfl (by omega) (by omega) ?_
        refine wq_ifnonnull (pc := 60) (tgt := 73) dX0_begin_60 (by decide)  (fun c5 => ?_) (fun c5 => ?_)
        · skip
          obtain ⟨far, hka⟩ := hr.1 idx (by omega) (by omega) c5
          have hno2 : o ≠ μ 3 idx := by
            intro e; apply hno; rw [← e5, hidx]; unfold nRow; rw [if_pos ⟨by omega, by omega, c5⟩]; exact e
          refine wq_aload_n (pc := 73) dX0_begin_73 rfl rfl ?_
          refine wq_getS (pc := 74) dX0_begin_74 (by first | with_reducible exact hs | with_reducible exact hs2) (gf_X0_11 _ rfl) rfl rfl rfl rfl rfl ?_
          refine wq_iload_n (pc := 77) dX0_begin_77 rfl rfl ?_
          refine wq_aaldNK (pc := 78) dX0_begin_78 (by first | with_reducible exact hs | with_reducible exact hs2) rfl (by omega) (by omega) ?_
          refine wq_astore (pc := 79) (L' := [(4, _), (3, _), (0, _), (1, _), (2, _)]) dX0_begin_79 rfl (by decide) ?_
          refine wq_aload_n (pc := 81) dX0_begin_81 rfl rfl ?_
          refine wq_getS (pc := 82) dX0_begin_82 (by first | with_reducible exact hs | with_reducible exact hs2) (gf_X0_11 _ rfl) rfl rfl rfl rfl rfl ?_
          refine wq_iload_n (pc := 85) dX0_begin_85 rfl rfl ?_
          refine wq_aload (pc := 86) dX0_begin_86 rfl ?_
          refine wq_aastNK (pc := 88) dX0_begin_88 (by first | with_reducible exact hs | with_reducible exact hs2) rfl (by omega) (by omega) (by with_reducible assumption) ?_
          refine wq_aload_n (pc := 89) dX0_begin_89 rfl rfl ?_
          refine wq_getS (pc := 90) dX0_begin_90 (by first | with_reducible exact hs | with_reducible exact hs2) (gf_X0_21 _ rfl) rfl rfl rfl rfl rfl ?_
          refine wq_iload_n (pc := 93) dX0_begin_93 rfl rfl ?_
          refine wq_dup2 (pc := 94) dX0_begin_94 rfl rfl ?_
          refine wq_ialdK (pc := 95) dX0_begin_95 (by first | with_reducible exact hs | with_reducible exact hs2) rfl (by omega) (by omega) ?_
          refine wq_iconst (pc := 96) dX0_begin_96 ?_
          refine wq_iadd (pc := 97) dX0_begin_97 ?_
          refine wq_iastK (pc := 98) dX0_begin_98 (by first | with_reducible exact hs | with_reducible exact hs2) rfl (by omega) (by omega) ?_
          refine wq_aload (pc := 99) dX0_begin_99 rfl ?_
          refine wq_aload_n (pc := 101) dX0_begin_101 rfl rfl ?_
          refine cV_1 (pc := 102) dX0_begin_102 (cw_X0_83 _ rfl) (by decide) (by with_reducible assumption) ⟨by decide, by decide⟩ (Nat.le_of_ble_eq_true rfl) (sp_X4_copyFrom (by with_reducible assumption) (by with_reducible assumption) (by omega) (nB_of (fun j => by first | (rw [wr_n _ _ (by omega), wr_n _ _ (by omega)]; done) | (rw [wr_n _ _ (by omega), wr_n _ _ (by omega)]; exact if_neg (by omega))) hnb) ?_)
          refine kr_v ?_
          refine wq_aload (pc := 105) dX0_begin_105 rfl ?_
          refine wq_aret (pc := 107) dX0_begin_107 rfl ?_
          first
            | exact beg_fin (P := fun m e => Q (.inl (some (vR _))) m e) hC hb hc (by omega) hnb far hka ⟨hno2, ho3⟩ (Or.inl ⟨rfl, rfl⟩) (fun _ _ _ => rfl) (by rw [wr_n _ _ (by omega)]; omega) (fun m9 k1 k2 k3 => by have h9 := h m9 _ k1 k2 (by omega); rw [k3] at h9; exact h9)
            | exact beg_fin (P := fun m e => Q (.inl (some (vR _))) m e) hC hb hc (by omega) hnb (by omega) hka ⟨by omega, ho3⟩ (Or.inr ⟨hn0, (by by_cases h9 : eKind ε (↑(eSz ε) + 1) = 0; exact h9; exact absurd (hok.1 _ h9).2 (by omega)), rfl, hok⟩) (fun x hx j => if_neg hx) (by rw [wr_n _ _ (by omega)]; show zr μ _ 5 b + 1 = _; rw [show zr μ (↑(eSz ε) + 1) 5 b = μ 5 b from if_neg (by omega)]; omega) (fun m9 k1 k2 k3 => by have h9 := h m9 _ k1 k2 (by omega); rw [k3] at h9; exact h9)
        · skip
          have hn0 := c5
          refine wq_new (pc := 63) (ci := 4) dX0_begin_63 (by decide) rfl (kl_X0_9 _ rfl) ki_4.1 ki_4.2 (by have hp := nul_pos (f := μ 3) (i := idx) 128 (by omega) (by omega) hn0; unfold Cap at hcap; show eSz ε + 1 ≤ 600086 ∧ eSl ε + 14 ≤ 7301442; omega) ?_
          show wp mX0_begin 66 _ _ (zr μ (↑(eSz ε) + 1)) (alF ε 5 0 14) Q
          have hs2 := SkP_ext hs (al_ext hok 5 0 14)
          have hka : eKind (alF ε 5 0 14) (↑(eSz ε) + 1) = 5 := if_pos rfl
          have hko2 : eKind (alF ε 5 0 14) o = 5 := ((al_ext hok 5 0 14) o (by rw [hko]; decide)).1.trans hko
          refine wq_dup (pc := 66) dX0_begin_66 rfl ?_
          refine cI_0 (pc := 67) dX0_begin_67 (cw_X0_27 _ rfl) (by omega) ⟨by decide, by decide⟩ (Nat.le_of_ble_eq_true rfl) (sp_X4_init (by omega) ?_)
          refine kr_v ?_
          refine wq_goto (pc := 70) (tgt := 79) dX0_begin_70 (by decide) ?_
          refine wq_astore (pc := 79) (L' := [(4, _), (3, _), (0, _), (1, _), (2, _)]) dX0_begin_79 rfl (by decide) ?_
          refine wq_aload_n (pc := 81) dX0_begin_81 rfl rfl ?_
          refine wq_getS (pc := 82) dX0_begin_82 (by first | with_reducible exact hs | with_reducible exact hs2) (gf_X0_11 _ rfl) rfl rfl rfl rfl rfl ?_
          refine wq_iload_n (pc := 85) dX0_begin_85 rfl rfl ?_
          refine wq_aload (pc := 86) dX0_begin_86 rfl ?_
          refine wq_aastNK (pc := 88) dX0_begin_88 (by first | with_reducible exact hs | with_reducible exact hs2) rfl (by omega) (by omega) (by with_reducible assumption) ?_
          refine wq_aload_n (pc := 89) dX0_begin_89 rfl rfl ?_
          refine wq_getS (pc := 90) dX0_begin_90 (by first | with_reducible exact hs | with_reducible exact hs2) (gf_X0_21 _ rfl) rfl rfl rfl rfl rfl ?_
          refine wq_iload_n (pc := 93) dX0_begin_93 rfl rfl ?_
          refine wq_dup2 (pc := 94) dX0_begin_94 rfl rfl ?_
          refine wq_ialdK (pc := 95) dX0_begin_95 (by first | with_reducible exact hs | with_reducible exact hs2) rfl (by omega) (by omega) ?_
          refine wq_iconst (pc := 96) dX0_begin_96 ?_
          refine wq_iadd (pc := 97) dX0_begin_97 ?_
          refine wq_iastK (pc := 98) dX0_begin_98 (by first | with_reducible exact hs | with_reducible exact hs2) rfl (by omega) (by omega) ?_
          refine wq_aload (pc := 99) dX0_begin_99 rfl ?_
          refine wq_aload_n (pc := 101) dX0_begin_101 rfl rfl ?_
          refine cV_1 (pc := 102) dX0_begin_102 (cw_X0_83 _ rfl) (by decide) (by with_reducible assumption) ⟨by decide, by decide⟩ (Nat.le_of_ble_eq_true rfl) (sp_X4_copyFrom (by with_reducible assumption) (by with_reducible assumption) (by omega) (nB_of (fun j => by first | (rw [wr_n _ _ (by omega), wr_n _ _ (by omega)]; done) | (rw [wr_n _ _ (by omega), wr_n _ _ (by omega)]; exact if_neg (by omega))) hnb) ?_)
          refine kr_v ?_
          refine wq_aload (pc := 105) dX0_begin_105 rfl ?_
          refine wq_aret (pc := 107) dX0_begin_107 rfl ?_
          first
            | exact beg_fin (P := fun m e => Q (.inl (some (vR _))) m e) hC hb hc (by omega) hnb far hka ⟨hno2, ho3⟩ (Or.inl ⟨rfl, rfl⟩) (fun _ _ _ => rfl) (by rw [wr_n _ _ (by omega)]; omega) (fun m9 k1 k2 k3 => by have h9 := h m9 _ k1 k2 (by omega); rw [k3] at h9; exact h9)
            | exact beg_fin (P := fun m e => Q (.inl (some (vR _))) m e) hC hb hc (by omega) hnb (by omega) hka ⟨by omega, ho3⟩ (Or.inr ⟨hn0, (by by_cases h9 : eKind ε (↑(eSz ε) + 1) = 0; exact h9; exact absurd (hok.1 _ h9).2 (by omega)), rfl, hok⟩) (fun x hx j => if_neg hx) (by rw [wr_n _ _ (by omega)]; show zr μ _ 5 b + 1 = _; rw [show zr μ (↑(eSz ε) + 1) 5 b = μ 5 b from if_neg (by omega)]; omega) (fun m9 k1 k2 k3 => by have h9 := h m9 _ k1 k2 (by omega); rw [k3] at h9; exact h9)
      · skip
        exfalso; omega
  · skip
    exfalso; omega
theorem sp_X0_append {μ : nMem} {ε : nEnv} {Q : nOut → nMem → nEnv → Prop} {F : Fl} {b o : Int} {t : Nat} (hC : CF F μ ε) (hb : 0 ≤ b ∧ b < 8) (hc : 0 ≤ fC F b ∧ fC F b < 16) (hlf : -1 ≤ fL F ∧ fL F ≤ 1000) (hsrc : srcOK F μ ε b o) (hu : 1 ≤ μ o 1) (hcap : Cap μ ε t) (h0 : ∀ (k : Nat) μ9 ε9, (k : Int) < μ o 1 → fL F = k → CF (fDark (fApp F b (μ o) k)) μ9 ε9 → FrF μ ε μ9 ε9 → Q (.inl (some (vI 0))) μ9 ε9) (h1 : ∀ μ9 ε9, (fL F < 0 ∨ μ o 1 ≤ fL F) → CF (fApp F b (μ o) (μ o 1).toNat) μ9 ε9 → FrF μ ε μ9 ε9 → Q (.inl (some (vI 1))) μ9 ε9) : Sp mX0_append [vR 2, vI b, vR o] μ ε Q := by
  refine Sp_of (L := [(0, vR 2), (1, vI b), (2, vR o)]) (by decide) rfl rfl (Nat.le_of_ble_eq_true rfl) ?_
  have hs := hC.1
  obtain ⟨N, hN⟩ : ∃ N : Nat, μ o 1 = N := ⟨(μ o 1).toNat, by omega⟩
  obtain ⟨b0, b1, b2, b3, b4, b5, b6, b9, b10, b11, b12, b13⟩ := id hsrc.2.1
  refine wq_null (pc := 0) dX0_append_0 ?_
  refine wq_astore_n (pc := 1) (L' := [(3, _), (0, _), (1, _), (2, _)]) dX0_append_1 rfl rfl (by decide) ?_
  refine wq_iconst (pc := 2) dX0_append_2 ?_
  refine wq_istore (pc := 3) (L' := [(4, _), (3, _), (0, _), (1, _), (2, _)]) dX0_append_3 rfl (by decide) ?_
  have loop1 : ∀ (n k : Nat), ∀ (m : nMem) (e : nEnv) (nd ui : Int), k ≤ N → N < k + n → ui = (k : Int) → CF (fApp F b (μ o) k) m e → FrF μ ε m e → nd = (if k = 0 then 0 else nRow m (b * 16 + fC F b)) → (fL F < 0 ∨ (k : Int) ≤ fL F) → (k = 0 ∨ m 3 (b * 16 + fC F b) ≠ 0) → wp mX0_append 5 [(0, vR 2), (1, vI b), (2, vR o), (3, vR nd), (4, vI ui)] [] m e Q := by
    intro n
    induction n with
    | zero => intro k m e nd ui hk1 hk2 e0 e1 e2 e3 e4 e5; exact absurd hk2 (by omega)
    | succ n ih =>
      intro k m e nd ui hk1 hk2 e0 e1 e2 e3 e4 e5
      subst e0
      obtain ⟨s1, s2, s3, s4⟩ := src_keep hC hsrc (fApp_N F b (μ o) k) e1 e2
      have hs := e1.1
      have hr := e1.2.1
      have u1 := s1 1 (by omega) (by omega)
      refine wq_iload (pc := 5) dX0_append_5 rfl ?_
      refine wq_aload_n (pc := 7) dX0_append_7 rfl rfl ?_
      refine wq_getI (pc := 8) (kk := 1) dX0_append_8 (gf_X0_69 _ rfl) (by first | with_reducible assumption | with_reducible exact nRow_kd hs hr _) rfl rfl rfl ?_
      refine wq_icmp_ge (pc := 11) (tgt := 68) dX0_append_11 (by decide) (by first | (unfold inR; omega) | assumption) (by first | (unfold inR; omega) | assumption) (fun c2 => ?_) (fun c2 => ?_)
      · skip
        refine wq_iconst (pc := 68) dX0_append_68 ?_
        refine wq_zret (pc := 69) dX0_append_69 rfl (by first | omega | (simp; done) | assumption) ?_
        first
          | exact h0 k _ _ (by omega) (by rw [fApp_L] at hl; split at hl <;> omega) hC1 (FrF_trans e1.2.1 e2 hF1)
          | (have hk9 : k = (μ o 1).toNat := by omega
             subst hk9
             exact h1 _ _ (by omega) e1 e2)
      · skip
        refine wq_aload_n (pc := 14) dX0_append_14 rfl rfl ?_
        refine cVK_0 (pc := 15) dX0_append_15 hs (cw_X0_72 _ rfl) (by decide) rfl ⟨by decide, by decide⟩ (Nat.le_of_ble_eq_true rfl) (sr_X0_spend e1 (by rw [fApp_L]; split <;> omega) (fun hl m1 hC1 hF1 => ?_) (fun hl m1 hC1 hF1 => ?_))
        · skip
          refine kr_s ?_
          refine wq_if_ne (pc := 18) (tgt := 23) dX0_append_18 (by decide) (by first | (unfold inR; omega) | assumption) (fun c => absurd c (by decide)) (fun _ => ?_)
          refine wq_iconst (pc := 21) dX0_append_21 ?_
          refine wq_zret (pc := 22) dX0_append_22 rfl (by first | omega | (simp; done) | assumption) ?_
          first
            | exact h0 k _ _ (by omega) (by rw [fApp_L] at hl; split at hl <;> omega) hC1 (FrF_trans e1.2.1 e2 hF1)
            | (have hk9 : k = (μ o 1).toNat := by omega
               subst hk9
               exact h1 _ _ (by omega) e1 e2)
        · skip
          refine kr_s ?_
          have hCa := hC1
          have hFa := FrF_trans e1.2.1 e2 hF1
          have hs := hCa.1
          have hr := hCa.2.1
          obtain ⟨t1, t2, t3, t4⟩ := src_keep (F' := fSpd (fApp F b (μ o) k)) hC hsrc (fApp_N F b (μ o) k) hCa hFa
          rw [fApp_L] at hl
          refine wq_if_ne (pc := 18) (tgt := 23) dX0_append_18 (by decide) (by first | (unfold inR; omega) | assumption) (fun _ => ?_) (fun c => absurd c (by decide))
          refine wq_aload_n (pc := 23) dX0_append_23 rfl rfl ?_
          refine wq_ifnonnull (pc := 24) (tgt := 34) dX0_append_24 (by decide)  (fun c7 => ?_) (fun c7 => ?_)
          · skip
            have hk0 : k ≠ 0 := by intro h9; rw [if_pos h9] at e3; exact c7 e3
            rw [if_neg hk0] at e3
            obtain ⟨h30, hrw⟩ := FrF_row hF1 (i := b * 16 + fC F b) (by omega) (e5.resolve_left hk0)
            rw [← hrw] at e3
            subst e3
            have hfar : 20 < nRow m1 (b * 16 + fC F b) := by
              have q := (hr.1 (b * 16 + fC F b) (by omega) (by omega) h30).1
              unfold nRow; rw [if_pos ⟨by omega, by omega, h30⟩]; exact q
            refine wq_aload_n (pc := 34) dX0_append_34 rfl rfl ?_
            refine wq_dup (pc := 35) dX0_append_35 rfl ?_
            refine wq_getI (pc := 36) (kk := 2) dX0_append_36 (gf_X0_80 _ rfl) (by first | with_reducible assumption | with_reducible exact nRow_kd hs hr _) rfl rfl rfl ?_
            refine wq_iconst (pc := 39) dX0_append_39 ?_
            refine wq_iadd (pc := 40) dX0_append_40 ?_
            refine wq_putI (pc := 41) (kk := 2) dX0_append_41 (gf_X0_80 _ rfl) (by first | with_reducible assumption | with_reducible exact nRow_kd hs hr _) rfl rfl rfl rfl ?_
            refine wq_aload_n (pc := 44) dX0_append_44 rfl rfl ?_
            refine wq_iload_n (pc := 45) dX0_append_45 rfl rfl ?_
            refine cVK_1 (pc := 46) dX0_append_46 hs (cw_X0_36 _ rfl) (by decide) rfl ⟨by decide, by decide⟩ (Nat.le_of_ble_eq_true rfl) (sq_X0_has (by omega) ?_)
            refine kr_s ?_
            refine wq_if_eq (pc := 49) (tgt := 62) dX0_append_49 (by decide) (by first | (unfold inR; omega) | assumption) (fun c => absurd c (by decide)) (fun _ => ?_)
            refine wq_aload_n (pc := 52) dX0_append_52 rfl rfl ?_
            refine wq_getS (pc := 53) dX0_append_53 hs (gf_X0_17 _ rfl) rfl rfl rfl rfl rfl ?_
            refine wq_iload_n (pc := 56) dX0_append_56 rfl rfl ?_
            refine wq_dup2 (pc := 57) dX0_append_57 rfl rfl ?_
            refine wq_ialdK (pc := 58) dX0_append_58 hs rfl (by omega) (by omega) ?_
            refine wq_iconst (pc := 59) dX0_append_59 ?_
            refine wq_iadd (pc := 60) dX0_append_60 ?_
            refine wq_iastK (pc := 61) dX0_append_61 hs rfl (by omega) (by omega) ?_
            first
              | refine app_fin (P := fun mm ee => wp mX0_append 62 _ _ mm ee Q) hCa hFa hb hc rfl h30 (isApp_t hk0 e4 hl) (by omega) (fun m3 hC3 hF3 hn3 => ?_)
              | refine app_fin (P := fun mm ee => wp mX0_append 62 _ _ mm ee Q) hC2 (FrF_trans hr1 hFa hF2) hb hc rfl h30 (isApp_f t1) (by omega) (fun m3 hC3 hF3 hn3 => ?_)
            have hn3 : nRow m3 (b * 16 + fC F b) = _ := hn3
            have h33 : m3 3 (b * 16 + fC F b) ≠ 0 := nRow_pos (by rw [hn3]; exact hfar)
            refine wq_iinc (pc := 62) (L' := [(4, _), (0, _), (1, _), (2, _), (3, _)]) dX0_append_62 rfl rfl (by decide) ?_
            refine wq_goto (pc := 65) (tgt := 5) dX0_append_65 (by decide) ?_
            refine wq_sub1 (L' := [(0, _), (1, _), (2, _), (3, _), (4, _)]) ⟨rfl, rfl, rfl, rfl, rfl, trivial⟩ ?_
            first
              | exact ih (k + 1) m3 _ _ _ (by omega) (by omega) (by omega) hC3 hF3 (by rw [if_neg (by omega)]; exact hn3.symm) (by omega) (Or.inr h33)
              | exact ih (0 + 1) m3 _ _ _ (by omega) (by omega) (by omega) hC3 hF3 (by rw [if_neg (by omega)]; exact hn3.symm) (by omega) (Or.inr h33)
          · skip
            have hk0 : k = 0 := by
              by_cases h9 : k = 0
              · exact h9
              · rw [if_neg h9] at e3; exact absurd (e3.symm.trans c7) (nRow_ne e1.2.1 _)
            subst hk0
            refine wq_aload_n (pc := 27) dX0_append_27 rfl rfl ?_
            refine wq_iload_n (pc := 28) dX0_append_28 rfl rfl ?_
            refine wq_aload_n (pc := 29) dX0_append_29 rfl rfl ?_
            refine cVK_2 (pc := 30) dX0_append_30 hs (cw_X0_76 _ rfl) (by decide) rfl ⟨by decide, by decide⟩ (Nat.le_of_ble_eq_true rfl) (sp_X0_begin hCa hb (show 0 ≤ fC F b ∧ fC F b < 16 from hc) t3 t2 t4 (hFa.2.2.2.2.2 t hcap) (fun m2 ε2 hC2 hF2 hfar => ?_))
            refine kr_s ?_
            have hr1 := hr
            have hs := hC2.1
            have hr := hC2.2.1
            have h30 := nRow_pos hfar
            refine wq_astore_n (pc := 33) (L' := [(3, _), (0, _), (1, _), (2, _), (4, _)]) dX0_append_33 rfl rfl (by decide) ?_
            refine wq_aload_n (pc := 34) dX0_append_34 rfl rfl ?_
            refine wq_dup (pc := 35) dX0_append_35 rfl ?_
            refine wq_getI (pc := 36) (kk := 2) dX0_append_36 (gf_X0_80 _ rfl) (by first | with_reducible assumption | with_reducible exact nRow_kd hs hr _) rfl rfl rfl ?_
            refine wq_iconst (pc := 39) dX0_append_39 ?_
            refine wq_iadd (pc := 40) dX0_append_40 ?_
            refine wq_putI (pc := 41) (kk := 2) dX0_append_41 (gf_X0_80 _ rfl) (by first | with_reducible assumption | with_reducible exact nRow_kd hs hr _) rfl rfl rfl rfl ?_
            refine wq_aload_n (pc := 44) dX0_append_44 rfl rfl ?_
            refine wq_iload_n (pc := 45) dX0_append_45 rfl rfl ?_
            refine cVK_1 (pc := 46) dX0_append_46 hs (cw_X0_36 _ rfl) (by decide) rfl ⟨by decide, by decide⟩ (Nat.le_of_ble_eq_true rfl) (sq_X0_has (by omega) ?_)
            refine kr_s ?_
            refine wq_if_eq (pc := 49) (tgt := 62) dX0_append_49 (by decide) (by first | (unfold inR; omega) | assumption) (fun c => absurd c (by decide)) (fun _ => ?_)
            refine wq_aload_n (pc := 52) dX0_append_52 rfl rfl ?_
            refine wq_getS (pc := 53) dX0_append_53 hs (gf_X0_17 _ rfl) rfl rfl rfl rfl rfl ?_
            refine wq_iload_n (pc := 56) dX0_append_56 rfl rfl ?_
            refine wq_dup2 (pc := 57) dX0_append_57 rfl rfl ?_
            refine wq_ialdK (pc := 58) dX0_append_58 hs rfl (by omega) (by omega) ?_
            refine wq_iconst (pc := 59) dX0_append_59 ?_
            refine wq_iadd (pc := 60) dX0_append_60 ?_
            refine wq_iastK (pc := 61) dX0_append_61 hs rfl (by omega) (by omega) ?_
            first
              | refine app_fin (P := fun mm ee => wp mX0_append 62 _ _ mm ee Q) hCa hFa hb hc rfl h30 (isApp_t hk0 e4 hl) (by omega) (fun m3 hC3 hF3 hn3 => ?_)
              | refine app_fin (P := fun mm ee => wp mX0_append 62 _ _ mm ee Q) hC2 (FrF_trans hr1 hFa hF2) hb hc rfl h30 (isApp_f t1) (by omega) (fun m3 hC3 hF3 hn3 => ?_)
            have hn3 : nRow m3 (b * 16 + fC F b) = _ := hn3
            have h33 : m3 3 (b * 16 + fC F b) ≠ 0 := nRow_pos (by rw [hn3]; exact hfar)
            refine wq_iinc (pc := 62) (L' := [(4, _), (3, _), (0, _), (1, _), (2, _)]) dX0_append_62 rfl rfl (by decide) ?_
            refine wq_goto (pc := 65) (tgt := 5) dX0_append_65 (by decide) ?_
            refine wq_sub1 (L' := [(0, _), (1, _), (2, _), (3, _), (4, _)]) ⟨rfl, rfl, rfl, rfl, rfl, trivial⟩ ?_
            first
              | exact ih (k + 1) m3 _ _ _ (by omega) (by omega) (by omega) hC3 hF3 (by rw [if_neg (by omega)]; exact hn3.symm) (by omega) (Or.inr h33)
              | exact ih (0 + 1) m3 _ _ _ (by omega) (by omega) (by omega) hC3 hF3 (by rw [if_neg (by omega)]; exact hn3.symm) (by omega) (Or.inr h33)
  refine wq_sub1 (L' := [(0, _), (1, _), (2, _), (3, _), (4, _)]) ⟨rfl, rfl, rfl, rfl, rfl, trivial⟩ ?_
  exact loop1 (N + 1) 0 μ ε 0 0 (by omega) (by omega) rfl hC (FrF_refl μ ε) rfl (by omega) (Or.inl rfl)
