/-! ### the law's own files: against what is told -/
def JZ (Fi : Int → Prop) (L : Int → Int) (B : Int → Int → Int) (m : Int) (z l c : Int → Int) : Prop :=
  (∀ i, 0 ≤ i → i < m → Fi (z i) ∧ l i = L (z i) ∧ ∀ p, 0 ≤ p → p < 64 → cB c i p = B (z i) p) ∧
  (∀ f, Fi f → ∃ i, (0 ≤ i ∧ i < m) ∧ z i = f) ∧ (∀ i j, 0 ≤ i → i < m → 0 ≤ j → j < m → z i = z j → i = j)
theorem JZ_cg {Fi Fj : Int → Prop} {L L' : Int → Int} {B B' : Int → Int → Int} {m : Int} {z l c : Int → Int} (h : JZ Fi L B m z l c) (hf : ∀ f, Fj f ↔ Fi f) (hl : ∀ f, Fi f → L' f = L f ∧ ∀ p, 0 ≤ p → p < 64 → B' f p = B f p) : JZ Fj L' B' m z l c := by
  obtain ⟨a, b, d⟩ := h
  refine ⟨fun i i0 i1 => ?_, fun f hh => b f ((hf f).mp hh), d⟩
  obtain ⟨p, q, r⟩ := a i i0 i1
  obtain ⟨u, v⟩ := hl _ p
  exact ⟨(hf _).mpr p, q.trans u.symm, fun x x0 x1 => (r x x0 x1).trans (v x x0 x1).symm⟩
theorem cB_cg {c c' : Int → Int} {i : Int} (h : ∀ k, 8 * i ≤ k → k < 8 * i + 8 → c' k = c k) {p : Int} (hp : 0 ≤ p ∧ p < 64) : cB c' i p = cB c i p := by
  unfold cB
  rw [h _ (by omega) (by omega)]
theorem cB_0 {c : Int → Int} {i : Int} (h : ∀ k, 8 * i ≤ k → k < 8 * i + 8 → c k = 0) {p : Int} (hp : 0 ≤ p ∧ p < 64) : cB c i p = 0 := by
  unfold cB
  rw [h _ (by omega) (by omega)]
  obtain ⟨k, hk⟩ : ∃ k : Nat, p % 8 = k := ⟨(p % 8).toNat, by omega⟩
  rw [hk]; exact getJ_0 (by omega)
/-- a file more -/
theorem JZ_add {Fi Fj : Int → Prop} {L L' : Int → Int} {B B' : Int → Int → Int} {m x : Int} {z l c z' l' c' : Int → Int} (h : JZ Fi L B m z l c) (hm : 0 ≤ m) (hf : ∀ f, Fj f ↔ Fi f ∨ f = x) (hx : ¬ Fi x) (hl : ∀ f, Fi f → L' f = L f ∧ ∀ p, 0 ≤ p → p < 64 → B' f p = B f p) (hlx : L' x = 0) (hbx : ∀ p, 0 ≤ p → p < 64 → B' x p = 0)
    (hz : ∀ i, 0 ≤ i → i < m → z' i = z i ∧ l' i = l i) (hz1 : z' m = x) (hl1 : l' m = 0) (hc : ∀ k, 0 ≤ k → k < 8 * m → c' k = c k) (hc1 : ∀ k, 8 * m ≤ k → k < 8 * m + 8 → c' k = 0) : JZ Fj L' B' (m + 1) z' l' c' := by
  obtain ⟨a, b, d⟩ := h
  refine ⟨fun i i0 i1 => ?_, fun f hh => ?_, fun i j i0 i1 j0 j1 e => ?_⟩
  · by_cases ei : i = m
    · subst ei
      rw [hz1, hl1]
      exact ⟨(hf x).mpr (Or.inr rfl), hlx.symm, fun p p0 p1 => (cB_0 (fun k k0 k1 => hc1 k k0 k1) ⟨p0, p1⟩).trans (hbx p p0 p1).symm⟩
    · obtain ⟨p, q, r⟩ := a i i0 (by omega)
      obtain ⟨u, v⟩ := hl _ p
      obtain ⟨s, t⟩ := hz i i0 (by omega)
      rw [s, t]
      exact ⟨(hf _).mpr (Or.inl p), q.trans u.symm, fun y y0 y1 => (cB_cg (fun k k0 k1 => hc k (by omega) (by omega)) ⟨y0, y1⟩).trans ((r y y0 y1).trans (v y y0 y1).symm)⟩
  · rcases (hf f).mp hh with q | q
    · obtain ⟨i, i1, i2⟩ := b f q
      exact ⟨i, ⟨i1.1, by omega⟩, (hz i i1.1 i1.2).1.trans i2⟩
    · exact ⟨m, ⟨hm, by omega⟩, by rw [hz1, q]⟩
  · by_cases ei : i = m
    · by_cases ej : j = m
      · omega
      · rw [ei, hz1, (hz j j0 (by omega)).1] at e
        exact absurd (by rw [e]; exact (a j j0 (by omega)).1) hx
    · by_cases ej : j = m
      · rw [ej, hz1, (hz i i0 (by omega)).1] at e
        exact absurd (by rw [← e]; exact (a i i0 (by omega)).1) hx
      · rw [(hz i i0 (by omega)).1, (hz j j0 (by omega)).1] at e
        exact d i j i0 (by omega) j0 (by omega) e
/-- a file less -/
theorem JZ_del {Fi Fj : Int → Prop} {L : Int → Int} {B : Int → Int → Int} {m a0 : Int} {z l c z' l' c' : Int → Int} (h : JZ Fi L B m z l c) (ha : 0 ≤ a0 ∧ a0 < m) (hf : ∀ f, Fj f ↔ Fi f ∧ f ≠ z a0)
    (hz : ∀ i, 0 ≤ i → i < m - 1 → z' i = z (if i < a0 then i else i + 1) ∧ l' i = l (if i < a0 then i else i + 1)) (hc : ∀ k, 0 ≤ k → k < 8 * (m - 1) → c' k = c (if k < 8 * a0 then k else k + 8)) : JZ Fj L B (m - 1) z' l' c' := by
  obtain ⟨a, b, d⟩ := h
  have cc : ∀ i, 0 ≤ i → i < m - 1 → ∀ p, 0 ≤ p → p < 64 → cB c' i p = cB c (if i < a0 then i else i + 1) p := fun i i0 i1 p p0 p1 => by
    unfold cB
    rw [hc _ (by omega) (by omega)]
    by_cases q : i < a0
    · rw [if_pos q, if_pos (by omega)]
    · rw [if_neg q, if_neg (by omega), show 8 * i + p / 8 + 8 = 8 * (i + 1) + p / 8 by omega]
  refine ⟨fun i i0 i1 => ?_, fun f hh => ?_, fun i j i0 i1 j0 j1 e => ?_⟩
  · obtain ⟨s, t⟩ := hz i i0 i1
    have hi : 0 ≤ (if i < a0 then i else i + 1) ∧ (if i < a0 then i else i + 1) < m ∧ (if i < a0 then i else i + 1) ≠ a0 := by split <;> omega
    obtain ⟨p, q, r⟩ := a _ hi.1 hi.2.1
    rw [s, t]
    exact ⟨(hf _).mpr ⟨p, fun w => hi.2.2 (d _ _ hi.1 hi.2.1 ha.1 ha.2 w)⟩, q, fun y y0 y1 => (cc i i0 i1 y y0 y1).trans (r y y0 y1)⟩
  · obtain ⟨h1, h2⟩ := (hf f).mp hh
    obtain ⟨i, i1, i2⟩ := b f h1
    have hi : i ≠ a0 := fun w => h2 (by rw [← i2, w])
    by_cases q : i < a0
    · refine ⟨i, ⟨i1.1, by omega⟩, ?_⟩
      rw [(hz i i1.1 (by omega)).1, if_pos q]; exact i2
    · refine ⟨i - 1, ⟨by omega, by omega⟩, ?_⟩
      rw [(hz (i - 1) (by omega) (by omega)).1, if_neg (by omega), show i - 1 + 1 = i by omega]; exact i2
  · rw [(hz i i0 i1).1, (hz j j0 j1).1] at e
    have := d _ _ (by split <;> omega) (by split <;> omega) (by split <;> omega) (by split <;> omega) e
    split at this <;> split at this <;> omega
/-- a file's content anew -/
theorem JZ_upd {Fi : Int → Prop} {L L' : Int → Int} {B B' : Int → Int → Int} {m a0 : Int} {z l c l' c' : Int → Int} (h : JZ Fi L B m z l c) (ha : 0 ≤ a0 ∧ a0 < m) (hl : ∀ f, f ≠ z a0 → L' f = L f ∧ ∀ p, 0 ≤ p → p < 64 → B' f p = B f p)
    (h1 : ∀ i, 0 ≤ i → i < m → l' i = if i = a0 then L' (z a0) else l i) (h2 : ∀ i p, 0 ≤ i → i < m → 0 ≤ p → p < 64 → cB c' i p = if i = a0 then B' (z a0) p else cB c i p) : JZ Fi L' B' m z l' c' := by
  obtain ⟨a, b, d⟩ := h
  refine ⟨fun i i0 i1 => ?_, b, d⟩
  obtain ⟨p, q, r⟩ := a i i0 i1
  by_cases e : i = a0
  · subst e
    exact ⟨p, by rw [h1 _ i0 i1, if_pos rfl], fun y y0 y1 => by rw [h2 _ y i0 i1 y0 y1, if_pos rfl]⟩
  · obtain ⟨u, v⟩ := hl (z i) (fun w => e (d i a0 i0 i1 ha.1 ha.2 w))
    exact ⟨p, by rw [h1 _ i0 i1, if_neg e, u]; exact q, fun y y0 y1 => by rw [h2 _ y i0 i1 y0 y1, if_neg e, v y y0 y1]; exact r y y0 y1⟩
/-- law and nodes -/
def JA (F : Fl) (X : nMem) : Prop := JE (TG F) (TD F) (X 21 0) (X 22) ∧ JZ (thFf F) (LN F) (BY F) (X 21 1) (X 23) (X 24) (X 25)
theorem JA_EQ {F F' : Fl} {X : nMem} (h : JA F X) (e : EQ F F') : JA F' X :=
  ⟨JE_cg h.1 (fun d => EQ_D e d) (fun d hd nm hm => e.1 d hd nm hm), JZ_cg h.2 (fun f => EQ_F e f) (fun f hf => e.2 f hf)⟩
/-- one target is of one sort -/
theorem TD_fl {F : Fl} {fl : Int → Int} (hS : NS F) (hf : flOK F fl) {d nm : Int} (h : TG F d nm ≠ 0) : TD F d nm = fl (TG F d nm) := by
  rw [flOK_TD hS hf]; unfold dF; rw [if_neg h]
theorem JE_K {F : Fl} {fl : Int → Int} {n : Int} {e : Int → Int} (h : JE (TG F) (TD F) n e) (hS : NS F) (hf : flOK F fl) {i : Int} (i0 : 0 ≤ i) (i1 : i < n) : eK e i = fl (eT e i) := by
  obtain ⟨a, b, c, d, k⟩ := h.1 i i0 i1
  rw [← k, TD_fl hS hf (by rw [c]; exact d), c]
/-- the files are those that an entry names -/
theorem JE_file {T D : Int → Int → Int} {n : Int} {e : Int → Int} (h : JE T D n e) (f : Int) : thF T D f ↔ ∃ i, (0 ≤ i ∧ i < n) ∧ eT e i = f ∧ eK e i = 0 := by
  constructor
  · rintro ⟨d, nm, h1, h2, h3, h4, h5⟩
    obtain ⟨i, i1, -, -, i4, i5⟩ := JE_at h h1 h2 (by rw [h3]; exact h4)
    exact ⟨i, i1, i4.trans h3, i5.trans h5⟩
  · rintro ⟨i, i1, i2, i3⟩
    obtain ⟨a, b, c, d, k⟩ := h.1 i i1.1 i1.2
    exact ⟨_, _, a, b, c.trans i2, by rw [← i2]; exact d, k.trans i3⟩
theorem JE_dir {T D : Int → Int → Int} {n : Int} {e : Int → Int} (h : JE T D n e) (x : Int) : thD T D x ↔ x = 1 ∨ ∃ i, (0 ≤ i ∧ i < n) ∧ eT e i = x ∧ eK e i = 1 := by
  constructor
  · intro hx
    rcases thD_c hx with q | ⟨d, nm, h1, h2, h3, h4, h5⟩
    · exact Or.inl q
    · obtain ⟨i, i1, -, -, i4, i5⟩ := JE_at h h1 h2 (by rw [h3]; exact h4)
      exact Or.inr ⟨i, i1, i4.trans h3, i5.trans h5⟩
  · rintro (q | ⟨i, i1, i2, i3⟩)
    · rw [q]; exact thD_1 _ _
    · obtain ⟨a, b, c, d, k⟩ := h.1 i i1.1 i1.2
      have := thD_s a b (by rw [c]; exact d) (k.trans i3)
      rw [c, i2] at this; exact this
