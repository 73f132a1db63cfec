/-! ### what the whole nodes tell -/
abbrev qC (F : Fl) (kd nb key below i : Int) : Prop := rT F i kd nb ∧ fN F i 4 < below ∧ rS F i key
theorem qNew_sp (F : Fl) (kd nb key below : Int) (n : Nat) : (qNew F kd nb key below n = -1 ∧ ∀ i : Int, 0 ≤ i → i < n → ¬ qC F kd nb key below i) ∨ ((0 ≤ qNew F kd nb key below n ∧ qNew F kd nb key below n < n) ∧ qC F kd nb key below (qNew F kd nb key below n) ∧ ∀ i : Int, 0 ≤ i → i < n → qC F kd nb key below i → fN F i 4 ≤ fN F (qNew F kd nb key below n) 4 ∧ (i < qNew F kd nb key below n → fN F i 4 < fN F (qNew F kd nb key below n) 4)) := by
  induction n with
  | zero => exact Or.inl ⟨rfl, fun i i0 i1 => by omega⟩
  | succ n ih =>
    rw [qNew_s]
    by_cases c : rT F n kd nb ∧ fN F n 4 < below ∧ rS F n key ∧ (qNew F kd nb key below n = -1 ∨ fN F (qNew F kd nb key below n) 4 < fN F n 4)
    · rw [if_pos c]
      refine Or.inr ⟨by omega, ⟨c.1, c.2.1, c.2.2.1⟩, fun i i0 i1 hi => ?_⟩
      by_cases e : i = n
      · subst e; exact ⟨Int.le_refl _, fun q => absurd q (by omega)⟩
      · rcases ih with ⟨h1, h2⟩ | ⟨h1, h2, h3⟩
        · exact absurd hi (h2 i i0 (by omega))
        · have := (h3 i i0 (by omega) hi).1
          have := c.2.2.2
          omega
    · rw [if_neg c]
      rcases ih with ⟨h1, h2⟩ | ⟨h1, h2, h3⟩
      · refine Or.inl ⟨h1, fun i i0 i1 hi => ?_⟩
        by_cases e : i = n
        · subst e; exact c ⟨hi.1, hi.2.1, hi.2.2, Or.inl h1⟩
        · exact h2 i i0 (by omega) hi
      · refine Or.inr ⟨by omega, h2, fun i i0 i1 hi => ?_⟩
        by_cases e : i = n
        · subst e
          have : ¬ fN F (qNew F kd nb key below n) 4 < fN F n 4 := fun q => c ⟨hi.1, hi.2.1, hi.2.2, Or.inr q⟩
          exact ⟨by omega, fun q => absurd q (by omega)⟩
        · exact h3 i i0 (by omega) hi
theorem qNew_is {F : Fl} {kd nb key below i : Int} (i0 : 0 ≤ i) (i1 : i < 128) (h : qC F kd nb key below i) (hm : ∀ j, 0 ≤ j → j < 128 → qC F kd nb key below j → fN F j 4 ≤ fN F i 4 ∧ (j < i → fN F j 4 < fN F i 4)) : qNew F kd nb key below 128 = i := by
  rcases qNew_sp F kd nb key below 128 with ⟨-, h2⟩ | ⟨h1, h2, h3⟩
  · exact absurd h (h2 i i0 i1)
  · have a := h3 i i0 i1 h
    have b := hm _ h1.1 h1.2 h2
    rcases Int.lt_trichotomy i (qNew F kd nb key below 128) with c | c | c
    · have := a.2 c; omega
    · exact c.symm
    · have := b.2 c; omega
theorem qNew_none {F : Fl} {kd nb key below : Int} (h : ∀ j, 0 ≤ j → j < 128 → ¬ qC F kd nb key below j) : qNew F kd nb key below 128 = -1 := by
  rcases qNew_sp F kd nb key below 128 with ⟨h1, -⟩ | ⟨h1, h2, -⟩
  · exact h1
  · exact absurd h2 (h _ h1.1 h1.2)
theorem qNew_cg {F F' : Fl} {kd nb key below : Int} (h : ∀ j, 0 ≤ j → j < 128 → (qC F' kd nb key below j ↔ qC F kd nb key below j) ∧ (qC F kd nb key below j → fN F' j 4 = fN F j 4)) : qNew F' kd nb key below 128 = qNew F kd nb key below 128 := by
  rcases qNew_sp F kd nb key below 128 with ⟨h1, h2⟩ | ⟨h1, h2, h3⟩
  · rw [h1]; exact qNew_none (fun j j0 j1 q => h2 j j0 j1 ((h j j0 j1).1.mp q))
  · refine qNew_is h1.1 h1.2 ((h _ h1.1 h1.2).1.mpr h2) (fun j j0 j1 q => ?_)
    have q' := (h j j0 j1).1.mp q
    rw [(h j j0 j1).2 q', (h _ h1.1 h1.2).2 h2]
    exact h3 j j0 j1 q'
abbrev BIG : Int := 2147483647
/-- the target that a name has; 0 -/
def TG (F : Fl) (d nm : Int) : Int := qTgt F (qNew F 2 d nm 2147483647 128)
/-- whether it is a directory -/
def TD (F : Fl) (d nm : Int) : Int := if qNew F 2 d nm 2147483647 128 = -1 then 0 else fN F (qNew F 2 d nm 2147483647 128) 11
/-- a file's length, and its bytes -/
def LN (F : Fl) (f : Int) : Int := if qNew F 1 f 64 2147483647 128 = -1 then 0 else fN F (qNew F 1 f 64 2147483647 128) 9
def BY (F : Fl) (f p : Int) : Int := qByt F (qNew F 1 f p 2147483647 128) p
/-- whole nodes with one kind, number and version are copies -/
abbrev NU (F : Fl) : Prop := ∀ i j, 0 ≤ i → i < 128 → 0 ≤ j → j < 128 → rW F i → rW F j → fN F i 0 = fN F j 0 → fN F i 3 = fN F j 3 → fN F i 4 = fN F j 4 → ∀ k, 0 ≤ k → k ≤ 11 → fN F i k = fN F j k
/-- the numbers and versions of all whole nodes are known, and the flags are one -/
abbrev NV (F : Fl) (nx : Int) (Vd Vn : Int → Int) : Prop := (∀ i, 0 ≤ i → i < 128 → rW F i → fN F i 3 < nx ∧ fN F i 10 < nx ∧ (fN F i 0 = 1 → fN F i 4 ≤ Vd (fN F i 3)) ∧ (fN F i 0 = 2 → fN F i 4 ≤ Vn (fN F i 3)))
abbrev NF (F : Fl) : Prop := ∀ i j, 0 ≤ i → i < 128 → 0 ≤ j → j < 128 → rW F i → rW F j → fN F i 0 = 2 → fN F j 0 = 2 → fN F i 10 ≠ 0 → fN F i 10 = fN F j 10 → fN F i 11 = fN F j 11
theorem rT_W {F : Fl} {i kd nb : Int} (hk : kd = 1 ∨ kd = 2) : rT F i kd nb ↔ rW F i ∧ fN F i 0 = kd ∧ fN F i 3 = nb := by
  unfold rT rW; omega
/-- all whole nodes are good ones -/
abbrev NS (F : Fl) : Prop := ∀ i, 0 ≤ i → i < 128 → rW F i → sOK (fN F i)
theorem PA_NS {F : Fl} (h : PA F) : NS F := fun i i0 i1 hw => by
  obtain ⟨⟨⟨a, a2⟩, -⟩, -, c, d, -, -⟩ := h (i / 16) (by omega) (by omega)
  have ei : i / 16 * 16 + i % 16 = i := by omega
  by_cases q : i % 16 < fC F (i / 16)
  · have := (c (i % 16) (by omega) q).1
    rw [ei] at this
    rcases this with t | t
    · exact t
    · have := t.1; have := hw.1; omega
  · have := d (i % 16) (by omega) (by omega) 0 (by omega) (by omega)
    rw [ei] at this
    have := hw.1; omega
theorem TG_is {F : Fl} {d nm i : Int} (hU : NU F) (hS : NS F) (i0 : 0 ≤ i) (i1 : i < 128) (h : rT F i 2 d) (hn : fN F i 5 = nm) (hm : ∀ j, 0 ≤ j → j < 128 → rT F j 2 d → fN F j 5 = nm → fN F j 4 ≤ fN F i 4) : TG F d nm = fN F i 10 ∧ TD F d nm = fN F i 11 := by
  have hv : ∀ j, 0 ≤ j → j < 128 → rT F j 2 d → fN F j 4 < 2147483647 := fun j j0 j1 q => by
    have := sOK_k (hS j j0 j1 ((rT_W (Or.inr rfl)).mp q).1); omega
  have hc : qC F 2 d nm 2147483647 i := ⟨h, hv i i0 i1 h, Or.inl ⟨h.1, hn⟩⟩
  rcases qNew_sp F 2 d nm 2147483647 128 with ⟨-, h2⟩ | ⟨h1, h2, h3⟩
  · exact absurd hc (h2 i i0 i1)
  · have a := (h3 i i0 i1 hc).1
    have h25 : fN F (qNew F 2 d nm 2147483647 128) 5 = nm := by
      rcases h2.2.2 with q | q
      · exact q.2
      · exact absurd h2.1.1 q.1
    have b := hm _ h1.1 h1.2 h2.1 h25
    have w1 := (rT_W (Or.inr rfl)).mp h
    have w2 := (rT_W (Or.inr rfl)).mp h2.1
    have e := hU _ i h1.1 h1.2 i0 i1 w2.1 w1.1 (by omega) (by omega) (by omega)
    unfold TG TD qTgt
    rw [if_neg (by omega), if_neg (by omega)]
    exact ⟨e 10 (by omega) (by omega), e 11 (by omega) (by omega)⟩
theorem TG_no {F : Fl} {d nm : Int} (h : ∀ j, 0 ≤ j → j < 128 → rT F j 2 d → fN F j 5 ≠ nm) : TG F d nm = 0 ∧ TD F d nm = 0 := by
  have e : qNew F 2 d nm 2147483647 128 = -1 := qNew_none (fun j j0 j1 q => by
    rcases q.2.2 with w | w
    · exact h j j0 j1 q.1 w.2
    · exact w.1 q.1.1)
  unfold TG TD qTgt
  rw [if_pos e, if_pos e]; exact ⟨rfl, rfl⟩
/-- the row of a name -/
theorem TG_row {F : Fl} {d nm : Int} (h : TG F d nm ≠ 0) : ∃ i, 0 ≤ i ∧ i < 128 ∧ rT F i 2 d ∧ fN F i 5 = nm ∧ fN F i 10 = TG F d nm ∧ fN F i 11 = TD F d nm ∧ qNew F 2 d nm 2147483647 128 = i ∧ ∀ j, 0 ≤ j → j < 128 → rT F j 2 d → fN F j 5 = nm → fN F j 4 < 2147483647 → fN F j 4 ≤ fN F i 4 := by
  rcases qNew_sp F 2 d nm 2147483647 128 with ⟨h1, -⟩ | ⟨h1, h2, h3⟩
  · exfalso; apply h; unfold TG qTgt; rw [if_pos h1]
  · refine ⟨_, h1.1, h1.2, h2.1, ?_, ?_, ?_, rfl, fun j j0 j1 q1 q2 q3 => (h3 j j0 j1 ⟨q1, q3, Or.inl ⟨q1.1, q2⟩⟩).1⟩
    · rcases h2.2.2 with q | q
      · exact q.2
      · exact absurd h2.1.1 q.1
    · unfold TG qTgt; rw [if_neg (by omega)]
    · unfold TD; rw [if_neg (by omega)]
/-- the same whole nodes tell the same -/
theorem qC_cg {F F' : Fl} {kd nb key below j : Int} (hk : kd = 1 ∨ kd = 2) (h : (rW F' j ↔ rW F j) ∧ (rW F j → ∀ k, fN F' j k = fN F j k)) : (qC F' kd nb key below j ↔ qC F kd nb key below j) ∧ (qC F kd nb key below j → fN F' j 4 = fN F j 4) := by
  refine ⟨?_, fun q => h.2 ((rT_W hk).mp q.1).1 4⟩
  constructor
  · intro q
    have w := h.1.mp ((rT_W hk).mp q.1).1
    have e := h.2 w
    unfold qC rT rS at q ⊢
    rw [e, e, e, e, e, e, e, e] at q; exact q
  · intro q
    have w := ((rT_W hk).mp q.1).1
    have e := h.2 w
    unfold qC rT rS at q ⊢
    rw [e, e, e, e, e, e, e, e]; exact q
theorem same_q {F F' : Fl} (h : sameR F F') {kd nb key below : Int} (hk : kd = 1 ∨ kd = 2) : qNew F' kd nb key below 128 = qNew F kd nb key below 128 := qNew_cg (fun j j0 j1 => qC_cg hk (h j j0 j1))
theorem qNew_rW {F : Fl} {kd nb key below : Int} (hk : kd = 1 ∨ kd = 2) (h : qNew F kd nb key below 128 ≠ -1) : (0 ≤ qNew F kd nb key below 128 ∧ qNew F kd nb key below 128 < 128) ∧ rW F (qNew F kd nb key below 128) := by
  rcases qNew_sp F kd nb key below 128 with ⟨h1, -⟩ | ⟨h1, h2, -⟩
  · exact absurd h1 h
  · exact ⟨h1, ((rT_W hk).mp h2.1).1⟩
theorem same_told {F F' : Fl} (h : sameR F F') : (∀ d nm, TG F' d nm = TG F d nm ∧ TD F' d nm = TD F d nm) ∧ (∀ f, LN F' f = LN F f) ∧ ∀ f p, BY F' f p = BY F f p := by
  refine ⟨fun d nm => ?_, fun f => ?_, fun f p => ?_⟩
  · unfold TG TD qTgt
    rw [same_q h (Or.inr rfl)]
    by_cases c : qNew F 2 d nm 2147483647 128 = -1
    · simp only [if_pos c]; exact ⟨trivial, trivial⟩
    · obtain ⟨a, b⟩ := qNew_rW (Or.inr rfl) c
      simp only [if_neg c]
      exact ⟨(h _ a.1 a.2).2 b 10, (h _ a.1 a.2).2 b 11⟩
  · unfold LN
    rw [same_q h (Or.inl rfl)]
    by_cases c : qNew F 1 f 64 2147483647 128 = -1
    · rw [if_pos c, if_pos c]
    · obtain ⟨a, b⟩ := qNew_rW (Or.inl rfl) c
      rw [if_neg c, if_neg c]; exact (h _ a.1 a.2).2 b 9
  · unfold BY qByt
    rw [same_q h (Or.inl rfl)]
    by_cases c : qNew F 1 f p 2147483647 128 = -1
    · rw [if_pos c, if_pos c]
    · obtain ⟨a, b⟩ := qNew_rW (Or.inl rfl) c
      rw [if_neg c, if_neg c]
      have e := (h _ a.1 a.2).2 b
      unfold fByteFor
      rw [e, e, e]
theorem same_N {F F' : Fl} (h : sameR F F') : (NU F → NU F') ∧ (NF F → NF F') ∧ (∀ nx Vd Vn, NV F nx Vd Vn → NV F' nx Vd Vn) ∧ (NS F → NS F') := by
  refine ⟨fun hU i j i0 i1 j0 j1 wi wj => ?_, fun hF i j i0 i1 j0 j1 wi wj => ?_, fun nx Vd Vn hV i i0 i1 wi => ?_, fun hS i i0 i1 wi => ?_⟩
  · have wi' := (h i i0 i1).1.mp wi
    have wj' := (h j j0 j1).1.mp wj
    have ei := (h i i0 i1).2 wi'
    have ej := (h j j0 j1).2 wj'
    simp only [ei, ej]
    exact hU i j i0 i1 j0 j1 wi' wj'
  · have wi' := (h i i0 i1).1.mp wi
    have wj' := (h j j0 j1).1.mp wj
    have ei := (h i i0 i1).2 wi'
    have ej := (h j j0 j1).2 wj'
    simp only [ei, ej]
    exact hF i j i0 i1 j0 j1 wi' wj'
  · have wi' := (h i i0 i1).1.mp wi
    have ei := (h i i0 i1).2 wi'
    simp only [ei]
    exact hV i i0 i1 wi'
  · have wi' := (h i i0 i1).1.mp wi
    have ei := (h i i0 i1).2 wi'
    rw [funext ei]; exact hS i i0 i1 wi'
