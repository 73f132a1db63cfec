abbrev sameT (F F' : Fl) : Prop := (∀ d nm, TG F' d nm = TG F d nm ∧ TD F' d nm = TD F d nm) ∧ (∀ f, LN F' f = LN F f) ∧ ∀ f p, BY F' f p = BY F f p
/-- each whole node has a copy over there -/
abbrev cover (F F' : Fl) : Prop := ∀ j, 0 ≤ j → j < 128 → rW F j → ∃ i, (0 ≤ i ∧ i < 128) ∧ rW F' i ∧ ∀ k, 0 ≤ k → k ≤ 11 → fN F' i k = fN F j k
theorem qC_val {F F' : Fl} {kd nb key below j i : Int} (e : ∀ k, 0 ≤ k → k ≤ 11 → fN F' i k = fN F j k) (h : qC F kd nb key below j) : qC F' kd nb key below i := by
  unfold qC rT rS at h ⊢
  rw [e 0 (by omega) (by omega), e 3 (by omega) (by omega), e 2 (by omega) (by omega), e 1 (by omega) (by omega), e 4 (by omega) (by omega), e 5 (by omega) (by omega), e 6 (by omega) (by omega), e 9 (by omega) (by omega)]
  exact h
theorem cover_q {F F' : Fl} (hU : NU F') (h1 : cover F F') (h2 : cover F' F) {kd nb key below : Int} (hk : kd = 1 ∨ kd = 2) : (qNew F' kd nb key below 128 = -1 ↔ qNew F kd nb key below 128 = -1) ∧ (qNew F kd nb key below 128 ≠ -1 → ∀ k, 0 ≤ k → k ≤ 11 → fN F' (qNew F' kd nb key below 128) k = fN F (qNew F kd nb key below 128) k) := by
  rcases qNew_sp F kd nb key below 128 with ⟨a1, a2⟩ | ⟨a1, a2, a3⟩
  · have e : qNew F' kd nb key below 128 = -1 := qNew_none (fun j j0 j1 q => by
      obtain ⟨i, i0, i1, i2⟩ := h2 j j0 j1 ((rT_W hk).mp q.1).1
      exact a2 i i0.1 i0.2 (qC_val i2 q))
    exact ⟨by rw [e, a1], fun q => absurd a1 q⟩
  · obtain ⟨i, i0, i1, i2⟩ := h1 _ a1.1 a1.2 ((rT_W hk).mp a2.1).1
    have ci := qC_val i2 a2
    rcases qNew_sp F' kd nb key below 128 with ⟨b1, b2⟩ | ⟨b1, b2, b3⟩
    · exact absurd ci (b2 i i0.1 i0.2)
    · refine ⟨⟨fun q => by omega, fun q => by omega⟩, fun _ k k0 k1 => ?_⟩
      have c1 := (b3 i i0.1 i0.2 ci).1
      obtain ⟨j, j0, j1, j2⟩ := h2 _ b1.1 b1.2 ((rT_W hk).mp b2.1).1
      have c2 := (a3 j j0.1 j0.2 (qC_val j2 b2)).1
      rw [j2 4 (by omega) (by omega)] at c2
      rw [i2 4 (by omega) (by omega)] at c1
      have w1 := (rT_W hk).mp b2.1
      have w2 := (rT_W hk).mp ci.1
      rw [← i2 k k0 k1]
      exact hU _ i b1.1 b1.2 i0.1 i0.2 w1.1 w2.1 (by omega) (by omega) (by rw [i2 4 (by omega) (by omega)]; omega) k k0 k1
theorem cover_told {F F' : Fl} (hU : NU F') (h1 : cover F F') (h2 : cover F' F) : sameT F F' := by
  refine ⟨fun d nm => ?_, fun f => ?_, fun f p => ?_⟩
  · obtain ⟨a, b⟩ := cover_q hU h1 h2 (kd := 2) (nb := d) (key := nm) (below := 2147483647) (Or.inr rfl)
    unfold TG TD qTgt
    by_cases c : qNew F 2 d nm 2147483647 128 = -1
    · simp only [if_pos c, if_pos (a.mpr c)]; exact ⟨trivial, trivial⟩
    · simp only [if_neg c, if_neg (fun q => c (a.mp q))]
      exact ⟨b c 10 (by omega) (by omega), b c 11 (by omega) (by omega)⟩
  · obtain ⟨a, b⟩ := cover_q hU h1 h2 (kd := 1) (nb := f) (key := 64) (below := 2147483647) (Or.inl rfl)
    unfold LN
    by_cases c : qNew F 1 f 64 2147483647 128 = -1
    · rw [if_pos c, if_pos (a.mpr c)]
    · rw [if_neg c, if_neg (fun q => c (a.mp q))]; exact b c 9 (by omega) (by omega)
  · obtain ⟨a, b⟩ := cover_q hU h1 h2 (kd := 1) (nb := f) (key := p) (below := 2147483647) (Or.inl rfl)
    unfold BY qByt
    by_cases c : qNew F 1 f p 2147483647 128 = -1
    · rw [if_pos c, if_pos (a.mpr c)]
    · rw [if_neg c, if_neg (fun q => c (a.mp q))]
      unfold fByteFor
      rw [b c 5 (by omega) (by omega), b c 6 (by omega) (by omega), b c 7 (by omega) (by omega)]
theorem sameR_cover {F F' : Fl} (h : sameR F F') : cover F F' ∧ cover F' F :=
  ⟨fun j j0 j1 w => ⟨j, ⟨j0, j1⟩, (h j j0 j1).1.mpr w, fun k _ _ => (h j j0 j1).2 w k⟩, fun j j0 j1 w => ⟨j, ⟨j0, j1⟩, (h j j0 j1).1.mp w, fun k _ _ => ((h j j0 j1).2 ((h j j0 j1).1.mp w) k).symm⟩⟩
theorem cover_trans {F F1 F2 : Fl} (h : cover F F1) (k : cover F1 F2) : cover F F2 := fun j j0 j1 w => by
  obtain ⟨i, i0, i1, i2⟩ := h j j0 j1 w
  obtain ⟨l, l0, l1, l2⟩ := k i i0.1 i0.2 i1
  exact ⟨l, l0, l1, fun q q0 q1 => (l2 q q0 q1).trans (i2 q q0 q1)⟩
theorem NU_cover {F F' : Fl} (hU : NU F) (h : cover F' F) : NU F' := fun i j i0 i1 j0 j1 wi wj e0 e3 e4 k k0 k1 => by
  obtain ⟨a, a0, a1, a2⟩ := h i i0 i1 wi
  obtain ⟨b, b0, b1, b2⟩ := h j j0 j1 wj
  rw [← a2 k k0 k1, ← b2 k k0 k1]
  exact hU a b a0.1 a0.2 b0.1 b0.2 a1 b1 (by rw [a2 0 (by omega) (by omega), b2 0 (by omega) (by omega)]; exact e0) (by rw [a2 3 (by omega) (by omega), b2 3 (by omega) (by omega)]; exact e3) (by rw [a2 4 (by omega) (by omega), b2 4 (by omega) (by omega)]; exact e4) k k0 k1
theorem NF_cover {F F' : Fl} (hF : NF F) (h : cover F' F) : NF F' := fun i j i0 i1 j0 j1 wi wj e0 e1 e2 e3 => by
  obtain ⟨a, a0, a1, a2⟩ := h i i0 i1 wi
  obtain ⟨b, b0, b1, b2⟩ := h j j0 j1 wj
  rw [← a2 11 (by omega) (by omega), ← b2 11 (by omega) (by omega)]
  rw [← a2 0 (by omega) (by omega)] at e0
  rw [← b2 0 (by omega) (by omega)] at e1
  rw [← a2 10 (by omega) (by omega)] at e2 e3
  rw [← b2 10 (by omega) (by omega)] at e3
  exact hF a b a0.1 a0.2 b0.1 b0.2 a1 b1 e0 e1 e2 e3
theorem NV_cover {F F' : Fl} {nx : Int} {Vd Vn : Int → Int} (hV : NV F nx Vd Vn) (h : cover F' F) : NV F' nx Vd Vn := fun i i0 i1 wi => by
  obtain ⟨a, a0, a1, a2⟩ := h i i0 i1 wi
  have := hV a a0.1 a0.2 a1
  rw [a2 0 (by omega) (by omega), a2 3 (by omega) (by omega), a2 4 (by omega) (by omega), a2 10 (by omega) (by omega)] at this
  exact this
/-! ### one more node -/
theorem add_W {F F' : Fl} {i : Int} {s : Int → Int} (h : addR F F' i s) (hs : sOK s) : rW F' i ∧ ¬ rW F i := by
  have hk := sOK_k hs
  obtain ⟨a, b, -⟩ := h
  refine ⟨?_, fun q => by have := q.1; omega⟩
  have b0 : fN F' i 0 = s 0 := by rw [b 0, if_neg (by decide)]
  have b1 : fN F' i 1 = s 1 := by rw [b 1, if_neg (by decide)]
  have b2 : fN F' i 2 = s 1 := by rw [b 2, if_pos rfl]
  unfold rW
  omega
theorem add_NS {F F' : Fl} {i : Int} {s : Int → Int} (h : addR F F' i s) (hs : sOK s) (hS : NS F) : NS F' := fun j j0 j1 w => by
  by_cases e : j = i
  · subst e; exact sOK_congr (fun k hk => by rw [h.2.1 k, if_neg hk]) hs
  · obtain ⟨a, b⟩ := h.2.2 j j0 j1 e
    rw [funext (b (a.mp w))]; exact hS j j0 j1 (a.mp w)
/-- the version is a new one -/
abbrev newV (F : Fl) (s : Int → Int) : Prop := ∀ j, 0 ≤ j → j < 128 → rW F j → fN F j 0 = s 0 → fN F j 3 = s 3 → fN F j 4 < s 4
theorem add_NU {F F' : Fl} {i : Int} {s : Int → Int} (h : addR F F' i s) (hU : NU F) (hv : newV F s) : NU F' := fun j l j0 j1 l0 l1 wj wl e0 e3 e4 k k0 k1 => by
  have hi : ∀ x, x ≠ 2 → fN F' i x = s x := fun x hx => by rw [h.2.1 x, if_neg hx]
  by_cases ej : j = i
  · by_cases el : l = i
    · rw [ej, el]
    · obtain ⟨c, d⟩ := h.2.2 l l0 l1 el
      have d' := d (c.mp wl)
      rw [ej, hi 0 (by omega), d'] at e0
      rw [ej, hi 3 (by omega), d'] at e3
      rw [ej, hi 4 (by omega), d'] at e4
      have := hv l l0 l1 (c.mp wl) e0.symm e3.symm
      omega
  · obtain ⟨a, b⟩ := h.2.2 j j0 j1 ej
    have b' := b (a.mp wj)
    by_cases el : l = i
    · rw [el, hi 0 (by omega), b'] at e0
      rw [el, hi 3 (by omega), b'] at e3
      rw [el, hi 4 (by omega), b'] at e4
      have := hv j j0 j1 (a.mp wj) e0 e3
      omega
    · obtain ⟨c, d⟩ := h.2.2 l l0 l1 el
      have d' := d (c.mp wl)
      rw [b', d'] at e0 e3 e4 ⊢
      exact hU j l j0 j1 l0 l1 (a.mp wj) (c.mp wl) e0 e3 e4 k k0 k1
theorem add_NF {F F' : Fl} {i : Int} {s : Int → Int} (h : addR F F' i s) (hF : NF F) (hf : s 0 = 2 → s 10 ≠ 0 → ∀ j, 0 ≤ j → j < 128 → rW F j → fN F j 0 = 2 → fN F j 10 = s 10 → fN F j 11 = s 11) : NF F' := fun j l j0 j1 l0 l1 wj wl e0 e1 e2 e3 => by
  have hi : ∀ x, x ≠ 2 → fN F' i x = s x := fun x hx => by rw [h.2.1 x, if_neg hx]
  by_cases ej : j = i
  · by_cases el : l = i
    · rw [ej, el]
    · obtain ⟨c, d⟩ := h.2.2 l l0 l1 el
      have d' := d (c.mp wl)
      rw [ej, hi _ (by omega)] at e0 e2 e3 ⊢
      rw [d'] at e1 e3 ⊢
      exact (hf e0 e2 l l0 l1 (c.mp wl) e1 e3.symm).symm
  · obtain ⟨a, b⟩ := h.2.2 j j0 j1 ej
    have b' := b (a.mp wj)
    by_cases el : l = i
    · rw [b'] at e0 e2 e3 ⊢
      rw [el, hi _ (by omega)] at e1 e3 ⊢
      exact hf e1 (by omega) j j0 j1 (a.mp wj) e0 e3
    · obtain ⟨c, d⟩ := h.2.2 l l0 l1 el
      have d' := d (c.mp wl)
      rw [b'] at e0 e2 e3 ⊢
      rw [d'] at e1 e3 ⊢
      exact hF j l j0 j1 l0 l1 (a.mp wj) (c.mp wl) e0 e1 e2 e3
theorem add_NV {F F' : Fl} {i nx nx' : Int} {s : Int → Int} {Vd Vn Wd Wn : Int → Int} (h : addR F F' i s) (hV : NV F nx Vd Vn) (hn : nx ≤ nx') (hd : ∀ x, Vd x ≤ Wd x) (hm : ∀ x, Vn x ≤ Wn x) (hs : s 3 < nx' ∧ s 10 < nx' ∧ (s 0 = 1 → s 4 ≤ Wd (s 3)) ∧ (s 0 = 2 → s 4 ≤ Wn (s 3))) : NV F' nx' Wd Wn := fun j j0 j1 wj => by
  have hi : ∀ x, x ≠ 2 → fN F' i x = s x := fun x hx => by rw [h.2.1 x, if_neg hx]
  by_cases ej : j = i
  · subst ej
    rw [hi 3 (by omega), hi 10 (by omega), hi 0 (by omega), hi 4 (by omega)]
    exact hs
  · obtain ⟨a, b⟩ := h.2.2 j j0 j1 ej
    have b' := b (a.mp wj)
    rw [b', b', b', b']
    obtain ⟨p1, p2, p3, p4⟩ := hV j j0 j1 (a.mp wj)
    have q1 := hd (fN F j 3)
    have q2 := hm (fN F j 3)
    exact ⟨by omega, by omega, fun z => by have := p3 z; omega, fun z => by have := p4 z; omega⟩
theorem add_q {F F' : Fl} {i : Int} {s : Int → Int} (i0 : 0 ≤ i) (i1 : i < 128) (h : addR F F' i s) (hs : sOK s) (hS : NS F) (hv : newV F s) {kd nb key : Int} (hk : kd = 1 ∨ kd = 2) :
    qNew F' kd nb key 2147483647 128 = if kd = s 0 ∧ nb = s 3 ∧ sSet s key then i else qNew F kd nb key 2147483647 128 := by
  have hkk := sOK_k hs
  have hi : ∀ x, x ≠ 2 → fN F' i x = s x := fun x hx => by rw [h.2.1 x, if_neg hx]
  obtain ⟨w1, w0⟩ := add_W h hs
  have hqi : qC F' kd nb key 2147483647 i ↔ kd = s 0 ∧ nb = s 3 ∧ sSet s key := by
    unfold qC rS sSet
    rw [rT_W hk, hi 0 (by omega), hi 3 (by omega), hi 4 (by omega), hi 5 (by omega), hi 6 (by omega), hi 9 (by omega)]
    constructor
    · rintro ⟨⟨-, a, b⟩, -, c⟩; exact ⟨a.symm, b.symm, c⟩
    · rintro ⟨a, b, c⟩; exact ⟨⟨w1, a.symm, b.symm⟩, by omega, c⟩
  by_cases c : kd = s 0 ∧ nb = s 3 ∧ sSet s key
  · rw [if_pos c]
    refine qNew_is i0 i1 (hqi.mpr c) (fun j j0 j1 q => ?_)
    by_cases ej : j = i
    · subst ej; exact ⟨Int.le_refl _, fun z => absurd z (by omega)⟩
    · obtain ⟨a, b⟩ := h.2.2 j j0 j1 ej
      have wt := (rT_W hk).mp q.1
      have b' := b (a.mp wt.1)
      have := hv j j0 j1 (a.mp wt.1) (by rw [← b']; omega) (by rw [← b']; omega)
      rw [b', hi 4 (by omega)]
      omega
  · rw [if_neg c]
    refine qNew_cg (fun j j0 j1 => ?_)
    by_cases ej : j = i
    · subst ej
      have n1 : ¬ qC F' kd nb key 2147483647 j := fun q => c (hqi.mp q)
      have n2 : ¬ qC F kd nb key 2147483647 j := fun q => w0 ((rT_W hk).mp q.1).1
      exact ⟨⟨fun q => absurd q n1, fun q => absurd q n2⟩, fun q => absurd q n2⟩
    · exact qC_cg hk (h.2.2 j j0 j1 ej)
theorem add_f {F F' : Fl} {i : Int} {s : Int → Int} (h : addR F F' i s) (hs : sOK s) {kd nb key : Int} (hk : kd = 1 ∨ kd = 2) (c : qNew F kd nb key 2147483647 128 ≠ -1) (k : Int) : fN F' (qNew F kd nb key 2147483647 128) k = fN F (qNew F kd nb key 2147483647 128) k := by
  obtain ⟨a, b⟩ := qNew_rW hk c
  exact (h.2.2 _ a.1 a.2 (fun e => (add_W h hs).2 (by rw [← e]; exact b))).2 b k
theorem add_told {F F' : Fl} {i : Int} {s : Int → Int} (i0 : 0 ≤ i) (i1 : i < 128) (h : addR F F' i s) (hs : sOK s) (hS : NS F) (hv : newV F s) :
    (∀ d nm, TG F' d nm = (if s 0 = 2 ∧ d = s 3 ∧ nm = s 5 then s 10 else TG F d nm) ∧ TD F' d nm = (if s 0 = 2 ∧ d = s 3 ∧ nm = s 5 then s 11 else TD F d nm)) ∧
    (∀ f, LN F' f = if s 0 = 1 ∧ f = s 3 then s 9 else LN F f) ∧ ∀ f p, BY F' f p = if s 0 = 1 ∧ f = s 3 ∧ sSet s p then sByt s p else BY F f p := by
  have hkk := sOK_k hs
  have hi : ∀ x, x ≠ 2 → fN F' i x = s x := fun x hx => by rw [h.2.1 x, if_neg hx]
  refine ⟨fun d nm => ?_, fun f => ?_, fun f p => ?_⟩
  · have q := add_q i0 i1 h hs hS hv (kd := 2) (nb := d) (key := nm) (Or.inr rfl)
    unfold TG TD qTgt
    rw [q]
    by_cases c : s 0 = 2 ∧ d = s 3 ∧ nm = s 5
    · have c' : 2 = s 0 ∧ d = s 3 ∧ sSet s nm := ⟨c.1.symm, c.2.1, Or.inl ⟨c.1, c.2.2.symm⟩⟩
      simp only [if_pos c, if_pos c']
      rw [if_neg (by omega), if_neg (by omega), hi 10 (by omega), hi 11 (by omega)]
      exact ⟨rfl, rfl⟩
    · have c' : ¬ (2 = s 0 ∧ d = s 3 ∧ sSet s nm) := fun z => c (by
        obtain ⟨z1, z2, z3⟩ := z
        refine ⟨z1.symm, z2, ?_⟩
        rcases z3 with w | w
        · exact w.2.symm
        · exact absurd z1.symm w.1)
      simp only [if_neg c, if_neg c']
      by_cases e : qNew F 2 d nm 2147483647 128 = -1
      · simp only [if_pos e]; exact ⟨trivial, trivial⟩
      · simp only [if_neg e]; exact ⟨add_f h hs (Or.inr rfl) e 10, add_f h hs (Or.inr rfl) e 11⟩
  · have q := add_q i0 i1 h hs hS hv (kd := 1) (nb := f) (key := 64) (Or.inl rfl)
    unfold LN
    rw [q]
    by_cases c : s 0 = 1 ∧ f = s 3
    · have c' : 1 = s 0 ∧ f = s 3 ∧ sSet s 64 := ⟨c.1.symm, c.2, Or.inr ⟨by omega, Or.inl (by omega)⟩⟩
      rw [if_pos c, if_pos c', if_neg (by omega), hi 9 (by omega)]
    · have c' : ¬ (1 = s 0 ∧ f = s 3 ∧ sSet s 64) := fun z => c ⟨z.1.symm, z.2.1⟩
      rw [if_neg c', if_neg c]
      by_cases e : qNew F 1 f 64 2147483647 128 = -1
      · rw [if_pos e, if_pos e]
      · rw [if_neg e, if_neg e]; exact add_f h hs (Or.inl rfl) e 9
  · have q := add_q i0 i1 h hs hS hv (kd := 1) (nb := f) (key := p) (Or.inl rfl)
    unfold BY
    rw [q]
    by_cases c : s 0 = 1 ∧ f = s 3 ∧ sSet s p
    · rw [if_pos c, if_pos ⟨c.1.symm, c.2⟩]
      unfold qByt fByteFor sByt
      rw [if_neg (by omega), hi 5 (by omega), hi 6 (by omega), hi 7 (by omega)]
    · have c' : ¬ (1 = s 0 ∧ f = s 3 ∧ sSet s p) := fun z => c ⟨z.1.symm, z.2⟩
      rw [if_neg c', if_neg c]
      unfold qByt
      by_cases e : qNew F 1 f p 2147483647 128 = -1
      · rw [if_pos e, if_pos e]
      · rw [if_neg e, if_neg e]
        unfold fByteFor
        rw [add_f h hs (Or.inl rfl) e 5, add_f h hs (Or.inl rfl) e 6, add_f h hs (Or.inl rfl) e 7]
/-- one more copy -/
theorem add_copy {F F' : Fl} {i j : Int} {s : Int → Int} (i0 : 0 ≤ i) (i1 : i < 128) (h : addR F F' i s) (hs : sOK s) (j0 : 0 ≤ j) (j1 : j < 128) (hj : rW F j) (e : ∀ k, 0 ≤ k → k ≤ 11 → k ≠ 2 → s k = fN F j k) : cover F F' ∧ cover F' F := by
  obtain ⟨w1, w0⟩ := add_W h hs
  have hi : ∀ x, x ≠ 2 → fN F' i x = s x := fun x hx => by rw [h.2.1 x, if_neg hx]
  have hi2 : fN F' i 2 = s 1 := by rw [h.2.1 2, if_pos rfl]
  refine ⟨fun l l0 l1 w => ?_, fun l l0 l1 w => ?_⟩
  · have ne : l ≠ i := fun q => w0 (by rw [← q]; exact w)
    obtain ⟨a, b⟩ := h.2.2 l l0 l1 ne
    exact ⟨l, ⟨l0, l1⟩, a.mpr w, fun k _ _ => b w k⟩
  · by_cases el : l = i
    · refine ⟨j, ⟨j0, j1⟩, hj, fun k k0 k1 => ?_⟩
      rw [el]
      by_cases k2 : k = 2
      · rw [k2, hi2, e 1 (by omega) (by omega) (by omega)]; exact hj.2
      · rw [hi k k2]; exact (e k k0 k1 k2).symm
    · obtain ⟨a, b⟩ := h.2.2 l l0 l1 el
      exact ⟨l, ⟨l0, l1⟩, a.mp w, fun k _ _ => (b (a.mp w) k).symm⟩
