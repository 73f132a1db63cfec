/-! ### the law's rows behind each step -/
def adX (X X' : nMem) (d v t q : Int) : Prop := X' 21 0 = X 21 0 + 1 ∧ X' 21 1 = X 21 1 ∧ (∀ j, X' 22 j = if j = 4 * X 21 0 then d else if j = 4 * X 21 0 + 1 then v else if j = 4 * X 21 0 + 2 then t else if j = 4 * X 21 0 + 3 then q else X 22 j) ∧ ∀ j, X' 23 j = X 23 j ∧ X' 24 j = X 24 j ∧ X' 25 j = X 25 j
def opX (X X' : nMem) (f : Int) : Prop := X' 21 0 = X 21 0 ∧ X' 21 1 = X 21 1 + 1 ∧ (∀ j, X' 22 j = X 22 j) ∧ (∀ j, X' 23 j = if j = X 21 1 then f else X 23 j) ∧ (∀ j, X' 24 j = if j = X 21 1 then 0 else X 24 j) ∧ ∀ j, X' 25 j = if 8 * X 21 1 ≤ j ∧ j < 8 * X 21 1 + 8 then 0 else X 25 j
theorem LX_ad {X X' : nMem} {d v t q : Int} (h : adX X X' d v t q) (hX : LX X) (hn : X 21 0 ≤ 14) (r1 : inR d) (r2 : inR v) (r3 : inR t) (r4 : inR q) : LX X' := by
  obtain ⟨a1, a2, a3, a4⟩ := h
  obtain ⟨b1, b2, b3, b4, b5⟩ := hX
  refine ⟨by omega, by omega, fun j => ?_, fun j => by rw [(a4 j).1]; exact b4 j, fun j => by rw [(a4 j).2.1]; exact b5 j⟩
  rw [a3]
  (repeat' split) <;> first | assumption | exact b3 j
theorem LX_op {X X' : nMem} {f : Int} (h : opX X X' f) (hX : LX X) (hn : X 21 1 ≤ 7) (r1 : inR f) : LX X' := by
  obtain ⟨a1, a2, a3, a4, a5, a6⟩ := h
  obtain ⟨b1, b2, b3, b4, b5⟩ := hX
  refine ⟨by omega, by omega, fun j => by rw [a3]; exact b3 j, fun j => ?_, fun j => ?_⟩
  · rw [a4]; split
    · exact r1
    · exact b4 j
  · rw [a5]; split
    · unfold inR; omega
    · exact b5 j
theorem ad_rows {X X' : nMem} {d v t q : Int} (h : adX X X' d v t q) (h0 : 0 ≤ X 21 0) : (∀ j, 0 ≤ j → j < 4 * X 21 0 → X' 22 j = X 22 j) ∧ eD (X' 22) (X 21 0) = d ∧ eN (X' 22) (X 21 0) = v ∧ eT (X' 22) (X 21 0) = t ∧ eK (X' 22) (X 21 0) = q := by
  obtain ⟨-, -, a3, -⟩ := h
  refine ⟨fun j j0 j1 => ?_, ?_, ?_, ?_, ?_⟩
  · rw [a3, if_neg (by omega), if_neg (by omega), if_neg (by omega), if_neg (by omega)]
  · show X' 22 (4 * X 21 0) = d; rw [a3, if_pos rfl]
  · show X' 22 (4 * X 21 0 + 1) = v; rw [a3, if_neg (by omega), if_pos rfl]
  · show X' 22 (4 * X 21 0 + 2) = t; rw [a3, if_neg (by omega), if_neg (by omega), if_pos rfl]
  · show X' 22 (4 * X 21 0 + 3) = q; rw [a3, if_neg (by omega), if_neg (by omega), if_neg (by omega), if_pos rfl]
/-- the directories behind one more name -/
theorem add_D {F F' : Fl} {d nm t k : Int} (hd : thDf F d) (hm : nmR nm) (h0 : TG F d nm = 0) (ht : t ≠ 0) (tn : tN F F' d nm t k) (hk : k = 0 ∨ (k = 1 ∧ t ≠ d ∧ ∀ x, nmR x → TG F t x = 0) ∨ (k = 1 ∧ thDf F t)) : thDf F' d ∧ (∀ x, thDf F x → thDf F' x) ∧ ∀ x, thDf F' x → thDf F x ∨ ∀ y, nmR y → TG F' x y = 0 := by
  obtain ⟨t1, t2, -, -⟩ := tn
  have ho : ¬ dE (TG F) (TD F) d nm := fun z => z.1 h0
  unfold thDf
  rw [t1, t2]
  rcases hk with k0 | ⟨k1, htd, hem⟩ | ⟨k1, htt⟩
  · have e := G1 (T := TG F) (D := TD F) (d0 := d) (n0 := nm) (t := t) (f := k) ho (Or.inr (by omega))
    exact ⟨(e d).mpr hd, fun x hx => (e x).mpr hx, fun x hx => Or.inl ((e x).mp hx)⟩
  · rw [k1]
    have e := G3 (T := TG F) (D := TD F) ho hd hm ht hem htd
    refine ⟨(e d).mpr (Or.inl hd), fun x hx => (e x).mpr (Or.inl hx), fun x hx => ?_⟩
    rcases (e x).mp hx with q | q
    · exact Or.inl q
    · refine Or.inr (fun y hy => ?_)
      rw [q, gup_n _ _ (fun z => htd z.1)]; exact hem y hy
  · have e := G2 (T := TG F) (D := TD F) (d0 := d) (n0 := nm) (t := t) (f := k) ho htt
    exact ⟨(e d).mpr hd, fun x hx => (e x).mpr hx, fun x hx => Or.inl ((e x).mp hx)⟩
theorem JE_ad {F F' : Fl} {X X' : nMem} {d nm t k : Int} (h : JA F X) (hn : 0 ≤ X 21 0) (hd : thDf F d) (hm : nmR nm) (h0 : TG F d nm = 0) (ht : t ≠ 0) (tn : tN F F' d nm t k) (hk : k = 0 ∨ (k = 1 ∧ t ≠ d ∧ ∀ x, nmR x → TG F t x = 0) ∨ (k = 1 ∧ thDf F t)) (ad : adX X X' d nm t k) : JE (TG F') (TD F') (X' 21 0) (X' 22) := by
  obtain ⟨c1, c2, c3⟩ := add_D hd hm h0 ht tn hk
  obtain ⟨r1, r2, r3, r4, r5⟩ := ad_rows ad hn
  rw [ad.1]
  exact JE_add h.1 hn c1 hm h0 ht tn.1 tn.2.1 c2 c3 r1 r2 r3 r4 r5
theorem file_ad {F F' : Fl} {X X' : nMem} {d nm t k : Int} (h : JA F X) (hn : 0 ≤ X 21 0) (hJ : JE (TG F') (TD F') (X' 21 0) (X' 22)) (ad : adX X X' d nm t k) (f : Int) : thFf F' f ↔ thFf F f ∨ (f = t ∧ k = 0) := by
  obtain ⟨r1, r2, r3, r4, r5⟩ := ad_rows ad hn
  have a := JE_file hJ f
  have b := JE_file h.1 f
  unfold thFf
  rw [a, b, ad.1]
  have old : ∀ i, 0 ≤ i → i < X 21 0 → eT (X' 22) i = eT (X 22) i ∧ eK (X' 22) i = eK (X 22) i := fun i i0 i1 => ⟨r1 _ (by omega) (by omega), r1 _ (by omega) (by omega)⟩
  constructor
  · rintro ⟨i, i1, i2, i3⟩
    by_cases c : i = X 21 0
    · rw [c] at i2 i3
      exact Or.inr ⟨i2.symm.trans r4, r5.symm.trans i3⟩
    · obtain ⟨x, y⟩ := old i i1.1 (by omega)
      exact Or.inl ⟨i, ⟨i1.1, by omega⟩, by rw [← x]; exact i2, by rw [← y]; exact i3⟩
  · rintro (⟨i, i1, i2, i3⟩ | ⟨q1, q2⟩)
    · obtain ⟨x, y⟩ := old i i1.1 i1.2
      exact ⟨i, ⟨i1.1, by omega⟩, by rw [x]; exact i2, by rw [y]; exact i3⟩
    · exact ⟨X 21 0, ⟨hn, by omega⟩, by rw [r4, q1], by rw [r5, q2]⟩
/-- one more name, of a directory or of a file that is there -/
theorem JA_add {F F' : Fl} {X X' : nMem} {d nm t k : Int} (h : JA F X) (hn : 0 ≤ X 21 0) (hd : thDf F d) (hm : nmR nm) (h0 : TG F d nm = 0) (ht : t ≠ 0) (tn : tN F F' d nm t k) (hk : (k = 0 ∧ thFf F t) ∨ (k = 1 ∧ t ≠ d ∧ ∀ x, nmR x → TG F t x = 0) ∨ (k = 1 ∧ thDf F t)) (ad : adX X X' d nm t k) : JA F' X' := by
  have hJ := JE_ad h hn hd hm h0 ht tn (hk.imp (fun q => q.1) id) ad
  refine ⟨hJ, ?_⟩
  have e1 : X' 23 = X 23 := funext (fun j => (ad.2.2.2 j).1)
  have e2 : X' 24 = X 24 := funext (fun j => (ad.2.2.2 j).2.1)
  have e3 : X' 25 = X 25 := funext (fun j => (ad.2.2.2 j).2.2)
  rw [ad.2.1, e1, e2, e3, tn.2.2.1, tn.2.2.2]
  refine JZ_cg h.2 (fun f => (file_ad h hn hJ ad f).trans ⟨fun q => ?_, Or.inl⟩) (fun f _ => ⟨rfl, fun _ _ _ => rfl⟩)
  rcases q with q | ⟨q1, q2⟩
  · exact q
  · rcases hk with z | z | z
    · rw [q1]; exact z.2
    · omega
    · omega
/-- a new file -/
theorem JA_new {F F' : Fl} {X X1 X' : nMem} {d nm t : Int} (h : JA F X) (hn : 0 ≤ X 21 0) (hm1 : 0 ≤ X 21 1) (hd : thDf F d) (hm : nmR nm) (h0 : TG F d nm = 0) (ht : t ≠ 0) (hx : ¬ thFf F t) (tn : tN F F' d nm t 0) (hL : LN F t = 0) (hB : ∀ p, BY F t p = 0) (ad : adX X X1 d nm t 0) (op : opX X1 X' t) : JA F' X' := by
  have hJ := JE_ad h hn hd hm h0 ht tn (Or.inl rfl) ad
  obtain ⟨o1, o2, o3, o4, o5, o6⟩ := op
  have e2 : X' 22 = X1 22 := funext o3
  refine ⟨by rw [o1, e2]; exact hJ, ?_⟩
  have hm2 : X1 21 1 = X 21 1 := ad.2.1
  rw [o2, hm2]
  rw [hm2] at o4 o5 o6
  refine JZ_add h.2 hm1 (x := t) (fun f => (file_ad h hn hJ ad f).trans ⟨fun q => q.imp id (fun z => z.1), fun q => q.imp id (fun z => ⟨z, rfl⟩)⟩) hx (fun f _ => ⟨by rw [tn.2.2.1], fun p _ _ => by rw [tn.2.2.2]⟩) (by rw [tn.2.2.1]; exact hL) (fun p _ _ => by rw [tn.2.2.2]; exact hB p) (fun i i0 i1 => ⟨?_, ?_⟩) (by rw [o4, if_pos rfl]) (by rw [o5, if_pos rfl]) (fun k k0 k1 => ?_) (fun k k0 k1 => ?_)
  · rw [o4, if_neg (by omega)]; exact (ad.2.2.2 i).1
  · rw [o5, if_neg (by omega)]; exact (ad.2.2.2 i).2.1
  · rw [o6, if_neg (by omega)]; exact (ad.2.2.2 k).2.2
  · rw [o6, if_pos ⟨k0, k1⟩]
/-- one name less -/
theorem del_D {F F' : Fl} {d nm : Int} (hr : RK (TG F) (TD F)) (h1 : TG F d nm ≠ 1) (tn : tN F F' d nm 0 0) (he : TD F d nm = 1 → (∀ x, nmR x → TG F (TG F d nm) x = 0) ∨ ∃ x y, thDf F x ∧ nmR y ∧ ¬ (x = d ∧ y = nm) ∧ TG F x y = TG F d nm ∧ TD F x y = 1) (h0 : TG F d nm ≠ 0) : (∀ x, thDf F' x → thDf F x) ∧ ∀ x, thDf F x → thDf F' x ∨ ∀ y, nmR y → TG F x y = 0 := by
  obtain ⟨t1, t2, -, -⟩ := tn
  unfold thDf
  rw [t1, t2]
  refine ⟨fun x hx => G4_sub hx, fun x hx => ?_⟩
  by_cases ho : dE (TG F) (TD F) d nm
  · by_cases hz : ∃ d' nm', thD (TG F) (TD F) d' ∧ nmR nm' ∧ ¬ (d' = d ∧ nm' = nm) ∧ TG F d' nm' = TG F d nm ∧ dE (TG F) (TD F) d' nm'
    · exact Or.inl ((G4a hr hz x).mpr hx)
    · have hem : ∀ x, nmR x → TG F (TG F d nm) x = 0 := by
        rcases he ho.2 with q | ⟨x, y, q1, q2, q3, q4, q5⟩
        · exact q
        · exact absurd ⟨x, y, q1, q2, q3, q4, by rw [q4]; exact h0, q5⟩ hz
      by_cases c : x = TG F d nm
      · rw [c]; exact Or.inr hem
      · exact Or.inl ((G4b ho hz h1 hem x).mpr ⟨hx, c⟩)
  · exact Or.inl ((G1 ho (Or.inl rfl) x).mpr hx)
noncomputable abbrev txS (X : nMem) (a : Int) : Int := lsP (pZ (X 23) (X 22 (4 * a + 2))) (X 21 1).toNat
abbrev txD (X X' : nMem) (a : Int) : Prop := 0 ≤ txS X a ∧ cR (pT (X' 22) (X 22 (4 * a + 2))) (X 21 0 - 1).toNat = 0
def tkX (X X' : nMem) (a : Int) : Prop := X' 21 0 = X 21 0 - 1 ∧ (∀ j, X' 22 j = if 4 * a ≤ j ∧ j < 4 * (X 21 0 - 1) then X 22 (j + 4) else X 22 j) ∧
  (txD X X' a → X' 21 1 = X 21 1 - 1 ∧ (∀ j, X' 23 j = (if txS X a ≤ j ∧ j < X 21 1 - 1 then X 23 (j + 1) else X 23 j) ∧ X' 24 j = (if txS X a ≤ j ∧ j < X 21 1 - 1 then X 24 (j + 1) else X 24 j)) ∧ ∀ j, X' 25 j = if 8 * txS X a ≤ j ∧ j < 8 * (X 21 1 - 1) then X 25 (j + 8) else X 25 j) ∧
  (¬ txD X X' a → X' 21 1 = X 21 1 ∧ ∀ j, X' 23 j = X 23 j ∧ X' 24 j = X 24 j ∧ X' 25 j = X 25 j)
theorem LX_tk {X X' : nMem} {a : Int} (h : tkX X X' a) (hX : LX X) (ha : 0 ≤ a ∧ a < X 21 0) : LX X' := by
  obtain ⟨a1, a2, a3, a4⟩ := h
  obtain ⟨b1, b2, b3, b4, b5⟩ := hX
  have h22 : ∀ j, inR (X' 22 j) := fun j => by rw [a2]; split <;> exact b3 _
  by_cases c : txD X X' a
  · obtain ⟨c1, c2, c3⟩ := a3 c
    have hs : 0 ≤ txS X a ∧ txS X a < X 21 1 := by
      have h1 := c.1
      have := lsP_b (pZ (X 23) (X 22 (4 * a + 2))) (X 21 1).toNat
      show 0 ≤ lsP (pZ (X 23) (X 22 (4 * a + 2))) (X 21 1).toNat ∧ lsP (pZ (X 23) (X 22 (4 * a + 2))) (X 21 1).toNat < X 21 1
      have h1 : 0 ≤ lsP (pZ (X 23) (X 22 (4 * a + 2))) (X 21 1).toNat := h1
      omega
    refine ⟨by omega, by omega, h22, fun j => ?_, fun j => ?_⟩
    · rw [(c2 j).1]; split <;> exact b4 _
    · rw [(c2 j).2]; split <;> exact b5 _
  · obtain ⟨c1, c2⟩ := a4 c
    exact ⟨by omega, by omega, h22, fun j => by rw [(c2 j).1]; exact b4 j, fun j => by rw [(c2 j).2.1]; exact b5 j⟩
theorem JA_del {F F' : Fl} {X X' : nMem} {d nm a : Int} (h : JA F X) (hX : LX X) (ha : 0 ≤ a ∧ a < X 21 0) (ka : eD (X 22) a = d) (kb : eN (X 22) a = nm) (hr : RK (TG F) (TD F)) (hc : ∃ fl : Int → Int, ∀ x y, TG F x y ≠ 0 → TD F x y = fl (TG F x y)) (h1 : TG F d nm ≠ 1) (tn : tN F F' d nm 0 0) (he : TD F d nm = 1 → (∀ x, nmR x → TG F (TG F d nm) x = 0) ∨ ∃ x y, thDf F x ∧ nmR y ∧ ¬ (x = d ∧ y = nm) ∧ TG F x y = TG F d nm ∧ TD F x y = 1) (tk : tkX X X' a) : JA F' X' := by
  obtain ⟨fl, hc⟩ := hc
  obtain ⟨k1, k2, k3, k4⟩ := tk
  obtain ⟨p1, p2, p3, p4, p5⟩ := h.1.1 a ha.1 ha.2
  rw [ka, kb] at p3 p5
  have h0 : TG F d nm ≠ 0 := by rw [p3]; exact p4
  obtain ⟨c1, c2⟩ := del_D hr h1 tn he h0
  have hJ : JE (TG F') (TD F') (X 21 0 - 1) (X' 22) := JE_del h.1 ha ka kb tn.1 tn.2.1 c1 c2 (fun j j0 j1 => by
    rw [k2]
    by_cases q : j < 4 * a
    · rw [if_neg (by omega), if_pos q]
    · rw [if_pos (by omega), if_neg q])
  refine ⟨by rw [k1]; exact hJ, ?_⟩
  have hK : ∀ i, 0 ≤ i → i < X 21 0 → eK (X 22) i = fl (eT (X 22) i) := fun i i0 i1 => by
    obtain ⟨-, -, q3, q4, q5⟩ := h.1.1 i i0 i1
    rw [← q5, hc _ _ (by rw [q3]; exact q4), q3]
  -- rows there and here
  have hs : ∀ i, 0 ≤ i → i < X 21 0 - 1 → eT (X' 22) i = eT (X 22) (if i < a then i else i + 1) ∧ eK (X' 22) i = eK (X 22) (if i < a then i else i + 1) := fun i i0 i1 => by
    unfold eT eK
    rw [k2, k2]
    by_cases q : i < a
    · rw [if_pos q, if_neg (by omega), if_neg (by omega)]; exact ⟨rfl, rfl⟩
    · rw [if_neg q, if_pos (by omega), if_pos (by omega)]
      exact ⟨by congr 1; omega, by congr 1; omega⟩
  have to : ∀ f, (∃ i, (0 ≤ i ∧ i < X 21 0 - 1) ∧ eT (X' 22) i = f ∧ eK (X' 22) i = 0) → thFf F f := fun f ⟨i, i1, i2, i3⟩ => by
    obtain ⟨x, y⟩ := hs i i1.1 i1.2
    refine (JE_file h.1 f).mpr ⟨if i < a then i else i + 1, by split <;> omega, x.symm.trans i2, y.symm.trans i3⟩
  have fro : ∀ i, 0 ≤ i → i < X 21 0 → i ≠ a → eK (X 22) i = 0 → ∃ j, (0 ≤ j ∧ j < X 21 0 - 1) ∧ eT (X' 22) j = eT (X 22) i ∧ eK (X' 22) j = 0 := fun i i0 i1 hi hk => by
    by_cases q : i < a
    · obtain ⟨x, y⟩ := hs i i0 (by omega)
      rw [if_pos q] at x y
      exact ⟨i, ⟨i0, by omega⟩, x, y.trans hk⟩
    · obtain ⟨x, y⟩ := hs (i - 1) (by omega) (by omega)
      rw [if_neg (by omega), show i - 1 + 1 = i by omega] at x y
      exact ⟨i - 1, ⟨by omega, by omega⟩, x, y.trans hk⟩
  have hF' : ∀ f, thFf F' f ↔ ∃ i, (0 ≤ i ∧ i < X 21 0 - 1) ∧ eT (X' 22) i = f ∧ eK (X' 22) i = 0 := fun f => JE_file hJ f
  have hsl := lsP_b (pZ (X 23) (X 22 (4 * a + 2))) (X 21 1).toNat
  have hm0 := hX.2.1
  by_cases c : txD X X' a
  · obtain ⟨d1, d2, d3⟩ := k3 c
    have c0 : 0 ≤ lsP (pZ (X 23) (X 22 (4 * a + 2))) (X 21 1).toNat := c.1
    obtain ⟨s1, s2⟩ := hsl.resolve_left (fun z => by omega)
    have hcnt := c.2
    have none : ∀ i, 0 ≤ i → i < X 21 0 - 1 → eT (X' 22) i ≠ eT (X 22) a := fun i i0 i1 z => by
      have := cR_pos (p := pT (X' 22) (X 22 (4 * a + 2))) (k := (X 21 0 - 1).toNat) i0 (by omega) z
      omega
    have ss : txS X a = lsP (pZ (X 23) (X 22 (4 * a + 2))) (X 21 1).toNat := rfl
    rw [ss] at d2 d3
    generalize lsP (pZ (X 23) (X 22 (4 * a + 2))) (X 21 1).toNat = s at s1 s2 d2 d3 c0
    have s2 : X 23 s = X 22 (4 * a + 2) := s2
    rw [d1, tn.2.2.1, tn.2.2.2]
    refine JZ_del h.2 (a0 := s) (by omega) (fun f => (hF' f).trans ⟨fun q => ⟨to f q, fun z => ?_⟩, fun q => ?_⟩) (fun i i0 i1 => ?_) (fun k k0 k1' => ?_)
    · obtain ⟨i, i1, i2, -⟩ := q
      exact none i i1.1 i1.2 (by rw [i2, z]; exact s2)
    · obtain ⟨i, i1, i2, i3⟩ := (JE_file h.1 f).mp q.1
      obtain ⟨j, j1, j2, j3⟩ := fro i i1.1 i1.2 (fun z => q.2 (by rw [← i2, z]; exact s2.symm)) i3
      exact ⟨j, j1, j2.trans i2, j3⟩
    · rw [(d2 i).1, (d2 i).2]
      by_cases q : i < s
      · rw [if_pos q, if_neg (by omega), if_neg (by omega)]; exact ⟨rfl, rfl⟩
      · rw [if_neg q, if_pos (by omega), if_pos (by omega)]; exact ⟨rfl, rfl⟩
    · rw [d3]
      by_cases q : k < 8 * s
      · rw [if_pos q, if_neg (by omega)]
      · rw [if_neg q, if_pos (by omega)]
  · obtain ⟨d1, d2⟩ := k4 c
    have e1 : X' 23 = X 23 := funext (fun j => (d2 j).1)
    have e2 : X' 24 = X 24 := funext (fun j => (d2 j).2.1)
    have e3 : X' 25 = X 25 := funext (fun j => (d2 j).2.2)
    rw [d1, e1, e2, e3, tn.2.2.1, tn.2.2.2]
    refine JZ_cg h.2 (fun f => (hF' f).trans ⟨to f, fun q => ?_⟩) (fun f _ => ⟨rfl, fun _ _ _ => rfl⟩)
    obtain ⟨i, i1, i2, i3⟩ := (JE_file h.1 f).mp q
    by_cases z : i = a
    · rw [z] at i2 i3
      -- another row names it
      have hslot : 0 ≤ lsP (pZ (X 23) (X 22 (4 * a + 2))) (X 21 1).toNat := by
        rcases hsl with ⟨-, w⟩ | w
        · obtain ⟨l, l1, l2⟩ := h.2.2.1 f q
          exact absurd (show X 23 l = X 22 (4 * a + 2) by rw [l2]; exact i2.symm) (w l l1.1 (by omega))
        · exact w.1.1
      have hcnt : cR (pT (X' 22) (X 22 (4 * a + 2))) (X 21 0 - 1).toNat ≠ 0 := fun w => c ⟨hslot, w⟩
      have : ∃ j, (0 ≤ j ∧ j < X 21 0 - 1) ∧ eT (X' 22) j = eT (X 22) a := Classical.byContradiction (fun w => hcnt (cR_0 (fun r r0 r1 v => w ⟨r, ⟨r0, by omega⟩, v⟩)))
      obtain ⟨j, j1, j2⟩ := this
      refine ⟨j, j1, j2.trans i2, ?_⟩
      obtain ⟨x, y⟩ := hs j j1.1 j1.2
      rw [y, hK _ (by split <;> omega) (by split <;> omega), ← x, j2, ← hK a ha.1 ha.2]; exact i3
    · obtain ⟨j, j1, j2, j3⟩ := fro i i1.1 i1.2 z i3
      exact ⟨j, j1, j2.trans i2, j3⟩
/-- a content anew -/
theorem JA_dat {F F' : Fl} {X X' : nMem} {f z i0 : Int} {s : Int → Int} (h : JA F X) (ha : 0 ≤ i0 ∧ i0 < X 21 1) (hf : X 23 i0 = f) (tc : tC F F' f z s) (e21 : ∀ j, X' 21 j = X 21 j) (e22 : ∀ j, X' 22 j = X 22 j) (e23 : ∀ j, X' 23 j = X 23 j) (e24 : ∀ j, X' 24 j = if j = i0 then z else X 24 j)
    (e25 : ∀ i p, 0 ≤ i → i < X 21 1 → 0 ≤ p → p < 64 → cB (X' 25) i p = if i = i0 then (if sSet s p then sByt s p else BY F f p) else cB (X 25) i p) : JA F' X' := by
  obtain ⟨t1, t2, t3, t4⟩ := tc
  have a1 : X' 22 = X 22 := funext e22
  have a2 : X' 23 = X 23 := funext e23
  unfold JA
  rw [e21, e21, a1, a2, t1, t2]
  refine ⟨h.1, ?_⟩
  have hth : thFf F' = thFf F := by unfold thFf; rw [t1, t2]
  rw [hth, t3, t4]
  refine JZ_upd h.2 ha (fun x hx => ?_) (fun i i1 i2 => ?_) (fun i p i1 i2 p0 p1 => ?_)
  · rw [hf] at hx
    exact ⟨if_neg hx, fun p _ _ => if_neg (fun q => hx q.1)⟩
  · rw [e24]
    by_cases c : i = i0
    · rw [if_pos c, if_pos c, hf, if_pos rfl]
    · rw [if_neg c, if_neg c]
  · rw [e25 i p i1 i2 p0 p1]
    by_cases c : i = i0
    · rw [if_pos c, if_pos c, hf]
      by_cases q : sSet s p
      · rw [if_pos q, if_pos ⟨rfl, q⟩]
      · rw [if_neg q, if_neg (fun w => q w.2)]
    · rw [if_neg c, if_neg c]
