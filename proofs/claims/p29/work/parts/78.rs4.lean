abbrev vD (F : Fl) : Int → Int := fun x => mxV F 1 x 128
abbrev vN (F : Fl) : Int → Int := fun x => mxV F 2 x 128
theorem NV_mx {F : Fl} : NV F (nxF F) (vD F) (vN F) := by
  intro i i0 i1 w
  have a := (rsX_le (F := F) (x := 2) 128).2 i i0 i1 w
  have b := (mxV_le (F := F) (kd := 1) (x := fN F i 3) 128).2 i i0 i1
  have c := (mxV_le (F := F) (kd := 2) (x := fN F i 3) 128).2 i i0 i1
  unfold nxF vD vN
  generalize rsX F 2 128 = y at a ⊢
  generalize mxV F 1 (fN F i 3) 128 = y1 at b ⊢
  generalize mxV F 2 (fN F i 3) 128 = y2 at c ⊢
  exact ⟨a.1, a.2, fun e => b ((rT_W (Or.inl rfl)).mpr ⟨w, e, rfl⟩), fun e => c ((rT_W (Or.inr rfl)).mpr ⟨w, e, rfl⟩)⟩
theorem nxF_le {F : Fl} {nb : Int} {Vd Vn : Int → Int} (hA : PA F) (h2 : 2 ≤ nb) (hV : NV F nb Vd Vn) : nxF F ≤ nb := rsX_ub h2 128 (fun r r0 r1 h => by
  by_cases c : fN F r 0 = 3
  · obtain ⟨-, -, d, e, -, -⟩ := hA (r / 16) (by omega) (by omega)
    have er : r / 16 * 16 + r % 16 = r := by omega
    by_cases q : r % 16 < fC F (r / 16)
    · have := (d (r % 16) (by omega) q).1
      rw [er] at this
      rcases this with z | z
      · have := (sOK_k z).1; omega
      · have a := z.2.2 3 (by omega) (by omega)
        have b := z.2.2 10 (by omega) (by omega)
        omega
    · have := e (r % 16) (by omega) (by omega) 0 (by omega) (by omega)
      rw [er] at this; omega
  · have hw : rW F r := by
      obtain ⟨-, -, d, e, -, -⟩ := hA (r / 16) (by omega) (by omega)
      have er : r / 16 * 16 + r % 16 = r := by omega
      by_cases q : r % 16 < fC F (r / 16)
      · have := (d (r % 16) (by omega) q).1
        rw [er] at this
        rcases this with z | z
        · exact ⟨(sOK_k z).1, h.2⟩
        · exact absurd z.1 c
      · have := e (r % 16) (by omega) (by omega) 0 (by omega) (by omega)
        rw [er] at this; exact absurd this h.1
    have := hV r r0 r1 hw
    exact ⟨this.1, this.2.1⟩)
theorem vz {F : Fl} {n : Int} (h : nxF F ≤ n) : vD F n = 0 ∧ vN F n = 0 := by
  have no : ∀ kd, (kd = 1 ∨ kd = 2) → ∀ r : Int, 0 ≤ r → r < 128 → ¬ rT F r kd n := fun kd hk r r0 r1 q => by
    have w := (rT_W hk).mp q
    have := (rsX_le (F := F) (x := 2) 128).2 r r0 r1 w.1
    unfold nxF at h
    omega
  have a := mxV_ub (F := F) (kd := 1) (x := n) (v := 0) (by omega) 128 (fun r r0 r1 q => absurd q (no 1 (Or.inl rfl) r r0 r1))
  have b := mxV_ub (F := F) (kd := 2) (x := n) (v := 0) (by omega) 128 (fun r r0 r1 q => absurd q (no 2 (Or.inr rfl) r r0 r1))
  have c := (mxV_le (F := F) (kd := 1) (x := n) 128).1
  have d := (mxV_le (F := F) (kd := 2) (x := n) 128).1
  exact ⟨Int.le_antisymm a c, Int.le_antisymm b d⟩
/-- all directories read -/
theorem RIN_end {F : Fl} {fl : Int → Int} {nb : Int} {S : Tr} (hS : NS F) (hW : WD (TG F) fl nb) (hn : nxF F ≤ 2000) (h : RIN F fl (PQ F fl (tNl S) 0 0) (wv F fl (tNl S) 0 0) S) : TSW (TG F) fl (fun _ => 0) (fun _ _ => 0) (fun _ => 0) (vN F) (tNx S) S := by
  have htB := RIN_tB hS hW hn (fun x => wv_b hS fl _ 0 0 (by omega) x) h
  obtain ⟨⟨h0, h0b⟩, h1, h2, h3, h4, h5, ⟨h6, h6b⟩, h7, h8, h9, h10, h11⟩ := h
  have pq : ∀ r, PQ F fl (tNl S) 0 0 r ↔ asgR F r ∧ (0 ≤ r ∧ r < 128) ∧ fl (fN F r 3) = 1 ∧ fN F r 3 ∈ tNl S := fun r => ⟨PQ_0 F fl _ r, fun z => ⟨z.1, z.2.1, z.2.2.1, Or.inl z.2.2.2⟩⟩
  have hD1 : ∀ n, tD (TG F) fl n → n ∈ tNl S := fun n hn => (hn (fun n => n ∈ tNl S ∧ tD (TG F) fl n) ⟨h0, thD_1 _ _⟩ (fun d nm hd hm e0 e1 => by
    obtain ⟨a1, a2, a3, a4, a5⟩ := TG_asgR e0
    have := (h1 _ ((pq _).mpr ⟨a2, a1, by rw [a3]; exact (tD_fl hW hd.2).1, by rw [a3]; exact hd.1⟩)).2.2.2.2
    rw [a5] at this
    exact ⟨this, thD_s hd.2 hm e0 e1⟩)).1
  have hD2 : ∀ n, n ∈ tNl S → fl n = 1 → tD (TG F) fl n := fun n hn hf => tD_of hf (h2 n hn)
  have hsp : ∀ r, 0 ≤ r → r < 128 → asgR F r → nmR (fN F r 5) := fun r r0 r1 ha => by
    have w := (rT_W (Or.inr rfl)).mp ha.1
    rcases hS r r0 r1 w.1 with q | q
    · omega
    · exact q.2.2.2.2.1
  refine ⟨fun n => ⟨h2 n, fun z => ?_⟩, h3, fun d hd hf => ⟨fun nm hm => ?_, ?_, h9 d hd, ?_⟩, fun f hf hff => ⟨h9 f hf, fun p p0 p1 => ?_, ?_, ?_⟩, fun n hn => ?_, rfl, fun n hn j j0 j1 => (htB.2 n hn).2.2.2 j j0 j1⟩
  · rcases z with z | ⟨z0, x, y, z1, z2, z3⟩
    · rw [z]; exact h0
    · obtain ⟨a1, a2, a3, a4, a5⟩ := TG_asgR (F := F) (d := x) (nm := y) (by rw [z3]; exact z0)
      have := (h1 _ ((pq _).mpr ⟨a2, a1, by rw [a3]; exact (tD_fl hW z1).1, by rw [a3]; exact hD1 x z1⟩)).2.2.2.2
      rw [a5, z3] at this; exact this
  · by_cases c : TG F d nm = 0
    · rw [c]
      refine h5 d hd nm (fun r hr e3 e5 => ?_)
      have hr' := (pq r).mp hr
      have := asgR_TG hr'.2.1.1 hr'.1
      rw [e3, e5, c] at this
      exact hr'.1.2.1 this.symm
    · obtain ⟨a1, a2, a3, a4, a5⟩ := TG_asgR c
      have := h4 _ ((pq _).mpr ⟨a2, a1, by rw [a3]; exact hf, by rw [a3]; exact hd⟩)
      rw [a3, a4, a5] at this; exact this
  · rw [h7 d hd, nmRow d 99]
    refine cR_cg 128 (fun r r0 r1 => ?_)
    rw [pq]
    constructor
    · rintro ⟨⟨a, b, c, e⟩, g⟩
      have := hsp r r0 r1 a
      exact ⟨a, g, this.1, this.2⟩
    · rintro ⟨a, b, -, -⟩
      exact ⟨⟨a, ⟨r0, r1⟩, by rw [b]; exact hf, by rw [b]; exact hd⟩, b⟩
  · rw [h6 d hd]
    unfold wv
    rw [if_pos ⟨hd, hf⟩]
  · exact h5 f hf p (fun r hr e3 _ => by have := ((pq r).mp hr).2.2.1; rw [e3, hff] at this; cases this)
  · rw [h7 f hf, cR_0 (fun r _ _ z => by have := ((pq r).mp z.1).2.2.1; rw [z.2, hff] at this; cases this)]
  · rw [h6 f hf]
    unfold wv
    rw [if_neg (fun z => by rw [hff] at z; exact absurd z.2 (by decide))]
    split <;> rfl
  · have n0 : n ≠ 0 := by rcases h2 n hn with e | e; omega; exact e.1
    rw [h8 n hn]
    unfold lkN
    rw [lkRow (F := F) (dF (TG F) fl) n0 2048]
    refine cR_cg 128 (fun r r0 r1 => ?_)
    rw [pq]
    constructor
    · rintro ⟨⟨a, b, c, e⟩, g⟩
      have t := hD2 _ e c
      have tb := tD_b hW t
      have nb2 := hW.2.2.2.2
      have s := hsp r r0 r1 a
      exact ⟨a, t, g, s, by omega, by omega⟩
    · rintro ⟨a, t, g, -, -, -⟩
      exact ⟨⟨a, ⟨r0, r1⟩, (tD_fl hW t).1, hD1 _ t⟩, g⟩
/-! contents -/
theorem qNxt_sp (F : Fl) (f v : Int) : ∀ n : Nat, (qNxt F f v n = -1 ∧ ∀ j : Int, 0 ≤ j → j < n → ¬ (rT F j 1 f ∧ v < fN F j 4)) ∨ ((0 ≤ qNxt F f v n ∧ qNxt F f v n < n) ∧ (rT F (qNxt F f v n) 1 f ∧ v < fN F (qNxt F f v n) 4) ∧ ∀ j : Int, 0 ≤ j → j < n → rT F j 1 f → v < fN F j 4 → fN F (qNxt F f v n) 4 ≤ fN F j 4)
  | 0 => Or.inl ⟨rfl, fun j j0 j1 => by omega⟩
  | n + 1 => by
    have ih := qNxt_sp F f v n
    rw [qNxt_s]
    by_cases c : rT F n 1 f ∧ v < fN F n 4 ∧ (qNxt F f v n = -1 ∨ fN F n 4 < fN F (qNxt F f v n) 4)
    · rw [if_pos c]
      refine Or.inr ⟨by omega, ⟨c.1, c.2.1⟩, fun j j0 j1 h1 h2 => ?_⟩
      by_cases e : j = n
      · subst e; exact Int.le_refl _
      · rcases ih with ⟨a, b⟩ | ⟨a, b, d⟩
        · exact absurd ⟨h1, h2⟩ (b j j0 (by omega))
        · have := d j j0 (by omega) h1 h2
          have := c.2.2
          omega
    · rw [if_neg c]
      rcases ih with ⟨a, b⟩ | ⟨a, b, d⟩
      · refine Or.inl ⟨a, fun j j0 j1 q => ?_⟩
        by_cases e : j = n
        · subst e; exact c ⟨q.1, q.2, Or.inl a⟩
        · exact b j j0 (by omega) q
      · refine Or.inr ⟨by omega, b, fun j j0 j1 h1 h2 => ?_⟩
        by_cases e : j = n
        · rw [e] at h1 h2 ⊢
          have : ¬ fN F n 4 < fN F (qNxt F f v n) 4 := fun z => c ⟨h1, h2, Or.inr z⟩
          omega
        · exact d j j0 (by omega) h1 h2
theorem qNew_cb {F : Fl} {kd nb key b1 b2 : Int} (h : ∀ j, 0 ≤ j → j < 128 → (qC F kd nb key b1 j ↔ qC F kd nb key b2 j)) : qNew F kd nb key b1 128 = qNew F kd nb key b2 128 := by
  rcases qNew_sp F kd nb key b2 128 with ⟨h1, h2⟩ | ⟨h1, h2, h3⟩
  · rw [h1]; exact qNew_none (fun j j0 j1 q => h2 j j0 j1 ((h j j0 j1).mp q))
  · exact qNew_is h1.1 h1.2 ((h _ h1.1 h1.2).mpr h2) (fun j j0 j1 q => h3 j j0 j1 ((h j j0 j1).mp q))
/-- a file with some of its nodes laid -/
def RCI (F : Fl) (q : Int) (S : Tr) (n : Nat) (s : Int × Tr) : Prop :=
  (0 ≤ s.1 ∧ (s.1 = 0 ∨ ∃ r : Int, (0 ≤ r ∧ r < 128) ∧ rT F r 1 q ∧ fN F r 4 = s.1)) ∧ tNl s.2 = tNl S ∧ tNx s.2 = tNx S ∧ (∀ x k, ¬ (x = q ∧ (k = 6 ∨ k = 3)) → tFd s.2 x k = tFd S x k) ∧
  (∀ x p, x ≠ q ∨ 64 ≤ p → tCl s.2 x p = tCl S x p) ∧ tFd s.2 q 3 = (if s.1 = 0 then tFd S q 3 else s.1) ∧
  tFd s.2 q 6 = (if qNew F 1 q 64 (s.1 + 1) 128 = -1 then tFd S q 6 else fN F (qNew F 1 q 64 (s.1 + 1) 128) 9) ∧
  (∀ p, p < 64 → tCl s.2 q p = if qNew F 1 q p (s.1 + 1) 128 = -1 then tCl S q p else fByteFor F (qNew F 1 q p (s.1 + 1) 128) p) ∧
  (qNxt F q s.1 128 = -1 ∨ cR (fun r => rT F r 1 q ∧ s.1 < fN F r 4) 128 ≤ 128 - n)
theorem cR_mono {p q : Int → Prop} : ∀ k : Nat, (∀ r : Int, 0 ≤ r → r < k → p r → q r) → cR p k ≤ cR q k
  | 0, _ => Int.le_refl _
  | k + 1, h => by
    have ih := cR_mono (p := p) (q := q) k (fun r r0 r1 => h r r0 (by omega))
    rw [cR_s, cR_s]
    by_cases c : p k
    · rw [pI_1 c, pI_1 (h k (by omega) (by omega) c)]; omega
    · rw [pI_0 c]
      by_cases d : q k
      · rw [pI_1 d]; omega
      · rw [pI_0 d]; omega
theorem rc_RCI {F : Fl} (hS : NS F) (hU : NU F) (q : Int) (S : Tr) : ∀ n : Nat, n ≤ 128 → RCI F q S n (rc F q S n)
  | 0, _ => by
    have no : ∀ key, qNew F 1 q key (0 + 1) 128 = -1 := fun key => qNew_none (fun j j0 j1 z => by
      have := sOK_k (hS j j0 j1 ((rT_W (Or.inl rfl)).mp z.1).1)
      have := z.2.1
      omega)
    refine ⟨⟨Int.le_refl _, Or.inl rfl⟩, rfl, rfl, fun _ _ _ => rfl, fun _ _ _ => rfl, rfl, ?_, fun p _ => ?_, Or.inr ?_⟩
    · exact (if_pos (no 64)).symm
    · exact (if_pos (no p)).symm
    · have := cR_b (fun r => rT F r 1 q ∧ (0 : Int) < fN F r 4) 128
      show cR (fun r => rT F r 1 q ∧ (0 : Int) < fN F r 4) 128 ≤ 128 - ((0 : Nat) : Int)
      omega
  | n + 1, hn => by
    have ih := rc_RCI hS hU q S n (by omega)
    rw [rc_s]
    generalize rc F q S n = s at ih
    obtain ⟨⟨a1, a2⟩, a3, a4, a5, a6, a7, a8, a9, a10⟩ := ih
    unfold rcStep
    by_cases c : qNxt F q s.1 128 = -1
    · rw [if_pos c]
      exact ⟨⟨a1, a2⟩, a3, a4, a5, a6, a7, a8, a9, Or.inl c⟩
    · rw [if_neg c]
      rcases qNxt_sp F q s.1 128 with ⟨z, -⟩ | ⟨b1, ⟨b2, b3⟩, b4⟩
      · exact absurd z c
      · have a10 := a10.resolve_left c
        generalize qNxt F q s.1 128 = i at b1 b2 b3 b4
        have wi := (rT_W (Or.inl rfl)).mp b2
        have si := sOK_k (hS i b1.1 b1.2 wi.1)
        have copy : ∀ j, 0 ≤ j → j < 128 → rT F j 1 q → fN F j 4 = fN F i 4 → ∀ k, 0 ≤ k → k ≤ 11 → fN F j k = fN F i k := fun j j0 j1 hj e k k0 k1 => by
          have wj := (rT_W (Or.inl rfl)).mp hj
          exact hU j i j0 j1 b1.1 b1.2 wj.1 wi.1 (by omega) (by omega) e k k0 k1
        have hset : ∀ key, rS F i key → qNew F 1 q key (fN F i 4 + 1) 128 ≠ -1 ∧ ∀ k, 0 ≤ k → k ≤ 11 → fN F (qNew F 1 q key (fN F i 4 + 1) 128) k = fN F i k := fun key hr => by
          rcases qNew_sp F 1 q key (fN F i 4 + 1) 128 with ⟨-, y2⟩ | ⟨y1, y2, y3⟩
          · exact absurd ⟨b2, by omega, hr⟩ (y2 i b1.1 b1.2)
          · refine ⟨by omega, copy _ y1.1 y1.2 y2.1 ?_⟩
            have u := (y3 i b1.1 b1.2 ⟨b2, by omega, hr⟩).1
            have v := y2.2.1
            omega
        have hnot : ∀ key, ¬ rS F i key → qNew F 1 q key (fN F i 4 + 1) 128 = qNew F 1 q key (s.1 + 1) 128 := fun key hr => qNew_cb (fun j j0 j1 => by
          refine ⟨fun z => ⟨z.1, ?_, z.2.2⟩, fun z => ⟨z.1, by have := z.2.1; omega, z.2.2⟩⟩
          by_cases e : fN F j 4 = fN F i 4
          · have cp := copy j j0 j1 z.1 e
            have := z.2.2
            unfold rS at this hr
            rw [cp 0 (by omega) (by omega), cp 5 (by omega) (by omega), cp 6 (by omega) (by omega), cp 9 (by omega) (by omega)] at this
            exact absurd this hr
          · have v := z.2.1
            by_cases w : s.1 < fN F j 4
            · have := b4 j j0 j1 z.1 w; omega
            · omega)
        have fo : ∀ x k, tFd (tLay F i q s.2) x k = if x = q ∧ k = 6 then fN F i 9 else if x = q ∧ k = 3 then fN F i 4 else tFd s.2 x k := fun _ _ => rfl
        have co : ∀ x p, tCl (tLay F i q s.2) x p = if x = q ∧ p < 64 ∧ rS F i p then fByteFor F i p else tCl s.2 x p := fun _ _ => rfl
        have r64 : rS F i 64 := Or.inr ⟨by omega, Or.inl (by omega)⟩
        refine ⟨⟨by show 0 ≤ fN F i 4; omega, Or.inr ⟨i, b1, b2, rfl⟩⟩, a3, a4, fun x k h => ?_, fun x p h => ?_, ?_, ?_, fun p p1 => ?_, Or.inr ?_⟩
        · show tFd (tLay F i q s.2) x k = _
          rw [fo, if_neg (fun z => h ⟨z.1, Or.inl z.2⟩), if_neg (fun z => h ⟨z.1, Or.inr z.2⟩)]; exact a5 x k h
        · show tCl (tLay F i q s.2) x p = _
          rw [co, if_neg (fun z => by rcases h with h | h; exact h z.1; omega)]; exact a6 x p h
        · show tFd (tLay F i q s.2) q 3 = if fN F i 4 = 0 then _ else fN F i 4
          rw [fo, if_neg (by omega), if_pos ⟨rfl, rfl⟩, if_neg (by omega)]
        · show tFd (tLay F i q s.2) q 6 = if qNew F 1 q 64 (fN F i 4 + 1) 128 = -1 then _ else fN F (qNew F 1 q 64 (fN F i 4 + 1) 128) 9
          obtain ⟨u, v⟩ := hset 64 r64
          rw [fo, if_pos ⟨rfl, rfl⟩, if_neg u, v 9 (by omega) (by omega)]
        · show tCl (tLay F i q s.2) q p = if qNew F 1 q p (fN F i 4 + 1) 128 = -1 then _ else fByteFor F (qNew F 1 q p (fN F i 4 + 1) 128) p
          rw [co]
          by_cases hr : rS F i p
          · obtain ⟨u, v⟩ := hset p hr
            rw [if_pos ⟨rfl, p1, hr⟩, if_neg u]
            unfold fByteFor
            rw [v 5 (by omega) (by omega), v 6 (by omega) (by omega), v 7 (by omega) (by omega)]
          · rw [if_neg (fun z => hr z.2.2), hnot p hr]; exact a9 p p1
        · have one := cR_one (p := fun r => rT F r 1 q ∧ fN F i 4 < fN F r 4) (q := fun r => (rT F r 1 q ∧ fN F i 4 < fN F r 4) ∨ r = i) (a := i) 128 b1.1 b1.2 (fun z => absurd z.2 (by omega)) (fun r _ _ => Iff.rfl)
          have mon := cR_mono (p := fun r => (rT F r 1 q ∧ fN F i 4 < fN F r 4) ∨ r = i) (q := fun r => rT F r 1 q ∧ s.1 < fN F r 4) 128 (fun r _ _ z => by
            rcases z with z | z
            · exact ⟨z.1, by omega⟩
            · rw [z]; exact ⟨b2, b3⟩)
          show cR (fun r => rT F r 1 q ∧ fN F i 4 < fN F r 4) 128 ≤ 128 - ((n + 1 : Nat) : Int)
          omega
/-- a file's content read -/
theorem TSW_rc {F : Fl} {fl L : Int → Int} {B : Int → Int → Int} {Vd Vn : Int → Int} {nx : Int} {S : Tr} {f : Int} (hS : NS F) (hU : NU F) (hT : TSW (TG F) fl L B Vd Vn nx S) (hf : f ∈ tNl S) (hff : fl f = 0) (hL : L f = 0) (hB : ∀ p, 0 ≤ p → p < 64 → B f p = 0) (hV : Vd f = 0) :
    TSW (TG F) fl (fun x => if x = f then LN F f else L x) (fun x p => if x = f then BY F f p else B x p) (fun x => if x = f then vD F f else Vd x) Vn nx (rc F f S 128).2 := by
  obtain ⟨⟨a1, a2⟩, a3, a4, a5, a6, a7, a8, a9, a10⟩ := rc_RCI hS hU f S 128 (Nat.le_refl _)
  have hend : ∀ j : Int, 0 ≤ j → j < 128 → ¬ (rT F j 1 f ∧ (rc F f S 128).1 < fN F j 4) := fun j j0 j1 z => by
    rcases a10 with w | w
    · rcases qNxt_sp F f (rc F f S 128).1 128 with ⟨-, y⟩ | ⟨y, -⟩
      · exact y j j0 j1 z
      · omega
    · have := cR_pos (p := fun r => rT F r 1 f ∧ (rc F f S 128).1 < fN F r 4) j0 j1 z
      have w2 : cR (fun r => rT F r 1 f ∧ (rc F f S 128).1 < fN F r 4) 128 ≤ 128 - ((128 : Nat) : Int) := w
      exact absurd (Int.lt_of_lt_of_le this w2) (by decide)
  generalize rc F f S 128 = s at a1 a2 a3 a4 a5 a6 a7 a8 a9 hend
  obtain ⟨s1, s2, s3, s4, s5, s6, s7⟩ := hT
  have hall : ∀ key, qNew F 1 f key (s.1 + 1) 128 = qNew F 1 f key 2147483647 128 := fun key => qNew_cb (fun j j0 j1 => by
    refine ⟨fun z => ⟨z.1, by have := sOK_k (hS j j0 j1 ((rT_W (Or.inl rfl)).mp z.1).1); omega, z.2.2⟩, fun z => ⟨z.1, ?_, z.2.2⟩⟩
    have := hend j j0 j1
    by_cases c : s.1 < fN F j 4
    · exact absurd ⟨z.1, c⟩ this
    · omega)
  have hvm : s.1 = vD F f := by
    have u := mxV_ub (F := F) (kd := 1) (x := f) a1 128 (fun r r0 r1 hr => Classical.byContradiction (fun z => hend r r0 r1 ⟨hr, by omega⟩))
    have l := mxV_le (F := F) (kd := 1) (x := f) 128
    show s.1 = mxV F 1 f 128
    rcases a2 with z | ⟨r, r0, r1, r2⟩
    · omega
    · have := l.2 r r0.1 r0.2 r1; omega
  obtain ⟨o1, o2, o3, o4⟩ := s4 f hf hff
  have v3 : tFd s.2 f 3 = vD F f := by
    rw [a7]
    by_cases z : s.1 = 0
    · rw [if_pos z, o4, hV, ← hvm, z]
    · rw [if_neg z, hvm]
  have v6 : tFd s.2 f 6 = LN F f := by
    rw [a8, hall 64, o1, hL]; rfl
  have vc : ∀ p, 0 ≤ p → p < 64 → tCl s.2 f p = BY F f p := fun p p0 p1 => by
    rw [a9 p p1, hall p, o2 p p0 p1, hB p p0 p1]; rfl
  refine ⟨fun n => by rw [a3]; exact s1 n, fun n hn => by rw [a5 n 2 (by omega)]; rw [a3] at hn; exact s2 n hn, fun d hd hfd => ?_, fun x hx hxf => ?_, fun n hn => by rw [a5 n 4 (by omega)]; rw [a3] at hn; exact s5 n hn, a4.trans s6, fun n hn j j0 j1 => ?_⟩
  · rw [a3] at hd
    have df : d ≠ f := fun e => by rw [e] at hfd; omega
    obtain ⟨p1, p2, p3, p4⟩ := s3 d hd hfd
    exact ⟨fun nm hm => by rw [a6 d nm (Or.inl df)]; exact p1 nm hm, by rw [a5 d 5 (by omega)]; exact p2, by rw [a5 d 6 (fun z => df z.1)]; exact p3, by rw [a5 d 3 (fun z => df z.1)]; exact p4⟩
  · rw [a3] at hx
    by_cases e : x = f
    · subst e
      exact ⟨v6.trans (if_pos rfl).symm, fun p p0 p1 => (vc p p0 p1).trans (if_pos rfl).symm, by rw [a5 x 5 (by omega)]; exact o3, v3.trans (if_pos rfl).symm⟩
    · obtain ⟨p1, p2, p3, p4⟩ := s4 x hx hxf
      exact ⟨(a5 x 6 (fun z => e z.1)).trans (p1.trans (if_neg e).symm), fun p p0 p1 => (a6 x p (Or.inl e)).trans ((p2 p p0 p1).trans (if_neg e).symm), by rw [a5 x 5 (by omega)]; exact p3, (a5 x 3 (fun z => e z.1)).trans (p4.trans (if_neg e).symm)⟩
  · rw [a3] at hn
    by_cases e : n = f ∧ j < 64
    · rw [e.1, vc j j0 e.2]
      unfold BY qByt fByteFor
      split
      · omega
      · split
        · have := iAnd_b (jUshr (fN F (qNew F 1 f j 2147483647 128) 7) (8 * (j - fN F (qNew F 1 f j 2147483647 128) 5))); omega
        · omega
    · rw [a6 n j (by omega)]; exact s7 n hn j j0 j1
