/-! ### the law's own names: against what is told -/
abbrev eD (e : Int → Int) (i : Int) : Int := e (4 * i)
abbrev eN (e : Int → Int) (i : Int) : Int := e (4 * i + 1)
abbrev eT (e : Int → Int) (i : Int) : Int := e (4 * i + 2)
abbrev eK (e : Int → Int) (i : Int) : Int := e (4 * i + 3)
def JE (T D : Int → Int → Int) (n : Int) (e : Int → Int) : Prop :=
  (∀ i, 0 ≤ i → i < n → thD T D (eD e i) ∧ nmR (eN e i) ∧ T (eD e i) (eN e i) = eT e i ∧ eT e i ≠ 0 ∧ D (eD e i) (eN e i) = eK e i) ∧
  (∀ d nm, thD T D d → nmR nm → T d nm ≠ 0 → ∃ i, (0 ≤ i ∧ i < n) ∧ eD e i = d ∧ eN e i = nm) ∧
  (∀ i j, 0 ≤ i → i < n → 0 ≤ j → j < n → eD e i = eD e j → eN e i = eN e j → i = j)
theorem JE_cg {T D T' D' : Int → Int → Int} {n : Int} {e : Int → Int} (h : JE T D n e) (hd : ∀ d, thD T' D' d ↔ thD T D d) (ht : ∀ d, thD T D d → ∀ nm, nmR nm → T' d nm = T d nm ∧ D' d nm = D d nm) : JE T' D' n e := by
  obtain ⟨a, b, c⟩ := h
  refine ⟨fun i i0 i1 => ?_, fun d nm hh hm h0 => ?_, c⟩
  · obtain ⟨p, q, r, s, t⟩ := a i i0 i1
    obtain ⟨u, v⟩ := ht _ p _ q
    exact ⟨(hd _).mpr p, q, u.trans r, s, v.trans t⟩
  · have hh := (hd d).mp hh
    exact b d nm hh hm (by rw [← (ht d hh nm hm).1]; exact h0)
theorem JE_e {T D : Int → Int → Int} {n : Int} {e f : Int → Int} (h : JE T D n e) (he : ∀ k, 0 ≤ k → k < 4 * n → f k = e k) : JE T D n f := by
  have hh : ∀ i, 0 ≤ i → i < n → eD f i = eD e i ∧ eN f i = eN e i ∧ eT f i = eT e i ∧ eK f i = eK e i := fun i i0 i1 => ⟨he _ (by omega) (by omega), he _ (by omega) (by omega), he _ (by omega) (by omega), he _ (by omega) (by omega)⟩
  obtain ⟨a, b, c⟩ := h
  refine ⟨fun i i0 i1 => ?_, fun d nm hd hm h0 => ?_, fun i j i0 i1 j0 j1 hd hn => ?_⟩
  · obtain ⟨x, y, z, w⟩ := hh i i0 i1
    rw [x, y, z, w]; exact a i i0 i1
  · obtain ⟨i, i1, i2, i3⟩ := b d nm hd hm h0
    obtain ⟨x, y, -, -⟩ := hh i i1.1 i1.2
    exact ⟨i, i1, by rw [x]; exact i2, by rw [y]; exact i3⟩
  · obtain ⟨x, y, -, -⟩ := hh i i0 i1
    obtain ⟨z, w, -, -⟩ := hh j j0 j1
    exact c i j i0 i1 j0 j1 (by rw [← x, ← z]; exact hd) (by rw [← y, ← w]; exact hn)
theorem JE_add {T D T' D' : Int → Int → Int} {n d0 n0 t k : Int} {e f : Int → Int} (h : JE T D n e) (hn : 0 ≤ n) (hd0 : thD T' D' d0) (hm : nmR n0) (ho : T d0 n0 = 0) (ht : t ≠ 0) (hT : T' = gup T d0 n0 t) (hD : D' = gup D d0 n0 k)
    (h1 : ∀ x, thD T D x → thD T' D' x) (h2 : ∀ x, thD T' D' x → thD T D x ∨ ∀ nm, nmR nm → T' x nm = 0) (he : ∀ j, 0 ≤ j → j < 4 * n → f j = e j) (f0 : eD f n = d0) (f1 : eN f n = n0) (f2 : eT f n = t) (f3 : eK f n = k) : JE T' D' (n + 1) f := by
  have hg := JE_e h he
  obtain ⟨a, b, c⟩ := hg
  have hk : ∀ i, 0 ≤ i → i < n → ¬ (eD f i = d0 ∧ eN f i = n0) := fun i i0 i1 z => by
    obtain ⟨-, -, p, q, -⟩ := a i i0 i1
    rw [z.1, z.2, ho] at p; exact q p.symm
  refine ⟨fun i i0 i1 => ?_, fun d nm hh hm2 h0 => ?_, fun i j i0 i1 j0 j1 q1 q2 => ?_⟩
  · by_cases ei : i = n
    · subst ei
      rw [f0, f1, f2, f3, hT, hD]
      rw [hT, hD] at hd0
      exact ⟨hd0, hm, gup_e _ _ _ _, ht, gup_e _ _ _ _⟩
    · obtain ⟨p, q, r, s, u⟩ := a i i0 (by omega)
      have hne := hk i i0 (by omega)
      refine ⟨h1 _ p, q, ?_, s, ?_⟩
      · rw [hT, gup_n _ _ hne]; exact r
      · rw [hD, gup_n _ _ hne]; exact u
  · by_cases z : d = d0 ∧ nm = n0
    · exact ⟨n, ⟨hn, by omega⟩, by rw [f0, z.1], by rw [f1, z.2]⟩
    · rcases h2 d hh with q | q
      · rw [hT, gup_n _ _ z] at h0
        obtain ⟨i, i1, i2, i3⟩ := b d nm q hm2 h0
        exact ⟨i, ⟨i1.1, by omega⟩, i2, i3⟩
      · exact absurd (q nm hm2) h0
  · by_cases ei : i = n
    · by_cases ej : j = n
      · omega
      · rw [ei] at q1 q2
        exact absurd ⟨by rw [← q1]; exact f0, by rw [← q2]; exact f1⟩ (hk j j0 (by omega))
    · by_cases ej : j = n
      · rw [ej] at q1 q2
        exact absurd ⟨by rw [q1]; exact f0, by rw [q2]; exact f1⟩ (hk i i0 (by omega))
      · exact c i j i0 (by omega) j0 (by omega) q1 q2
theorem JE_del {T D T' D' : Int → Int → Int} {n d0 n0 a0 k : Int} {e f : Int → Int} (h : JE T D n e) (ha : 0 ≤ a0 ∧ a0 < n) (hd0 : eD e a0 = d0) (hn0 : eN e a0 = n0) (hT : T' = gup T d0 n0 0) (hD : D' = gup D d0 n0 k)
    (h1 : ∀ x, thD T' D' x → thD T D x) (h2 : ∀ x, thD T D x → thD T' D' x ∨ ∀ nm, nmR nm → T x nm = 0) (he : ∀ j, 0 ≤ j → j < 4 * (n - 1) → f j = if j < 4 * a0 then e j else e (j + 4)) : JE T' D' (n - 1) f := by
  obtain ⟨a, b, c⟩ := h
  have hs : ∀ i, 0 ≤ i → i < n - 1 → ∃ s, (0 ≤ s ∧ s < n ∧ s ≠ a0) ∧ (s = if i < a0 then i else i + 1) ∧ eD f i = eD e s ∧ eN f i = eN e s ∧ eT f i = eT e s ∧ eK f i = eK e s := fun i i0 i1 => by
    refine ⟨if i < a0 then i else i + 1, ?_, rfl, ?_⟩
    · split <;> omega
    · by_cases q : i < a0
      · rw [if_pos q]
        unfold eD eN eT eK
        rw [he _ (by omega) (by omega), he _ (by omega) (by omega), he _ (by omega) (by omega), he _ (by omega) (by omega), if_pos (by omega), if_pos (by omega), if_pos (by omega), if_pos (by omega)]
        exact ⟨rfl, rfl, rfl, rfl⟩
      · rw [if_neg q]
        unfold eD eN eT eK
        rw [he _ (by omega) (by omega), he _ (by omega) (by omega), he _ (by omega) (by omega), he _ (by omega) (by omega), if_neg (by omega), if_neg (by omega), if_neg (by omega), if_neg (by omega)]
        exact ⟨by congr 1; omega, by congr 1; omega, by congr 1; omega, by congr 1; omega⟩
  have hk : ∀ s, 0 ≤ s → s < n → s ≠ a0 → ¬ (eD e s = d0 ∧ eN e s = n0) := fun s s0 s1 s2 z => s2 (c s a0 s0 s1 ha.1 ha.2 (by rw [hd0]; exact z.1) (by rw [hn0]; exact z.2))
  refine ⟨fun i i0 i1 => ?_, fun d nm hh hm2 h0 => ?_, fun i j i0 i1 j0 j1 q1 q2 => ?_⟩
  · obtain ⟨s, ⟨s0, s1, s2⟩, -, x, y, z, w⟩ := hs i i0 i1
    obtain ⟨p, q, r, t, u⟩ := a s s0 s1
    have hne := hk s s0 s1 s2
    rw [x, y, z, w]
    refine ⟨?_, q, ?_, t, ?_⟩
    · rcases h2 _ p with v | v
      · exact v
      · exact absurd (r.symm.trans (v _ q)) t
    · rw [hT, gup_n _ _ hne]; exact r
    · rw [hD, gup_n _ _ hne]; exact u
  · by_cases z : d = d0 ∧ nm = n0
    · rw [z.1, z.2, hT, gup_e] at h0; exact absurd rfl h0
    · rw [hT, gup_n _ _ z] at h0
      obtain ⟨i, i1, i2, i3⟩ := b d nm (h1 d hh) hm2 h0
      have hi : i ≠ a0 := fun w => z ⟨by rw [← i2, w]; exact hd0, by rw [← i3, w]; exact hn0⟩
      by_cases q : i < a0
      · obtain ⟨s, -, s2, x, y, -, -⟩ := hs i i1.1 (by omega)
        rw [if_pos q] at s2
        rw [s2] at x y
        exact ⟨i, ⟨i1.1, by omega⟩, x.trans i2, y.trans i3⟩
      · obtain ⟨s, -, s2, x, y, -, -⟩ := hs (i - 1) (by omega) (by omega)
        rw [if_neg (by omega), show i - 1 + 1 = i by omega] at s2
        rw [s2] at x y
        exact ⟨i - 1, ⟨by omega, by omega⟩, x.trans i2, y.trans i3⟩
  · obtain ⟨s, ⟨s0, s1, s2⟩, s3, x, y, -, -⟩ := hs i i0 i1
    obtain ⟨t, ⟨t0, t1, t2⟩, t3, u, v, -, -⟩ := hs j j0 j1
    have := c s t s0 s1 t0 t1 (by rw [← x, ← u]; exact q1) (by rw [← y, ← v]; exact q2)
    rw [s3, t3] at this
    split at this <;> split at this <;> omega
/-! ### how many -/
theorem JE_at {T D : Int → Int → Int} {n : Int} {e : Int → Int} (h : JE T D n e) {d nm : Int} (hd : thD T D d) (hm : nmR nm) (h0 : T d nm ≠ 0) : ∃ i, (0 ≤ i ∧ i < n) ∧ eD e i = d ∧ eN e i = nm ∧ eT e i = T d nm ∧ eK e i = D d nm := by
  obtain ⟨i, i1, i2, i3⟩ := h.2.1 d nm hd hm h0
  obtain ⟨-, -, q, -, r⟩ := h.1 i i1.1 i1.2
  rw [i2, i3] at q r
  exact ⟨i, i1, i2, i3, q.symm, r.symm⟩
theorem JE_cnt {T D : Int → Int → Int} {n : Int} {e : Int → Int} (h : JE T D n e) {d : Int} (hd : thD T D d) : ∀ k : Nat, k ≤ 99 → cntN (T d) k = cR (fun i => eD e i = d ∧ 1 ≤ eN e i ∧ eN e i ≤ k) n.toNat
  | 0, _ => (cR_0 (fun r _ _ h => by omega)).symm
  | k + 1, hk => by
    rw [cntN_s, JE_cnt h hd k (by omega)]
    by_cases c : T d ((k : Int) + 1) = 0
    · rw [if_neg (fun z => z c), Int.add_zero]
      refine cR_cg n.toNat (fun r r0 r1 => ⟨fun q => ⟨q.1, q.2.1, by omega⟩, fun q => ⟨q.1, q.2.1, ?_⟩⟩)
      by_cases z : eN e r = (k : Int) + 1
      · obtain ⟨-, -, p, p0, -⟩ := h.1 r r0 (by omega)
        rw [q.1, z, c] at p; exact absurd p.symm p0
      · omega
    · rw [if_pos c]
      obtain ⟨i, i1, i2, i3, -⟩ := JE_at h hd ⟨by omega, by omega⟩ c
      refine (cR_one (a := i) n.toNat i1.1 (by omega) (fun z => by omega) (fun r r0 r1 => ⟨fun q => ?_, fun q => ?_⟩)).symm
      · by_cases z : eN e r = (k : Int) + 1
        · exact Or.inr (h.2.2 r i r0 (by omega) i1.1 i1.2 (by omega) (by omega))
        · exact Or.inl ⟨q.1, q.2.1, by omega⟩
      · rcases q with q | q
        · exact ⟨q.1, q.2.1, by omega⟩
        · rw [q]; exact ⟨i2, by omega, by omega⟩
theorem JE_ceq {T D : Int → Int → Int} {n : Int} {e : Int → Int} (h : JE T D n e) {d v : Int} (hd : thD T D d) (hv : v ≠ 0) : ∀ k : Nat, k ≤ 99 → ((ceq (T d) v k : Nat) : Int) = cR (fun i => eD e i = d ∧ eT e i = v ∧ 1 ≤ eN e i ∧ eN e i ≤ k) n.toNat
  | 0, _ => (cR_0 (fun r _ _ h => by omega)).symm
  | k + 1, hk => by
    have ih := JE_ceq h hd hv k (by omega)
    rw [ceq_s]
    by_cases c : T d ((k : Int) + 1) = v
    · rw [if_pos c]
      obtain ⟨i, i1, i2, i3, i4, -⟩ := JE_at h hd (nm := (k : Int) + 1) ⟨by omega, by omega⟩ (by rw [c]; exact hv)
      have := cR_one (p := fun i => eD e i = d ∧ eT e i = v ∧ 1 ≤ eN e i ∧ eN e i ≤ k) (q := fun i => eD e i = d ∧ eT e i = v ∧ 1 ≤ eN e i ∧ eN e i ≤ ((k + 1 : Nat) : Int)) (a := i) n.toNat i1.1 (by omega) (fun z => by omega) (fun r r0 r1 => ⟨fun q => ?_, fun q => ?_⟩)
      · rw [this]; omega
      · by_cases z : eN e r = (k : Int) + 1
        · exact Or.inr (h.2.2 r i r0 (by omega) i1.1 i1.2 (by omega) (by omega))
        · exact Or.inl ⟨q.1, q.2.1, q.2.2.1, by omega⟩
      · rcases q with q | q
        · exact ⟨q.1, q.2.1, q.2.2.1, by omega⟩
        · rw [q]; exact ⟨i2, i4.trans c, by omega, by omega⟩
    · rw [if_neg c, Nat.add_zero, ih]
      refine cR_cg n.toNat (fun r r0 r1 => ⟨fun q => ⟨q.1, q.2.1, q.2.2.1, by omega⟩, fun q => ⟨q.1, q.2.1, q.2.2.1, ?_⟩⟩)
      by_cases z : eN e r = (k : Int) + 1
      · obtain ⟨-, -, p, p0, -⟩ := h.1 r r0 (by omega)
        rw [q.1, z, q.2.1] at p; exact absurd p c
      · omega
theorem JE_lk {T D : Int → Int → Int} {n : Int} {e : Int → Int} (h : JE T D n e) {v : Int} (hv : v ≠ 0) : ∀ k : Nat, ((lk T D v k : Nat) : Int) = cR (fun i => eT e i = v ∧ 0 ≤ eD e i ∧ eD e i < k) n.toNat
  | 0 => (cR_0 (fun r _ _ h => by omega)).symm
  | k + 1 => by
    have ih := JE_lk h hv k
    rw [lk_s]
    by_cases c : thD T D (k : Int)
    · rw [if_pos c]
      have e9 := JE_ceq h c hv 99 (Nat.le_refl _)
      have := cR_or (p := fun i => eT e i = v ∧ 0 ≤ eD e i ∧ eD e i < k) (q := fun i => eD e i = (k : Int) ∧ eT e i = v ∧ 1 ≤ eN e i ∧ eN e i ≤ ((99 : Nat) : Int)) (s := fun i => eT e i = v ∧ 0 ≤ eD e i ∧ eD e i < ((k + 1 : Nat) : Int)) n.toNat (fun r r0 r1 => ⟨⟨fun q => ?_, fun q => ?_⟩, fun q => by omega⟩)
      · rw [this, ← ih, ← e9]; omega
      · by_cases z : eD e r = (k : Int)
        · obtain ⟨-, hm, -⟩ := h.1 r r0 (by omega)
          exact Or.inr ⟨z, q.1, hm.1, hm.2⟩
        · exact Or.inl ⟨q.1, q.2.1, by omega⟩
      · rcases q with q | q
        · exact ⟨q.1, q.2.1, by omega⟩
        · exact ⟨q.2.1, by omega, by omega⟩
    · rw [if_neg c, Nat.add_zero, ih]
      refine cR_cg n.toNat (fun r r0 r1 => ⟨fun q => ⟨q.1, q.2.1, by omega⟩, fun q => ⟨q.1, q.2.1, ?_⟩⟩)
      by_cases z : eD e r = (k : Int)
      · have := (h.1 r r0 (by omega)).1
        rw [z] at this; exact absurd this c
      · omega
/-- how many names a directory has; how many a number has; by the law's own list -/
theorem JE_names {T D : Int → Int → Int} {n : Int} {e : Int → Int} (h : JE T D n e) {d : Int} (hd : thD T D d) : cntN (T d) 99 = cR (fun i => eD e i = d) n.toNat := by
  rw [JE_cnt h hd 99 (Nat.le_refl _)]
  refine cR_cg n.toNat (fun r r0 r1 => ⟨fun q => q.1, fun q => ?_⟩)
  obtain ⟨-, hm, -⟩ := h.1 r r0 (by omega)
  exact ⟨q, hm.1, hm.2⟩
theorem JE_place {T D : Int → Int → Int} {n : Int} {e : Int → Int} (h : JE T D n e) {d : Int} (hd : thD T D d) {q : Nat} (hq : q ≤ 99) : cntN (T d) q = cR (fun i => eD e i = d ∧ eN e i < (q : Int) + 1) n.toNat := by
  rw [JE_cnt h hd q hq]
  refine cR_cg n.toNat (fun r r0 r1 => ⟨fun q => ⟨q.1, by omega⟩, fun q => ?_⟩)
  obtain ⟨-, hm, -⟩ := h.1 r r0 (by omega)
  exact ⟨q.1, hm.1, by omega⟩
theorem JE_links {T D : Int → Int → Int} {n : Int} {e : Int → Int} (h : JE T D n e) (hb : ∀ d, thD T D d → 0 ≤ d ∧ d < 2048) {v : Int} (hv : v ≠ 0) : ((lk T D v 2048 : Nat) : Int) = cR (fun i => eT e i = v) n.toNat := by
  rw [JE_lk h hv 2048]
  refine cR_cg n.toNat (fun r r0 r1 => ⟨fun q => q.1, fun q => ?_⟩)
  obtain ⟨hd, -⟩ := h.1 r r0 (by omega)
  have := hb _ hd
  exact ⟨q, this.1, this.2⟩
