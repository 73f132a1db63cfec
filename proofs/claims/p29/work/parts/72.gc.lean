/-! ### what a collection keeps -/
abbrev thDf (F : Fl) (d : Int) : Prop := thD (TG F) (TD F) d
abbrev thFf (F : Fl) (f : Int) : Prop := thF (TG F) (TD F) f
abbrev EQ (F F' : Fl) : Prop := (∀ d, thDf F d → ∀ nm, nmR nm → TG F' d nm = TG F d nm ∧ TD F' d nm = TD F d nm) ∧ (∀ f, thFf F f → LN F' f = LN F f ∧ ∀ p, 0 ≤ p → p < 64 → BY F' f p = BY F f p)
theorem EQ_D {F F' : Fl} (h : EQ F F') (n : Int) : thDf F' n ↔ thDf F n := by
  constructor
  · exact thD_sub (fun d nm _ h2 hm he => by
      obtain ⟨a, b⟩ := h.1 d h2 nm hm
      obtain ⟨e0, e1⟩ := he
      rw [a] at e0 ⊢
      rw [b] at e1
      exact thD_s h2 hm e0 e1)
  · exact thD_sub (fun d nm h1 h2 hm he => by
      obtain ⟨a, b⟩ := h.1 d h1 nm hm
      have := thD_s (T := TG F') (D := TD F') (d := d) (nm := nm) h2 hm (by rw [a]; exact he.1) (by rw [b]; exact he.2)
      rw [a] at this; exact this)
theorem EQ_F {F F' : Fl} (h : EQ F F') (n : Int) : thFf F' n ↔ thFf F n := by
  constructor
  · rintro ⟨d, nm, h1, h2, h3, h4, h5⟩
    have hd := (EQ_D h d).mp h1
    obtain ⟨a, b⟩ := h.1 d hd nm h2
    exact ⟨d, nm, hd, h2, by rw [← a]; exact h3, h4, by rw [← b]; exact h5⟩
  · rintro ⟨d, nm, h1, h2, h3, h4, h5⟩
    obtain ⟨a, b⟩ := h.1 d h1 nm h2
    exact ⟨d, nm, (EQ_D h d).mpr h1, h2, by rw [a]; exact h3, h4, by rw [b]; exact h5⟩
theorem EQ_trans {F F1 F2 : Fl} (h : EQ F F1) (k : EQ F1 F2) : EQ F F2 := by
  refine ⟨fun d hd nm hm => ?_, fun f hf => ?_⟩
  · obtain ⟨a, b⟩ := h.1 d hd nm hm
    obtain ⟨c, e⟩ := k.1 d ((EQ_D h d).mpr hd) nm hm
    exact ⟨c.trans a, e.trans b⟩
  · obtain ⟨a, b⟩ := h.2 f hf
    obtain ⟨c, e⟩ := k.2 f ((EQ_F h f).mpr hf)
    exact ⟨c.trans a, fun p p0 p1 => (e p p0 p1).trans (b p p0 p1)⟩
theorem EQ_of {F F' : Fl} (h : sameT F F') : EQ F F' := ⟨fun d _ nm _ => h.1 d nm, fun f _ => ⟨h.2.1 f, fun p _ _ => h.2.2 f p⟩⟩
/-- what is told stays told: the tree stays true -/
theorem TSW_EQ {F F' : Fl} {fl : Int → Int} {Vd Vn : Int → Int} {nx : Int} {S : Tr} (hS : TSW (TG F) fl (LN F) (BY F) Vd Vn nx S) (hW : WD (TG F) fl nx) (hT : TD F = dF (TG F) fl) (hT' : TD F' = dF (TG F') fl) (h : EQ F F') (hb : ∀ d nm, TG F' d nm = 0 ∨ ((2 ≤ TG F' d nm ∧ TG F' d nm < nx) ∧ 1 ≤ d ∧ d < nx)) : WD (TG F') fl nx ∧ TSW (TG F') fl (LN F') (BY F') Vd Vn nx S := by
  have hD : ∀ n, tD (TG F') fl n ↔ tD (TG F) fl n := fun n => by
    have := EQ_D h n
    unfold thDf at this
    rw [hT, hT'] at this; exact this
  have hD2 : ∀ n, tD (TG F) fl n → thDf F n := fun n hn => by unfold thDf; rw [hT]; exact hn
  have hF2 : ∀ n ∈ tNl S, fl n = 0 → thFf F n := fun n hn hf => by unfold thFf; rw [hT]; exact (TSW_tF hS hW n).mpr ⟨hn, hf⟩
  have hin : ∀ n, inE (TG F') fl n ↔ inE (TG F) fl n := fun n => by
    constructor
    · rintro ⟨x, y, h1, h2, h3⟩
      have hx := (hD x).mp h1
      exact ⟨x, y, hx, h2, by rw [← (h.1 x (hD2 x hx) y h2).1]; exact h3⟩
    · rintro ⟨x, y, h1, h2, h3⟩
      exact ⟨x, y, (hD x).mpr h1, h2, by rw [(h.1 x (hD2 x h1) y h2).1]; exact h3⟩
  obtain ⟨s1, s2, s3, s4, s5, s6, s7⟩ := id hS
  obtain ⟨w1, w2, w3, w4, w5, w6⟩ := id hW
  refine ⟨⟨w1, w2, hb, RK_sub w4 (fun d nm hd hm he => ?_), w5, w6⟩, fun n => by rw [hin]; exact s1 n, s2, fun d hd hf => ?_, fun f hf hff => ?_, fun n hn => ?_, s6, s7⟩
  · have hx := (hD d).mp hd
    have e := (h.1 d (hD2 d hx) nm hm).1
    have he := dF_e.mp he
    rw [e] at he
    exact ⟨hx, dF_e.mpr he, e⟩
  · obtain ⟨a, b, c, e⟩ := s3 d hd hf
    have hx := (TSW_tD hS hW d).mpr ⟨hd, hf⟩
    have ee := fun nm hm => (h.1 d (hD2 d hx) nm hm).1
    exact ⟨fun nm hm => by rw [ee nm hm]; exact a nm hm, b.trans (cntN_cg 99 (fun i i0 i1 => (ee i ⟨i0, i1⟩).symm)), c, e⟩
  · obtain ⟨a, b, c, e⟩ := s4 f hf hff
    obtain ⟨x, y⟩ := h.2 f (hF2 f hf hff)
    exact ⟨by rw [x]; exact a, fun p p0 p1 => by rw [y p p0 p1]; exact b p p0 p1, c, e⟩
  · rw [s5 n hn]
    have : lkN (TG F') fl n = lkN (TG F) fl n := lk_cg 2048 (fun d _ => ⟨fun p q => absurd ((hD d).mp p) q, fun p q => absurd ((hD d).mpr p) q, fun p _ => ceq_cg 99 (fun i i0 i1 => by rw [(h.1 d (hD2 d p) i ⟨i0, i1⟩).1])⟩)
    rw [this]
/-! one row hidden -/
theorem hid_ne {F : Fl} {Z : Int → Int} {i j : Int} (h : j ≠ i) (k : Int) : fN (fHid F (zSet Z i 1)) j k = fN (fHid F Z) j k := by
  show (if k = 0 ∧ (if j = i then 1 else Z j) ≠ 0 then 0 else fN F j k) = (if k = 0 ∧ Z j ≠ 0 then 0 else fN F j k)
  rw [if_neg h]
theorem hid_eq {F : Fl} {Z : Int → Int} {i : Int} : fN (fHid F (zSet Z i 1)) i 0 = 0 := fHid_n _ _ _ (by unfold zSet; rw [if_pos rfl]; decide)
theorem hid_qC {F : Fl} {Z : Int → Int} {i j kd nb key below : Int} (hk : kd = 1 ∨ kd = 2) : qC (fHid F (zSet Z i 1)) kd nb key below j ↔ qC (fHid F Z) kd nb key below j ∧ j ≠ i := by
  by_cases e : j = i
  · subst e
    refine ⟨fun q => ?_, fun q => absurd rfl q.2⟩
    have := q.1.1; rw [hid_eq] at this; omega
  · unfold qC rT rS
    rw [hid_ne e, hid_ne e, hid_ne e, hid_ne e, hid_ne e, hid_ne e, hid_ne e, hid_ne e]
    exact ⟨fun q => ⟨q, e⟩, fun q => q.1⟩
theorem hid_skip {F : Fl} {Z : Int → Int} {i kd nb key below : Int} (hk : kd = 1 ∨ kd = 2) (h : qNew (fHid F Z) kd nb key below 128 ≠ i) : qNew (fHid F (zSet Z i 1)) kd nb key below 128 = qNew (fHid F Z) kd nb key below 128 := by
  rcases qNew_sp (fHid F Z) kd nb key below 128 with ⟨h1, h2⟩ | ⟨h1, h2, h3⟩
  · rw [h1]; exact qNew_none (fun j j0 j1 q => h2 j j0 j1 ((hid_qC hk).mp q).1)
  · refine qNew_is h1.1 h1.2 ((hid_qC hk).mpr ⟨h2, h⟩) (fun j j0 j1 q => ?_)
    obtain ⟨q1, q2⟩ := (hid_qC hk).mp q
    rw [hid_ne q2, hid_ne h]
    exact h3 j j0 j1 q1
theorem hid_v {F : Fl} {Z : Int → Int} (j k : Int) (hk : k ≠ 0) : fN (fHid F Z) j k = fN F j k := fHid_k _ _ _ _ hk
theorem hid_TG {F : Fl} {Z : Int → Int} (d nm : Int) : TG (fHid F Z) d nm = qTgt F (qNew (fHid F Z) 2 d nm 2147483647 128) := by
  unfold TG qTgt; rw [hid_v _ _ (by decide)]
theorem hid_BY {F : Fl} {Z : Int → Int} (x p : Int) : qByt (fHid F Z) x p = qByt F x p := by
  unfold qByt fByteFor; rw [hid_v _ _ (by decide), hid_v _ _ (by decide), hid_v _ _ (by decide)]
theorem hid_rW {F : Fl} {Z : Int → Int} {j : Int} : rW (fHid F Z) j ↔ rW F j ∧ Z j = 0 := by
  unfold rW
  rw [hid_v _ 2 (by decide), hid_v _ 1 (by decide)]
  by_cases z : Z j = 0
  · rw [fHid_z _ _ _ z]; exact ⟨fun q => ⟨q, z⟩, fun q => q.1⟩
  · rw [fHid_n _ _ _ z]; exact ⟨fun q => by omega, fun q => absurd q.2 z⟩
theorem hid_cov {F : Fl} (Z : Int → Int) : cover (fHid F Z) F := fun j j0 j1 w => by
  obtain ⟨a, b⟩ := hid_rW.mp w
  exact ⟨j, ⟨j0, j1⟩, a, fun k _ _ => (fHid_z _ _ _ b k).symm⟩
theorem hid_NS {F : Fl} {Z : Int → Int} (hS : NS F) : NS (fHid F Z) := fun j j0 j1 w => by
  obtain ⟨a, b⟩ := hid_rW.mp w
  rw [show fN (fHid F Z) j = fN F j from funext (fHid_z _ _ _ b)]; exact hS j j0 j1 a
/-! the settled places, bit by bit -/
theorem set_bit {F : Fl} {i : Int} (hs : sOK (fN F i)) (hk : fN F i 0 = 1) {p : Nat} (hp : p < 64) : bt (fSettled F i) p = true ↔ rS F i p := by
  have h := hs.resolve_right (fun q => by omega)
  obtain ⟨-, -, h6, -, -, h50, h51, h59, h9, h8, -⟩ := h
  have e8 : bt (fN F i 8) p = (decide (fN F i 5 ≤ p) && decide ((p : Int) < fN F i 5 + fN F i 6)) := by
    rw [h8]
    have := bt_lay (n := (fN F i 6).toNat) (o := (fN F i 5).toNat) (p := p) (by omega) (by omega) (by omega) hp
    rw [show (((fN F i 6).toNat : Nat) : Int) = fN F i 6 by omega, show (((fN F i 5).toNat : Nat) : Int) = fN F i 5 by omega] at this
    rw [this]
    congr 1
    · exact decide_eq_decide.mpr (by omega)
    · exact decide_eq_decide.mpr (by omega)
  unfold fSettled rS
  by_cases c : 64 ≤ fN F i 9
  · rw [if_pos c, e8, Bool.and_eq_true, decide_eq_true_eq, decide_eq_true_eq]; omega
  · rw [if_neg c, bt_or, e8]
    have := bt_shm (z := (fN F i 9).toNat) (p := p) (by omega) hp
    rw [show (((fN F i 9).toNat : Nat) : Int) = fN F i 9 by omega] at this
    rw [this, Bool.or_eq_true, Bool.and_eq_true, decide_eq_true_eq, decide_eq_true_eq, decide_eq_true_eq]; omega
theorem laid_bit {F : Fl} {i : Int} (hs : sOK (fN F i)) (hk : fN F i 0 = 1) {p : Nat} (hp : p < 64) : bt (fN F i 8) p = true ↔ fN F i 5 ≤ p ∧ (p : Int) < fN F i 5 + fN F i 6 := by
  have h := hs.resolve_right (fun q => by omega)
  obtain ⟨-, -, h6, -, -, h50, h51, h59, h9, h8, -⟩ := h
  rw [h8]
  have := bt_lay (n := (fN F i 6).toNat) (o := (fN F i 5).toNat) (p := p) (by omega) (by omega) (by omega) hp
  rw [show (((fN F i 6).toNat : Nat) : Int) = fN F i 6 by omega, show (((fN F i 5).toNat : Nat) : Int) = fN F i 5 by omega] at this
  rw [this, Bool.and_eq_true, decide_eq_true_eq, decide_eq_true_eq]; omega
theorem qSet_bit {F : Fl} (hS : NS F) {nb v : Int} {p : Nat} (hp : p < 64) : ∀ n : Nat, n ≤ 128 → (bt (qSet F nb v n) p = true ↔ ∃ j : Int, (0 ≤ j ∧ j < n) ∧ rT F j 1 nb ∧ v < fN F j 4 ∧ rS F j p)
  | 0, _ => by
      refine ⟨fun h => ?_, fun ⟨j, hj, _⟩ => by omega⟩
      have e : (Int64.ofInt 0).toBitVec = 0#64 := by decide
      have h : bt 0 p = true := h
      unfold bt at h
      rw [e, BitVec.getLsbD_zero] at h
      cases h
  | n + 1, hn => by
    have ih := qSet_bit hS (nb := nb) (v := v) hp n (by omega)
    rw [qSet_s]
    by_cases c : rT F n 1 nb ∧ v < fN F n 4
    · have w := (rT_W (Or.inl rfl)).mp c.1
      have sb := set_bit (hS n (by omega) (by omega) w.1) w.2.1 hp
      rw [if_pos c, bt_or, Bool.or_eq_true, ih, sb]
      constructor
      · rintro (⟨j, j0, j1⟩ | h)
        · exact ⟨j, by omega, j1⟩
        · exact ⟨n, by omega, c.1, c.2, h⟩
      · rintro ⟨j, j0, j1, j2, j3⟩
        by_cases e : j = n
        · subst e; exact Or.inr j3
        · exact Or.inl ⟨j, by omega, j1, j2, j3⟩
    · rw [if_neg c, ih]
      constructor
      · rintro ⟨j, j0, j1⟩; exact ⟨j, by omega, j1⟩
      · rintro ⟨j, j0, j1, j2, j3⟩
        by_cases e : j = n
        · subst e; exact absurd ⟨j1, j2⟩ c
        · exact ⟨j, by omega, j1, j2, j3⟩
theorem shown_bit {H F : Fl} (hH : NS H) (hF : NS F) {i : Int} (i0 : 0 ≤ i) (i1 : i < 128) (hw : rW F i) (hk : fN F i 0 = 1) {p : Nat} (hp : p < 64) : bt (jShown H F i) p = true ↔ rS F i p ∧ ¬ ∃ j : Int, (0 ≤ j ∧ j < 128) ∧ rT H j 1 (fN F i 3) ∧ fN F i 4 < fN H j 4 ∧ rS H j p := by
  unfold jShown
  rw [bt_and, bt_not hp, Bool.and_eq_true, set_bit (hF i i0 i1 hw) hk hp, Bool.not_eq_true', ← Bool.not_eq_true, qSet_bit hH hp 128 (Nat.le_refl _)]
  exact Iff.rfl
/-! first copies -/
theorem qCpy_sp (F : Fl) (kd nb v : Int) : ∀ n : Nat, n ≤ 128 → (qCpy F kd nb v n = -1 ∧ ∀ j : Int, 128 - (n : Int) ≤ j → j < 128 → ¬ (rT F j kd nb ∧ fN F j 4 = v)) ∨ ((128 - (n : Int) ≤ qCpy F kd nb v n ∧ qCpy F kd nb v n < 128) ∧ (rT F (qCpy F kd nb v n) kd nb ∧ fN F (qCpy F kd nb v n) 4 = v) ∧ ∀ j : Int, 128 - (n : Int) ≤ j → j < qCpy F kd nb v n → ¬ (rT F j kd nb ∧ fN F j 4 = v))
  | 0, _ => Or.inl ⟨rfl, fun j j0 j1 => by omega⟩
  | n + 1, hn => by
    have ih := qCpy_sp F kd nb v n (by omega)
    rw [qCpy_s]
    by_cases c : rT F (127 - n) kd nb ∧ fN F (127 - n) 4 = v
    · rw [if_pos c]; exact Or.inr ⟨by omega, c, fun j j0 j1 => by omega⟩
    · rw [if_neg c]
      rcases ih with ⟨h1, h2⟩ | ⟨h1, h2, h3⟩
      · refine Or.inl ⟨h1, fun j j0 j1 q => ?_⟩
        by_cases e : j = 127 - n
        · subst e; exact c q
        · exact h2 j (by omega) j1 q
      · refine Or.inr ⟨by omega, h2, fun j j0 j1 q => ?_⟩
        by_cases e : j = 127 - n
        · subst e; exact c q
        · exact h3 j (by omega) j1 q
theorem new_live {A : AS} {fl : Int → Int} {nb vb : Int} {S : Tr} {f : Int} (hP : IP A fl nb vb) (hf : jHolds S f 0) (h : qNew (aF A) 1 f 64 2147483647 128 ≠ -1) : ¬ jDead (aF A) (aF A) S (qNew (aF A) 1 f 64 2147483647 128) := by
  have hSn := PA_NS hP.2.1
  rcases qNew_sp (aF A) 1 f 64 2147483647 128 with ⟨h1, -⟩ | ⟨h1, h2, h3⟩
  · exact absurd h1 h
  · generalize qNew (aF A) 1 f 64 2147483647 128 = q at h1 h2 h3
    have w := (rT_W (Or.inl rfl)).mp h2.1
    have hcp : qCpy (aF A) 1 f (fN (aF A) q 4) 128 = q := by
      rcases qCpy_sp (aF A) 1 f (fN (aF A) q 4) 128 (Nat.le_refl _) with ⟨-, c2⟩ | ⟨c1, c2, c3⟩
      · exact absurd ⟨h2.1, rfl⟩ (c2 q (by omega) h1.2)
      · generalize qCpy (aF A) 1 f (fN (aF A) q 4) 128 = c at c1 c2 c3
        rcases Int.lt_trichotomy c q with z | z | z
        · have wc := (rT_W (Or.inl rfl)).mp c2.1
          have s9 := sOK_k (hSn c (by omega) (by omega) wc.1)
          have := (h3 c (by omega) (by omega) ⟨c2.1, by omega, Or.inr ⟨by omega, Or.inl (by omega)⟩⟩).2 z
          omega
        · exact z
        · exact absurd ⟨h2.1, rfl⟩ (c3 q (by omega) z)
    have hq9 : qNew (aF A) 1 f 64 2147483647 128 = q := qNew_is h1.1 h1.2 h2 h3
    intro hd
    rcases hd with z | ⟨-, z⟩
    · exact z ⟨by omega, w.1.2⟩
    · apply z
      unfold jLive
      rw [if_neg (by omega), if_neg (by omega), w.2.2]
      exact ⟨hf, hcp, Or.inl hq9⟩
