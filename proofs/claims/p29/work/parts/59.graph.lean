/-! ### directories: what is there -/
abbrev nmR (nm : Int) : Prop := 1 ≤ nm ∧ nm ≤ 99
/-- the directories that are there -/
def thD (T D : Int → Int → Int) (n : Int) : Prop := ∀ P : Int → Prop, P 1 → (∀ d nm, P d → nmR nm → T d nm ≠ 0 → D d nm = 1 → P (T d nm)) → P n
theorem thD_1 (T D : Int → Int → Int) : thD T D 1 := fun _ p0 _ => p0
theorem thD_s {T D : Int → Int → Int} {d nm : Int} (h : thD T D d) (hn : nmR nm) (h0 : T d nm ≠ 0) (h1 : D d nm = 1) : thD T D (T d nm) := fun P p0 p1 => p1 d nm (h P p0 p1) hn h0 h1
theorem thD_c {T D : Int → Int → Int} {n : Int} (h : thD T D n) : n = 1 ∨ ∃ d nm, thD T D d ∧ nmR nm ∧ T d nm = n ∧ n ≠ 0 ∧ D d nm = 1 :=
  (h (fun n => thD T D n ∧ (n = 1 ∨ ∃ d nm, thD T D d ∧ nmR nm ∧ T d nm = n ∧ n ≠ 0 ∧ D d nm = 1)) ⟨thD_1 T D, Or.inl rfl⟩ (fun d nm hd hn h0 h1 => ⟨thD_s hd.1 hn h0 h1, Or.inr ⟨d, nm, hd.1, hn, rfl, h0, h1⟩⟩)).2
/-- the files that are there -/
def thF (T D : Int → Int → Int) (f : Int) : Prop := ∃ d nm, thD T D d ∧ nmR nm ∧ T d nm = f ∧ f ≠ 0 ∧ D d nm = 0
abbrev RK (T D : Int → Int → Int) : Prop := ∃ r : Int → Nat, ∀ d nm, thD T D d → nmR nm → T d nm ≠ 0 → D d nm = 1 → r d < r (T d nm)
def gup (T : Int → Int → Int) (d0 n0 t : Int) : Int → Int → Int := fun d nm => if d = d0 ∧ nm = n0 then t else T d nm
theorem gup_e (T : Int → Int → Int) (d0 n0 t : Int) : gup T d0 n0 t d0 n0 = t := if_pos ⟨rfl, rfl⟩
theorem gup_n (T : Int → Int → Int) {d0 n0 d nm : Int} (t : Int) (h : ¬ (d = d0 ∧ nm = n0)) : gup T d0 n0 t d nm = T d nm := if_neg h
/-- an edge to a directory -/
abbrev dE (T D : Int → Int → Int) (d nm : Int) : Prop := T d nm ≠ 0 ∧ D d nm = 1
theorem thD_sub {T D T' D' : Int → Int → Int} (h : ∀ d nm, thD T D d → thD T' D' d → nmR nm → dE T D d nm → thD T' D' (T d nm)) {n : Int} (hn : thD T D n) : thD T' D' n :=
  (hn (fun n => thD T D n ∧ thD T' D' n) ⟨thD_1 T D, thD_1 T' D'⟩ (fun d nm hd hm h0 h1 => ⟨thD_s hd.1 hm h0 h1, h d nm hd.1 hd.2 hm ⟨h0, h1⟩⟩)).2
theorem G1 {T D : Int → Int → Int} {d0 n0 t f : Int} (ho : ¬ dE T D d0 n0) (ht : t = 0 ∨ f ≠ 1) (n : Int) : thD (gup T d0 n0 t) (gup D d0 n0 f) n ↔ thD T D n := by
  constructor
  · refine thD_sub (fun d nm _ h1 hm he => ?_)
    by_cases c : d = d0 ∧ nm = n0
    · exfalso
      obtain ⟨e0, e1⟩ := he
      rw [c.1, c.2, gup_e] at e0 e1
      omega
    · obtain ⟨e0, e1⟩ := he
      rw [gup_n _ _ c] at e0 e1 ⊢
      exact thD_s h1 hm e0 e1
  · refine thD_sub (fun d nm _ h1 hm he => ?_)
    by_cases c : d = d0 ∧ nm = n0
    · rw [c.1, c.2] at he; exact absurd he ho
    · have := thD_s (T := gup T d0 n0 t) (D := gup D d0 n0 f) (d := d) (nm := nm) h1 hm (by rw [gup_n _ _ c]; exact he.1) (by rw [gup_n _ _ c]; exact he.2)
      rw [gup_n _ _ c] at this; exact this
theorem G2 {T D : Int → Int → Int} {d0 n0 t f : Int} (ho : ¬ dE T D d0 n0) (ht : thD T D t) (n : Int) : thD (gup T d0 n0 t) (gup D d0 n0 f) n ↔ thD T D n := by
  constructor
  · refine thD_sub (fun d nm _ h1 hm he => ?_)
    by_cases c : d = d0 ∧ nm = n0
    · rw [c.1, c.2, gup_e]; exact ht
    · obtain ⟨e0, e1⟩ := he
      rw [gup_n _ _ c] at e0 e1 ⊢
      exact thD_s h1 hm e0 e1
  · refine thD_sub (fun d nm _ h1 hm he => ?_)
    by_cases c : d = d0 ∧ nm = n0
    · rw [c.1, c.2] at he; exact absurd he ho
    · have := thD_s (T := gup T d0 n0 t) (D := gup D d0 n0 f) (d := d) (nm := nm) h1 hm (by rw [gup_n _ _ c]; exact he.1) (by rw [gup_n _ _ c]; exact he.2)
      rw [gup_n _ _ c] at this; exact this
theorem G3 {T D : Int → Int → Int} {d0 n0 t : Int} (ho : ¬ dE T D d0 n0) (h0 : thD T D d0) (hm0 : nmR n0) (ht : t ≠ 0) (hte : ∀ nm, nmR nm → T t nm = 0) (htd : t ≠ d0) (n : Int) : thD (gup T d0 n0 t) (gup D d0 n0 1) n ↔ thD T D n ∨ n = t := by
  have up : ∀ n, thD T D n → thD (gup T d0 n0 t) (gup D d0 n0 1) n := fun n => by
    refine thD_sub (fun d nm _ h1 hm he => ?_)
    by_cases c : d = d0 ∧ nm = n0
    · rw [c.1, c.2] at he; exact absurd he ho
    · have := thD_s (T := gup T d0 n0 t) (D := gup D d0 n0 1) (d := d) (nm := nm) h1 hm (by rw [gup_n _ _ c]; exact he.1) (by rw [gup_n _ _ c]; exact he.2)
      rw [gup_n _ _ c] at this; exact this
  constructor
  · intro h
    refine h (fun n => thD T D n ∨ n = t) (Or.inl (thD_1 T D)) (fun d nm hd hm e0 e1 => ?_)
    by_cases c : d = d0 ∧ nm = n0
    · rw [c.1, c.2, gup_e]; exact Or.inr rfl
    · rw [gup_n _ _ c] at e0 e1 ⊢
      rcases hd with hd | hd
      · exact Or.inl (thD_s hd hm e0 e1)
      · rw [hd] at e0; exact absurd (hte nm hm) e0
  · rintro (h | h)
    · exact up n h
    · have := thD_s (T := gup T d0 n0 t) (D := gup D d0 n0 1) (d := d0) (nm := n0) (up d0 h0) hm0 (by rw [gup_e]; exact ht) (gup_e _ _ _ _)
      rw [gup_e] at this; rw [h]; exact this
theorem G4_sub {T D : Int → Int → Int} {d0 n0 f : Int} {n : Int} (h : thD (gup T d0 n0 0) (gup D d0 n0 f) n) : thD T D n := by
  refine thD_sub (fun d nm _ h1 hm he => ?_) h
  by_cases c : d = d0 ∧ nm = n0
  · obtain ⟨e0, e1⟩ := he
    rw [c.1, c.2, gup_e] at e0; exact absurd rfl e0
  · obtain ⟨e0, e1⟩ := he
    rw [gup_n _ _ c] at e0 e1 ⊢
    exact thD_s h1 hm e0 e1
theorem G4a {T D : Int → Int → Int} {d0 n0 f : Int} (hr : RK T D) (ho : ∃ d nm, thD T D d ∧ nmR nm ∧ ¬ (d = d0 ∧ nm = n0) ∧ T d nm = T d0 n0 ∧ dE T D d nm) (n : Int) : thD (gup T d0 n0 0) (gup D d0 n0 f) n ↔ thD T D n := by
  refine ⟨G4_sub, fun h => ?_⟩
  obtain ⟨r, hr⟩ := hr
  have main : ∀ N : Nat, ∀ n, r n < N → thD T D n → thD (gup T d0 n0 0) (gup D d0 n0 f) n := by
    intro N
    induction N with
    | zero => intro n hn; exact absurd hn (Nat.not_lt_zero _)
    | succ N ih =>
      intro n hn h
      have step : ∀ d nm, thD T D d → nmR nm → T d nm = n → n ≠ 0 → D d nm = 1 → ¬ (d = d0 ∧ nm = n0) → thD (gup T d0 n0 0) (gup D d0 n0 f) n := fun d nm hd hm e e0 e1 c => by
        have hlt := hr d nm hd hm (by rw [e]; exact e0) e1
        rw [e] at hlt
        have := thD_s (T := gup T d0 n0 0) (D := gup D d0 n0 f) (d := d) (nm := nm) (ih d (by omega) hd) hm (by rw [gup_n _ _ c, e]; exact e0) (by rw [gup_n _ _ c]; exact e1)
        rw [gup_n _ _ c, e] at this; exact this
      rcases thD_c h with e | ⟨d, nm, hd, hm, e, e0, e1⟩
      · rw [e]; exact thD_1 _ _
      · by_cases c : d = d0 ∧ nm = n0
        · obtain ⟨d', nm', hd', hm', c', e', e1'⟩ := ho
          rw [c.1, c.2] at e
          exact step d' nm' hd' hm' (e'.trans e) e0 e1'.2 c'
        · exact step d nm hd hm e e0 e1 c
  exact main (r n + 1) n (Nat.lt_succ_self _) h
theorem G4b {T D : Int → Int → Int} {d0 n0 f : Int} (hE : dE T D d0 n0) (ho : ¬ ∃ d nm, thD T D d ∧ nmR nm ∧ ¬ (d = d0 ∧ nm = n0) ∧ T d nm = T d0 n0 ∧ dE T D d nm) (h1 : T d0 n0 ≠ 1) (hem : ∀ nm, nmR nm → T (T d0 n0) nm = 0) (n : Int) : thD (gup T d0 n0 0) (gup D d0 n0 f) n ↔ thD T D n ∧ n ≠ T d0 n0 := by
  constructor
  · intro h
    refine ⟨G4_sub h, fun e => ?_⟩
    rcases thD_c h with q | ⟨d, nm, hd, hm, q, q0, q1⟩
    · exact h1 (by rw [← e, q])
    · by_cases c : d = d0 ∧ nm = n0
      · rw [c.1, c.2, gup_e] at q; exact q0 q.symm
      · rw [gup_n _ _ c] at q q1
        exact ho ⟨d, nm, G4_sub hd, hm, c, q.trans e, by rw [q]; exact q0, q1⟩
  · rintro ⟨h, hne⟩
    have : thD (gup T d0 n0 0) (gup D d0 n0 f) n ∨ n = T d0 n0 := by
      refine h (fun n => thD (gup T d0 n0 0) (gup D d0 n0 f) n ∨ n = T d0 n0) (Or.inl (thD_1 _ _)) (fun d nm hd hm e0 e1 => ?_)
      by_cases c : d = d0 ∧ nm = n0
      · rw [c.1, c.2]; exact Or.inr rfl
      · rcases hd with hd | hd
        · have := thD_s (T := gup T d0 n0 0) (D := gup D d0 n0 f) (d := d) (nm := nm) hd hm (by rw [gup_n _ _ c]; exact e0) (by rw [gup_n _ _ c]; exact e1)
          rw [gup_n _ _ c] at this; exact Or.inl this
        · rw [hd] at e0; exact absurd (hem nm hm) e0
    exact this.resolve_right hne
/-! ### the order of the directories -/
theorem RK_sub {T D T' D' : Int → Int → Int} (h : RK T D) (hs : ∀ d nm, thD T' D' d → nmR nm → dE T' D' d nm → thD T D d ∧ dE T D d nm ∧ T' d nm = T d nm) : RK T' D' := by
  obtain ⟨r, hr⟩ := h
  refine ⟨r, fun d nm hd hm e0 e1 => ?_⟩
  obtain ⟨a, b, c⟩ := hs d nm hd hm ⟨e0, e1⟩
  rw [c]; exact hr d nm a hm b.1 b.2
theorem RK_G1 {T D : Int → Int → Int} {d0 n0 t f : Int} (h : RK T D) (ho : ¬ dE T D d0 n0) (ht : t = 0 ∨ f ≠ 1) : RK (gup T d0 n0 t) (gup D d0 n0 f) :=
  RK_sub h (fun d nm hd hm he => by
    by_cases c : d = d0 ∧ nm = n0
    · exfalso
      obtain ⟨e0, e1⟩ := he
      rw [c.1, c.2, gup_e] at e0 e1
      omega
    · obtain ⟨e0, e1⟩ := he
      rw [gup_n _ _ c] at e0 e1 ⊢
      exact ⟨(G1 ho ht d).mp hd, ⟨e0, e1⟩, rfl⟩)
theorem RK_G4 {T D : Int → Int → Int} {d0 n0 f : Int} (h : RK T D) : RK (gup T d0 n0 0) (gup D d0 n0 f) :=
  RK_sub h (fun d nm hd hm he => by
    by_cases c : d = d0 ∧ nm = n0
    · exfalso
      obtain ⟨e0, e1⟩ := he
      rw [c.1, c.2, gup_e] at e0
      exact e0 rfl
    · obtain ⟨e0, e1⟩ := he
      rw [gup_n _ _ c] at e0 e1 ⊢
      exact ⟨G4_sub hd, ⟨e0, e1⟩, rfl⟩)
/-- what lies in a directory, or below it -/
def thB (T D : Int → Int → Int) (h x : Int) : Prop := ∀ P : Int → Prop, P h → (∀ d nm, P d → nmR nm → T d nm ≠ 0 → D d nm = 1 → P (T d nm)) → P x
theorem thB_0 (T D : Int → Int → Int) (h : Int) : thB T D h h := fun _ p0 _ => p0
theorem thB_s {T D : Int → Int → Int} {h d nm : Int} (hd : thB T D h d) (hn : nmR nm) (h0 : T d nm ≠ 0) (h1 : D d nm = 1) : thB T D h (T d nm) := fun P p0 p1 => p1 d nm (hd P p0 p1) hn h0 h1
theorem thB_D {T D : Int → Int → Int} {h x : Int} (hh : thD T D h) (hx : thB T D h x) : thD T D x := hx (thD T D) hh (fun _ _ hd hm e0 e1 => thD_s hd hm e0 e1)
theorem RK_G2 {T D : Int → Int → Int} {d0 n0 t f : Int} (h : RK T D) (ho : ¬ dE T D d0 n0) (ht : thD T D t) (hb : ¬ thB T D t d0) : RK (gup T d0 n0 t) (gup D d0 n0 f) := by
  obtain ⟨r, hr⟩ := h
  refine ⟨fun x => @ite Nat (thB T D t x) (Classical.propDecidable _) (r x + r d0 + 1) (r x), fun d nm hd hm e0 e1 => ?_⟩
  have hd' := (G2 ho ht d).mp hd
  by_cases c : d = d0 ∧ nm = n0
  · rw [c.1, c.2, gup_e]
    show @ite Nat (thB T D t d0) (Classical.propDecidable _) _ _ < @ite Nat (thB T D t t) (Classical.propDecidable _) _ _
    rw [if_neg hb, if_pos (thB_0 T D t)]; omega
  · rw [gup_n _ _ c] at e0 e1 ⊢
    have := hr d nm hd' hm e0 e1
    show @ite Nat (thB T D t d) (Classical.propDecidable _) _ _ < @ite Nat (thB T D t (T d nm)) (Classical.propDecidable _) _ _
    by_cases q : thB T D t d
    · rw [if_pos q, if_pos (thB_s q hm e0 e1)]; omega
    · rw [if_neg q]; split <;> omega
theorem RK_G3 {T D : Int → Int → Int} {d0 n0 t : Int} (h : RK T D) (ho : ¬ dE T D d0 n0) (h0 : thD T D d0) (hm0 : nmR n0) (ht : t ≠ 0) (hte : ∀ nm, nmR nm → T t nm = 0) (htd : t ≠ d0) (hti : ∀ d nm, T d nm ≠ t) : RK (gup T d0 n0 t) (gup D d0 n0 1) := by
  obtain ⟨r, hr⟩ := h
  refine ⟨fun x => if x = t then r d0 + 1 else r x, fun d nm hd hm e0 e1 => ?_⟩
  show (if d = t then r d0 + 1 else r d) < (if gup T d0 n0 t d nm = t then r d0 + 1 else r (gup T d0 n0 t d nm))
  by_cases c : d = d0 ∧ nm = n0
  · rw [c.1, c.2, gup_e, if_neg (fun e => htd e.symm), if_pos rfl]; omega
  · rw [gup_n _ _ c] at e0 e1 ⊢
    rcases (G3 ho h0 hm0 ht hte htd d).mp hd with q | q
    · have dt : d ≠ t := fun e => by rw [e] at e0; exact e0 (hte nm hm)
      rw [if_neg dt, if_neg (hti d nm)]; exact hr d nm q hm e0 e1
    · rw [q] at e0; exact absurd (hte nm hm) e0
/-! ### how many names -/
def ceq (f : Int → Int) (n : Int) : Nat → Nat
  | 0 => 0
  | k + 1 => ceq f n k + if f ((k : Int) + 1) = n then 1 else 0
theorem ceq_s (f : Int → Int) (n : Int) (k : Nat) : ceq f n (k + 1) = ceq f n k + if f ((k : Int) + 1) = n then 1 else 0 := rfl
theorem ceq_cg {f g : Int → Int} {n : Int} : ∀ k : Nat, (∀ i : Int, 1 ≤ i → i ≤ k → (f i = n ↔ g i = n)) → ceq f n k = ceq g n k
  | 0, _ => rfl
  | k + 1, h => by
    rw [ceq_s, ceq_s, ceq_cg k (fun i i0 i1 => h i i0 (by omega))]
    have := h ((k : Int) + 1) (by omega) (by omega)
    by_cases c : f ((k : Int) + 1) = n
    · rw [if_pos c, if_pos (this.mp c)]
    · rw [if_neg c, if_neg (fun q => c (this.mpr q))]
theorem ceq_0 {f : Int → Int} {n : Int} : ∀ k : Nat, ceq f n k = 0 ↔ ∀ i : Int, 1 ≤ i → i ≤ k → f i ≠ n
  | 0 => ⟨fun _ i i0 i1 => by omega, fun _ => rfl⟩
  | k + 1 => by
    rw [ceq_s]
    have ih := ceq_0 (f := f) (n := n) k
    constructor
    · intro h i i0 i1
      by_cases e : i = (k : Int) + 1
      · intro q; rw [e] at q; rw [if_pos q] at h; omega
      · exact ih.mp (by omega) i i0 (by omega)
    · intro h
      rw [ih.mpr (fun i i0 i1 => h i i0 (by omega)), if_neg (h _ (by omega) (by omega))]
/-- one place is another value -/
theorem ceq_upd {f g : Int → Int} {a n : Int} : ∀ k : Nat, 1 ≤ a → a ≤ k → (∀ i : Int, i ≠ a → g i = f i) → ceq g n k + (if f a = n then 1 else 0) = ceq f n k + if g a = n then 1 else 0
  | 0, h1, h2, _ => by omega
  | k + 1, h1, h2, h => by
    rw [ceq_s, ceq_s]
    by_cases e : a = (k : Int) + 1
    · have := ceq_cg (f := g) (g := f) (n := n) k (fun i i0 i1 => by rw [h i (by omega)])
      rw [this, ← e]; omega
    · have := ceq_upd (f := f) (g := g) (a := a) (n := n) k h1 (by omega) h
      rw [h ((k : Int) + 1) (by omega)]; omega
/-- how many names a number has -/
noncomputable def lk (T D : Int → Int → Int) (n : Int) : Nat → Nat
  | 0 => 0
  | k + 1 => lk T D n k + @ite Nat (thD T D k) (Classical.propDecidable _) (ceq (T k) n 99) 0
theorem lk_s (T D : Int → Int → Int) (n : Int) (k : Nat) : lk T D n (k + 1) = lk T D n k + @ite Nat (thD T D k) (Classical.propDecidable _) (ceq (T k) n 99) 0 := rfl
theorem lk_cg {T D T' D' : Int → Int → Int} {n : Int} : ∀ k : Nat, (∀ d : Nat, d < k → (thD T' D' d → ¬ thD T D d → ceq (T' d) n 99 = 0) ∧ (thD T D d → ¬ thD T' D' d → ceq (T d) n 99 = 0) ∧ (thD T D d → thD T' D' d → ceq (T' d) n 99 = ceq (T d) n 99)) → lk T' D' n k = lk T D n k
  | 0, _ => rfl
  | k + 1, h => by
    rw [lk_s, lk_s, lk_cg k (fun d hd => h d (by omega))]
    obtain ⟨a, b, c⟩ := h k (by omega)
    by_cases p : thD T D k
    · by_cases q : thD T' D' k
      · rw [if_pos p, if_pos q, c p q]
      · rw [if_pos p, if_neg q, b p q]
    · by_cases q : thD T' D' k
      · rw [if_neg p, if_pos q, a q p]
      · rw [if_neg p, if_neg q]
theorem lk_0 {T D : Int → Int → Int} {n : Int} : ∀ k : Nat, lk T D n k = 0 ↔ ∀ d : Nat, d < k → thD T D d → ∀ nm, nmR nm → T d nm ≠ n
  | 0 => ⟨fun _ d hd => by omega, fun _ => rfl⟩
  | k + 1 => by
    rw [lk_s]
    have ih := lk_0 (T := T) (D := D) (n := n) k
    constructor
    · intro h d hd ht nm hm
      by_cases e : d = k
      · subst e
        rw [if_pos ht] at h
        exact (ceq_0 99).mp (by omega) nm hm.1 hm.2
      · exact ih.mp (by omega) d (by omega) ht nm hm
    · intro h
      rw [ih.mpr (fun d hd => h d (by omega))]
      by_cases p : thD T D k
      · rw [if_pos p, (ceq_0 99).mpr (fun i i0 i1 => h k (by omega) p i ⟨i0, i1⟩)]
      · rw [if_neg p]
theorem lk_upd {T D : Int → Int → Int} {d0 n0 t f n : Int} (hm0 : nmR n0) (h0 : thD T D d0) (h0' : thD (gup T d0 n0 t) (gup D d0 n0 f) d0) : ∀ k : Nat, 0 ≤ d0 → d0 < k → (∀ d : Nat, d < k → (d : Int) ≠ d0 → (thD (gup T d0 n0 t) (gup D d0 n0 f) d → ¬ thD T D d → ceq (T d) n 99 = 0) ∧ (thD T D d → ¬ thD (gup T d0 n0 t) (gup D d0 n0 f) d → ceq (T d) n 99 = 0)) →
    lk (gup T d0 n0 t) (gup D d0 n0 f) n k + (if T d0 n0 = n then 1 else 0) = lk T D n k + if t = n then 1 else 0
  | 0, a, b, _ => by omega
  | k + 1, a, b, h => by
    rw [lk_s, lk_s]
    by_cases e : d0 = k
    · have e1 : lk (gup T d0 n0 t) (gup D d0 n0 f) n k = lk T D n k := lk_cg k (fun d hd => by
        have ce : ceq (gup T d0 n0 t d) n 99 = ceq (T d) n 99 := ceq_cg 99 (fun i _ _ => by rw [gup_n _ _ (by omega)])
        obtain ⟨p, q⟩ := h d (by omega) (by omega)
        exact ⟨fun x y => by rw [ce]; exact p x y, q, fun _ _ => ce⟩)
      have e2 := ceq_upd (f := T d0) (g := gup T d0 n0 t d0) (a := n0) (n := n) 99 hm0.1 hm0.2 (fun i hi => gup_n _ _ (fun q => hi q.2))
      rw [gup_e] at e2
      rw [e1]
      have p : thD T D (k : Int) := e ▸ h0
      have q : thD (gup T d0 n0 t) (gup D d0 n0 f) (k : Int) := e ▸ h0'
      rw [if_pos p, if_pos q, ← e]; omega
    · have ih := lk_upd (T := T) (D := D) (t := t) (f := f) (n := n) hm0 h0 h0' k a (by omega) (fun d hd => h d (by omega))
      have ce : ceq (gup T d0 n0 t k) n 99 = ceq (T k) n 99 := ceq_cg 99 (fun i _ _ => by rw [gup_n _ _ (by omega)])
      obtain ⟨p, q⟩ := h k (by omega) (fun z => e z.symm)
      rw [ce]
      by_cases x : thD T D (k : Int)
      · by_cases y : thD (gup T d0 n0 t) (gup D d0 n0 f) (k : Int)
        · rw [if_pos x, if_pos y]; omega
        · rw [if_pos x, if_neg y, q x y]; omega
      · by_cases y : thD (gup T d0 n0 t) (gup D d0 n0 f) (k : Int)
        · rw [if_neg x, if_pos y, p y x]; omega
        · rw [if_neg x, if_neg y]; omega
