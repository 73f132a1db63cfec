/-- what an assignment makes of the tree -/
def asgOK (S : Tr) (d nm t : Int) (S' : Tr) : Prop :=
  tNx S' = tNx S ∧ (∀ n, n ∈ tNl S' ↔ n ∈ tNl S ∧ ¬ (n = tCl S d nm ∧ tFd S' n 4 = 0)) ∧
  (∀ n k, tFd S' n k = tFd S n k + (if k = 4 then (if t ≠ 0 ∧ n = t then 1 else 0) - (if n = tCl S d nm ∧ n ∈ tNl S then 1 else 0) else if k = 5 ∧ n = d then (if t ≠ 0 then 1 else 0) - (if tCl S d nm ∈ tNl S then 1 else 0) else 0)) ∧
  ∀ n j, tCl S' n j = if n = d ∧ j = nm then t else tCl S n j
theorem tInc_f (S : Tr) (d t n k : Int) : tFd (tInc S d t) n k = tFd S n k + ((if k = 4 ∧ n = t then 1 else 0) + if k = 5 ∧ n = d then 1 else 0) := by
  show (if n = d ∧ k = 5 then (if d = t ∧ (5 : Int) = 4 then tFd S t 4 + 1 else tFd S d 5) + 1 else (if n = t ∧ k = 4 then tFd S t 4 + 1 else tFd S n k)) = _
  rw [if_neg (show ¬ (d = t ∧ (5 : Int) = 4) by omega)]
  by_cases a : n = d ∧ k = 5
  · rw [if_pos a, if_neg (by omega), if_pos ⟨a.2, a.1⟩, a.1, a.2]; omega
  · rw [if_neg a, if_neg (show ¬ (k = 5 ∧ n = d) by omega)]
    by_cases b : n = t ∧ k = 4
    · rw [if_pos b, if_pos ⟨b.2, b.1⟩, b.1, b.2]; omega
    · rw [if_neg b, if_neg (by omega)]; omega
theorem tDec_f (S : Tr) (d t n k : Int) : tFd (tDec S d t) n k = tFd S n k - ((if k = 4 ∧ n = t then 1 else 0) + if k = 5 ∧ n = d then 1 else 0) := by
  show (if n = d ∧ k = 5 then (if d = t ∧ (5 : Int) = 4 then tFd S t 4 + -1 else tFd S d 5) + -1 else (if n = t ∧ k = 4 then tFd S t 4 + -1 else tFd S n k)) = _
  rw [if_neg (show ¬ (d = t ∧ (5 : Int) = 4) by omega)]
  by_cases a : n = d ∧ k = 5
  · rw [if_pos a, if_neg (by omega), if_pos ⟨a.2, a.1⟩, a.1, a.2]; omega
  · rw [if_neg a, if_neg (show ¬ (k = 5 ∧ n = d) by omega)]
    by_cases b : n = t ∧ k = 4
    · rw [if_pos b, if_pos ⟨b.2, b.1⟩, b.1, b.2]; omega
    · rw [if_neg b, if_neg (by omega)]; omega
theorem asg_a {S : Tr} {d nm t : Int} (ht : t ≠ 0) (ho : tCl S d nm ∉ tNl S) : asgOK S d nm t (tInc (tSetC S d nm t) d t) := by
  refine ⟨rfl, fun n => ⟨fun q => ⟨q, fun z => ho (by rw [← z.1]; exact q)⟩, fun q => q.1⟩, fun n k => ?_, fun n j => rfl⟩
  rw [tInc_f]
  show tFd S n k + _ = _
  have mo : (n = tCl S d nm ∧ n ∈ tNl S) ↔ False := ⟨fun z => ho (by rw [← z.1]; exact z.2), fun z => z.elim⟩
  simp only [mo, if_neg ho, if_false]
  (repeat' split) <;> omega
theorem asg_fd {S S9 : Tr} {d nm t : Int} (ht : t ≠ 0) (ho : tCl S d nm ∈ tNl S) (h9 : tFd S9 = tFd (tDec (tInc (tSetC S d nm t) d t) d (tCl S d nm))) (n k : Int) : tFd S9 n k = tFd S n k + (if k = 4 then (if t ≠ 0 ∧ n = t then 1 else 0) - (if n = tCl S d nm ∧ n ∈ tNl S then 1 else 0) else if k = 5 ∧ n = d then (if t ≠ 0 then 1 else 0) - (if tCl S d nm ∈ tNl S then 1 else 0) else 0) := by
  rw [h9, tDec_f, tInc_f]
  show tFd S n k + _ - _ = _
  have mo : (n = tCl S d nm ∧ n ∈ tNl S) ↔ n = tCl S d nm := ⟨fun z => z.1, fun z => ⟨z, by rw [z]; exact ho⟩⟩
  simp only [mo, if_pos ho]
  (repeat' split) <;> omega
theorem asg_fd0 {S S9 : Tr} {d nm : Int} (ho : tCl S d nm ∈ tNl S) (h9 : tFd S9 = tFd (tDec (tSetC S d nm 0) d (tCl S d nm))) (n k : Int) : tFd S9 n k = tFd S n k + (if k = 4 then (if (0 : Int) ≠ 0 ∧ n = 0 then 1 else 0) - (if n = tCl S d nm ∧ n ∈ tNl S then 1 else 0) else if k = 5 ∧ n = d then (if (0 : Int) ≠ 0 then 1 else 0) - (if tCl S d nm ∈ tNl S then 1 else 0) else 0) := by
  rw [h9, tDec_f]
  show tFd S n k - _ = _
  have mo : (n = tCl S d nm ∧ n ∈ tNl S) ↔ n = tCl S d nm := ⟨fun z => z.1, fun z => ⟨z, by rw [z]; exact ho⟩⟩
  simp only [mo, if_pos ho]
  (repeat' split) <;> omega
/-- an assignment of an item, or of none -/
theorem sx_X5_assign {μ : nMem} {ε : nEnv} {Q : nOut → nMem → nEnv → Prop} {S : Tr} {a na nm b nb : Int} (hT : CT S μ ε) (hB : tB S) (h0 : (0 : Int) ∉ tNl S) (hA : tAt S μ a na) (hI : tAt S μ b nb) (hnm : 1 ≤ nm ∧ nm < 100) (h : ∀ μ9 S', asgOK S na nm nb S' → CT S' μ9 ε → FrT μ ε μ9 ε → (∀ c x, x ∈ tNl S' → tAt S μ c x → tAt S' μ9 c x) → Q (.inl none) μ9 ε) : Sp mX5_assign [vR 12, vR a, vI nm, vR b] μ ε Q := by
  have hb0 : nb ≠ 0 := fun z => h0 (by rw [← z]; exact tAt_mem hI)
  refine sp_X5_assign hT hB hA hI hnm (fun q μ9 T F K => ?_) (fun q q2 μ9 T F K => ?_) (fun q q2 μ9 l hl T F K => ?_)
  · exact h _ _ (asg_a hb0 q) T F (fun c x _ z => K c x z)
  · exact h _ (tDec (tInc (tSetC S na nm nb) na nb) na (tCl S na nm)) ⟨rfl, fun n => ⟨fun z => ⟨z, fun w => q2 (by have h2 := w.2; rw [w.1] at h2; exact h2)⟩, fun z => z.1⟩, fun n k => asg_fd hb0 q rfl n k, fun n j => rfl⟩ T F (fun c x _ z => K c x z)
  · refine h _ (tNx (tDec (tInc (tSetC S na nm nb) na nb) na (tCl S na nm)), l, tFd (tDec (tInc (tSetC S na nm nb) na nb) na (tCl S na nm)), tCl (tDec (tInc (tSetC S na nm nb) na nb) na (tCl S na nm))) ⟨rfl, fun n => ?_, fun n k => asg_fd hb0 q rfl n k, fun n j => rfl⟩ T F (fun c x hx z => K c x ((hl.2.2 x).mp hx).2 z)
    exact (hl.2.2 n).trans ⟨fun z => ⟨z.1, fun w => z.2 w.1⟩, fun z => ⟨z.1, fun w => z.2 ⟨w, by rw [w]; exact q2⟩⟩⟩
theorem sx_X5_assign0 {μ : nMem} {ε : nEnv} {Q : nOut → nMem → nEnv → Prop} {S : Tr} {a na nm : Int} (hT : CT S μ ε) (hB : tB S) (hA : tAt S μ a na) (hnm : 1 ≤ nm ∧ nm < 100) (h : ∀ μ9 S', asgOK S na nm 0 S' → CT S' μ9 ε → FrT μ ε μ9 ε → (∀ c x, x ∈ tNl S' → tAt S μ c x → tAt S' μ9 c x) → Q (.inl none) μ9 ε) : Sp mX5_assign [vR 12, vR a, vI nm, vR 0] μ ε Q := by
  refine sp_X5_assign0 hT hB hA hnm (fun q μ9 T F K => ?_) (fun q q2 μ9 T F K => ?_) (fun q q2 μ9 l hl T F K => ?_)
  · refine h _ (tSetC S na nm 0) ⟨rfl, fun n => ⟨fun z => ⟨z, fun w => q (by rw [← w.1]; exact z)⟩, fun z => z.1⟩, fun n k => ?_, fun n j => rfl⟩ T F (fun c x _ z => K c x z)
    show tFd S n k = _
    have mo : (n = tCl S na nm ∧ n ∈ tNl S) ↔ False := ⟨fun z => q (by rw [← z.1]; exact z.2), fun z => z.elim⟩
    simp only [mo, if_neg q, if_false]
    (repeat' split) <;> omega
  · exact h _ (tDec (tSetC S na nm 0) na (tCl S na nm)) ⟨rfl, fun n => ⟨fun z => ⟨z, fun w => q2 (by have h2 := w.2; rw [w.1] at h2; exact h2)⟩, fun z => z.1⟩, fun n k => asg_fd0 q rfl n k, fun n j => rfl⟩ T F (fun c x _ z => K c x z)
  · refine h _ (tNx (tDec (tSetC S na nm 0) na (tCl S na nm)), l, tFd (tDec (tSetC S na nm 0) na (tCl S na nm)), tCl (tDec (tSetC S na nm 0) na (tCl S na nm))) ⟨rfl, fun n => ?_, fun n k => asg_fd0 q rfl n k, fun n j => rfl⟩ T F (fun c x hx z => K c x ((hl.2.2 x).mp hx).2 z)
    exact (hl.2.2 n).trans ⟨fun z => ⟨z.1, fun w => z.2 w.1⟩, fun z => ⟨z.1, fun w => z.2 ⟨w, by rw [w]; exact q2⟩⟩⟩
/-! ### the tree tells what the nodes tell -/
def dF (T : Int → Int → Int) (fl : Int → Int) : Int → Int → Int := fun d nm => if T d nm = 0 then 0 else fl (T d nm)
theorem dF_e {T : Int → Int → Int} {fl : Int → Int} {d nm : Int} : dE T (dF T fl) d nm ↔ T d nm ≠ 0 ∧ fl (T d nm) = 1 := by
  unfold dE dF
  constructor
  · rintro ⟨a, b⟩; rw [if_neg a] at b; exact ⟨a, b⟩
  · rintro ⟨a, b⟩; exact ⟨a, by rw [if_neg a]; exact b⟩
theorem dF_gup (T : Int → Int → Int) (fl : Int → Int) (d nm t : Int) : dF (gup T d nm t) fl = gup (dF T fl) d nm (if t = 0 then 0 else fl t) := by
  funext x y
  unfold dF gup
  by_cases c : x = d ∧ y = nm
  · rw [if_pos c, if_pos c]
  · rw [if_neg c, if_neg c]
abbrev tD (T : Int → Int → Int) (fl : Int → Int) (n : Int) : Prop := thD T (dF T fl) n
def inE (T : Int → Int → Int) (fl : Int → Int) (n : Int) : Prop := ∃ d nm, tD T fl d ∧ nmR nm ∧ T d nm = n
noncomputable abbrev lkN (T : Int → Int → Int) (fl : Int → Int) (n : Int) : Nat := lk T (dF T fl) n 2048
abbrev WD (T : Int → Int → Int) (fl : Int → Int) (nx : Int) : Prop := fl 1 = 1 ∧ (∀ n, fl n = 0 ∨ fl n = 1) ∧ (∀ d nm, T d nm = 0 ∨ ((2 ≤ T d nm ∧ T d nm < nx) ∧ 1 ≤ d ∧ d < nx)) ∧ RK T (dF T fl) ∧ 2 ≤ nx ∧ nx ≤ 2000
theorem tD_b {T : Int → Int → Int} {fl : Int → Int} {nx : Int} (hW : WD T fl nx) {d : Int} (h : tD T fl d) : 1 ≤ d ∧ d < nx := by
  rcases thD_c h with e | ⟨x, y, -, -, e, e0, -⟩
  · have := hW.2.2.2.2; omega
  · have := hW.2.2.1 x y; omega
theorem tD_fl {T : Int → Int → Int} {fl : Int → Int} {nx : Int} (hW : WD T fl nx) {d : Int} (h : tD T fl d) : fl d = 1 ∧ (d = 1 ∨ (d ≠ 0 ∧ inE T fl d)) := by
  rcases thD_c h with e | ⟨x, y, h1, h2, e, e0, e1⟩
  · rw [e]; exact ⟨hW.1, Or.inl rfl⟩
  · have := (dF_e (T := T) (fl := fl) (d := x) (nm := y)).mp ⟨by rw [e]; exact e0, e1⟩
    rw [e] at this
    exact ⟨this.2, Or.inr ⟨e0, x, y, h1, h2, e⟩⟩
theorem tD_of {T : Int → Int → Int} {fl : Int → Int} {d : Int} (h1 : fl d = 1) (h : d = 1 ∨ (d ≠ 0 ∧ inE T fl d)) : tD T fl d := by
  rcases h with e | ⟨e0, x, y, h2, h3, e⟩
  · rw [e]; exact thD_1 _ _
  · have hd := (dF_e (T := T) (fl := fl) (d := x) (nm := y)).mpr (by rw [e]; exact ⟨e0, h1⟩)
    have := thD_s h2 h3 hd.1 hd.2
    rw [e] at this; exact this
theorem lk_in {T : Int → Int → Int} {fl : Int → Int} {nx n : Int} (hW : WD T fl nx) : lkN T fl n ≠ 0 ↔ inE T fl n := by
  constructor
  · intro h
    by_cases c : inE T fl n
    · exact c
    · exact absurd ((lk_0 2048).mpr (fun d hd ht nm hm e => c ⟨d, nm, ht, hm, e⟩)) h
  · rintro ⟨d, nm, hd, hm, e⟩ z
    have hb := tD_b hW hd
    have hx := hW.2.2.2.2
    have := (lk_0 2048).mp z d.toNat (by omega)
    rw [show ((d.toNat : Nat) : Int) = d by omega] at this
    exact this hd nm hm e
def TSW (T : Int → Int → Int) (fl : Int → Int) (L : Int → Int) (B : Int → Int → Int) (Vd Vn : Int → Int) (nx : Int) (S : Tr) : Prop :=
  (∀ n, n ∈ tNl S ↔ n = 1 ∨ (n ≠ 0 ∧ inE T fl n)) ∧ (∀ n ∈ tNl S, tFd S n 2 = fl n) ∧
  (∀ d ∈ tNl S, fl d = 1 → (∀ nm, nmR nm → tCl S d nm = T d nm) ∧ tFd S d 5 = cntN (T d) 99 ∧ tFd S d 6 = 0 ∧ tFd S d 3 = Vn d) ∧
  (∀ f ∈ tNl S, fl f = 0 → tFd S f 6 = L f ∧ (∀ p, 0 ≤ p → p < 64 → tCl S f p = B f p) ∧ tFd S f 5 = 0 ∧ tFd S f 3 = Vd f) ∧
  (∀ n ∈ tNl S, tFd S n 4 = (lkN T fl n : Nat)) ∧ tNx S = nx ∧ (∀ n ∈ tNl S, ∀ j, 0 ≤ j → j < 100 → 0 ≤ tCl S n j ∧ tCl S n j ≤ 100000)
theorem cntN_upd {f g : Int → Int} {a : Int} : ∀ k : Nat, 1 ≤ a → a ≤ k → (∀ i : Int, i ≠ a → g i = f i) → cntN g k + (if f a ≠ 0 then 1 else 0) = cntN f k + if g a ≠ 0 then 1 else 0
  | 0, h1, h2, _ => by omega
  | k + 1, h1, h2, h => by
    rw [cntN_s, cntN_s]
    by_cases e : a = (k : Int) + 1
    · have : ∀ m : Nat, m ≤ k → cntN g m = cntN f m := fun m => by
        induction m with
        | zero => intro _; rfl
        | succ m ih => intro hm; rw [cntN_s, cntN_s, ih (by omega), h ((m : Int) + 1) (by omega)]
      rw [this k (Nat.le_refl _), ← e]; omega
    · have := cntN_upd (f := f) (g := g) (a := a) k h1 (by omega) h
      rw [h ((k : Int) + 1) (by omega)]; omega
theorem TSW_tD {T : Int → Int → Int} {fl L : Int → Int} {B : Int → Int → Int} {Vd Vn : Int → Int} {nx : Int} {S : Tr} (hS : TSW T fl L B Vd Vn nx S) (hW : WD T fl nx) (n : Int) : tD T fl n ↔ n ∈ tNl S ∧ fl n = 1 :=
  ⟨fun h => ⟨(hS.1 n).mpr (tD_fl hW h).2, (tD_fl hW h).1⟩, fun h => tD_of h.2 ((hS.1 n).mp h.1)⟩
/-- an assignment keeps the tree true -/
theorem TSW_asg {T : Int → Int → Int} {fl L : Int → Int} {B : Int → Int → Int} {Vd Vn : Int → Int} {nx : Int} {S S' : Tr} {d nm t : Int} (hS : TSW T fl L B Vd Vn nx S) (hW : WD T fl nx) (hd : d ∈ tNl S) (hfd : fl d = 1) (hm : nmR nm) (ht : t = 0 ∨ (t ∈ tNl S ∧ 2 ≤ t ∧ t < nx)) (hA : asgOK S d nm t S')
    (hr : RK (gup T d nm t) (dF (gup T d nm t) fl)) (hD : ∀ n, tD (gup T d nm t) fl n ↔ tD T fl n ∧ ¬ (n = T d nm ∧ n ≠ 0 ∧ lkN (gup T d nm t) fl n = 0)) (hem : T d nm ≠ 0 → fl (T d nm) = 1 → lkN (gup T d nm t) fl (T d nm) = 0 → ∀ x, nmR x → T (T d nm) x = 0) (hdo : d ≠ T d nm) :
    WD (gup T d nm t) fl nx ∧ TSW (gup T d nm t) fl L B Vd Vn nx S' := by
  obtain ⟨s1, s2, s3, s4, s5, s6, s7⟩ := id hS
  obtain ⟨w1, w2, w3, w4, w5, w6⟩ := id hW
  obtain ⟨a1, a2, a3, a4⟩ := hA
  have hdD : tD T fl d := (TSW_tD hS hW d).mpr ⟨hd, hfd⟩
  have hdb := tD_b hW hdD
  have hdD' : tD (gup T d nm t) fl d := (hD d).mpr ⟨hdD, fun z => hdo z.1⟩
  have oc : tCl S d nm = T d nm := (s3 d hd hfd).1 nm hm
  rw [oc] at a2 a3
  have n0S : ∀ n ∈ tNl S, n ≠ 0 := fun n hn => by rcases (s1 n).mp hn with e | e; omega; exact e.1
  have oin : T d nm ∈ tNl S ↔ T d nm ≠ 0 := ⟨fun q => n0S _ q, fun q => (s1 _).mpr (Or.inr ⟨q, d, nm, hdD, hm, rfl⟩)⟩
  have hW' : WD (gup T d nm t) fl nx := ⟨w1, w2, fun x y => by
    by_cases c : x = d ∧ y = nm
    · rw [c.1, c.2, gup_e]; omega
    · rw [gup_n _ _ c]; exact w3 x y, hr, w5, w6⟩
  have hlk : ∀ n, n ≠ 0 → lkN (gup T d nm t) fl n + (if T d nm = n then 1 else 0) = lkN T fl n + if t = n then 1 else 0 := fun n hn => by
    have e := dF_gup T fl d nm t
    unfold lkN
    unfold tD at hD hdD'
    rw [e] at hD hdD' ⊢
    refine lk_upd hm hdD hdD' 2048 (by omega) (by omega) (fun x hx hxd => ⟨fun p q => absurd ((hD x).mp p).1 q, fun p q => ?_⟩)
    have : ¬ ¬ ((x : Int) = T d nm ∧ (x : Int) ≠ 0 ∧ lkN (gup T d nm t) fl x = 0) := fun z => q ((hD x).mpr ⟨p, z⟩)
    have this := Classical.not_not.mp this
    have hx1 := (tD_fl hW p).1
    have hxo := this.1
    rw [hxo] at hx1 this
    have := hem this.2.1 hx1 this.2.2
    refine (ceq_0 99).mpr (fun i i0 i1 z => hn ?_)
    have hz := this i ⟨i0, i1⟩
    rw [hxo] at z
    omega
  have f4 : ∀ n ∈ tNl S, tFd S' n 4 = (lkN (gup T d nm t) fl n : Nat) := fun n hn => by
    rw [a3, if_pos rfl, s5 n hn]
    have := hlk n (n0S n hn)
    by_cases c1 : T d nm = n
    · rw [if_pos c1] at this
      rw [if_pos (show n = T d nm ∧ n ∈ tNl S from ⟨c1.symm, hn⟩)]
      by_cases c2 : t = n
      · rw [if_pos c2] at this
        rw [if_pos (show t ≠ 0 ∧ n = t from ⟨by rw [c2]; exact n0S n hn, c2.symm⟩)]; omega
      · rw [if_neg c2] at this
        rw [if_neg (show ¬ (t ≠ 0 ∧ n = t) from fun z => c2 z.2.symm)]; omega
    · rw [if_neg c1] at this
      rw [if_neg (show ¬ (n = T d nm ∧ n ∈ tNl S) from fun z => c1 z.1.symm)]
      by_cases c2 : t = n
      · rw [if_pos c2] at this
        rw [if_pos (show t ≠ 0 ∧ n = t from ⟨by rw [c2]; exact n0S n hn, c2.symm⟩)]; omega
      · rw [if_neg c2] at this
        rw [if_neg (show ¬ (t ≠ 0 ∧ n = t) from fun z => c2 z.2.symm)]; omega
  have mem' : ∀ n, n ∈ tNl S' ↔ n ∈ tNl S ∧ ¬ (n = T d nm ∧ lkN (gup T d nm t) fl n = 0) := fun n => by
    rw [a2]
    constructor
    · rintro ⟨p, q⟩; exact ⟨p, fun z => q ⟨z.1, by rw [f4 n p, z.2]; rfl⟩⟩
    · rintro ⟨p, q⟩; exact ⟨p, fun z => q ⟨z.1, by have := f4 n p; omega⟩⟩
  have fo : ∀ n k, k ≠ 4 → k ≠ 5 → tFd S' n k = tFd S n k := fun n k k4 k5 => by rw [a3, if_neg k4, if_neg (fun z => k5 z.1)]; omega
  refine ⟨hW', fun n => ?_, fun n hn => ?_, fun x hx hfx => ?_, fun f hf hff => ?_, fun n hn => f4 n ((mem' n).mp hn).1, a1.trans s6, fun n hn j j0 j1 => ?_⟩
  · rw [mem' n, s1 n]
    by_cases e1 : n = 1
    · refine ⟨fun _ => Or.inl e1, fun _ => ⟨Or.inl e1, fun z => ?_⟩⟩
      have := w3 d nm; omega
    · by_cases e0 : n = 0
      · exact ⟨fun z => by omega, fun z => by omega⟩
      · have l1 := lk_in hW (n := n)
        have l2 := lk_in hW' (n := n)
        have l3 := hlk n e0
        constructor
        · rintro ⟨p, q⟩
          refine Or.inr ⟨e0, l2.mp (fun z => ?_)⟩
          have p' := l1.mpr ((p.resolve_left e1).2)
          by_cases c1 : T d nm = n
          · exact q ⟨c1.symm, z⟩
          · rw [if_neg c1] at l3; omega
        · intro p
          have p' := l2.mpr ((p.resolve_left e1).2)
          refine ⟨Or.inr ⟨e0, ?_⟩, fun z => p' z.2⟩
          by_cases c2 : t = n
          · rcases ht with ht | ht
            · omega
            · rw [c2] at ht; exact ((s1 n).mp ht.1).resolve_left e1 |>.2
          · rw [if_neg c2] at l3
            exact l1.mp (by omega)
  · rw [fo n 2 (by omega) (by omega)]; exact s2 n ((mem' n).mp hn).1
  · have hxS := ((mem' x).mp hx).1
    obtain ⟨p1, p2, p3, p4⟩ := s3 x hxS hfx
    refine ⟨fun y hy => ?_, ?_, by rw [fo x 6 (by omega) (by omega)]; exact p3, by rw [fo x 3 (by omega) (by omega)]; exact p4⟩
    · rw [a4]
      unfold gup
      split
      · rfl
      · exact p1 y hy
    · rw [a3, if_neg (by omega), p2]
      by_cases c : x = d
      · have cu := cntN_upd (f := T d) (g := gup T d nm t d) (a := nm) 99 hm.1 hm.2 (fun i hi => gup_n _ _ (fun q => hi q.2))
        rw [gup_e] at cu
        rw [c, if_pos ⟨rfl, rfl⟩]
        by_cases e : T d nm = 0
        · rw [if_neg (fun z => (oin.mp z) e)]
          rw [if_neg (show ¬ T d nm ≠ 0 from fun z => z e)] at cu
          omega
        · rw [if_pos (oin.mpr e)]
          rw [if_pos (show T d nm ≠ 0 from e)] at cu
          omega
      · have : gup T d nm t x = T x := funext (fun y => gup_n _ _ (fun q => c q.1))
        rw [this, if_neg (fun z => c z.2)]; omega
  · have hfS := ((mem' f).mp hf).1
    obtain ⟨p1, p2, p3, p4⟩ := s4 f hfS hff
    have fd : f ≠ d := fun e => by rw [e] at hff; omega
    refine ⟨by rw [fo f 6 (by omega) (by omega)]; exact p1, fun p p0 p1 => by rw [a4, if_neg (fun q => fd q.1)]; exact p2 p p0 p1, ?_, by rw [fo f 3 (by omega) (by omega)]; exact p4⟩
    rw [a3, if_neg (by omega), if_neg (fun z => fd z.2), p3]; rfl
  · rw [a4]
    split
    · omega
    · exact s7 n ((mem' n).mp hn).1 j j0 j1
