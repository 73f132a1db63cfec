/-! ### the state of both -/
/-- flash, log, next number, versions of contents, versions of names -/
abbrev AS : Type := Fl × Lg × Int × (Int → Int) × (Int → Int)
abbrev aF (A : AS) : Fl := A.1
abbrev aG (A : AS) : Lg := A.2.1
abbrev aX (A : AS) : Int := A.2.2.1
abbrev aD (A : AS) : Int → Int := A.2.2.2.1
abbrev aN (A : AS) : Int → Int := A.2.2.2.2
def flOK (F : Fl) (fl : Int → Int) : Prop := ∀ i, 0 ≤ i → i < 128 → rW F i → fN F i 0 = 2 → fN F i 10 ≠ 0 → fN F i 11 = fl (fN F i 10)
theorem flOK_TD {F : Fl} {fl : Int → Int} (hS : NS F) (h : flOK F fl) : TD F = dF (TG F) fl := by
  funext d nm
  unfold dF
  by_cases c : TG F d nm = 0
  · rw [if_pos c]
    unfold TD
    by_cases e : qNew F 2 d nm 2147483647 128 = -1
    · rw [if_pos e]
    · rw [if_neg e]
      obtain ⟨a, b⟩ := qNew_rW (Or.inr rfl) e
      have hs := hS _ a.1 a.2 b
      have c' : fN F (qNew F 2 d nm 2147483647 128) 10 = 0 := by unfold TG qTgt at c; rw [if_neg e] at c; exact c
      rcases hs with q | q
      · exact q.2.2.2.2.2.2.2.2.2.2.2
      · exact q.2.2.2.2.2.2.2.2.1 c'
  · rw [if_neg c]
    obtain ⟨i, i0, i1, hT, -, h10, h11, -, -⟩ := TG_row c
    have w := (rT_W (Or.inr rfl)).mp hT
    rw [← h11, ← h10]
    exact h i i0 i1 w.1 w.2.1 (by rw [h10]; exact c)
theorem flOK_same {F F' : Fl} {fl : Int → Int} (hs : sameR F F') (h : flOK F fl) : flOK F' fl := fun i i0 i1 w e0 e1 => by
  have w' := (hs i i0 i1).1.mp w
  have e := (hs i i0 i1).2 w'
  rw [e] at e0 e1
  rw [e, e]; exact h i i0 i1 w' e0 e1
theorem flOK_cover {F F' : Fl} {fl : Int → Int} (hc : cover F' F) (h : flOK F fl) : flOK F' fl := fun i i0 i1 w e0 e1 => by
  obtain ⟨a, a0, a1, a2⟩ := hc i i0 i1 w
  rw [← a2 0 (by omega) (by omega)] at e0
  rw [← a2 10 (by omega) (by omega)] at e1
  rw [← a2 11 (by omega) (by omega), ← a2 10 (by omega) (by omega)]
  exact h a a0.1 a0.2 a1 e0 e1
theorem flOK_add {F F' : Fl} {i : Int} {s fl : Int → Int} (h : addR F F' i s) (hf : flOK F fl) (hs : s 0 = 2 → s 10 ≠ 0 → s 11 = fl (s 10)) : flOK F' fl := fun j j0 j1 w e0 e1 => by
  by_cases c : j = i
  · subst c
    have hi : ∀ x, x ≠ 2 → fN F' j x = s x := fun x hx => by rw [h.2.1 x, if_neg hx]
    rw [hi 0 (by omega)] at e0
    rw [hi 10 (by omega)] at e1
    rw [hi 11 (by omega), hi 10 (by omega)]; exact hs e0 e1
  · obtain ⟨a, b⟩ := h.2.2 j j0 j1 c
    have e := b (a.mp w)
    rw [e] at e0 e1
    rw [e, e]; exact hf j j0 j1 (a.mp w) e0 e1
theorem WD_mono {T : Int → Int → Int} {fl : Int → Int} {nx ny : Int} (h : WD T fl nx) (h1 : nx ≤ ny) (h2 : ny ≤ 2000) : WD T fl ny := by
  obtain ⟨w1, w2, w3, w4, w5, w6⟩ := h
  exact ⟨w1, w2, fun d nm => by have := w3 d nm; omega, w4, by omega, h2⟩
/-- what holds at all times -/
def IB (F : Fl) (nb vb : Int) : Prop := PA F ∧ NU F ∧ NV F nb (fun _ => vb) (fun _ => vb) ∧ (-1 ≤ fL F ∧ fL F ≤ 1000) ∧ ∃ fl, flOK F fl ∧ WD (TG F) fl nb
/-- what holds while there is power -/
def IP (A : AS) (fl : Int → Int) (nb vb : Int) : Prop := fD (aF A) = 0 ∧ PA (aF A) ∧ NU (aF A) ∧ PL (aF A) (aG A) ∧ NV (aF A) (aX A) (aD A) (aN A) ∧ flOK (aF A) fl ∧ WD (TG (aF A)) fl (aX A) ∧ (2 ≤ aX A ∧ aX A ≤ nb) ∧ (∀ n, (0 ≤ aD A n ∧ aD A n ≤ vb) ∧ 0 ≤ aN A n ∧ aN A n ≤ vb) ∧ (∀ n, aX A ≤ n → aD A n = 0 ∧ aN A n = 0)
theorem NV_mono {F : Fl} {nx nb vb : Int} {Vd Vn : Int → Int} (h : NV F nx Vd Vn) (h1 : nx ≤ nb) (h2 : ∀ n, (0 ≤ Vd n ∧ Vd n ≤ vb) ∧ 0 ≤ Vn n ∧ Vn n ≤ vb) : NV F nb (fun _ => vb) (fun _ => vb) := fun i i0 i1 w => by
  obtain ⟨a, b, c, d⟩ := h i i0 i1 w
  have := h2 (fN F i 3)
  exact ⟨by omega, by omega, fun q => by have := c q; show fN F i 4 ≤ vb; omega, fun q => by have := d q; show fN F i 4 ≤ vb; omega⟩
theorem IP_IB {A : AS} {fl : Int → Int} {nb vb : Int} (h : IP A fl nb vb) (hn : nb ≤ 2000) : IB (aF A) nb vb := by
  obtain ⟨h1, h2, h3, h4, h5, h6, h7, h8, h9, h10⟩ := h
  exact ⟨h2, h3, NV_mono h5 h8.2 h9, h4.2.2.2.2.2.2, fl, h6, WD_mono h7 h8.2 hn⟩
theorem IB_mono {F : Fl} {nb vb nb' vb' : Int} (h : IB F nb vb) (h1 : nb ≤ nb') (h2 : vb ≤ vb') (h3 : nb' ≤ 2000) : IB F nb' vb' := by
  obtain ⟨a, b, c, d, fl, e, f⟩ := h
  exact ⟨a, b, fun i i0 i1 w => by
    obtain ⟨p, q, r, s⟩ := c i i0 i1 w
    exact ⟨by omega, by omega, fun z => Int.le_trans (r z) h2, fun z => Int.le_trans (s z) h2⟩, d, fl, e, WD_mono f h1 h3⟩
theorem IP_mono {A : AS} {fl : Int → Int} {nb vb nb' vb' : Int} (h : IP A fl nb vb) (h1 : nb ≤ nb') (h2 : vb ≤ vb') : IP A fl nb' vb' := by
  obtain ⟨a1, a2, a3, a4, a5, a6, a7, a8, a9, a10⟩ := h
  exact ⟨a1, a2, a3, a4, a5, a6, a7, by omega, fun n => by have := a9 n; omega, a10⟩
theorem TG_fun {F F' : Fl} (h : ∀ d nm, TG F' d nm = TG F d nm ∧ TD F' d nm = TD F d nm) : TG F' = TG F ∧ TD F' = TD F := ⟨funext (fun d => funext (fun nm => (h d nm).1)), funext (fun d => funext (fun nm => (h d nm).2))⟩
/-- the power went in the midst of a write -/
theorem IB_same {F F' : Fl} {nb vb : Int} (hs : sameR F F') (hA : PA F') (hl : fL F' = -1) (h : IB F nb vb) : IB F' nb vb := by
  obtain ⟨a, b, c, d, fl, e, f⟩ := h
  obtain ⟨n1, n2, n3, n4⟩ := same_N hs
  refine ⟨hA, n1 b, n3 _ _ _ c, by omega, fl, flOK_same hs e, ?_⟩
  rw [(TG_fun (same_told hs).1).1]; exact f
theorem sOK_new {F : Fl} {nx : Int} {Vd Vn : Int → Int} {s : Int → Int} (hV : NV F nx Vd Vn) (h : (s 0 = 1 ∧ Vd (s 3) < s 4) ∨ (s 0 = 2 ∧ Vn (s 3) < s 4)) : newV F s := fun j j0 j1 w e0 e3 => by
  obtain ⟨-, -, p, q⟩ := hV j j0 j1 w
  rcases h with ⟨a, b⟩ | ⟨a, b⟩
  · have := p (by omega); rw [e3] at this; omega
  · have := q (by omega); rw [e3] at this; omega
def bump (V : Int → Int) (d : Int) : Int → Int := fun n => if n = d then V d + 1 else V n
theorem bump_s (V : Int → Int) (d : Int) : bump V d d = V d + 1 := if_pos rfl
theorem bump_n (V : Int → Int) {d n : Int} (h : n ≠ d) : bump V d n = V n := if_neg h
theorem bump_le (V : Int → Int) (d n : Int) : V n ≤ bump V d n := by
  by_cases c : n = d
  · rw [c, bump_s]; omega
  · rw [bump_n V c]; omega
theorem nmSrc_f (d v nm t td : Int) : nmSrc d v nm t td 0 = 2 ∧ nmSrc d v nm t td 1 = 3 ∧ nmSrc d v nm t td 3 = d ∧ nmSrc d v nm t td 4 = v ∧ nmSrc d v nm t td 5 = nm ∧ nmSrc d v nm t td 6 = 0 ∧ nmSrc d v nm t td 7 = 0 ∧ nmSrc d v nm t td 8 = 0 ∧ nmSrc d v nm t td 9 = 0 ∧ nmSrc d v nm t td 10 = t ∧ nmSrc d v nm t td 11 = td := ⟨rfl, rfl, rfl, rfl, rfl, rfl, rfl, rfl, rfl, rfl, rfl⟩
theorem nmSrc_ok {d v nm t td : Int} (hd : 1 ≤ d ∧ d ≤ 2000) (hv : 1 ≤ v ∧ v ≤ 4000) (hn : nmR nm) (ht : t = 0 ∨ (2 ≤ t ∧ t ≤ 2000)) (htd : td = 0 ∨ td = 1) (h0 : t = 0 → td = 0) : sOK (nmSrc d v nm t td) := by
  obtain ⟨e0, e1, e3, e4, e5, e6, e7, e8, e9, e10, e11⟩ := nmSrc_f d v nm t td
  unfold sOK
  rw [e0, e1, e3, e4, e5, e6, e7, e8, e9, e10, e11]
  exact Or.inr ⟨rfl, rfl, by omega, hv, hn, by omega, by omega, htd, h0, rfl, rfl, rfl, rfl⟩
/-- a put of a name -/
theorem IP_name {A : AS} {fl : Int → Int} {nb vb d nm t nx' : Int} (h : IP A fl nb vb) (hv : vb + 1 ≤ 4000) (hn : nb ≤ 2000) (hd : 1 ≤ d ∧ d < aX A) (hm : nmR nm) (ht : t = 0 ∨ (2 ≤ t ∧ t < nx')) (hx : aX A ≤ nx' ∧ nx' ≤ nb) (hfr : ¬ ((aG A).1 ≠ -1 ∧ fU (aF A) (aG A).1 + 3 + fC (aF A) (aG A).1 + 2 ≤ 40) → (aG A).2.1 ≠ []) {R : Fl × Lg × Bool} (hR : R = lPut (aF A) (aG A) (nmSrc d (aN A d + 1) nm t (if t = 0 then 0 else fl t))) :
    (R.2.2 = true → (WD (gup (TG (aF A)) d nm t) fl nx' → IP (R.1, R.2.1, nx', aD A, bump (aN A) d) fl nb (vb + 1)) ∧ TG R.1 = gup (TG (aF A)) d nm t ∧ LN R.1 = LN (aF A) ∧ BY R.1 = BY (aF A) ∧ fD R.1 = 0 ∧ PL R.1 R.2.1 ∧ (∀ u us e s', trS 3 (tr0 (aF A) (aG A) (((aG A).2.1.length : Int) - e)) = some s' → (trL (u :: us) s' ↔ trL (u :: us) (tr0 R.1 R.2.1 ((R.2.1.2.1.length : Int) - e)))) ∧ PA R.1) ∧
    (R.2.2 = false → fD R.1 = 1 ∧ IB R.1 nb vb) := by
  obtain ⟨h1, h2, h3, h4, h5, h6, h7, h8, h9, h10⟩ := id h
  have hb := h9 d
  obtain ⟨e0, e1, e3, e4, e5, e6, e7, e8, e9, e10, e11⟩ := nmSrc_f d (aN A d + 1) nm t (if t = 0 then 0 else fl t)
  have hs : sOK (nmSrc d (aN A d + 1) nm t (if t = 0 then 0 else fl t)) := nmSrc_ok (by omega) (by omega) hm (by omega) (by split; exact Or.inl rfl; exact h7.2.1 t) (fun z => if_pos z)
  obtain ⟨p1, p2, p3, p4⟩ := put_ok h2 h4 hs (by rw [e1]; exact hfr)
  have hS := PA_NS h2
  rw [← hR] at p1 p2 p3 p4
  generalize nmSrc d (aN A d + 1) nm t (if t = 0 then 0 else fl t) = s at e0 e1 e3 e4 e5 e6 e7 e8 e9 e10 e11 hs p1 p2 p3 p4
  have hnv : newV (aF A) s := sOK_new h5 (Or.inr ⟨e0, by rw [e3, e4]; omega⟩)
  refine ⟨fun hr => ?_, fun hr => ?_⟩
  · obtain ⟨q1, q2, q3, ⟨i, i0, i1, q4, -⟩, q5⟩ := p3 hr
    obtain ⟨t1, t2, t3⟩ := add_told i0 i1 q4 hs hS hnv
    have eT : TG R.1 = gup (TG (aF A)) d nm t := by
      funext x y
      rw [(t1 x y).1, e0, e3, e5, e10]
      unfold gup
      by_cases c : x = d ∧ y = nm
      · rw [if_pos ⟨rfl, c⟩, if_pos c]
      · rw [if_neg (fun z => c z.2), if_neg c]
    refine ⟨fun hw => ⟨q2.trans h1, p1, add_NU q4 h3 hnv, q1, ?_, ?_, ?_, ⟨by show 2 ≤ nx'; omega, hx.2⟩, fun n => ?_, fun n hn => ?_⟩, eT, funext (fun f => by rw [t2 f, if_neg (fun z => by omega)]), funext (fun f => funext (fun p => by rw [t3 f p, if_neg (fun z => by omega)])), q2.trans h1, q1, fun u us e s' hs' => ?_, p1⟩
    · show NV R.1 nx' (aD A) (bump (aN A) d)
      refine add_NV q4 h5 hx.1 (fun _ => Int.le_refl _) (fun x => bump_le (aN A) d x) ⟨by rw [e3]; omega, by rw [e10]; omega, fun z => by omega, fun _ => ?_⟩
      rw [e3, e4, bump_s]; exact Int.le_refl _
    · refine flOK_add q4 h6 (fun _ z => ?_)
      rw [e10] at z
      rw [e11, e10, if_neg z]
    · show WD (TG R.1) fl nx'
      rw [eT]; exact hw
    · have := h9 n
      show (0 ≤ aD A n ∧ aD A n ≤ vb + 1) ∧ 0 ≤ bump (aN A) d n ∧ bump (aN A) d n ≤ vb + 1
      by_cases c : n = d
      · rw [c, bump_s]; have := h9 d; omega
      · rw [bump_n _ c]; omega
    · have hn : nx' ≤ n := hn
      have := h10 n (by omega)
      show aD A n = 0 ∧ bump (aN A) d n = 0
      rw [bump_n _ (by omega)]; exact this
    · rw [← e1] at hs'
      rw [q5 e s' hs']
  · obtain ⟨q1, q2, q3⟩ := p4 hr
    exact ⟨q1, IB_same q3 p1 q2 (IP_IB h hn)⟩
/-- what a node says that holds content -/
def dbSrc (f v o z b n : Int) : Int → Int := fun k => if k = 0 then 1 else if k = 1 then 2 + n else if k = 3 then f else if k = 4 then v else if k = 5 then o else if k = 6 then n else if k = 7 then b else if k = 8 then jShl (jShl 1 n - 1) o else if k = 9 then z else 0
theorem dbSrc_f (f v o z b n : Int) : dbSrc f v o z b n 0 = 1 ∧ dbSrc f v o z b n 1 = 2 + n ∧ dbSrc f v o z b n 3 = f ∧ dbSrc f v o z b n 4 = v ∧ dbSrc f v o z b n 5 = o ∧ dbSrc f v o z b n 6 = n ∧ dbSrc f v o z b n 7 = b ∧ dbSrc f v o z b n 8 = jShl (jShl 1 n - 1) o ∧ dbSrc f v o z b n 9 = z ∧ dbSrc f v o z b n 10 = 0 ∧ dbSrc f v o z b n 11 = 0 := ⟨rfl, rfl, rfl, rfl, rfl, rfl, rfl, rfl, rfl, rfl, rfl⟩
theorem dbSrc_ok {f v o z b n : Int} (hf : 2 ≤ f ∧ f ≤ 2000) (hv : 1 ≤ v ∧ v ≤ 4000) (ho : 0 ≤ o ∧ o ≤ 63) (hn : 0 ≤ n ∧ n ≤ 8) (hz : o + n ≤ z ∧ z ≤ 64) : sOK (dbSrc f v o z b n) := by
  obtain ⟨e0, e1, e3, e4, e5, e6, e7, e8, e9, e10, e11⟩ := dbSrc_f f v o z b n
  unfold sOK
  rw [e0, e1, e3, e4, e5, e6, e8, e9, e10, e11]
  exact Or.inl ⟨rfl, rfl, by omega, hf, hv, ho.1, ho.2, hz.1, hz.2, rfl, rfl, rfl⟩
/-- a put of content -/
theorem IP_data {A : AS} {fl : Int → Int} {nb vb f o z b n nx' : Int} (h : IP A fl nb vb) (hv : vb + 1 ≤ 4000) (hn : nb ≤ 2000) (hf : 2 ≤ f ∧ f < nx') (ho : 0 ≤ o ∧ o ≤ 63) (hnn : 0 ≤ n ∧ n ≤ 8) (hz : o + n ≤ z ∧ z ≤ 64) (hx : aX A ≤ nx' ∧ nx' ≤ nb) (hfr : ¬ ((aG A).1 ≠ -1 ∧ fU (aF A) (aG A).1 + (2 + n) + fC (aF A) (aG A).1 + 2 ≤ 40) → (aG A).2.1 ≠ []) {R : Fl × Lg × Bool} (hR : R = lPut (aF A) (aG A) (dbSrc f (aD A f + 1) o z b n)) :
    (R.2.2 = true → IP (R.1, R.2.1, nx', bump (aD A) f, aN A) fl nb (vb + 1) ∧ TG R.1 = TG (aF A) ∧ LN R.1 = (fun x => if x = f then z else LN (aF A) x) ∧ BY R.1 = (fun x p => if x = f ∧ sSet (dbSrc f (aD A f + 1) o z b n) p then sByt (dbSrc f (aD A f + 1) o z b n) p else BY (aF A) x p) ∧ (∀ u us e s', trS (2 + n) (tr0 (aF A) (aG A) (((aG A).2.1.length : Int) - e)) = some s' → (trL (u :: us) s' ↔ trL (u :: us) (tr0 R.1 R.2.1 ((R.2.1.2.1.length : Int) - e))))) ∧
    (R.2.2 = false → fD R.1 = 1 ∧ IB R.1 nb vb) := by
  obtain ⟨h1, h2, h3, h4, h5, h6, h7, h8, h9, h10⟩ := id h
  have hb := h9 f
  obtain ⟨e0, e1, e3, e4, e5, e6, e7, e8, e9, e10, e11⟩ := dbSrc_f f (aD A f + 1) o z b n
  have hs : sOK (dbSrc f (aD A f + 1) o z b n) := dbSrc_ok (by omega) (by omega) ho hnn hz
  obtain ⟨p1, p2, p3, p4⟩ := put_ok h2 h4 hs (by rw [e1]; exact hfr)
  have hS := PA_NS h2
  rw [← hR] at p1 p2 p3 p4
  generalize dbSrc f (aD A f + 1) o z b n = s at e0 e1 e3 e4 e5 e6 e7 e8 e9 e10 e11 hs p1 p2 p3 p4 ⊢
  have hnv : newV (aF A) s := sOK_new h5 (Or.inl ⟨e0, by rw [e3, e4]; omega⟩)
  refine ⟨fun hr => ?_, fun hr => ?_⟩
  · obtain ⟨q1, q2, q3, ⟨i, i0, i1, q4, -⟩, q5⟩ := p3 hr
    obtain ⟨t1, t2, t3⟩ := add_told i0 i1 q4 hs hS hnv
    have eT : TG R.1 = TG (aF A) := by
      funext x y
      rw [(t1 x y).1, if_neg (fun q => by omega)]
    refine ⟨⟨q2.trans h1, p1, add_NU q4 h3 hnv, q1, ?_, flOK_add q4 h6 (fun q _ => by omega), ?_, ⟨by show 2 ≤ nx'; omega, hx.2⟩, fun n => ?_, fun n hn => ?_⟩, eT, funext (fun x => ?_), funext (fun x => funext (fun p => ?_)), fun u us e s' hs' => ?_⟩
    · show NV R.1 nx' (bump (aD A) f) (aN A)
      refine add_NV q4 h5 hx.1 (fun x => bump_le (aD A) f x) (fun _ => Int.le_refl _) ⟨by rw [e3]; omega, by rw [e10]; omega, fun _ => ?_, fun q => by omega⟩
      rw [e3, e4, bump_s]; exact Int.le_refl _
    · show WD (TG R.1) fl nx'
      rw [eT]; exact WD_mono h7 hx.1 (by omega)
    · have := h9 n
      show (0 ≤ bump (aD A) f n ∧ bump (aD A) f n ≤ vb + 1) ∧ 0 ≤ aN A n ∧ aN A n ≤ vb + 1
      by_cases c : n = f
      · rw [c, bump_s]; have := h9 f; omega
      · rw [bump_n _ c]; omega
    · have hn : nx' ≤ n := hn
      have := h10 n (by omega)
      show bump (aD A) f n = 0 ∧ aN A n = 0
      rw [bump_n _ (by omega)]; exact this
    · rw [t2 x, e3, e9]
      by_cases c : x = f
      · rw [if_pos ⟨e0, c⟩, if_pos c]
      · rw [if_neg (fun q => c q.2), if_neg c]
    · rw [t3 x p, e3]
      by_cases c : x = f ∧ sSet s p
      · rw [if_pos ⟨e0, c⟩, if_pos c]
      · rw [if_neg (fun q => c q.2), if_neg c]
    · rw [← e1] at hs'
      rw [q5 e s' hs']
  · obtain ⟨q1, q2, q3⟩ := p4 hr
    exact ⟨q1, IB_same q3 p1 q2 (IP_IB h hn)⟩
