/-- the whole DATA and NAME nodes are the same -/
abbrev sameR (F F' : Fl) : Prop := ∀ j, 0 ≤ j → j < 128 → (rW F' j ↔ rW F j) ∧ (rW F j → ∀ k, fN F' j k = fN F j k)
/-- the whole DATA and NAME nodes are the same, and one more -/
abbrev addR (F F' : Fl) (i : Int) (s : Int → Int) : Prop := fN F i 0 = 0 ∧ (∀ k, fN F' i k = if k = 2 then s 1 else s k) ∧ ∀ j, 0 ≤ j → j < 128 → j ≠ i → (rW F' j ↔ rW F j) ∧ (rW F j → ∀ k, fN F' j k = fN F j k)
theorem sameR_refl (F : Fl) : sameR F F := fun _ _ _ => ⟨Iff.rfl, fun _ _ => rfl⟩
theorem sameR_trans {F F1 F2 : Fl} (h : sameR F F1) (k : sameR F1 F2) : sameR F F2 := fun j j0 j1 => by
  obtain ⟨a, b⟩ := h j j0 j1
  obtain ⟨c, d⟩ := k j j0 j1
  exact ⟨c.trans a, fun q r => (d (a.mpr q) r).trans (b q r)⟩
theorem same_add {F F1 F2 : Fl} {i : Int} {s : Int → Int} (i0 : 0 ≤ i) (i1 : i < 128) (h : sameR F F1) (k : addR F1 F2 i s) (h0 : fN F i 0 = 0) : addR F F2 i s := by
  obtain ⟨a, b, c⟩ := k
  refine ⟨h0, b, fun j j0 j1 jn => ?_⟩
  obtain ⟨p, q⟩ := h j j0 j1
  obtain ⟨r, t⟩ := c j j0 j1 jn
  exact ⟨r.trans p, fun z k => (t (p.mpr z) k).trans (q z k)⟩
theorem app_same {F : Fl} {b : Int} {s : Int → Int} {j : Nat} (hA : PA F) (hb : 0 ≤ b ∧ b < 8) (h : s 0 = 3 ∨ (j : Int) < s 1) : sameR F (fApp F b s j) := by
  by_cases hj : j = 0
  · subst hj; unfold fApp; rw [if_pos rfl]; exact sameR_refl F
  intro i i0 i1
  have hc := (hA b hb.1 hb.2).1.1
  have hz := (hA b hb.1 hb.2).2.2.2.1 (fC F b) (by omega) (by omega) 0 (by omega) (by omega)
  by_cases e : i = b * 16 + fC F b
  · have n0 : ¬ rW F i := fun q => by rw [e] at q; have := q.1; omega
    refine ⟨⟨fun q => ?_, fun q => absurd q n0⟩, fun q => absurd q n0⟩
    unfold rW at q
    rw [app_N F b s hj, app_N F b s hj, app_N F b s hj, if_pos e, if_pos e, if_pos e, if_neg (by omega), if_pos rfl, if_neg (by omega)] at q
    omega
  · have z : ∀ k, fN (fApp F b s j) i k = fN F i k := fun k => by rw [app_N F b s hj, if_neg e]
    exact ⟨by unfold rW; rw [z, z, z], fun _ k => z k⟩
theorem app_add {F : Fl} {b : Int} {s : Int → Int} (hA : PA F) (hb : 0 ≤ b ∧ b < 8) (h : 1 ≤ s 1) : addR F (fApp F b s (s 1).toNat) (b * 16 + fC F b) s := by
  have hj : (s 1).toNat ≠ 0 := by omega
  have hc := (hA b hb.1 hb.2).1.1
  refine ⟨(hA b hb.1 hb.2).2.2.2.1 (fC F b) (by omega) (by omega) 0 (by omega) (by omega), fun k => ?_, fun i i0 i1 ne => ?_⟩
  · rw [app_N F b s hj, if_pos rfl, show (((s 1).toNat : Nat) : Int) = s 1 by omega]
  · have z : ∀ k, fN (fApp F b s (s 1).toNat) i k = fN F i k := fun k => by rw [app_N F b s hj, if_neg ne]
    exact ⟨by unfold rW; rw [z, z, z], fun _ k => z k⟩
theorem apR_same {F : Fl} {b : Int} {s : Int → Int} (hA : PA F) (hb : 0 ≤ b ∧ b < 8) (h : s 0 = 3) : sameR F (fApR F b s).1 := by
  by_cases c : 0 ≤ fL F ∧ fL F < s 1
  · rw [apR_0 c]; exact app_same hA hb (Or.inl h)
  · rw [apR_1 c]; exact app_same hA hb (Or.inl h)
theorem apR_false {F : Fl} {b : Int} {s : Int → Int} (h : (fApR F b s).2 = false) : (0 ≤ fL F ∧ fL F < s 1) ∧ fD (fApR F b s).1 = 1 ∧ fL (fApR F b s).1 = -1 := by
  by_cases c : 0 ≤ fL F ∧ fL F < s 1
  · rw [apR_0 c]; exact ⟨c, rfl, rfl⟩
  · rw [apR_1 c] at h; cases h
theorem apR_true {F : Fl} {b : Int} {s : Int → Int} (h : (fApR F b s).2 = true) (hl : -1 ≤ fL F ∧ fL F ≤ 1000) (h1 : 1 ≤ s 1) : (fApR F b s).1 = fApp F b s (s 1).toNat ∧ (-1 ≤ fL (fApR F b s).1 ∧ fL (fApR F b s).1 ≤ 1000) ∧ fD (fApR F b s).1 = fD F := by
  by_cases c : 0 ≤ fL F ∧ fL F < s 1
  · rw [apR_0 c] at h; cases h
  · rw [apR_1 c]
    refine ⟨rfl, ?_, (app_DE F b s _).1⟩
    show -1 ≤ fL (fApp F b s (s 1).toNat) ∧ _
    unfold fApp
    rw [if_neg (by omega)]
    show (-1 ≤ (if fL F < 0 then fL F else fL F - ((s 1).toNat : Int))) ∧ (if fL F < 0 then fL F else fL F - ((s 1).toNat : Int)) ≤ 1000
    split <;> omega
theorem apR_E {F : Fl} {b : Int} {s : Int → Int} : fE (fApR F b s).1 = fE F := by
  by_cases c : 0 ≤ fL F ∧ fL F < s 1
  · rw [apR_0 c]; exact (app_DE F b s _).2
  · rw [apR_1 c]; exact (app_DE F b s _).2
theorem summ_is (c : Int) : isSm (summSrc c) c ∧ summSrc c 0 = 3 ∧ summSrc c 1 = 1 + c := by
  refine ⟨⟨rfl, rfl, fun k k0 k1 => ?_⟩, rfl, rfl⟩
  unfold summSrc; rw [if_neg (by omega), if_neg (by omega)]
theorem allW_app {F : Fl} {b : Int} {s : Int → Int} (hb : 0 ≤ fC F b) (hW : allW F b) (hs : sOK s) : allW (fApp F b s (s 1).toNat) b := by
  have hk := sOK_k hs
  have hj : (s 1).toNat ≠ 0 := by omega
  intro p p0 p1
  rw [app_C F b s hj, if_pos rfl] at p1
  unfold wWhole
  by_cases e : p = fC F b
  · subst e
    rw [app_N F b s hj, app_N F b s hj, app_N F b s hj, if_pos rfl, if_pos rfl, if_pos rfl, if_neg (by omega), if_pos rfl, if_neg (by omega)]
    omega
  · rw [app_N F b s hj, app_N F b s hj, app_N F b s hj, if_neg (by omega), if_neg (by omega), if_neg (by omega)]
    exact hW p p0 (by omega)
theorem allW_other {F : Fl} {b c : Int} {s : Int → Int} {j : Nat} (hj : j ≠ 0) (hc : 0 ≤ fC F b ∧ fC F b < 16) (hc2 : fC F c ≤ 16) (ne : c ≠ b) (hW : allW F c) : allW (fApp F b s j) c := by
  intro p p0 p1
  rw [app_C F b s hj, if_neg ne] at p1
  unfold wWhole
  rw [app_N F b s hj, app_N F b s hj, app_N F b s hj, if_neg (by omega), if_neg (by omega), if_neg (by omega)]
  exact hW p p0 p1
/-- a node put into the current block -/
theorem putIn {F : Fl} {g : Lg} {s : Int → Int} (hA : PA F) (hL : PL F g) (hg : g.1 ≠ -1) (hs : sOK s) (hf : fU F g.1 + s 1 + fC F g.1 + 2 ≤ 40) (h : (fApR F g.1 s).2 = true) :
    PL (fApR F g.1 s).1 g ∧ addR F (fApR F g.1 s).1 (g.1 * 16 + fC F g.1) s ∧ fU (fApR F g.1 s).1 g.1 = fU F g.1 + s 1 ∧ fC (fApR F g.1 s).1 g.1 = fC F g.1 + 1 := by
  obtain ⟨h1, h2, h3, h4, ⟨h5, h6, h7, h8, h9⟩, h10, h11⟩ := hL
  have hk := sOK_k hs
  have hj : (s 1).toNat ≠ 0 := by omega
  have hb : 0 ≤ g.1 ∧ g.1 < 8 := by omega
  have hc := (hA g.1 hb.1 hb.2).1.1
  obtain ⟨a, b, c⟩ := apR_true h h11 (by omega)
  rw [a]
  refine ⟨⟨h1, fun _ => ⟨allW_app hc.1 (h2 hg).1 hs, ?_⟩, fun b hb => ?_, fun b hb => ?_, ⟨h5, h6, h7, h8, h9⟩, h10, by rw [← a]; exact b⟩, app_add hA hb (by omega), ?_, ?_⟩
  · rw [app_U F g.1 s hj, if_pos rfl]; have := (h2 hg).2; omega
  · have := h3 b hb
    rw [app_U F g.1 s hj, app_C F g.1 s hj, if_neg (fun e => h8 (by rw [← e]; exact hb)), if_neg (fun e => h8 (by rw [← e]; exact hb))]
    exact this
  · have := h4 b hb
    rw [app_C F g.1 s hj, if_neg (fun e => h9 (by rw [← e]; exact hb))]
    exact this
  · rw [app_U F g.1 s hj, if_pos rfl]; omega
  · rw [app_C F g.1 s hj, if_pos rfl]
theorem lGo_ok {F : Fl} {g : Lg} {b : Int} {fr : List Int} (hA : PA F) (hL : PL F g) (hfr : g.2.1 = b :: fr) :
    PA (lGo F g).1 ∧ sameR F (lGo F g).1 ∧ fE (lGo F g).1 = fE F ∧
    ((lGo F g).2.2 = true → PL (lGo F g).1 (lGo F g).2.1 ∧ fD (lGo F g).1 = fD F ∧ (lGo F g).2.1.1 = b ∧ (lGo F g).2.1.2.1 = fr ∧ (∀ c ∈ g.2.2, c ∈ (lGo F g).2.1.2.2) ∧ fU (lGo F g).1 b = 1 ∧ fC (lGo F g).1 b = 0) ∧
    ((lGo F g).2.2 = false → fD (lGo F g).1 = 1 ∧ fL (lGo F g).1 = -1) := by
  obtain ⟨h1, h2, h3, h4, ⟨h5, h6, h7, h8, h9⟩, h10, h11⟩ := id hL
  have hbm : b ∈ g.2.1 := by rw [hfr]; exact List.mem_cons_self
  have hb3 := h3 b hbm
  have hsub : ∀ x ∈ fr, x ∈ g.2.1 := fun x hx => by rw [hfr]; exact List.mem_cons_of_mem _ hx
  have hnd : b ∉ fr ∧ fr.Nodup := by rw [hfr] at h5; exact List.nodup_cons.mp h5
  by_cases c : g.1 = -1
  · have e : lGo F g = (F, (b, fr, g.2.2), true) := by unfold lGo; rw [if_pos c, hfr]
    rw [e]
    refine ⟨hA, sameR_refl F, rfl, fun _ => ⟨⟨Or.inr hb3.1, fun _ => ⟨fun p p0 p1 => absurd p1 (by show ¬ p < fC F b; omega), by show 1 ≤ fU F b; omega⟩, fun x hx => h3 x (hsub x hx), h4, ⟨hnd.2, h6, fun x hx => h7 x (hsub x hx), hnd.1, h7 b hbm⟩, fun x x0 x1 => ?_, h11⟩, rfl, rfl, rfl, fun _ q => q, hb3.2.1, hb3.2.2⟩, fun q => by cases q⟩
    rcases h10 x x0 x1 with q | q | q
    · omega
    · rw [hfr] at q
      rcases List.mem_cons.mp q with q | q
      · exact Or.inl q
      · exact Or.inr (Or.inl q)
    · exact Or.inr (Or.inr q)
  · have hb : 0 ≤ g.1 ∧ g.1 < 8 := by omega
    have hc := (hA g.1 hb.1 hb.2).1.1
    obtain ⟨sm, s0, s1⟩ := summ_is (fC F g.1)
    have hPA := PA_apR hA hb (h2 c).1 (h2 c).2 (Or.inr sm)
    have hSR := apR_same hA hb s0
    cases hr : (fApR F g.1 (summSrc (fC F g.1))).2 with
    | false =>
      have e : lGo F g = ((fApR F g.1 (summSrc (fC F g.1))).1, g, false) := by unfold lGo; rw [if_neg c, if_pos hr]
      rw [e]
      exact ⟨hPA, hSR, apR_E, (fun q => by cases q), fun _ => (apR_false hr).2⟩
    | true =>
      have e : lGo F g = ((fApR F g.1 (summSrc (fC F g.1))).1, (b, fr, g.2.2 ++ [g.1]), true) := by unfold lGo; rw [if_neg c, if_neg (by rw [hr]; decide), hfr]
      obtain ⟨a1, a2, a3⟩ := apR_true hr h11 (by omega)
      have hj : (summSrc (fC F g.1) 1).toNat ≠ 0 := by omega
      rw [e]
      have bne : b ≠ g.1 := fun q => h8 (by rw [← q]; exact hbm)
      refine ⟨hPA, hSR, apR_E, fun _ => ⟨⟨Or.inr hb3.1, fun _ => ⟨?_, ?_⟩, fun x hx => ?_, fun x hx => ?_, ⟨hnd.2, ?_, fun x hx => ?_, hnd.1, ?_⟩, fun x x0 x1 => ?_, a2⟩, a3, rfl, rfl, fun _ q => List.mem_append_left _ q, ?_, ?_⟩, fun q => by cases q⟩
      · show allW (fApR F g.1 (summSrc (fC F g.1))).1 b
        rw [a1]
        exact allW_other hj (by omega) (by omega) bne (fun p p0 p1 => absurd p1 (by omega))
      · show 1 ≤ fU (fApR F g.1 (summSrc (fC F g.1))).1 b
        rw [a1, app_U F g.1 _ hj, if_neg bne]; omega
      · have hne : x ≠ g.1 := fun q => h8 (by rw [← q]; exact hsub x hx)
        rw [a1, app_U F g.1 _ hj, app_C F g.1 _ hj, if_neg hne, if_neg hne]; exact h3 x (hsub x hx)
      · rw [a1, app_C F g.1 _ hj]
        rcases List.mem_append.mp hx with q | q
        · have hne : x ≠ g.1 := fun z => h9 (by rw [← z]; exact q)
          rw [if_neg hne]; exact h4 x q
        · rw [List.mem_singleton.mp q, if_pos rfl]; exact ⟨hb, by omega⟩
      · exact List.nodup_append.mpr ⟨h6, by simp, fun x hx y hy => by rw [List.mem_singleton.mp hy]; exact fun z => h9 (by rw [← z]; exact hx)⟩
      · intro q
        rcases List.mem_append.mp q with q | q
        · exact h7 x (hsub x hx) q
        · exact h8 (by rw [← List.mem_singleton.mp q]; exact hsub x hx)
      · intro q
        rcases List.mem_append.mp q with q | q
        · exact h7 b hbm q
        · exact bne (List.mem_singleton.mp q)
      · rcases h10 x x0 x1 with q | q | q
        · exact Or.inr (Or.inr (List.mem_append_right _ (by rw [q]; simp)))
        · rw [hfr] at q
          rcases List.mem_cons.mp q with q | q
          · exact Or.inl q
          · exact Or.inr (Or.inl q)
        · exact Or.inr (Or.inr (List.mem_append_left _ q))
      · show fU (fApR F g.1 (summSrc (fC F g.1))).1 b = 1
        rw [a1, app_U F g.1 _ hj, if_neg bne]; exact hb3.2.1
      · show fC (fApR F g.1 (summSrc (fC F g.1))).1 b = 0
        rw [a1, app_C F g.1 _ hj, if_neg bne]; exact hb3.2.2
/-- what a put of a node does -/
theorem put_ok {F : Fl} {g : Lg} {s : Int → Int} (hA : PA F) (hL : PL F g) (hs : sOK s) (hfr : ¬ (g.1 ≠ -1 ∧ fU F g.1 + s 1 + fC F g.1 + 2 ≤ 40) → g.2.1 ≠ []) :
    PA (lPut F g s).1 ∧ fE (lPut F g s).1 = fE F ∧
    ((lPut F g s).2.2 = true → PL (lPut F g s).1 (lPut F g s).2.1 ∧ fD (lPut F g s).1 = fD F ∧ (∀ c ∈ g.2.2, c ∈ (lPut F g s).2.1.2.2) ∧
      (∃ i, 0 ≤ i ∧ i < 128 ∧ addR F (lPut F g s).1 i s ∧ ∀ c ∈ g.2.2, ¬ (c * 16 ≤ i ∧ i < c * 16 + 16)) ∧
      ∀ e s', trS (s 1) (tr0 F g ((g.2.1.length : Int) - e)) = some s' → tr0 (lPut F g s).1 (lPut F g s).2.1 (((lPut F g s).2.1.2.1.length : Int) - e) = s') ∧
    ((lPut F g s).2.2 = false → fD (lPut F g s).1 = 1 ∧ fL (lPut F g s).1 = -1 ∧ sameR F (lPut F g s).1) := by
  have hk := sOK_k hs
  obtain ⟨h1, h2, h3, h4, ⟨h5, h6, h7, h8, h9⟩, h10, h11⟩ := id hL
  by_cases c : g.1 ≠ -1 ∧ fU F g.1 + s 1 + fC F g.1 + 2 ≤ 40
  · have e : lPut F g s = ((fApR F g.1 s).1, g, (fApR F g.1 s).2) := by unfold lPut; rw [if_pos c]
    have hb : 0 ≤ g.1 ∧ g.1 < 8 := by omega
    have hc := (hA g.1 hb.1 hb.2).1.1
    rw [e]
    refine ⟨PA_apR hA hb (h2 c.1).1 (h2 c.1).2 (Or.inl ⟨hs, c.2⟩), apR_E, fun hr => ?_, fun hr => ?_⟩
    · obtain ⟨p1, p2, p3, p4⟩ := putIn hA hL c.1 hs c.2 hr
      refine ⟨p1, (apR_true hr h11 (by omega)).2.2, fun _ q => q, ⟨_, by omega, by omega, p2, fun x hx q => ?_⟩, fun e s' hs' => ?_⟩
      · have := h4 x hx
        have : x = g.1 := by omega
        exact h9 (by rw [← this]; exact hx)
      · unfold trS tr0 at hs'
        simp only [if_neg c.1] at hs'
        rw [if_pos c.2] at hs'
        cases hs'
        show tr0 (fApR F g.1 s).1 g _ = _
        unfold tr0
        rw [if_neg c.1, if_neg c.1, p3, p4]
    · obtain ⟨q1, q2, q3⟩ := apR_false hr
      refine ⟨q2, q3, ?_⟩
      show sameR F (fApR F g.1 s).1
      rw [apR_0 q1]
      exact app_same hA hb (Or.inr (by omega))
  · obtain ⟨b, fr, hbf⟩ : ∃ b fr, g.2.1 = b :: fr := by
      cases hq : g.2.1 with
      | nil => exact absurd hq (hfr c)
      | cons b fr => exact ⟨b, fr, rfl⟩
    obtain ⟨m1, m2, m3, m4, m5⟩ := lGo_ok hA hL hbf
    cases hr : (lGo F g).2.2 with
    | false =>
      have e : lPut F g s = lGo F g := by unfold lPut; rw [if_neg c, if_pos hr]
      rw [e]
      exact ⟨m1, m3, (fun q => by rw [hr] at q; cases q), fun _ => ⟨(m5 hr).1, (m5 hr).2, m2⟩⟩
    | true =>
      have e : lPut F g s = ((fApR (lGo F g).1 (lGo F g).2.1.1 s).1, (lGo F g).2.1, (fApR (lGo F g).1 (lGo F g).2.1.1 s).2) := by unfold lPut; rw [if_neg c, if_neg (by rw [hr]; decide)]
      obtain ⟨n1, n2, n3, n4, n5, n6, n7⟩ := m4 hr
      rw [e]
      generalize lGo F g = G at m1 m2 m3 n1 n2 n3 n4 n5 n6 n7 ⊢
      obtain ⟨F1, g1, r1⟩ := G
      change PA F1 at m1
      change sameR F F1 at m2
      change fE F1 = fE F at m3
      change PL F1 g1 at n1
      change fD F1 = fD F at n2
      change g1.1 = b at n3
      change g1.2.1 = fr at n4
      change ∀ c ∈ g.2.2, c ∈ g1.2.2 at n5
      change fU F1 b = 1 at n6
      change fC F1 b = 0 at n7
      have hb3 := h3 b (by rw [hbf]; exact List.mem_cons_self)
      have bn1 : g1.1 ≠ -1 := by omega
      rw [← n3] at n6 n7
      have hbb : 0 ≤ g1.1 ∧ g1.1 < 8 := by omega
      obtain ⟨k1, k2, k3, k4, ⟨k5, k6, k7, k8, k9⟩, k10, k11⟩ := id n1
      show PA (fApR F1 g1.1 s).1 ∧ fE (fApR F1 g1.1 s).1 = fE F ∧ ((fApR F1 g1.1 s).2 = true → PL (fApR F1 g1.1 s).1 g1 ∧ fD (fApR F1 g1.1 s).1 = fD F ∧ (∀ c ∈ g.2.2, c ∈ g1.2.2) ∧ (∃ i, 0 ≤ i ∧ i < 128 ∧ addR F (fApR F1 g1.1 s).1 i s ∧ ∀ c ∈ g.2.2, ¬ (c * 16 ≤ i ∧ i < c * 16 + 16)) ∧ ∀ e s', trS (s 1) (tr0 F g ((g.2.1.length : Int) - e)) = some s' → tr0 (fApR F1 g1.1 s).1 g1 ((g1.2.1.length : Int) - e) = s') ∧ ((fApR F1 g1.1 s).2 = false → fD (fApR F1 g1.1 s).1 = 1 ∧ fL (fApR F1 g1.1 s).1 = -1 ∧ sameR F (fApR F1 g1.1 s).1)
      refine ⟨PA_apR m1 hbb (k2 bn1).1 (k2 bn1).2 (Or.inl ⟨hs, by omega⟩), apR_E.trans m3, fun hr => ?_, fun hr => ?_⟩
      · obtain ⟨p1, p2, p3, p4⟩ := putIn m1 n1 bn1 hs (by omega) hr
        refine ⟨p1, (apR_true hr k11 (by omega)).2.2.trans n2, n5, ⟨g1.1 * 16 + fC F1 g1.1, by omega, by omega, same_add (by omega) (by omega) m2 p2 ?_, fun x hx q => ?_⟩, fun e s' hs' => ?_⟩
        · rw [n7, n3]
          exact (hA b hb3.1.1 hb3.1.2).2.2.2.1 0 (by omega) (by omega) 0 (by omega) (by omega)
        · have := h4 x hx
          have : x = g1.1 := by omega
          exact k9 (by rw [← this]; exact n5 x hx)
        · have hlen : (g1.2.1.length : Int) = (g.2.1.length : Int) - 1 := by rw [n4, hbf, List.length_cons]; omega
          unfold trS tr0 at hs'
          have nf : ¬ ((if g.1 = -1 then 40 else fU F g.1) + s 1 + (if g.1 = -1 then 0 else fC F g.1) + 2 ≤ 40) := by
            by_cases q : g.1 = -1
            · rw [if_pos q, if_pos q]; omega
            · rw [if_neg q, if_neg q]; omega
          rw [if_neg nf] at hs'
          change (if 0 < (g.2.1.length : Int) - e then some (1 + s 1, (1 : Int), (g.2.1.length : Int) - e - 1) else none) = some s' at hs'
          split at hs'
          · cases hs'
            unfold tr0
            rw [if_neg bn1, if_neg bn1, p3, p4, n6, n7]
            show (_, _, _) = (_, _, _)
            congr 2
            rw [hlen]; omega
          · cases hs'
      · obtain ⟨q1, q2, q3⟩ := apR_false hr
        refine ⟨q2, q3, sameR_trans m2 ?_⟩
        rw [apR_0 q1]
        exact app_same m1 hbb (Or.inr (by omega))
