theorem tr_fr {F : Fl} {g : Lg} {u e : Int} {us : List Int} (he : 0 ≤ e) (hu : 0 ≤ u) (h : trL (u :: us) (tr0 F g ((g.2.1.length : Int) - e))) : (∃ s', trS u (tr0 F g ((g.2.1.length : Int) - e)) = some s' ∧ trL us s') ∧ (¬ (g.1 ≠ -1 ∧ fU F g.1 + u + fC F g.1 + 2 ≤ 40) → g.2.1 ≠ []) := by
  cases hq : trS u (tr0 F g ((g.2.1.length : Int) - e)) with
  | none => exact absurd h (trL_0 hq)
  | some s' =>
    refine ⟨⟨s', rfl, (trL_1 hq).mp h⟩, fun c z => ?_⟩
    have nf : ¬ ((if g.1 = -1 then 40 else fU F g.1) + u + (if g.1 = -1 then 0 else fC F g.1) + 2 ≤ 40) ∨ u ≤ 0 := by
      by_cases q : g.1 = -1
      · rw [if_pos q, if_pos q]; omega
      · rw [if_neg q, if_neg q]; omega
    unfold trS tr0 at hq
    by_cases nf2 : (if g.1 = -1 then 40 else fU F g.1) + u + (if g.1 = -1 then 0 else fC F g.1) + 2 ≤ 40
    · by_cases q : g.1 = -1
      · rw [if_pos q, if_pos q] at nf2
        omega
      · rw [if_neg q, if_neg q] at nf2
        exact c ⟨q, nf2⟩
    · rw [if_neg nf2] at hq
      change (if 0 < (g.2.1.length : Int) - e then some (1 + u, (1 : Int), (g.2.1.length : Int) - e - 1) else none) = some s' at hq
      rw [z, if_neg (by simp; omega)] at hq
      cases hq
/-- the rows of a block are gone -/
abbrev remR (F F' : Fl) (b : Int) : Prop := ∀ j k, fN F' j k = if b * 16 ≤ j ∧ j < b * 16 + 16 then 0 else fN F j k
theorem PB_zero {F : Fl} {b : Int} (hU : fU F b = 0 ∨ fU F b = 1) (hC : fC F b = 0) (hN : ∀ p, 0 ≤ p → p < 16 → ∀ k, 0 ≤ k → k ≤ 11 → fN F (b * 16 + p) k = 0) : PB F b := by
  unfold PB
  rw [hC]
  exact ⟨⟨by omega, by omega⟩, Or.inl ⟨rfl, by omega⟩, fun p p0 p1 => by omega, fun p p0 p1 => hN p p0 p1, fun p p0 p1 => by omega, fun _ q => by omega⟩
theorem era_N (F : Fl) (b i k : Int) : fN (fEra F b) i k = if b * 16 ≤ i ∧ i < b * 16 + 16 then 0 else fN F i k := rfl
theorem era_U (F : Fl) (b c : Int) : fU (fEra F b) c = if c = b then 0 else fU F c := rfl
theorem era_C (F : Fl) (b c : Int) : fC (fEra F b) c = if c = b then 0 else fC F c := rfl
theorem PA_era {F : Fl} {b : Int} (hA : PA F) (hb : 0 ≤ b ∧ b < 8) : PA (fEra F b) := by
  intro c c0 c1
  by_cases e : c = b
  · subst e
    exact PB_zero (Or.inl (by rw [era_U, if_pos rfl])) (by rw [era_C, if_pos rfl]) (fun p p0 p1 k _ _ => by rw [era_N, if_pos (by omega)])
  · exact PB_congr (fun p p0 p1 k => by rw [era_N, if_neg (by omega)]) (by rw [era_U, if_neg e]) (by rw [era_C, if_neg e]) (hA c c0 c1)
theorem erR_0 {F : Fl} {b : Int} (h : fL F = 0) : fErR F b = (fDark F, false) := by unfold fErR; rw [if_pos h]
theorem erR_1 {F : Fl} {b : Int} (h : fL F = 1) : fErR F b = (fDark (fEra (fSpd F) b), false) := by unfold fErR; rw [if_neg (by omega), if_pos h]
theorem erR_2 {F : Fl} {b : Int} (h : fL F ≠ 0) (h1 : fL F ≠ 1) : fErR F b = (fSetU (fSpd (fEra (fSpd F) b)) b 1, true) := by unfold fErR; rw [if_neg h, if_neg h1]
theorem erR_true {F : Fl} {b : Int} (h : (fErR F b).2 = true) : fL F ≠ 0 ∧ fL F ≠ 1 := by
  by_cases c : fL F = 0
  · rw [erR_0 c] at h; cases h
  · by_cases c1 : fL F = 1
    · rw [erR_1 c1] at h; cases h
    · exact ⟨c, c1⟩
theorem erT_U (F : Fl) (b c : Int) : fU (fSetU (fSpd (fEra (fSpd F) b)) b 1) c = if c = b then 1 else fU F c := by
  show (if c = b then 1 else (if c = b then 0 else fU F c)) = _
  split <;> rfl
theorem erT_C (F : Fl) (b c : Int) : fC (fSetU (fSpd (fEra (fSpd F) b)) b 1) c = if c = b then 0 else fC F c := rfl
theorem erT_N (F : Fl) (b i k : Int) : fN (fSetU (fSpd (fEra (fSpd F) b)) b 1) i k = if b * 16 ≤ i ∧ i < b * 16 + 16 then 0 else fN F i k := rfl
theorem PA_erT {F : Fl} {b : Int} (hA : PA F) (hb : 0 ≤ b ∧ b < 8) : PA (fSetU (fSpd (fEra (fSpd F) b)) b 1) := by
  intro c c0 c1
  by_cases e : c = b
  · subst e
    exact PB_zero (Or.inr (by rw [erT_U, if_pos rfl])) (by rw [erT_C, if_pos rfl]) (fun p p0 p1 k _ _ => by rw [erT_N, if_pos (by omega)])
  · exact PB_congr (fun p p0 p1 k => by rw [erT_N, if_neg (by omega)]) (by rw [erT_U, if_neg e]) (by rw [erT_C, if_neg e]) (hA c c0 c1)
theorem PA_spd {F : Fl} (hA : PA F) : PA (fSpd F) := hA
theorem PA_dark {F : Fl} (hA : PA F) : PA (fDark F) := hA
theorem PA_erR {F : Fl} {b : Int} (hA : PA F) (hb : 0 ≤ b ∧ b < 8) : PA (fErR F b).1 := by
  by_cases c : fL F = 0
  · rw [erR_0 c]; exact hA
  · by_cases c1 : fL F = 1
    · rw [erR_1 c1]; exact PA_era (F := fSpd F) hA hb
    · rw [erR_2 c c1]; exact PA_erT hA hb
theorem erR_rows {F : Fl} {b : Int} : ((fErR F b).2 = true → remR F (fErR F b).1 b ∧ fD (fErR F b).1 = fD F ∧ (-1 ≤ fL F ∧ fL F ≤ 1000 → -1 ≤ fL (fErR F b).1 ∧ fL (fErR F b).1 ≤ 1000)) ∧ ((fErR F b).2 = false → fD (fErR F b).1 = 1 ∧ fL (fErR F b).1 = -1 ∧ ((∀ j k, fN (fErR F b).1 j k = fN F j k) ∨ remR F (fErR F b).1 b)) := by
  by_cases c : fL F = 0
  · rw [erR_0 c]; exact ⟨(fun q => by cases q), fun _ => ⟨rfl, rfl, Or.inl (fun _ _ => rfl)⟩⟩
  · by_cases c1 : fL F = 1
    · rw [erR_1 c1]; exact ⟨(fun q => by cases q), fun _ => ⟨rfl, rfl, Or.inr (fun _ _ => rfl)⟩⟩
    · rw [erR_2 c c1]
      refine ⟨fun _ => ⟨fun _ _ => rfl, rfl, fun hl => ?_⟩, (fun q => by cases q)⟩
      show -1 ≤ fL (fSpd (fEra (fSpd F) b)) ∧ fL (fSpd (fEra (fSpd F) b)) ≤ 1000
      have e1 : fL (fEra (fSpd F) b) = if fL F < 0 then fL F else fL F - 1 := rfl
      show -1 ≤ (if fL (fEra (fSpd F) b) < 0 then fL (fEra (fSpd F) b) else fL (fEra (fSpd F) b) - 1) ∧ (if fL (fEra (fSpd F) b) < 0 then fL (fEra (fSpd F) b) else fL (fEra (fSpd F) b) - 1) ≤ 1000
      rw [e1]
      split <;> split at * <;> omega
theorem allW_congr {F F' : Fl} {b : Int} (hN : ∀ p, 0 ≤ p → p < fC F b → ∀ k, fN F' (b * 16 + p) k = fN F (b * 16 + p) k) (hC : fC F' b = fC F b) (h : allW F b) : allW F' b := by
  intro p p0 p1
  rw [hC] at p1
  unfold wWhole
  rw [hN p p0 p1, hN p p0 p1, hN p p0 p1]
  exact h p p0 p1
/-- the erase of a closed block -/
theorem free_ok {F : Fl} {g : Lg} {b : Int} (hA : PA F) (hL : PL F g) (hb : b ∈ g.2.2) : g.2.1.length < 8 ∧ PA (lFree F g b).1 ∧
    ((lFree F g b).2.2 = true → PL (lFree F g b).1 (lFree F g b).2.1 ∧ fD (lFree F g b).1 = fD F ∧ remR F (lFree F g b).1 b) ∧
    ((lFree F g b).2.2 = false → fD (lFree F g b).1 = 1 ∧ fL (lFree F g b).1 = -1 ∧ ((∀ j k, fN (lFree F g b).1 j k = fN F j k) ∨ remR F (lFree F g b).1 b)) := by
  obtain ⟨h1, h2, h3, h4, ⟨h5, h6, h7, h8, h9⟩, h10, h11⟩ := id hL
  have hbb := (h4 b hb).1
  have hlen : (b :: g.2.1).length ≤ 8 := len8 (List.nodup_cons.mpr ⟨fun q => h7 b q hb, h5⟩) (fun x hx => by
    rcases List.mem_cons.mp hx with e | e
    · omega
    · exact (h3 x e).1)
  rw [List.length_cons] at hlen
  obtain ⟨r1, r2⟩ := erR_rows (F := F) (b := b)
  refine ⟨by omega, PA_erR hA hbb, fun hr => ?_, fun hr => r2 hr⟩
  have hr : (fErR F b).2 = true := hr
  obtain ⟨a1, a2, a3⟩ := r1 hr
  obtain ⟨t1, t2⟩ := erR_true hr
  refine ⟨?_, a2, a1⟩
  have eg : (lFree F g b).2.1 = (g.1, g.2.1 ++ [b], g.2.2.filter (fun x => !(x == b))) := by unfold lFree; rw [if_pos hr]
  rw [eg]
  have bne : b ≠ g.1 := fun q => h9 (by rw [← q]; exact hb)
  have hmem : ∀ x, x ∈ g.2.2.filter (fun x => !(x == b)) ↔ x ∈ g.2.2 ∧ x ≠ b := fun x => by simp [List.mem_filter]
  have e1 : (lFree F g b).1 = fSetU (fSpd (fEra (fSpd F) b)) b 1 := by show (fErR F b).1 = _; rw [erR_2 t1 t2]
  have e1' : fL (lFree F g b).1 = fL (fErR F b).1 := rfl
  have a3' := a3 h11
  rw [← e1'] at a3'
  refine ⟨h1, fun q => ?_, fun x hx => ?_, fun x hx => ?_, ⟨?_, h6.filter _, fun x hx => ?_, ?_, ?_⟩, fun x x0 x1 => ?_, a3'⟩
  · have hc := (hA g.1 (by omega) (by omega)).1.1
    rw [e1]
    have aw : allW (fSetU (fSpd (fEra (fSpd F) b)) b 1) g.1 := allW_congr (fun p p0 p1 k => by rw [erT_N, if_neg (by omega)]) (by rw [erT_C, if_neg (fun z => bne z.symm)]) (h2 q).1
    refine ⟨aw, ?_⟩
    show 1 ≤ fU (fSetU (fSpd (fEra (fSpd F) b)) b 1) g.1
    rw [erT_U, if_neg (fun z => bne z.symm)]; exact (h2 q).2
  · rw [e1, erT_U, erT_C]
    rcases List.mem_append.mp hx with q | q
    · have : x ≠ b := fun z => h7 x q (by rw [z]; exact hb)
      rw [if_neg this, if_neg this]; exact h3 x q
    · rw [List.mem_singleton.mp q, if_pos rfl, if_pos rfl]; exact ⟨hbb, rfl, rfl⟩
  · have := (hmem x).mp hx
    rw [e1, erT_C, if_neg this.2]; exact h4 x this.1
  · exact List.nodup_append.mpr ⟨h5, by simp, fun x hx y hy => by rw [List.mem_singleton.mp hy]; exact fun z => h7 x hx (by rw [z]; exact hb)⟩
  · intro q
    have := (hmem x).mp q
    rcases List.mem_append.mp hx with z | z
    · exact h7 x z this.1
    · exact this.2 (List.mem_singleton.mp z)
  · intro q
    rcases List.mem_append.mp q with z | z
    · exact h8 z
    · exact bne (List.mem_singleton.mp z).symm
  · intro q; exact h9 ((hmem _).mp q).1
  · by_cases e : x = b
    · exact Or.inr (Or.inl (List.mem_append_right _ (by rw [e]; simp)))
    · rcases h10 x x0 x1 with q | q | q
      · exact Or.inl q
      · exact Or.inr (Or.inl (List.mem_append_left _ q))
      · exact Or.inr (Or.inr ((hmem x).mpr ⟨q, e⟩))
