/-! ### what the blocks hold: there is room for the copies, and at most one is broken -/
noncomputable def vB (F : Fl) (b : Int) : Nat → Int
  | 0 => 0
  | k + 1 => vB F b k + pI (rW F (b * 16 + k)) (fN F (b * 16 + k) 1 + 1) 0
theorem vB_s (F : Fl) (b : Int) (k : Nat) : vB F b (k + 1) = vB F b k + pI (rW F (b * 16 + k)) (fN F (b * 16 + k) 1 + 1) 0 := rfl
theorem vB_cg {F F' : Fl} {b : Int} : ∀ k : Nat, (∀ p : Int, 0 ≤ p → p < k → (rW F' (b * 16 + p) ↔ rW F (b * 16 + p)) ∧ (rW F (b * 16 + p) → fN F' (b * 16 + p) 1 = fN F (b * 16 + p) 1)) → vB F' b k = vB F b k
  | 0, _ => rfl
  | k + 1, h => by
    rw [vB_s, vB_s, vB_cg k (fun p p0 p1 => h p p0 (by omega))]
    obtain ⟨x, y⟩ := h k (by omega) (by omega)
    by_cases c : rW F (b * 16 + k)
    · rw [pI_1 c, pI_1 (x.mpr c), y c]
    · rw [pI_0 c, pI_0 (fun z => c (x.mp z))]
theorem vB_add {F F' : Fl} {b i : Int} : ∀ k : Nat, 0 ≤ i → (∀ p : Int, 0 ≤ p → p < k → p ≠ i → (rW F' (b * 16 + p) ↔ rW F (b * 16 + p)) ∧ (rW F (b * 16 + p) → fN F' (b * 16 + p) 1 = fN F (b * 16 + p) 1)) → ¬ rW F (b * 16 + i) → vB F' b k = vB F b k + if i < k then pI (rW F' (b * 16 + i)) (fN F' (b * 16 + i) 1 + 1) 0 else 0
  | 0, h0, _, _ => by rw [if_neg (by omega)]; rfl
  | k + 1, h0, h, hn => by
    rw [vB_s, vB_s, vB_add k h0 (fun p p0 p1 => h p p0 (by omega)) hn]
    by_cases e : i = k
    · subst e
      rw [if_neg (by omega), if_pos (by omega), pI_0 hn, Int.add_zero]
    · obtain ⟨x, y⟩ := h k (by omega) (by omega) (fun z => e z.symm)
      have hk : pI (rW F' (b * 16 + k)) (fN F' (b * 16 + k) 1 + 1) 0 = pI (rW F (b * 16 + k)) (fN F (b * 16 + k) 1 + 1) 0 := by
        by_cases c : rW F (b * 16 + k)
        · rw [pI_1 c, pI_1 (x.mpr c), y c]
        · rw [pI_0 c, pI_0 (fun z => c (x.mp z))]
      rw [hk]
      by_cases c : i < k
      · rw [if_pos c, if_pos (by omega)]; omega
      · rw [if_neg c, if_neg (by omega)]; omega
theorem vB_0 {F : Fl} {b : Int} (h : ∀ p : Int, 0 ≤ p → p < 16 → ¬ rW F (b * 16 + p)) : ∀ k : Nat, k ≤ 16 → vB F b k = 0
  | 0, _ => rfl
  | k + 1, hk => by rw [vB_s, vB_0 h k (by omega), pI_0 (h k (by omega) (by omega))]; rfl
def VI (F : Fl) : Prop := ∀ b, 0 ≤ b → b < 8 → vB F b 16 ≤ 38 ∧ (1 ≤ fU F b → vB F b 16 + 1 ≤ fU F b + fC F b)
def BI (F : Fl) : Prop := ∀ b c, 0 ≤ b → b < 8 → 0 ≤ c → c < 8 → fU F b = 0 → fU F c = 0 → b = c
def ZI (F : Fl) : Prop := ∀ b, 0 ≤ b → b < 8 → fU F b ≠ 0
theorem ZI_BI {F : Fl} (h : ZI F) : BI F := fun b _ b0 b1 _ _ e _ => absurd e (h b b0 b1)
theorem VI_cg {F F' : Fl} (hN : ∀ i k, fN F' i k = fN F i k) (hU : ∀ b, fU F' b = fU F b) (hC : ∀ b, fC F' b = fC F b) (h : VI F) : VI F' := fun b b0 b1 => by
  have e : vB F' b 16 = vB F b 16 := vB_cg 16 (fun p _ _ => by unfold rW; rw [hN, hN, hN]; exact ⟨Iff.rfl, fun _ => rfl⟩)
  rw [e, hU, hC]; exact h b b0 b1
theorem VI_app {F : Fl} {b : Int} {s : Int → Int} {j : Nat} (hA : PA F) (hb : 0 ≤ b ∧ b < 8) (hz : 1 ≤ fU F b) (hs : (sOK s ∧ fU F b + s 1 + fC F b + 2 ≤ 40) ∨ s 0 = 3) (hj2 : (j : Int) ≤ s 1) (h : VI F) : VI (fApp F b s j) := by
  by_cases hj : j = 0
  · subst hj; unfold fApp; rw [if_pos rfl]; exact h
  have hN := app_N F b s hj
  obtain ⟨⟨⟨c0, c1⟩, -⟩, -, -, z4, -, -⟩ := hA b hb.1 hb.2
  intro c d0 d1
  rw [app_U F b s hj, app_C F b s hj]
  obtain ⟨v1, v2⟩ := h c d0 d1
  by_cases e : c = b
  · subst e
    rw [if_pos rfl, if_pos rfl]
    have v2 := v2 hz
    have hn : ¬ rW F (c * 16 + fC F c) := fun q => by
      have := z4 (fC F c) (Int.le_refl _) (by omega) 0 (by omega) (by omega)
      have := q.1; omega
    have ea := vB_add (F := F) (F' := fApp F c s j) (b := c) (i := fC F c) 16 c0 (fun p p0 p1 hp => by
      have hq : ∀ k, fN (fApp F c s j) (c * 16 + p) k = fN F (c * 16 + p) k := fun k => by rw [hN, if_neg (by omega)]
      unfold rW; rw [hq, hq, hq]; exact ⟨Iff.rfl, fun _ => rfl⟩) hn
    rw [if_pos (by omega)] at ea
    rw [ea]
    by_cases w : rW (fApp F c s j) (c * 16 + fC F c)
    · rw [pI_1 w]
      have w2 := w
      unfold rW at w2
      rw [hN, hN, hN, if_pos rfl, if_pos rfl, if_pos rfl, if_neg (by omega), if_pos rfl, if_neg (by omega)] at w2
      rw [hN, if_pos rfl, if_neg (by omega)]
      rcases hs with ⟨hs, hf⟩ | hs
      · exact ⟨by omega, fun _ => by omega⟩
      · omega
    · rw [pI_0 w]; exact ⟨by omega, fun _ => by omega⟩
  · rw [if_neg e, if_neg e]
    have ec : vB (fApp F b s j) c 16 = vB F c 16 := vB_cg 16 (fun p p0 p1 => by
      have hq : ∀ k, fN (fApp F b s j) (c * 16 + p) k = fN F (c * 16 + p) k := fun k => by rw [hN, if_neg (by omega)]
      unfold rW; rw [hq, hq, hq]; exact ⟨Iff.rfl, fun _ => rfl⟩)
    rw [ec]; exact ⟨v1, v2⟩
theorem VI_dk {F : Fl} (h : VI F) : VI (fDark F) := VI_cg (fun _ _ => rfl) (fun _ => rfl) (fun _ => rfl) h
theorem ZI_app {F : Fl} {b : Int} {s : Int → Int} {j : Nat} (hA : PA F) (h : ZI F) : ZI (fApp F b s j) := by
  by_cases hj : j = 0
  · subst hj; unfold fApp; rw [if_pos rfl]; exact h
  intro c d0 d1
  rw [app_U F b s hj]
  have := h c d0 d1
  by_cases e : c = b
  · have := (hA c d0 d1).1.2
    rw [if_pos e, ← e]; omega
  · rw [if_neg e]; exact this
theorem VI_apR {F : Fl} {b : Int} {s : Int → Int} (hA : PA F) (hb : 0 ≤ b ∧ b < 8) (hz : 1 ≤ fU F b) (h1 : 1 ≤ s 1) (hs : (sOK s ∧ fU F b + s 1 + fC F b + 2 ≤ 40) ∨ s 0 = 3) (h : VI F) (hZ : ZI F) : VI (fApR F b s).1 ∧ ZI (fApR F b s).1 := by
  by_cases c : 0 ≤ fL F ∧ fL F < s 1
  · rw [apR_0 c]
    exact ⟨VI_dk (VI_app hA hb hz hs (by omega) h), ZI_app hA hZ⟩
  · rw [apR_1 c]
    exact ⟨VI_app hA hb hz hs (by omega) h, ZI_app hA hZ⟩
theorem PL_ZI {F : Fl} {g : Lg} (hA : PA F) (h : PL F g) : ZI F := fun b b0 b1 e => by
  obtain ⟨h1, h2, h3, h4, -, h6, -⟩ := h
  rcases h6 b b0 b1 with q | q | q
  · have := (h2 (by omega)).2; rw [← q] at this; omega
  · have := (h3 b q).2.1; omega
  · have := (h4 b q).2
    have := (hA b b0 b1).2.1; omega
theorem VI_lGo {F : Fl} {g : Lg} {b : Int} {fr : List Int} (hA : PA F) (hL : PL F g) (hfr : g.2.1 = b :: fr) (h : VI F) : VI (lGo F g).1 ∧ ZI (lGo F g).1 := by
  have hZ := PL_ZI hA hL
  unfold lGo
  by_cases c : g.1 = -1
  · rw [if_pos c, hfr]; exact ⟨h, hZ⟩
  · rw [if_neg c]
    obtain ⟨h1, h2, -⟩ := hL
    have hs := summ_is (fC F g.1)
    have hc := (hA g.1 (by omega) (by omega)).1.1
    have key := VI_apR (s := summSrc (fC F g.1)) hA (by omega) (h2 c).2 (by rw [hs.2.2]; omega) (Or.inr hs.2.1) h hZ
    split
    · exact key
    · rw [hfr]; exact key
theorem VI_put {F : Fl} {g : Lg} {s : Int → Int} (hA : PA F) (hL : PL F g) (hs : sOK s) (hfr : ¬ (g.1 ≠ -1 ∧ fU F g.1 + s 1 + fC F g.1 + 2 ≤ 40) → g.2.1 ≠ []) (h : VI F) : VI (lPut F g s).1 ∧ ZI (lPut F g s).1 := by
  have hZ := PL_ZI hA hL
  have h1 := sOK_k hs
  unfold lPut
  by_cases c : g.1 ≠ -1 ∧ fU F g.1 + s 1 + fC F g.1 + 2 ≤ 40
  · rw [if_pos c]
    obtain ⟨l1, l2, -⟩ := hL
    exact VI_apR hA (by omega) (l2 c.1).2 (by omega) (Or.inl ⟨hs, c.2⟩) h hZ
  · rw [if_neg c]
    obtain ⟨b, fr, hbf⟩ : ∃ b fr, g.2.1 = b :: fr := by
      cases hg : g.2.1 with
      | nil => exact absurd hg (hfr c)
      | cons b fr => exact ⟨b, fr, rfl⟩
    obtain ⟨v, z⟩ := VI_lGo hA hL hbf h
    by_cases c2 : (lGo F g).2.2 = false
    · rw [if_pos c2]; exact ⟨v, z⟩
    · rw [if_neg c2]
      have c3 : (lGo F g).2.2 = true := by simpa using c2
      have e := lGo_1 hbf c3
      obtain ⟨l1, l2, l3, l4, ⟨l5, l6, l7, l8, l9⟩, -⟩ := id hL
      have hb := l3 b (by rw [hbf]; exact List.mem_cons_self)
      have hne : b ≠ g.1 := fun q => l8 (by rw [← q, hbf]; exact List.mem_cons_self)
      have hu := lGo_C F g b hne
      have e1 : (lGo F g).2.1.1 = b := by rw [e]
      have hA2 : PA (lGo F g).1 := (lGo_ok hA hL hbf).1
      show VI (fApR (lGo F g).1 (lGo F g).2.1.1 s).1 ∧ ZI (fApR (lGo F g).1 (lGo F g).2.1.1 s).1
      rw [e1]
      exact VI_apR hA2 hb.1 (by rw [hu.2]; omega) (by omega) (Or.inl ⟨hs, by rw [hu.1, hu.2]; omega⟩) v z
theorem VI_era {F F' : Fl} {b : Int} (hb : 0 ≤ b ∧ b < 8) (hr : remR F F' b) (hU : ∀ c, c ≠ b → fU F' c = fU F c ∧ fC F' c = fC F c) (hC : fC F' b = 0) (hu : fU F' b = 0 ∨ fU F' b = 1) (h : VI F) : VI F' := fun c c0 c1 => by
  by_cases e : c = b
  · subst e
    have : vB F' c 16 = 0 := vB_0 (fun p p0 p1 q => by have := q.1; rw [hr, if_pos (by omega)] at this; omega) 16 (Nat.le_refl _)
    rw [this, hC]; exact ⟨by omega, fun _ => by omega⟩
  · have ec : vB F' c 16 = vB F c 16 := vB_cg 16 (fun p p0 p1 => by
      have hq : ∀ k, fN F' (c * 16 + p) k = fN F (c * 16 + p) k := fun k => by rw [hr, if_neg (by omega)]
      unfold rW; rw [hq, hq, hq]; exact ⟨Iff.rfl, fun _ => rfl⟩)
    rw [ec, (hU c e).1, (hU c e).2]; exact h c c0 c1
theorem VI_erR {F : Fl} {b : Int} (hb : 0 ≤ b ∧ b < 8) (h : VI F) : VI (fErR F b).1 := by
  by_cases c0 : fL F = 0
  · rw [erR_0 c0]; exact VI_dk h
  · by_cases c1 : fL F = 1
    · rw [erR_1 c1]
      exact VI_era (F := F) hb (fun j k => era_N _ _ _ _) (fun c hc => ⟨if_neg hc, if_neg hc⟩) (if_pos rfl) (Or.inl (if_pos rfl)) h
    · rw [erR_2 c0 c1]
      exact VI_era (F := F) hb (fun j k => erT_N _ _ _ _) (fun c hc => ⟨by rw [erT_U, if_neg hc], by rw [erT_C, if_neg hc]⟩) (by rw [erT_C, if_pos rfl]) (Or.inr (by rw [erT_U, if_pos rfl])) h
theorem BI_erR {F : Fl} {b : Int} (hb : 0 ≤ b ∧ b < 8) (h : BI F) (hz : fU F b = 0 ∨ ZI F) : BI (fErR F b).1 := fun c d c0 c1 d0 d1 ec ed => by
  have hu := fErR_U F b
  have key : ∀ c, 0 ≤ c → c < 8 → fU (fErR F b).1 c = 0 → c ≠ b → False := fun c c0 c1 ec hc => by
    rw [(hu c hc).1] at ec
    rcases hz with z | z
    · exact hc (h c b c0 c1 hb.1 hb.2 ec z)
    · exact z c c0 c1 ec
  have e1 : c = b := Classical.byContradiction (fun z => key c c0 c1 ec z)
  have e2 : d = b := Classical.byContradiction (fun z => key d d0 d1 ed z)
  rw [e1, e2]
theorem VI_lBrk {F : Fl} {g : Lg} (h : VI F) (hB : BI F) : ∀ k : Nat, k ≤ 8 → VI (lBrk F g k).1 ∧ BI (lBrk F g k).1
  | 0, _ => ⟨h, hB⟩
  | k + 1, hk => by
    obtain ⟨v, b⟩ := VI_lBrk (g := g) h hB k (by omega)
    rw [lBrk_s]
    split
    · exact ⟨v, b⟩
    · split
      · rename_i c
        exact ⟨VI_erR ⟨by omega, by omega⟩ v, BI_erR ⟨by omega, by omega⟩ b (Or.inl c)⟩
      · exact ⟨v, b⟩
/-! ### room -/
def uSum : List Int → Int
  | [] => 0
  | u :: us => u + 1 + uSum us
theorem uSum_p : ∀ {us : List Int}, (∀ u ∈ us, 0 ≤ u) → 0 ≤ uSum us
  | [], _ => Int.le_refl _
  | u :: us, h => by
    have := uSum_p (us := us) (fun v hv => h v (List.mem_cons_of_mem _ hv))
    have := h u List.mem_cons_self
    show 0 ≤ u + 1 + uSum us; omega
theorem trL_in : ∀ {us : List Int} {s : Int × Int × Int}, (∀ u ∈ us, 0 ≤ u) → uSum us + s.1 + s.2.1 + 1 ≤ 40 → trL us s
  | [], _, _, _ => trivial
  | u :: us, s, h, hu => by
    have h0 := uSum_p (us := us) (fun v hv => h v (List.mem_cons_of_mem _ hv))
    have hu : u + 1 + uSum us + s.1 + s.2.1 + 1 ≤ 40 := hu
    have e : trS u s = some (s.1 + u, s.2.1 + 1, s.2.2) := by unfold trS; rw [if_pos (by omega)]
    exact (trL_1 e).mpr (trL_in (fun v hv => h v (List.mem_cons_of_mem _ hv)) (by show uSum us + (s.1 + u) + (s.2.1 + 1) + 1 ≤ 40; omega))
theorem trL_ok : ∀ {us : List Int} {s : Int × Int × Int}, (∀ u ∈ us, 0 ≤ u) → uSum us ≤ 38 → 1 ≤ s.2.2 → trL us s
  | [], _, _, _, _ => trivial
  | u :: us, s, h, hu, h1 => by
    have hp := uSum_p (us := us) (fun v hv => h v (List.mem_cons_of_mem _ hv))
    have hu : u + 1 + uSum us ≤ 38 := hu
    have h0 := h u List.mem_cons_self
    by_cases c : s.1 + u + s.2.1 + 2 ≤ 40
    · have e : trS u s = some (s.1 + u, s.2.1 + 1, s.2.2) := by unfold trS; rw [if_pos c]
      exact (trL_1 e).mpr (trL_ok (fun v hv => h v (List.mem_cons_of_mem _ hv)) (by omega) h1)
    · have e : trS u s = some (1 + u, 1, s.2.2 - 1) := by unfold trS; rw [if_neg c, if_pos (by omega)]
      exact (trL_1 e).mpr (trL_in (fun v hv => h v (List.mem_cons_of_mem _ hv)) (by show uSum us + (1 + u) + 1 + 1 ≤ 40; omega))
theorem uSum_app : ∀ (us : List Int) (u : Int), uSum (us ++ [u]) = uSum us + u + 1
  | [], u => by show u + 1 + 0 = 0 + u + 1; omega
  | v :: us, u => by show v + 1 + uSum (us ++ [u]) = v + 1 + uSum us + u + 1; rw [uSum_app us u]; omega
theorem ck_sum {F : Fl} {S : Tr} {b : Int} (hA : PA F) (hb : 0 ≤ b ∧ b < 8) : ∀ n : Nat, (n : Int) ≤ fC F b → uSum (uOf F (ck F S b n).2) ≤ vB F b n ∧ ∀ u ∈ uOf F (ck F S b n).2, 0 ≤ u
  | 0, _ => ⟨Int.le_refl _, fun u hu => absurd hu (by show ¬ u ∈ ([] : List Int); exact List.not_mem_nil)⟩
  | n + 1, hn => by
    obtain ⟨h1, h2⟩ := ck_sum (S := S) hA hb n (by omega)
    have hnode := (hA b hb.1 hb.2).2.2.1 n (by omega) (by omega)
    have hu1 : 1 ≤ fN F (b * 16 + n) 1 := by have := hnode.2; omega
    have hv : 0 ≤ pI (rW F (b * 16 + n)) (fN F (b * 16 + n) 1 + 1) 0 := by
      by_cases c : rW F (b * 16 + n)
      · rw [pI_1 c]; omega
      · rw [pI_0 c]; omega
    rw [ck_s, vB_s]
    by_cases c1 : jNo F (b * 16 + n)
    · rw [ckS_0 c1]; exact ⟨by omega, h2⟩
    · by_cases c2 : jDead F F S (b * 16 + n) ∧ ¬ jMiss F S (ck F S b n).1 (b * 16 + n)
      · rw [ckS_1 c1 c2]; exact ⟨by show uSum (uOf F (ck F S b n).2) ≤ _; omega, h2⟩
      · rw [ckS_2 c1 c2]
        have hw := PA_kind hA hb ⟨by omega, by omega⟩ c1
        have e : uOf F ((ck F S b n).2 ++ [b * 16 + (n : Int)]) = uOf F (ck F S b n).2 ++ [fN F (b * 16 + n) 1] := by unfold uOf; rw [List.map_append]; rfl
        show uSum (uOf F ((ck F S b n).2 ++ [b * 16 + (n : Int)])) ≤ _ ∧ ∀ u ∈ uOf F ((ck F S b n).2 ++ [b * 16 + (n : Int)]), 0 ≤ u
        rw [e, uSum_app, pI_1 hw]
        refine ⟨by omega, fun u hu => ?_⟩
        rcases List.mem_append.mp hu with q | q
        · exact h2 u q
        · rw [List.mem_singleton.mp q]; omega
theorem vB_mono {F : Fl} {b : Int} (hA : PA F) (hb : 0 ≤ b ∧ b < 8) : ∀ (m k : Nat), m + k ≤ 16 → vB F b m ≤ vB F b (m + k)
  | m, 0, _ => Int.le_refl _
  | m, k + 1, h => by
    have ih := vB_mono hA hb m k (by omega)
    have e : vB F b (m + (k + 1)) = vB F b (m + k) + pI (rW F (b * 16 + ((m + k : Nat) : Int))) (fN F (b * 16 + ((m + k : Nat) : Int)) 1 + 1) 0 := rfl
    rw [e]
    by_cases c : rW F (b * 16 + ((m + k : Nat) : Int))
    · rw [pI_1 c]
      have := sOK_k (PA_NS hA _ (by omega) (by omega) c)
      omega
    · rw [pI_0 c]; omega
/-- for garbage one free block is room enough -/
theorem gc_room {F : Fl} {g : Lg} {S : Tr} {b : Int} (hA : PA F) (hb : 0 ≤ b ∧ b < 8) (hV : VI F) (hl : 1 ≤ g.2.1.length) : trL (uOf F (ck F S b (fC F b).toNat).2) (tr0 F g (g.2.1.length : Int)) := by
  have hc := (hA b hb.1 hb.2).1.1
  obtain ⟨h1, h2⟩ := ck_sum (S := S) hA hb (fC F b).toNat (by omega)
  have h3 := vB_mono hA hb (fC F b).toNat (16 - (fC F b).toNat) (by omega)
  rw [show (fC F b).toNat + (16 - (fC F b).toNat) = 16 by omega] at h3
  have h4 := (hV b hb.1 hb.2).1
  exact trL_ok h2 (by omega) (by show (1 : Int) ≤ (g.2.1.length : Int); omega)
/-- for what a method writes two are -/
theorem rm_ok {A : AS} (us : List Int) (h0 : ∀ u ∈ us, 0 ≤ u) (hs : uSum us ≤ 38) (hl : 2 ≤ (aG A).2.1.length) : rmA A us 1 := trL_ok h0 hs (by show (1 : Int) ≤ ((aG A).2.1.length : Int) - 1; omega)
/-! ### how many units are read -/
theorem uRd_b {F : Fl} (hA : PA F) {b s : Int} (hb : 0 ≤ b ∧ b < 8) : 0 ≤ uRd F b s ∧ uRd F b s ≤ 40 ∧ (fU F b ≠ 0 → 1 ≤ uRd F b s) := by
  obtain ⟨⟨h1, h2⟩, -, h3, -⟩ := hA b hb.1 hb.2
  unfold uRd
  split
  · rename_i c
    have hn := h3 (fC F b - 1) (by omega) (by omega)
    have hk : fN F (b * 16 + (fC F b - 1)) 1 = 1 + (fC F b - 1) := by
      rcases hn.1 with q | q
      · have := (sOK_k q).1; have := c.2.2.1; omega
      · exact q.2.1
    rw [hk]; omega
  · omega
theorem rd_b {F : Fl} (hA : PA F) (s : Int) : ∀ k : Nat, k ≤ 8 → 0 ≤ rdS F s k ∧ rdS F s k ≤ 40 * k ∧ (ZI F → (k : Int) ≤ rdS F s k) ∧ (BI F → (k : Int) ≤ rdS F s k ∨ ((k : Int) - 1 ≤ rdS F s k ∧ ∃ b : Int, (0 ≤ b ∧ b < k) ∧ fU F b = 0))
  | 0, _ => ⟨Int.le_refl _, Int.le_refl _, fun _ => Int.le_refl _, fun _ => Or.inl (Int.le_refl _)⟩
  | k + 1, hk => by
    obtain ⟨h1, h2, h3, h4⟩ := rd_b hA s k (by omega)
    obtain ⟨u1, u2, u3⟩ := uRd_b hA (s := s) (b := (k : Int)) ⟨by omega, by omega⟩
    rw [rdS_s]
    refine ⟨by omega, by omega, fun z => ?_, fun z => ?_⟩
    · have := h3 z; have := u3 (z k (by omega) (by omega)); omega
    · by_cases c : fU F k = 0
      · rcases h4 z with q | ⟨q, b, b1, b2⟩
        · exact Or.inr ⟨by omega, k, ⟨by omega, by omega⟩, c⟩
        · have := z b k b1.1 (by omega) (by omega) (by omega) b2 c; omega
      · have := u3 c
        rcases h4 z with q | ⟨q, b, b1, b2⟩
        · exact Or.inl (by omega)
        · exact Or.inr ⟨by omega, b, ⟨b1.1, by omega⟩, b2⟩
