/-! ### both lists are the same -/
def mSmA (μ : nMem) : Prop := (μ 45 0 = μ 45 1 ∧ μ 48 0 = μ 48 1) ∧ ∀ i, 0 ≤ i → i < μ 45 0 → μ 43 i = μ 43 (128 + i) ∧ μ 44 i = μ 44 (128 + i)
def mSmG (μ : nMem) (i : Int) : Prop := μ 46 i = μ 46 (128 + i) ∧ μ 47 i = μ 47 (128 + i) ∧ ∀ p, 0 ≤ p → p < 64 → μ 49 (64 * i + p) = μ 49 (64 * (128 + i) + p)
def mSm (μ : nMem) : Prop := mSmA μ ∧ ∀ i, 0 ≤ i → i < μ 48 0 → mSmG μ i
theorem srt_eq {α : Type} (κ : α → Int) : ∀ l l' : List α, l.Pairwise (fun a b => κ a < κ b) → l'.Pairwise (fun a b => κ a < κ b) → (∀ x, x ∈ l ↔ x ∈ l') → l = l'
  | [], [], _, _, _ => rfl
  | [], b :: r, _, _, h => absurd ((h b).mpr List.mem_cons_self) List.not_mem_nil
  | a :: l, [], _, _, h => absurd ((h a).mp List.mem_cons_self) List.not_mem_nil
  | a :: l, b :: r, h1, h2, h => by
    rw [List.pairwise_cons] at h1 h2
    have e : a = b := by
      rcases List.mem_cons.mp ((h a).mp List.mem_cons_self) with e | e
      · exact e
      · rcases List.mem_cons.mp ((h b).mpr List.mem_cons_self) with f | f
        · exact f.symm
        · have := h2.1 a e
          have := h1.1 b f
          omega
    subst e
    rw [srt_eq κ l r h1.2 h2.2 (fun x => ?_)]
    have := h x
    rw [List.mem_cons, List.mem_cons] at this
    constructor
    · intro hx
      rcases this.mp (Or.inr hx) with q | q
      · have := h1.1 x hx; rw [q] at this; omega
      · exact q
    · intro hx
      rcases this.mpr (Or.inr hx) with q | q
      · have := h2.1 x hx; rw [q] at this; omega
      · exact q
theorem getD_E {α : Type} {l : List α} {i : Nat} (z : α) (h : i < l.length) : l.getD i z = l[i] := by
  rw [List.getD_eq_getElem?_getD, List.getElem?_eq_getElem h]; rfl
theorem srtE_pw {l : LE2} (h : srtE l) : l.Pairwise (fun a b => a.1 < b.1) := by
  rw [List.pairwise_iff_getElem]
  intro i j hi hj hij
  have := h i j hij hj
  rw [getD_E _ hi, getD_E _ hj] at this
  exact this
theorem srtI_pw {l : List Int} (h : srtI l) : l.Pairwise (fun a b => id a < id b) := by
  rw [List.pairwise_iff_getElem]
  intro i j hi hj hij
  have := h i j hij hj
  rw [getD_E _ hi, getD_E _ hj] at this
  exact this
theorem el_mem {F : Fl} {el : LE2} (h : ∀ P, cntL P el = cR (fun r => ctR F r ∧ P (eP F r)) 128) (x : Int × Int) : x ∈ el ↔ ∃ r : Int, (0 ≤ r ∧ r < 128) ∧ ctR F r ∧ eP F r = x := by
  constructor
  · intro hx
    obtain ⟨i, hi, e⟩ := mem_lget PZ2 hx
    have hp := (cntL_pos (P := fun y => y = x) PZ2 el).mpr ⟨i, hi, e⟩
    rw [h] at hp
    obtain ⟨r, hr, z1, z2⟩ := cR_ex 128 hp
    exact ⟨r, hr, z1, z2⟩
  · rintro ⟨r, hr, z1, z2⟩
    have hp := cR_pos (p := fun r => ctR F r ∧ eP F r = x) (k := 128) hr.1 hr.2 ⟨z1, z2⟩
    rw [← h (fun y => y = x)] at hp
    obtain ⟨i, hi, e⟩ := (cntL_pos PZ2 el).mp hp
    have e : el.getD i PZ2 = x := e
    rw [← e]; exact lget_mem PZ2 hi
/-- what a row tells -/
theorem eP_inj {F F' : Fl} {r r' : Int} (hS : NS F) (hS' : NS F') (hr : 0 ≤ r ∧ r < 128) (hr' : 0 ≤ r' ∧ r' < 128) (h : asgR F r) (h' : asgR F' r') (e : eP F r = eP F' r') : fN F' r' 3 = fN F r 3 ∧ fN F' r' 5 = fN F r 5 ∧ fN F' r' 10 = fN F r 10 ∧ fN F' r' 11 = fN F r 11 := by
  have b := asgR_b hS hr.1 hr.2 h
  have b' := asgR_b hS' hr'.1 hr'.2 h'
  unfold eP at e
  rw [Prod.mk.injEq] at e
  omega
theorem TD_0 {F : Fl} (hS : NS F) {d nm : Int} (h : TG F d nm = 0) : TD F d nm = 0 := by
  unfold TD
  unfold TG qTgt at h
  by_cases c : qNew F 2 d nm 2147483647 128 = -1
  · rw [if_pos c]
  · rw [if_neg c] at h ⊢
    obtain ⟨a, b⟩ := qNew_rW (Or.inr rfl) c
    rcases hS _ a.1 a.2 b with q | q
    · exact q.2.2.2.2.2.2.2.2.2.2.2
    · exact q.2.2.2.2.2.2.2.2.1 h
theorem ct_of {F : Fl} {d nm : Int} (hd : thDf F d) (h : TG F d nm ≠ 0) : ∃ r : Int, (0 ≤ r ∧ r < 128) ∧ ctR F r ∧ fN F r 3 = d ∧ fN F r 5 = nm ∧ fN F r 10 = TG F d nm ∧ fN F r 11 = TD F d nm := by
  obtain ⟨a1, a2, a3, a4, a5⟩ := TG_asgR h
  refine ⟨_, a1, ⟨a2, by rw [a3]; exact hd⟩, a3, a4, a5, ?_⟩
  rw [← asgR_TD a1.1 a2, a3, a4]
theorem ct_TG {F : Fl} {r : Int} (r0 : 0 ≤ r) (h : ctR F r) : TG F (fN F r 3) (fN F r 5) = fN F r 10 ∧ TD F (fN F r 3) (fN F r 5) = fN F r 11 := ⟨asgR_TG r0 h.1, asgR_TD r0 h.1⟩
theorem ct_all {F F' : Fl} (hS : NS F) (hS' : NS F') (h : ∀ r, 0 ≤ r → r < 128 → ctR F r → ∃ r' : Int, (0 ≤ r' ∧ r' < 128) ∧ ctR F' r' ∧ eP F r = eP F' r') {n : Int} (hn : thDf F n) : thDf F' n := by
  refine (thD_all (P := fun n => thDf F n ∧ thDf F' n) hS ⟨thD_1 _ _, thD_1 _ _⟩ (fun r r0 r1 ha h11 hz => ?_) hn).2
  obtain ⟨r', hr', hc', e⟩ := h r r0 r1 ⟨ha, hz.1⟩
  obtain ⟨i3, i5, i10, i11⟩ := eP_inj hS hS' ⟨r0, r1⟩ hr' ha hc'.1 e
  exact ⟨thD_row hS r0 r1 ha h11 hz.1, by rw [← i10]; exact thD_row hS' hr'.1 hr'.2 hc'.1 (by rw [i11]; exact h11) hc'.2⟩
theorem mSm_EQ {F F' : Fl} {μ : nMem} (hS : NS F) (hS' : NS F') (h : LE F 0 μ) (h' : LE F' 128 μ) : mSm μ ↔ EQ F F' := by
  obtain ⟨el, fl, h1, h2, h3, h4, h5, h6, h7, h8⟩ := h
  obtain ⟨el', fl', g1, g2, g3, g4, g5, g6, g7, g8⟩ := h'
  obtain ⟨h1a, h1b⟩ := h1
  obtain ⟨h2a, h2b⟩ := h2
  obtain ⟨g1a, g1b⟩ := g1
  obtain ⟨g2a, g2b⟩ := g2
  have z0 : (0 : Int) / 128 = 0 := rfl
  have z1 : (128 : Int) / 128 = 1 := rfl
  rw [z0] at h1a h2a
  rw [z1] at g1a g2a
  have hm := el_mem h6
  have gm := el_mem g6
  constructor
  · rintro ⟨⟨⟨s1, s2⟩, s3⟩, s4⟩
    have eel : el = el' := List.ext_getElem (by omega) (fun i hi hi' => by
      have a := h1b i hi
      have b := g1b i hi'
      rw [getD_E _ hi] at a
      rw [getD_E _ hi'] at b
      have c := s3 i (by omega) (by omega)
      rw [Int.zero_add] at a
      exact Prod.ext (by omega) (by omega))
    have efl : fl = fl' := List.ext_getElem (by omega) (fun i hi hi' => by
      have a := h2b i hi
      have b := g2b i hi'
      rw [getD_E _ hi] at a
      rw [getD_E _ hi'] at b
      have c := (s4 i (by omega) (by omega)).1
      rw [Int.zero_add] at a
      omega)
    have f1 : ∀ r, 0 ≤ r → r < 128 → ctR F r → ∃ r' : Int, (0 ≤ r' ∧ r' < 128) ∧ ctR F' r' ∧ eP F r = eP F' r' := fun r r0 r1 hc => by
      obtain ⟨r', a, b, c⟩ := (gm (eP F r)).mp (by rw [← eel]; exact (hm _).mpr ⟨r, ⟨r0, r1⟩, hc, rfl⟩)
      exact ⟨r', a, b, c.symm⟩
    have f2 : ∀ r, 0 ≤ r → r < 128 → ctR F' r → ∃ r' : Int, (0 ≤ r' ∧ r' < 128) ∧ ctR F r' ∧ eP F' r = eP F r' := fun r r0 r1 hc => by
      obtain ⟨r', a, b, c⟩ := (hm (eP F' r)).mp (by rw [eel]; exact (gm _).mpr ⟨r, ⟨r0, r1⟩, hc, rfl⟩)
      exact ⟨r', a, b, c.symm⟩
    refine ⟨fun d hd nm hnm => ?_, fun f hf => ?_⟩
    · have hd' := ct_all hS hS' f1 hd
      by_cases c : TG F d nm = 0
      · have c' : TG F' d nm = 0 := Classical.byContradiction (fun z => by
          obtain ⟨r, hr, hc, r3, r5, r10, r11⟩ := ct_of hd' z
          obtain ⟨r', hr', hc', e⟩ := f2 r hr.1 hr.2 hc
          obtain ⟨i3, i5, i10, i11⟩ := eP_inj hS' hS hr hr' hc.1 hc'.1 e
          have t := (ct_TG hr'.1 hc').1
          rw [i3, i5, r3, r5, c, i10] at t
          have := hc.1.2.1
          exact this t.symm)
        rw [c, c', TD_0 hS c, TD_0 hS' c']; exact ⟨rfl, rfl⟩
      · obtain ⟨r, hr, hc, r3, r5, r10, r11⟩ := ct_of hd c
        obtain ⟨r', hr', hc', e⟩ := f1 r hr.1 hr.2 hc
        obtain ⟨i3, i5, i10, i11⟩ := eP_inj hS hS' hr hr' hc.1 hc'.1 e
        have t := ct_TG hr'.1 hc'
        rw [i3, i5, r3, r5, i10, i11, r10, r11] at t
        exact t
    · obtain ⟨i, hi, e⟩ := mem_lget 0 ((h7 f).mpr hf)
      have a := h8 i hi
      have b := g8 i (by rw [← efl]; exact hi)
      rw [← efl] at b
      rw [e] at a b
      obtain ⟨c1, c2, c3⟩ := s4 i (by omega) (by omega)
      rw [Int.zero_add] at a
      refine ⟨by rw [← a.1, ← b.1]; exact c2.symm, fun p p0 p1 => ?_⟩
      rw [← (a.2 p p0 p1).1, ← (b.2 p p0 p1).1]; exact (c3 p p0 p1).symm
  · intro hE
    have eel : el = el' := srt_eq (fun x : Int × Int => x.1) el el' (srtE_pw h4) (srtE_pw g4) (fun x => by
      rw [hm x, gm x]
      constructor
      · rintro ⟨r, hr, hc, e⟩
        have t := ct_TG hr.1 hc
        have b := asgR_b hS hr.1 hr.2 hc.1
        have q := hE.1 _ hc.2 (fN F r 5) b.2.1
        obtain ⟨r', hr', hc', r3, r5, r10, r11⟩ := ct_of (F := F') ((EQ_D hE _).mpr hc.2) (nm := fN F r 5) (by rw [q.1, t.1]; omega)
        refine ⟨r', hr', hc', ?_⟩
        rw [← e]
        unfold eP
        rw [r3, r5, r10, r11, q.1, q.2, t.1, t.2]
      · rintro ⟨r, hr, hc, e⟩
        have t := ct_TG hr.1 hc
        have b := asgR_b hS' hr.1 hr.2 hc.1
        have hd := (EQ_D hE _).mp hc.2
        have q := hE.1 _ hd (fN F' r 5) b.2.1
        obtain ⟨r', hr', hc', r3, r5, r10, r11⟩ := ct_of (F := F) hd (nm := fN F' r 5) (by rw [← q.1, t.1]; omega)
        refine ⟨r', hr', hc', ?_⟩
        rw [← e]
        unfold eP
        rw [r3, r5, r10, r11, ← q.1, ← q.2, t.1, t.2])
    have efl : fl = fl' := srt_eq id fl fl' (srtI_pw h5) (srtI_pw g5) (fun f => by rw [h7, g7]; exact (EQ_F hE f).symm)
    subst eel efl
    refine ⟨⟨⟨by omega, by omega⟩, fun i i0 i1 => ?_⟩, fun i i0 i1 => ?_⟩
    · have a := h1b i.toNat (by omega)
      have b := g1b i.toNat (by omega)
      rw [show ((i.toNat : Nat) : Int) = i by omega, Int.zero_add] at a
      rw [show ((i.toNat : Nat) : Int) = i by omega] at b
      exact ⟨by omega, by omega⟩
    · have a := h2b i.toNat (by omega)
      have b := g2b i.toNat (by omega)
      have ca := h8 i.toNat (by omega)
      have cb := g8 i.toNat (by omega)
      have hf := (h7 _).mp (lget_mem (l := fl) (i := i.toNat) 0 (by omega))
      rw [show ((i.toNat : Nat) : Int) = i by omega, Int.zero_add] at a ca
      rw [show ((i.toNat : Nat) : Int) = i by omega] at b cb
      have q := hE.2 _ hf
      refine ⟨by omega, by rw [ca.1, cb.1]; exact q.1.symm, fun p p0 p1 => ?_⟩
      rw [(ca.2 p p0 p1).1, (cb.2 p p0 p1).1]; exact (q.2 p p0 p1).symm
theorem sp_X7_areSame {μ : nMem} {ε : nEnv} {Q : nOut → nMem → nEnv → Prop}  (hs : SkP skM ε) (hb : mB μ) (h1 : mSm μ → Q (.inl (some (vI 1))) μ ε) (h2 : ¬ mSm μ → Q (.inl (some (vI 0))) μ ε) : Sp mX7_areSame [vR 21] μ ε Q := by
  refine Sp_of (L := [(0, vR 21)]) (by decide) rfl rfl (Nat.le_of_ble_eq_true rfl) ?_
  have q45 := b45 hb 0
  have q45b := b45 hb 1
  have q48 := b48 hb 0
  have q48b := b48 hb 1
  have r45 : inR (μ 45 0) := by unfold inR; omega
  have r45b : inR (μ 45 1) := by unfold inR; omega
  have r48 : inR (μ 48 0) := by unfold inR; omega
  have r48b : inR (μ 48 1) := by unfold inR; omega
  have hr := mR_of hb
  have cut1 : ∀ (w : Int), (w = 0 ∨ w = 1) → (w ≠ 0 → mSmA μ) → (w = 0 → ¬ mSmA μ) → wp mX7_areSame 102 [(0, vR 21), (1, vI w)] [] μ ε Q := by
    intro w e0 e1 e2
    have hA := e1
    have hnA := e2
    have hw01 := e0
    refine wq_iconst (pc := 102) dX7_areSame_102 ?_
    refine wq_istore_n (pc := 103) (L' := [(2, _), (0, _), (1, _)]) dX7_areSame_103 rfl rfl (by decide) ?_
    have lpf2 : ∀ (n k : Nat), ∀ (w : Int) (j : Int), k ≤ 128 → 128 < k + n → j = (k : Int) → w = 0 ∨ w = 1 → (k : Int) ≤ μ 48 0 → (w ≠ 0 → mSmA μ ∧ ∀ i, 0 ≤ i → i < (k : Int) → mSmG μ i) → (w = 0 → ¬ mSm μ) → wp mX7_areSame 104 [(0, vR 21), (1, vI w), (2, vI j)] [] μ ε Q := by
      intro n
      induction n with
      | zero => intro k w j hk1 hk2 e0 e1 e2 e3 e4; exact absurd hk2 (by omega)
      | succ n ih =>
        intro k w j hk1 hk2 e0 e1 e2 e3 e4
        subst e0
        have rk : inR (k : Int) := by unfold inR; omega
        have rw1 : inR w := by unfold inR; omega
        have rz9 := hr 46 ((k : Int)) (by decide) (by decide) (by decide)
        have rz10 := hr 46 (128 + (k : Int)) (by decide) (by decide) (by decide)
        have rz11 := hr 47 ((k : Int)) (by decide) (by decide) (by decide)
        have rz12 := hr 47 (128 + (k : Int)) (by decide) (by decide) (by decide)
        refine wq_iload_n (pc := 104) dX7_areSame_104 rfl rfl ?_
        refine wq_aload_n (pc := 105) dX7_areSame_105 rfl rfl ?_
        refine wq_getS (pc := 106) dX7_areSame_106 hs (gf_X7_90 _ rfl) rfl rfl rfl rfl rfl ?_
        refine wq_iconst (pc := 109) dX7_areSame_109 ?_
        refine wq_ialdK (pc := 110) dX7_areSame_110 hs rfl (by omega) (by omega) ?_
        refine wq_icmp_ge (pc := 111) (tgt := 221) dX7_areSame_111 (by decide) (by first | (unfold inR; omega) | assumption) (by first | (unfold inR; omega) | assumption) (fun c3 => ?_) (fun c3 => ?_)
        · skip
          refine wq_iload_n (pc := 221) dX7_areSame_221 rfl rfl ?_
          refine wq_zret (pc := 222) dX7_areSame_222 rfl (by first | omega | (simp; done) | assumption) ?_
          rcases e1 with c | c
          · rw [c]; exact h2 (e4 c)
          · rw [c]; exact h1 ⟨(e3 (by omega)).1, fun i i0 i1 => (e3 (by omega)).2 i i0 (by omega)⟩
        · skip
          refine wq_iload_n (pc := 114) dX7_areSame_114 rfl rfl ?_
          refine wq_if_eq (pc := 115) (tgt := 221) dX7_areSame_115 (by decide) (by first | (unfold inR; omega) | assumption) (fun c4 => ?_) (fun c4 => ?_)
          · skip
            refine wq_iload_n (pc := 221) dX7_areSame_221 rfl rfl ?_
            refine wq_zret (pc := 222) dX7_areSame_222 rfl (by first | omega | (simp; done) | assumption) ?_
            rcases e1 with c | c
            · rw [c]; exact h2 (e4 c)
            · rw [c]; exact h1 ⟨(e3 (by omega)).1, fun i i0 i1 => (e3 (by omega)).2 i i0 (by omega)⟩
          · skip
            have hall := e3 (by assumption)
            have hk1b := hk1
            have hk2b := hk2
            have e2b := e2
            obtain ⟨K, hK⟩ : ∃ K : Int, K = (k : Int) := ⟨k, rfl⟩
            have cut5 : ∀ (w : Int), (w = 0 ∨ w = 1) → (w ≠ 0 → mSmG μ k) → (w = 0 → ¬ mSm μ) → wp mX7_areSame 215 [(0, vR 21), (1, vI w), (2, vI (k : Int))] [] μ ε Q := by
              intro w e0 e1 e2
              have e0q := e0
              have e1q := e1
              have e2q := e2
              refine wq_iinc (pc := 215) (L' := [(2, _), (0, _), (1, _)]) dX7_areSame_215 rfl rfl (by decide) ?_
              refine wq_goto (pc := 218) (tgt := 104) dX7_areSame_218 (by decide) ?_
              refine wq_sub1 (L' := [(0, _), (1, _), (2, _)]) ⟨rfl, rfl, rfl, trivial⟩ ?_
              exact ih (k + 1) _ _ (by omega) (by omega) (by omega) e0q (by omega) (fun z => by
                refine ⟨hall.1, fun i i0 i1 => ?_⟩
                by_cases c9 : i = k
                · rw [c9]; exact e1q z
                · exact hall.2 i i0 (by omega)) e2q
            have cut6 : ∀ (w : Int), (w = 0 ∨ w = 1) → (w ≠ 0 → μ 46 k = μ 46 (128 + k) ∧ μ 47 k = μ 47 (128 + k)) → (w = 0 → ¬ mSm μ) → wp mX7_areSame 162 [(0, vR 21), (1, vI w), (2, vI (k : Int))] [] μ ε Q := by
              intro w e0 e1 e2
              rw [← hK] at e1 ⊢
              refine wq_iconst (pc := 162) dX7_areSame_162 ?_
              refine wq_istore_n (pc := 163) (L' := [(3, _), (0, _), (1, _), (2, _)]) dX7_areSame_163 rfl rfl (by decide) ?_
              have lpp7 : ∀ (n k : Nat), ∀ (w : Int) (j : Int), k ≤ 64 → 64 < k + n → j = (k : Int) → w = 0 ∨ w = 1 → (w ≠ 0 → μ 46 K = μ 46 (128 + K) ∧ μ 47 K = μ 47 (128 + K) ∧ ∀ p, 0 ≤ p → p < (k : Int) → μ 49 (64 * K + p) = μ 49 (64 * (128 + K) + p)) → (w = 0 → ¬ mSm μ) → wp mX7_areSame 164 [(0, vR 21), (1, vI w), (2, vI K), (3, vI j)] [] μ ε Q := by
                intro n
                induction n with
                | zero => intro k w j hk1 hk2 e0 e1 e2 e3; exact absurd hk2 (by omega)
                | succ n ih =>
                  intro k w j hk1 hk2 e0 e1 e2 e3
                  subst e0
                  have rk : inR (k : Int) := by unfold inR; omega
                  have rw1 : inR w := by unfold inR; omega
                  have rz13 := hr 49 (64 * K + (k : Int)) (by decide) (by decide) (by decide)
                  have rz14 := hr 49 (64 * (128 + K) + (k : Int)) (by decide) (by decide) (by decide)
                  refine wq_iload_n (pc := 164) dX7_areSame_164 rfl rfl ?_
                  refine wq_bipush (pc := 165) dX7_areSame_165 (by decide) (by decide) ?_
                  refine wq_icmp_ge (pc := 167) (tgt := 215) dX7_areSame_167 (by decide) (by first | (unfold inR; omega) | assumption) (by first | (unfold inR; omega) | assumption) (fun c8 => ?_) (fun c8 => ?_)
                  · skip
                    refine wq_sub1 (L' := [(0, _), (1, _), (2, _)]) ⟨rfl, rfl, rfl, trivial⟩ ?_
                    rw [hK]
                    refine cut5 _ e1 (fun z => ?_) e3
                    rw [← hK]
                    exact ⟨(e2 z).1, (e2 z).2.1, fun p p0 p1 => (e2 z).2.2 p p0 (by omega)⟩
                  · skip
                    refine wq_iload_n (pc := 170) dX7_areSame_170 rfl rfl ?_
                    refine wq_if_eq (pc := 171) (tgt := 215) dX7_areSame_171 (by decide) (by first | (unfold inR; omega) | assumption) (fun c9 => ?_) (fun c9 => ?_)
                    · skip
                      refine wq_sub1 (L' := [(0, _), (1, _), (2, _)]) ⟨rfl, rfl, rfl, trivial⟩ ?_
                      rw [hK]
                      refine cut5 _ e1 (fun z => ?_) e3
                      rw [← hK]
                      exact ⟨(e2 z).1, (e2 z).2.1, fun p p0 p1 => (e2 z).2.2 p p0 (by omega)⟩
                    · skip
                      refine wq_aload_n (pc := 174) dX7_areSame_174 rfl rfl ?_
                      refine wq_getS (pc := 175) dX7_areSame_175 hs (gf_X7_93 _ rfl) rfl rfl rfl rfl rfl ?_
                      refine wq_bipush (pc := 178) dX7_areSame_178 (by decide) (by decide) ?_
                      refine wq_iload_n (pc := 180) dX7_areSame_180 rfl rfl ?_
                      refine wq_imul (pc := 181) dX7_areSame_181 ?_
                      refine wq_iload_n (pc := 182) dX7_areSame_182 rfl rfl ?_
                      refine wq_iadd (pc := 183) dX7_areSame_183 ?_
                      refine wq_ialdK (pc := 184) dX7_areSame_184 hs rfl (by omega) (by omega) ?_
                      refine wq_aload_n (pc := 185) dX7_areSame_185 rfl rfl ?_
                      refine wq_getS (pc := 186) dX7_areSame_186 hs (gf_X7_93 _ rfl) rfl rfl rfl rfl rfl ?_
                      refine wq_bipush (pc := 189) dX7_areSame_189 (by decide) (by decide) ?_
                      refine wq_sipush (pc := 191) dX7_areSame_191 (by decide) (by decide) ?_
                      refine wq_iload_n (pc := 194) dX7_areSame_194 rfl rfl ?_
                      refine wq_iadd (pc := 195) dX7_areSame_195 ?_
                      refine wq_imul (pc := 196) dX7_areSame_196 ?_
                      refine wq_iload_n (pc := 197) dX7_areSame_197 rfl rfl ?_
                      refine wq_iadd (pc := 198) dX7_areSame_198 ?_
                      refine wq_ialdK (pc := 199) dX7_areSame_199 hs rfl (by omega) (by omega) ?_
                      refine wq_icmp_ne (pc := 200) (tgt := 207) dX7_areSame_200 (by decide) (by first | (unfold inR; omega) | assumption) (by first | (unfold inR; omega) | assumption) (fun c10 => ?_) (fun c10 => ?_)
                      · skip
                        refine wq_iconst (pc := 207) dX7_areSame_207 ?_
                        refine wq_istore_n (pc := 208) (L' := [(1, _), (0, _), (2, _), (3, _)]) dX7_areSame_208 rfl rfl (by decide) ?_
                        refine wq_iinc (pc := 209) (L' := [(3, _), (1, _), (0, _), (2, _)]) dX7_areSame_209 rfl rfl (by decide) ?_
                        refine wq_goto (pc := 212) (tgt := 164) dX7_areSame_212 (by decide) ?_
                        refine wq_sub1 (L' := [(0, _), (1, _), (2, _), (3, _)]) ⟨rfl, rfl, rfl, rfl, trivial⟩ ?_
                        first
                          | (exfalso; omega)
                          | exact ih (k + 1) _ _ (by omega) (by omega) (by omega) (Or.inr rfl) (fun _ => ⟨(e2 (by assumption)).1, (e2 (by assumption)).2.1, fun p p0 p1 => by
                              by_cases c9 : p = k
                              · subst c9; omega
                              · exact (e2 (by assumption)).2.2 p p0 (by omega)⟩) (fun z => absurd z (by decide))
                          | exact ih (k + 1) _ _ (by omega) (by omega) (by omega) (Or.inl rfl) (fun z => absurd rfl z) (fun _ z => by have := (z.2 K (by omega) (by omega)).2.2 k (by omega) (by omega); omega)
                      · skip
                        refine wq_iconst (pc := 203) dX7_areSame_203 ?_
                        refine wq_goto (pc := 204) (tgt := 208) dX7_areSame_204 (by decide) ?_
                        refine wq_istore_n (pc := 208) (L' := [(1, _), (0, _), (2, _), (3, _)]) dX7_areSame_208 rfl rfl (by decide) ?_
                        refine wq_iinc (pc := 209) (L' := [(3, _), (1, _), (0, _), (2, _)]) dX7_areSame_209 rfl rfl (by decide) ?_
                        refine wq_goto (pc := 212) (tgt := 164) dX7_areSame_212 (by decide) ?_
                        refine wq_sub1 (L' := [(0, _), (1, _), (2, _), (3, _)]) ⟨rfl, rfl, rfl, rfl, trivial⟩ ?_
                        first
                          | (exfalso; omega)
                          | exact ih (k + 1) _ _ (by omega) (by omega) (by omega) (Or.inr rfl) (fun _ => ⟨(e2 (by assumption)).1, (e2 (by assumption)).2.1, fun p p0 p1 => by
                              by_cases c9 : p = k
                              · subst c9; omega
                              · exact (e2 (by assumption)).2.2 p p0 (by omega)⟩) (fun z => absurd z (by decide))
                          | exact ih (k + 1) _ _ (by omega) (by omega) (by omega) (Or.inl rfl) (fun z => absurd rfl z) (fun _ z => by have := (z.2 K (by omega) (by omega)).2.2 k (by omega) (by omega); omega)
              refine wq_sub1 (L' := [(0, _), (1, _), (2, _), (3, _)]) ⟨rfl, rfl, rfl, rfl, trivial⟩ ?_
              exact lpp7 65 0 _ _ (by omega) (by omega) (by omega) e0 (fun z => ⟨(e1 z).1, (e1 z).2, fun p p0 p1 => by omega⟩) e2
            refine wq_aload_n (pc := 118) dX7_areSame_118 rfl rfl ?_
            refine wq_getS (pc := 119) dX7_areSame_119 hs (gf_X7_84 _ rfl) rfl rfl rfl rfl rfl ?_
            refine wq_iload_n (pc := 122) dX7_areSame_122 rfl rfl ?_
            refine wq_ialdK (pc := 123) dX7_areSame_123 hs rfl (by omega) (by omega) ?_
            refine wq_aload_n (pc := 124) dX7_areSame_124 rfl rfl ?_
            refine wq_getS (pc := 125) dX7_areSame_125 hs (gf_X7_84 _ rfl) rfl rfl rfl rfl rfl ?_
            refine wq_sipush (pc := 128) dX7_areSame_128 (by decide) (by decide) ?_
            refine wq_iload_n (pc := 131) dX7_areSame_131 rfl rfl ?_
            refine wq_iadd (pc := 132) dX7_areSame_132 ?_
            refine wq_ialdK (pc := 133) dX7_areSame_133 hs rfl (by omega) (by omega) ?_
            refine wq_icmp_ne (pc := 134) (tgt := 160) dX7_areSame_134 (by decide) (by first | (unfold inR; omega) | assumption) (by first | (unfold inR; omega) | assumption) (fun c11 => ?_) (fun c11 => ?_)
            · skip
              refine wq_iconst (pc := 160) dX7_areSame_160 ?_
              refine wq_istore_n (pc := 161) (L' := [(1, _), (0, _), (2, _)]) dX7_areSame_161 rfl rfl (by decide) ?_
              refine wq_sub1 (L' := [(0, _), (1, _), (2, _)]) ⟨rfl, rfl, rfl, trivial⟩ ?_
              first
                | (exfalso; omega)
                | exact cut6 _ (Or.inr rfl) (fun _ => by omega) (fun z => absurd z (by decide))
                | exact cut6 _ (Or.inl rfl) (fun z => absurd rfl z) (fun _ q => by have q2 := q.2 k (by omega) (by omega); have := q2.1; have := q2.2.1; omega)
            · skip
              refine wq_aload_n (pc := 137) dX7_areSame_137 rfl rfl ?_
              refine wq_getS (pc := 138) dX7_areSame_138 hs (gf_X7_87 _ rfl) rfl rfl rfl rfl rfl ?_
              refine wq_iload_n (pc := 141) dX7_areSame_141 rfl rfl ?_
              refine wq_ialdK (pc := 142) dX7_areSame_142 hs rfl (by omega) (by omega) ?_
              refine wq_aload_n (pc := 143) dX7_areSame_143 rfl rfl ?_
              refine wq_getS (pc := 144) dX7_areSame_144 hs (gf_X7_87 _ rfl) rfl rfl rfl rfl rfl ?_
              refine wq_sipush (pc := 147) dX7_areSame_147 (by decide) (by decide) ?_
              refine wq_iload_n (pc := 150) dX7_areSame_150 rfl rfl ?_
              refine wq_iadd (pc := 151) dX7_areSame_151 ?_
              refine wq_ialdK (pc := 152) dX7_areSame_152 hs rfl (by omega) (by omega) ?_
              refine wq_icmp_ne (pc := 153) (tgt := 160) dX7_areSame_153 (by decide) (by first | (unfold inR; omega) | assumption) (by first | (unfold inR; omega) | assumption) (fun c12 => ?_) (fun c12 => ?_)
              · skip
                refine wq_iconst (pc := 160) dX7_areSame_160 ?_
                refine wq_istore_n (pc := 161) (L' := [(1, _), (0, _), (2, _)]) dX7_areSame_161 rfl rfl (by decide) ?_
                refine wq_sub1 (L' := [(0, _), (1, _), (2, _)]) ⟨rfl, rfl, rfl, trivial⟩ ?_
                first
                  | (exfalso; omega)
                  | exact cut6 _ (Or.inr rfl) (fun _ => by omega) (fun z => absurd z (by decide))
                  | exact cut6 _ (Or.inl rfl) (fun z => absurd rfl z) (fun _ q => by have q2 := q.2 k (by omega) (by omega); have := q2.1; have := q2.2.1; omega)
              · skip
                refine wq_iconst (pc := 156) dX7_areSame_156 ?_
                refine wq_goto (pc := 157) (tgt := 161) dX7_areSame_157 (by decide) ?_
                refine wq_istore_n (pc := 161) (L' := [(1, _), (0, _), (2, _)]) dX7_areSame_161 rfl rfl (by decide) ?_
                refine wq_sub1 (L' := [(0, _), (1, _), (2, _)]) ⟨rfl, rfl, rfl, trivial⟩ ?_
                first
                  | (exfalso; omega)
                  | exact cut6 _ (Or.inr rfl) (fun _ => by omega) (fun z => absurd z (by decide))
                  | exact cut6 _ (Or.inl rfl) (fun z => absurd rfl z) (fun _ q => by have q2 := q.2 k (by omega) (by omega); have := q2.1; have := q2.2.1; omega)
    refine wq_sub1 (L' := [(0, _), (1, _), (2, _)]) ⟨rfl, rfl, rfl, trivial⟩ ?_
    exact lpf2 129 0 _ _ (by omega) (by omega) (by omega) hw01 (by omega) (fun z => ⟨hA z, fun i i0 i1 => by omega⟩) (fun z q => hnA z q.1)
  have cut13 : ∀ (w : Int), (w = 0 ∨ w = 1) → (w ≠ 0 → μ 45 0 = μ 45 1 ∧ μ 48 0 = μ 48 1) → (w = 0 → ¬ mSmA μ) → wp mX7_areSame 36 [(0, vR 21), (1, vI w)] [] μ ε Q := by
    intro w e0 e1 e2
    refine wq_iconst (pc := 36) dX7_areSame_36 ?_
    refine wq_istore_n (pc := 37) (L' := [(2, _), (0, _), (1, _)]) dX7_areSame_37 rfl rfl (by decide) ?_
    have loop14 : ∀ (n k : Nat), ∀ (w : Int) (j : Int), k ≤ 128 → 128 < k + n → j = (k : Int) → w = 0 ∨ w = 1 → (k : Int) ≤ μ 45 0 → (w ≠ 0 → (μ 45 0 = μ 45 1 ∧ μ 48 0 = μ 48 1) ∧ ∀ i, 0 ≤ i → i < (k : Int) → μ 43 i = μ 43 (128 + i) ∧ μ 44 i = μ 44 (128 + i)) → (w = 0 → ¬ mSmA μ) → wp mX7_areSame 38 [(0, vR 21), (1, vI w), (2, vI j)] [] μ ε Q := by
      intro n
      induction n with
      | zero => intro k w j hk1 hk2 e0 e1 e2 e3 e4; exact absurd hk2 (by omega)
      | succ n ih =>
        intro k w j hk1 hk2 e0 e1 e2 e3 e4
        subst e0
        have rk : inR (k : Int) := by unfold inR; omega
        have rw1 : inR w := by unfold inR; omega
        have rz5 := hr 43 ((k : Int)) (by decide) (by decide) (by decide)
        have rz6 := hr 43 (128 + (k : Int)) (by decide) (by decide) (by decide)
        have rz7 := hr 44 ((k : Int)) (by decide) (by decide) (by decide)
        have rz8 := hr 44 (128 + (k : Int)) (by decide) (by decide) (by decide)
        refine wq_iload_n (pc := 38) dX7_areSame_38 rfl rfl ?_
        refine wq_aload_n (pc := 39) dX7_areSame_39 rfl rfl ?_
        refine wq_getS (pc := 40) dX7_areSame_40 hs (gf_X7_81 _ rfl) rfl rfl rfl rfl rfl ?_
        refine wq_iconst (pc := 43) dX7_areSame_43 ?_
        refine wq_ialdK (pc := 44) dX7_areSame_44 hs rfl (by omega) (by omega) ?_
        refine wq_icmp_ge (pc := 45) (tgt := 102) dX7_areSame_45 (by decide) (by first | (unfold inR; omega) | assumption) (by first | (unfold inR; omega) | assumption) (fun c15 => ?_) (fun c15 => ?_)
        · skip
          refine wq_sub1 (L' := [(0, _), (1, _)]) ⟨rfl, rfl, trivial⟩ ?_
          exact cut1 _ e1 (fun z => ⟨(e3 z).1, fun i i0 i1 => (e3 z).2 i i0 (by omega)⟩) e4
        · skip
          refine wq_iload_n (pc := 48) dX7_areSame_48 rfl rfl ?_
          refine wq_if_eq (pc := 49) (tgt := 102) dX7_areSame_49 (by decide) (by first | (unfold inR; omega) | assumption) (fun c16 => ?_) (fun c16 => ?_)
          · skip
            refine wq_sub1 (L' := [(0, _), (1, _)]) ⟨rfl, rfl, trivial⟩ ?_
            exact cut1 _ e1 (fun z => ⟨(e3 z).1, fun i i0 i1 => (e3 z).2 i i0 (by omega)⟩) e4
          · skip
            refine wq_aload_n (pc := 52) dX7_areSame_52 rfl rfl ?_
            refine wq_getS (pc := 53) dX7_areSame_53 hs (gf_X7_75 _ rfl) rfl rfl rfl rfl rfl ?_
            refine wq_iload_n (pc := 56) dX7_areSame_56 rfl rfl ?_
            refine wq_ialdK (pc := 57) dX7_areSame_57 hs rfl (by omega) (by omega) ?_
            refine wq_aload_n (pc := 58) dX7_areSame_58 rfl rfl ?_
            refine wq_getS (pc := 59) dX7_areSame_59 hs (gf_X7_75 _ rfl) rfl rfl rfl rfl rfl ?_
            refine wq_sipush (pc := 62) dX7_areSame_62 (by decide) (by decide) ?_
            refine wq_iload_n (pc := 65) dX7_areSame_65 rfl rfl ?_
            refine wq_iadd (pc := 66) dX7_areSame_66 ?_
            refine wq_ialdK (pc := 67) dX7_areSame_67 hs rfl (by omega) (by omega) ?_
            refine wq_icmp_ne (pc := 68) (tgt := 94) dX7_areSame_68 (by decide) (by first | (unfold inR; omega) | assumption) (by first | (unfold inR; omega) | assumption) (fun c17 => ?_) (fun c17 => ?_)
            · skip
              refine wq_iconst (pc := 94) dX7_areSame_94 ?_
              refine wq_istore_n (pc := 95) (L' := [(1, _), (0, _), (2, _)]) dX7_areSame_95 rfl rfl (by decide) ?_
              refine wq_iinc (pc := 96) (L' := [(2, _), (1, _), (0, _)]) dX7_areSame_96 rfl rfl (by decide) ?_
              refine wq_goto (pc := 99) (tgt := 38) dX7_areSame_99 (by decide) ?_
              refine wq_sub1 (L' := [(0, _), (1, _), (2, _)]) ⟨rfl, rfl, rfl, trivial⟩ ?_
              first
                | (exfalso; omega)
                | exact ih (k + 1) _ _ (by omega) (by omega) (by omega) (Or.inr rfl) (by omega) (fun _ => ⟨(e3 (by assumption)).1, fun i i0 i1 => by
                    by_cases c9 : i = k
                    · subst c9; exact ⟨by omega, by omega⟩
                    · exact (e3 (by assumption)).2 i i0 (by omega)⟩) (fun z => absurd z (by decide))
                | exact ih (k + 1) _ _ (by omega) (by omega) (by omega) (Or.inl rfl) (by omega) (fun z => absurd rfl z) (fun _ z => by have := z.2 k (by omega) (by omega); omega)
            · skip
              refine wq_aload_n (pc := 71) dX7_areSame_71 rfl rfl ?_
              refine wq_getS (pc := 72) dX7_areSame_72 hs (gf_X7_78 _ rfl) rfl rfl rfl rfl rfl ?_
              refine wq_iload_n (pc := 75) dX7_areSame_75 rfl rfl ?_
              refine wq_ialdK (pc := 76) dX7_areSame_76 hs rfl (by omega) (by omega) ?_
              refine wq_aload_n (pc := 77) dX7_areSame_77 rfl rfl ?_
              refine wq_getS (pc := 78) dX7_areSame_78 hs (gf_X7_78 _ rfl) rfl rfl rfl rfl rfl ?_
              refine wq_sipush (pc := 81) dX7_areSame_81 (by decide) (by decide) ?_
              refine wq_iload_n (pc := 84) dX7_areSame_84 rfl rfl ?_
              refine wq_iadd (pc := 85) dX7_areSame_85 ?_
              refine wq_ialdK (pc := 86) dX7_areSame_86 hs rfl (by omega) (by omega) ?_
              refine wq_icmp_ne (pc := 87) (tgt := 94) dX7_areSame_87 (by decide) (by first | (unfold inR; omega) | assumption) (by first | (unfold inR; omega) | assumption) (fun c18 => ?_) (fun c18 => ?_)
              · skip
                refine wq_iconst (pc := 94) dX7_areSame_94 ?_
                refine wq_istore_n (pc := 95) (L' := [(1, _), (0, _), (2, _)]) dX7_areSame_95 rfl rfl (by decide) ?_
                refine wq_iinc (pc := 96) (L' := [(2, _), (1, _), (0, _)]) dX7_areSame_96 rfl rfl (by decide) ?_
                refine wq_goto (pc := 99) (tgt := 38) dX7_areSame_99 (by decide) ?_
                refine wq_sub1 (L' := [(0, _), (1, _), (2, _)]) ⟨rfl, rfl, rfl, trivial⟩ ?_
                first
                  | (exfalso; omega)
                  | exact ih (k + 1) _ _ (by omega) (by omega) (by omega) (Or.inr rfl) (by omega) (fun _ => ⟨(e3 (by assumption)).1, fun i i0 i1 => by
                      by_cases c9 : i = k
                      · subst c9; exact ⟨by omega, by omega⟩
                      · exact (e3 (by assumption)).2 i i0 (by omega)⟩) (fun z => absurd z (by decide))
                  | exact ih (k + 1) _ _ (by omega) (by omega) (by omega) (Or.inl rfl) (by omega) (fun z => absurd rfl z) (fun _ z => by have := z.2 k (by omega) (by omega); omega)
              · skip
                refine wq_iconst (pc := 90) dX7_areSame_90 ?_
                refine wq_goto (pc := 91) (tgt := 95) dX7_areSame_91 (by decide) ?_
                refine wq_istore_n (pc := 95) (L' := [(1, _), (0, _), (2, _)]) dX7_areSame_95 rfl rfl (by decide) ?_
                refine wq_iinc (pc := 96) (L' := [(2, _), (1, _), (0, _)]) dX7_areSame_96 rfl rfl (by decide) ?_
                refine wq_goto (pc := 99) (tgt := 38) dX7_areSame_99 (by decide) ?_
                refine wq_sub1 (L' := [(0, _), (1, _), (2, _)]) ⟨rfl, rfl, rfl, trivial⟩ ?_
                first
                  | (exfalso; omega)
                  | exact ih (k + 1) _ _ (by omega) (by omega) (by omega) (Or.inr rfl) (by omega) (fun _ => ⟨(e3 (by assumption)).1, fun i i0 i1 => by
                      by_cases c9 : i = k
                      · subst c9; exact ⟨by omega, by omega⟩
                      · exact (e3 (by assumption)).2 i i0 (by omega)⟩) (fun z => absurd z (by decide))
                  | exact ih (k + 1) _ _ (by omega) (by omega) (by omega) (Or.inl rfl) (by omega) (fun z => absurd rfl z) (fun _ z => by have := z.2 k (by omega) (by omega); omega)
    refine wq_sub1 (L' := [(0, _), (1, _), (2, _)]) ⟨rfl, rfl, rfl, trivial⟩ ?_
    exact loop14 129 0 _ _ (by omega) (by omega) (by omega) e0 (by omega) (fun z => ⟨e1 z, fun i i0 i1 => by omega⟩) e2
  refine wq_aload_n (pc := 0) dX7_areSame_0 rfl rfl ?_
  refine wq_getS (pc := 1) dX7_areSame_1 hs (gf_X7_81 _ rfl) rfl rfl rfl rfl rfl ?_
  refine wq_iconst (pc := 4) dX7_areSame_4 ?_
  refine wq_ialdK (pc := 5) dX7_areSame_5 hs rfl (by omega) (by omega) ?_
  refine wq_aload_n (pc := 6) dX7_areSame_6 rfl rfl ?_
  refine wq_getS (pc := 7) dX7_areSame_7 hs (gf_X7_81 _ rfl) rfl rfl rfl rfl rfl ?_
  refine wq_iconst (pc := 10) dX7_areSame_10 ?_
  refine wq_ialdK (pc := 11) dX7_areSame_11 hs rfl (by omega) (by omega) ?_
  refine wq_icmp_ne (pc := 12) (tgt := 34) dX7_areSame_12 (by decide) (by first | (unfold inR; omega) | assumption) (by first | (unfold inR; omega) | assumption) (fun c19 => ?_) (fun c19 => ?_)
  · skip
    refine wq_iconst (pc := 34) dX7_areSame_34 ?_
    refine wq_istore_n (pc := 35) (L' := [(1, _), (0, _)]) dX7_areSame_35 rfl rfl (by decide) ?_
    refine wq_sub1 (L' := [(0, _), (1, _)]) ⟨rfl, rfl, trivial⟩ ?_
    first
      | (exfalso; omega)
      | exact cut13 _ (Or.inr rfl) (fun _ => by omega) (fun z => absurd z (by decide))
      | exact cut13 _ (Or.inl rfl) (fun z => absurd rfl z) (fun _ q => by have := q.1; omega)
  · skip
    refine wq_aload_n (pc := 15) dX7_areSame_15 rfl rfl ?_
    refine wq_getS (pc := 16) dX7_areSame_16 hs (gf_X7_90 _ rfl) rfl rfl rfl rfl rfl ?_
    refine wq_iconst (pc := 19) dX7_areSame_19 ?_
    refine wq_ialdK (pc := 20) dX7_areSame_20 hs rfl (by omega) (by omega) ?_
    refine wq_aload_n (pc := 21) dX7_areSame_21 rfl rfl ?_
    refine wq_getS (pc := 22) dX7_areSame_22 hs (gf_X7_90 _ rfl) rfl rfl rfl rfl rfl ?_
    refine wq_iconst (pc := 25) dX7_areSame_25 ?_
    refine wq_ialdK (pc := 26) dX7_areSame_26 hs rfl (by omega) (by omega) ?_
    refine wq_icmp_ne (pc := 27) (tgt := 34) dX7_areSame_27 (by decide) (by first | (unfold inR; omega) | assumption) (by first | (unfold inR; omega) | assumption) (fun c20 => ?_) (fun c20 => ?_)
    · skip
      refine wq_iconst (pc := 34) dX7_areSame_34 ?_
      refine wq_istore_n (pc := 35) (L' := [(1, _), (0, _)]) dX7_areSame_35 rfl rfl (by decide) ?_
      refine wq_sub1 (L' := [(0, _), (1, _)]) ⟨rfl, rfl, trivial⟩ ?_
      first
        | (exfalso; omega)
        | exact cut13 _ (Or.inr rfl) (fun _ => by omega) (fun z => absurd z (by decide))
        | exact cut13 _ (Or.inl rfl) (fun z => absurd rfl z) (fun _ q => by have := q.1; omega)
    · skip
      refine wq_iconst (pc := 30) dX7_areSame_30 ?_
      refine wq_goto (pc := 31) (tgt := 35) dX7_areSame_31 (by decide) ?_
      refine wq_istore_n (pc := 35) (L' := [(1, _), (0, _)]) dX7_areSame_35 rfl rfl (by decide) ?_
      refine wq_sub1 (L' := [(0, _), (1, _)]) ⟨rfl, rfl, trivial⟩ ?_
      first
        | (exfalso; omega)
        | exact cut13 _ (Or.inr rfl) (fun _ => by omega) (fun z => absurd z (by decide))
        | exact cut13 _ (Or.inl rfl) (fun z => absurd rfl z) (fun _ q => by have := q.1; omega)
