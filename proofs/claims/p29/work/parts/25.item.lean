/-- an item's own shape: its kind, and its cells' -/
def isItm (ε : nEnv) (a : Int) : Prop := eKind ε a = 2 ∧ eKind ε (eFin ε a 0) = 11 ∧ eLen ε (eFin ε a 0) = 100
theorem isItm_ne {ε : nEnv} {a : Int} (h : isItm ε a) : eFin ε a 0 ≠ a := by
  intro e; have := h.2.1; rw [e, h.1] at this; cases this
def nCell (μ : nMem) (ε : nEnv) (a i : Int) : Int := if 0 ≤ i ∧ i < 100 then μ (eFin ε a 0) i else 0
def mCell (μ : nMem) (ε : nEnv) (a i v : Int) : nMem := if 0 ≤ i ∧ i < 100 then wr μ (eFin ε a 0) i v else μ
theorem mCell_n {μ : nMem} {ε : nEnv} {a i v x j : Int} (h : x ≠ eFin ε a 0) : mCell μ ε a i v x j = μ x j := by
  unfold mCell; split
  · exact wr_n _ _ (fun q => h q.1)
  · rfl
/-- memory of a fresh item's fields -/
def mItm (μ : nMem) (a n d : Int) : nMem := wr (wr (wr (wr (wr (wr μ a 1 n) a 2 d) a 3 0) a 4 0) a 5 0) a 6 0
/-- how many names lie up to a place -/
def cntN (f : Int → Int) : Nat → Int
  | 0 => 0
  | k + 1 => cntN f k + if f ((k : Int) + 1) ≠ 0 then 1 else 0
theorem cntN_s (f : Int → Int) (k : Nat) : cntN f (k + 1) = cntN f k + if f ((k : Int) + 1) ≠ 0 then 1 else 0 := rfl
theorem cntN_b (f : Int → Int) (k : Nat) : 0 ≤ cntN f k ∧ cntN f k ≤ k := by
  induction k with
  | zero => exact ⟨Int.le_refl _, Int.le_refl _⟩
  | succ k ih => rw [cntN_s]; split <;> omega
theorem cntN_mono (f : Int → Int) {k n : Nat} (h : k ≤ n) : cntN f k ≤ cntN f n := by
  induction n with
  | zero => have : k = 0 := by omega
            rw [this]; exact Int.le_refl _
  | succ n ih =>
    by_cases e : k = n + 1
    · rw [e]; exact Int.le_refl _
    · have := ih (by omega); rw [cntN_s]; split <;> omega
theorem sp_X1_begin {μ : nMem} {ε : nEnv} {Q : nOut → nMem → nEnv → Prop} {a nn d : Int} (hI : isItm ε a) (hd : d = 0 ∨ d = 1) (h : ∀ μ9, (∀ x j, x ≠ eFin ε a 0 → μ9 x j = mItm μ a nn d x j) → (∀ j, 0 ≤ j → j < 100 → μ9 (eFin ε a 0) j = 0) → Q (.inl none) μ9 ε) : Sp mX1_begin [vR a, vI nn, vI d] μ ε Q := by
  refine Sp_of (L := [(0, vR a), (1, vI nn), (2, vI d)]) (by decide) rfl rfl (Nat.le_of_ble_eq_true rfl) ?_
  obtain ⟨hk, hkc, hlc⟩ := id hI
  have hne := isItm_ne hI
  refine wq_aload_n (pc := 0) dX1_begin_0 rfl rfl ?_
  refine wq_iload_n (pc := 1) dX1_begin_1 rfl rfl ?_
  refine wq_putI (pc := 2) (kk := 1) dX1_begin_2 (gf_X1_15 _ rfl) (by with_reducible assumption) rfl rfl rfl rfl ?_
  refine wq_aload_n (pc := 5) dX1_begin_5 rfl rfl ?_
  refine wq_iload_n (pc := 6) dX1_begin_6 rfl rfl ?_
  refine wq_putZ (pc := 7) (kk := 2) dX1_begin_7 (gf_X1_19 _ rfl) (by with_reducible assumption) rfl rfl rfl rfl (by first | assumption | omega | (simp; done)) ?_
  refine wq_aload_n (pc := 10) dX1_begin_10 rfl rfl ?_
  refine wq_iconst (pc := 11) dX1_begin_11 ?_
  refine wq_putI (pc := 12) (kk := 3) dX1_begin_12 (gf_X1_23 _ rfl) (by with_reducible assumption) rfl rfl rfl rfl ?_
  refine wq_aload_n (pc := 15) dX1_begin_15 rfl rfl ?_
  refine wq_iconst (pc := 16) dX1_begin_16 ?_
  refine wq_putI (pc := 17) (kk := 4) dX1_begin_17 (gf_X1_26 _ rfl) (by with_reducible assumption) rfl rfl rfl rfl ?_
  refine wq_aload_n (pc := 20) dX1_begin_20 rfl rfl ?_
  refine wq_iconst (pc := 21) dX1_begin_21 ?_
  refine wq_putI (pc := 22) (kk := 5) dX1_begin_22 (gf_X1_29 _ rfl) (by with_reducible assumption) rfl rfl rfl rfl ?_
  refine wq_aload_n (pc := 25) dX1_begin_25 rfl rfl ?_
  refine wq_iconst (pc := 26) dX1_begin_26 ?_
  refine wq_putI (pc := 27) (kk := 6) dX1_begin_27 (gf_X1_32 _ rfl) (by with_reducible assumption) rfl rfl rfl rfl ?_
  refine wq_iconst (pc := 30) dX1_begin_30 ?_
  refine wq_istore_n (pc := 31) (L' := [(3, _), (0, _), (1, _), (2, _)]) dX1_begin_31 rfl rfl (by decide) ?_
  have loop1 : ∀ (n k : Nat), ∀ (m : nMem) (i : Int), k ≤ 100 → 100 < k + n → i = (k : Int) → (∀ x j, x ≠ eFin ε a 0 → m x j = mItm μ a nn d x j) → (∀ j : Int, 0 ≤ j → j < k → m (eFin ε a 0) j = 0) → wp mX1_begin 32 [(0, vR a), (3, vI i)] [] m ε Q := by
    intro n
    induction n with
    | zero => intro k m i hk1 hk2 e0 e1 e2; exact absurd hk2 (by omega)
    | succ n ih =>
      intro k m i hk1 hk2 e0 e1 e2
      subst e0
      refine wq_iload_n (pc := 32) dX1_begin_32 rfl rfl ?_
      refine wq_aload_n (pc := 33) dX1_begin_33 rfl rfl ?_
      refine wq_getR (pc := 34) (kk := 0) dX1_begin_34 (gf_X1_9 _ rfl) (by with_reducible assumption) rfl rfl rfl ?_
      refine wq_alen (pc := 37) dX1_begin_37 (by rw [hkc]; decide) ?_
      refine wq_icmp_ge (pc := 38) (tgt := 54) dX1_begin_38 (by decide) (by first | (unfold inR; omega) | assumption) (by first | (unfold inR; omega) | assumption) (fun c2 => ?_) (fun c2 => ?_)
      · skip
        refine wq_vret (pc := 54) dX1_begin_54 rfl ?_
        exact h _ e1 (fun j j0 j1 => e2 j j0 (by omega))
      · skip
        refine wq_aload_n (pc := 41) dX1_begin_41 rfl rfl ?_
        refine wq_getR (pc := 42) (kk := 0) dX1_begin_42 (gf_X1_9 _ rfl) (by with_reducible assumption) rfl rfl rfl ?_
        refine wq_iload_n (pc := 45) dX1_begin_45 rfl rfl ?_
        refine wq_iconst (pc := 46) dX1_begin_46 ?_
        refine wq_iast (pc := 47) dX1_begin_47 (by with_reducible assumption) (by omega) (by omega) ?_
        refine wq_iinc (pc := 48) (L' := [(3, _), (0, _)]) dX1_begin_48 rfl rfl (by decide) ?_
        refine wq_goto (pc := 51) (tgt := 32) dX1_begin_51 (by decide) ?_
        refine wq_sub1 (L' := [(0, _), (3, _)]) ⟨rfl, rfl, trivial⟩ ?_
        refine ih (k + 1) _ _ (by omega) (by omega) (by omega) (fun x j hx => ?_) (fun j j0 j1 => ?_)
        · rw [wr_n _ _ (fun q => hx q.1)]; exact e1 x j hx
        · by_cases e : j = k
          · subst e; exact wr_s _ _ _ _
          · rw [wr_n _ _ (fun q => e q.2)]; exact e2 j j0 (by omega)
  refine wq_sub1 (L' := [(0, _), (3, _)]) ⟨rfl, rfl, trivial⟩ ?_
  exact loop1 101 0 _ _ (by omega) (by omega) (by omega) (fun x j _ => rfl) (fun j j0 j1 => absurd j1 (by omega))
theorem sp_X1_cell {μ : nMem} {ε : nEnv} {Q : nOut → nMem → nEnv → Prop} {a i : Int} (hI : isItm ε a) (ri : inR i) (h : Q (.inl (some (vI (nCell μ ε a i)))) μ ε) : Sp mX1_cell [vR a, vI i] μ ε Q := by
  refine Sp_of (L := [(0, vR a), (1, vI i)]) (by decide) rfl rfl (Nat.le_of_ble_eq_true rfl) ?_
  obtain ⟨hk, hkc, hlc⟩ := id hI
  have hne := isItm_ne hI
  unfold nCell at h
  refine wq_iload_n (pc := 0) dX1_cell_0 rfl rfl ?_
  refine wq_if_lt (pc := 1) (tgt := 22) dX1_cell_1 (by decide) (by first | (unfold inR; omega) | assumption) (fun c1 => ?_) (fun c1 => ?_)
  · skip
    refine wq_iconst (pc := 22) dX1_cell_22 ?_
    refine wq_iret (pc := 23) dX1_cell_23 rfl ?_
    first | (rw [if_pos (by omega)] at h; exact h) | (rw [if_neg (by omega)] at h; exact h)
  · skip
    refine wq_iload_n (pc := 4) dX1_cell_4 rfl rfl ?_
    refine wq_aload_n (pc := 5) dX1_cell_5 rfl rfl ?_
    refine wq_getR (pc := 6) (kk := 0) dX1_cell_6 (gf_X1_9 _ rfl) (by with_reducible assumption) rfl rfl rfl ?_
    refine wq_alen (pc := 9) dX1_cell_9 (by rw [hkc]; decide) ?_
    refine wq_icmp_ge (pc := 10) (tgt := 22) dX1_cell_10 (by decide) (by first | (unfold inR; omega) | assumption) (by first | (unfold inR; omega) | assumption) (fun c2 => ?_) (fun c2 => ?_)
    · skip
      refine wq_iconst (pc := 22) dX1_cell_22 ?_
      refine wq_iret (pc := 23) dX1_cell_23 rfl ?_
      first | (rw [if_pos (by omega)] at h; exact h) | (rw [if_neg (by omega)] at h; exact h)
    · skip
      refine wq_aload_n (pc := 13) dX1_cell_13 rfl rfl ?_
      refine wq_getR (pc := 14) (kk := 0) dX1_cell_14 (gf_X1_9 _ rfl) (by with_reducible assumption) rfl rfl rfl ?_
      refine wq_iload_n (pc := 17) dX1_cell_17 rfl rfl ?_
      refine wq_iald (pc := 18) dX1_cell_18 (by with_reducible assumption) (by omega) (by omega) ?_
      refine wq_goto (pc := 19) (tgt := 23) dX1_cell_19 (by decide) ?_
      refine wq_iret (pc := 23) dX1_cell_23 rfl ?_
      first | (rw [if_pos (by omega)] at h; exact h) | (rw [if_neg (by omega)] at h; exact h)
theorem sp_X1_setCell {μ : nMem} {ε : nEnv} {Q : nOut → nMem → nEnv → Prop} {a i v : Int} (hI : isItm ε a) (ri : inR i) (h : Q (.inl none) (mCell μ ε a i v) ε) : Sp mX1_setCell [vR a, vI i, vI v] μ ε Q := by
  refine Sp_of (L := [(0, vR a), (1, vI i), (2, vI v)]) (by decide) rfl rfl (Nat.le_of_ble_eq_true rfl) ?_
  obtain ⟨hk, hkc, hlc⟩ := id hI
  have hne := isItm_ne hI
  unfold mCell at h
  refine wq_iload_n (pc := 0) dX1_setCell_0 rfl rfl ?_
  refine wq_if_lt (pc := 1) (tgt := 20) dX1_setCell_1 (by decide) (by first | (unfold inR; omega) | assumption) (fun c1 => ?_) (fun c1 => ?_)
  · skip
    refine wq_vret (pc := 20) dX1_setCell_20 rfl ?_
    first | (rw [if_pos (by omega)] at h; exact h) | (rw [if_neg (by omega)] at h; exact h)
  · skip
    refine wq_iload_n (pc := 4) dX1_setCell_4 rfl rfl ?_
    refine wq_aload_n (pc := 5) dX1_setCell_5 rfl rfl ?_
    refine wq_getR (pc := 6) (kk := 0) dX1_setCell_6 (gf_X1_9 _ rfl) (by with_reducible assumption) rfl rfl rfl ?_
    refine wq_alen (pc := 9) dX1_setCell_9 (by rw [hkc]; decide) ?_
    refine wq_icmp_ge (pc := 10) (tgt := 20) dX1_setCell_10 (by decide) (by first | (unfold inR; omega) | assumption) (by first | (unfold inR; omega) | assumption) (fun c2 => ?_) (fun c2 => ?_)
    · skip
      refine wq_vret (pc := 20) dX1_setCell_20 rfl ?_
      first | (rw [if_pos (by omega)] at h; exact h) | (rw [if_neg (by omega)] at h; exact h)
    · skip
      refine wq_aload_n (pc := 13) dX1_setCell_13 rfl rfl ?_
      refine wq_getR (pc := 14) (kk := 0) dX1_setCell_14 (gf_X1_9 _ rfl) (by with_reducible assumption) rfl rfl rfl ?_
      refine wq_iload_n (pc := 17) dX1_setCell_17 rfl rfl ?_
      refine wq_iload_n (pc := 18) dX1_setCell_18 rfl rfl ?_
      refine wq_iast (pc := 19) dX1_setCell_19 (by with_reducible assumption) (by omega) (by omega) ?_
      refine wq_vret (pc := 20) dX1_setCell_20 rfl ?_
      first | (rw [if_pos (by omega)] at h; exact h) | (rw [if_neg (by omega)] at h; exact h)
theorem sp_X1_nameBehind {μ : nMem} {ε : nEnv} {Q : nOut → nMem → nEnv → Prop} {a nn : Int} (hI : isItm ε a) (rn : inR nn) (rc : ∀ i, inR (nCell μ ε a i)) (h1 : ∀ p : Nat, 1 ≤ p → p ≤ 99 → nCell μ ε a p ≠ 0 → cntN (nCell μ ε a) (p - 1) = nn → Q (.inl (some (vI p))) μ ε) (h2 : (∀ p : Nat, 1 ≤ p → p ≤ 99 → nCell μ ε a p ≠ 0 → cntN (nCell μ ε a) (p - 1) ≠ nn) → Q (.inl (some (vI (-1)))) μ ε) : Sp mX1_nameBehind [vR a, vI nn] μ ε Q := by
  refine Sp_of (L := [(0, vR a), (1, vI nn)]) (by decide) rfl rfl (Nat.le_of_ble_eq_true rfl) ?_
  obtain ⟨hk, hkc, hlc⟩ := id hI
  have hne := isItm_ne hI
  refine wq_iconst (pc := 0) dX1_nameBehind_0 ?_
  refine wq_istore_n (pc := 1) (L' := [(2, _), (0, _), (1, _)]) dX1_nameBehind_1 rfl rfl (by decide) ?_
  refine wq_iconst (pc := 2) dX1_nameBehind_2 ?_
  refine wq_istore_n (pc := 3) (L' := [(3, _), (2, _), (0, _), (1, _)]) dX1_nameBehind_3 rfl rfl (by decide) ?_
  have loop1 : ∀ (n k : Nat), ∀ (i c : Int), k ≤ 100 → 100 < k + n → i = (k : Int) → 1 ≤ k → c = cntN (nCell μ ε a) (k - 1) → (∀ p : Nat, p < k → 1 ≤ p → nCell μ ε a p ≠ 0 → cntN (nCell μ ε a) (p - 1) ≠ nn) → wp mX1_nameBehind 4 [(0, vR a), (1, vI nn), (2, vI c), (3, vI i)] [] μ ε Q := by
    intro n
    induction n with
    | zero => intro k i c hk1 hk2 e0 e1 e2 e3; exact absurd hk2 (by omega)
    | succ n ih =>
      intro k i c hk1 hk2 e0 e1 e2 e3
      subst e0
      have cb := cntN_b (nCell μ ε a) (k - 1)
      have cs := cntN_s (nCell μ ε a) (k - 1)
      rw [show k - 1 + 1 = k by omega, show ((k - 1 : Nat) : Int) + 1 = k by omega] at cs
      refine wq_iload_n (pc := 4) dX1_nameBehind_4 rfl rfl ?_
      refine wq_bipush (pc := 5) dX1_nameBehind_5 (by decide) (by decide) ?_
      refine wq_icmp_gt (pc := 7) (tgt := 34) dX1_nameBehind_7 (by decide) (by first | (unfold inR; omega) | assumption) (by first | (unfold inR; omega) | assumption) (fun c2 => ?_) (fun c2 => ?_)
      · skip
        refine wq_iconst (pc := 34) dX1_nameBehind_34 ?_
        refine wq_iret (pc := 35) dX1_nameBehind_35 rfl ?_
        first
          | exact h1 k e1 (by omega) (by assumption) (by rw [← e2]; assumption)
          | exact h1 k e1 (by omega) (by omega) (by omega)
          | exact h2 (fun p p1 p2 p3 => e3 p (by omega) p1 p3)
      · skip
        have rck := rc k
        refine wq_aload_n (pc := 10) dX1_nameBehind_10 rfl rfl ?_
        refine wq_iload_n (pc := 11) dX1_nameBehind_11 rfl rfl ?_
        refine cV_1 (pc := 12) dX1_nameBehind_12 (cw_X1_51 _ rfl) (by decide) (by with_reducible assumption) ⟨by decide, by decide⟩ (Nat.le_of_ble_eq_true rfl) (sp_X1_cell (by assumption) (by first | (unfold inR; omega) | assumption) ?_)
        refine kr_s ?_
        refine wq_if_eq (pc := 15) (tgt := 28) dX1_nameBehind_15 (by decide) (by first | (unfold inR; omega) | assumption) (fun c3 => ?_) (fun c3 => ?_)
        · skip
          refine wq_iinc (pc := 28) (L' := [(3, _), (0, _), (1, _), (2, _)]) dX1_nameBehind_28 rfl rfl (by decide) ?_
          refine wq_goto (pc := 31) (tgt := 4) dX1_nameBehind_31 (by decide) ?_
          refine wq_sub1 (L' := [(0, _), (1, _), (2, _), (3, _)]) ⟨rfl, rfl, rfl, rfl, trivial⟩ ?_
          first
            | (rw [if_pos (by assumption)] at cs
               refine ih (k + 1) _ _ (by omega) (by omega) (by omega) (by omega) (by rw [show k + 1 - 1 = k by omega]; omega) (fun p p0 p1 p2 => ?_)
               by_cases e : p = k
               · subst e; rw [← e2]; assumption
               · exact e3 p (by omega) p1 p2)
            | (rw [if_neg (by assumption)] at cs
               refine ih (k + 1) _ _ (by omega) (by omega) (by omega) (by omega) (by rw [show k + 1 - 1 = k by omega]; omega) (fun p p0 p1 p2 => ?_)
               by_cases e : p = k
               · subst e; exact absurd p2 (by assumption)
               · exact e3 p (by omega) p1 p2)
            | (rw [if_neg (by omega)] at cs
               refine ih (k + 1) _ _ (by omega) (by omega) (by omega) (by omega) (by rw [show k + 1 - 1 = k by omega]; omega) (fun p p0 p1 p2 => ?_)
               by_cases e : p = k
               · subst e; exact absurd p2 (by omega)
               · exact e3 p (by omega) p1 p2)
        · skip
          refine wq_iload_n (pc := 18) dX1_nameBehind_18 rfl rfl ?_
          refine wq_iload_n (pc := 19) dX1_nameBehind_19 rfl rfl ?_
          refine wq_icmp_ne (pc := 20) (tgt := 25) dX1_nameBehind_20 (by decide) (by first | (unfold inR; omega) | assumption) (by first | (unfold inR; omega) | assumption) (fun c4 => ?_) (fun c4 => ?_)
          · skip
            refine wq_iinc (pc := 25) (L' := [(2, _), (0, _), (1, _), (3, _)]) dX1_nameBehind_25 rfl rfl (by decide) ?_
            refine wq_iinc (pc := 28) (L' := [(3, _), (2, _), (0, _), (1, _)]) dX1_nameBehind_28 rfl rfl (by decide) ?_
            refine wq_goto (pc := 31) (tgt := 4) dX1_nameBehind_31 (by decide) ?_
            refine wq_sub1 (L' := [(0, _), (1, _), (2, _), (3, _)]) ⟨rfl, rfl, rfl, rfl, trivial⟩ ?_
            first
              | (rw [if_pos (by assumption)] at cs
                 refine ih (k + 1) _ _ (by omega) (by omega) (by omega) (by omega) (by rw [show k + 1 - 1 = k by omega]; omega) (fun p p0 p1 p2 => ?_)
                 by_cases e : p = k
                 · subst e; rw [← e2]; assumption
                 · exact e3 p (by omega) p1 p2)
              | (rw [if_neg (by assumption)] at cs
                 refine ih (k + 1) _ _ (by omega) (by omega) (by omega) (by omega) (by rw [show k + 1 - 1 = k by omega]; omega) (fun p p0 p1 p2 => ?_)
                 by_cases e : p = k
                 · subst e; exact absurd p2 (by assumption)
                 · exact e3 p (by omega) p1 p2)
              | (rw [if_neg (by omega)] at cs
                 refine ih (k + 1) _ _ (by omega) (by omega) (by omega) (by omega) (by rw [show k + 1 - 1 = k by omega]; omega) (fun p p0 p1 p2 => ?_)
                 by_cases e : p = k
                 · subst e; exact absurd p2 (by omega)
                 · exact e3 p (by omega) p1 p2)
          · skip
            refine wq_iload_n (pc := 23) dX1_nameBehind_23 rfl rfl ?_
            refine wq_iret (pc := 24) dX1_nameBehind_24 rfl ?_
            first
              | exact h1 k e1 (by omega) (by assumption) (by rw [← e2]; assumption)
              | exact h1 k e1 (by omega) (by omega) (by omega)
              | exact h2 (fun p p1 p2 p3 => e3 p (by omega) p1 p3)
  refine wq_sub1 (L' := [(0, _), (1, _), (2, _), (3, _)]) ⟨rfl, rfl, rfl, rfl, trivial⟩ ?_
  exact loop1 101 1 _ _ (by omega) (by omega) (by omega) (by omega) rfl (fun p p0 p1 => absurd p0 (by omega))
theorem nB_congr {μ m : nMem} {o : Int} (h : nB μ o) (e : ∀ j, m o j = μ o j) : nB m o := by
  unfold nB at h ⊢; simp only [e]; exact h
theorem nSettles_c {μ m : nMem} {o : Int} (e : ∀ j, m o j = μ o j) (p : Int) : nSettles m o p ↔ nSettles μ o p := by
  unfold nSettles; simp only [e]
theorem nByteFor_c {μ m : nMem} {o : Int} (e : ∀ j, m o j = μ o j) (p : Int) : nByteFor m o p = nByteFor μ o p := by
  unfold nByteFor nByte; simp only [e]
theorem sp_X1_lay {μ : nMem} {ε : nEnv} {Q : nOut → nMem → nEnv → Prop} {a o : Int} (hI : isItm ε a) (hko : eKind ε o = 5) (hb : nB μ o) (h : ∀ μ9, μ9 a 6 = μ o 9 → μ9 a 3 = μ o 4 → (∀ x j, x ≠ eFin ε a 0 → ¬ (x = a ∧ j = 6) → ¬ (x = a ∧ j = 3) → μ9 x j = μ x j) → (∀ p, 0 ≤ p → p < 100 → μ9 (eFin ε a 0) p = if p < 64 ∧ nSettles μ o p then nByteFor μ o p else μ (eFin ε a 0) p) → Q (.inl none) μ9 ε) : Sp mX1_lay [vR a, vR o] μ ε Q := by
  refine Sp_of (L := [(0, vR a), (1, vR o)]) (by decide) rfl rfl (Nat.le_of_ble_eq_true rfl) ?_
  obtain ⟨hk, hkc, hlc⟩ := id hI
  have hne := isItm_ne hI
  have hoa : o ≠ a := by intro e; rw [e, hk] at hko; cases hko
  have hoc : o ≠ eFin ε a 0 := by intro e; rw [e, hkc] at hko; cases hko
  refine wq_aload_n (pc := 0) dX1_lay_0 rfl rfl ?_
  refine wq_aload_n (pc := 1) dX1_lay_1 rfl rfl ?_
  refine wq_getI (pc := 2) (kk := 9) dX1_lay_2 (gf_X1_35 _ rfl) (by with_reducible assumption) rfl rfl rfl ?_
  refine wq_putI (pc := 5) (kk := 6) dX1_lay_5 (gf_X1_32 _ rfl) (by with_reducible assumption) rfl rfl rfl rfl ?_
  refine wq_iconst (pc := 8) dX1_lay_8 ?_
  refine wq_istore_n (pc := 9) (L' := [(2, _), (0, _), (1, _)]) dX1_lay_9 rfl rfl (by decide) ?_
  have loop1 : ∀ (n k : Nat), ∀ (m : nMem) (i : Int), k ≤ 64 → 64 < k + n → i = (k : Int) → m a 6 = μ o 9 → (∀ x j, x ≠ eFin ε a 0 → ¬ (x = a ∧ j = 6) → m x j = μ x j) → (∀ p, 0 ≤ p → p < 100 → m (eFin ε a 0) p = if p < k ∧ nSettles μ o p then nByteFor μ o p else μ (eFin ε a 0) p) → wp mX1_lay 10 [(0, vR a), (1, vR o), (2, vI i)] [] m ε Q := by
    intro n
    induction n with
    | zero => intro k m i hk1 hk2 e0 e1 e2 e3; exact absurd hk2 (by omega)
    | succ n ih =>
      intro k m i hk1 hk2 e0 e1 e2 e3
      subst e0
      have eo : ∀ j, m o j = μ o j := fun j => e2 o j hoc (fun q => hoa q.1)
      have e4 : nB m o := nB_congr hb eo
      refine wq_iload_n (pc := 10) dX1_lay_10 rfl rfl ?_
      refine wq_bipush (pc := 11) dX1_lay_11 (by decide) (by decide) ?_
      refine wq_icmp_ge (pc := 13) (tgt := 40) dX1_lay_13 (by decide) (by first | (unfold inR; omega) | assumption) (by first | (unfold inR; omega) | assumption) (fun c2 => ?_) (fun c2 => ?_)
      · skip
        refine wq_aload_n (pc := 40) dX1_lay_40 rfl rfl ?_
        refine wq_aload_n (pc := 41) dX1_lay_41 rfl rfl ?_
        refine wq_getI (pc := 42) (kk := 4) dX1_lay_42 (gf_X1_50 _ rfl) (by with_reducible assumption) rfl rfl rfl ?_
        refine wq_putI (pc := 45) (kk := 3) dX1_lay_45 (gf_X1_23 _ rfl) (by with_reducible assumption) rfl rfl rfl rfl ?_
        refine wq_vret (pc := 48) dX1_lay_48 rfl ?_
        refine h _ (by rw [wr_n _ _ (by omega)]; exact e1) (by rw [wr_s]; exact eo 4) (fun x j x1 x2 x3 => by rw [wr_n _ _ x3]; exact e2 x j x1 x2) (fun p p0 p1 => ?_)
        rw [wr_n _ _ (fun q => hne q.1), e3 p p0 p1, show (k : Int) = 64 by omega]
      · skip
        refine wq_aload_n (pc := 16) dX1_lay_16 rfl rfl ?_
        refine wq_iload_n (pc := 17) dX1_lay_17 rfl rfl ?_
        refine cV_1 (pc := 18) dX1_lay_18 (cw_X1_38 _ rfl) (by decide) (by with_reducible assumption) ⟨by decide, by decide⟩ (Nat.le_of_ble_eq_true rfl) (sp_X4_settles (by with_reducible assumption) (e4) (by omega) (fun hse => ?_) (fun hse => ?_))
        · skip
          refine kr_s ?_
          refine wq_if_eq (pc := 21) (tgt := 34) dX1_lay_21 (by decide) (by first | (unfold inR; omega) | assumption) (fun c => absurd c (by decide)) (fun _ => ?_)
          refine wq_aload_n (pc := 24) dX1_lay_24 rfl rfl ?_
          refine wq_iload_n (pc := 25) dX1_lay_25 rfl rfl ?_
          refine wq_aload_n (pc := 26) dX1_lay_26 rfl rfl ?_
          refine wq_iload_n (pc := 27) dX1_lay_27 rfl rfl ?_
          refine cV_1 (pc := 28) dX1_lay_28 (cw_X1_42 _ rfl) (by decide) (by with_reducible assumption) ⟨by decide, by decide⟩ (Nat.le_of_ble_eq_true rfl) (sp_X4_byteFor (by with_reducible assumption) (e4) (by omega) ?_)
          refine kr_s ?_
          refine cV_2 (pc := 31) dX1_lay_31 (cw_X1_46 _ rfl) (by decide) (by with_reducible assumption) ⟨by decide, by decide⟩ (Nat.le_of_ble_eq_true rfl) (sp_X1_setCell (by assumption) (by first | (unfold inR; omega) | assumption) ?_)
          refine kr_v ?_
          refine wq_iinc (pc := 34) (L' := [(2, _), (0, _), (1, _)]) dX1_lay_34 rfl rfl (by decide) ?_
          refine wq_goto (pc := 37) (tgt := 10) dX1_lay_37 (by decide) ?_
          refine wq_sub1 (L' := [(0, _), (1, _), (2, _)]) ⟨rfl, rfl, rfl, trivial⟩ ?_
          first
            | (refine ih (k + 1) _ _ (by omega) (by omega) (by omega) (by rw [mCell_n hne.symm]; exact e1) (fun x j hx hj => by rw [mCell_n hx]; exact e2 x j hx hj) (fun p p0 p1 => ?_)
               unfold mCell; rw [if_pos (by omega)]
               by_cases e : p = k
               · subst e; rw [wr_s, if_pos ⟨by omega, (nSettles_c eo _).mp hse⟩]; exact nByteFor_c eo _
               · rw [wr_n _ _ (fun q => e q.2), e3 p p0 p1]
                 by_cases q : p < k
                 · by_cases r : nSettles μ o p
                   · rw [if_pos ⟨q, r⟩, if_pos ⟨by omega, r⟩]
                   · rw [if_neg (fun z => r z.2), if_neg (fun z => r z.2)]
                 · rw [if_neg (fun z => q z.1), if_neg (fun z => by omega)])
            | (refine ih (k + 1) _ _ (by omega) (by omega) (by omega) e1 e2 (fun p p0 p1 => ?_)
               rw [e3 p p0 p1]
               by_cases r : nSettles μ o p
               · by_cases q : p < k
                 · rw [if_pos ⟨q, r⟩, if_pos ⟨by omega, r⟩]
                 · by_cases e : p = k
                   · subst e; exact absurd ((nSettles_c eo _).mpr r) hse
                   · rw [if_neg (fun z => q z.1), if_neg (fun z => by omega)]
               · rw [if_neg (fun z => r z.2), if_neg (fun z => r z.2)])
        · skip
          refine kr_s ?_
          refine wq_if_eq (pc := 21) (tgt := 34) dX1_lay_21 (by decide) (by first | (unfold inR; omega) | assumption) (fun _ => ?_) (fun c => absurd c (by decide))
          refine wq_iinc (pc := 34) (L' := [(2, _), (0, _), (1, _)]) dX1_lay_34 rfl rfl (by decide) ?_
          refine wq_goto (pc := 37) (tgt := 10) dX1_lay_37 (by decide) ?_
          refine wq_sub1 (L' := [(0, _), (1, _), (2, _)]) ⟨rfl, rfl, rfl, trivial⟩ ?_
          first
            | (refine ih (k + 1) _ _ (by omega) (by omega) (by omega) (by rw [mCell_n hne.symm]; exact e1) (fun x j hx hj => by rw [mCell_n hx]; exact e2 x j hx hj) (fun p p0 p1 => ?_)
               unfold mCell; rw [if_pos (by omega)]
               by_cases e : p = k
               · subst e; rw [wr_s, if_pos ⟨by omega, (nSettles_c eo _).mp hse⟩]; exact nByteFor_c eo _
               · rw [wr_n _ _ (fun q => e q.2), e3 p p0 p1]
                 by_cases q : p < k
                 · by_cases r : nSettles μ o p
                   · rw [if_pos ⟨q, r⟩, if_pos ⟨by omega, r⟩]
                   · rw [if_neg (fun z => r z.2), if_neg (fun z => r z.2)]
                 · rw [if_neg (fun z => q z.1), if_neg (fun z => by omega)])
            | (refine ih (k + 1) _ _ (by omega) (by omega) (by omega) e1 e2 (fun p p0 p1 => ?_)
               rw [e3 p p0 p1]
               by_cases r : nSettles μ o p
               · by_cases q : p < k
                 · rw [if_pos ⟨q, r⟩, if_pos ⟨by omega, r⟩]
                 · by_cases e : p = k
                   · subst e; exact absurd ((nSettles_c eo _).mpr r) hse
                   · rw [if_neg (fun z => q z.1), if_neg (fun z => by omega)]
               · rw [if_neg (fun z => r z.2), if_neg (fun z => r z.2)])
  refine wq_sub1 (L' := [(0, _), (1, _), (2, _)]) ⟨rfl, rfl, rfl, trivial⟩ ?_
  exact loop1 65 0 _ _ (by omega) (by omega) (by omega) (wr_s _ _ _ _) (fun x j _ hx => wr_n _ _ hx) (fun p p0 p1 => by rw [wr_n _ _ (fun q => hne q.1), if_neg (fun z => by omega)])
