/-- the tree: the next number, the numbers that are there in their order, their fields and cells -/
abbrev Tr := Int × List Int × (Int → Int → Int) × (Int → Int → Int)
abbrev tNx (S : Tr) : Int := S.1
abbrev tNl (S : Tr) : List Int := S.2.1
abbrev tFd (S : Tr) : Int → Int → Int := S.2.2.1
abbrev tCl (S : Tr) : Int → Int → Int := S.2.2.2
def nItems (μ : nMem) (ε : nEnv) : Prop := (∀ i : Int, 0 ≤ i → i < 129 → μ 13 i ≠ 0 → isItm ε (μ 13 i) ∧ (μ 13 i = 15 ∨ 25 < μ 13 i) ∧ (eFin ε (μ 13 i) 0 = 16 ∨ 25 < eFin ε (μ 13 i) 0)) ∧ (∀ i j : Int, 0 ≤ i → i < 129 → 0 ≤ j → j < 129 → μ 13 i ≠ 0 → μ 13 i = μ 13 j → i = j) ∧ (∀ i j : Int, 0 ≤ i → i < 129 → 0 ≤ j → j < 129 → μ 13 i ≠ 0 → μ 13 j ≠ 0 → eFin ε (μ 13 i) 0 = eFin ε (μ 13 j) 0 → i = j)
def itIs (S : Tr) (μ : nMem) (ε : nEnv) (a n : Int) : Prop := μ a 1 = n ∧ (∀ k, 2 ≤ k → k ≤ 6 → μ a k = tFd S n k) ∧ ∀ j, 0 ≤ j → j < 100 → μ (eFin ε a 0) j = tCl S n j
def CT (S : Tr) (μ : nMem) (ε : nEnv) : Prop := SkP skT ε ∧ nItems μ ε ∧ (tNl S).Nodup ∧ (tNl S).length ≤ 129 ∧ μ 12 2 = (tNl S).length ∧ μ 12 3 = tNx S ∧ ∀ i : Nat, i < (tNl S).length → μ 13 i ≠ 0 ∧ itIs S μ ε (μ 13 i) ((tNl S).getD i 0)
def tB (S : Tr) : Prop := (0 ≤ tNx S ∧ tNx S ≤ 100000) ∧ ∀ n ∈ tNl S, (0 ≤ n ∧ n ≤ 100000) ∧ (tFd S n 2 = 0 ∨ tFd S n 2 = 1) ∧ (∀ k, 3 ≤ k → k ≤ 6 → 0 ≤ tFd S n k ∧ tFd S n k ≤ 100000) ∧ ∀ j, 0 ≤ j → j < 100 → 0 ≤ tCl S n j ∧ tCl S n j ≤ 100000
def tAt (S : Tr) (μ : nMem) (a n : Int) : Prop := ∃ i : Nat, i < (tNl S).length ∧ (tNl S).getD i 0 = n ∧ μ 13 i = a
theorem getD_mem {l : List Int} {i : Nat} (h : i < l.length) : l.getD i 0 ∈ l := by
  rw [List.getD_eq_getElem?_getD, List.getElem?_eq_getElem h]; exact List.getElem_mem h
theorem mem_getD {l : List Int} {n : Int} (h : n ∈ l) : ∃ i : Nat, i < l.length ∧ l.getD i 0 = n := by
  obtain ⟨i, hi, e⟩ := List.getElem_of_mem h
  exact ⟨i, hi, by rw [List.getD_eq_getElem?_getD, List.getElem?_eq_getElem hi]; exact e⟩
theorem getD_inj {l : List Int} (hn : l.Nodup) {i j : Nat} (hi : i < l.length) (hj : j < l.length) (e : l.getD i 0 = l.getD j 0) : i = j := by
  rw [List.getD_eq_getElem?_getD, List.getD_eq_getElem?_getD, List.getElem?_eq_getElem hi, List.getElem?_eq_getElem hj] at e
  rcases Nat.lt_trichotomy i j with h | h | h
  · exact absurd e (List.pairwise_iff_getElem.mp hn i j hi hj h)
  · exact h
  · exact absurd e.symm (List.pairwise_iff_getElem.mp hn j i hj hi h)
theorem CT_it {S : Tr} {μ : nMem} {ε : nEnv} (h : CT S μ ε) {i : Nat} (hi : i < (tNl S).length) : tAt S μ (μ 13 i) ((tNl S).getD i 0) := ⟨i, hi, rfl, rfl⟩
theorem tAt_mem {S : Tr} {μ : nMem} {a n : Int} (h : tAt S μ a n) : n ∈ tNl S := by
  obtain ⟨i, hi, e, -⟩ := h; rw [← e]; exact getD_mem hi
theorem tAt_sh {S : Tr} {μ : nMem} {ε : nEnv} {a n : Int} (hT : CT S μ ε) (h : tAt S μ a n) : a ≠ 0 ∧ isItm ε a ∧ (a = 15 ∨ 25 < a) ∧ (eFin ε a 0 = 16 ∨ 25 < eFin ε a 0) := by
  obtain ⟨i, hi, e, e2⟩ := h
  subst e2
  have hl := hT.2.2.2.1
  have h0 := (hT.2.2.2.2.2.2 i hi).1
  exact ⟨h0, hT.2.1.1 i (by omega) (by omega) h0⟩
theorem tAt_is {S : Tr} {μ : nMem} {ε : nEnv} {a n : Int} (hT : CT S μ ε) (h : tAt S μ a n) : itIs S μ ε a n := by
  obtain ⟨i, hi, e, e2⟩ := h
  subst e2; rw [← e]
  exact (hT.2.2.2.2.2.2 i hi).2
theorem tAt_cell {S : Tr} {μ : nMem} {ε : nEnv} {a n : Int} (hT : CT S μ ε) (h : tAt S μ a n) {j : Int} (j0 : 0 ≤ j) (j1 : j < 100) : nCell μ ε a j = tCl S n j := by
  unfold nCell; rw [if_pos ⟨j0, j1⟩]; exact (tAt_is hT h).2.2 j j0 j1
theorem tAt_a {S : Tr} {μ : nMem} {ε : nEnv} {a b n : Int} (hT : CT S μ ε) (h : tAt S μ a n) (k : tAt S μ b n) : a = b := by
  obtain ⟨i, hi, e, e2⟩ := h
  obtain ⟨j, hj, f, f2⟩ := k
  have := getD_inj hT.2.2.1 hi hj (e.trans f.symm)
  rw [← e2, ← f2, this]
theorem tAt_n {S : Tr} {μ : nMem} {ε : nEnv} {a n n' : Int} (hT : CT S μ ε) (h : tAt S μ a n) (k : tAt S μ a n') : n = n' := by
  rw [← (tAt_is hT h).1, ← (tAt_is hT k).1]
/-- what stands outside the tree stays -/
def isTI (μ : nMem) (ε : nEnv) (x : Int) : Prop := ∃ i : Int, 0 ≤ i ∧ i < 129 ∧ μ 13 i ≠ 0 ∧ (x = μ 13 i ∨ x = eFin ε (μ 13 i) 0)
def FrT (μ : nMem) (ε : nEnv) (μ' : nMem) (ε' : nEnv) : Prop :=
  (∀ x, (eKind ε x ≠ 0 ∨ x = -1) → x ≠ 12 → x ≠ 13 → x ≠ 14 → ¬ isTI μ ε x → ∀ j, μ' x j = μ x j) ∧
  (∀ x, eKind ε x ≠ 0 → eKind ε' x = eKind ε x ∧ eLen ε' x = eLen ε x ∧ ∀ k, eFin ε' x k = eFin ε x k) ∧ (∀ x, isTI μ' ε' x → isTI μ ε x ∨ (eKind ε x = 0 ∧ x ≠ -1)) ∧
  eLen ε' (-1) = eLen ε (-1) ∧ (∀ t, Cap μ ε t → Cap μ' ε' t)
theorem FrT_refl (μ : nMem) (ε : nEnv) : FrT μ ε μ ε := ⟨fun _ _ _ _ _ _ _ => rfl, fun _ _ => ⟨rfl, rfl, fun _ => rfl⟩, fun _ h => Or.inl h, rfl, fun _ h => h⟩
theorem FrT_trans {μ μ1 μ2 : nMem} {ε ε1 ε2 : nEnv} (h : FrT μ ε μ1 ε1) (k : FrT μ1 ε1 μ2 ε2) : FrT μ ε μ2 ε2 := by
  obtain ⟨a1, a2, a3, a4, a5⟩ := h
  obtain ⟨b1, b2, b3, b4, b5⟩ := k
  refine ⟨fun x hx x1 x2 x3 x4 j => ?_, fun x hx => ?_, fun x hx => ?_, b4.trans a4, fun t ht => b5 t (a5 t ht)⟩
  · have h4 : ¬ isTI μ1 ε1 x := fun q => by rcases a3 x q with r | r; exact x4 r; omega
    rw [b1 x (by rcases hx with h9 | h9; rw [(a2 x h9).1]; exact Or.inl h9; exact Or.inr h9) x1 x2 x3 h4 j]
    exact a1 x hx x1 x2 x3 x4 j
  · obtain ⟨p, q, r⟩ := a2 x hx
    obtain ⟨s, t, u⟩ := b2 x (by rw [p]; exact hx)
    exact ⟨s.trans p, t.trans q, fun k => (u k).trans (r k)⟩
  · rcases b3 x hx with q | q
    · exact a3 x q
    · refine Or.inr ⟨?_, q.2⟩
      by_cases e : eKind ε x = 0
      · exact e
      · rw [(a2 x e).1] at q; exact absurd q.1 e
theorem sp_X5_item {μ : nMem} {ε : nEnv} {Q : nOut → nMem → nEnv → Prop} {S : Tr} {i : Int} (hT : CT S μ ε) (hB : tB S) (ri : inR i) (h1 : 0 ≤ i → i < (tNl S).length → Q (.inl (some (vR (μ 13 i)))) μ ε) (h2 : ¬ (0 ≤ i ∧ i < (tNl S).length) → Q (.inl (some (vR 0))) μ ε) : Sp mX5_item [vR 12, vI i] μ ε Q := by
  refine Sp_of (L := [(0, vR 12), (1, vI i)]) (by decide) rfl rfl (Nat.le_of_ble_eq_true rfl) ?_
  have hs := hT.1
  have hl := hT.2.2.2.1
  have hc := hT.2.2.2.2.1
  refine wq_iload_n (pc := 0) dX5_item_0 rfl rfl ?_
  refine wq_if_lt (pc := 1) (tgt := 28) dX5_item_1 (by decide) (by first | (unfold inR; omega) | assumption) (fun c1 => ?_) (fun c1 => ?_)
  · skip
    refine wq_null (pc := 28) dX5_item_28 ?_
    refine wq_aret (pc := 29) dX5_item_29 rfl ?_
    first | exact h1 (by omega) (by omega) | exact h2 (by omega)
  · skip
    refine wq_iload_n (pc := 4) dX5_item_4 rfl rfl ?_
    refine wq_aload_n (pc := 5) dX5_item_5 rfl rfl ?_
    refine wq_getIK (pc := 6) (kk := 2) dX5_item_6 hs (gf_X5_23 _ rfl) rfl rfl rfl rfl ?_
    refine wq_icmp_ge (pc := 9) (tgt := 28) dX5_item_9 (by decide) (by first | (unfold inR; omega) | assumption) (by first | (unfold inR; omega) | assumption) (fun c2 => ?_) (fun c2 => ?_)
    · skip
      refine wq_null (pc := 28) dX5_item_28 ?_
      refine wq_aret (pc := 29) dX5_item_29 rfl ?_
      first | exact h1 (by omega) (by omega) | exact h2 (by omega)
    · skip
      refine wq_iload_n (pc := 12) dX5_item_12 rfl rfl ?_
      refine wq_sipush (pc := 13) dX5_item_13 (by decide) (by decide) ?_
      refine wq_icmp_ge (pc := 16) (tgt := 28) dX5_item_16 (by decide) (by first | (unfold inR; omega) | assumption) (by first | (unfold inR; omega) | assumption) (fun c3 => ?_) (fun c3 => ?_)
      · skip
        refine wq_null (pc := 28) dX5_item_28 ?_
        refine wq_aret (pc := 29) dX5_item_29 rfl ?_
        first | exact h1 (by omega) (by omega) | exact h2 (by omega)
      · skip
        refine wq_aload_n (pc := 19) dX5_item_19 rfl rfl ?_
        refine wq_getS (pc := 20) dX5_item_20 hs (gf_X5_13 _ rfl) rfl rfl rfl rfl rfl ?_
        refine wq_iload_n (pc := 23) dX5_item_23 rfl rfl ?_
        refine wq_aaldIK (pc := 24) dX5_item_24 hs rfl (by omega) (by omega) ?_
        refine wq_goto (pc := 25) (tgt := 29) dX5_item_25 (by decide) ?_
        refine wq_aret (pc := 29) dX5_item_29 rfl ?_
        first | exact h1 (by omega) (by omega) | exact h2 (by omega)
theorem sq_X5_item {μ : nMem} {ε : nEnv} {Q : nOut → nMem → nEnv → Prop} {S : Tr} {i : Int} (hT : CT S μ ε) (hB : tB S) (r : 0 ≤ i ∧ i < (tNl S).length) (h : Q (.inl (some (vR (μ 13 i)))) μ ε) : Sp mX5_item [vR 12, vI i] μ ε Q := by
  have hl := hT.2.2.2.1
  exact sp_X5_item hT hB (by unfold inR; omega) (fun _ _ => h) (fun q => absurd r q)
theorem sp_X5_find {μ : nMem} {ε : nEnv} {Q : nOut → nMem → nEnv → Prop} {S : Tr} {nn : Int} (hT : CT S μ ε) (hB : tB S) (rn : inR nn) (h1 : ∀ a, tAt S μ a nn → Q (.inl (some (vR a))) μ ε) (h2 : nn ∉ tNl S → Q (.inl (some (vR 0))) μ ε) : Sp mX5_find [vR 12, vI nn] μ ε Q := by
  refine Sp_of (L := [(0, vR 12), (1, vI nn)]) (by decide) rfl rfl (Nat.le_of_ble_eq_true rfl) ?_
  have hs := hT.1
  have hl := hT.2.2.2.1
  have hc := hT.2.2.2.2.1
  refine wq_iconst (pc := 0) dX5_find_0 ?_
  refine wq_istore_n (pc := 1) (L' := [(2, _), (0, _), (1, _)]) dX5_find_1 rfl rfl (by decide) ?_
  have loop1 : ∀ (n k : Nat), ∀ (i v : Int), k ≤ 130 → 130 < k + n → i = (k : Int) → (∀ p : Nat, p < k → p < (tNl S).length → (tNl S).getD p 0 ≠ nn) → wp mX5_find 2 [(0, vR 12), (1, vI nn), (2, vI i)] [] μ ε Q := by
    intro n
    induction n with
    | zero => intro k i v hk1 hk2 e0 e1; exact absurd hk2 (by omega)
    | succ n ih =>
      intro k i v hk1 hk2 e0 e1
      subst e0
      have hat : k < (tNl S).length → μ 13 k ≠ 0 ∧ eKind ε (μ 13 k) = 2 ∧ μ (μ 13 k) 1 = (tNl S).getD k 0 ∧ 0 ≤ μ (μ 13 k) 1 ∧ μ (μ 13 k) 1 ≤ 100000 := fun q => by
        have h9 := CT_it hT q
        have h8 := (tAt_is hT h9).1
        have h7 := (hB.2 _ (getD_mem q)).1
        exact ⟨(tAt_sh hT h9).1, (tAt_sh hT h9).2.1.1, h8, by omega, by omega⟩
      refine wq_iload_n (pc := 2) dX5_find_2 rfl rfl ?_
      refine wq_aload_n (pc := 3) dX5_find_3 rfl rfl ?_
      refine wq_getIK (pc := 4) (kk := 2) dX5_find_4 hs (gf_X5_23 _ rfl) rfl rfl rfl rfl ?_
      refine wq_icmp_ge (pc := 7) (tgt := 36) dX5_find_7 (by decide) (by first | (unfold inR; omega) | assumption) (by first | (unfold inR; omega) | assumption) (fun c2 => ?_) (fun c2 => ?_)
      · skip
        refine wq_null (pc := 36) dX5_find_36 ?_
        refine wq_aret (pc := 37) dX5_find_37 rfl ?_
        first
          | exact h1 _ ⟨k, by omega, by omega, rfl⟩
          | exact h2 (fun q => by obtain ⟨i, hi, e⟩ := mem_getD q; exact e1 i (by omega) hi e)
      · skip
        obtain ⟨t0, t1, t2, t3, t4⟩ := hat (by omega)
        refine wq_aload_n (pc := 10) dX5_find_10 rfl rfl ?_
        refine wq_iload_n (pc := 11) dX5_find_11 rfl rfl ?_
        refine cVK_1 (pc := 12) dX5_find_12 hs (cw_X5_34 _ rfl) (by decide) rfl ⟨by decide, by decide⟩ (Nat.le_of_ble_eq_true rfl) (sq_X5_item hT hB (by omega) ?_)
        refine kr_s ?_
        refine wq_astore_n (pc := 15) (L' := [(3, _), (0, _), (1, _), (2, _)]) dX5_find_15 rfl rfl (by decide) ?_
        refine wq_aload_n (pc := 16) dX5_find_16 rfl rfl ?_
        refine wq_ifnull (pc := 17) (tgt := 30) dX5_find_17 (by decide)  (fun c3 => ?_) (fun c3 => ?_)
        · skip
          refine wq_iinc (pc := 30) (L' := [(2, _), (3, _), (0, _), (1, _)]) dX5_find_30 rfl rfl (by decide) ?_
          refine wq_goto (pc := 33) (tgt := 2) dX5_find_33 (by decide) ?_
          refine wq_sub1 (L' := [(0, _), (1, _), (2, _)]) ⟨rfl, rfl, rfl, trivial⟩ ?_
          refine ih (k + 1) _ 0 (by omega) (by omega) (by omega) (fun p p0 p1 => ?_)
          by_cases e : p = k
          · subst e; first | omega | (exact fun q => by omega)
          · exact e1 p (by omega) p1
        · skip
          refine wq_aload_n (pc := 20) dX5_find_20 rfl rfl ?_
          refine wq_getI (pc := 21) (kk := 1) dX5_find_21 (gf_X5_38 _ rfl) (by with_reducible assumption) rfl rfl rfl ?_
          refine wq_iload_n (pc := 24) dX5_find_24 rfl rfl ?_
          refine wq_icmp_ne (pc := 25) (tgt := 30) dX5_find_25 (by decide) (by first | (unfold inR; omega) | assumption) (by first | (unfold inR; omega) | assumption) (fun c4 => ?_) (fun c4 => ?_)
          · skip
            refine wq_iinc (pc := 30) (L' := [(2, _), (3, _), (0, _), (1, _)]) dX5_find_30 rfl rfl (by decide) ?_
            refine wq_goto (pc := 33) (tgt := 2) dX5_find_33 (by decide) ?_
            refine wq_sub1 (L' := [(0, _), (1, _), (2, _)]) ⟨rfl, rfl, rfl, trivial⟩ ?_
            refine ih (k + 1) _ 0 (by omega) (by omega) (by omega) (fun p p0 p1 => ?_)
            by_cases e : p = k
            · subst e; first | omega | (exact fun q => by omega)
            · exact e1 p (by omega) p1
          · skip
            refine wq_aload_n (pc := 28) dX5_find_28 rfl rfl ?_
            refine wq_aret (pc := 29) dX5_find_29 rfl ?_
            first
              | exact h1 _ ⟨k, by omega, by omega, rfl⟩
              | exact h2 (fun q => by obtain ⟨i, hi, e⟩ := mem_getD q; exact e1 i (by omega) hi e)
  refine wq_sub1 (L' := [(0, _), (1, _), (2, _)]) ⟨rfl, rfl, rfl, trivial⟩ ?_
  exact loop1 131 0 _ 0 (by omega) (by omega) (by omega) (fun p p0 p1 => absurd p0 (by omega))
theorem sp_X5_holds {μ : nMem} {ε : nEnv} {Q : nOut → nMem → nEnv → Prop} {S : Tr} {nn dd : Int} (hT : CT S μ ε) (hB : tB S) (rn : inR nn) (rd : inR dd) (h1 : nn ∈ tNl S → tFd S nn 2 = dd → Q (.inl (some (vI 1))) μ ε) (h2 : ¬ (nn ∈ tNl S ∧ tFd S nn 2 = dd) → Q (.inl (some (vI 0))) μ ε) : Sp mX5_holds [vR 12, vI nn, vI dd] μ ε Q := by
  refine Sp_of (L := [(0, vR 12), (1, vI nn), (2, vI dd)]) (by decide) rfl rfl (Nat.le_of_ble_eq_true rfl) ?_
  have hs := hT.1
  refine wq_aload_n (pc := 0) dX5_holds_0 rfl rfl ?_
  refine wq_iload_n (pc := 1) dX5_holds_1 rfl rfl ?_
  refine cVK_1 (pc := 2) dX5_holds_2 hs (cw_X5_41 _ rfl) (by decide) rfl ⟨by decide, by decide⟩ (Nat.le_of_ble_eq_true rfl) (sp_X5_find hT hB (by first | (unfold inR; omega) | assumption) (fun a ha => ?_) (fun hn => ?_))
  · skip
    refine kr_s ?_
    obtain ⟨a0, hI, aw, cw⟩ := tAt_sh hT ha
    obtain ⟨i1, i2, i3⟩ := tAt_is hT ha
    obtain ⟨hk, hkc, hlc⟩ := id hI
    have bb := hB.2 _ (tAt_mem ha)
    have f2 := i2 2 (by omega) (by omega)
    have g2 := bb.2.1
    refine wq_astore_n (pc := 5) (L' := [(3, _), (0, _), (1, _), (2, _)]) dX5_holds_5 rfl rfl (by decide) ?_
    refine wq_aload_n (pc := 6) dX5_holds_6 rfl rfl ?_
    refine wq_ifnull (pc := 7) (tgt := 22) dX5_holds_7 (by decide)  (fun c3 => ?_) (fun c3 => ?_)
    · skip
      refine wq_iconst (pc := 22) dX5_holds_22 ?_
      refine wq_zret (pc := 23) dX5_holds_23 rfl (by first | omega | (simp; done) | assumption) ?_
      first
        | exact h1 (tAt_mem ha) (by rw [← i2 2 (by omega) (by omega)]; assumption)
        | exact h1 (tAt_mem ha) (by have := i2 2 (by omega) (by omega); omega)
        | exact h2 (fun q => hn q.1)
        | exact h2 (fun q => by have := i2 2 (by omega) (by omega); omega)
    · skip
      refine wq_aload_n (pc := 10) dX5_holds_10 rfl rfl ?_
      refine wq_getI (pc := 11) (kk := 2) dX5_holds_11 (gf_X5_44 _ rfl) (by with_reducible assumption) rfl rfl rfl ?_
      refine wq_iload_n (pc := 14) dX5_holds_14 rfl rfl ?_
      refine wq_icmp_ne (pc := 15) (tgt := 22) dX5_holds_15 (by decide) (by first | (unfold inR; omega) | assumption) (by first | (unfold inR; omega) | assumption) (fun c4 => ?_) (fun c4 => ?_)
      · skip
        refine wq_iconst (pc := 22) dX5_holds_22 ?_
        refine wq_zret (pc := 23) dX5_holds_23 rfl (by first | omega | (simp; done) | assumption) ?_
        first
          | exact h1 (tAt_mem ha) (by rw [← i2 2 (by omega) (by omega)]; assumption)
          | exact h1 (tAt_mem ha) (by have := i2 2 (by omega) (by omega); omega)
          | exact h2 (fun q => hn q.1)
          | exact h2 (fun q => by have := i2 2 (by omega) (by omega); omega)
      · skip
        refine wq_iconst (pc := 18) dX5_holds_18 ?_
        refine wq_goto (pc := 19) (tgt := 23) dX5_holds_19 (by decide) ?_
        refine wq_zret (pc := 23) dX5_holds_23 rfl (by first | omega | (simp; done) | assumption) ?_
        first
          | exact h1 (tAt_mem ha) (by rw [← i2 2 (by omega) (by omega)]; assumption)
          | exact h1 (tAt_mem ha) (by have := i2 2 (by omega) (by omega); omega)
          | exact h2 (fun q => hn q.1)
          | exact h2 (fun q => by have := i2 2 (by omega) (by omega); omega)
  · skip
    refine kr_s ?_
    refine wq_astore_n (pc := 5) (L' := [(3, _), (0, _), (1, _), (2, _)]) dX5_holds_5 rfl rfl (by decide) ?_
    refine wq_aload_n (pc := 6) dX5_holds_6 rfl rfl ?_
    refine wq_ifnull (pc := 7) (tgt := 22) dX5_holds_7 (by decide) (fun _ => ?_) (fun c => absurd rfl c)
    refine wq_iconst (pc := 22) dX5_holds_22 ?_
    refine wq_zret (pc := 23) dX5_holds_23 rfl (by first | omega | (simp; done) | assumption) ?_
    first
      | exact h1 (tAt_mem ha) (by rw [← i2 2 (by omega) (by omega)]; assumption)
      | exact h1 (tAt_mem ha) (by have := i2 2 (by omega) (by omega); omega)
      | exact h2 (fun q => hn q.1)
      | exact h2 (fun q => by have := i2 2 (by omega) (by omega); omega)
