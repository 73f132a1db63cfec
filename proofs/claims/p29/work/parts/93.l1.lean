/-! ### the law's own methods: what is asked of its rows -/
noncomputable def lsP (p : Int → Prop) : Nat → Int
  | 0 => -1
  | k + 1 => pI (p k) (k : Int) (lsP p k)
theorem lsP_s (p : Int → Prop) (k : Nat) : lsP p (k + 1) = pI (p k) (k : Int) (lsP p k) := rfl
theorem lsP_b (p : Int → Prop) : ∀ k : Nat, (lsP p k = -1 ∧ ∀ i : Int, 0 ≤ i → i < k → ¬ p i) ∨ ((0 ≤ lsP p k ∧ lsP p k < k) ∧ p (lsP p k))
  | 0 => Or.inl ⟨rfl, fun i i0 i1 => by omega⟩
  | k + 1 => by
    rw [lsP_s]
    by_cases c : p k
    · rw [pI_1 c]; exact Or.inr ⟨by omega, c⟩
    · rw [pI_0 c]
      rcases lsP_b p k with ⟨h1, h2⟩ | ⟨h1, h2⟩
      · refine Or.inl ⟨h1, fun i i0 i1 => ?_⟩
        by_cases e : i = k
        · rw [e]; exact c
        · exact h2 i i0 (by omega)
      · exact Or.inr ⟨by omega, h2⟩
abbrev pF (e : Int → Int) (d v : Int) : Int → Prop := fun i => e (4 * i) = d ∧ e (4 * i + 1) = v
abbrev pT (e : Int → Int) (v : Int) : Int → Prop := fun i => e (4 * i + 2) = v
abbrev pD (e : Int → Int) (d : Int) : Int → Prop := fun i => e (4 * i) = d
abbrev pZ (z : Int → Int) (f : Int) : Int → Prop := fun i => z i = f
def qY (e : Int → Int) (v k : Int) : Prop := v = 1 ∨ ∃ i, (0 ≤ i ∧ i < k) ∧ e (4 * i + 2) = v ∧ e (4 * i + 3) = 1
theorem qY_1 {e : Int → Int} {v w : Int} {k : Nat} (h : (w = 1 ∧ qY e v k) ∨ (w = 0 ∧ ¬ qY e v k)) (hw : w ≠ 0 ∨ (e (4 * (k : Int) + 2) = v ∧ e (4 * (k : Int) + 3) = 1)) : qY e v ((k + 1 : Nat) : Int) := by
  by_cases c : qY e v k
  · rcases c with c | ⟨i, i1, i2⟩
    · exact Or.inl c
    · exact Or.inr ⟨i, ⟨i1.1, by omega⟩, i2⟩
  · rcases hw with q | q
    · rcases h with h | h
      · exact absurd h.2 c
      · exact absurd h.1 q
    · exact Or.inr ⟨k, ⟨by omega, by omega⟩, q⟩
theorem qY_0 {e : Int → Int} {v w : Int} {k : Nat} (h : (w = 1 ∧ qY e v k) ∨ (w = 0 ∧ ¬ qY e v k)) (hw : w = 0) (hn : ¬ (e (4 * (k : Int) + 2) = v ∧ e (4 * (k : Int) + 3) = 1)) : ¬ qY e v ((k + 1 : Nat) : Int) := by
  have c : ¬ qY e v k := by
    rcases h with h | h
    · omega
    · exact h.2
  rintro (q | ⟨i, i1, i2⟩)
  · exact c (Or.inl q)
  · by_cases z : i = k
    · rw [z] at i2; exact hn i2
    · exact c (Or.inr ⟨i, ⟨i1.1, by omega⟩, i2⟩)
theorem sp_L_find {μ : nMem} {ε : nEnv} {Q : nOut → nMem → nEnv → Prop} {d v : Int} (hs : SkP skM ε) (n0 : 0 ≤ μ 21 0) (n1 : μ 21 0 ≤ 15) (hr2 : ∀ j, inR (μ 22 j)) (r1 : inR d) (r2 : inR v) (h : Q (.inl (some (vI (lsP (pF (μ 22) d v) (μ 21 0).toNat)))) μ ε) : Sp mL_find [vR 21, vR 22, vI d, vI v] μ ε Q := by
  refine Sp_of (L := [(0, vR 21), (1, vR 22), (2, vI d), (3, vI v)]) (by decide) rfl rfl (Nat.le_of_ble_eq_true rfl) ?_
  refine wq_iconst (pc := 0) dL_find_0 ?_
  refine wq_istore (pc := 1) (L' := [(4, _), (0, _), (1, _), (2, _), (3, _)]) dL_find_1 rfl (by decide) ?_
  refine wq_iconst (pc := 3) dL_find_3 ?_
  refine wq_istore (pc := 4) (L' := [(5, _), (4, _), (0, _), (1, _), (2, _), (3, _)]) dL_find_4 rfl (by decide) ?_
  have loop1 : ∀ (n k : Nat), ∀ (f i : Int), k ≤ (μ 21 0).toNat → (μ 21 0).toNat < k + n → i = (k : Int) → f = lsP (pF (μ 22) d v) k → wp mL_find 6 [(0, vR 21), (1, vR 22), (2, vI d), (3, vI v), (4, vI f), (5, vI i)] [] μ ε Q := by
    intro n
    induction n with
    | zero => intro k f i hk1 hk2 e0 e1; exact absurd hk2 (by omega)
    | succ n ih =>
      intro k f i hk1 hk2 e0 e1
      subst e0
      refine wq_iload (pc := 6) dL_find_6 rfl ?_
      refine wq_aload_n (pc := 8) dL_find_8 rfl rfl ?_
      refine wq_iconst (pc := 9) dL_find_9 ?_
      refine wq_ialdK (pc := 10) dL_find_10 hs rfl (by omega) (by omega) ?_
      refine wq_icmp_ge (pc := 11) (tgt := 51) dL_find_11 (by decide) (by first | (unfold inR; omega) | assumption | exact hr2 _ | exact hr3 _ | exact hr4 _) (by first | (unfold inR; omega) | assumption | exact hr2 _ | exact hr3 _ | exact hr4 _) (fun c2 => ?_) (fun c2 => ?_)
      · skip
        refine wq_iload (pc := 51) dL_find_51 rfl ?_
        refine wq_iret (pc := 53) dL_find_53 rfl ?_
        rw [e1, show k = (μ 21 0).toNat by omega]; exact h
      · skip
        refine wq_aload_n (pc := 14) dL_find_14 rfl rfl ?_
        refine wq_iconst (pc := 15) dL_find_15 ?_
        refine wq_iload (pc := 16) dL_find_16 rfl ?_
        refine wq_imul (pc := 18) dL_find_18 ?_
        refine wq_ialdK (pc := 19) dL_find_19 hs rfl (by omega) (by omega) ?_
        refine wq_iload_n (pc := 20) dL_find_20 rfl rfl ?_
        refine wq_icmp_ne (pc := 21) (tgt := 41) dL_find_21 (by decide) (by first | (unfold inR; omega) | assumption | exact hr2 _ | exact hr3 _ | exact hr4 _) (by first | (unfold inR; omega) | assumption | exact hr2 _ | exact hr3 _ | exact hr4 _) (fun c3 => ?_) (fun c3 => ?_)
        · skip
          refine wq_iload (pc := 41) dL_find_41 rfl ?_
          refine wq_istore (pc := 43) (L' := [(4, _), (0, _), (1, _), (2, _), (3, _), (5, _)]) dL_find_43 rfl (by decide) ?_
          refine wq_iinc (pc := 45) (L' := [(5, _), (4, _), (0, _), (1, _), (2, _), (3, _)]) dL_find_45 rfl rfl (by decide) ?_
          refine wq_goto (pc := 48) (tgt := 6) dL_find_48 (by decide) ?_
          refine wq_sub1 (L' := [(0, _), (1, _), (2, _), (3, _), (4, _), (5, _)]) ⟨rfl, rfl, rfl, rfl, rfl, rfl, trivial⟩ ?_
          first
            | exact ih (k + 1) _ _ (by omega) (by omega) (by omega) (by rw [lsP_s, pI_1 (show μ 22 (4 * (k : Int)) = d ∧ μ 22 (4 * (k : Int) + 1) = v by omega)])
            | exact ih (k + 1) _ _ (by omega) (by omega) (by omega) (by rw [lsP_s, pI_0 (show ¬ (μ 22 (4 * (k : Int)) = d ∧ μ 22 (4 * (k : Int) + 1) = v) by omega)]; exact e1)
        · skip
          refine wq_aload_n (pc := 24) dL_find_24 rfl rfl ?_
          refine wq_iconst (pc := 25) dL_find_25 ?_
          refine wq_iload (pc := 26) dL_find_26 rfl ?_
          refine wq_imul (pc := 28) dL_find_28 ?_
          refine wq_iconst (pc := 29) dL_find_29 ?_
          refine wq_iadd (pc := 30) dL_find_30 ?_
          refine wq_ialdK (pc := 31) dL_find_31 hs rfl (by omega) (by omega) ?_
          refine wq_iload_n (pc := 32) dL_find_32 rfl rfl ?_
          refine wq_icmp_ne (pc := 33) (tgt := 41) dL_find_33 (by decide) (by first | (unfold inR; omega) | assumption | exact hr2 _ | exact hr3 _ | exact hr4 _) (by first | (unfold inR; omega) | assumption | exact hr2 _ | exact hr3 _ | exact hr4 _) (fun c4 => ?_) (fun c4 => ?_)
          · skip
            refine wq_iload (pc := 41) dL_find_41 rfl ?_
            refine wq_istore (pc := 43) (L' := [(4, _), (0, _), (1, _), (2, _), (3, _), (5, _)]) dL_find_43 rfl (by decide) ?_
            refine wq_iinc (pc := 45) (L' := [(5, _), (4, _), (0, _), (1, _), (2, _), (3, _)]) dL_find_45 rfl rfl (by decide) ?_
            refine wq_goto (pc := 48) (tgt := 6) dL_find_48 (by decide) ?_
            refine wq_sub1 (L' := [(0, _), (1, _), (2, _), (3, _), (4, _), (5, _)]) ⟨rfl, rfl, rfl, rfl, rfl, rfl, trivial⟩ ?_
            first
              | exact ih (k + 1) _ _ (by omega) (by omega) (by omega) (by rw [lsP_s, pI_1 (show μ 22 (4 * (k : Int)) = d ∧ μ 22 (4 * (k : Int) + 1) = v by omega)])
              | exact ih (k + 1) _ _ (by omega) (by omega) (by omega) (by rw [lsP_s, pI_0 (show ¬ (μ 22 (4 * (k : Int)) = d ∧ μ 22 (4 * (k : Int) + 1) = v) by omega)]; exact e1)
          · skip
            refine wq_iload (pc := 36) dL_find_36 rfl ?_
            refine wq_goto (pc := 38) (tgt := 43) dL_find_38 (by decide) ?_
            refine wq_istore (pc := 43) (L' := [(4, _), (0, _), (1, _), (2, _), (3, _), (5, _)]) dL_find_43 rfl (by decide) ?_
            refine wq_iinc (pc := 45) (L' := [(5, _), (4, _), (0, _), (1, _), (2, _), (3, _)]) dL_find_45 rfl rfl (by decide) ?_
            refine wq_goto (pc := 48) (tgt := 6) dL_find_48 (by decide) ?_
            refine wq_sub1 (L' := [(0, _), (1, _), (2, _), (3, _), (4, _), (5, _)]) ⟨rfl, rfl, rfl, rfl, rfl, rfl, trivial⟩ ?_
            first
              | exact ih (k + 1) _ _ (by omega) (by omega) (by omega) (by rw [lsP_s, pI_1 (show μ 22 (4 * (k : Int)) = d ∧ μ 22 (4 * (k : Int) + 1) = v by omega)])
              | exact ih (k + 1) _ _ (by omega) (by omega) (by omega) (by rw [lsP_s, pI_0 (show ¬ (μ 22 (4 * (k : Int)) = d ∧ μ 22 (4 * (k : Int) + 1) = v) by omega)]; exact e1)
  refine wq_sub1 (L' := [(0, _), (1, _), (2, _), (3, _), (4, _), (5, _)]) ⟨rfl, rfl, rfl, rfl, rfl, rfl, trivial⟩ ?_
  exact loop1 ((μ 21 0).toNat + 1) 0 _ _ (by omega) (by omega) rfl rfl
theorem sp_L_links {μ : nMem} {ε : nEnv} {Q : nOut → nMem → nEnv → Prop} {v : Int} (hs : SkP skM ε) (n0 : 0 ≤ μ 21 0) (n1 : μ 21 0 ≤ 15) (hr2 : ∀ j, inR (μ 22 j)) (r1 : inR v) (h : Q (.inl (some (vI (cR (pT (μ 22) v) (μ 21 0).toNat)))) μ ε) : Sp mL_links [vR 21, vR 22, vI v] μ ε Q := by
  refine Sp_of (L := [(0, vR 21), (1, vR 22), (2, vI v)]) (by decide) rfl rfl (Nat.le_of_ble_eq_true rfl) ?_
  refine wq_iconst (pc := 0) dL_links_0 ?_
  refine wq_istore_n (pc := 1) (L' := [(3, _), (0, _), (1, _), (2, _)]) dL_links_1 rfl rfl (by decide) ?_
  refine wq_iconst (pc := 2) dL_links_2 ?_
  refine wq_istore (pc := 3) (L' := [(4, _), (3, _), (0, _), (1, _), (2, _)]) dL_links_3 rfl (by decide) ?_
  have loop1 : ∀ (n k : Nat), ∀ (c i : Int), k ≤ (μ 21 0).toNat → (μ 21 0).toNat < k + n → i = (k : Int) → c = cR (pT (μ 22) v) k → wp mL_links 5 [(0, vR 21), (1, vR 22), (2, vI v), (3, vI c), (4, vI i)] [] μ ε Q := by
    intro n
    induction n with
    | zero => intro k c i hk1 hk2 e0 e1; exact absurd hk2 (by omega)
    | succ n ih =>
      intro k c i hk1 hk2 e0 e1
      subst e0
      refine wq_iload (pc := 5) dL_links_5 rfl ?_
      refine wq_aload_n (pc := 7) dL_links_7 rfl rfl ?_
      refine wq_iconst (pc := 8) dL_links_8 ?_
      refine wq_ialdK (pc := 9) dL_links_9 hs rfl (by omega) (by omega) ?_
      refine wq_icmp_ge (pc := 10) (tgt := 39) dL_links_10 (by decide) (by first | (unfold inR; omega) | assumption | exact hr2 _ | exact hr3 _ | exact hr4 _) (by first | (unfold inR; omega) | assumption | exact hr2 _ | exact hr3 _ | exact hr4 _) (fun c2 => ?_) (fun c2 => ?_)
      · skip
        refine wq_iload_n (pc := 39) dL_links_39 rfl rfl ?_
        refine wq_iret (pc := 40) dL_links_40 rfl ?_
        rw [e1, show k = (μ 21 0).toNat by omega]; exact h
      · skip
        refine wq_iload_n (pc := 13) dL_links_13 rfl rfl ?_
        refine wq_aload_n (pc := 14) dL_links_14 rfl rfl ?_
        refine wq_iconst (pc := 15) dL_links_15 ?_
        refine wq_iload (pc := 16) dL_links_16 rfl ?_
        refine wq_imul (pc := 18) dL_links_18 ?_
        refine wq_iconst (pc := 19) dL_links_19 ?_
        refine wq_iadd (pc := 20) dL_links_20 ?_
        refine wq_ialdK (pc := 21) dL_links_21 hs rfl (by omega) (by omega) ?_
        refine wq_iload_n (pc := 22) dL_links_22 rfl rfl ?_
        refine wq_icmp_ne (pc := 23) (tgt := 30) dL_links_23 (by decide) (by first | (unfold inR; omega) | assumption | exact hr2 _ | exact hr3 _ | exact hr4 _) (by first | (unfold inR; omega) | assumption | exact hr2 _ | exact hr3 _ | exact hr4 _) (fun c3 => ?_) (fun c3 => ?_)
        · skip
          refine wq_iconst (pc := 30) dL_links_30 ?_
          refine wq_iadd (pc := 31) dL_links_31 ?_
          refine wq_istore_n (pc := 32) (L' := [(3, _), (0, _), (1, _), (2, _), (4, _)]) dL_links_32 rfl rfl (by decide) ?_
          refine wq_iinc (pc := 33) (L' := [(4, _), (3, _), (0, _), (1, _), (2, _)]) dL_links_33 rfl rfl (by decide) ?_
          refine wq_goto (pc := 36) (tgt := 5) dL_links_36 (by decide) ?_
          refine wq_sub1 (L' := [(0, _), (1, _), (2, _), (3, _), (4, _)]) ⟨rfl, rfl, rfl, rfl, rfl, trivial⟩ ?_
          first
            | exact ih (k + 1) _ _ (by omega) (by omega) (by omega) (by rw [cR_s, pI_1 (show μ 22 (4 * (k : Int) + 2) = v by omega), ← e1])
            | exact ih (k + 1) _ _ (by omega) (by omega) (by omega) (by rw [cR_s, pI_0 (show ¬ (μ 22 (4 * (k : Int) + 2) = v) by omega), ← e1])
        · skip
          refine wq_iconst (pc := 26) dL_links_26 ?_
          refine wq_goto (pc := 27) (tgt := 31) dL_links_27 (by decide) ?_
          refine wq_iadd (pc := 31) dL_links_31 ?_
          refine wq_istore_n (pc := 32) (L' := [(3, _), (0, _), (1, _), (2, _), (4, _)]) dL_links_32 rfl rfl (by decide) ?_
          refine wq_iinc (pc := 33) (L' := [(4, _), (3, _), (0, _), (1, _), (2, _)]) dL_links_33 rfl rfl (by decide) ?_
          refine wq_goto (pc := 36) (tgt := 5) dL_links_36 (by decide) ?_
          refine wq_sub1 (L' := [(0, _), (1, _), (2, _), (3, _), (4, _)]) ⟨rfl, rfl, rfl, rfl, rfl, trivial⟩ ?_
          first
            | exact ih (k + 1) _ _ (by omega) (by omega) (by omega) (by rw [cR_s, pI_1 (show μ 22 (4 * (k : Int) + 2) = v by omega), ← e1])
            | exact ih (k + 1) _ _ (by omega) (by omega) (by omega) (by rw [cR_s, pI_0 (show ¬ (μ 22 (4 * (k : Int) + 2) = v) by omega), ← e1])
  refine wq_sub1 (L' := [(0, _), (1, _), (2, _), (3, _), (4, _)]) ⟨rfl, rfl, rfl, rfl, rfl, trivial⟩ ?_
  exact loop1 ((μ 21 0).toNat + 1) 0 _ _ (by omega) (by omega) rfl rfl
theorem sp_L_namesIn {μ : nMem} {ε : nEnv} {Q : nOut → nMem → nEnv → Prop} {v : Int} (hs : SkP skM ε) (n0 : 0 ≤ μ 21 0) (n1 : μ 21 0 ≤ 15) (hr2 : ∀ j, inR (μ 22 j)) (r1 : inR v) (h : Q (.inl (some (vI (cR (pD (μ 22) v) (μ 21 0).toNat)))) μ ε) : Sp mL_namesIn [vR 21, vR 22, vI v] μ ε Q := by
  refine Sp_of (L := [(0, vR 21), (1, vR 22), (2, vI v)]) (by decide) rfl rfl (Nat.le_of_ble_eq_true rfl) ?_
  refine wq_iconst (pc := 0) dL_namesIn_0 ?_
  refine wq_istore_n (pc := 1) (L' := [(3, _), (0, _), (1, _), (2, _)]) dL_namesIn_1 rfl rfl (by decide) ?_
  refine wq_iconst (pc := 2) dL_namesIn_2 ?_
  refine wq_istore (pc := 3) (L' := [(4, _), (3, _), (0, _), (1, _), (2, _)]) dL_namesIn_3 rfl (by decide) ?_
  have loop1 : ∀ (n k : Nat), ∀ (c i : Int), k ≤ (μ 21 0).toNat → (μ 21 0).toNat < k + n → i = (k : Int) → c = cR (pD (μ 22) v) k → wp mL_namesIn 5 [(0, vR 21), (1, vR 22), (2, vI v), (3, vI c), (4, vI i)] [] μ ε Q := by
    intro n
    induction n with
    | zero => intro k c i hk1 hk2 e0 e1; exact absurd hk2 (by omega)
    | succ n ih =>
      intro k c i hk1 hk2 e0 e1
      subst e0
      refine wq_iload (pc := 5) dL_namesIn_5 rfl ?_
      refine wq_aload_n (pc := 7) dL_namesIn_7 rfl rfl ?_
      refine wq_iconst (pc := 8) dL_namesIn_8 ?_
      refine wq_ialdK (pc := 9) dL_namesIn_9 hs rfl (by omega) (by omega) ?_
      refine wq_icmp_ge (pc := 10) (tgt := 37) dL_namesIn_10 (by decide) (by first | (unfold inR; omega) | assumption | exact hr2 _ | exact hr3 _ | exact hr4 _) (by first | (unfold inR; omega) | assumption | exact hr2 _ | exact hr3 _ | exact hr4 _) (fun c2 => ?_) (fun c2 => ?_)
      · skip
        refine wq_iload_n (pc := 37) dL_namesIn_37 rfl rfl ?_
        refine wq_iret (pc := 38) dL_namesIn_38 rfl ?_
        rw [e1, show k = (μ 21 0).toNat by omega]; exact h
      · skip
        refine wq_iload_n (pc := 13) dL_namesIn_13 rfl rfl ?_
        refine wq_aload_n (pc := 14) dL_namesIn_14 rfl rfl ?_
        refine wq_iconst (pc := 15) dL_namesIn_15 ?_
        refine wq_iload (pc := 16) dL_namesIn_16 rfl ?_
        refine wq_imul (pc := 18) dL_namesIn_18 ?_
        refine wq_ialdK (pc := 19) dL_namesIn_19 hs rfl (by omega) (by omega) ?_
        refine wq_iload_n (pc := 20) dL_namesIn_20 rfl rfl ?_
        refine wq_icmp_ne (pc := 21) (tgt := 28) dL_namesIn_21 (by decide) (by first | (unfold inR; omega) | assumption | exact hr2 _ | exact hr3 _ | exact hr4 _) (by first | (unfold inR; omega) | assumption | exact hr2 _ | exact hr3 _ | exact hr4 _) (fun c3 => ?_) (fun c3 => ?_)
        · skip
          refine wq_iconst (pc := 28) dL_namesIn_28 ?_
          refine wq_iadd (pc := 29) dL_namesIn_29 ?_
          refine wq_istore_n (pc := 30) (L' := [(3, _), (0, _), (1, _), (2, _), (4, _)]) dL_namesIn_30 rfl rfl (by decide) ?_
          refine wq_iinc (pc := 31) (L' := [(4, _), (3, _), (0, _), (1, _), (2, _)]) dL_namesIn_31 rfl rfl (by decide) ?_
          refine wq_goto (pc := 34) (tgt := 5) dL_namesIn_34 (by decide) ?_
          refine wq_sub1 (L' := [(0, _), (1, _), (2, _), (3, _), (4, _)]) ⟨rfl, rfl, rfl, rfl, rfl, trivial⟩ ?_
          first
            | exact ih (k + 1) _ _ (by omega) (by omega) (by omega) (by rw [cR_s, pI_1 (show μ 22 (4 * (k : Int)) = v by omega), ← e1])
            | exact ih (k + 1) _ _ (by omega) (by omega) (by omega) (by rw [cR_s, pI_0 (show ¬ (μ 22 (4 * (k : Int)) = v) by omega), ← e1])
        · skip
          refine wq_iconst (pc := 24) dL_namesIn_24 ?_
          refine wq_goto (pc := 25) (tgt := 29) dL_namesIn_25 (by decide) ?_
          refine wq_iadd (pc := 29) dL_namesIn_29 ?_
          refine wq_istore_n (pc := 30) (L' := [(3, _), (0, _), (1, _), (2, _), (4, _)]) dL_namesIn_30 rfl rfl (by decide) ?_
          refine wq_iinc (pc := 31) (L' := [(4, _), (3, _), (0, _), (1, _), (2, _)]) dL_namesIn_31 rfl rfl (by decide) ?_
          refine wq_goto (pc := 34) (tgt := 5) dL_namesIn_34 (by decide) ?_
          refine wq_sub1 (L' := [(0, _), (1, _), (2, _), (3, _), (4, _)]) ⟨rfl, rfl, rfl, rfl, rfl, trivial⟩ ?_
          first
            | exact ih (k + 1) _ _ (by omega) (by omega) (by omega) (by rw [cR_s, pI_1 (show μ 22 (4 * (k : Int)) = v by omega), ← e1])
            | exact ih (k + 1) _ _ (by omega) (by omega) (by omega) (by rw [cR_s, pI_0 (show ¬ (μ 22 (4 * (k : Int)) = v) by omega), ← e1])
  refine wq_sub1 (L' := [(0, _), (1, _), (2, _), (3, _), (4, _)]) ⟨rfl, rfl, rfl, rfl, rfl, trivial⟩ ?_
  exact loop1 ((μ 21 0).toNat + 1) 0 _ _ (by omega) (by omega) rfl rfl
theorem sp_L_slot {μ : nMem} {ε : nEnv} {Q : nOut → nMem → nEnv → Prop} {v : Int} (hs : SkP skM ε) (m0 : 0 ≤ μ 21 1) (m1 : μ 21 1 ≤ 8) (hr3 : ∀ j, inR (μ 23 j)) (r1 : inR v) (h : Q (.inl (some (vI (lsP (pZ (μ 23) v) (μ 21 1).toNat)))) μ ε) : Sp mL_slot [vR 21, vR 23, vI v] μ ε Q := by
  refine Sp_of (L := [(0, vR 21), (1, vR 23), (2, vI v)]) (by decide) rfl rfl (Nat.le_of_ble_eq_true rfl) ?_
  refine wq_iconst (pc := 0) dL_slot_0 ?_
  refine wq_istore_n (pc := 1) (L' := [(3, _), (0, _), (1, _), (2, _)]) dL_slot_1 rfl rfl (by decide) ?_
  refine wq_iconst (pc := 2) dL_slot_2 ?_
  refine wq_istore (pc := 3) (L' := [(4, _), (3, _), (0, _), (1, _), (2, _)]) dL_slot_3 rfl (by decide) ?_
  have loop1 : ∀ (n k : Nat), ∀ (f i : Int), k ≤ (μ 21 1).toNat → (μ 21 1).toNat < k + n → i = (k : Int) → f = lsP (pZ (μ 23) v) k → wp mL_slot 5 [(0, vR 21), (1, vR 23), (2, vI v), (3, vI f), (4, vI i)] [] μ ε Q := by
    intro n
    induction n with
    | zero => intro k f i hk1 hk2 e0 e1; exact absurd hk2 (by omega)
    | succ n ih =>
      intro k f i hk1 hk2 e0 e1
      subst e0
      refine wq_iload (pc := 5) dL_slot_5 rfl ?_
      refine wq_aload_n (pc := 7) dL_slot_7 rfl rfl ?_
      refine wq_iconst (pc := 8) dL_slot_8 ?_
      refine wq_ialdK (pc := 9) dL_slot_9 hs rfl (by omega) (by omega) ?_
      refine wq_icmp_ge (pc := 10) (tgt := 34) dL_slot_10 (by decide) (by first | (unfold inR; omega) | assumption | exact hr2 _ | exact hr3 _ | exact hr4 _) (by first | (unfold inR; omega) | assumption | exact hr2 _ | exact hr3 _ | exact hr4 _) (fun c2 => ?_) (fun c2 => ?_)
      · skip
        refine wq_iload_n (pc := 34) dL_slot_34 rfl rfl ?_
        refine wq_iret (pc := 35) dL_slot_35 rfl ?_
        rw [e1, show k = (μ 21 1).toNat by omega]; exact h
      · skip
        refine wq_aload_n (pc := 13) dL_slot_13 rfl rfl ?_
        refine wq_iload (pc := 14) dL_slot_14 rfl ?_
        refine wq_ialdK (pc := 16) dL_slot_16 hs rfl (by omega) (by omega) ?_
        refine wq_iload_n (pc := 17) dL_slot_17 rfl rfl ?_
        refine wq_icmp_ne (pc := 18) (tgt := 26) dL_slot_18 (by decide) (by first | (unfold inR; omega) | assumption | exact hr2 _ | exact hr3 _ | exact hr4 _) (by first | (unfold inR; omega) | assumption | exact hr2 _ | exact hr3 _ | exact hr4 _) (fun c3 => ?_) (fun c3 => ?_)
        · skip
          refine wq_iload_n (pc := 26) dL_slot_26 rfl rfl ?_
          refine wq_istore_n (pc := 27) (L' := [(3, _), (0, _), (1, _), (2, _), (4, _)]) dL_slot_27 rfl rfl (by decide) ?_
          refine wq_iinc (pc := 28) (L' := [(4, _), (3, _), (0, _), (1, _), (2, _)]) dL_slot_28 rfl rfl (by decide) ?_
          refine wq_goto (pc := 31) (tgt := 5) dL_slot_31 (by decide) ?_
          refine wq_sub1 (L' := [(0, _), (1, _), (2, _), (3, _), (4, _)]) ⟨rfl, rfl, rfl, rfl, rfl, trivial⟩ ?_
          first
            | exact ih (k + 1) _ _ (by omega) (by omega) (by omega) (by rw [lsP_s, pI_1 (show μ 23 (k : Int) = v by omega)])
            | exact ih (k + 1) _ _ (by omega) (by omega) (by omega) (by rw [lsP_s, pI_0 (show ¬ (μ 23 (k : Int) = v) by omega)]; exact e1)
        · skip
          refine wq_iload (pc := 21) dL_slot_21 rfl ?_
          refine wq_goto (pc := 23) (tgt := 27) dL_slot_23 (by decide) ?_
          refine wq_istore_n (pc := 27) (L' := [(3, _), (0, _), (1, _), (2, _), (4, _)]) dL_slot_27 rfl rfl (by decide) ?_
          refine wq_iinc (pc := 28) (L' := [(4, _), (3, _), (0, _), (1, _), (2, _)]) dL_slot_28 rfl rfl (by decide) ?_
          refine wq_goto (pc := 31) (tgt := 5) dL_slot_31 (by decide) ?_
          refine wq_sub1 (L' := [(0, _), (1, _), (2, _), (3, _), (4, _)]) ⟨rfl, rfl, rfl, rfl, rfl, trivial⟩ ?_
          first
            | exact ih (k + 1) _ _ (by omega) (by omega) (by omega) (by rw [lsP_s, pI_1 (show μ 23 (k : Int) = v by omega)])
            | exact ih (k + 1) _ _ (by omega) (by omega) (by omega) (by rw [lsP_s, pI_0 (show ¬ (μ 23 (k : Int) = v) by omega)]; exact e1)
  refine wq_sub1 (L' := [(0, _), (1, _), (2, _), (3, _), (4, _)]) ⟨rfl, rfl, rfl, rfl, rfl, trivial⟩ ?_
  exact loop1 ((μ 21 1).toNat + 1) 0 _ _ (by omega) (by omega) rfl rfl
theorem sp_L_isDirectory {μ : nMem} {ε : nEnv} {Q : nOut → nMem → nEnv → Prop} {v : Int} (hs : SkP skM ε) (n0 : 0 ≤ μ 21 0) (n1 : μ 21 0 ≤ 15) (hr2 : ∀ j, inR (μ 22 j)) (r1 : inR v) (h1 : qY (μ 22) v (μ 21 0) → Q (.inl (some (vI 1))) μ ε) (h0 : ¬ qY (μ 22) v (μ 21 0) → Q (.inl (some (vI 0))) μ ε) : Sp mL_isDirectory [vR 21, vR 22, vI v] μ ε Q := by
  refine Sp_of (L := [(0, vR 21), (1, vR 22), (2, vI v)]) (by decide) rfl rfl (Nat.le_of_ble_eq_true rfl) ?_
  refine wq_iload_n (pc := 0) dL_isDirectory_0 rfl rfl ?_
  refine wq_iconst (pc := 1) dL_isDirectory_1 ?_
  refine wq_icmp_ne (pc := 2) (tgt := 9) dL_isDirectory_2 (by decide) (by first | (unfold inR; omega) | assumption | exact hr2 _ | exact hr3 _ | exact hr4 _) (by first | (unfold inR; omega) | assumption | exact hr2 _ | exact hr3 _ | exact hr4 _) (fun c1 => ?_) (fun c1 => ?_)
  · skip
    refine wq_iconst (pc := 9) dL_isDirectory_9 ?_
    refine wq_istore_n (pc := 10) (L' := [(3, _), (0, _), (1, _), (2, _)]) dL_isDirectory_10 rfl rfl (by decide) ?_
    refine wq_iconst (pc := 11) dL_isDirectory_11 ?_
    refine wq_istore (pc := 12) (L' := [(4, _), (3, _), (0, _), (1, _), (2, _)]) dL_isDirectory_12 rfl (by decide) ?_
    have loop2 : ∀ (n k : Nat), ∀ (w i : Int), k ≤ (μ 21 0).toNat → (μ 21 0).toNat < k + n → i = (k : Int) → (w = 1 ∧ qY (μ 22) v k) ∨ (w = 0 ∧ ¬ qY (μ 22) v k) → wp mL_isDirectory 14 [(0, vR 21), (1, vR 22), (2, vI v), (3, vI w), (4, vI i)] [] μ ε Q := by
      intro n
      induction n with
      | zero => intro k w i hk1 hk2 e0 e1; exact absurd hk2 (by omega)
      | succ n ih =>
        intro k w i hk1 hk2 e0 e1
        subst e0
        have rw1 : inR w := by rcases e1 with q | q <;> (rw [q.1]; unfold inR; omega)
        refine wq_iload (pc := 14) dL_isDirectory_14 rfl ?_
        refine wq_aload_n (pc := 16) dL_isDirectory_16 rfl rfl ?_
        refine wq_iconst (pc := 17) dL_isDirectory_17 ?_
        refine wq_ialdK (pc := 18) dL_isDirectory_18 hs rfl (by omega) (by omega) ?_
        refine wq_icmp_ge (pc := 19) (tgt := 62) dL_isDirectory_19 (by decide) (by first | (unfold inR; omega) | assumption | exact hr2 _ | exact hr3 _ | exact hr4 _) (by first | (unfold inR; omega) | assumption | exact hr2 _ | exact hr3 _ | exact hr4 _) (fun c3 => ?_) (fun c3 => ?_)
        · skip
          refine wq_iload_n (pc := 62) dL_isDirectory_62 rfl rfl ?_
          refine wq_zret (pc := 63) dL_isDirectory_63 rfl (by first | omega | (simp; done) | assumption) ?_
          rcases e1 with q | q
          · rw [q.1]; exact h1 (by rw [show (k : Int) = μ 21 0 by omega] at q; exact q.2)
          · rw [q.1]; exact h0 (by rw [show (k : Int) = μ 21 0 by omega] at q; exact q.2)
        · skip
          refine wq_iload_n (pc := 22) dL_isDirectory_22 rfl rfl ?_
          refine wq_if_ne (pc := 23) (tgt := 50) dL_isDirectory_23 (by decide) (by first | (unfold inR; omega) | assumption | exact hr2 _ | exact hr3 _ | exact hr4 _) (fun c4 => ?_) (fun c4 => ?_)
          · skip
            refine wq_iconst (pc := 50) dL_isDirectory_50 ?_
            refine wq_goto (pc := 51) (tgt := 55) dL_isDirectory_51 (by decide) ?_
            refine wq_istore_n (pc := 55) (L' := [(3, _), (0, _), (1, _), (2, _), (4, _)]) dL_isDirectory_55 rfl rfl (by decide) ?_
            refine wq_iinc (pc := 56) (L' := [(4, _), (3, _), (0, _), (1, _), (2, _)]) dL_isDirectory_56 rfl rfl (by decide) ?_
            refine wq_goto (pc := 59) (tgt := 14) dL_isDirectory_59 (by decide) ?_
            refine wq_sub1 (L' := [(0, _), (1, _), (2, _), (3, _), (4, _)]) ⟨rfl, rfl, rfl, rfl, rfl, trivial⟩ ?_
            first
              | exact ih (k + 1) _ _ (by omega) (by omega) (by omega) (Or.inl ⟨rfl, qY_1 e1 (Or.inl (by assumption))⟩)
              | exact ih (k + 1) _ _ (by omega) (by omega) (by omega) (Or.inl ⟨rfl, qY_1 e1 (Or.inr ⟨by omega, by omega⟩)⟩)
              | exact ih (k + 1) _ _ (by omega) (by omega) (by omega) (Or.inr ⟨rfl, qY_0 e1 (by omega) (by omega)⟩)
          · skip
            refine wq_aload_n (pc := 26) dL_isDirectory_26 rfl rfl ?_
            refine wq_iconst (pc := 27) dL_isDirectory_27 ?_
            refine wq_iload (pc := 28) dL_isDirectory_28 rfl ?_
            refine wq_imul (pc := 30) dL_isDirectory_30 ?_
            refine wq_iconst (pc := 31) dL_isDirectory_31 ?_
            refine wq_iadd (pc := 32) dL_isDirectory_32 ?_
            refine wq_ialdK (pc := 33) dL_isDirectory_33 hs rfl (by omega) (by omega) ?_
            refine wq_iload_n (pc := 34) dL_isDirectory_34 rfl rfl ?_
            refine wq_icmp_ne (pc := 35) (tgt := 54) dL_isDirectory_35 (by decide) (by first | (unfold inR; omega) | assumption | exact hr2 _ | exact hr3 _ | exact hr4 _) (by first | (unfold inR; omega) | assumption | exact hr2 _ | exact hr3 _ | exact hr4 _) (fun c5 => ?_) (fun c5 => ?_)
            · skip
              refine wq_iconst (pc := 54) dL_isDirectory_54 ?_
              refine wq_istore_n (pc := 55) (L' := [(3, _), (0, _), (1, _), (2, _), (4, _)]) dL_isDirectory_55 rfl rfl (by decide) ?_
              refine wq_iinc (pc := 56) (L' := [(4, _), (3, _), (0, _), (1, _), (2, _)]) dL_isDirectory_56 rfl rfl (by decide) ?_
              refine wq_goto (pc := 59) (tgt := 14) dL_isDirectory_59 (by decide) ?_
              refine wq_sub1 (L' := [(0, _), (1, _), (2, _), (3, _), (4, _)]) ⟨rfl, rfl, rfl, rfl, rfl, trivial⟩ ?_
              first
                | exact ih (k + 1) _ _ (by omega) (by omega) (by omega) (Or.inl ⟨rfl, qY_1 e1 (Or.inl (by assumption))⟩)
                | exact ih (k + 1) _ _ (by omega) (by omega) (by omega) (Or.inl ⟨rfl, qY_1 e1 (Or.inr ⟨by omega, by omega⟩)⟩)
                | exact ih (k + 1) _ _ (by omega) (by omega) (by omega) (Or.inr ⟨rfl, qY_0 e1 (by omega) (by omega)⟩)
            · skip
              refine wq_aload_n (pc := 38) dL_isDirectory_38 rfl rfl ?_
              refine wq_iconst (pc := 39) dL_isDirectory_39 ?_
              refine wq_iload (pc := 40) dL_isDirectory_40 rfl ?_
              refine wq_imul (pc := 42) dL_isDirectory_42 ?_
              refine wq_iconst (pc := 43) dL_isDirectory_43 ?_
              refine wq_iadd (pc := 44) dL_isDirectory_44 ?_
              refine wq_ialdK (pc := 45) dL_isDirectory_45 hs rfl (by omega) (by omega) ?_
              refine wq_iconst (pc := 46) dL_isDirectory_46 ?_
              refine wq_icmp_ne (pc := 47) (tgt := 54) dL_isDirectory_47 (by decide) (by first | (unfold inR; omega) | assumption | exact hr2 _ | exact hr3 _ | exact hr4 _) (by first | (unfold inR; omega) | assumption | exact hr2 _ | exact hr3 _ | exact hr4 _) (fun c6 => ?_) (fun c6 => ?_)
              · skip
                refine wq_iconst (pc := 54) dL_isDirectory_54 ?_
                refine wq_istore_n (pc := 55) (L' := [(3, _), (0, _), (1, _), (2, _), (4, _)]) dL_isDirectory_55 rfl rfl (by decide) ?_
                refine wq_iinc (pc := 56) (L' := [(4, _), (3, _), (0, _), (1, _), (2, _)]) dL_isDirectory_56 rfl rfl (by decide) ?_
                refine wq_goto (pc := 59) (tgt := 14) dL_isDirectory_59 (by decide) ?_
                refine wq_sub1 (L' := [(0, _), (1, _), (2, _), (3, _), (4, _)]) ⟨rfl, rfl, rfl, rfl, rfl, trivial⟩ ?_
                first
                  | exact ih (k + 1) _ _ (by omega) (by omega) (by omega) (Or.inl ⟨rfl, qY_1 e1 (Or.inl (by assumption))⟩)
                  | exact ih (k + 1) _ _ (by omega) (by omega) (by omega) (Or.inl ⟨rfl, qY_1 e1 (Or.inr ⟨by omega, by omega⟩)⟩)
                  | exact ih (k + 1) _ _ (by omega) (by omega) (by omega) (Or.inr ⟨rfl, qY_0 e1 (by omega) (by omega)⟩)
              · skip
                refine wq_iconst (pc := 50) dL_isDirectory_50 ?_
                refine wq_goto (pc := 51) (tgt := 55) dL_isDirectory_51 (by decide) ?_
                refine wq_istore_n (pc := 55) (L' := [(3, _), (0, _), (1, _), (2, _), (4, _)]) dL_isDirectory_55 rfl rfl (by decide) ?_
                refine wq_iinc (pc := 56) (L' := [(4, _), (3, _), (0, _), (1, _), (2, _)]) dL_isDirectory_56 rfl rfl (by decide) ?_
                refine wq_goto (pc := 59) (tgt := 14) dL_isDirectory_59 (by decide) ?_
                refine wq_sub1 (L' := [(0, _), (1, _), (2, _), (3, _), (4, _)]) ⟨rfl, rfl, rfl, rfl, rfl, trivial⟩ ?_
                first
                  | exact ih (k + 1) _ _ (by omega) (by omega) (by omega) (Or.inl ⟨rfl, qY_1 e1 (Or.inl (by assumption))⟩)
                  | exact ih (k + 1) _ _ (by omega) (by omega) (by omega) (Or.inl ⟨rfl, qY_1 e1 (Or.inr ⟨by omega, by omega⟩)⟩)
                  | exact ih (k + 1) _ _ (by omega) (by omega) (by omega) (Or.inr ⟨rfl, qY_0 e1 (by omega) (by omega)⟩)
    refine wq_sub1 (L' := [(0, _), (1, _), (2, _), (3, _), (4, _)]) ⟨rfl, rfl, rfl, rfl, rfl, trivial⟩ ?_
    exact loop2 ((μ 21 0).toNat + 1) 0 _ _ (by omega) (by omega) rfl (by
      first
      | exact Or.inl ⟨rfl, Or.inl (by omega)⟩
      | exact Or.inr ⟨rfl, fun z => z.elim (fun q => by omega) (fun ⟨i, i1, _⟩ => by omega)⟩)
  · skip
    refine wq_iconst (pc := 5) dL_isDirectory_5 ?_
    refine wq_goto (pc := 6) (tgt := 10) dL_isDirectory_6 (by decide) ?_
    refine wq_istore_n (pc := 10) (L' := [(3, _), (0, _), (1, _), (2, _)]) dL_isDirectory_10 rfl rfl (by decide) ?_
    refine wq_iconst (pc := 11) dL_isDirectory_11 ?_
    refine wq_istore (pc := 12) (L' := [(4, _), (3, _), (0, _), (1, _), (2, _)]) dL_isDirectory_12 rfl (by decide) ?_
    have loop7 : ∀ (n k : Nat), ∀ (w i : Int), k ≤ (μ 21 0).toNat → (μ 21 0).toNat < k + n → i = (k : Int) → (w = 1 ∧ qY (μ 22) v k) ∨ (w = 0 ∧ ¬ qY (μ 22) v k) → wp mL_isDirectory 14 [(0, vR 21), (1, vR 22), (2, vI v), (3, vI w), (4, vI i)] [] μ ε Q := by
      intro n
      induction n with
      | zero => intro k w i hk1 hk2 e0 e1; exact absurd hk2 (by omega)
      | succ n ih =>
        intro k w i hk1 hk2 e0 e1
        subst e0
        have rw1 : inR w := by rcases e1 with q | q <;> (rw [q.1]; unfold inR; omega)
        refine wq_iload (pc := 14) dL_isDirectory_14 rfl ?_
        refine wq_aload_n (pc := 16) dL_isDirectory_16 rfl rfl ?_
        refine wq_iconst (pc := 17) dL_isDirectory_17 ?_
        refine wq_ialdK (pc := 18) dL_isDirectory_18 hs rfl (by omega) (by omega) ?_
        refine wq_icmp_ge (pc := 19) (tgt := 62) dL_isDirectory_19 (by decide) (by first | (unfold inR; omega) | assumption | exact hr2 _ | exact hr3 _ | exact hr4 _) (by first | (unfold inR; omega) | assumption | exact hr2 _ | exact hr3 _ | exact hr4 _) (fun c8 => ?_) (fun c8 => ?_)
        · skip
          refine wq_iload_n (pc := 62) dL_isDirectory_62 rfl rfl ?_
          refine wq_zret (pc := 63) dL_isDirectory_63 rfl (by first | omega | (simp; done) | assumption) ?_
          rcases e1 with q | q
          · rw [q.1]; exact h1 (by rw [show (k : Int) = μ 21 0 by omega] at q; exact q.2)
          · rw [q.1]; exact h0 (by rw [show (k : Int) = μ 21 0 by omega] at q; exact q.2)
        · skip
          refine wq_iload_n (pc := 22) dL_isDirectory_22 rfl rfl ?_
          refine wq_if_ne (pc := 23) (tgt := 50) dL_isDirectory_23 (by decide) (by first | (unfold inR; omega) | assumption | exact hr2 _ | exact hr3 _ | exact hr4 _) (fun c9 => ?_) (fun c9 => ?_)
          · skip
            refine wq_iconst (pc := 50) dL_isDirectory_50 ?_
            refine wq_goto (pc := 51) (tgt := 55) dL_isDirectory_51 (by decide) ?_
            refine wq_istore_n (pc := 55) (L' := [(3, _), (0, _), (1, _), (2, _), (4, _)]) dL_isDirectory_55 rfl rfl (by decide) ?_
            refine wq_iinc (pc := 56) (L' := [(4, _), (3, _), (0, _), (1, _), (2, _)]) dL_isDirectory_56 rfl rfl (by decide) ?_
            refine wq_goto (pc := 59) (tgt := 14) dL_isDirectory_59 (by decide) ?_
            refine wq_sub1 (L' := [(0, _), (1, _), (2, _), (3, _), (4, _)]) ⟨rfl, rfl, rfl, rfl, rfl, trivial⟩ ?_
            first
              | exact ih (k + 1) _ _ (by omega) (by omega) (by omega) (Or.inl ⟨rfl, qY_1 e1 (Or.inl (by assumption))⟩)
              | exact ih (k + 1) _ _ (by omega) (by omega) (by omega) (Or.inl ⟨rfl, qY_1 e1 (Or.inr ⟨by omega, by omega⟩)⟩)
              | exact ih (k + 1) _ _ (by omega) (by omega) (by omega) (Or.inr ⟨rfl, qY_0 e1 (by omega) (by omega)⟩)
          · skip
            refine wq_aload_n (pc := 26) dL_isDirectory_26 rfl rfl ?_
            refine wq_iconst (pc := 27) dL_isDirectory_27 ?_
            refine wq_iload (pc := 28) dL_isDirectory_28 rfl ?_
            refine wq_imul (pc := 30) dL_isDirectory_30 ?_
            refine wq_iconst (pc := 31) dL_isDirectory_31 ?_
            refine wq_iadd (pc := 32) dL_isDirectory_32 ?_
            refine wq_ialdK (pc := 33) dL_isDirectory_33 hs rfl (by omega) (by omega) ?_
            refine wq_iload_n (pc := 34) dL_isDirectory_34 rfl rfl ?_
            refine wq_icmp_ne (pc := 35) (tgt := 54) dL_isDirectory_35 (by decide) (by first | (unfold inR; omega) | assumption | exact hr2 _ | exact hr3 _ | exact hr4 _) (by first | (unfold inR; omega) | assumption | exact hr2 _ | exact hr3 _ | exact hr4 _) (fun c10 => ?_) (fun c10 => ?_)
            · skip
              refine wq_iconst (pc := 54) dL_isDirectory_54 ?_
              refine wq_istore_n (pc := 55) (L' := [(3, _), (0, _), (1, _), (2, _), (4, _)]) dL_isDirectory_55 rfl rfl (by decide) ?_
              refine wq_iinc (pc := 56) (L' := [(4, _), (3, _), (0, _), (1, _), (2, _)]) dL_isDirectory_56 rfl rfl (by decide) ?_
              refine wq_goto (pc := 59) (tgt := 14) dL_isDirectory_59 (by decide) ?_
              refine wq_sub1 (L' := [(0, _), (1, _), (2, _), (3, _), (4, _)]) ⟨rfl, rfl, rfl, rfl, rfl, trivial⟩ ?_
              first
                | exact ih (k + 1) _ _ (by omega) (by omega) (by omega) (Or.inl ⟨rfl, qY_1 e1 (Or.inl (by assumption))⟩)
                | exact ih (k + 1) _ _ (by omega) (by omega) (by omega) (Or.inl ⟨rfl, qY_1 e1 (Or.inr ⟨by omega, by omega⟩)⟩)
                | exact ih (k + 1) _ _ (by omega) (by omega) (by omega) (Or.inr ⟨rfl, qY_0 e1 (by omega) (by omega)⟩)
            · skip
              refine wq_aload_n (pc := 38) dL_isDirectory_38 rfl rfl ?_
              refine wq_iconst (pc := 39) dL_isDirectory_39 ?_
              refine wq_iload (pc := 40) dL_isDirectory_40 rfl ?_
              refine wq_imul (pc := 42) dL_isDirectory_42 ?_
              refine wq_iconst (pc := 43) dL_isDirectory_43 ?_
              refine wq_iadd (pc := 44) dL_isDirectory_44 ?_
              refine wq_ialdK (pc := 45) dL_isDirectory_45 hs rfl (by omega) (by omega) ?_
              refine wq_iconst (pc := 46) dL_isDirectory_46 ?_
              refine wq_icmp_ne (pc := 47) (tgt := 54) dL_isDirectory_47 (by decide) (by first | (unfold inR; omega) | assumption | exact hr2 _ | exact hr3 _ | exact hr4 _) (by first | (unfold inR; omega) | assumption | exact hr2 _ | exact hr3 _ | exact hr4 _) (fun c11 => ?_) (fun c11 => ?_)
              · skip
                refine wq_iconst (pc := 54) dL_isDirectory_54 ?_
                refine wq_istore_n (pc := 55) (L' := [(3, _), (0, _), (1, _), (2, _), (4, _)]) dL_isDirectory_55 rfl rfl (by decide) ?_
                refine wq_iinc (pc := 56) (L' := [(4, _), (3, _), (0, _), (1, _), (2, _)]) dL_isDirectory_56 rfl rfl (by decide) ?_
                refine wq_goto (pc := 59) (tgt := 14) dL_isDirectory_59 (by decide) ?_
                refine wq_sub1 (L' := [(0, _), (1, _), (2, _), (3, _), (4, _)]) ⟨rfl, rfl, rfl, rfl, rfl, trivial⟩ ?_
                first
                  | exact ih (k + 1) _ _ (by omega) (by omega) (by omega) (Or.inl ⟨rfl, qY_1 e1 (Or.inl (by assumption))⟩)
                  | exact ih (k + 1) _ _ (by omega) (by omega) (by omega) (Or.inl ⟨rfl, qY_1 e1 (Or.inr ⟨by omega, by omega⟩)⟩)
                  | exact ih (k + 1) _ _ (by omega) (by omega) (by omega) (Or.inr ⟨rfl, qY_0 e1 (by omega) (by omega)⟩)
              · skip
                refine wq_iconst (pc := 50) dL_isDirectory_50 ?_
                refine wq_goto (pc := 51) (tgt := 55) dL_isDirectory_51 (by decide) ?_
                refine wq_istore_n (pc := 55) (L' := [(3, _), (0, _), (1, _), (2, _), (4, _)]) dL_isDirectory_55 rfl rfl (by decide) ?_
                refine wq_iinc (pc := 56) (L' := [(4, _), (3, _), (0, _), (1, _), (2, _)]) dL_isDirectory_56 rfl rfl (by decide) ?_
                refine wq_goto (pc := 59) (tgt := 14) dL_isDirectory_59 (by decide) ?_
                refine wq_sub1 (L' := [(0, _), (1, _), (2, _), (3, _), (4, _)]) ⟨rfl, rfl, rfl, rfl, rfl, trivial⟩ ?_
                first
                  | exact ih (k + 1) _ _ (by omega) (by omega) (by omega) (Or.inl ⟨rfl, qY_1 e1 (Or.inl (by assumption))⟩)
                  | exact ih (k + 1) _ _ (by omega) (by omega) (by omega) (Or.inl ⟨rfl, qY_1 e1 (Or.inr ⟨by omega, by omega⟩)⟩)
                  | exact ih (k + 1) _ _ (by omega) (by omega) (by omega) (Or.inr ⟨rfl, qY_0 e1 (by omega) (by omega)⟩)
    refine wq_sub1 (L' := [(0, _), (1, _), (2, _), (3, _), (4, _)]) ⟨rfl, rfl, rfl, rfl, rfl, trivial⟩ ?_
    exact loop7 ((μ 21 0).toNat + 1) 0 _ _ (by omega) (by omega) rfl (by
      first
      | exact Or.inl ⟨rfl, Or.inl (by omega)⟩
      | exact Or.inr ⟨rfl, fun z => z.elim (fun q => by omega) (fun ⟨i, i1, _⟩ => by omega)⟩)
theorem sp_L_byteAt {μ : nMem} {ε : nEnv} {Q : nOut → nMem → nEnv → Prop} {i p : Int} (hs : SkP skM ε) (i0 : 0 ≤ i ∧ i < 8) (p0 : 0 ≤ p ∧ p < 64) (h : Q (.inl (some (vI (cB (μ 25) i p)))) μ ε) : Sp mL_byteAt [vR 25, vI i, vI p] μ ε Q := by
  refine Sp_of (L := [(0, vR 25), (1, vI i), (2, vI p)]) (by decide) rfl rfl (Nat.le_of_ble_eq_true rfl) ?_
  refine wq_aload_n (pc := 0) dL_byteAt_0 rfl rfl ?_
  refine wq_bipush (pc := 1) dL_byteAt_1 (by decide) (by decide) ?_
  refine wq_iload_n (pc := 3) dL_byteAt_3 rfl rfl ?_
  refine wq_imul (pc := 4) dL_byteAt_4 ?_
  refine wq_iload_n (pc := 5) dL_byteAt_5 rfl rfl ?_
  refine wq_bipush (pc := 6) dL_byteAt_6 (by decide) (by decide) ?_
  refine wq_idiv (pc := 8) dL_byteAt_8 (by omega) (by omega) ?_
  refine wq_iadd (pc := 9) dL_byteAt_9 ?_
  refine wq_laldK (pc := 10) dL_byteAt_10 hs rfl (by omega) (by omega) ?_
  refine wq_bipush (pc := 11) dL_byteAt_11 (by decide) (by decide) ?_
  refine wq_iload_n (pc := 13) dL_byteAt_13 rfl rfl ?_
  refine wq_bipush (pc := 14) dL_byteAt_14 (by decide) (by decide) ?_
  refine wq_irem (pc := 16) dL_byteAt_16 (by omega) (by omega) ?_
  refine wq_imul (pc := 17) dL_byteAt_17 ?_
  refine wq_lshr (pc := 18) dL_byteAt_18 ?_
  refine wq_ldc2 (pc := 19) dL_byteAt_19 (kc_L_16 _ rfl) ?_
  refine wq_land (pc := 22) dL_byteAt_22 ?_
  refine wq_l2i (pc := 23) dL_byteAt_23 ?_
  refine wq_iret (pc := 24) dL_byteAt_24 rfl ?_
  exact h
theorem sp_L_lays {μ : nMem} {ε : nEnv} {Q : nOut → nMem → nEnv → Prop} {i p v : Int} (hs : SkP skM ε) (i0 : 0 ≤ i ∧ i < 8) (p0 : 0 ≤ p ∧ p < 64) (h : Q (.inl none) (wr μ 25 (8 * i + p / 8) (layJ (μ 25 (8 * i + p / 8)) (8 * (p % 8)) v)) ε) : Sp mL_lays [vR 25, vI i, vI p, vJ v] μ ε Q := by
  refine Sp_of (L := [(0, vR 25), (1, vI i), (2, vI p), (3, vJ v)]) (by decide) rfl rfl (Nat.le_of_ble_eq_true rfl) ?_
  refine wq_bipush (pc := 0) dL_lays_0 (by decide) (by decide) ?_
  refine wq_iload_n (pc := 2) dL_lays_2 rfl rfl ?_
  refine wq_imul (pc := 3) dL_lays_3 ?_
  refine wq_iload_n (pc := 4) dL_lays_4 rfl rfl ?_
  refine wq_bipush (pc := 5) dL_lays_5 (by decide) (by decide) ?_
  refine wq_idiv (pc := 7) dL_lays_7 (by omega) (by omega) ?_
  refine wq_iadd (pc := 8) dL_lays_8 ?_
  refine wq_istore (pc := 9) (L' := [(5, _), (0, _), (1, _), (2, _), (3, _)]) dL_lays_9 rfl (by decide) ?_
  refine wq_bipush (pc := 11) dL_lays_11 (by decide) (by decide) ?_
  refine wq_iload_n (pc := 13) dL_lays_13 rfl rfl ?_
  refine wq_bipush (pc := 14) dL_lays_14 (by decide) (by decide) ?_
  refine wq_irem (pc := 16) dL_lays_16 (by omega) (by omega) ?_
  refine wq_imul (pc := 17) dL_lays_17 ?_
  refine wq_istore (pc := 18) (L' := [(6, _), (5, _), (0, _), (1, _), (2, _), (3, _)]) dL_lays_18 rfl (by decide) ?_
  refine wq_aload_n (pc := 20) dL_lays_20 rfl rfl ?_
  refine wq_iload (pc := 21) dL_lays_21 rfl ?_
  refine wq_aload_n (pc := 23) dL_lays_23 rfl rfl ?_
  refine wq_iload (pc := 24) dL_lays_24 rfl ?_
  refine wq_laldK (pc := 26) dL_lays_26 hs rfl (by omega) (by omega) ?_
  refine wq_ldc2 (pc := 27) dL_lays_27 (kc_L_16 _ rfl) ?_
  refine wq_iload (pc := 30) dL_lays_30 rfl ?_
  refine wq_lshl (pc := 32) dL_lays_32 ?_
  refine wq_ldc2 (pc := 33) dL_lays_33 (kc_L_18 _ rfl) ?_
  refine wq_lxor (pc := 36) dL_lays_36 ?_
  refine wq_land (pc := 37) dL_lays_37 ?_
  refine wq_lload_n (pc := 38) dL_lays_38 rfl rfl ?_
  refine wq_ldc2 (pc := 39) dL_lays_39 (kc_L_16 _ rfl) ?_
  refine wq_land (pc := 42) dL_lays_42 ?_
  refine wq_iload (pc := 43) dL_lays_43 rfl ?_
  refine wq_lshl (pc := 45) dL_lays_45 ?_
  refine wq_lor (pc := 46) dL_lays_46 ?_
  refine wq_lastK (pc := 47) dL_lays_47 hs rfl (by omega) (by omega) ?_
  refine wq_vret (pc := 48) dL_lays_48 rfl ?_
  exact h
