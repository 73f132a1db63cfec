def nAll (L : List (Nat × nV)) : List (Nat × nV) → Prop
  | [] => True
  | q :: r => nGet L q.1 = some q.2 ∧ nAll L r
theorem nAll_of {L : List (Nat × nV)} : ∀ {L' : List (Nat × nV)}, nAll L L' → ∀ q ∈ L', nGet L q.1 = some q.2
  | [], _, q, hq => absurd hq List.not_mem_nil
  | _ :: _, h, q, hq => by
    rcases List.mem_cons.mp hq with e | hq
    · rw [e]; exact h.1
    · exact nAll_of h.2 q hq
theorem wq_sub1 {M : nM} {pc : Nat} {L L' : List (Nat × nV)} {st : List nV} {μ : nMem} {ε : nEnv} {tb : List ExceptionTableEntry → Prop} {Fn : nG → Nat → Nat → List Frame → Array Value → State → State → Prop} (h : nAll L L') (k : wpF M pc L' st μ ε tb Fn) : wpF M pc L st μ ε tb Fn := wq_sub (nAll_of h) k
/-- the node at a place of the rows, else 'nowhere' -/
def nRow (μ : nMem) (i : Int) : Int := if 0 ≤ i ∧ i < 128 ∧ μ 3 i ≠ 0 then μ 3 i else 7
/-- the rows hold nodes, each its own, all within bounds -/
def nRows (μ : nMem) (ε : nEnv) : Prop := (∀ i, 0 ≤ i → i < 128 → μ 3 i ≠ 0 → 20 < μ 3 i ∧ eKind ε (μ 3 i) = 5) ∧ (∀ i j, 0 ≤ i → i < 128 → 0 ≤ j → j < 128 → μ 3 i ≠ 0 → μ 3 i = μ 3 j → i = j) ∧ (∀ i, nB μ (nRow μ i))
theorem nRow_kd {μ : nMem} {ε : nEnv} (hs : SkP skC ε) (hr : nRows μ ε) (i : Int) : eKind ε (nRow μ i) = 5 := by
  unfold nRow
  split
  · rename_i h; exact (hr.1 i h.1 h.2.1 h.2.2).2
  · exact (hs 7 5 0 [] rfl (by decide)).1
theorem nRow_nB {μ : nMem} {ε : nEnv} (hr : nRows μ ε) (i : Int) : nB μ (nRow μ i) := hr.2.2 i
theorem nRow_ne {μ : nMem} {ε : nEnv} (hr : nRows μ ε) (i : Int) : nRow μ i ≠ 0 := by
  unfold nRow
  split
  · rename_i h; have := (hr.1 i h.1 h.2.1 h.2.2).1; omega
  · decide
def nAtB (μ : nMem) (b p : Int) : Int := if 0 ≤ b ∧ b < 8 ∧ 0 ≤ p ∧ p < 16 then nRow μ (b * 16 + p) else 7
theorem nAtB_row {μ : nMem} (b p : Int) : ∃ i, nAtB μ b p = nRow μ i := by
  unfold nAtB
  split
  · exact ⟨_, rfl⟩
  · exact ⟨-1, by unfold nRow; rw [if_neg (by omega)]⟩
theorem nAtB_kd {μ : nMem} {ε : nEnv} (hs : SkP skC ε) (hr : nRows μ ε) (b p : Int) : eKind ε (nAtB μ b p) = 5 := by
  obtain ⟨i, h⟩ := nAtB_row (μ := μ) b p
  rw [h]; exact nRow_kd hs hr i
theorem nAtB_nB {μ : nMem} {ε : nEnv} (hr : nRows μ ε) (b p : Int) : nB μ (nAtB μ b p) := by
  obtain ⟨i, h⟩ := nAtB_row (μ := μ) b p
  rw [h]; exact nRow_nB hr i
def nHas (b : Int) : Prop := 0 ≤ b ∧ b < 8
abbrev nNewC (μ : nMem) (kd nb key below best a : Int) : Prop := nTells μ a kd nb ∧ μ a 4 < below ∧ nSettles μ a key ∧ (best = 0 ∨ μ best 4 < μ a 4)
/-- the first of the nodes with the greatest version below this one that settle the key, among the first n -/
def fNewest (μ : nMem) (kd nb key below : Int) : Nat → Int
  | 0 => 0
  | n + 1 => if nNewC μ kd nb key below (fNewest μ kd nb key below n) (nRow μ n) then nRow μ n else fNewest μ kd nb key below n
theorem fNewest_s (μ : nMem) (kd nb key below : Int) (n : Nat) : fNewest μ kd nb key below (n + 1) = if nNewC μ kd nb key below (fNewest μ kd nb key below n) (nRow μ n) then nRow μ n else fNewest μ kd nb key below n := rfl
theorem fNewest_ok {μ : nMem} (kd nb key below : Int) (n : Nat) : fNewest μ kd nb key below n = 0 ∨ ∃ i, fNewest μ kd nb key below n = nRow μ i := by
  induction n with
  | zero => exact Or.inl rfl
  | succ n ih =>
    rw [fNewest_s]
    split
    · exact Or.inr ⟨_, rfl⟩
    · exact ih
def fNextD (μ : nMem) (f above : Int) : Nat → Int
  | 0 => 0
  | n + 1 => if nTells μ (nRow μ n) 1 f ∧ above < μ (nRow μ n) 4 ∧ (fNextD μ f above n = 0 ∨ μ (nRow μ n) 4 < μ (fNextD μ f above n) 4) then nRow μ n else fNextD μ f above n
theorem fNextD_s (μ : nMem) (f above : Int) (n : Nat) : fNextD μ f above (n + 1) = if nTells μ (nRow μ n) 1 f ∧ above < μ (nRow μ n) 4 ∧ (fNextD μ f above n = 0 ∨ μ (nRow μ n) 4 < μ (fNextD μ f above n) 4) then nRow μ n else fNextD μ f above n := rfl
theorem fNextD_ok {μ : nMem} (f above : Int) (n : Nat) : fNextD μ f above n = 0 ∨ ∃ i, fNextD μ f above n = nRow μ i := by
  induction n with
  | zero => exact Or.inl rfl
  | succ n ih =>
    rw [fNextD_s]
    split
    · exact Or.inr ⟨_, rfl⟩
    · exact ih
def fSetN (μ : nMem) (o : Int) : Nat → Int
  | 0 => 0
  | n + 1 => if nTells μ (nRow μ n) 1 (μ o 3) ∧ μ o 4 < μ (nRow μ n) 4 then jOr (fSetN μ o n) (nSettled μ (nRow μ n)) else fSetN μ o n
theorem fSetN_s (μ : nMem) (o : Int) (n : Nat) : fSetN μ o (n + 1) = if nTells μ (nRow μ n) 1 (μ o 3) ∧ μ o 4 < μ (nRow μ n) 4 then jOr (fSetN μ o n) (nSettled μ (nRow μ n)) else fSetN μ o n := rfl
/-- the first node of the rows from the n-th on that is a copy; 0 if there is none -/
def fCopy (μ : nMem) (o : Int) : Nat → Int
  | 0 => 0
  | n + 1 => if nCopy μ (nRow μ (127 - n)) o then nRow μ (127 - n) else fCopy μ o n
theorem fCopy_s (μ : nMem) (o : Int) (n : Nat) : fCopy μ o (n + 1) = if nCopy μ (nRow μ (127 - n)) o then nRow μ (127 - n) else fCopy μ o n := rfl
theorem sp_X0_has {μ : nMem} {ε : nEnv} {Q : nOut → nMem → nEnv → Prop} {b : Int} (r1 : inR b) (h1 : 0 ≤ b ∧ b < 8 → Q (.inl (some (vI 1))) μ ε) (h2 : ¬ (0 ≤ b ∧ b < 8) → Q (.inl (some (vI 0))) μ ε) : Sp mX0_has [vR 2, vI b] μ ε Q := by
  refine Sp_of (L := [(0, vR 2), (1, vI b)]) (by decide) rfl rfl (Nat.le_of_ble_eq_true rfl) ?_
  refine wq_iload_n (pc := 0) dX0_has_0 rfl rfl ?_
  refine wq_if_lt (pc := 1) (tgt := 14) dX0_has_1 (by decide) (by first | (unfold inR; omega) | assumption) (fun c1 => ?_) (fun c1 => ?_)
  · skip
    refine wq_iconst (pc := 14) dX0_has_14 ?_
    refine wq_zret (pc := 15) dX0_has_15 rfl (by first | omega | (simp; done) | assumption) ?_
    first | exact h | exact h rfl | exact h (by omega) | exact h1 (by omega) | exact h2 (by omega) | exact h3 (by omega) | exact h4 (by omega)
  · skip
    refine wq_iload_n (pc := 4) dX0_has_4 rfl rfl ?_
    refine wq_bipush (pc := 5) dX0_has_5 (by decide) (by decide) ?_
    refine wq_icmp_ge (pc := 7) (tgt := 14) dX0_has_7 (by decide) (by first | (unfold inR; omega) | assumption) (by first | (unfold inR; omega) | assumption) (fun c2 => ?_) (fun c2 => ?_)
    · skip
      refine wq_iconst (pc := 14) dX0_has_14 ?_
      refine wq_zret (pc := 15) dX0_has_15 rfl (by first | omega | (simp; done) | assumption) ?_
      first | exact h | exact h rfl | exact h (by omega) | exact h1 (by omega) | exact h2 (by omega) | exact h3 (by omega) | exact h4 (by omega)
    · skip
      refine wq_iconst (pc := 10) dX0_has_10 ?_
      refine wq_goto (pc := 11) (tgt := 15) dX0_has_11 (by decide) ?_
      refine wq_zret (pc := 15) dX0_has_15 rfl (by first | omega | (simp; done) | assumption) ?_
      first | exact h | exact h rfl | exact h (by omega) | exact h1 (by omega) | exact h2 (by omega) | exact h3 (by omega) | exact h4 (by omega)
theorem sp_X0_usedOf {μ : nMem} {ε : nEnv} {Q : nOut → nMem → nEnv → Prop} {b : Int} (hs : SkP skC ε) (r1 : inR b) (h1 : 0 ≤ b ∧ b < 8 → Q (.inl (some (vI (μ 4 b)))) μ ε) (h2 : ¬ (0 ≤ b ∧ b < 8) → Q (.inl (some (vI 0))) μ ε) : Sp mX0_usedOf [vR 2, vI b] μ ε Q := by
  refine Sp_of (L := [(0, vR 2), (1, vI b)]) (by decide) rfl rfl (Nat.le_of_ble_eq_true rfl) ?_
  refine wq_aload_n (pc := 0) dX0_usedOf_0 rfl rfl ?_
  refine wq_iload_n (pc := 1) dX0_usedOf_1 rfl rfl ?_
  refine cVK_1 (pc := 2) dX0_usedOf_2 hs (cw_X0_36 _ rfl) (by decide) rfl ⟨by decide, by decide⟩ (Nat.le_of_ble_eq_true rfl) (sp_X0_has (by first | (unfold inR; omega) | assumption) (fun hh1 => ?_) (fun hh2 => ?_))
  · skip
    refine kr_s ?_
    refine wq_if_eq (pc := 5) (tgt := 17) dX0_usedOf_5 (by decide) (by first | (unfold inR; omega) | assumption) (fun c => absurd c (by decide)) (fun _ => ?_)
    refine wq_aload_n (pc := 8) dX0_usedOf_8 rfl rfl ?_
    refine wq_getS (pc := 9) dX0_usedOf_9 hs (gf_X0_17 _ rfl) rfl rfl rfl rfl rfl ?_
    refine wq_iload_n (pc := 12) dX0_usedOf_12 rfl rfl ?_
    refine wq_ialdK (pc := 13) dX0_usedOf_13 hs rfl (by omega) (by omega) ?_
    refine wq_goto (pc := 14) (tgt := 18) dX0_usedOf_14 (by decide) ?_
    refine wq_iret (pc := 18) dX0_usedOf_18 rfl ?_
    first | exact h | exact h rfl | exact h (by omega) | exact h1 (by omega) | exact h2 (by omega) | exact h3 (by omega) | exact h4 (by omega)
  · skip
    refine kr_s ?_
    refine wq_if_eq (pc := 5) (tgt := 17) dX0_usedOf_5 (by decide) (by first | (unfold inR; omega) | assumption) (fun _ => ?_) (fun c => absurd c (by decide))
    refine wq_iconst (pc := 17) dX0_usedOf_17 ?_
    refine wq_iret (pc := 18) dX0_usedOf_18 rfl ?_
    first | exact h | exact h rfl | exact h (by omega) | exact h1 (by omega) | exact h2 (by omega) | exact h3 (by omega) | exact h4 (by omega)
theorem sq_X0_usedOf {μ : nMem} {ε : nEnv} {Q : nOut → nMem → nEnv → Prop} {b : Int} (hs : SkP skC ε) (r1 : 0 ≤ b ∧ b < 8) (h : Q (.inl (some (vI (μ 4 b)))) μ ε) : Sp mX0_usedOf [vR 2, vI b] μ ε Q := sp_X0_usedOf hs (by unfold inR; omega) (fun _ => h) (fun q => absurd r1 q)
theorem sp_X0_countOf {μ : nMem} {ε : nEnv} {Q : nOut → nMem → nEnv → Prop} {b : Int} (hs : SkP skC ε) (r1 : inR b) (h1 : 0 ≤ b ∧ b < 8 → Q (.inl (some (vI (μ 5 b)))) μ ε) (h2 : ¬ (0 ≤ b ∧ b < 8) → Q (.inl (some (vI 0))) μ ε) : Sp mX0_countOf [vR 2, vI b] μ ε Q := by
  refine Sp_of (L := [(0, vR 2), (1, vI b)]) (by decide) rfl rfl (Nat.le_of_ble_eq_true rfl) ?_
  refine wq_aload_n (pc := 0) dX0_countOf_0 rfl rfl ?_
  refine wq_iload_n (pc := 1) dX0_countOf_1 rfl rfl ?_
  refine cVK_1 (pc := 2) dX0_countOf_2 hs (cw_X0_36 _ rfl) (by decide) rfl ⟨by decide, by decide⟩ (Nat.le_of_ble_eq_true rfl) (sp_X0_has (by first | (unfold inR; omega) | assumption) (fun hh1 => ?_) (fun hh2 => ?_))
  · skip
    refine kr_s ?_
    refine wq_if_eq (pc := 5) (tgt := 17) dX0_countOf_5 (by decide) (by first | (unfold inR; omega) | assumption) (fun c => absurd c (by decide)) (fun _ => ?_)
    refine wq_aload_n (pc := 8) dX0_countOf_8 rfl rfl ?_
    refine wq_getS (pc := 9) dX0_countOf_9 hs (gf_X0_21 _ rfl) rfl rfl rfl rfl rfl ?_
    refine wq_iload_n (pc := 12) dX0_countOf_12 rfl rfl ?_
    refine wq_ialdK (pc := 13) dX0_countOf_13 hs rfl (by omega) (by omega) ?_
    refine wq_goto (pc := 14) (tgt := 18) dX0_countOf_14 (by decide) ?_
    refine wq_iret (pc := 18) dX0_countOf_18 rfl ?_
    first | exact h | exact h rfl | exact h (by omega) | exact h1 (by omega) | exact h2 (by omega) | exact h3 (by omega) | exact h4 (by omega)
  · skip
    refine kr_s ?_
    refine wq_if_eq (pc := 5) (tgt := 17) dX0_countOf_5 (by decide) (by first | (unfold inR; omega) | assumption) (fun _ => ?_) (fun c => absurd c (by decide))
    refine wq_iconst (pc := 17) dX0_countOf_17 ?_
    refine wq_iret (pc := 18) dX0_countOf_18 rfl ?_
    first | exact h | exact h rfl | exact h (by omega) | exact h1 (by omega) | exact h2 (by omega) | exact h3 (by omega) | exact h4 (by omega)
theorem sq_X0_countOf {μ : nMem} {ε : nEnv} {Q : nOut → nMem → nEnv → Prop} {b : Int} (hs : SkP skC ε) (r1 : 0 ≤ b ∧ b < 8) (h : Q (.inl (some (vI (μ 5 b)))) μ ε) : Sp mX0_countOf [vR 2, vI b] μ ε Q := sp_X0_countOf hs (by unfold inR; omega) (fun _ => h) (fun q => absurd r1 q)
theorem sp_X0_row {μ : nMem} {ε : nEnv} {Q : nOut → nMem → nEnv → Prop} {i : Int} (hs : SkP skC ε) (r1 : inR i) (h : Q (.inl (some (vR (nRow μ i)))) μ ε) : Sp mX0_row [vR 2, vI i] μ ε Q := by
  refine Sp_of (L := [(0, vR 2), (1, vI i)]) (by decide) rfl rfl (Nat.le_of_ble_eq_true rfl) ?_
  unfold nRow at h
  refine wq_iload_n (pc := 0) dX0_row_0 rfl rfl ?_
  refine wq_if_lt (pc := 1) (tgt := 22) dX0_row_1 (by decide) (by first | (unfold inR; omega) | assumption) (fun c1 => ?_) (fun c1 => ?_)
  · skip
    refine wq_null (pc := 22) dX0_row_22 ?_
    refine wq_astore_n (pc := 23) (L' := [(2, _), (0, _), (1, _)]) dX0_row_23 rfl rfl (by decide) ?_
    refine wq_aload_n (pc := 24) dX0_row_24 rfl rfl ?_
    refine wq_ifnonnull (pc := 25) (tgt := 35) dX0_row_25 (by decide) (fun c => absurd rfl c) (fun _ => ?_)
    refine wq_aload_n (pc := 28) dX0_row_28 rfl rfl ?_
    refine wq_getS (pc := 29) dX0_row_29 hs (gf_X0_28 _ rfl) rfl rfl rfl rfl rfl ?_
    refine wq_goto (pc := 32) (tgt := 36) dX0_row_32 (by decide) ?_
    refine wq_aret (pc := 36) dX0_row_36 rfl ?_
    first | (rw [if_pos (by omega)] at h; exact h) | (rw [if_neg (by omega)] at h; exact h)
  · skip
    refine wq_iload_n (pc := 4) dX0_row_4 rfl rfl ?_
    refine wq_aload_n (pc := 5) dX0_row_5 rfl rfl ?_
    refine wq_getS (pc := 6) dX0_row_6 hs (gf_X0_11 _ rfl) rfl rfl rfl rfl rfl ?_
    refine wq_alenK (pc := 9) dX0_row_9 hs rfl rfl ?_
    refine wq_icmp_ge (pc := 10) (tgt := 22) dX0_row_10 (by decide) (by first | (unfold inR; omega) | assumption) (by first | (unfold inR; omega) | assumption) (fun c3 => ?_) (fun c3 => ?_)
    · skip
      refine wq_null (pc := 22) dX0_row_22 ?_
      refine wq_astore_n (pc := 23) (L' := [(2, _), (0, _), (1, _)]) dX0_row_23 rfl rfl (by decide) ?_
      refine wq_aload_n (pc := 24) dX0_row_24 rfl rfl ?_
      refine wq_ifnonnull (pc := 25) (tgt := 35) dX0_row_25 (by decide) (fun c => absurd rfl c) (fun _ => ?_)
      refine wq_aload_n (pc := 28) dX0_row_28 rfl rfl ?_
      refine wq_getS (pc := 29) dX0_row_29 hs (gf_X0_28 _ rfl) rfl rfl rfl rfl rfl ?_
      refine wq_goto (pc := 32) (tgt := 36) dX0_row_32 (by decide) ?_
      refine wq_aret (pc := 36) dX0_row_36 rfl ?_
      first | (rw [if_pos (by omega)] at h; exact h) | (rw [if_neg (by omega)] at h; exact h)
    · skip
      refine wq_aload_n (pc := 13) dX0_row_13 rfl rfl ?_
      refine wq_getS (pc := 14) dX0_row_14 hs (gf_X0_11 _ rfl) rfl rfl rfl rfl rfl ?_
      refine wq_iload_n (pc := 17) dX0_row_17 rfl rfl ?_
      refine wq_aaldNK (pc := 18) dX0_row_18 hs rfl (by omega) (by omega) ?_
      refine wq_goto (pc := 19) (tgt := 23) dX0_row_19 (by decide) ?_
      refine wq_astore_n (pc := 23) (L' := [(2, _), (0, _), (1, _)]) dX0_row_23 rfl rfl (by decide) ?_
      refine wq_aload_n (pc := 24) dX0_row_24 rfl rfl ?_
      refine wq_ifnonnull (pc := 25) (tgt := 35) dX0_row_25 (by decide)  (fun c5 => ?_) (fun c5 => ?_)
      · skip
        refine wq_aload_n (pc := 35) dX0_row_35 rfl rfl ?_
        refine wq_aret (pc := 36) dX0_row_36 rfl ?_
        first | (rw [if_pos (by omega)] at h; exact h) | (rw [if_neg (by omega)] at h; exact h)
      · skip
        refine wq_aload_n (pc := 28) dX0_row_28 rfl rfl ?_
        refine wq_getS (pc := 29) dX0_row_29 hs (gf_X0_28 _ rfl) rfl rfl rfl rfl rfl ?_
        refine wq_goto (pc := 32) (tgt := 36) dX0_row_32 (by decide) ?_
        refine wq_aret (pc := 36) dX0_row_36 rfl ?_
        first | (rw [if_pos (by omega)] at h; exact h) | (rw [if_neg (by omega)] at h; exact h)
theorem sp_X0_at {μ : nMem} {ε : nEnv} {Q : nOut → nMem → nEnv → Prop} {b p : Int} (hs : SkP skC ε) (r1 : inR b) (r2 : inR p) (h : Q (.inl (some (vR (nAtB μ b p)))) μ ε) : Sp mX0_at [vR 2, vI b, vI p] μ ε Q := by
  refine Sp_of (L := [(0, vR 2), (1, vI b), (2, vI p)]) (by decide) rfl rfl (Nat.le_of_ble_eq_true rfl) ?_
  unfold nAtB at h
  refine wq_aload_n (pc := 0) dX0_at_0 rfl rfl ?_
  refine wq_iload_n (pc := 1) dX0_at_1 rfl rfl ?_
  refine cVK_1 (pc := 2) dX0_at_2 hs (cw_X0_36 _ rfl) (by decide) rfl ⟨by decide, by decide⟩ (Nat.le_of_ble_eq_true rfl) (sp_X0_has (by first | (unfold inR; omega) | assumption) (fun hh1 => ?_) (fun hh2 => ?_))
  · skip
    refine kr_s ?_
    refine wq_if_eq (pc := 5) (tgt := 31) dX0_at_5 (by decide) (by first | (unfold inR; omega) | assumption) (fun c => absurd c (by decide)) (fun _ => ?_)
    refine wq_iload_n (pc := 8) dX0_at_8 rfl rfl ?_
    refine wq_if_lt (pc := 9) (tgt := 31) dX0_at_9 (by decide) (by first | (unfold inR; omega) | assumption) (fun c4 => ?_) (fun c4 => ?_)
    · skip
      refine wq_aload_n (pc := 31) dX0_at_31 rfl rfl ?_
      refine wq_getS (pc := 32) dX0_at_32 hs (gf_X0_28 _ rfl) rfl rfl rfl rfl rfl ?_
      refine wq_aret (pc := 35) dX0_at_35 rfl ?_
      first | (rw [if_pos (by omega)] at h; exact h) | (rw [if_neg (by omega)] at h; exact h)
    · skip
      refine wq_iload_n (pc := 12) dX0_at_12 rfl rfl ?_
      refine wq_bipush (pc := 13) dX0_at_13 (by decide) (by decide) ?_
      refine wq_icmp_ge (pc := 15) (tgt := 31) dX0_at_15 (by decide) (by first | (unfold inR; omega) | assumption) (by first | (unfold inR; omega) | assumption) (fun c5 => ?_) (fun c5 => ?_)
      · skip
        refine wq_aload_n (pc := 31) dX0_at_31 rfl rfl ?_
        refine wq_getS (pc := 32) dX0_at_32 hs (gf_X0_28 _ rfl) rfl rfl rfl rfl rfl ?_
        refine wq_aret (pc := 35) dX0_at_35 rfl ?_
        first | (rw [if_pos (by omega)] at h; exact h) | (rw [if_neg (by omega)] at h; exact h)
      · skip
        refine wq_aload_n (pc := 18) dX0_at_18 rfl rfl ?_
        refine wq_iload_n (pc := 19) dX0_at_19 rfl rfl ?_
        refine wq_bipush (pc := 20) dX0_at_20 (by decide) (by decide) ?_
        refine wq_imul (pc := 22) dX0_at_22 ?_
        refine wq_iload_n (pc := 23) dX0_at_23 rfl rfl ?_
        refine wq_iadd (pc := 24) dX0_at_24 ?_
        refine cVK_1 (pc := 25) dX0_at_25 hs (cw_X0_40 _ rfl) (by decide) rfl ⟨by decide, by decide⟩ (Nat.le_of_ble_eq_true rfl) (sp_X0_row hs (by first | (unfold inR; omega) | assumption) ?_)
        refine kr_s ?_
        refine wq_goto (pc := 28) (tgt := 35) dX0_at_28 (by decide) ?_
        refine wq_aret (pc := 35) dX0_at_35 rfl ?_
        first | (rw [if_pos (by omega)] at h; exact h) | (rw [if_neg (by omega)] at h; exact h)
  · skip
    refine kr_s ?_
    refine wq_if_eq (pc := 5) (tgt := 31) dX0_at_5 (by decide) (by first | (unfold inR; omega) | assumption) (fun _ => ?_) (fun c => absurd c (by decide))
    refine wq_aload_n (pc := 31) dX0_at_31 rfl rfl ?_
    refine wq_getS (pc := 32) dX0_at_32 hs (gf_X0_28 _ rfl) rfl rfl rfl rfl rfl ?_
    refine wq_aret (pc := 35) dX0_at_35 rfl ?_
    first | (rw [if_pos (by omega)] at h; exact h) | (rw [if_neg (by omega)] at h; exact h)
theorem sp_X0_newest {μ : nMem} {ε : nEnv} {Q : nOut → nMem → nEnv → Prop} {kd nb key below : Int} (hs : SkP skC ε) (hr : nRows μ ε) (r1 : inR kd) (r2 : inR nb) (r3 : -1000 ≤ key ∧ key ≤ 2147483647) (r4 : inR below) (h : Q (.inl (some (vR (fNewest μ kd nb key below 128)))) μ ε) : Sp mX0_newest [vR 2, vI kd, vI nb, vI key, vI below] μ ε Q := by
  refine Sp_of (L := [(0, vR 2), (1, vI kd), (2, vI nb), (3, vI key), (4, vI below)]) (by decide) rfl rfl (Nat.le_of_ble_eq_true rfl) ?_
  refine wq_null (pc := 0) dX0_newest_0 ?_
  refine wq_astore (pc := 1) (L' := [(5, _), (0, _), (1, _), (2, _), (3, _), (4, _)]) dX0_newest_1 rfl (by decide) ?_
  refine wq_iconst (pc := 3) dX0_newest_3 ?_
  refine wq_istore (pc := 4) (L' := [(6, _), (5, _), (0, _), (1, _), (2, _), (3, _), (4, _)]) dX0_newest_4 rfl (by decide) ?_
  have loop1 : ∀ (n k : Nat), ∀ (i best : Int), k ≤ 128 → 128 < k + n → i = (k : Int) → best = fNewest μ kd nb key below k → wp mX0_newest 6 [(0, vR 2), (1, vI kd), (2, vI nb), (3, vI key), (4, vI below), (5, vR best), (6, vI i)] [] μ ε Q := by
    intro n
    induction n with
    | zero => intro k i best hk1 hk2 e0 e1; exact absurd hk2 (by omega)
    | succ n ih =>
      intro k i best hk1 hk2 e0 e1
      subst e0
      have hb : best = 0 ∨ (eKind ε best = 5 ∧ nB μ best) := by
        rw [e1]
        rcases fNewest_ok (μ := μ) kd nb key below k with h9 | ⟨j, h9⟩
        · exact Or.inl h9
        · exact Or.inr (by rw [h9]; exact ⟨nRow_kd hs hr j, nRow_nB hr j⟩)
      obtain ⟨b0, b1, b2, b3, b4, b5, b6, b9, b10, b11, b12, b13⟩ := nRow_nB hr (k : Int)
      refine wq_iload (pc := 6) dX0_newest_6 rfl ?_
      refine wq_aload_n (pc := 8) dX0_newest_8 rfl rfl ?_
      refine wq_getS (pc := 9) dX0_newest_9 hs (gf_X0_11 _ rfl) rfl rfl rfl rfl rfl ?_
      refine wq_alenK (pc := 12) dX0_newest_12 hs rfl rfl ?_
      refine wq_icmp_ge (pc := 13) (tgt := 81) dX0_newest_13 (by decide) (by first | (unfold inR; omega) | assumption) (by first | (unfold inR; omega) | assumption) (fun c2 => ?_) (fun c2 => ?_)
      · skip
        refine wq_aload (pc := 81) dX0_newest_81 rfl ?_
        refine wq_aret (pc := 83) dX0_newest_83 rfl ?_
        rw [show k = 128 by omega] at e1; rw [e1]; exact h
      · skip
        refine wq_aload_n (pc := 16) dX0_newest_16 rfl rfl ?_
        refine wq_iload (pc := 17) dX0_newest_17 rfl ?_
        refine cVK_1 (pc := 19) dX0_newest_19 hs (cw_X0_40 _ rfl) (by decide) rfl ⟨by decide, by decide⟩ (Nat.le_of_ble_eq_true rfl) (sp_X0_row hs (by first | (unfold inR; omega) | assumption) ?_)
        refine kr_s ?_
        refine wq_astore (pc := 22) (L' := [(7, _), (0, _), (1, _), (2, _), (3, _), (4, _), (5, _), (6, _)]) dX0_newest_22 rfl (by decide) ?_
        refine wq_aload (pc := 24) dX0_newest_24 rfl ?_
        refine wq_iload_n (pc := 26) dX0_newest_26 rfl rfl ?_
        refine wq_iload_n (pc := 27) dX0_newest_27 rfl rfl ?_
        refine cV_2 (pc := 28) dX0_newest_28 (cw_X0_44 _ rfl) (by decide) (by first | with_reducible assumption | with_reducible exact nRow_kd hs hr _) ⟨by decide, by decide⟩ (Nat.le_of_ble_eq_true rfl) (sp_X4_tells (by first | with_reducible assumption | with_reducible exact nRow_kd hs hr _) (by first | with_reducible assumption | with_reducible exact nRow_nB hr _) (by first | (unfold inR; omega) | assumption) (by first | (unfold inR; omega) | assumption) (fun ht3 => ?_) (fun ht4 => ?_))
        · skip
          refine kr_s ?_
          refine wq_if_eq (pc := 31) (tgt := 75) dX0_newest_31 (by decide) (by first | (unfold inR; omega) | assumption) (fun c => absurd c (by decide)) (fun _ => ?_)
          refine wq_aload (pc := 34) dX0_newest_34 rfl ?_
          refine wq_getI (pc := 36) (kk := 4) dX0_newest_36 (gf_X0_48 _ rfl) (by first | with_reducible assumption | with_reducible exact nRow_kd hs hr _) rfl rfl rfl ?_
          refine wq_iload (pc := 39) dX0_newest_39 rfl ?_
          refine wq_icmp_ge (pc := 41) (tgt := 75) dX0_newest_41 (by decide) (by first | (unfold inR; omega) | assumption) (by first | (unfold inR; omega) | assumption) (fun c6 => ?_) (fun c6 => ?_)
          · skip
            refine wq_iinc (pc := 75) (L' := [(6, _), (7, _), (0, _), (1, _), (2, _), (3, _), (4, _), (5, _)]) dX0_newest_75 rfl rfl (by decide) ?_
            refine wq_goto (pc := 78) (tgt := 6) dX0_newest_78 (by decide) ?_
            refine wq_sub1 (L' := [(0, _), (1, _), (2, _), (3, _), (4, _), (5, _), (6, _)]) ⟨rfl, rfl, rfl, rfl, rfl, rfl, rfl, trivial⟩ ?_
            refine ih (k + 1) _ _ (by omega) (by omega) (by omega) ?_
            rw [fNewest_s, ← e1]
            first | rw [if_pos (by omega)] | (rw [if_neg (by omega)]; done) | (rw [if_neg (by omega)]; exact e1)
          · skip
            refine wq_aload (pc := 44) dX0_newest_44 rfl ?_
            refine wq_iload_n (pc := 46) dX0_newest_46 rfl rfl ?_
            refine cV_1 (pc := 47) dX0_newest_47 (cw_X0_51 _ rfl) (by decide) (by first | with_reducible assumption | with_reducible exact nRow_kd hs hr _) ⟨by decide, by decide⟩ (Nat.le_of_ble_eq_true rfl) (sp_X4_settles (by first | with_reducible assumption | with_reducible exact nRow_kd hs hr _) (by first | with_reducible assumption | with_reducible exact nRow_nB hr _) (by omega) (fun hse7 => ?_) (fun hse8 => ?_))
            · skip
              refine kr_s ?_
              refine wq_if_eq (pc := 50) (tgt := 75) dX0_newest_50 (by decide) (by first | (unfold inR; omega) | assumption) (fun c => absurd c (by decide)) (fun _ => ?_)
              refine wq_aload (pc := 53) dX0_newest_53 rfl ?_
              refine wq_ifnull (pc := 55) (tgt := 71) dX0_newest_55 (by decide)  (fun c10 => ?_) (fun c10 => ?_)
              · skip
                refine wq_aload (pc := 71) dX0_newest_71 rfl ?_
                refine wq_astore (pc := 73) (L' := [(5, _), (7, _), (0, _), (1, _), (2, _), (3, _), (4, _), (6, _)]) dX0_newest_73 rfl (by decide) ?_
                refine wq_iinc (pc := 75) (L' := [(6, _), (5, _), (7, _), (0, _), (1, _), (2, _), (3, _), (4, _)]) dX0_newest_75 rfl rfl (by decide) ?_
                refine wq_goto (pc := 78) (tgt := 6) dX0_newest_78 (by decide) ?_
                refine wq_sub1 (L' := [(0, _), (1, _), (2, _), (3, _), (4, _), (5, _), (6, _)]) ⟨rfl, rfl, rfl, rfl, rfl, rfl, rfl, trivial⟩ ?_
                refine ih (k + 1) _ _ (by omega) (by omega) (by omega) ?_
                rw [fNewest_s, ← e1]
                first | rw [if_pos (by omega)] | (rw [if_neg (by omega)]; done) | (rw [if_neg (by omega)]; exact e1)
              · skip
                obtain ⟨kb, nb9⟩ := hb.resolve_left c10
                obtain ⟨a0, a1, a2, a3, a4, a5, a6, a9, a10, a11, a12, a13⟩ := id nb9
                refine wq_aload (pc := 58) dX0_newest_58 rfl ?_
                refine wq_getI (pc := 60) (kk := 4) dX0_newest_60 (gf_X0_48 _ rfl) (by first | with_reducible assumption | with_reducible exact nRow_kd hs hr _) rfl rfl rfl ?_
                refine wq_aload (pc := 63) dX0_newest_63 rfl ?_
                refine wq_getI (pc := 65) (kk := 4) dX0_newest_65 (gf_X0_48 _ rfl) (by first | with_reducible assumption | with_reducible exact nRow_kd hs hr _) rfl rfl rfl ?_
                refine wq_icmp_le (pc := 68) (tgt := 75) dX0_newest_68 (by decide) (by first | (unfold inR; omega) | assumption) (by first | (unfold inR; omega) | assumption) (fun c11 => ?_) (fun c11 => ?_)
                · skip
                  refine wq_iinc (pc := 75) (L' := [(6, _), (7, _), (0, _), (1, _), (2, _), (3, _), (4, _), (5, _)]) dX0_newest_75 rfl rfl (by decide) ?_
                  refine wq_goto (pc := 78) (tgt := 6) dX0_newest_78 (by decide) ?_
                  refine wq_sub1 (L' := [(0, _), (1, _), (2, _), (3, _), (4, _), (5, _), (6, _)]) ⟨rfl, rfl, rfl, rfl, rfl, rfl, rfl, trivial⟩ ?_
                  refine ih (k + 1) _ _ (by omega) (by omega) (by omega) ?_
                  rw [fNewest_s, ← e1]
                  first | rw [if_pos (by omega)] | (rw [if_neg (by omega)]; done) | (rw [if_neg (by omega)]; exact e1)
                · skip
                  refine wq_aload (pc := 71) dX0_newest_71 rfl ?_
                  refine wq_astore (pc := 73) (L' := [(5, _), (7, _), (0, _), (1, _), (2, _), (3, _), (4, _), (6, _)]) dX0_newest_73 rfl (by decide) ?_
                  refine wq_iinc (pc := 75) (L' := [(6, _), (5, _), (7, _), (0, _), (1, _), (2, _), (3, _), (4, _)]) dX0_newest_75 rfl rfl (by decide) ?_
                  refine wq_goto (pc := 78) (tgt := 6) dX0_newest_78 (by decide) ?_
                  refine wq_sub1 (L' := [(0, _), (1, _), (2, _), (3, _), (4, _), (5, _), (6, _)]) ⟨rfl, rfl, rfl, rfl, rfl, rfl, rfl, trivial⟩ ?_
                  refine ih (k + 1) _ _ (by omega) (by omega) (by omega) ?_
                  rw [fNewest_s, ← e1]
                  first | rw [if_pos (by omega)] | (rw [if_neg (by omega)]; done) | (rw [if_neg (by omega)]; exact e1)
            · skip
              refine kr_s ?_
              refine wq_if_eq (pc := 50) (tgt := 75) dX0_newest_50 (by decide) (by first | (unfold inR; omega) | assumption) (fun _ => ?_) (fun c => absurd c (by decide))
              refine wq_iinc (pc := 75) (L' := [(6, _), (7, _), (0, _), (1, _), (2, _), (3, _), (4, _), (5, _)]) dX0_newest_75 rfl rfl (by decide) ?_
              refine wq_goto (pc := 78) (tgt := 6) dX0_newest_78 (by decide) ?_
              refine wq_sub1 (L' := [(0, _), (1, _), (2, _), (3, _), (4, _), (5, _), (6, _)]) ⟨rfl, rfl, rfl, rfl, rfl, rfl, rfl, trivial⟩ ?_
              refine ih (k + 1) _ _ (by omega) (by omega) (by omega) ?_
              rw [fNewest_s, ← e1]
              first | rw [if_pos (by omega)] | (rw [if_neg (by omega)]; done) | (rw [if_neg (by omega)]; exact e1)
        · skip
          refine kr_s ?_
          refine wq_if_eq (pc := 31) (tgt := 75) dX0_newest_31 (by decide) (by first | (unfold inR; omega) | assumption) (fun _ => ?_) (fun c => absurd c (by decide))
          refine wq_iinc (pc := 75) (L' := [(6, _), (7, _), (0, _), (1, _), (2, _), (3, _), (4, _), (5, _)]) dX0_newest_75 rfl rfl (by decide) ?_
          refine wq_goto (pc := 78) (tgt := 6) dX0_newest_78 (by decide) ?_
          refine wq_sub1 (L' := [(0, _), (1, _), (2, _), (3, _), (4, _), (5, _), (6, _)]) ⟨rfl, rfl, rfl, rfl, rfl, rfl, rfl, trivial⟩ ?_
          refine ih (k + 1) _ _ (by omega) (by omega) (by omega) ?_
          rw [fNewest_s, ← e1]
          first | rw [if_pos (by omega)] | (rw [if_neg (by omega)]; done) | (rw [if_neg (by omega)]; exact e1)
  refine wq_sub1 (L' := [(0, _), (1, _), (2, _), (3, _), (4, _), (5, _), (6, _)]) ⟨rfl, rfl, rfl, rfl, rfl, rfl, rfl, trivial⟩ ?_
  exact loop1 129 0 _ _ (by omega) (by omega) (by omega) rfl
theorem sp_X0_nextData {μ : nMem} {ε : nEnv} {Q : nOut → nMem → nEnv → Prop} {f above : Int} (hs : SkP skC ε) (hr : nRows μ ε) (r1 : inR f) (r2 : inR above) (h : Q (.inl (some (vR (fNextD μ f above 128)))) μ ε) : Sp mX0_nextData [vR 2, vI f, vI above] μ ε Q := by
  refine Sp_of (L := [(0, vR 2), (1, vI f), (2, vI above)]) (by decide) rfl rfl (Nat.le_of_ble_eq_true rfl) ?_
  refine wq_null (pc := 0) dX0_nextData_0 ?_
  refine wq_astore_n (pc := 1) (L' := [(3, _), (0, _), (1, _), (2, _)]) dX0_nextData_1 rfl rfl (by decide) ?_
  refine wq_iconst (pc := 2) dX0_nextData_2 ?_
  refine wq_istore (pc := 3) (L' := [(4, _), (3, _), (0, _), (1, _), (2, _)]) dX0_nextData_3 rfl (by decide) ?_
  have loop1 : ∀ (n k : Nat), ∀ (i best : Int), k ≤ 128 → 128 < k + n → i = (k : Int) → best = fNextD μ f above k → wp mX0_nextData 5 [(0, vR 2), (1, vI f), (2, vI above), (3, vR best), (4, vI i)] [] μ ε Q := by
    intro n
    induction n with
    | zero => intro k i best hk1 hk2 e0 e1; exact absurd hk2 (by omega)
    | succ n ih =>
      intro k i best hk1 hk2 e0 e1
      subst e0
      have hb : best = 0 ∨ (eKind ε best = 5 ∧ nB μ best) := by
        rw [e1]
        rcases fNextD_ok (μ := μ) f above k with h9 | ⟨j, h9⟩
        · exact Or.inl h9
        · exact Or.inr (by rw [h9]; exact ⟨nRow_kd hs hr j, nRow_nB hr j⟩)
      obtain ⟨b0, b1, b2, b3, b4, b5, b6, b9, b10, b11, b12, b13⟩ := nRow_nB hr (k : Int)
      refine wq_iload (pc := 5) dX0_nextData_5 rfl ?_
      refine wq_aload_n (pc := 7) dX0_nextData_7 rfl rfl ?_
      refine wq_getS (pc := 8) dX0_nextData_8 hs (gf_X0_11 _ rfl) rfl rfl rfl rfl rfl ?_
      refine wq_alenK (pc := 11) dX0_nextData_11 hs rfl rfl ?_
      refine wq_icmp_ge (pc := 12) (tgt := 67) dX0_nextData_12 (by decide) (by first | (unfold inR; omega) | assumption) (by first | (unfold inR; omega) | assumption) (fun c2 => ?_) (fun c2 => ?_)
      · skip
        refine wq_aload_n (pc := 67) dX0_nextData_67 rfl rfl ?_
        refine wq_aret (pc := 68) dX0_nextData_68 rfl ?_
        rw [show k = 128 by omega] at e1; rw [e1]; exact h
      · skip
        refine wq_aload_n (pc := 15) dX0_nextData_15 rfl rfl ?_
        refine wq_iload (pc := 16) dX0_nextData_16 rfl ?_
        refine cVK_1 (pc := 18) dX0_nextData_18 hs (cw_X0_40 _ rfl) (by decide) rfl ⟨by decide, by decide⟩ (Nat.le_of_ble_eq_true rfl) (sp_X0_row hs (by first | (unfold inR; omega) | assumption) ?_)
        refine kr_s ?_
        refine wq_astore (pc := 21) (L' := [(5, _), (0, _), (1, _), (2, _), (3, _), (4, _)]) dX0_nextData_21 rfl (by decide) ?_
        refine wq_aload (pc := 23) dX0_nextData_23 rfl ?_
        refine wq_iconst (pc := 25) dX0_nextData_25 ?_
        refine wq_iload_n (pc := 26) dX0_nextData_26 rfl rfl ?_
        refine cV_2 (pc := 27) dX0_nextData_27 (cw_X0_44 _ rfl) (by decide) (by first | with_reducible assumption | with_reducible exact nRow_kd hs hr _) ⟨by decide, by decide⟩ (Nat.le_of_ble_eq_true rfl) (sp_X4_tells (by first | with_reducible assumption | with_reducible exact nRow_kd hs hr _) (by first | with_reducible assumption | with_reducible exact nRow_nB hr _) (by first | (unfold inR; omega) | assumption) (by first | (unfold inR; omega) | assumption) (fun ht3 => ?_) (fun ht4 => ?_))
        · skip
          refine kr_s ?_
          refine wq_if_eq (pc := 30) (tgt := 61) dX0_nextData_30 (by decide) (by first | (unfold inR; omega) | assumption) (fun c => absurd c (by decide)) (fun _ => ?_)
          refine wq_aload (pc := 33) dX0_nextData_33 rfl ?_
          refine wq_getI (pc := 35) (kk := 4) dX0_nextData_35 (gf_X0_48 _ rfl) (by first | with_reducible assumption | with_reducible exact nRow_kd hs hr _) rfl rfl rfl ?_
          refine wq_iload_n (pc := 38) dX0_nextData_38 rfl rfl ?_
          refine wq_icmp_le (pc := 39) (tgt := 61) dX0_nextData_39 (by decide) (by first | (unfold inR; omega) | assumption) (by first | (unfold inR; omega) | assumption) (fun c6 => ?_) (fun c6 => ?_)
          · skip
            refine wq_iinc (pc := 61) (L' := [(4, _), (5, _), (0, _), (1, _), (2, _), (3, _)]) dX0_nextData_61 rfl rfl (by decide) ?_
            refine wq_goto (pc := 64) (tgt := 5) dX0_nextData_64 (by decide) ?_
            refine wq_sub1 (L' := [(0, _), (1, _), (2, _), (3, _), (4, _)]) ⟨rfl, rfl, rfl, rfl, rfl, trivial⟩ ?_
            refine ih (k + 1) _ _ (by omega) (by omega) (by omega) ?_
            rw [fNextD_s, ← e1]
            first | rw [if_pos (by omega)] | (rw [if_neg (by omega)]; done) | (rw [if_neg (by omega)]; exact e1)
          · skip
            refine wq_aload_n (pc := 42) dX0_nextData_42 rfl rfl ?_
            refine wq_ifnull (pc := 43) (tgt := 58) dX0_nextData_43 (by decide)  (fun c7 => ?_) (fun c7 => ?_)
            · skip
              refine wq_aload (pc := 58) dX0_nextData_58 rfl ?_
              refine wq_astore_n (pc := 60) (L' := [(3, _), (5, _), (0, _), (1, _), (2, _), (4, _)]) dX0_nextData_60 rfl rfl (by decide) ?_
              refine wq_iinc (pc := 61) (L' := [(4, _), (3, _), (5, _), (0, _), (1, _), (2, _)]) dX0_nextData_61 rfl rfl (by decide) ?_
              refine wq_goto (pc := 64) (tgt := 5) dX0_nextData_64 (by decide) ?_
              refine wq_sub1 (L' := [(0, _), (1, _), (2, _), (3, _), (4, _)]) ⟨rfl, rfl, rfl, rfl, rfl, trivial⟩ ?_
              refine ih (k + 1) _ _ (by omega) (by omega) (by omega) ?_
              rw [fNextD_s, ← e1]
              first | rw [if_pos (by omega)] | (rw [if_neg (by omega)]; done) | (rw [if_neg (by omega)]; exact e1)
            · skip
              obtain ⟨kb, nb9⟩ := hb.resolve_left c7
              obtain ⟨a0, a1, a2, a3, a4, a5, a6, a9, a10, a11, a12, a13⟩ := id nb9
              refine wq_aload (pc := 46) dX0_nextData_46 rfl ?_
              refine wq_getI (pc := 48) (kk := 4) dX0_nextData_48 (gf_X0_48 _ rfl) (by first | with_reducible assumption | with_reducible exact nRow_kd hs hr _) rfl rfl rfl ?_
              refine wq_aload_n (pc := 51) dX0_nextData_51 rfl rfl ?_
              refine wq_getI (pc := 52) (kk := 4) dX0_nextData_52 (gf_X0_48 _ rfl) (by first | with_reducible assumption | with_reducible exact nRow_kd hs hr _) rfl rfl rfl ?_
              refine wq_icmp_ge (pc := 55) (tgt := 61) dX0_nextData_55 (by decide) (by first | (unfold inR; omega) | assumption) (by first | (unfold inR; omega) | assumption) (fun c8 => ?_) (fun c8 => ?_)
              · skip
                refine wq_iinc (pc := 61) (L' := [(4, _), (5, _), (0, _), (1, _), (2, _), (3, _)]) dX0_nextData_61 rfl rfl (by decide) ?_
                refine wq_goto (pc := 64) (tgt := 5) dX0_nextData_64 (by decide) ?_
                refine wq_sub1 (L' := [(0, _), (1, _), (2, _), (3, _), (4, _)]) ⟨rfl, rfl, rfl, rfl, rfl, trivial⟩ ?_
                refine ih (k + 1) _ _ (by omega) (by omega) (by omega) ?_
                rw [fNextD_s, ← e1]
                first | rw [if_pos (by omega)] | (rw [if_neg (by omega)]; done) | (rw [if_neg (by omega)]; exact e1)
              · skip
                refine wq_aload (pc := 58) dX0_nextData_58 rfl ?_
                refine wq_astore_n (pc := 60) (L' := [(3, _), (5, _), (0, _), (1, _), (2, _), (4, _)]) dX0_nextData_60 rfl rfl (by decide) ?_
                refine wq_iinc (pc := 61) (L' := [(4, _), (3, _), (5, _), (0, _), (1, _), (2, _)]) dX0_nextData_61 rfl rfl (by decide) ?_
                refine wq_goto (pc := 64) (tgt := 5) dX0_nextData_64 (by decide) ?_
                refine wq_sub1 (L' := [(0, _), (1, _), (2, _), (3, _), (4, _)]) ⟨rfl, rfl, rfl, rfl, rfl, trivial⟩ ?_
                refine ih (k + 1) _ _ (by omega) (by omega) (by omega) ?_
                rw [fNextD_s, ← e1]
                first | rw [if_pos (by omega)] | (rw [if_neg (by omega)]; done) | (rw [if_neg (by omega)]; exact e1)
        · skip
          refine kr_s ?_
          refine wq_if_eq (pc := 30) (tgt := 61) dX0_nextData_30 (by decide) (by first | (unfold inR; omega) | assumption) (fun _ => ?_) (fun c => absurd c (by decide))
          refine wq_iinc (pc := 61) (L' := [(4, _), (5, _), (0, _), (1, _), (2, _), (3, _)]) dX0_nextData_61 rfl rfl (by decide) ?_
          refine wq_goto (pc := 64) (tgt := 5) dX0_nextData_64 (by decide) ?_
          refine wq_sub1 (L' := [(0, _), (1, _), (2, _), (3, _), (4, _)]) ⟨rfl, rfl, rfl, rfl, rfl, trivial⟩ ?_
          refine ih (k + 1) _ _ (by omega) (by omega) (by omega) ?_
          rw [fNextD_s, ← e1]
          first | rw [if_pos (by omega)] | (rw [if_neg (by omega)]; done) | (rw [if_neg (by omega)]; exact e1)
  refine wq_sub1 (L' := [(0, _), (1, _), (2, _), (3, _), (4, _)]) ⟨rfl, rfl, rfl, rfl, rfl, trivial⟩ ?_
  exact loop1 129 0 _ _ (by omega) (by omega) (by omega) rfl
theorem sp_X0_settledByNewer {μ : nMem} {ε : nEnv} {Q : nOut → nMem → nEnv → Prop} {o : Int} (hs : SkP skC ε) (hr : nRows μ ε) (hk : eKind ε o = 5) (hb2 : nB μ o) (h : Q (.inl (some (vJ (fSetN μ o 128)))) μ ε) : Sp mX0_settledByNewer [vR 2, vR o] μ ε Q := by
  refine Sp_of (L := [(0, vR 2), (1, vR o)]) (by decide) rfl rfl (Nat.le_of_ble_eq_true rfl) ?_
  obtain ⟨d0, d1, d2, d3, d4, d5, d6, d9, d10, d11, d12, d13⟩ := id hb2
  refine wq_lconst (pc := 0) (v := 0) dX0_settledByNewer_0 rfl ?_
  refine wq_lstore_n (pc := 1) (L' := [(2, _), (0, _), (1, _)]) dX0_settledByNewer_1 rfl rfl (by decide) ?_
  refine wq_iconst (pc := 2) dX0_settledByNewer_2 ?_
  refine wq_istore (pc := 3) (L' := [(4, _), (2, _), (0, _), (1, _)]) dX0_settledByNewer_3 rfl (by decide) ?_
  have loop1 : ∀ (n k : Nat), ∀ (i ps : Int), k ≤ 128 → 128 < k + n → i = (k : Int) → ps = fSetN μ o k → wp mX0_settledByNewer 5 [(0, vR 2), (1, vR o), (2, vJ ps), (4, vI i)] [] μ ε Q := by
    intro n
    induction n with
    | zero => intro k i ps hk1 hk2 e0 e1; exact absurd hk2 (by omega)
    | succ n ih =>
      intro k i ps hk1 hk2 e0 e1
      subst e0
      obtain ⟨b0, b1, b2, b3, b4, b5, b6, b9, b10, b11, b12, b13⟩ := nRow_nB hr (k : Int)
      refine wq_iload (pc := 5) dX0_settledByNewer_5 rfl ?_
      refine wq_aload_n (pc := 7) dX0_settledByNewer_7 rfl rfl ?_
      refine wq_getS (pc := 8) dX0_settledByNewer_8 hs (gf_X0_11 _ rfl) rfl rfl rfl rfl rfl ?_
      refine wq_alenK (pc := 11) dX0_settledByNewer_11 hs rfl rfl ?_
      refine wq_icmp_ge (pc := 12) (tgt := 62) dX0_settledByNewer_12 (by decide) (by first | (unfold inR; omega) | assumption) (by first | (unfold inR; omega) | assumption) (fun c2 => ?_) (fun c2 => ?_)
      · skip
        refine wq_lload_n (pc := 62) dX0_settledByNewer_62 rfl rfl ?_
        refine wq_lret (pc := 63) dX0_settledByNewer_63 rfl ?_
        rw [show k = 128 by omega] at e1; rw [e1]; exact h
      · skip
        refine wq_aload_n (pc := 15) dX0_settledByNewer_15 rfl rfl ?_
        refine wq_iload (pc := 16) dX0_settledByNewer_16 rfl ?_
        refine cVK_1 (pc := 18) dX0_settledByNewer_18 hs (cw_X0_40 _ rfl) (by decide) rfl ⟨by decide, by decide⟩ (Nat.le_of_ble_eq_true rfl) (sp_X0_row hs (by first | (unfold inR; omega) | assumption) ?_)
        refine kr_s ?_
        refine wq_astore (pc := 21) (L' := [(5, _), (0, _), (1, _), (2, _), (4, _)]) dX0_settledByNewer_21 rfl (by decide) ?_
        refine wq_aload (pc := 23) dX0_settledByNewer_23 rfl ?_
        refine wq_iconst (pc := 25) dX0_settledByNewer_25 ?_
        refine wq_aload_n (pc := 26) dX0_settledByNewer_26 rfl rfl ?_
        refine wq_getI (pc := 27) (kk := 3) dX0_settledByNewer_27 (gf_X0_54 _ rfl) (by first | with_reducible assumption | with_reducible exact nRow_kd hs hr _) rfl rfl rfl ?_
        refine cV_2 (pc := 30) dX0_settledByNewer_30 (cw_X0_44 _ rfl) (by decide) (by first | with_reducible assumption | with_reducible exact nRow_kd hs hr _) ⟨by decide, by decide⟩ (Nat.le_of_ble_eq_true rfl) (sp_X4_tells (by first | with_reducible assumption | with_reducible exact nRow_kd hs hr _) (by first | with_reducible assumption | with_reducible exact nRow_nB hr _) (by first | (unfold inR; omega) | assumption) (by first | (unfold inR; omega) | assumption) (fun ht3 => ?_) (fun ht4 => ?_))
        · skip
          refine kr_s ?_
          refine wq_if_eq (pc := 33) (tgt := 56) dX0_settledByNewer_33 (by decide) (by first | (unfold inR; omega) | assumption) (fun c => absurd c (by decide)) (fun _ => ?_)
          refine wq_aload (pc := 36) dX0_settledByNewer_36 rfl ?_
          refine wq_getI (pc := 38) (kk := 4) dX0_settledByNewer_38 (gf_X0_48 _ rfl) (by first | with_reducible assumption | with_reducible exact nRow_kd hs hr _) rfl rfl rfl ?_
          refine wq_aload_n (pc := 41) dX0_settledByNewer_41 rfl rfl ?_
          refine wq_getI (pc := 42) (kk := 4) dX0_settledByNewer_42 (gf_X0_48 _ rfl) (by first | with_reducible assumption | with_reducible exact nRow_kd hs hr _) rfl rfl rfl ?_
          refine wq_icmp_le (pc := 45) (tgt := 56) dX0_settledByNewer_45 (by decide) (by first | (unfold inR; omega) | assumption) (by first | (unfold inR; omega) | assumption) (fun c6 => ?_) (fun c6 => ?_)
          · skip
            refine wq_iinc (pc := 56) (L' := [(4, _), (5, _), (0, _), (1, _), (2, _)]) dX0_settledByNewer_56 rfl rfl (by decide) ?_
            refine wq_goto (pc := 59) (tgt := 5) dX0_settledByNewer_59 (by decide) ?_
            refine wq_sub1 (L' := [(0, _), (1, _), (2, _), (4, _)]) ⟨rfl, rfl, rfl, rfl, trivial⟩ ?_
            refine ih (k + 1) _ _ (by omega) (by omega) (by omega) ?_
            rw [fSetN_s, ← e1]
            first | rw [if_pos (by omega)] | (rw [if_neg (by omega)]; done) | (rw [if_neg (by omega)]; exact e1)
          · skip
            refine wq_lload_n (pc := 48) dX0_settledByNewer_48 rfl rfl ?_
            refine wq_aload (pc := 49) dX0_settledByNewer_49 rfl ?_
            refine cV_0 (pc := 51) dX0_settledByNewer_51 (cw_X0_57 _ rfl) (by decide) (by first | with_reducible assumption | with_reducible exact nRow_kd hs hr _) ⟨by decide, by decide⟩ (Nat.le_of_ble_eq_true rfl) (sp_X4_settledPlaces (by first | with_reducible assumption | with_reducible exact nRow_kd hs hr _) (by first | with_reducible assumption | with_reducible exact nRow_nB hr _) ?_)
            refine kr_s ?_
            refine wq_lor (pc := 54) dX0_settledByNewer_54 ?_
            refine wq_lstore_n (pc := 55) (L' := [(2, _), (5, _), (0, _), (1, _), (4, _)]) dX0_settledByNewer_55 rfl rfl (by decide) ?_
            refine wq_iinc (pc := 56) (L' := [(4, _), (2, _), (5, _), (0, _), (1, _)]) dX0_settledByNewer_56 rfl rfl (by decide) ?_
            refine wq_goto (pc := 59) (tgt := 5) dX0_settledByNewer_59 (by decide) ?_
            refine wq_sub1 (L' := [(0, _), (1, _), (2, _), (4, _)]) ⟨rfl, rfl, rfl, rfl, trivial⟩ ?_
            refine ih (k + 1) _ _ (by omega) (by omega) (by omega) ?_
            rw [fSetN_s, ← e1]
            first | rw [if_pos (by omega)] | (rw [if_neg (by omega)]; done) | (rw [if_neg (by omega)]; exact e1)
        · skip
          refine kr_s ?_
          refine wq_if_eq (pc := 33) (tgt := 56) dX0_settledByNewer_33 (by decide) (by first | (unfold inR; omega) | assumption) (fun _ => ?_) (fun c => absurd c (by decide))
          refine wq_iinc (pc := 56) (L' := [(4, _), (5, _), (0, _), (1, _), (2, _)]) dX0_settledByNewer_56 rfl rfl (by decide) ?_
          refine wq_goto (pc := 59) (tgt := 5) dX0_settledByNewer_59 (by decide) ?_
          refine wq_sub1 (L' := [(0, _), (1, _), (2, _), (4, _)]) ⟨rfl, rfl, rfl, rfl, trivial⟩ ?_
          refine ih (k + 1) _ _ (by omega) (by omega) (by omega) ?_
          rw [fSetN_s, ← e1]
          first | rw [if_pos (by omega)] | (rw [if_neg (by omega)]; done) | (rw [if_neg (by omega)]; exact e1)
  refine wq_sub1 (L' := [(0, _), (1, _), (2, _), (4, _)]) ⟨rfl, rfl, rfl, rfl, trivial⟩ ?_
  exact loop1 129 0 _ _ (by omega) (by omega) (by omega) rfl
theorem sp_X0_firstCopy {μ : nMem} {ε : nEnv} {Q : nOut → nMem → nEnv → Prop} {o : Int} (hs : SkP skC ε) (hr : nRows μ ε) (hk : eKind ε o = 5) (hb2 : nB μ o) (h : Q (.inl (some (vR (fCopy μ o 128)))) μ ε) : Sp mX0_firstCopy [vR 2, vR o] μ ε Q := by
  refine Sp_of (L := [(0, vR 2), (1, vR o)]) (by decide) rfl rfl (Nat.le_of_ble_eq_true rfl) ?_
  refine wq_iconst (pc := 0) dX0_firstCopy_0 ?_
  refine wq_istore_n (pc := 1) (L' := [(2, _), (0, _), (1, _)]) dX0_firstCopy_1 rfl rfl (by decide) ?_
  have loop1 : ∀ (n k : Nat), ∀ (i : Int), k ≤ 128 → 128 < k + n → i = (k : Int) → Q (.inl (some (vR (fCopy μ o (128 - k))))) μ ε → wp mX0_firstCopy 2 [(0, vR 2), (1, vR o), (2, vI i)] [] μ ε Q := by
    intro n
    induction n with
    | zero => intro k i hk1 hk2 e0 e1; exact absurd hk2 (by omega)
    | succ n ih =>
      intro k i hk1 hk2 e0 e1
      subst e0
      have e2 : k < 128 → Q (.inl (some (vR (if nCopy μ (nRow μ k) o then nRow μ k else fCopy μ o (127 - k))))) μ ε := fun q => by
        rw [show 128 - k = (127 - k) + 1 by omega, fCopy_s, show (127 : Int) - ((127 - k : Nat) : Int) = (k : Int) by omega] at e1
        exact e1
      refine wq_iload_n (pc := 2) dX0_firstCopy_2 rfl rfl ?_
      refine wq_aload_n (pc := 3) dX0_firstCopy_3 rfl rfl ?_
      refine wq_getS (pc := 4) dX0_firstCopy_4 hs (gf_X0_11 _ rfl) rfl rfl rfl rfl rfl ?_
      refine wq_alenK (pc := 7) dX0_firstCopy_7 hs rfl rfl ?_
      refine wq_icmp_ge (pc := 8) (tgt := 33) dX0_firstCopy_8 (by decide) (by first | (unfold inR; omega) | assumption) (by first | (unfold inR; omega) | assumption) (fun c2 => ?_) (fun c2 => ?_)
      · skip
        refine wq_null (pc := 33) dX0_firstCopy_33 ?_
        refine wq_aret (pc := 34) dX0_firstCopy_34 rfl ?_
        first | (have e3 := e2 (by omega); rw [if_pos (by assumption)] at e3; exact e3) | (rw [show 128 - k = 0 by omega] at e1; exact e1)
      · skip
        refine wq_aload_n (pc := 11) dX0_firstCopy_11 rfl rfl ?_
        refine wq_iload_n (pc := 12) dX0_firstCopy_12 rfl rfl ?_
        refine cVK_1 (pc := 13) dX0_firstCopy_13 hs (cw_X0_40 _ rfl) (by decide) rfl ⟨by decide, by decide⟩ (Nat.le_of_ble_eq_true rfl) (sp_X0_row hs (by first | (unfold inR; omega) | assumption) ?_)
        refine kr_s ?_
        refine wq_astore_n (pc := 16) (L' := [(3, _), (0, _), (1, _), (2, _)]) dX0_firstCopy_16 rfl rfl (by decide) ?_
        refine wq_aload_n (pc := 17) dX0_firstCopy_17 rfl rfl ?_
        refine wq_aload_n (pc := 18) dX0_firstCopy_18 rfl rfl ?_
        refine cV_1 (pc := 19) dX0_firstCopy_19 (cw_X0_61 _ rfl) (by decide) (by first | with_reducible assumption | with_reducible exact nRow_kd hs hr _) ⟨by decide, by decide⟩ (Nat.le_of_ble_eq_true rfl) (sp_X4_isCopyOf (by first | with_reducible assumption | with_reducible exact nRow_kd hs hr _) (by first | with_reducible assumption | with_reducible exact nRow_nB hr _) (by first | with_reducible assumption | with_reducible exact nRow_kd hs hr _) (by first | with_reducible assumption | with_reducible exact nRow_nB hr _) (fun hc3 => ?_) (fun hc4 => ?_))
        · skip
          refine kr_s ?_
          refine wq_if_eq (pc := 22) (tgt := 27) dX0_firstCopy_22 (by decide) (by first | (unfold inR; omega) | assumption) (fun c => absurd c (by decide)) (fun _ => ?_)
          refine wq_aload_n (pc := 25) dX0_firstCopy_25 rfl rfl ?_
          refine wq_aret (pc := 26) dX0_firstCopy_26 rfl ?_
          first | (have e3 := e2 (by omega); rw [if_pos (by assumption)] at e3; exact e3) | (rw [show 128 - k = 0 by omega] at e1; exact e1)
        · skip
          refine kr_s ?_
          refine wq_if_eq (pc := 22) (tgt := 27) dX0_firstCopy_22 (by decide) (by first | (unfold inR; omega) | assumption) (fun _ => ?_) (fun c => absurd c (by decide))
          refine wq_iinc (pc := 27) (L' := [(2, _), (3, _), (0, _), (1, _)]) dX0_firstCopy_27 rfl rfl (by decide) ?_
          refine wq_goto (pc := 30) (tgt := 2) dX0_firstCopy_30 (by decide) ?_
          refine wq_sub1 (L' := [(0, _), (1, _), (2, _)]) ⟨rfl, rfl, rfl, trivial⟩ ?_
          refine ih (k + 1) _ (by omega) (by omega) (by omega) ?_
          have e3 := e2 (by omega)
          rw [if_neg (by assumption)] at e3
          rw [show 128 - (k + 1) = 127 - k by omega]
          exact e3
  refine wq_sub1 (L' := [(0, _), (1, _), (2, _)]) ⟨rfl, rfl, rfl, trivial⟩ ?_
  exact loop1 129 0 _ (by omega) (by omega) (by omega) h
theorem sp_X0_spend {μ : nMem} {ε : nEnv} {Q : nOut → nMem → nEnv → Prop}  (hs : SkP skC ε) (r1 : -1 ≤ μ 2 5 ∧ μ 2 5 ≤ 1000) (h1 : μ 2 5 = 0 → Q (.inl (some (vI 0))) (wr (wr μ 2 5 (-1)) 2 6 1) ε) (h2 : 0 < μ 2 5 → Q (.inl (some (vI 1))) (wr μ 2 5 (μ 2 5 - 1)) ε) (h3 : μ 2 5 = -1 → Q (.inl (some (vI 1))) μ ε) : Sp mX0_spend [vR 2] μ ε Q := by
  refine Sp_of (L := [(0, vR 2)]) (by decide) rfl rfl (Nat.le_of_ble_eq_true rfl) ?_
  refine wq_aload_n (pc := 0) dX0_spend_0 rfl rfl ?_
  refine wq_getIK (pc := 1) (kk := 5) dX0_spend_1 hs (gf_X0_32 _ rfl) rfl rfl rfl rfl ?_
  refine wq_if_ne (pc := 4) (tgt := 19) dX0_spend_4 (by decide) (by first | (unfold inR; omega) | assumption) (fun c1 => ?_) (fun c1 => ?_)
  · skip
    refine wq_aload_n (pc := 19) dX0_spend_19 rfl rfl ?_
    refine wq_getIK (pc := 20) (kk := 5) dX0_spend_20 hs (gf_X0_32 _ rfl) rfl rfl rfl rfl ?_
    refine wq_if_le (pc := 23) (tgt := 36) dX0_spend_23 (by decide) (by first | (unfold inR; omega) | assumption) (fun c2 => ?_) (fun c2 => ?_)
    · skip
      refine wq_iconst (pc := 36) dX0_spend_36 ?_
      refine wq_zret (pc := 37) dX0_spend_37 rfl (by first | omega | (simp; done) | assumption) ?_
      first | exact h | exact h rfl | exact h (by omega) | exact h1 (by omega) | exact h2 (by omega) | exact h3 (by omega) | exact h4 (by omega)
    · skip
      refine wq_aload_n (pc := 26) dX0_spend_26 rfl rfl ?_
      refine wq_dup (pc := 27) dX0_spend_27 rfl ?_
      refine wq_getIK (pc := 28) (kk := 5) dX0_spend_28 hs (gf_X0_32 _ rfl) rfl rfl rfl rfl ?_
      refine wq_iconst (pc := 31) dX0_spend_31 ?_
      refine wq_isub (pc := 32) dX0_spend_32 ?_
      refine wq_putIK (pc := 33) (kk := 5) dX0_spend_33 hs (gf_X0_32 _ rfl) rfl rfl rfl rfl rfl ?_
      refine wq_iconst (pc := 36) dX0_spend_36 ?_
      refine wq_zret (pc := 37) dX0_spend_37 rfl (by first | omega | (simp; done) | assumption) ?_
      first | exact h | exact h rfl | exact h (by omega) | exact h1 (by omega) | exact h2 (by omega) | exact h3 (by omega) | exact h4 (by omega)
  · skip
    refine wq_aload_n (pc := 7) dX0_spend_7 rfl rfl ?_
    refine wq_iconst (pc := 8) dX0_spend_8 ?_
    refine wq_putIK (pc := 9) (kk := 5) dX0_spend_9 hs (gf_X0_32 _ rfl) rfl rfl rfl rfl rfl ?_
    refine wq_aload_n (pc := 12) dX0_spend_12 rfl rfl ?_
    refine wq_iconst (pc := 13) dX0_spend_13 ?_
    refine wq_putZK (pc := 14) (kk := 6) dX0_spend_14 hs (gf_X0_65 _ rfl) rfl rfl rfl rfl rfl (by first | omega | (simp; done) | assumption) ?_
    refine wq_iconst (pc := 17) dX0_spend_17 ?_
    refine wq_zret (pc := 18) dX0_spend_18 rfl (by first | omega | (simp; done) | assumption) ?_
    first | exact h | exact h rfl | exact h (by omega) | exact h1 (by omega) | exact h2 (by omega) | exact h3 (by omega) | exact h4 (by omega)
