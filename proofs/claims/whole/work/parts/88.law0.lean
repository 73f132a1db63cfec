/-! ### the law's own text -/
def kontL (pc : Nat) (L : List (Nat × nV)) (st : List nV) (Q : nOut → nMem → nEnv → Prop) : nOut → nMem → nEnv → Prop := fun o μ ε => match o with
  | .inl (some r) => wpL pc L (r :: st) μ ε Q
  | .inl none => wpL pc L st μ ε Q
  | .inr _ => False
theorem wl_callI0 {M' : nM} {pc idx : Nat} {L : List (Nat × nV)} {rest : List nV} {μ : nMem} {ε : nEnv} {Q : nOut → nMem → nEnv → Prop} {x : Int} (hd : decode (mCode mL_law) pc = .ok (.invokespecial idx, 3)) (hw : cxI mL_law idx M' 0) (x1 : 1 ≤ x) (hfr : mFr M' + 1 ≤ mFr mL_law ∧ 8 + (mMax M' + 11) + mLo M' ≤ mLo mL_law) (hst8 : (rest.map nCat).sum ≤ 8) (h : Sp M' ([vR x]) μ ε (kontL (pc + 3) L rest Q)) : wpL pc L (vR x :: rest) μ ε Q :=
  wq_callI (as := []) hd hw x1 hfr hst8 h (fun r _ _ q => by cases r <;> exact q) (fun _ _ _ q => absurd q id)
theorem wl_callV0 {M' : nM} {pc idx ci : Nat} {L : List (Nat × nV)} {rest : List nV} {μ : nMem} {ε : nEnv} {Q : nOut → nMem → nEnv → Prop} {x : Int} (hd : decode (mCode mL_law) pc = .ok (.invokevirtual idx, 3)) (hw : cxV mL_law idx M' (cTab ci).1 0) (hci : ci < 8) (hk : eKind ε x = ci + 1) (hfr : mFr M' + 1 ≤ mFr mL_law ∧ 8 + (mMax M' + 11) + mLo M' ≤ mLo mL_law) (hst8 : (rest.map nCat).sum ≤ 8) (h : Sp M' ([vR x]) μ ε (kontL (pc + 3) L rest Q)) : wpL pc L (vR x :: rest) μ ε Q :=
  wq_callV (as := []) hd hw hci hk hfr hst8 h (fun r _ _ q => by cases r <;> exact q) (fun _ _ _ q => absurd q id)
/-- the reference's objects -/
def R7 (ε : nEnv) : Prop := (eKind ε 21 = 8 ∧ eLen ε 21 = 0) ∧ ∀ (i : Nat) (kd : Nat) (ln f : Int), i < 34 → mTab[i]? = some (kd, ln, f) → eKind ε (22 + i) = kd ∧ eLen ε (22 + i) = ln ∧ eFin ε 21 f = 22 + i
/-- where the law's loop begins -/
def St0 (μ0 : nMem) (N : Int) (μ : nMem) (ε : nEnv) : Prop := MC nA0 2 0 μ ε ∧ R7 ε ∧ (eKind ε 56 = 12 ∧ eLen ε 56 = 1) ∧ (∀ j, μ (-1) j = μ0 (-1) j) ∧ eLen ε (-1) = N ∧ Cap μ ε 600000 ∧
  (∀ x, 22 ≤ x → x ≤ 55 → x ≠ 35 → x ≠ 37 → ∀ j, μ x j = 0) ∧ (∀ b, 0 ≤ b → b < 8 → μ 35 b = 1 ∧ μ 37 b = b) ∧
  (μ 21 16 = 8 ∧ μ 21 17 = -1 ∧ μ 21 20 = -1 ∧ μ 21 22 = 2) ∧ ∀ j, j ≠ 16 → j ≠ 17 → j ≠ 20 → j ≠ 22 → μ 21 j = 0
theorem law_start {μ0 : nMem} {N : Int} {Q : nOut → nMem → nEnv → Prop} (h : ∀ μ ε, St0 μ0 N μ ε → wpL 23 [(4, vI 0), (3, vR 56), (2, vR 21), (1, vR 1), (0, vR (-1))] [] μ ε Q) : wpL 0 [(0, vR (-1))] [] μ0 (ε0 N) Q := by
  have c6 := cTn 6 (by decide)
  have c7 := cTn 7 (by decide)
  have z0 : eSz (ε0 N) = 0 := rfl
  have l0 : eSl (ε0 N) = 0 := rfl
  refine wq_new (pc := 0) (ci := 6) dL_law_0 (by decide) rfl (kl_L_8 _ rfl) ki_6.1 ki_6.2 (by unfold nCAP nSCAP; omega) ?_
  have A1 := Am_i (ε0 N) (6 + 1) 0 (cTab 6).2.2
  have e1 : ((eSz (ε0 N) : Nat) : Int) + 1 = 1 := by rw [z0]; rfl
  generalize alF (ε0 N) (6 + 1) 0 (cTab 6).2.2 = ε1 at A1 ⊢
  unfold Am at A1
  rw [e1] at A1 ⊢
  have z1 : eSz ε1 = 1 := by rw [A1.1, z0]
  have l1 : eSl ε1 ≤ 50 := by have := A1.2.1; omega
  have g1 : ∀ j, zr μ0 1 (-1) j = μ0 (-1) j := fun j => by rw [zr_v, if_neg (by decide)]
  have g2 : eLen ε1 (-1) = N := by rw [A1.2.2.2.1, if_neg (by decide)]; rfl
  have k1 : eKind ε1 1 = 7 := by rw [A1.2.2.1, if_pos rfl]
  have k0 : ∀ x : Int, x ≠ 1 → eKind ε1 x = 0 := fun x hx => by rw [A1.2.2.1, if_neg hx]; rfl
  have n1 : eLen ε1 1 = 0 := by rw [A1.2.2.2.1, if_pos rfl]
  clear A1 e1
  generalize zr μ0 1 = m1 at g1 ⊢
  refine wq_dup (pc := 3) dL_law_3 rfl ?_
  refine wl_callI0 (pc := 4) dL_law_4 (cw_L_94 _ rfl) (by omega) ⟨by decide, by decide⟩ (Nat.le_of_ble_eq_true rfl) (sp_X6_init z1 (by omega) k1 n1 k0 (fun m2 ε2 h6 z2 l2 hm1 hn1 hm3 hm13 hkz => ?_))
  show wpL 7 _ _ _ _ _
  refine wq_astore_n (pc := 7) (L' := [(1, _), (0, _)]) dL_law_7 rfl rfl (by decide) ?_
  refine wq_new (pc := 8) (ci := 7) dL_law_8 (by decide) rfl (kl_L_95 _ rfl) ki_7.1 ki_7.2 (by unfold nCAP nSCAP; omega) ?_
  have A3 := Am_i ε2 (7 + 1) 0 (cTab 7).2.2
  have e3 : ((eSz ε2 : Nat) : Int) + 1 = 21 := by rw [z2]; rfl
  generalize alF ε2 (7 + 1) 0 (cTab 7).2.2 = ε3 at A3 ⊢
  unfold Am at A3
  rw [e3] at A3 ⊢
  have z3 : eSz ε3 = 21 := by rw [A3.1, z2]
  have l3 : eSl ε3 ≤ 3100 := by have := A3.2.1; omega
  have k3 : eKind ε3 21 = 8 := by rw [A3.2.2.1, if_pos rfl]
  have Z3 := zr_v m2 21
  generalize zr m2 21 = m3 at Z3 ⊢
  refine wq_dup (pc := 11) dL_law_11 rfl ?_
  refine wl_callI0 (pc := 12) dL_law_12 (cw_L_97 _ rfl) (by omega) ⟨by decide, by decide⟩ (Nat.le_of_ble_eq_true rfl) (sp_X7_init z3 (by omega) k3 (fun m4 ε4 h7 => ?_))
  show wpL 15 _ _ _ _ _
  obtain ⟨z4, l4, t1, t2, t3, t4, t5, t6⟩ := h7
  refine wq_astore_n (pc := 15) (L' := [(2, _), (1, _), (0, _)]) dL_law_15 rfl rfl (by decide) ?_
  refine wq_iconst (pc := 16) dL_law_16 ?_
  refine wq_newJ (pc := 17) dL_law_17 ka_long (by omega) (by omega) (by unfold nCAP nSCAP; omega) ?_
  have A5 := Am_i ε4 12 1 (1 : Int).toNat
  have e5 : ((eSz ε4 : Nat) : Int) + 1 = 56 := by rw [z4]; rfl
  generalize alF ε4 12 1 (1 : Int).toNat = ε5 at A5 ⊢
  unfold Am at A5
  rw [e5] at A5 ⊢
  obtain ⟨z5, l5, K5, N5, V5⟩ := A5
  have Z5 := zr_v m4 56
  generalize zr m4 56 = m5 at Z5 ⊢
  refine wq_astore_n (pc := 19) (L' := [(3, _), (2, _), (1, _), (0, _)]) dL_law_19 rfl rfl (by decide) ?_
  refine wq_iconst (pc := 20) dL_law_20 ?_
  refine wq_istore (pc := 21) (L' := [(4, _), (3, _), (2, _), (1, _), (0, _)]) dL_law_21 rfl (by decide) ?_
  have mm : ∀ x, (x ≤ 20) → ∀ j, m5 x j = m2 x j := fun x hx j => by rw [Z5, if_neg (by omega), (t1 x (by omega)).1 (by omega), Z3, if_neg (by omega)]
  refine h _ _ ⟨?_, ⟨?_, fun i kd ln f hi hi2 => ?_⟩, ⟨?_, ?_⟩, fun j => ?_, ?_, ?_, fun x x0 x1 x2 x3 j => ?_, fun b b0 b1 => ?_, ?_, fun j j1 j2 j3 j4 => ?_⟩
  · refine MC_0 (C6_new h6 (fun x hx => ?_)) (by rw [K5, if_pos rfl]; decide)
    have hx2 : x ≤ 20 := by
      rcases Int.lt_or_le 20 x with q | q
      · exact absurd (hkz x q) hx
      · exact q
    have u := t1 x (by omega)
    exact ⟨mm x hx2, by rw [K5, if_neg (by omega), u.2.1, A3.2.2.1, if_neg (by omega)], by rw [N5, if_neg (by omega), u.2.2.1, A3.2.2.2.1, if_neg (by omega)], fun j => by rw [V5, if_neg (by omega), u.2.2.2 (by omega) j, A3.2.2.2.2, if_neg (by omega)]⟩
  · exact ⟨by rw [K5, if_neg (by decide), (t1 21 (by decide)).2.1]; exact k3, by rw [N5, if_neg (by decide), (t1 21 (by decide)).2.2.1, A3.2.2.2.1, if_pos rfl]⟩
  · obtain ⟨b1, b2, b3⟩ := t2 i kd ln f hi hi2
    exact ⟨by rw [K5, if_neg (by omega)]; exact b1, by rw [N5, if_neg (by omega)]; exact b2, by rw [V5, if_neg (by decide)]; exact b3⟩
  · rw [K5, if_pos rfl]
  · rw [N5, if_pos rfl]
  · rw [mm (-1) (by decide), hm1, g1]
  · rw [N5, if_neg (by decide), (t1 (-1) (by decide)).2.2.1, A3.2.2.2.1, if_neg (by decide), hn1]; exact g2
  · have n3 := nul_le (m5 3) 128
    have n13 := nul_le (m5 13) 129
    unfold Cap
    omega
  · rw [Z5, if_neg (by omega)]; exact t3 x x0 x1 x2 x3 j
  · rw [Z5, Z5, if_neg (by decide), if_neg (by decide)]; exact t4 b b0 b1
  · rw [Z5, Z5, Z5, Z5, if_neg (by decide)]; exact t5
  · rw [Z5, if_neg (by decide), t6 j j1 j2 j3 j4, Z3, if_pos rfl]
