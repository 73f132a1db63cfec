/-! ### the start -/
theorem nVI : VI nF0 := fun b b0 b1 => by
  have h := vB_0 (F := nF0) (b := b) (fun p _ _ => nF0_W _) 16 (Nat.le_refl _)
  rw [h]
  exact ⟨by decide, fun _ => by show (0 : Int) + 1 ≤ 1 + 0; decide⟩
theorem nZI : ZI nF0 := fun b _ _ => by show (1 : Int) ≠ 0; decide
theorem nJA {X : nMem} (h0 : X 21 0 = 0) (h1 : X 21 1 = 0) : JA nF0 X := by
  unfold JA
  rw [h0, h1]
  have hT : ∀ d nm, TG nF0 d nm = 0 := fun d nm => by rw [nF0_TG]
  refine ⟨⟨fun i i0 i1 => by omega, fun d nm _ _ q => absurd (hT d nm) q, fun i j i0 i1 => by omega⟩, ⟨fun i i0 i1 => by omega, fun f hf => ?_, fun i j i0 i1 => by omega⟩⟩
  obtain ⟨d, nm, -, -, e, e0, -⟩ := hf
  exact absurd (e.symm.trans (hT d nm)) e0
theorem skM_of {ε : nEnv} (h1 : eKind ε 21 = 11 ∧ eLen ε 21 = 2) (h2 : eKind ε 22 = 11 ∧ eLen ε 22 = 60) (h3 : eKind ε 23 = 11 ∧ eLen ε 23 = 8) (h4 : eKind ε 24 = 11 ∧ eLen ε 24 = 8) (h5 : eKind ε 25 = 12 ∧ eLen ε 25 = 64) : SkP skM ε := fun x kd ln fs h _ => by
  obtain ⟨⟨x0, x1⟩, -⟩ := skM_k h
  have key : ∀ (kd' : Nat) (ln' : Int), skM x = some (kd', ln', []) → (eKind ε x = kd' ∧ eLen ε x = ln') → eKind ε x = kd ∧ eLen ε x = ln ∧ ∀ (k : Nat) (v : Int), fs[k]? = some v → v ≠ 0 → eFin ε x k = v := fun kd' ln' e q => by
    rw [e] at h
    injection h with h
    injection h with a b
    injection b with b c
    subst a; subst b; subst c
    exact ⟨q.1, q.2, fun k v z => by simp at z⟩
  obtain rfl | rfl | rfl | rfl | rfl : x = 21 ∨ x = 22 ∨ x = 23 ∨ x = 24 ∨ x = 25 := by omega
  · exact key 11 2 rfl h1
  · exact key 11 60 rfl h2
  · exact key 11 8 rfl h3
  · exact key 11 8 rfl h4
  · exact key 12 64 rfl h5
theorem lw_start {μ0 : nMem} {N : Int} {Q : nOut → nMem → nEnv → Prop} (hr : ∀ j, inR (μ0 (-1) j)) (h : ∀ X m e, ST N nA0 2 0 147000 X m e 0 → wpL 53 [(0, vR (-1)), (1, vR 1), (2, vR 21), (3, vR 22), (4, vR 23), (5, vR 24), (6, vR 25), (7, vI 1), (8, vI 0)] [] m e Q) : wpL 0 [(0, vR (-1))] [] μ0 (ε0 N) Q := by
  have c6 : (cTab 6).2.2 ≤ 50 := by decide
  have z0 : eSz (ε0 N) = 0 := rfl
  have l0 : eSl (ε0 N) = 0 := rfl
  refine wq_new (pc := 0) (ci := 6) dL_law_0 (by decide) rfl (kl_L_21 _ rfl) ki_6.1 ki_6.2 (by unfold nCAP nSCAP; omega) ?_
  have A1 := Am_i (ε0 N) (6 + 1) 0 (cTab 6).2.2
  have e1 : ((eSz (ε0 N) : Nat) : Int) + 1 = 1 := by rw [z0]; rfl
  generalize alF (ε0 N) (6 + 1) 0 (cTab 6).2.2 = ε1 at A1 ⊢
  unfold Am at A1
  rw [e1] at A1 ⊢
  have z1 : eSz ε1 = 1 := by rw [A1.1, z0]
  have l1 : eSl ε1 ≤ 50 := by have := A1.2.1; omega
  have g1 : ∀ j, zr μ0 1 (-1) j = μ0 (-1) j := fun j => by rw [zr_v, if_neg (by decide)]
  have g2 : eLen ε1 (-1) = N := by rw [A1.2.2.2.1, if_neg (by decide)]; rfl
  have k1 : eKind ε1 1 = 7 := by rw [A1.2.2.1, if_pos rfl]
  have k0 : ∀ x : Int, x ≠ 1 → eKind ε1 x = 0 := fun x hx => by rw [A1.2.2.1, if_neg hx]; rfl
  have n1 : eLen ε1 1 = 0 := by rw [A1.2.2.2.1, if_pos rfl]
  clear A1 e1
  generalize zr μ0 1 = m1 at g1 ⊢
  refine wq_dup (pc := 3) dL_law_3 rfl ?_
  refine lI_0 (pc := 4) dL_law_4 (cw_L_109 _ rfl) (by omega) ⟨by decide, by decide⟩ (Nat.le_of_ble_eq_true rfl) (sp_X6_init z1 (by omega) k1 n1 k0 (fun m20 ε20 h6 z20 l20 hm20 hn20 hm3 hm13 hkz => ?_))
  show wpL 7 _ _ _ _ _
  refine wq_astore_n (pc := 7) (L' := [(1, _), (0, _)]) dL_law_7 rfl rfl (by decide) ?_
  refine wq_iconst (pc := 8) dL_law_8 ?_
  refine wq_newI (pc := 9) dL_law_9 ka_int (by omega) (by omega) (by unfold nCAP nSCAP; omega) ?_
  have A21 := Am_i ε20 11 2 (2 : Int).toNat
  have E21 : ((eSz ε20 : Nat) : Int) + 1 = 21 := by rw [z20]; rfl
  have T21 : (2 : Int).toNat = 2 := rfl
  rw [T21] at A21 ⊢
  generalize alF ε20 11 2 2 = ε21 at A21 ⊢
  unfold Am at A21
  rw [E21] at A21 ⊢
  obtain ⟨y21, l21', K21, N21, V21⟩ := A21
  have z21 : eSz ε21 = 21 := by rw [y21, z20]
  have l21 : eSl ε21 ≤ eSl ε1 + 3002 := by omega
  have Z21 := zr_v m20 21
  generalize zr m20 21 = m21 at Z21 ⊢
  refine wq_astore_n (pc := 11) (L' := [(2, _), (1, _), (0, _)]) dL_law_11 rfl rfl (by decide) ?_
  refine wq_bipush (pc := 12) dL_law_12 (by decide) (by decide) ?_
  refine wq_newI (pc := 14) dL_law_14 ka_int (by omega) (by omega) (by unfold nCAP nSCAP; omega) ?_
  have A22 := Am_i ε21 11 60 (60 : Int).toNat
  have E22 : ((eSz ε21 : Nat) : Int) + 1 = 22 := by rw [z21]; rfl
  have T22 : (60 : Int).toNat = 60 := rfl
  rw [T22] at A22 ⊢
  generalize alF ε21 11 60 60 = ε22 at A22 ⊢
  unfold Am at A22
  rw [E22] at A22 ⊢
  obtain ⟨y22, l22', K22, N22, V22⟩ := A22
  have z22 : eSz ε22 = 22 := by rw [y22, z21]
  have l22 : eSl ε22 ≤ eSl ε1 + 3062 := by omega
  have Z22 := zr_v m21 22
  generalize zr m21 22 = m22 at Z22 ⊢
  refine wq_astore_n (pc := 16) (L' := [(3, _), (2, _), (1, _), (0, _)]) dL_law_16 rfl rfl (by decide) ?_
  refine wq_bipush (pc := 17) dL_law_17 (by decide) (by decide) ?_
  refine wq_newI (pc := 19) dL_law_19 ka_int (by omega) (by omega) (by unfold nCAP nSCAP; omega) ?_
  have A23 := Am_i ε22 11 8 (8 : Int).toNat
  have E23 : ((eSz ε22 : Nat) : Int) + 1 = 23 := by rw [z22]; rfl
  have T23 : (8 : Int).toNat = 8 := rfl
  rw [T23] at A23 ⊢
  generalize alF ε22 11 8 8 = ε23 at A23 ⊢
  unfold Am at A23
  rw [E23] at A23 ⊢
  obtain ⟨y23, l23', K23, N23, V23⟩ := A23
  have z23 : eSz ε23 = 23 := by rw [y23, z22]
  have l23 : eSl ε23 ≤ eSl ε1 + 3070 := by omega
  have Z23 := zr_v m22 23
  generalize zr m22 23 = m23 at Z23 ⊢
  refine wq_astore (pc := 21) (L' := [(4, _), (3, _), (2, _), (1, _), (0, _)]) dL_law_21 rfl (by decide) ?_
  refine wq_bipush (pc := 23) dL_law_23 (by decide) (by decide) ?_
  refine wq_newI (pc := 25) dL_law_25 ka_int (by omega) (by omega) (by unfold nCAP nSCAP; omega) ?_
  have A24 := Am_i ε23 11 8 (8 : Int).toNat
  have E24 : ((eSz ε23 : Nat) : Int) + 1 = 24 := by rw [z23]; rfl
  have T24 : (8 : Int).toNat = 8 := rfl
  rw [T24] at A24 ⊢
  generalize alF ε23 11 8 8 = ε24 at A24 ⊢
  unfold Am at A24
  rw [E24] at A24 ⊢
  obtain ⟨y24, l24', K24, N24, V24⟩ := A24
  have z24 : eSz ε24 = 24 := by rw [y24, z23]
  have l24 : eSl ε24 ≤ eSl ε1 + 3078 := by omega
  have Z24 := zr_v m23 24
  generalize zr m23 24 = m24 at Z24 ⊢
  refine wq_astore (pc := 27) (L' := [(5, _), (4, _), (3, _), (2, _), (1, _), (0, _)]) dL_law_27 rfl (by decide) ?_
  refine wq_bipush (pc := 29) dL_law_29 (by decide) (by decide) ?_
  refine wq_newJ (pc := 31) dL_law_31 ka_long (by omega) (by omega) (by unfold nCAP nSCAP; omega) ?_
  have A25 := Am_i ε24 12 64 (64 : Int).toNat
  have E25 : ((eSz ε24 : Nat) : Int) + 1 = 25 := by rw [z24]; rfl
  have T25 : (64 : Int).toNat = 64 := rfl
  rw [T25] at A25 ⊢
  generalize alF ε24 12 64 64 = ε25 at A25 ⊢
  unfold Am at A25
  rw [E25] at A25 ⊢
  obtain ⟨y25, l25', K25, N25, V25⟩ := A25
  have z25 : eSz ε25 = 25 := by rw [y25, z24]
  have l25 : eSl ε25 ≤ eSl ε1 + 3142 := by omega
  have Z25 := zr_v m24 25
  generalize zr m24 25 = m25 at Z25 ⊢
  refine wq_astore (pc := 33) (L' := [(6, _), (5, _), (4, _), (3, _), (2, _), (1, _), (0, _)]) dL_law_33 rfl (by decide) ?_
  have KK : ∀ x, x ≤ 20 → eKind ε25 x = eKind ε20 x := fun x hx => by rw [K25, if_neg (by omega), K24, if_neg (by omega), K23, if_neg (by omega), K22, if_neg (by omega), K21, if_neg (by omega)]
  have NN : ∀ x, x ≤ 20 → eLen ε25 x = eLen ε20 x := fun x hx => by rw [N25, if_neg (by omega), N24, if_neg (by omega), N23, if_neg (by omega), N22, if_neg (by omega), N21, if_neg (by omega)]
  have VV : ∀ x, x ≤ 20 → ∀ j, eFin ε25 x j = eFin ε20 x j := fun x hx j => by rw [V25, if_neg (by omega), V24, if_neg (by omega), V23, if_neg (by omega), V22, if_neg (by omega), V21, if_neg (by omega)]
  have ZZ : ∀ x, x ≤ 20 → ∀ j, m25 x j = m20 x j := fun x hx j => by rw [Z25, if_neg (by omega), Z24, if_neg (by omega), Z23, if_neg (by omega), Z22, if_neg (by omega), Z21, if_neg (by omega)]
  have M21 : ∀ j, m25 21 j = 0 := fun j => by rw [Z25, if_neg (by omega), Z24, if_neg (by omega), Z23, if_neg (by omega), Z22, if_neg (by omega), Z21, if_pos rfl]
  have M22 : ∀ j, m25 22 j = 0 := fun j => by rw [Z25, if_neg (by omega), Z24, if_neg (by omega), Z23, if_neg (by omega), Z22, if_pos rfl]
  have M23 : ∀ j, m25 23 j = 0 := fun j => by rw [Z25, if_neg (by omega), Z24, if_neg (by omega), Z23, if_pos rfl]
  have M24 : ∀ j, m25 24 j = 0 := fun j => by rw [Z25, if_neg (by omega), Z24, if_pos rfl]
  have hSk : SkP skM ε25 := by
    refine skM_of ⟨?_, ?_⟩ ⟨?_, ?_⟩ ⟨?_, ?_⟩ ⟨?_, ?_⟩ ⟨?_, ?_⟩
    · rw [K25, if_neg (by omega), K24, if_neg (by omega), K23, if_neg (by omega), K22, if_neg (by omega), K21, if_pos rfl]
    · rw [N25, if_neg (by omega), N24, if_neg (by omega), N23, if_neg (by omega), N22, if_neg (by omega), N21, if_pos rfl]
    · rw [K25, if_neg (by omega), K24, if_neg (by omega), K23, if_neg (by omega), K22, if_pos rfl]
    · rw [N25, if_neg (by omega), N24, if_neg (by omega), N23, if_neg (by omega), N22, if_pos rfl]
    · rw [K25, if_neg (by omega), K24, if_neg (by omega), K23, if_pos rfl]
    · rw [N25, if_neg (by omega), N24, if_neg (by omega), N23, if_pos rfl]
    · rw [K25, if_neg (by omega), K24, if_pos rfl]
    · rw [N25, if_neg (by omega), N24, if_pos rfl]
    · rw [K25, if_pos rfl]
    · rw [N25, if_pos rfl]
  have hMC : MC nA0 2 0 m25 ε25 := by
    refine MC_0 (C6_new h6 (fun x hx => ?_)) (by rw [(hSk 25 _ _ _ rfl (by decide)).1]; decide)
    have hx2 : x ≤ 20 := by
      rcases Int.lt_or_le 20 x with q | q
      · exact absurd (hkz x q) hx
      · exact q
    exact ⟨ZZ x hx2, KK x hx2, NN x hx2, fun k => VV x hx2 k⟩
  have n3 := nul_le (m25 3) 128
  have n13 := nul_le (m25 13) 129
  have hW : Wd N nA0 2 0 147900 m25 m25 ε25 := ⟨hMC, by unfold Cap; omega, hSk, fun _ _ _ => rfl, by rw [NN (-1) (by omega), hn20]; exact g2⟩
  have hr0 : inR 0 := by unfold inR; omega
  have hS : ST N nA0 2 0 (147000 + 900) m25 m25 ε25 0 := ⟨hW, ⟨nJA (M21 0) (M21 1), ⟨⟨by rw [M21]; omega, by rw [M21]; omega, fun j => by rw [M22]; exact hr0, fun j => by rw [M23]; exact hr0, fun j => by rw [M24]; exact hr0⟩, by rw [M21]; omega, by rw [M21]; omega⟩⟩, ⟨nVI, ZI_BI nZI⟩, Or.inl ⟨rfl, rfl, nZI⟩, fun j => by rw [ZZ (-1) (by omega), hm20, g1]; exact hr j⟩
  refine wq_sub1 (L' := [(0, _), (1, _), (2, _), (3, _), (4, _), (5, _), (6, _)]) ⟨rfl, rfl, rfl, rfl, rfl, rfl, rfl, trivial⟩ ?_
  exact lw_35 hS (by omega) (by omega) (fun m e q => h m25 m e q)
theorem law_all {L : Nat} (hL : L ≤ 260) (μ : nMem) (hr : ∀ j, inR (μ (-1) j)) : wpL 0 [(0, vR (-1))] [] μ (ε0 L) Qlaw :=
  lw_start hr (fun X m e q => lw_loop (N := L) (by omega) 120 0 nA0 X m e 0 rfl rfl (ST_t q (by omega) (by omega) (by omega) (by omega)))
