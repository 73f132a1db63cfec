def E2 (ε ε9 : nEnv) : Prop := (eSz ε9 = 19 ∧ eSl ε9 ≤ eSl ε + 400) ∧ (∀ x, eKind ε9 x = if x = 18 then 15 else if x = 19 then 5 else eKind ε x) ∧ (∀ x, eLen ε9 x = if x = 18 then 16 else if x = 19 then 0 else eLen ε x) ∧ (∀ x j, eFin ε9 x j = if x = 17 ∧ j = 0 then 2 else if x = 17 ∧ j = 1 then 12 else if x = 17 ∧ j = 2 then 18 else if x = 17 ∧ j = 3 then 19 else if 18 ≤ x ∧ x ≤ 19 then 0 else eFin ε x j)
def M2 (μ μ9 : nMem) : Prop := (∀ x j, ¬ (18 ≤ x ∧ x ≤ 19) → μ9 x j = μ x j) ∧ (∀ x j, (x = 18 ∨ x = 19) → μ9 x j = 0)
theorem CT_kk {S : Tr} {μ m : nMem} {ε : nEnv} (hT : CT S μ ε) (h : ∀ x, eKind ε x ≠ 0 → ∀ j, m x j = μ x j) : CT S m ε := by
  obtain ⟨c1, c2, c3, c4, c5, c6, c7⟩ := id hT
  have k12 := (c1 12 6 0 _ rfl (by decide)).1
  have k13 := (c1 13 14 129 _ rfl (by decide)).1
  have m12 := h 12 (by rw [k12]; decide)
  have m13 := h 13 (by rw [k13]; decide)
  refine ⟨c1, by unfold nItems; simp only [m13]; exact c2, c3, c4, by rw [m12]; exact c5, by rw [m12]; exact c6, fun i hi => ?_⟩
  obtain ⟨d0, d1, d2, d3⟩ := c7 i hi
  obtain ⟨s1, s2, s3⟩ := c2.1 i (by omega) (by omega) d0
  rw [m13]
  have u := h (μ 13 i) (by rw [s1.1]; decide)
  have v := h (eFin ε (μ 13 i) 0) (by rw [s1.2.1]; decide)
  exact ⟨d0, by rw [u]; exact d1, fun k k0 k1 => by rw [u]; exact d2 k k0 k1, fun j j0 j1 => by rw [v]; exact d3 j j0 j1⟩
theorem sp_X2_init {μ : nMem} {ε : nEnv} {Q : nOut → nMem → nEnv → Prop}  (hz : eSz ε = 17) (hl : eSl ε ≤ 7000000) (hk17 : eKind ε 17 = 3) (h : ∀ μ9 ε9, E2 ε ε9 → M2 μ μ9 → Q (.inl none) μ9 ε9) : Sp mX2_init [vR 17, vR 2, vR 12] μ ε Q := by
  refine Sp_of (L := [(0, vR 17), (1, vR 2), (2, vR 12)]) (by decide) rfl rfl (Nat.le_of_ble_eq_true rfl) ?_
  refine wq_aload_n (pc := 0) dX2_init_0 rfl rfl ?_
  refine wq_oinit (pc := 1) dX2_init_1 (by omega) (co_X2_3 mX2_init rfl).1 (co_X2_3 mX2_init rfl).2.1 (co_X2_3 mX2_init rfl).2.2 (by decide) (by decide) (Nat.le_of_ble_eq_true rfl) ?_
  refine wq_aload_n (pc := 4) dX2_init_4 rfl rfl ?_
  refine wq_bipush (pc := 5) dX2_init_5 (by decide) (by decide) ?_
  refine wq_newQN (pc := 7) dX2_init_7 (kl_X2_9 _ rfl) kv_4 (by omega) (by omega) (by first | (unfold nCAP nSCAP; omega) | (rw [cT4]; unfold nCAP nSCAP; omega)) ?_
  refine wq_putF (pc := 10) (ci := 2) (k := 2) dX2_init_10 (by first | with_reducible assumption | (show (if (17 : Int) = _ then _ else _) = _; rw [if_neg (by omega)]; assumption)) (by decide) (by decide) (wOK_1 296 (by decide +kernel) (by decide +kernel)) rfl rfl rfl rfl (fun _ => ⟨by first | rfl | exact (putOK_O _ _ _).1 | exact (putOK_A _ _ _).1, by first | rfl | exact (putOK_O _ _ _).2 | exact (putOK_A _ _ _).2⟩) ?_
  have A1 := Al_i ε 15 16 (16 : Int).toNat 17 2
  have e1 : ((eSz ε : Nat) : Int) + 1 = 18 := by rw [hz]; rfl
  generalize wrF (alF ε 15 16 (16 : Int).toNat) 17 2 ((eSz ε : Int) + 1) = ε1 at A1 ⊢
  unfold Al at A1
  rw [e1] at A1 ⊢
  have z1 : eSz ε1 = 18 := by rw [A1.1, hz]
  have l1 := A1.2.1
  have hk17_1 : eKind ε1 17 = 3 := by rw [A1.2.2.1, if_neg (by decide)]; exact hk17
  refine wq_aload_n (pc := 13) dX2_init_13 rfl rfl ?_
  refine wq_new (pc := 14) (ci := 4) dX2_init_14 (by decide) rfl (kl_X2_9 _ rfl) ki_4.1 ki_4.2 (by first | (unfold nCAP nSCAP; omega) | (rw [cT4]; unfold nCAP nSCAP; omega)) ?_
  refine wq_dup (pc := 17) dX2_init_17 rfl ?_
  refine cI_0 (pc := 18) dX2_init_18 (cw_X2_17 _ rfl) (by omega) ⟨by decide, by decide⟩ (Nat.le_of_ble_eq_true rfl) (sp_X4_init (by omega) ?_)
  refine kr_v ?_
  refine wq_putF (pc := 21) (ci := 2) (k := 3) dX2_init_21 (by first | with_reducible assumption | (show (if (17 : Int) = _ then _ else _) = _; rw [if_neg (by omega)]; assumption)) (by decide) (by decide) (wOK_1 297 (by decide +kernel) (by decide +kernel)) rfl rfl rfl rfl (fun _ => ⟨by first | rfl | exact (putOK_O _ _ _).1 | exact (putOK_A _ _ _).1, by first | rfl | exact (putOK_O _ _ _).2 | exact (putOK_A _ _ _).2⟩) ?_
  have A2 := Al_i ε1 (4 + 1) 0 (cTab 4).2.2 17 3
  have e2 : ((eSz ε1 : Nat) : Int) + 1 = 19 := by rw [z1]; rfl
  generalize wrF (alF ε1 (4 + 1) 0 (cTab 4).2.2) 17 3 ((eSz ε1 : Int) + 1) = ε2 at A2 ⊢
  unfold Al at A2
  rw [e2] at A2 ⊢
  have z2 : eSz ε2 = 19 := by rw [A2.1, z1]
  have l2 := A2.2.1
  have hk17_2 : eKind ε2 17 = 3 := by rw [A2.2.2.1, if_neg (by decide)]; exact hk17_1
  rw [cT4] at l2
  refine wq_aload_n (pc := 24) dX2_init_24 rfl rfl ?_
  refine wq_aload_n (pc := 25) dX2_init_25 rfl rfl ?_
  refine wq_putF (pc := 26) (ci := 2) (k := 0) dX2_init_26 (by first | with_reducible assumption | (show (if (17 : Int) = _ then _ else _) = _; rw [if_neg (by omega)]; assumption)) (by decide) (by decide) (wOK_1 294 (by decide +kernel) (by decide +kernel)) rfl rfl rfl rfl (fun _ => ⟨by first | rfl | exact (putOK_O _ _ _).1 | exact (putOK_A _ _ _).1, by first | rfl | exact (putOK_O _ _ _).2 | exact (putOK_A _ _ _).2⟩) ?_
  have A3 := Aw_i ε2 17 0 2
  generalize wrF ε2 17 0 2 = ε3 at A3 ⊢
  unfold Aw at A3
  have z3 : eSz ε3 = 19 := by rw [A3.1, z2]
  have l3 := A3.2.1
  have hk17_3 : eKind ε3 17 = 3 := by rw [A3.2.2.1]; exact hk17_2
  refine wq_aload_n (pc := 29) dX2_init_29 rfl rfl ?_
  refine wq_aload_n (pc := 30) dX2_init_30 rfl rfl ?_
  refine wq_putF (pc := 31) (ci := 2) (k := 1) dX2_init_31 (by first | with_reducible assumption | (show (if (17 : Int) = _ then _ else _) = _; rw [if_neg (by omega)]; assumption)) (by decide) (by decide) (wOK_1 295 (by decide +kernel) (by decide +kernel)) rfl rfl rfl rfl (fun _ => ⟨by first | rfl | exact (putOK_O _ _ _).1 | exact (putOK_A _ _ _).1, by first | rfl | exact (putOK_O _ _ _).2 | exact (putOK_A _ _ _).2⟩) ?_
  have A4 := Aw_i ε3 17 1 12
  generalize wrF ε3 17 1 12 = ε4 at A4 ⊢
  unfold Aw at A4
  have z4 : eSz ε4 = 19 := by rw [A4.1, z3]
  have l4 := A4.2.1
  have hk17_4 : eKind ε4 17 = 3 := by rw [A4.2.2.1]; exact hk17_3
  refine wq_vret (pc := 34) dX2_init_34 rfl ?_
  refine h _ _ ⟨⟨z4, by omega⟩, fun x => ?_, fun x => ?_, fun x j => ?_⟩ ⟨fun x j h1 => by rw [zr_v, if_neg (by omega), zr_v, if_neg (by omega)], fun x j h1 => by simp only [zr_v]; (repeat' split) <;> first | rfl | omega⟩
  · rw [A4.2.2.1, A3.2.2.1, A2.2.2.1, A1.2.2.1]
    (repeat' split) <;> first | rfl | omega
  · rw [A4.2.2.2.1, A3.2.2.2.1, A2.2.2.2.1, A1.2.2.2.1]
    (repeat' split) <;> first | rfl | omega
  · rw [A4.2.2.2.2, A3.2.2.2.2, A2.2.2.2.2, A1.2.2.2.2]
    (repeat' split) <;> first | rfl | omega
theorem skC_of {ε : nEnv} (a1 : eKind ε 1 = 7) (b1 : eLen ε 1 = 0) (c1_0 : eFin ε 1 0 = 2) (c1_1 : eFin ε 1 1 = 8) (c1_2 : eFin ε 1 2 = 12) (c1_3 : eFin ε 1 3 = 17) (c1_4 : eFin ε 1 4 = 20) (a2 : eKind ε 2 = 1) (b2 : eLen ε 2 = 0) (c2_0 : eFin ε 2 0 = 3) (c2_1 : eFin ε 2 1 = 4) (c2_2 : eFin ε 2 2 = 5) (c2_3 : eFin ε 2 3 = 6) (c2_4 : eFin ε 2 4 = 7) (a3 : eKind ε 3 = 15) (b3 : eLen ε 3 = 128) (a4 : eKind ε 4 = 11) (b4 : eLen ε 4 = 8) (a5 : eKind ε 5 = 11) (b5 : eLen ε 5 = 8) (a6 : eKind ε 6 = 11) (b6 : eLen ε 6 = 8) (a7 : eKind ε 7 = 5) (b7 : eLen ε 7 = 0) (a8 : eKind ε 8 = 4) (b8 : eLen ε 8 = 0) (c8_0 : eFin ε 8 0 = 2) (c8_1 : eFin ε 8 1 = 9) (c8_2 : eFin ε 8 2 = 10) (c8_3 : eFin ε 8 3 = 11) (a9 : eKind ε 9 = 5) (b9 : eLen ε 9 = 0) (a10 : eKind ε 10 = 11) (b10 : eLen ε 10 = 8) (a11 : eKind ε 11 = 11) (b11 : eLen ε 11 = 8) (a12 : eKind ε 12 = 6) (b12 : eLen ε 12 = 0) (c12_0 : eFin ε 12 0 = 13) (c12_1 : eFin ε 12 1 = 14) (a13 : eKind ε 13 = 14) (b13 : eLen ε 13 = 129) (a14 : eKind ε 14 = 14) (b14 : eLen ε 14 = 129) (a17 : eKind ε 17 = 3) (b17 : eLen ε 17 = 0) (c17_0 : eFin ε 17 0 = 2) (c17_1 : eFin ε 17 1 = 12) (c17_2 : eFin ε 17 2 = 18) (c17_3 : eFin ε 17 3 = 19) (a18 : eKind ε 18 = 15) (b18 : eLen ε 18 = 16) (a19 : eKind ε 19 = 5) (b19 : eLen ε 19 = 0) (a20 : eKind ε 20 = 5) (b20 : eLen ε 20 = 0) : SkP skC ε := by
  intro x kd ln fs h hk
  cases x with
  | negSucc n => cases h
  | ofNat n =>
    match n, h with
    | 0, h => cases h; exact absurd rfl hk
    | 1, h =>
      cases h
      refine ⟨a1, b1, fun k v hv hv0 => ?_⟩
      match k, hv with
      | 0, hv => cases hv; exact c1_0
      | 1, hv => cases hv; exact c1_1
      | 2, hv => cases hv; exact c1_2
      | 3, hv => cases hv; exact c1_3
      | 4, hv => cases hv; exact c1_4
      | k + 5, hv => cases hv
    | 2, h =>
      cases h
      refine ⟨a2, b2, fun k v hv hv0 => ?_⟩
      match k, hv with
      | 0, hv => cases hv; exact c2_0
      | 1, hv => cases hv; exact c2_1
      | 2, hv => cases hv; exact c2_2
      | 3, hv => cases hv; exact c2_3
      | 4, hv => cases hv; exact c2_4
      | 5, hv => cases hv; exact absurd rfl hv0
      | 6, hv => cases hv; exact absurd rfl hv0
      | k + 7, hv => cases hv
    | 3, h => cases h; exact ⟨a3, b3, fun k v hv _ => by cases hv⟩
    | 4, h => cases h; exact ⟨a4, b4, fun k v hv _ => by cases hv⟩
    | 5, h => cases h; exact ⟨a5, b5, fun k v hv _ => by cases hv⟩
    | 6, h => cases h; exact ⟨a6, b6, fun k v hv _ => by cases hv⟩
    | 7, h => cases h; exact ⟨a7, b7, fun k v hv _ => by cases hv⟩
    | 8, h =>
      cases h
      refine ⟨a8, b8, fun k v hv hv0 => ?_⟩
      match k, hv with
      | 0, hv => cases hv; exact c8_0
      | 1, hv => cases hv; exact c8_1
      | 2, hv => cases hv; exact c8_2
      | 3, hv => cases hv; exact c8_3
      | 4, hv => cases hv; exact absurd rfl hv0
      | 5, hv => cases hv; exact absurd rfl hv0
      | 6, hv => cases hv; exact absurd rfl hv0
      | 7, hv => cases hv; exact absurd rfl hv0
      | 8, hv => cases hv; exact absurd rfl hv0
      | 9, hv => cases hv; exact absurd rfl hv0
      | k + 10, hv => cases hv
    | 9, h => cases h; exact ⟨a9, b9, fun k v hv _ => by cases hv⟩
    | 10, h => cases h; exact ⟨a10, b10, fun k v hv _ => by cases hv⟩
    | 11, h => cases h; exact ⟨a11, b11, fun k v hv _ => by cases hv⟩
    | 12, h =>
      cases h
      refine ⟨a12, b12, fun k v hv hv0 => ?_⟩
      match k, hv with
      | 0, hv => cases hv; exact c12_0
      | 1, hv => cases hv; exact c12_1
      | 2, hv => cases hv; exact absurd rfl hv0
      | 3, hv => cases hv; exact absurd rfl hv0
      | k + 4, hv => cases hv
    | 13, h => cases h; exact ⟨a13, b13, fun k v hv _ => by cases hv⟩
    | 14, h => cases h; exact ⟨a14, b14, fun k v hv _ => by cases hv⟩
    | 15, h => cases h; exact absurd rfl hk
    | 16, h => cases h; exact absurd rfl hk
    | 17, h =>
      cases h
      refine ⟨a17, b17, fun k v hv hv0 => ?_⟩
      match k, hv with
      | 0, hv => cases hv; exact c17_0
      | 1, hv => cases hv; exact c17_1
      | 2, hv => cases hv; exact c17_2
      | 3, hv => cases hv; exact c17_3
      | 4, hv => cases hv; exact absurd rfl hv0
      | k + 5, hv => cases hv
    | 18, h => cases h; exact ⟨a18, b18, fun k v hv _ => by cases hv⟩
    | 19, h => cases h; exact ⟨a19, b19, fun k v hv _ => by cases hv⟩
    | 20, h => cases h; exact ⟨a20, b20, fun k v hv _ => by cases hv⟩
    | n + 21, h => cases h
