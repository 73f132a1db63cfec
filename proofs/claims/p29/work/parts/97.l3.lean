/-! ### below a directory, by the law's own names -/
def rB (e : Int → Int) (n a x : Int) : Prop := ∀ P : Int → Prop, P a → (∀ i, 0 ≤ i → i < n → P (e (4 * i)) → e (4 * i + 3) = 1 → P (e (4 * i + 2))) → P x
/-- what has been found; of those ahead of kk all that lies in them, of the one at kk by the rows ahead of i -/
def IB2 (e : Int → Int) (n a d : Int) (al : Int → Int) (many kk i w : Int) : Prop :=
  ((1 ≤ many ∧ 0 ≤ kk ∧ kk ≤ many) ∧ al 0 = a ∧ (∀ j, 1 ≤ j → j < many → ∃ i, (0 ≤ i ∧ i < n) ∧ e (4 * i + 2) = al j)) ∧
  (∀ j, 0 ≤ j → j < many → rB e n a (al j)) ∧ (∀ j l, 0 ≤ j → j < many → 0 ≤ l → l < many → al j = al l → j = l) ∧
  (∀ j r, 0 ≤ j → j < many → 0 ≤ r → r < n → (j < kk ∨ (j = kk ∧ r < i)) → e (4 * r) = al j → e (4 * r + 3) = 1 → ∃ l, (0 ≤ l ∧ l < many) ∧ al l = e (4 * r + 2)) ∧
  ((w = 1 ∧ rB e n a d) ∨ (w = 0 ∧ ∀ j, 0 ≤ j → j < many → al j ≠ d))
theorem IB2_b {e : Int → Int} {n a d : Int} {al : Int → Int} {many kk i w : Int} (h : IB2 e n a d al many kk i w) (hn : 0 ≤ n) : 1 ≤ many ∧ many ≤ n + 1 := by
  obtain ⟨⟨⟨h1, -⟩, -, h3⟩, -, h5, -⟩ := h
  refine ⟨h1, ?_⟩
  have hnd : ((List.range (many - 1).toNat).map (fun k : Nat => al ((k : Int) + 1))).Nodup := by
    rw [List.nodup_iff_pairwise_ne, List.pairwise_map]
    refine List.Pairwise.imp_of_mem (fun {x y} hx hy hxy q => hxy ?_) ((List.nodup_iff_pairwise_ne.mp List.nodup_range))
    have hx := List.mem_range.mp hx
    have hy := List.mem_range.mp hy
    have := h5 ((x : Int) + 1) ((y : Int) + 1) (by omega) (by omega) (by omega) (by omega) q
    omega
  have := sub_len (r := (List.range n.toNat).map (fun k : Nat => e (4 * (k : Int) + 2))) hnd (fun q hq => by
    obtain ⟨k, hk, rfl⟩ := List.mem_map.mp hq
    have hk := List.mem_range.mp hk
    obtain ⟨i, i1, i2⟩ := h3 ((k : Int) + 1) (by omega) (by omega)
    refine List.mem_map.mpr ⟨i.toNat, List.mem_range.mpr (by omega), ?_⟩
    rw [show ((i.toNat : Nat) : Int) = i by omega]; exact i2)
  rw [List.length_map, List.length_map, List.length_range, List.length_range] at this
  omega
theorem IB2_r {e : Int → Int} {n a d : Int} {al : Int → Int} {many kk i w : Int} (h : IB2 e n a d al many kk i w) (he : ∀ j, inR (e j)) (ha : inR a) : ∀ j, 0 ≤ j → j < many → inR (al j) := fun j j0 j1 => by
  obtain ⟨⟨-, h2, h3⟩, -⟩ := h
  by_cases c : j = 0
  · rw [c, h2]; exact ha
  · obtain ⟨i, -, i2⟩ := h3 j (by omega) j1
    rw [← i2]; exact he _
theorem IB2_i (e : Int → Int) (n a d : Int) {al : Int → Int} {w : Int} (h0 : al 0 = a) (hw : (w = 1 ∧ d = a) ∨ (w = 0 ∧ d ≠ a)) : IB2 e n a d al 1 0 0 w := by
  have hj : ∀ j : Int, 0 ≤ j → j < 1 → al j = a := fun j j0 j1 => by rw [show j = 0 by omega]; exact h0
  refine ⟨⟨by omega, h0, fun j j0 j1 => by omega⟩, fun j j0 j1 => by rw [hj j j0 j1]; exact fun P p0 _ => p0, fun j l j0 j1 l0 l1 _ => by omega, fun j r j0 j1 r0 r1 q => by omega, ?_⟩
  rcases hw with ⟨x, y⟩ | ⟨x, y⟩
  · exact Or.inl ⟨x, by rw [y]; exact fun P p0 _ => p0⟩
  · exact Or.inr ⟨x, fun j j0 j1 => by rw [hj j j0 j1]; exact fun z => y z.symm⟩
theorem IB2_s {e : Int → Int} {n a d : Int} {al al' : Int → Int} {many many' kk i w w' b : Int} (h : IB2 e n a d al many kk i w) (hk : kk < many) (hi : 0 ≤ i ∧ i < n) (ha : ∀ j, al' j = if j = many then e (4 * i + 2) else al j)
    (hb : (b = 1 ∧ (e (4 * i) = al kk ∧ e (4 * i + 3) = 1) ∧ ∀ j, 0 ≤ j → j < many → al j ≠ e (4 * i + 2)) ∨ (b = 0 ∧ ¬ ((e (4 * i) = al kk ∧ e (4 * i + 3) = 1) ∧ ∀ j, 0 ≤ j → j < many → al j ≠ e (4 * i + 2))))
    (hm : many' = many + b) (hw : (w' = 1 ∧ (w ≠ 0 ∨ (b ≠ 0 ∧ e (4 * i + 2) = d))) ∨ (w' = 0 ∧ w = 0 ∧ ¬ (b ≠ 0 ∧ e (4 * i + 2) = d))) : IB2 e n a d al' many' kk (i + 1) w' := by
  obtain ⟨⟨h1, h2, h3⟩, h4, h5, h6, h7⟩ := h
  have old : ∀ j, 0 ≤ j → j < many → al' j = al j := fun j j0 j1 => by rw [ha, if_neg (by omega)]
  have hmb : many ≤ many' := by rcases hb with q | q <;> omega
  have w0 : w ≠ 0 → rB e n a d := fun q => by
    rcases h7 with z | z
    · exact z.2
    · exact absurd z.1 q
  rcases hb with ⟨b1, b2, b3⟩ | ⟨b1, b2⟩
  · have hl : many' = many + 1 := by omega
    have hnew : al' many = e (4 * i + 2) := by rw [ha, if_pos rfl]
    have hrB : rB e n a (e (4 * i + 2)) := fun P p0 p1 => p1 i hi.1 hi.2 (by rw [b2.1]; exact h4 kk (by omega) hk P p0 p1) b2.2
    refine ⟨⟨by omega, by rw [old 0 (by omega) (by omega)]; exact h2, fun j j0 j1 => ?_⟩, fun j j0 j1 => ?_, fun j l j0 j1 l0 l1 q => ?_, fun j r j0 j1 r0 r1 q q1 q2 => ?_, ?_⟩
    · by_cases c : j = many
      · exact ⟨i, hi, by rw [c, hnew]⟩
      · rw [old j (by omega) (by omega)]; exact h3 j j0 (by omega)
    · by_cases c : j = many
      · rw [c, hnew]; exact hrB
      · rw [old j j0 (by omega)]; exact h4 j j0 (by omega)
    · by_cases c : j = many
      · by_cases c2 : l = many
        · omega
        · rw [c, hnew, old l l0 (by omega)] at q
          exact absurd q.symm (b3 l l0 (by omega))
      · by_cases c2 : l = many
        · rw [c2, hnew, old j j0 (by omega)] at q
          exact absurd q (b3 j j0 (by omega))
        · rw [old j j0 (by omega), old l l0 (by omega)] at q
          exact h5 j l j0 (by omega) l0 (by omega) q
    · have c : j ≠ many := by omega
      rw [old j j0 (by omega)] at q1
      by_cases z : j = kk ∧ r = i
      · exact ⟨many, ⟨by omega, by omega⟩, by rw [hnew, z.2]⟩
      · obtain ⟨l, l1, l2⟩ := h6 j r j0 (by omega) r0 r1 (by omega) q1 q2
        exact ⟨l, ⟨l1.1, by omega⟩, by rw [old l l1.1 l1.2]; exact l2⟩
    · rcases hw with ⟨x, y⟩ | ⟨x, y, z⟩
      · refine Or.inl ⟨x, ?_⟩
        rcases y with y | y
        · exact w0 y
        · rw [← y.2]; exact hrB
      · refine Or.inr ⟨x, fun j j0 j1 => ?_⟩
        by_cases c : j = many
        · rw [c, hnew]; exact fun u => z ⟨by omega, u⟩
        · rw [old j j0 (by omega)]
          rcases h7 with v | v
          · omega
          · exact v.2 j j0 (by omega)
  · have hl : many' = many := by omega
    subst hl
    refine ⟨⟨h1, by rw [old 0 (by omega) (by omega)]; exact h2, fun j j0 j1 => by rw [old j (by omega) j1]; exact h3 j j0 j1⟩, fun j j0 j1 => by rw [old j j0 j1]; exact h4 j j0 j1, fun j l j0 j1 l0 l1 q => ?_, fun j r j0 j1 r0 r1 q q1 q2 => ?_, ?_⟩
    · rw [old j j0 j1, old l l0 l1] at q; exact h5 j l j0 j1 l0 l1 q
    · rw [old j j0 j1] at q1
      by_cases z : j = kk ∧ r = i
      · rw [z.1, z.2] at q1
        rw [z.2] at q2 ⊢
        have : ∃ l, (0 ≤ l ∧ l < many') ∧ al l = e (4 * i + 2) := Classical.byContradiction (fun u => b2 ⟨⟨q1, q2⟩, fun l l0 l1 v => u ⟨l, ⟨l0, l1⟩, v⟩⟩)
        obtain ⟨l, l1, l2⟩ := this
        exact ⟨l, l1, by rw [old l l1.1 l1.2]; exact l2⟩
      · obtain ⟨l, l1, l2⟩ := h6 j r j0 j1 r0 r1 (by omega) q1 q2
        exact ⟨l, l1, by rw [old l l1.1 l1.2]; exact l2⟩
    · rcases hw with ⟨x, y⟩ | ⟨x, y, z⟩
      · refine Or.inl ⟨x, ?_⟩
        rcases y with y | y
        · exact w0 y
        · exact absurd b1 y.1
      · refine Or.inr ⟨x, fun j j0 j1 => ?_⟩
        rw [old j j0 j1]
        rcases h7 with v | v
        · omega
        · exact v.2 j j0 j1
theorem IB2_n {e : Int → Int} {n a d : Int} {al : Int → Int} {many kk i w : Int} (h : IB2 e n a d al many kk i w) (hi : n ≤ i) (hk : kk < many) : IB2 e n a d al many (kk + 1) 0 w := by
  obtain ⟨⟨h1, h2, h3⟩, h4, h5, h6, h7⟩ := h
  exact ⟨⟨by omega, h2, h3⟩, h4, h5, fun j r j0 j1 r0 r1 q q1 q2 => h6 j r j0 j1 r0 r1 (by omega) q1 q2, h7⟩
theorem IB2_e {e : Int → Int} {n a d : Int} {al : Int → Int} {many kk i w : Int} (h : IB2 e n a d al many kk i w) (hk : many ≤ kk ∨ w ≠ 0) : (w = 1 ∧ rB e n a d) ∨ (w = 0 ∧ ¬ rB e n a d) := by
  obtain ⟨⟨h1, h2, h3⟩, h4, h5, h6, h7⟩ := h
  rcases h7 with q | q
  · exact Or.inl q
  · refine Or.inr ⟨q.1, fun z => ?_⟩
    obtain ⟨l, l1, l2⟩ := z (fun x => ∃ l, (0 ≤ l ∧ l < many) ∧ al l = x) ⟨0, ⟨by omega, by omega⟩, h2⟩ (fun i i0 i1 ⟨j, j1, j2⟩ i3 => h6 j i j1.1 j1.2 i0 i1 (by omega) j2.symm i3)
    exact q.2 l l1.1 l1.2 l2
/-- the innermost loop -/
def IB3 (al : Int → Int) (v b0 : Int) (j b : Int) : Prop := (b = 1 ∧ b0 = 1 ∧ ∀ l, 0 ≤ l → l < j → al l ≠ v) ∨ (b = 0 ∧ ¬ (b0 = 1 ∧ ∀ l, 0 ≤ l → l < j → al l ≠ v))
theorem IB3_s {al : Int → Int} {v b0 b b' : Int} {j : Nat} (h : IB3 al v b0 j b) (hb : (b' = 1 ∧ b ≠ 0 ∧ al j ≠ v) ∨ (b' = 0 ∧ (b = 0 ∨ al j = v))) : IB3 al v b0 ((j + 1 : Nat) : Int) b' := by
  rcases hb with ⟨x, y, z⟩ | ⟨x, y⟩
  · rcases h with ⟨p, q, r⟩ | ⟨p, q⟩
    · refine Or.inl ⟨x, q, fun l l0 l1 => ?_⟩
      by_cases c : l = j
      · rw [c]; exact z
      · exact r l l0 (by omega)
    · exact absurd p y
  · refine Or.inr ⟨x, fun ⟨q, r⟩ => ?_⟩
    rcases y with y | y
    · rcases h with ⟨p, -⟩ | ⟨p, q2⟩
      · omega
      · exact q2 ⟨q, fun l l0 l1 => r l l0 (by omega)⟩
    · exact r j (by omega) (by omega) y
theorem Wd_new {N : Int} {A : AS} {nb vb : Int} {t : Nat} {X μ m : nMem} {ε : nEnv} (h : Wd N A nb vb (t + 4) X μ ε) (hok : eOK ε) (hm : ∀ x j, x ≠ (eSz ε : Int) + 1 → m x j = μ x j) : Wd N A nb vb t X m (alF ε 11 20 (20 : Int).toNat) := by
  obtain ⟨⟨S, hC, hB, hI, hD, hk, hon⟩, h2, h3, h4, h5⟩ := h
  have hx := al_ext hok 11 20 (20 : Int).toNat
  have hsz := (hok.1 25 hk).2
  refine ⟨⟨S, C6_new hC (fun x q => ⟨fun j => hm x j (fun z => ?_), hx x q⟩), hB, hI, hD, by rw [(hx 25 hk).1]; exact hk, hon⟩, ?_, SkP_ext h3 hx, fun x j q => ?_, ?_⟩
  · have := (hok.1 x q).2; omega
  · unfold Cap at h2 ⊢
    have e3 : m 3 = μ 3 := funext (fun j => hm 3 j (by omega))
    have e13 : m 13 = μ 13 := funext (fun j => hm 13 j (by omega))
    have e1 : eSz (alF ε 11 20 (20 : Int).toNat) = eSz ε + 1 := rfl
    have e2 : eSl (alF ε 11 20 (20 : Int).toNat) = eSl ε + 20 := rfl
    rw [e3, e13, e1, e2]; omega
  · rw [hm x j (by omega)]; exact h4 x j q
  · have : eLen (alF ε 11 20 (20 : Int).toNat) (-1) = eLen ε (-1) := by
      show (if (-1 : Int) = (eSz ε : Int) + 1 then (20 : Int) else eLen ε (-1)) = _
      exact if_neg (by omega)
    rw [this]; exact h5
theorem IB3_e {al : Int → Int} {v b0 b j many : Int} {P : Prop} (h : IB3 al v b0 j b) (hbe : (b0 = 1 ∧ P) ∨ (b0 = 0 ∧ ¬ P)) (hj : j = many) : (b = 1 ∧ P ∧ ∀ l, 0 ≤ l → l < many → al l ≠ v) ∨ (b = 0 ∧ ¬ (P ∧ ∀ l, 0 ≤ l → l < many → al l ≠ v)) := by
  subst hj
  rcases h with ⟨x, y, z⟩ | ⟨x, y⟩
  · rcases hbe with ⟨p, q⟩ | ⟨p, q⟩
    · exact Or.inl ⟨x, q, z⟩
    · omega
  · refine Or.inr ⟨x, fun ⟨q, r⟩ => ?_⟩
    rcases hbe with ⟨p, q2⟩ | ⟨p, q2⟩
    · exact y ⟨p, r⟩
    · exact q2 q
theorem sp_L_isInside {μ : nMem} {ε : nEnv} {Q : nOut → nMem → nEnv → Prop} {d a : Int} {N : Int} {A : AS} {nb vb : Int} {t : Nat} {X : nMem} (hW : Wd N A nb vb (t + 4) X μ ε) (n0 : 0 ≤ μ 21 0) (n1 : μ 21 0 ≤ 15) (hr2 : ∀ j, inR (μ 22 j)) (rd : inR d) (ra : inR a) (h : ∀ w μ9 ε9, Wd N A nb vb t X μ9 ε9 → ((w = 1 ∧ rB (μ 22) (μ 21 0) a d) ∨ (w = 0 ∧ ¬ rB (μ 22) (μ 21 0) a d)) → Q (.inl (some (vI w))) μ9 ε9) : Sp mL_isInside [vR 21, vR 22, vI d, vI a] μ ε Q := by
  refine Sp_of (L := [(0, vR 21), (1, vR 22), (2, vI d), (3, vI a)]) (by decide) rfl rfl (Nat.le_of_ble_eq_true rfl) ?_
  refine wq_env (fun hok => ?_)
  have hroom : eSz ε + 1 ≤ nCAP ∧ eSl ε + (20 : Int).toNat ≤ nSCAP := by
    have := hW.2.1
    unfold Cap at this
    unfold nCAP nSCAP
    have e : (20 : Int).toNat = 20 := rfl
    omega
  refine wq_bipush (pc := 0) dL_isInside_0 (by decide) (by decide) ?_
  refine wq_newI (pc := 2) dL_isInside_2 ka_int (by omega) (by omega) hroom ?_
  have hnew := fun m hm => Wd_new (m := m) hW hok hm
  have A1 := Am_i ε 11 20 (20 : Int).toNat
  have hz := zr_v μ ((eSz ε : Int) + 1)
  have hx := al_ext hok 11 20 (20 : Int).toNat
  have h25 := (hok.1 25 (by have := skM_kind hW.2.2.1 (x := 25) (by omega) (by omega); omega)).2
  obtain ⟨a9, ha9⟩ : ∃ a9 : Int, a9 = (eSz ε : Int) + 1 := ⟨_, rfl⟩
  unfold Am at A1
  rw [← ha9] at A1 hz hnew ⊢
  generalize alF ε 11 20 (20 : Int).toNat = ε1 at A1 hx hnew ⊢
  have hk1a : eKind ε1 a9 = 11 := by rw [A1.2.2.1, if_pos rfl]
  have hlen : eLen ε1 a9 = 20 := by rw [A1.2.2.2.1, if_pos rfl]
  have hs1 : SkP skM ε1 := SkP_ext hW.2.2.1 hx
  have h9 : 25 < a9 := by omega
  clear A1
  generalize zr μ a9 = mz at hz ⊢
  refine wq_astore (pc := 4) (L' := [(4, _), (0, _), (1, _), (2, _), (3, _)]) dL_isInside_4 rfl (by decide) ?_
  refine wq_iconst (pc := 6) dL_isInside_6 ?_
  refine wq_istore (pc := 7) (L' := [(5, _), (4, _), (0, _), (1, _), (2, _), (3, _)]) dL_isInside_7 rfl (by decide) ?_
  refine wq_aload (pc := 9) dL_isInside_9 rfl ?_
  refine wq_iconst (pc := 11) dL_isInside_11 ?_
  refine wq_iload_n (pc := 12) dL_isInside_12 rfl rfl ?_
  refine wq_iast (pc := 13) dL_isInside_13 (by with_reducible assumption) (by omega) (by omega) ?_
  have hm0 : ∀ x j, x ≠ a9 → wr mz a9 0 a x j = μ x j := fun x j hx => by rw [wr_n _ _ (fun z => hx z.1), hz, if_neg hx]
  have hm1 : wr mz a9 0 a a9 0 = a := wr_s _ _ _ _
  generalize wr mz a9 0 a = mA at hm0 hm1 ⊢
  have cut1 : ∀ (w : Int), ((w = 1 ∧ d = a) ∨ (w = 0 ∧ d ≠ a)) → wp mL_isInside 29 [(0, vR 21), (1, vR 22), (2, vI d), (3, vI a), (4, vR a9), (5, vI 1), (6, vI w), (7, vI 0)] [] mA ε1 Q := by
    intro w e0
    have loop2 : ∀ (n k : Nat), ∀ (m : nMem) (many w kk : Int), k ≤ 20 → 20 < k + n → kk = (k : Int) → (∀ x j, x ≠ a9 → m x j = μ x j) → IB2 (μ 22) (μ 21 0) a d (m a9) many k 0 w → wp mL_isInside 29 [(0, vR 21), (1, vR 22), (2, vI d), (3, vI a), (4, vR a9), (5, vI many), (6, vI w), (7, vI kk)] [] m ε1 Q := by
      intro n
      induction n with
      | zero => intro k m many w kk hk1 hk2 e0 e1 e2; exact absurd hk2 (by omega)
      | succ n ih =>
        intro k m many w kk hk1 hk2 e0 e1 e2
        subst e0
        have mb := IB2_b e2 n0
        have rmn : inR many := by unfold inR; omega
        have rw1 : inR w := by rcases e2.2.2.2.2 with q | q <;> (rw [q.1]; unfold inR; omega)
        have hw01 : w = 0 ∨ w = 1 := by rcases e2.2.2.2.2 with q | q <;> omega
        have ihO := ih
        have hkO := hk2
        have hkO1 := hk1
        obtain ⟨kN, hkN⟩ : ∃ kN : Nat, kN = k := ⟨k, rfl⟩
        have hkz : (kN : Int) = (k : Int) := by omega
        rw [← hkz] at e2 ⊢
        refine wq_iload (pc := 29) dL_isInside_29 rfl ?_
        refine wq_iload (pc := 31) dL_isInside_31 rfl ?_
        refine wq_icmp_ge (pc := 33) (tgt := 198) dL_isInside_33 (by decide) (by first | (unfold inR; omega) | assumption | exact hr2 _ | exact hr3 _ | exact hr4 _) (by first | (unfold inR; omega) | assumption | exact hr2 _ | exact hr3 _ | exact hr4 _) (fun c3 => ?_) (fun c3 => ?_)
        · skip
          refine wq_iload (pc := 198) dL_isInside_198 rfl ?_
          refine wq_zret (pc := 200) dL_isInside_200 rfl (by first | omega | (simp; done) | assumption) ?_
          exact h _ _ _ (hnew _ e1) (IB2_e e2 (by omega))
        · skip
          refine wq_iload (pc := 36) dL_isInside_36 rfl ?_
          refine wq_if_ne (pc := 38) (tgt := 198) dL_isInside_38 (by decide) (by first | (unfold inR; omega) | assumption | exact hr2 _ | exact hr3 _ | exact hr4 _) (fun c4 => ?_) (fun c4 => ?_)
          · skip
            refine wq_iload (pc := 198) dL_isInside_198 rfl ?_
            refine wq_zret (pc := 200) dL_isInside_200 rfl (by first | omega | (simp; done) | assumption) ?_
            exact h _ _ _ (hnew _ e1) (IB2_e e2 (by omega))
          · skip
            refine wq_iconst (pc := 41) dL_isInside_41 ?_
            refine wq_istore (pc := 42) (L' := [(8, _), (0, _), (1, _), (2, _), (3, _), (4, _), (5, _), (6, _), (7, _)]) dL_isInside_42 rfl (by decide) ?_
            have loop5 : ∀ (n k : Nat), ∀ (m : nMem) (many w ii : Int), k ≤ (μ 21 0).toNat → (μ 21 0).toNat < k + n → ii = (k : Int) → (∀ x j, x ≠ a9 → m x j = μ x j) → IB2 (μ 22) (μ 21 0) a d (m a9) many kN k w → (kN : Int) < many → wp mL_isInside 44 [(0, vR 21), (1, vR 22), (2, vI d), (3, vI a), (4, vR a9), (5, vI many), (6, vI w), (7, vI (kN : Int)), (8, vI ii)] [] m ε1 Q := by
              intro n
              induction n with
              | zero => intro k m many w ii hk1 hk2 e0 e1 e2 e3; exact absurd hk2 (by omega)
              | succ n ih =>
                intro k m many w ii hk1 hk2 e0 e1 e2 e3
                subst e0
                have mb := IB2_b e2 n0
                have rmn : inR many := by unfold inR; omega
                have rw1 : inR w := by rcases e2.2.2.2.2 with q | q <;> (rw [q.1]; unfold inR; omega)
                have hw01 : w = 0 ∨ w = 1 := by rcases e2.2.2.2.2 with q | q <;> omega
                have hrr := IB2_r e2 hr2 ra
                have hrk := hrr kN (by omega) e3
                have q21 : ∀ j, m 21 j = μ 21 j := fun j => e1 21 j (by omega)
                have q22 : ∀ j, m 22 j = μ 22 j := fun j => e1 22 j (by omega)
                have rk1 : inR (k : Int) := by unfold inR; omega
                have r4 := hr2 (4 * (k : Int))
                have r42 := hr2 (4 * (k : Int) + 2)
                have r43 := hr2 (4 * (k : Int) + 3)
                have ihM := ih
                have hkM := hk2
                have hkM1 := hk1
                obtain ⟨iN, hiN⟩ : ∃ iN : Nat, iN = k := ⟨k, rfl⟩
                have hiz : (iN : Int) = (k : Int) := by omega
                have g1 := e1
                have g2 := e2
                have g3 := e3
                rw [← hiz] at g2 r42
                refine wq_iload (pc := 44) dL_isInside_44 rfl ?_
                refine wq_aload_n (pc := 46) dL_isInside_46 rfl rfl ?_
                refine wq_iconst (pc := 47) dL_isInside_47 ?_
                refine wq_ialdK (pc := 48) dL_isInside_48 hs1 rfl (by omega) (by omega) ?_
                rw [q21]
                refine wq_icmp_ge (pc := 49) (tgt := 192) dL_isInside_49 (by decide) (by first | (unfold inR; omega) | assumption | exact hr2 _ | exact hr3 _ | exact hr4 _) (by first | (unfold inR; omega) | assumption | exact hr2 _ | exact hr3 _ | exact hr4 _) (fun c6 => ?_) (fun c6 => ?_)
                · skip
                  refine wq_iinc (pc := 192) (L' := [(7, _), (0, _), (1, _), (2, _), (3, _), (4, _), (5, _), (6, _), (8, _)]) dL_isInside_192 rfl rfl (by decide) ?_
                  refine wq_goto (pc := 195) (tgt := 29) dL_isInside_195 (by decide) ?_
                  refine wq_sub1 (L' := [(0, _), (1, _), (2, _), (3, _), (4, _), (5, _), (6, _), (7, _)]) ⟨rfl, rfl, rfl, rfl, rfl, rfl, rfl, rfl, trivial⟩ ?_
                  rw [← hkN] at hkO hkO1
                  exact ihO (kN + 1) _ _ _ _ (by omega) (by omega) (by omega) e1 (by rw [show ((kN + 1 : Nat) : Int) = (kN : Int) + 1 by omega]; exact IB2_n e2 (by omega) (by omega))
                · skip
                  have cut7 : ∀ (b0 : Int), ((b0 = 1 ∧ (μ 22 (4 * (iN : Int)) = m a9 kN ∧ μ 22 (4 * (iN : Int) + 3) = 1)) ∨ (b0 = 0 ∧ ¬ (μ 22 (4 * (iN : Int)) = m a9 kN ∧ μ 22 (4 * (iN : Int) + 3) = 1))) → wp mL_isInside 85 [(0, vR 21), (1, vR 22), (2, vI d), (3, vI a), (4, vR a9), (5, vI many), (6, vI w), (7, vI (kN : Int)), (8, vI (k : Int)), (9, vI b0)] [] m ε1 Q := by
                    intro b0 e0
                    have hbe := e0
                    have hb3 : IB3 (m a9) (μ 22 (4 * (iN : Int) + 2)) b0 ((0 : Nat) : Int) b0 := by
                      rcases hbe with q | q
                      · exact Or.inl ⟨q.1, q.1, fun l l0 l1 => by omega⟩
                      · exact Or.inr ⟨q.1, fun z => by omega⟩
                    rw [← hiz]
                    refine wq_iconst (pc := 85) dL_isInside_85 ?_
                    refine wq_istore (pc := 86) (L' := [(10, _), (0, _), (1, _), (2, _), (3, _), (4, _), (5, _), (6, _), (7, _), (8, _), (9, _)]) dL_isInside_86 rfl (by decide) ?_
                    have loop8 : ∀ (n k : Nat), ∀ (b jj : Int), k ≤ 20 → 20 < k + n → jj = (k : Int) → IB3 (m a9) (μ 22 (4 * (iN : Int) + 2)) b0 k b → (k : Int) ≤ many → wp mL_isInside 88 [(0, vR 21), (1, vR 22), (2, vI d), (3, vI a), (4, vR a9), (5, vI many), (6, vI w), (7, vI (kN : Int)), (8, vI (iN : Int)), (9, vI b), (10, vI jj)] [] m ε1 Q := by
                      intro n
                      induction n with
                      | zero => intro k b jj hk1 hk2 e0 e1 e2; exact absurd hk2 (by omega)
                      | succ n ih =>
                        intro k b jj hk1 hk2 e0 e1 e2
                        subst e0
                        have hb01 : b = 0 ∨ b = 1 := by rcases e1 with q | q <;> omega
                        have rb1 : inR b := by unfold inR; omega
                        have rj : inR (k : Int) := by unfold inR; omega
                        have rjj : (k : Int) < many → inR (m a9 k) := fun q => hrr k (by omega) q
                        refine wq_iload (pc := 88) dL_isInside_88 rfl ?_
                        refine wq_iload (pc := 90) dL_isInside_90 rfl ?_
                        refine wq_icmp_ge (pc := 92) (tgt := 129) dL_isInside_92 (by decide) (by first | (unfold inR; omega) | assumption | exact hr2 _ | exact hr3 _ | exact hr4 _) (by first | (unfold inR; omega) | assumption | exact hr2 _ | exact hr3 _ | exact hr4 _) (fun c9 => ?_) (fun c9 => ?_)
                        · skip
                          refine wq_iload (pc := 129) dL_isInside_129 rfl ?_
                          refine wq_if_ne (pc := 131) (tgt := 151) dL_isInside_131 (by decide) (by first | (unfold inR; omega) | assumption | exact hr2 _ | exact hr3 _ | exact hr4 _) (fun c10 => ?_) (fun c10 => ?_)
                          · skip
                            refine wq_iconst (pc := 151) dL_isInside_151 ?_
                            refine wq_goto (pc := 152) (tgt := 156) dL_isInside_152 (by decide) ?_
                            refine wq_istore (pc := 156) (L' := [(6, _), (0, _), (1, _), (2, _), (3, _), (4, _), (5, _), (7, _), (8, _), (9, _), (10, _)]) dL_isInside_156 rfl (by decide) ?_
                            refine wq_aload (pc := 158) dL_isInside_158 rfl ?_
                            refine wq_iload (pc := 160) dL_isInside_160 rfl ?_
                            refine wq_aload_n (pc := 162) dL_isInside_162 rfl rfl ?_
                            refine wq_iconst (pc := 163) dL_isInside_163 ?_
                            refine wq_iload (pc := 164) dL_isInside_164 rfl ?_
                            refine wq_imul (pc := 166) dL_isInside_166 ?_
                            refine wq_iconst (pc := 167) dL_isInside_167 ?_
                            refine wq_iadd (pc := 168) dL_isInside_168 ?_
                            refine wq_ialdK (pc := 169) dL_isInside_169 hs1 rfl (by omega) (by omega) ?_
                            rw [q22]
                            refine wq_iast (pc := 170) dL_isInside_170 (by with_reducible assumption) (by omega) (by omega) ?_
                            refine wq_iload (pc := 171) dL_isInside_171 rfl ?_
                            refine wq_iload (pc := 173) dL_isInside_173 rfl ?_
                            refine wq_if_eq (pc := 175) (tgt := 182) dL_isInside_175 (by decide) (by first | (unfold inR; omega) | assumption | exact hr2 _ | exact hr3 _ | exact hr4 _) (fun c11 => ?_) (fun c11 => ?_)
                            · skip
                              refine wq_iconst (pc := 182) dL_isInside_182 ?_
                              refine wq_iadd (pc := 183) dL_isInside_183 ?_
                              refine wq_istore (pc := 184) (L' := [(5, _), (6, _), (0, _), (1, _), (2, _), (3, _), (4, _), (7, _), (8, _), (9, _), (10, _)]) dL_isInside_184 rfl (by decide) ?_
                              refine wq_iinc (pc := 186) (L' := [(8, _), (5, _), (6, _), (0, _), (1, _), (2, _), (3, _), (4, _), (7, _), (9, _), (10, _)]) dL_isInside_186 rfl rfl (by decide) ?_
                              refine wq_goto (pc := 189) (tgt := 44) dL_isInside_189 (by decide) ?_
                              refine wq_sub1 (L' := [(0, _), (1, _), (2, _), (3, _), (4, _), (5, _), (6, _), (7, _), (8, _)]) ⟨rfl, rfl, rfl, rfl, rfl, rfl, rfl, rfl, rfl, trivial⟩ ?_
                              exact ihM (iN + 1) _ _ _ _ (by omega) (by omega) (by omega) (fun x j hx => by rw [wr_n _ _ (fun z => hx z.1)]; exact g1 x j hx) (by
                                rw [show ((iN + 1 : Nat) : Int) = (iN : Int) + 1 by omega]
                                exact IB2_s (b := b) g2 g3 (by omega) (fun j => by
                                  by_cases e : j = many
                                  · rw [e, wr_s, if_pos rfl]
                                  · rw [wr_n _ _ (fun z => e z.2), if_neg e]) (IB3_e e1 hbe (by omega)) (by omega) (by omega)) (by omega)
                            · skip
                              refine wq_iconst (pc := 178) dL_isInside_178 ?_
                              refine wq_goto (pc := 179) (tgt := 183) dL_isInside_179 (by decide) ?_
                              refine wq_iadd (pc := 183) dL_isInside_183 ?_
                              refine wq_istore (pc := 184) (L' := [(5, _), (6, _), (0, _), (1, _), (2, _), (3, _), (4, _), (7, _), (8, _), (9, _), (10, _)]) dL_isInside_184 rfl (by decide) ?_
                              refine wq_iinc (pc := 186) (L' := [(8, _), (5, _), (6, _), (0, _), (1, _), (2, _), (3, _), (4, _), (7, _), (9, _), (10, _)]) dL_isInside_186 rfl rfl (by decide) ?_
                              refine wq_goto (pc := 189) (tgt := 44) dL_isInside_189 (by decide) ?_
                              refine wq_sub1 (L' := [(0, _), (1, _), (2, _), (3, _), (4, _), (5, _), (6, _), (7, _), (8, _)]) ⟨rfl, rfl, rfl, rfl, rfl, rfl, rfl, rfl, rfl, trivial⟩ ?_
                              exact ihM (iN + 1) _ _ _ _ (by omega) (by omega) (by omega) (fun x j hx => by rw [wr_n _ _ (fun z => hx z.1)]; exact g1 x j hx) (by
                                rw [show ((iN + 1 : Nat) : Int) = (iN : Int) + 1 by omega]
                                exact IB2_s (b := b) g2 g3 (by omega) (fun j => by
                                  by_cases e : j = many
                                  · rw [e, wr_s, if_pos rfl]
                                  · rw [wr_n _ _ (fun z => e z.2), if_neg e]) (IB3_e e1 hbe (by omega)) (by omega) (by omega)) (by omega)
                          · skip
                            refine wq_iload (pc := 134) dL_isInside_134 rfl ?_
                            refine wq_if_eq (pc := 136) (tgt := 155) dL_isInside_136 (by decide) (by first | (unfold inR; omega) | assumption | exact hr2 _ | exact hr3 _ | exact hr4 _) (fun c12 => ?_) (fun c12 => ?_)
                            · skip
                              refine wq_iconst (pc := 155) dL_isInside_155 ?_
                              refine wq_istore (pc := 156) (L' := [(6, _), (0, _), (1, _), (2, _), (3, _), (4, _), (5, _), (7, _), (8, _), (9, _), (10, _)]) dL_isInside_156 rfl (by decide) ?_
                              refine wq_aload (pc := 158) dL_isInside_158 rfl ?_
                              refine wq_iload (pc := 160) dL_isInside_160 rfl ?_
                              refine wq_aload_n (pc := 162) dL_isInside_162 rfl rfl ?_
                              refine wq_iconst (pc := 163) dL_isInside_163 ?_
                              refine wq_iload (pc := 164) dL_isInside_164 rfl ?_
                              refine wq_imul (pc := 166) dL_isInside_166 ?_
                              refine wq_iconst (pc := 167) dL_isInside_167 ?_
                              refine wq_iadd (pc := 168) dL_isInside_168 ?_
                              refine wq_ialdK (pc := 169) dL_isInside_169 hs1 rfl (by omega) (by omega) ?_
                              rw [q22]
                              refine wq_iast (pc := 170) dL_isInside_170 (by with_reducible assumption) (by omega) (by omega) ?_
                              refine wq_iload (pc := 171) dL_isInside_171 rfl ?_
                              refine wq_iload (pc := 173) dL_isInside_173 rfl ?_
                              refine wq_if_eq (pc := 175) (tgt := 182) dL_isInside_175 (by decide) (by first | (unfold inR; omega) | assumption | exact hr2 _ | exact hr3 _ | exact hr4 _) (fun c13 => ?_) (fun c13 => ?_)
                              · skip
                                refine wq_iconst (pc := 182) dL_isInside_182 ?_
                                refine wq_iadd (pc := 183) dL_isInside_183 ?_
                                refine wq_istore (pc := 184) (L' := [(5, _), (6, _), (0, _), (1, _), (2, _), (3, _), (4, _), (7, _), (8, _), (9, _), (10, _)]) dL_isInside_184 rfl (by decide) ?_
                                refine wq_iinc (pc := 186) (L' := [(8, _), (5, _), (6, _), (0, _), (1, _), (2, _), (3, _), (4, _), (7, _), (9, _), (10, _)]) dL_isInside_186 rfl rfl (by decide) ?_
                                refine wq_goto (pc := 189) (tgt := 44) dL_isInside_189 (by decide) ?_
                                refine wq_sub1 (L' := [(0, _), (1, _), (2, _), (3, _), (4, _), (5, _), (6, _), (7, _), (8, _)]) ⟨rfl, rfl, rfl, rfl, rfl, rfl, rfl, rfl, rfl, trivial⟩ ?_
                                exact ihM (iN + 1) _ _ _ _ (by omega) (by omega) (by omega) (fun x j hx => by rw [wr_n _ _ (fun z => hx z.1)]; exact g1 x j hx) (by
                                  rw [show ((iN + 1 : Nat) : Int) = (iN : Int) + 1 by omega]
                                  exact IB2_s (b := b) g2 g3 (by omega) (fun j => by
                                    by_cases e : j = many
                                    · rw [e, wr_s, if_pos rfl]
                                    · rw [wr_n _ _ (fun z => e z.2), if_neg e]) (IB3_e e1 hbe (by omega)) (by omega) (by omega)) (by omega)
                              · skip
                                refine wq_iconst (pc := 178) dL_isInside_178 ?_
                                refine wq_goto (pc := 179) (tgt := 183) dL_isInside_179 (by decide) ?_
                                refine wq_iadd (pc := 183) dL_isInside_183 ?_
                                refine wq_istore (pc := 184) (L' := [(5, _), (6, _), (0, _), (1, _), (2, _), (3, _), (4, _), (7, _), (8, _), (9, _), (10, _)]) dL_isInside_184 rfl (by decide) ?_
                                refine wq_iinc (pc := 186) (L' := [(8, _), (5, _), (6, _), (0, _), (1, _), (2, _), (3, _), (4, _), (7, _), (9, _), (10, _)]) dL_isInside_186 rfl rfl (by decide) ?_
                                refine wq_goto (pc := 189) (tgt := 44) dL_isInside_189 (by decide) ?_
                                refine wq_sub1 (L' := [(0, _), (1, _), (2, _), (3, _), (4, _), (5, _), (6, _), (7, _), (8, _)]) ⟨rfl, rfl, rfl, rfl, rfl, rfl, rfl, rfl, rfl, trivial⟩ ?_
                                exact ihM (iN + 1) _ _ _ _ (by omega) (by omega) (by omega) (fun x j hx => by rw [wr_n _ _ (fun z => hx z.1)]; exact g1 x j hx) (by
                                  rw [show ((iN + 1 : Nat) : Int) = (iN : Int) + 1 by omega]
                                  exact IB2_s (b := b) g2 g3 (by omega) (fun j => by
                                    by_cases e : j = many
                                    · rw [e, wr_s, if_pos rfl]
                                    · rw [wr_n _ _ (fun z => e z.2), if_neg e]) (IB3_e e1 hbe (by omega)) (by omega) (by omega)) (by omega)
                            · skip
                              refine wq_aload_n (pc := 139) dL_isInside_139 rfl rfl ?_
                              refine wq_iconst (pc := 140) dL_isInside_140 ?_
                              refine wq_iload (pc := 141) dL_isInside_141 rfl ?_
                              refine wq_imul (pc := 143) dL_isInside_143 ?_
                              refine wq_iconst (pc := 144) dL_isInside_144 ?_
                              refine wq_iadd (pc := 145) dL_isInside_145 ?_
                              refine wq_ialdK (pc := 146) dL_isInside_146 hs1 rfl (by omega) (by omega) ?_
                              rw [q22]
                              refine wq_iload_n (pc := 147) dL_isInside_147 rfl rfl ?_
                              refine wq_icmp_ne (pc := 148) (tgt := 155) dL_isInside_148 (by decide) (by first | (unfold inR; omega) | assumption | exact hr2 _ | exact hr3 _ | exact hr4 _) (by first | (unfold inR; omega) | assumption | exact hr2 _ | exact hr3 _ | exact hr4 _) (fun c14 => ?_) (fun c14 => ?_)
                              · skip
                                refine wq_iconst (pc := 155) dL_isInside_155 ?_
                                refine wq_istore (pc := 156) (L' := [(6, _), (0, _), (1, _), (2, _), (3, _), (4, _), (5, _), (7, _), (8, _), (9, _), (10, _)]) dL_isInside_156 rfl (by decide) ?_
                                refine wq_aload (pc := 158) dL_isInside_158 rfl ?_
                                refine wq_iload (pc := 160) dL_isInside_160 rfl ?_
                                refine wq_aload_n (pc := 162) dL_isInside_162 rfl rfl ?_
                                refine wq_iconst (pc := 163) dL_isInside_163 ?_
                                refine wq_iload (pc := 164) dL_isInside_164 rfl ?_
                                refine wq_imul (pc := 166) dL_isInside_166 ?_
                                refine wq_iconst (pc := 167) dL_isInside_167 ?_
                                refine wq_iadd (pc := 168) dL_isInside_168 ?_
                                refine wq_ialdK (pc := 169) dL_isInside_169 hs1 rfl (by omega) (by omega) ?_
                                rw [q22]
                                refine wq_iast (pc := 170) dL_isInside_170 (by with_reducible assumption) (by omega) (by omega) ?_
                                refine wq_iload (pc := 171) dL_isInside_171 rfl ?_
                                refine wq_iload (pc := 173) dL_isInside_173 rfl ?_
                                refine wq_if_eq (pc := 175) (tgt := 182) dL_isInside_175 (by decide) (by first | (unfold inR; omega) | assumption | exact hr2 _ | exact hr3 _ | exact hr4 _) (fun c15 => ?_) (fun c15 => ?_)
                                · skip
                                  refine wq_iconst (pc := 182) dL_isInside_182 ?_
                                  refine wq_iadd (pc := 183) dL_isInside_183 ?_
                                  refine wq_istore (pc := 184) (L' := [(5, _), (6, _), (0, _), (1, _), (2, _), (3, _), (4, _), (7, _), (8, _), (9, _), (10, _)]) dL_isInside_184 rfl (by decide) ?_
                                  refine wq_iinc (pc := 186) (L' := [(8, _), (5, _), (6, _), (0, _), (1, _), (2, _), (3, _), (4, _), (7, _), (9, _), (10, _)]) dL_isInside_186 rfl rfl (by decide) ?_
                                  refine wq_goto (pc := 189) (tgt := 44) dL_isInside_189 (by decide) ?_
                                  refine wq_sub1 (L' := [(0, _), (1, _), (2, _), (3, _), (4, _), (5, _), (6, _), (7, _), (8, _)]) ⟨rfl, rfl, rfl, rfl, rfl, rfl, rfl, rfl, rfl, trivial⟩ ?_
                                  exact ihM (iN + 1) _ _ _ _ (by omega) (by omega) (by omega) (fun x j hx => by rw [wr_n _ _ (fun z => hx z.1)]; exact g1 x j hx) (by
                                    rw [show ((iN + 1 : Nat) : Int) = (iN : Int) + 1 by omega]
                                    exact IB2_s (b := b) g2 g3 (by omega) (fun j => by
                                      by_cases e : j = many
                                      · rw [e, wr_s, if_pos rfl]
                                      · rw [wr_n _ _ (fun z => e z.2), if_neg e]) (IB3_e e1 hbe (by omega)) (by omega) (by omega)) (by omega)
                                · skip
                                  refine wq_iconst (pc := 178) dL_isInside_178 ?_
                                  refine wq_goto (pc := 179) (tgt := 183) dL_isInside_179 (by decide) ?_
                                  refine wq_iadd (pc := 183) dL_isInside_183 ?_
                                  refine wq_istore (pc := 184) (L' := [(5, _), (6, _), (0, _), (1, _), (2, _), (3, _), (4, _), (7, _), (8, _), (9, _), (10, _)]) dL_isInside_184 rfl (by decide) ?_
                                  refine wq_iinc (pc := 186) (L' := [(8, _), (5, _), (6, _), (0, _), (1, _), (2, _), (3, _), (4, _), (7, _), (9, _), (10, _)]) dL_isInside_186 rfl rfl (by decide) ?_
                                  refine wq_goto (pc := 189) (tgt := 44) dL_isInside_189 (by decide) ?_
                                  refine wq_sub1 (L' := [(0, _), (1, _), (2, _), (3, _), (4, _), (5, _), (6, _), (7, _), (8, _)]) ⟨rfl, rfl, rfl, rfl, rfl, rfl, rfl, rfl, rfl, trivial⟩ ?_
                                  exact ihM (iN + 1) _ _ _ _ (by omega) (by omega) (by omega) (fun x j hx => by rw [wr_n _ _ (fun z => hx z.1)]; exact g1 x j hx) (by
                                    rw [show ((iN + 1 : Nat) : Int) = (iN : Int) + 1 by omega]
                                    exact IB2_s (b := b) g2 g3 (by omega) (fun j => by
                                      by_cases e : j = many
                                      · rw [e, wr_s, if_pos rfl]
                                      · rw [wr_n _ _ (fun z => e z.2), if_neg e]) (IB3_e e1 hbe (by omega)) (by omega) (by omega)) (by omega)
                              · skip
                                refine wq_iconst (pc := 151) dL_isInside_151 ?_
                                refine wq_goto (pc := 152) (tgt := 156) dL_isInside_152 (by decide) ?_
                                refine wq_istore (pc := 156) (L' := [(6, _), (0, _), (1, _), (2, _), (3, _), (4, _), (5, _), (7, _), (8, _), (9, _), (10, _)]) dL_isInside_156 rfl (by decide) ?_
                                refine wq_aload (pc := 158) dL_isInside_158 rfl ?_
                                refine wq_iload (pc := 160) dL_isInside_160 rfl ?_
                                refine wq_aload_n (pc := 162) dL_isInside_162 rfl rfl ?_
                                refine wq_iconst (pc := 163) dL_isInside_163 ?_
                                refine wq_iload (pc := 164) dL_isInside_164 rfl ?_
                                refine wq_imul (pc := 166) dL_isInside_166 ?_
                                refine wq_iconst (pc := 167) dL_isInside_167 ?_
                                refine wq_iadd (pc := 168) dL_isInside_168 ?_
                                refine wq_ialdK (pc := 169) dL_isInside_169 hs1 rfl (by omega) (by omega) ?_
                                rw [q22]
                                refine wq_iast (pc := 170) dL_isInside_170 (by with_reducible assumption) (by omega) (by omega) ?_
                                refine wq_iload (pc := 171) dL_isInside_171 rfl ?_
                                refine wq_iload (pc := 173) dL_isInside_173 rfl ?_
                                refine wq_if_eq (pc := 175) (tgt := 182) dL_isInside_175 (by decide) (by first | (unfold inR; omega) | assumption | exact hr2 _ | exact hr3 _ | exact hr4 _) (fun c16 => ?_) (fun c16 => ?_)
                                · skip
                                  refine wq_iconst (pc := 182) dL_isInside_182 ?_
                                  refine wq_iadd (pc := 183) dL_isInside_183 ?_
                                  refine wq_istore (pc := 184) (L' := [(5, _), (6, _), (0, _), (1, _), (2, _), (3, _), (4, _), (7, _), (8, _), (9, _), (10, _)]) dL_isInside_184 rfl (by decide) ?_
                                  refine wq_iinc (pc := 186) (L' := [(8, _), (5, _), (6, _), (0, _), (1, _), (2, _), (3, _), (4, _), (7, _), (9, _), (10, _)]) dL_isInside_186 rfl rfl (by decide) ?_
                                  refine wq_goto (pc := 189) (tgt := 44) dL_isInside_189 (by decide) ?_
                                  refine wq_sub1 (L' := [(0, _), (1, _), (2, _), (3, _), (4, _), (5, _), (6, _), (7, _), (8, _)]) ⟨rfl, rfl, rfl, rfl, rfl, rfl, rfl, rfl, rfl, trivial⟩ ?_
                                  exact ihM (iN + 1) _ _ _ _ (by omega) (by omega) (by omega) (fun x j hx => by rw [wr_n _ _ (fun z => hx z.1)]; exact g1 x j hx) (by
                                    rw [show ((iN + 1 : Nat) : Int) = (iN : Int) + 1 by omega]
                                    exact IB2_s (b := b) g2 g3 (by omega) (fun j => by
                                      by_cases e : j = many
                                      · rw [e, wr_s, if_pos rfl]
                                      · rw [wr_n _ _ (fun z => e z.2), if_neg e]) (IB3_e e1 hbe (by omega)) (by omega) (by omega)) (by omega)
                                · skip
                                  refine wq_iconst (pc := 178) dL_isInside_178 ?_
                                  refine wq_goto (pc := 179) (tgt := 183) dL_isInside_179 (by decide) ?_
                                  refine wq_iadd (pc := 183) dL_isInside_183 ?_
                                  refine wq_istore (pc := 184) (L' := [(5, _), (6, _), (0, _), (1, _), (2, _), (3, _), (4, _), (7, _), (8, _), (9, _), (10, _)]) dL_isInside_184 rfl (by decide) ?_
                                  refine wq_iinc (pc := 186) (L' := [(8, _), (5, _), (6, _), (0, _), (1, _), (2, _), (3, _), (4, _), (7, _), (9, _), (10, _)]) dL_isInside_186 rfl rfl (by decide) ?_
                                  refine wq_goto (pc := 189) (tgt := 44) dL_isInside_189 (by decide) ?_
                                  refine wq_sub1 (L' := [(0, _), (1, _), (2, _), (3, _), (4, _), (5, _), (6, _), (7, _), (8, _)]) ⟨rfl, rfl, rfl, rfl, rfl, rfl, rfl, rfl, rfl, trivial⟩ ?_
                                  exact ihM (iN + 1) _ _ _ _ (by omega) (by omega) (by omega) (fun x j hx => by rw [wr_n _ _ (fun z => hx z.1)]; exact g1 x j hx) (by
                                    rw [show ((iN + 1 : Nat) : Int) = (iN : Int) + 1 by omega]
                                    exact IB2_s (b := b) g2 g3 (by omega) (fun j => by
                                      by_cases e : j = many
                                      · rw [e, wr_s, if_pos rfl]
                                      · rw [wr_n _ _ (fun z => e z.2), if_neg e]) (IB3_e e1 hbe (by omega)) (by omega) (by omega)) (by omega)
                        · skip
                          refine wq_iload (pc := 95) dL_isInside_95 rfl ?_
                          refine wq_if_eq (pc := 97) (tgt := 120) dL_isInside_97 (by decide) (by first | (unfold inR; omega) | assumption | exact hr2 _ | exact hr3 _ | exact hr4 _) (fun c17 => ?_) (fun c17 => ?_)
                          · skip
                            refine wq_iconst (pc := 120) dL_isInside_120 ?_
                            refine wq_istore (pc := 121) (L' := [(9, _), (0, _), (1, _), (2, _), (3, _), (4, _), (5, _), (6, _), (7, _), (8, _), (10, _)]) dL_isInside_121 rfl (by decide) ?_
                            refine wq_iinc (pc := 123) (L' := [(10, _), (9, _), (0, _), (1, _), (2, _), (3, _), (4, _), (5, _), (6, _), (7, _), (8, _)]) dL_isInside_123 rfl rfl (by decide) ?_
                            refine wq_goto (pc := 126) (tgt := 88) dL_isInside_126 (by decide) ?_
                            refine wq_sub1 (L' := [(0, _), (1, _), (2, _), (3, _), (4, _), (5, _), (6, _), (7, _), (8, _), (9, _), (10, _)]) ⟨rfl, rfl, rfl, rfl, rfl, rfl, rfl, rfl, rfl, rfl, rfl, trivial⟩ ?_
                            first
                              | exact ih (k + 1) _ _ (by omega) (by omega) (by omega) (IB3_s e1 (Or.inl ⟨rfl, by omega, by omega⟩)) (by omega)
                              | exact ih (k + 1) _ _ (by omega) (by omega) (by omega) (IB3_s e1 (Or.inr ⟨rfl, by omega⟩)) (by omega)
                          · skip
                            refine wq_aload (pc := 100) dL_isInside_100 rfl ?_
                            refine wq_iload (pc := 102) dL_isInside_102 rfl ?_
                            refine wq_iald (pc := 104) dL_isInside_104 (by with_reducible assumption) (by omega) (by omega) ?_
                            refine wq_aload_n (pc := 105) dL_isInside_105 rfl rfl ?_
                            refine wq_iconst (pc := 106) dL_isInside_106 ?_
                            refine wq_iload (pc := 107) dL_isInside_107 rfl ?_
                            refine wq_imul (pc := 109) dL_isInside_109 ?_
                            refine wq_iconst (pc := 110) dL_isInside_110 ?_
                            refine wq_iadd (pc := 111) dL_isInside_111 ?_
                            refine wq_ialdK (pc := 112) dL_isInside_112 hs1 rfl (by omega) (by omega) ?_
                            rw [q22]
                            refine wq_icmp_eq (pc := 113) (tgt := 120) dL_isInside_113 (by decide) (rjj (by omega)) (hr2 _) (fun c18 => ?_) (fun c18 => ?_)
                            · skip
                              refine wq_iconst (pc := 120) dL_isInside_120 ?_
                              refine wq_istore (pc := 121) (L' := [(9, _), (0, _), (1, _), (2, _), (3, _), (4, _), (5, _), (6, _), (7, _), (8, _), (10, _)]) dL_isInside_121 rfl (by decide) ?_
                              refine wq_iinc (pc := 123) (L' := [(10, _), (9, _), (0, _), (1, _), (2, _), (3, _), (4, _), (5, _), (6, _), (7, _), (8, _)]) dL_isInside_123 rfl rfl (by decide) ?_
                              refine wq_goto (pc := 126) (tgt := 88) dL_isInside_126 (by decide) ?_
                              refine wq_sub1 (L' := [(0, _), (1, _), (2, _), (3, _), (4, _), (5, _), (6, _), (7, _), (8, _), (9, _), (10, _)]) ⟨rfl, rfl, rfl, rfl, rfl, rfl, rfl, rfl, rfl, rfl, rfl, trivial⟩ ?_
                              first
                                | exact ih (k + 1) _ _ (by omega) (by omega) (by omega) (IB3_s e1 (Or.inl ⟨rfl, by omega, by omega⟩)) (by omega)
                                | exact ih (k + 1) _ _ (by omega) (by omega) (by omega) (IB3_s e1 (Or.inr ⟨rfl, by omega⟩)) (by omega)
                            · skip
                              refine wq_iconst (pc := 116) dL_isInside_116 ?_
                              refine wq_goto (pc := 117) (tgt := 121) dL_isInside_117 (by decide) ?_
                              refine wq_istore (pc := 121) (L' := [(9, _), (0, _), (1, _), (2, _), (3, _), (4, _), (5, _), (6, _), (7, _), (8, _), (10, _)]) dL_isInside_121 rfl (by decide) ?_
                              refine wq_iinc (pc := 123) (L' := [(10, _), (9, _), (0, _), (1, _), (2, _), (3, _), (4, _), (5, _), (6, _), (7, _), (8, _)]) dL_isInside_123 rfl rfl (by decide) ?_
                              refine wq_goto (pc := 126) (tgt := 88) dL_isInside_126 (by decide) ?_
                              refine wq_sub1 (L' := [(0, _), (1, _), (2, _), (3, _), (4, _), (5, _), (6, _), (7, _), (8, _), (9, _), (10, _)]) ⟨rfl, rfl, rfl, rfl, rfl, rfl, rfl, rfl, rfl, rfl, rfl, trivial⟩ ?_
                              first
                                | exact ih (k + 1) _ _ (by omega) (by omega) (by omega) (IB3_s e1 (Or.inl ⟨rfl, by omega, by omega⟩)) (by omega)
                                | exact ih (k + 1) _ _ (by omega) (by omega) (by omega) (IB3_s e1 (Or.inr ⟨rfl, by omega⟩)) (by omega)
                    refine wq_sub1 (L' := [(0, _), (1, _), (2, _), (3, _), (4, _), (5, _), (6, _), (7, _), (8, _), (9, _), (10, _)]) ⟨rfl, rfl, rfl, rfl, rfl, rfl, rfl, rfl, rfl, rfl, rfl, trivial⟩ ?_
                    exact loop8 21 0 _ _ (by omega) (by omega) (by omega) hb3 (by omega)
                  refine wq_aload_n (pc := 52) dL_isInside_52 rfl rfl ?_
                  refine wq_iconst (pc := 53) dL_isInside_53 ?_
                  refine wq_iload (pc := 54) dL_isInside_54 rfl ?_
                  refine wq_imul (pc := 56) dL_isInside_56 ?_
                  refine wq_ialdK (pc := 57) dL_isInside_57 hs1 rfl (by omega) (by omega) ?_
                  rw [q22]
                  refine wq_aload (pc := 58) dL_isInside_58 rfl ?_
                  refine wq_iload (pc := 60) dL_isInside_60 rfl ?_
                  refine wq_iald (pc := 62) dL_isInside_62 (by with_reducible assumption) (by omega) (by omega) ?_
                  refine wq_icmp_ne (pc := 63) (tgt := 82) dL_isInside_63 (by decide) (by first | (unfold inR; omega) | assumption | exact hr2 _ | exact hr3 _ | exact hr4 _) (by first | (unfold inR; omega) | assumption | exact hr2 _ | exact hr3 _ | exact hr4 _) (fun c19 => ?_) (fun c19 => ?_)
                  · skip
                    refine wq_iconst (pc := 82) dL_isInside_82 ?_
                    refine wq_istore (pc := 83) (L' := [(9, _), (0, _), (1, _), (2, _), (3, _), (4, _), (5, _), (6, _), (7, _), (8, _)]) dL_isInside_83 rfl (by decide) ?_
                    refine wq_sub1 (L' := [(0, _), (1, _), (2, _), (3, _), (4, _), (5, _), (6, _), (7, _), (8, _), (9, _)]) ⟨rfl, rfl, rfl, rfl, rfl, rfl, rfl, rfl, rfl, rfl, trivial⟩ ?_
                    exact cut7 _ (by rw [hiz]; first | exact Or.inl ⟨rfl, by omega, by omega⟩ | exact Or.inr ⟨rfl, by omega⟩)
                  · skip
                    refine wq_aload_n (pc := 66) dL_isInside_66 rfl rfl ?_
                    refine wq_iconst (pc := 67) dL_isInside_67 ?_
                    refine wq_iload (pc := 68) dL_isInside_68 rfl ?_
                    refine wq_imul (pc := 70) dL_isInside_70 ?_
                    refine wq_iconst (pc := 71) dL_isInside_71 ?_
                    refine wq_iadd (pc := 72) dL_isInside_72 ?_
                    refine wq_ialdK (pc := 73) dL_isInside_73 hs1 rfl (by omega) (by omega) ?_
                    rw [q22]
                    refine wq_iconst (pc := 74) dL_isInside_74 ?_
                    refine wq_icmp_ne (pc := 75) (tgt := 82) dL_isInside_75 (by decide) (by first | (unfold inR; omega) | assumption | exact hr2 _ | exact hr3 _ | exact hr4 _) (by first | (unfold inR; omega) | assumption | exact hr2 _ | exact hr3 _ | exact hr4 _) (fun c20 => ?_) (fun c20 => ?_)
                    · skip
                      refine wq_iconst (pc := 82) dL_isInside_82 ?_
                      refine wq_istore (pc := 83) (L' := [(9, _), (0, _), (1, _), (2, _), (3, _), (4, _), (5, _), (6, _), (7, _), (8, _)]) dL_isInside_83 rfl (by decide) ?_
                      refine wq_sub1 (L' := [(0, _), (1, _), (2, _), (3, _), (4, _), (5, _), (6, _), (7, _), (8, _), (9, _)]) ⟨rfl, rfl, rfl, rfl, rfl, rfl, rfl, rfl, rfl, rfl, trivial⟩ ?_
                      exact cut7 _ (by rw [hiz]; first | exact Or.inl ⟨rfl, by omega, by omega⟩ | exact Or.inr ⟨rfl, by omega⟩)
                    · skip
                      refine wq_iconst (pc := 78) dL_isInside_78 ?_
                      refine wq_goto (pc := 79) (tgt := 83) dL_isInside_79 (by decide) ?_
                      refine wq_istore (pc := 83) (L' := [(9, _), (0, _), (1, _), (2, _), (3, _), (4, _), (5, _), (6, _), (7, _), (8, _)]) dL_isInside_83 rfl (by decide) ?_
                      refine wq_sub1 (L' := [(0, _), (1, _), (2, _), (3, _), (4, _), (5, _), (6, _), (7, _), (8, _), (9, _)]) ⟨rfl, rfl, rfl, rfl, rfl, rfl, rfl, rfl, rfl, rfl, trivial⟩ ?_
                      exact cut7 _ (by rw [hiz]; first | exact Or.inl ⟨rfl, by omega, by omega⟩ | exact Or.inr ⟨rfl, by omega⟩)
            refine wq_sub1 (L' := [(0, _), (1, _), (2, _), (3, _), (4, _), (5, _), (6, _), (7, _), (8, _)]) ⟨rfl, rfl, rfl, rfl, rfl, rfl, rfl, rfl, rfl, trivial⟩ ?_
            exact loop5 ((μ 21 0).toNat + 1) 0 _ _ _ _ (by omega) (by omega) (by omega) e1 (by exact e2) (by omega)
    refine wq_sub1 (L' := [(0, _), (1, _), (2, _), (3, _), (4, _), (5, _), (6, _), (7, _)]) ⟨rfl, rfl, rfl, rfl, rfl, rfl, rfl, rfl, trivial⟩ ?_
    exact loop2 21 0 _ _ _ _ (by omega) (by omega) (by omega) hm0 (IB2_i _ _ _ _ hm1 e0)
  refine wq_iload_n (pc := 14) dL_isInside_14 rfl rfl ?_
  refine wq_iload_n (pc := 15) dL_isInside_15 rfl rfl ?_
  refine wq_icmp_ne (pc := 16) (tgt := 23) dL_isInside_16 (by decide) (by first | (unfold inR; omega) | assumption | exact hr2 _ | exact hr3 _ | exact hr4 _) (by first | (unfold inR; omega) | assumption | exact hr2 _ | exact hr3 _ | exact hr4 _) (fun c21 => ?_) (fun c21 => ?_)
  · skip
    refine wq_iconst (pc := 23) dL_isInside_23 ?_
    refine wq_istore (pc := 24) (L' := [(6, _), (5, _), (4, _), (0, _), (1, _), (2, _), (3, _)]) dL_isInside_24 rfl (by decide) ?_
    refine wq_iconst (pc := 26) dL_isInside_26 ?_
    refine wq_istore (pc := 27) (L' := [(7, _), (6, _), (5, _), (4, _), (0, _), (1, _), (2, _), (3, _)]) dL_isInside_27 rfl (by decide) ?_
    refine wq_sub1 (L' := [(0, _), (1, _), (2, _), (3, _), (4, _), (5, _), (6, _), (7, _)]) ⟨rfl, rfl, rfl, rfl, rfl, rfl, rfl, rfl, trivial⟩ ?_
    exact cut1 _ (by first | exact Or.inl ⟨rfl, by omega⟩ | exact Or.inr ⟨rfl, by omega⟩)
  · skip
    refine wq_iconst (pc := 19) dL_isInside_19 ?_
    refine wq_goto (pc := 20) (tgt := 24) dL_isInside_20 (by decide) ?_
    refine wq_istore (pc := 24) (L' := [(6, _), (5, _), (4, _), (0, _), (1, _), (2, _), (3, _)]) dL_isInside_24 rfl (by decide) ?_
    refine wq_iconst (pc := 26) dL_isInside_26 ?_
    refine wq_istore (pc := 27) (L' := [(7, _), (6, _), (5, _), (4, _), (0, _), (1, _), (2, _), (3, _)]) dL_isInside_27 rfl (by decide) ?_
    refine wq_sub1 (L' := [(0, _), (1, _), (2, _), (3, _), (4, _), (5, _), (6, _), (7, _)]) ⟨rfl, rfl, rfl, rfl, rfl, rfl, rfl, rfl, trivial⟩ ?_
    exact cut1 _ (by first | exact Or.inl ⟨rfl, by omega⟩ | exact Or.inr ⟨rfl, by omega⟩)
