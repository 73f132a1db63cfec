theorem gFree_mem (F : Fl) (x : Int) (k : Nat) : x ∈ gFree F k ↔ (0 ≤ x ∧ x < k) ∧ fU F x = 1 := by
  induction k with
  | zero => simp [gFree]; omega
  | succ k ih =>
    rw [gFree_s]
    by_cases c : fU F k = 1
    · rw [if_pos c, List.mem_append, ih]
      constructor
      · rintro (h | h)
        · omega
        · rw [List.mem_singleton.mp h]; exact ⟨by omega, c⟩
      · intro h
        by_cases e : x = k
        · right; rw [e]; simp
        · left; omega
    · rw [if_neg c, ih]
      constructor
      · intro h; omega
      · intro h
        have : x ≠ k := fun e => c (by rw [← e]; exact h.2)
        omega
theorem gFree_nd (F : Fl) (k : Nat) : (gFree F k).Nodup := by
  induction k with
  | zero => exact List.nodup_nil
  | succ k ih =>
    rw [gFree_s]
    split
    · exact List.nodup_append.mpr ⟨ih, by simp, fun x hx y hy => by
        rw [List.mem_singleton.mp hy]
        have := (gFree_mem F x k).mp hx
        omega⟩
    · exact ih
theorem gClosed_mem (F : Fl) (c x : Int) (k : Nat) : x ∈ gClosed F c k ↔ (0 ≤ x ∧ x < k) ∧ 1 < fU F x ∧ x ≠ c := by
  induction k with
  | zero => simp [gClosed]; omega
  | succ k ih =>
    rw [gClosed_s]
    by_cases q : fU F k ≠ 1 ∧ 1 < fU F k ∧ (k : Int) ≠ c
    · rw [if_pos q, List.mem_append, ih]
      constructor
      · rintro (h | h)
        · omega
        · rw [List.mem_singleton.mp h]; exact ⟨by omega, q.2⟩
      · intro h
        by_cases e : x = k
        · right; rw [e]; simp
        · left; omega
    · rw [if_neg q, ih]
      constructor
      · intro h; omega
      · intro h
        have : x ≠ k := fun e => q (by rw [← e]; omega)
        omega
theorem gClosed_nd (F : Fl) (c : Int) (k : Nat) : (gClosed F c k).Nodup := by
  induction k with
  | zero => exact List.nodup_nil
  | succ k ih =>
    rw [gClosed_s]
    split
    · exact List.nodup_append.mpr ⟨ih, by simp, fun x hx y hy => by
        rw [List.mem_singleton.mp hy]
        have := (gClosed_mem F c x k).mp hx
        omega⟩
    · exact ih
theorem gCur_can (F : Fl) (k : Nat) : gCur F k ≠ -1 → gCan F (gCur F k) := by
  induction k with
  | zero => intro h; exact absurd rfl h
  | succ k ih =>
    intro h
    rw [gCur_s] at h ⊢
    by_cases c : (gCur F k = -1 ∨ fU F k < fU F (gCur F k)) ∧ gCan F k
    · rw [if_pos c]; exact c.2
    · rw [if_neg c] at h ⊢; exact ih h
/-- the log right behind a restart: blocks without a marker stand nowhere -/
abbrev PZ (F : Fl) (g : Lg) : Prop :=
  (g.1 = -1 ∨ (0 ≤ g.1 ∧ g.1 < 8)) ∧ (g.1 ≠ -1 → allW F g.1 ∧ 1 ≤ fU F g.1) ∧ (∀ b ∈ g.2.1, (0 ≤ b ∧ b < 8) ∧ fU F b = 1 ∧ fC F b = 0) ∧
  (∀ b ∈ g.2.2, (0 ≤ b ∧ b < 8) ∧ 1 ≤ fC F b) ∧ (g.2.1.Nodup ∧ g.2.2.Nodup ∧ (∀ b ∈ g.2.1, b ∉ g.2.2) ∧ g.1 ∉ g.2.1 ∧ g.1 ∉ g.2.2) ∧
  (∀ b, 0 ≤ b → b < 8 → fU F b = 0 ∨ b = g.1 ∨ b ∈ g.2.1 ∨ b ∈ g.2.2) ∧ (-1 ≤ fL F ∧ fL F ≤ 1000)
theorem PZ_PL {F : Fl} {g : Lg} (h : PZ F g) (h0 : ∀ b, 0 ≤ b → b < 8 → fU F b ≠ 0) : PL F g := by
  obtain ⟨h1, h2, h3, h4, h5, h6, h7⟩ := h
  exact ⟨h1, h2, h3, h4, h5, fun b b0 b1 => (h6 b b0 b1).resolve_left (h0 b b0 b1), h7⟩
theorem gOf_ok {F : Fl} (hA : PA F) (hl : -1 ≤ fL F ∧ fL F ≤ 1000) : PZ F (gOf F) := by
  have hr := gCur_r F 8
  have hcan := gCur_can F 8
  have hB := fun b b0 b1 => (hA b b0 b1).2.1
  have hB1 := fun b b0 b1 => (hA b b0 b1).1
  have hm := fun x => gFree_mem F x 8
  have hc := fun x => gClosed_mem F (gCur F 8) x 8
  unfold gOf
  refine ⟨by omega, fun q => ?_, fun b hb => ?_, fun b hb => ?_, ⟨gFree_nd F 8, gClosed_nd F _ 8, fun b hb hb2 => ?_, fun q => ?_, fun q => ?_⟩, fun b b0 b1 => ?_, hl⟩
  · have q : gCur F 8 ≠ -1 := q
    obtain ⟨c1, c2, c3⟩ := hcan q
    have b0 := hB1 (gCur F 8) (by omega) (by omega)
    have b2 := hB (gCur F 8) (by omega) (by omega)
    exact ⟨(allW_g b0.1.1).mp c1, by show 1 ≤ fU F (gCur F 8); omega⟩
  · have := (hm b).mp hb
    have b2 := hB b (by omega) (by omega)
    omega
  · have := (hc b).mp hb
    have b2 := hB b (by omega) (by omega)
    omega
  · have := (hm b).mp hb
    have := (hc b).mp hb2
    omega
  · have := (hm _).mp q
    have q2 : gCur F 8 ≠ -1 := fun z => by
      have : (0 : Int) ≤ gCur F 8 := this.1.1
      omega
    obtain ⟨c1, c2, c3⟩ := hcan q2
    have b2 := hB (gCur F 8) (by omega) (by omega)
    have : fU F (gCur F 8) = 1 := this.2
    omega
  · exact ((hc _).mp q).2.2 rfl
  · have b1' := hB1 b b0 b1
    by_cases e0 : fU F b = 0
    · exact Or.inl e0
    · by_cases e1 : fU F b = 1
      · exact Or.inr (Or.inr (Or.inl ((hm b).mpr ⟨by omega, e1⟩)))
      · by_cases e2 : b = gCur F 8
        · exact Or.inr (Or.inl e2)
        · exact Or.inr (Or.inr (Or.inr ((hc b).mpr ⟨by omega, by omega, e2⟩)))
/-- the erasing of the blocks without a marker -/
theorem lBrk_ok {F : Fl} {g : Lg} (hA : PA F) (hZ : PZ F g) (k : Nat) : k ≤ 8 → PA (lBrk F g k).1 ∧ sameR F (lBrk F g k).1 ∧ (∀ j, 0 ≤ j → j < 128 → ∀ q, 0 ≤ q → q ≤ 11 → fN (lBrk F g k).1 j q = fN F j q) ∧
    ((lBrk F g k).2.2 = true → PZ (lBrk F g k).1 (lBrk F g k).2.1 ∧ fD (lBrk F g k).1 = fD F ∧ (∀ b : Int, 0 ≤ b → b < k → fU (lBrk F g k).1 b ≠ 0)) ∧ ((lBrk F g k).2.2 = false → fD (lBrk F g k).1 = 1 ∧ fL (lBrk F g k).1 = -1) := by
  induction k with
  | zero => intro _; exact ⟨hA, sameR_refl F, fun _ _ _ _ _ _ => rfl, fun _ => ⟨hZ, rfl, fun b b0 b1 => by omega⟩, fun q => by cases q⟩
  | succ k ih =>
    intro hk
    obtain ⟨i1, i2, i2a, i3, i4⟩ := ih (by omega)
    rw [lBrk_s]
    cases hr : (lBrk F g k).2.2 with
    | false => rw [if_pos rfl]; exact ⟨i1, i2, i2a, (fun q => by rw [hr] at q; cases q), fun _ => i4 hr⟩
    | true =>
      obtain ⟨j1, j2, j3⟩ := i3 hr
      rw [if_neg (by decide)]
      by_cases u0 : fU (lBrk F g k).1 k = 0
      · rw [if_pos u0]
        generalize lBrk F g k = G at i1 i2 i2a j1 j2 j3 u0 ⊢
        obtain ⟨F1, g1, r1⟩ := G
        change PA F1 at i1
        change sameR F F1 at i2
        change ∀ j, 0 ≤ j → j < 128 → ∀ q, 0 ≤ q → q ≤ 11 → fN F1 j q = fN F j q at i2a
        change PZ F1 g1 at j1
        change fD F1 = fD F at j2
        change ∀ b : Int, 0 ≤ b → b < k → fU F1 b ≠ 0 at j3
        change fU F1 k = 0 at u0
        have hb : 0 ≤ (k : Int) ∧ (k : Int) < 8 := by omega
        have hz := (hA k hb.1 hb.2)
        have hz1 := (i1 k hb.1 hb.2)
        have hc0 : fC F1 k = 0 := by have := hz1.2.1; omega
        obtain ⟨r1', r2'⟩ := erR_rows (F := F1) (b := k)
        have hrows : ∀ j, 0 ≤ j → j < 128 → ∀ q, 0 ≤ q → q ≤ 11 → fN (fErR F1 k).1 j q = fN F1 j q := fun j j0 j1 q q0 q1 => by
          have hzero : (k : Int) * 16 ≤ j ∧ j < (k : Int) * 16 + 16 → fN F1 j q = 0 := fun w => by
            have := hz1.2.2.2.1 (j - k * 16) (by omega) (by omega) q q0 q1
            rw [show (k : Int) * 16 + (j - k * 16) = j by omega] at this
            exact this
          have hrem : remR F1 (fErR F1 k).1 k → fN (fErR F1 k).1 j q = fN F1 j q := fun w => by
            rw [w j q]
            split
            · rename_i z; exact (hzero z).symm
            · rfl
          cases hq : (fErR F1 k).2 with
          | true => exact hrem (r1' hq).1
          | false =>
            rcases (r2' hq).2.2 with w | w
            · exact w j q
            · exact hrem w
        have hrem2 : ∀ F2 : Fl, remR F1 F2 k → sameR F1 F2 := fun F2 w j j0 j1 => by
          by_cases z : (k : Int) * 16 ≤ j ∧ j < (k : Int) * 16 + 16
          · have n1 : ¬ rW F1 j := fun q => by
              have := hz1.2.2.2.1 (j - k * 16) (by omega) (by omega) 0 (by omega) (by omega)
              rw [show (k : Int) * 16 + (j - k * 16) = j by omega] at this
              have := q.1; omega
            have n2 : ¬ rW F2 j := fun q => by have q1 := q.1; rw [w j 0, if_pos z] at q1; omega
            exact ⟨⟨fun q => absurd q n2, fun q => absurd q n1⟩, fun q => absurd q n1⟩
          · have e : ∀ q, fN F2 j q = fN F1 j q := fun q => by rw [w j q, if_neg z]
            exact ⟨by unfold rW; rw [e, e, e], fun _ q => e q⟩
        have hsame : sameR F1 (fErR F1 k).1 := by
          cases hq : (fErR F1 k).2 with
          | true => exact hrem2 _ (r1' hq).1
          | false =>
            rcases (r2' hq).2.2 with w | w
            · exact fun j j0 j1 => ⟨by unfold rW; rw [w, w, w], fun _ q => w j q⟩
            · exact hrem2 _ w
        refine ⟨PA_erR i1 hb, sameR_trans i2 hsame, fun j j0 j1 q q0 q1 => (hrows j j0 j1 q q0 q1).trans (i2a j j0 j1 q q0 q1), fun hq => ?_, fun hq => ⟨(r2' hq).1, (r2' hq).2.1⟩⟩
        have hq : (fErR F1 k).2 = true := hq
        obtain ⟨h1, h2, h3, h4, ⟨h5, h6, h7, h8, h9⟩, h10, h11⟩ := id j1
        obtain ⟨t1, t2⟩ := erR_true hq
        have e1 : (fErR F1 k).1 = fSetU (fSpd (fEra (fSpd F1) k)) k 1 := by rw [erR_2 t1 t2]
        have hl := (r1' hq).2.2 h11
        show PZ (fErR F1 k).1 (if (fErR F1 k).2 = true then (g1.1, g1.2.1 ++ [(k : Int)], g1.2.2) else g1) ∧ fD (fErR F1 k).1 = fD F ∧ (∀ b : Int, 0 ≤ b → b < ((k + 1 : Nat) : Int) → fU (fErR F1 k).1 b ≠ 0)
        rw [if_pos hq]
        have kf : (k : Int) ∉ g1.2.1 := fun z => by have := (h3 _ z).2.1; omega
        have kc : (k : Int) ∉ g1.2.2 := fun z => by have := (h4 _ z).2; omega
        have kg : (k : Int) ≠ g1.1 := fun z => by have := (h2 (by omega)).2; rw [← z] at this; omega
        refine ⟨⟨h1, fun q => ?_, fun x hx => ?_, fun x hx => ?_, ⟨?_, h6, fun x hx => ?_, ?_, h9⟩, fun x x0 x1 => ?_, hl⟩, (r1' hq).2.1.trans j2, fun b b0 b1 => ?_⟩
        · have q : g1.1 ≠ -1 := q
          have hc := (i1 g1.1 (by omega) (by omega)).1.1
          have aw : allW (fSetU (fSpd (fEra (fSpd F1) k)) k 1) g1.1 := allW_congr (fun p p0 p1 q => by rw [erT_N, if_neg (by omega)]) (by rw [erT_C, if_neg (fun z => kg z.symm)]) (h2 q).1
          rw [e1]
          refine ⟨aw, ?_⟩
          show 1 ≤ fU (fSetU (fSpd (fEra (fSpd F1) k)) k 1) g1.1
          rw [erT_U, if_neg (fun z => kg z.symm)]; exact (h2 q).2
        · rw [e1, erT_U, erT_C]
          rcases List.mem_append.mp hx with z | z
          · have : x ≠ k := fun w => kf (by rw [← w]; exact z)
            rw [if_neg this, if_neg this]; exact h3 x z
          · rw [List.mem_singleton.mp z, if_pos rfl, if_pos rfl]; exact ⟨hb, rfl, rfl⟩
        · have : x ≠ k := fun w => kc (by rw [← w]; exact hx)
          rw [e1, erT_C, if_neg this]; exact h4 x hx
        · exact List.nodup_append.mpr ⟨h5, by simp, fun x hx y hy => by rw [List.mem_singleton.mp hy]; exact fun z => kf (by rw [← z]; exact hx)⟩
        · intro z
          rcases List.mem_append.mp hx with w | w
          · exact h7 x w z
          · exact kc (by rw [← List.mem_singleton.mp w]; exact z)
        · intro z
          rcases List.mem_append.mp z with w | w
          · exact h8 w
          · exact kg (List.mem_singleton.mp w).symm
        · by_cases e : x = k
          · exact Or.inr (Or.inr (Or.inl (List.mem_append_right _ (by rw [e]; simp))))
          · rw [e1, erT_U, if_neg e]
            rcases h10 x x0 x1 with z | z | z | z
            · exact Or.inl z
            · exact Or.inr (Or.inl z)
            · exact Or.inr (Or.inr (Or.inl (List.mem_append_left _ z)))
            · exact Or.inr (Or.inr (Or.inr z))
        · rw [e1, erT_U]
          by_cases e : b = k
          · rw [if_pos e]; decide
          · rw [if_neg e]; exact j3 b b0 (by omega)
      · rw [if_neg u0]
        exact ⟨i1, i2, i2a, fun _ => ⟨j1, j2, fun b b0 b1 => by
          by_cases e : b = k
          · rw [e]; exact u0
          · exact j3 b b0 (by omega)⟩, fun q => absurd q (by rw [hr]; decide)⟩
theorem lBrk_hn {F : Fl} {g : Lg} (hA : PA F) (hZ : PZ F g) (k : Nat) (hk : k < 8) (h : (lBrk F g k).2.2 = true) (hu : fU (lBrk F g k).1 k = 0) : (lBrk F g k).2.1.2.1.length < 8 := by
  obtain ⟨-, -, -, i3, -⟩ := lBrk_ok hA hZ k (by omega)
  obtain ⟨⟨h1, h2, h3, h4, ⟨h5, -⟩, -⟩, -, -⟩ := i3 h
  have : ((k : Int) :: (lBrk F g k).2.1.2.1).length ≤ 8 := len8 (List.nodup_cons.mpr ⟨fun z => by have := (h3 _ z).2.1; omega, h5⟩) (fun b hb => by
    rcases List.mem_cons.mp hb with e | e
    · omega
    · exact (h3 b e).1)
  rw [List.length_cons] at this
  omega
theorem sr_X3_eraseBroken {μ : nMem} {ε : nEnv} {Q : nOut → nMem → nEnv → Prop} {F : Fl} {g : Lg} (hC : CF F μ ε) (hL : CL g μ) (hbd : fBd F) (hlf : -1 ≤ fL F ∧ fL F ≤ 1000) (hn : ∀ k : Nat, k < 8 → (lBrk F g k).2.2 = true → fU (lBrk F g k).1 k = 0 → (lBrk F g k).2.1.2.1.length < 8) (h0 : (lBrk F g 8).2.2 = false → ∀ μ9, CF (lBrk F g 8).1 μ9 ε → CL (lBrk F g 8).2.1 μ9 → FrX XP μ ε μ9 ε → Q (.inl (some (vI 0))) μ9 ε) (h1 : (lBrk F g 8).2.2 = true → ∀ μ9, CF (lBrk F g 8).1 μ9 ε → CL (lBrk F g 8).2.1 μ9 → FrX XP μ ε μ9 ε → Q (.inl (some (vI 1))) μ9 ε) : Sp mX3_eraseBroken [vR 8] μ ε Q := by
  refine Sp_of (L := [(0, vR 8)]) (by decide) rfl rfl (Nat.le_of_ble_eq_true rfl) ?_
  have hs := hC.1
  refine wq_iconst (pc := 0) dX3_eraseBroken_0 ?_
  refine wq_istore_n (pc := 1) (L' := [(1, _), (0, _)]) dX3_eraseBroken_1 rfl rfl (by decide) ?_
  have loop1 : ∀ (n k : Nat), ∀ (m : nMem) (i : Int), k ≤ 8 → 8 < k + n → i = (k : Int) → CF (lBrk F g k).1 m ε → CL (lBrk F g k).2.1 m → FrX XP μ ε m ε → (lBrk F g k).2.2 = true → wp mX3_eraseBroken 2 [(0, vR 8), (1, vI i)] [] m ε Q := by
    intro n
    induction n with
    | zero => intro k m i hk1 hk2 e0 e1 e2 e3 e4; exact absurd hk2 (by omega)
    | succ n ih =>
      intro k m i hk1 hk2 e0 e1 e2 e3 e4
      subst e0
      have hs := e1.1
      have u0 : k < 8 → m 4 k = fU (lBrk F g k).1 k ∧ 0 ≤ m 4 k ∧ m 4 k ≤ 40 := fun q => by
        have h9 := (CF_UC e1 (b := k) (by omega)).1
        rw [h9, lBrk_U F g k k (by omega)]
        have := hbd k (by omega) (by omega)
        exact ⟨rfl, this.1, this.2.1⟩
      refine wq_iload_n (pc := 2) dX3_eraseBroken_2 rfl rfl ?_
      refine wq_bipush (pc := 3) dX3_eraseBroken_3 (by decide) (by decide) ?_
      refine wq_icmp_ge (pc := 5) (tgt := 43) dX3_eraseBroken_5 (by decide) (by first | (unfold inR; omega) | assumption) (by first | (unfold inR; omega) | assumption) (fun c2 => ?_) (fun c2 => ?_)
      · skip
        refine wq_iconst (pc := 43) dX3_eraseBroken_43 ?_
        refine wq_zret (pc := 44) dX3_eraseBroken_44 rfl (by first | omega | (simp; done) | assumption) ?_
        first
          | (have hk9 : k = 8 := by omega
             subst hk9
             exact h1 e4 _ e1 e2 e3)
          | (have es : lBrk F g (k + 1) = ((fErR (lBrk F g k).1 k).1, (lBrk F g k).2.1, (fErR (lBrk F g k).1 k).2) := by rw [lBrk_s, if_neg (by rw [e4]; decide), if_pos (by rw [← u1]; assumption), if_neg (by rw [ha]; decide)]
             have ef : (lBrk F g (k + 1)).2.2 = false := by rw [es]; exact ha
             have e8 := lBrk_false ef (7 - k)
             rw [show k + 1 + (7 - k) = 8 by omega] at e8
             rw [e8, es] at h0
             exact h0 ha _ hC1 (CL_FrF e1.1 e1.2.1 e2 hF1) (FrX_trans e1.2.1 e3 (XP_F hF1)))
      · skip
        obtain ⟨u1, u2, u3⟩ := u0 (by omega)
        have hs := e1.1
        refine wq_aload_n (pc := 8) dX3_eraseBroken_8 rfl rfl ?_
        refine wq_getS (pc := 9) dX3_eraseBroken_9 hs (gf_X3_29 _ rfl) rfl rfl rfl rfl rfl ?_
        refine wq_iload_n (pc := 12) dX3_eraseBroken_12 rfl rfl ?_
        refine cVK_1 (pc := 13) dX3_eraseBroken_13 hs (cw_X3_39 _ rfl) (by decide) rfl ⟨by decide, by decide⟩ (Nat.le_of_ble_eq_true rfl) (sq_X0_usedOf hs (by omega) ?_)
        refine kr_s ?_
        refine wq_if_ne (pc := 16) (tgt := 37) dX3_eraseBroken_16 (by decide) (by first | (unfold inR; omega) | assumption) (fun c3 => ?_) (fun c3 => ?_)
        · skip
          refine wq_iinc (pc := 37) (L' := [(1, _), (0, _)]) dX3_eraseBroken_37 rfl rfl (by decide) ?_
          refine wq_goto (pc := 40) (tgt := 2) dX3_eraseBroken_40 (by decide) ?_
          refine wq_sub1 (L' := [(0, _), (1, _)]) ⟨rfl, rfl, trivial⟩ ?_
          first
            | (have es : lBrk F g (k + 1) = lBrk F g k := by rw [lBrk_s, if_neg (by rw [e4]; decide), if_neg (by rw [← u1]; assumption)]
               refine ih (k + 1) m _ (by omega) (by omega) (by omega) ?_ ?_ e3 ?_ <;> rw [es] <;> assumption)
            | (have es : lBrk F g (k + 1) = ((fErR (lBrk F g k).1 k).1, ((lBrk F g k).2.1.1, (lBrk F g k).2.1.2.1 ++ [(k : Int)], (lBrk F g k).2.1.2.2), (fErR (lBrk F g k).1 k).2) := by rw [lBrk_s, if_neg (by rw [e4]; decide), if_pos (by rw [← u1]; assumption), if_pos ha]
               refine ih (k + 1) m3 _ (by omega) (by omega) (by omega) ?_ ?_ hXc ?_ <;> rw [es] <;> assumption)
        · skip
          refine wq_aload_n (pc := 19) dX3_eraseBroken_19 rfl rfl ?_
          refine wq_getS (pc := 20) dX3_eraseBroken_20 hs (gf_X3_29 _ rfl) rfl rfl rfl rfl rfl ?_
          refine wq_iload_n (pc := 23) dX3_eraseBroken_23 rfl rfl ?_
          refine cVK_1 (pc := 24) dX3_eraseBroken_24 hs (cw_X3_83 _ rfl) (by decide) rfl ⟨by decide, by decide⟩ (Nat.le_of_ble_eq_true rfl) (sr_X0_erase e1 (by omega) (lBrk_L hlf k) (fun ha m1 hC1 hF1 => ?_) (fun ha m1 hC1 hF1 => ?_))
          · skip
            refine kr_s ?_
            refine wq_if_ne (pc := 27) (tgt := 32) dX3_eraseBroken_27 (by decide) (by first | (unfold inR; omega) | assumption) (fun c => absurd c (by decide)) (fun _ => ?_)
            refine wq_iconst (pc := 30) dX3_eraseBroken_30 ?_
            refine wq_zret (pc := 31) dX3_eraseBroken_31 rfl (by first | omega | (simp; done) | assumption) ?_
            first
              | (have hk9 : k = 8 := by omega
                 subst hk9
                 exact h1 e4 _ e1 e2 e3)
              | (have es : lBrk F g (k + 1) = ((fErR (lBrk F g k).1 k).1, (lBrk F g k).2.1, (fErR (lBrk F g k).1 k).2) := by rw [lBrk_s, if_neg (by rw [e4]; decide), if_pos (by rw [← u1]; assumption), if_neg (by rw [ha]; decide)]
                 have ef : (lBrk F g (k + 1)).2.2 = false := by rw [es]; exact ha
                 have e8 := lBrk_false ef (7 - k)
                 rw [show k + 1 + (7 - k) = 8 by omega] at e8
                 rw [e8, es] at h0
                 exact h0 ha _ hC1 (CL_FrF e1.1 e1.2.1 e2 hF1) (FrX_trans e1.2.1 e3 (XP_F hF1)))
          · skip
            refine kr_s ?_
            have hs := hC1.1
            have hL1 := CL_FrF e1.1 e1.2.1 e2 hF1
            have hX1 := FrX_trans e1.2.1 e3 (XP_F hF1)
            refine wq_if_ne (pc := 27) (tgt := 32) dX3_eraseBroken_27 (by decide) (by first | (unfold inR; omega) | assumption) (fun _ => ?_) (fun c => absurd c (by decide))
            refine wq_aload_n (pc := 32) dX3_eraseBroken_32 rfl rfl ?_
            refine wq_iload_n (pc := 33) dX3_eraseBroken_33 rfl rfl ?_
            refine cVK_1 (pc := 34) dX3_eraseBroken_34 hs (cw_X3_90 _ rfl) (by decide) rfl ⟨by decide, by decide⟩ (Nat.le_of_ble_eq_true rfl) (sp_X3_addFree hs hL1 (by omega) (hn k (by omega) e4 (by rw [← u1]; assumption)) (fun m3 hL3 hC3 hX3 => ?_))
            refine kr_v ?_
            have hCc := hC3 _ hC1
            have hXc := FrX_trans hC1.2.1 hX1 (XP_L hX3)
            have hs := hCc.1
            refine wq_iinc (pc := 37) (L' := [(1, _), (0, _)]) dX3_eraseBroken_37 rfl rfl (by decide) ?_
            refine wq_goto (pc := 40) (tgt := 2) dX3_eraseBroken_40 (by decide) ?_
            refine wq_sub1 (L' := [(0, _), (1, _)]) ⟨rfl, rfl, trivial⟩ ?_
            first
              | (have es : lBrk F g (k + 1) = lBrk F g k := by rw [lBrk_s, if_neg (by rw [e4]; decide), if_neg (by rw [← u1]; assumption)]
                 refine ih (k + 1) m _ (by omega) (by omega) (by omega) ?_ ?_ e3 ?_ <;> rw [es] <;> assumption)
              | (have es : lBrk F g (k + 1) = ((fErR (lBrk F g k).1 k).1, ((lBrk F g k).2.1.1, (lBrk F g k).2.1.2.1 ++ [(k : Int)], (lBrk F g k).2.1.2.2), (fErR (lBrk F g k).1 k).2) := by rw [lBrk_s, if_neg (by rw [e4]; decide), if_pos (by rw [← u1]; assumption), if_pos ha]
                 refine ih (k + 1) m3 _ (by omega) (by omega) (by omega) ?_ ?_ hXc ?_ <;> rw [es] <;> assumption)
  refine wq_sub1 (L' := [(0, _), (1, _)]) ⟨rfl, rfl, trivial⟩ ?_
  exact loop1 9 0 μ _ (by omega) (by omega) (by omega) hC hL (FrX_refl _ _ _) rfl
