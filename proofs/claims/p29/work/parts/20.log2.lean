/-- a change of the trial's three fields alone -/
def TrM (μ μ9 : nMem) : Prop := ∀ x j, ¬ (x = 8 ∧ 7 ≤ j ∧ j ≤ 9) → μ9 x j = μ x j
theorem TrM_refl (μ : nMem) : TrM μ μ := fun _ _ _ => rfl
theorem TrM_trans {μ μ1 μ2 : nMem} (h : TrM μ μ1) (k : TrM μ1 μ2) : TrM μ μ2 := fun x j q => (k x j q).trans (h x j q)
theorem TrM_wr {μ : nMem} {k v : Int} (h : 7 ≤ k ∧ k ≤ 9) : TrM μ (wr μ 8 k v) := fun x j q => wr_n _ _ (by omega)
theorem TrM_CF {F : Fl} {μ μ9 : nMem} {ε : nEnv} (h : TrM μ μ9) (hC : CF F μ ε) : CF F μ9 ε :=
  CF_mem hC (fun x hx j => h x j (fun q => by
    rcases hx with h | h | h | h | h | h | ⟨i, i0, i1, i2⟩
    · omega
    · omega
    · omega
    · omega
    · omega
    · omega
    · have := (hC.2.1.1 i i0 i1 (by omega)).1
      omega))
theorem TrM_CL {g : Lg} {μ μ9 : nMem} (h : TrM μ μ9) (hL : CL g μ) : CL g μ9 :=
  CL_mem hL ⟨h 8 4 (by omega), h 8 5 (by omega), h 8 6 (by omega)⟩ (fun j => h 10 j (by omega)) (fun j => h 11 j (by omega))
theorem CL_take {c : Int} {b : Int} {fr cl : List Int} {μ m : nMem} (hL : CL (c, b :: fr, cl) μ) (h1 : ∀ x j, x ≠ 10 → ¬ (x = 8 ∧ j = 5) → m x j = μ x j) (h2 : m 8 5 = fr.length) (h3 : ∀ j : Nat, j < fr.length → m 10 j = μ 10 ((j : Int) + 1)) : CL (c, fr, cl) m := by
  obtain ⟨c1, c2, c3, c4, c5, c6, c7, c8, c9⟩ := hL
  refine ⟨by rw [h1 8 4 (by omega) (by omega)]; exact c1, h2, fun i hi => ?_, by rw [h1 8 6 (by omega) (by omega)]; exact c4, fun i hi => by rw [h1 11 i (by omega) (by omega)]; exact c5 i hi, ?_, c7, fun x hx => c8 x (List.mem_cons_of_mem _ hx), c9⟩
  · have hi : i < fr.length := hi
    have e := c3 (i + 1) (by show i + 1 < (b :: fr).length; simp; omega)
    rw [h3 i hi]
    have e2 : (((i + 1 : Nat)) : Int) = (i : Int) + 1 := by omega
    rw [e2] at e
    rw [e]
    rfl
  · have : (b :: fr).length ≤ 8 := c6
    simp at this
    show fr.length ≤ 8
    omega
def kept (cl : List Int) (b : Int) (k : Nat) : List Int := (cl.take k).filter (fun x => !(x == b))
theorem kept_len (cl : List Int) (b : Int) (k : Nat) : (kept cl b k).length ≤ k := by
  unfold kept
  have := List.length_filter_le (fun x => !(x == b)) (cl.take k)
  rw [List.length_take] at this
  omega
theorem kept_s {cl : List Int} {b : Int} {k : Nat} (h : k < cl.length) : kept cl b (k + 1) = if cl.getD k 0 = b then kept cl b k else kept cl b k ++ [cl.getD k 0] := by
  unfold kept
  rw [List.take_succ, List.filter_append, List.getD_eq_getElem?_getD, List.getElem?_eq_getElem h]
  by_cases e : cl[k] = b
  · simp [e]
  · simp [e]
theorem kept_all (cl : List Int) (b : Int) {k : Nat} (h : cl.length ≤ k) : kept cl b k = cl.filter (fun x => !(x == b)) := by
  unfold kept
  rw [List.take_of_length_le h]
/-- the flash and the power behind one node's writing, whole or not -/
def fApR (F : Fl) (b : Int) (src : Int → Int) : Fl × Bool := if 0 ≤ fL F ∧ fL F < src 1 then (fDark (fApp F b src (fL F).toNat), false) else (fApp F b src (src 1).toNat, true)
theorem sr_X0_append {μ : nMem} {ε : nEnv} {Q : nOut → nMem → nEnv → Prop} {F : Fl} {b o : Int} {t : Nat} (hC : CF F μ ε) (hb : 0 ≤ b ∧ b < 8) (hc : 0 ≤ fC F b ∧ fC F b < 16) (hlf : -1 ≤ fL F ∧ fL F ≤ 1000) (hsrc : srcOK F μ ε b o) (hu : 1 ≤ μ o 1) (hcap : Cap μ ε t)
    (h0 : (fApR F b (μ o)).2 = false → ∀ μ9 ε9, CF (fApR F b (μ o)).1 μ9 ε9 → FrF μ ε μ9 ε9 → Q (.inl (some (vI 0))) μ9 ε9) (h1 : (fApR F b (μ o)).2 = true → ∀ μ9 ε9, CF (fApR F b (μ o)).1 μ9 ε9 → FrF μ ε μ9 ε9 → Q (.inl (some (vI 1))) μ9 ε9) : Sp mX0_append [vR 2, vI b, vR o] μ ε Q := by
  refine sp_X0_append hC hb hc hlf hsrc hu hcap (fun k μ9 ε9 k1 k2 k3 k4 => ?_) (fun μ9 ε9 k1 k2 k3 => ?_)
  · have e : fApR F b (μ o) = (fDark (fApp F b (μ o) k), false) := by
      unfold fApR
      rw [if_pos (by omega), show (fL F).toNat = k by omega]
    rw [e] at h0
    exact h0 rfl μ9 ε9 k3 k4
  · have e : fApR F b (μ o) = (fApp F b (μ o) (μ o 1).toNat, true) := by
      unfold fApR
      rw [if_neg (by omega)]
    rw [e] at h1
    exact h1 rfl μ9 ε9 k2 k3
theorem bt_fin {μ : nMem} {v : Int} {P : nMem → Prop} (k : ∀ m1, TrM μ m1 → m1 8 7 = v → P m1) : P (wr μ 8 7 v) := k _ (TrM_wr (by omega)) (wr_s _ _ _ _)
theorem bt_fin2 {μ m : nMem} {v n : Int} {P : nMem → Prop} (hT : TrM μ m) (k : ∀ m1, TrM μ m1 → m1 8 7 = m 8 7 → m1 8 8 = v → m1 8 9 = n → P m1) : P (wr (wr m 8 8 v) 8 9 n) :=
  k _ (TrM_trans hT (TrM_trans (TrM_wr (by omega)) (TrM_wr (by omega)))) (by rw [wr_n _ _ (by omega), wr_n _ _ (by omega)]) (by rw [wr_n _ _ (by omega), wr_s]) (wr_s _ _ _ _)
theorem tt_fin {μ : nMem} {v : Int} {P : nMem → Prop} (k : ∀ m1, TrM μ m1 → m1 8 7 = 1 → m1 8 8 = 0 → m1 8 9 = v → P m1) : P (wr (wr (wr μ 8 9 v) 8 7 1) 8 8 0) :=
  k _ (TrM_trans (TrM_wr (by omega)) (TrM_trans (TrM_wr (by omega)) (TrM_wr (by omega)))) (by rw [wr_n _ _ (by omega), wr_s]) (wr_s _ _ _ _) (by rw [wr_n _ _ (by omega), wr_n _ _ (by omega), wr_s])
theorem sp_X3_takeFree {μ : nMem} {ε : nEnv} {Q : nOut → nMem → nEnv → Prop} {c b : Int} {fr cl : List Int} (hs : SkP skC ε) (hL : CL (c, b :: fr, cl) μ) (h : ∀ μ9, CL (c, fr, cl) μ9 → (∀ F, CF F μ ε → CF F μ9 ε) → FrX (fun x => x = 8 ∨ x = 10 ∨ x = 11) μ ε μ9 ε → Q (.inl (some (vI b))) μ9 ε) : Sp mX3_takeFree [vR 8] μ ε Q := by
  refine Sp_of (L := [(0, vR 8)]) (by decide) rfl rfl (Nat.le_of_ble_eq_true rfl) ?_
  have c5 : μ 8 5 = ((b :: fr).length : Nat) := hL.2.1
  have c6 : (b :: fr).length ≤ 8 := hL.2.2.2.2.2.1
  rw [List.length_cons] at c5 c6
  have hb0 : μ 10 0 = b := hL.2.2.1 0 (by show 0 < (b :: fr).length; simp)
  refine wq_aload_n (pc := 0) dX3_takeFree_0 rfl rfl ?_
  refine wq_getIK (pc := 1) (kk := 5) dX3_takeFree_1 hs (gf_X3_33 _ rfl) rfl rfl rfl rfl ?_
  refine wq_if_gt (pc := 4) (tgt := 9) dX3_takeFree_4 (by decide) (by first | (unfold inR; omega) | assumption) (fun c1 => ?_) (fun c1 => ?_)
  · skip
    refine wq_aload_n (pc := 9) dX3_takeFree_9 rfl rfl ?_
    refine wq_getS (pc := 10) dX3_takeFree_10 hs (gf_X3_18 _ rfl) rfl rfl rfl rfl rfl ?_
    refine wq_iconst (pc := 13) dX3_takeFree_13 ?_
    refine wq_ialdK (pc := 14) dX3_takeFree_14 hs rfl (by omega) (by omega) ?_
    refine wq_istore_n (pc := 15) (L' := [(1, _), (0, _)]) dX3_takeFree_15 rfl rfl (by decide) ?_
    refine wq_aload_n (pc := 16) dX3_takeFree_16 rfl rfl ?_
    refine wq_dup (pc := 17) dX3_takeFree_17 rfl ?_
    refine wq_getIK (pc := 18) (kk := 5) dX3_takeFree_18 hs (gf_X3_33 _ rfl) rfl rfl rfl rfl ?_
    refine wq_iconst (pc := 21) dX3_takeFree_21 ?_
    refine wq_isub (pc := 22) dX3_takeFree_22 ?_
    refine wq_putIK (pc := 23) (kk := 5) dX3_takeFree_23 hs (gf_X3_33 _ rfl) rfl rfl rfl rfl rfl ?_
    refine wq_iconst (pc := 26) dX3_takeFree_26 ?_
    refine wq_istore_n (pc := 27) (L' := [(2, _), (1, _), (0, _)]) dX3_takeFree_27 rfl rfl (by decide) ?_
    have loop2 : ∀ (n k : Nat), ∀ (m : nMem) (i : Int), k ≤ 8 → 8 < k + n → i = (k : Int) → (k ≤ fr.length) → (∀ x j, x ≠ 10 → ¬ (x = 8 ∧ j = 5) → m x j = μ x j) → m 8 5 = fr.length → (∀ j : Nat, j < k → m 10 j = μ 10 ((j : Int) + 1)) → (∀ j : Int, (k : Int) ≤ j → m 10 j = μ 10 j) → wp mX3_takeFree 28 [(0, vR 8), (1, vI (μ 10 0)), (2, vI i)] [] m ε Q := by
      intro n
      induction n with
      | zero => intro k m i hk1 hk2 e0 e1 e2 e3 e4 e5; exact absurd hk2 (by omega)
      | succ n ih =>
        intro k m i hk1 hk2 e0 e1 e2 e3 e4 e5
        subst e0
        refine wq_iload_n (pc := 28) dX3_takeFree_28 rfl rfl ?_
        refine wq_aload_n (pc := 29) dX3_takeFree_29 rfl rfl ?_
        refine wq_getIK (pc := 30) (kk := 5) dX3_takeFree_30 hs (gf_X3_33 _ rfl) rfl rfl rfl rfl ?_
        refine wq_icmp_ge (pc := 33) (tgt := 64) dX3_takeFree_33 (by decide) (by first | (unfold inR; omega) | assumption) (by first | (unfold inR; omega) | assumption) (fun c3 => ?_) (fun c3 => ?_)
        · skip
          refine wq_iload_n (pc := 64) dX3_takeFree_64 rfl rfl ?_
          refine wq_iret (pc := 65) dX3_takeFree_65 rfl ?_
          have hk9 : k = fr.length := by omega
          subst hk9
          rw [hb0]
          refine h _ (CL_take hL e2 e3 e4) (fun F hF => CF_mem hF (fun x hx j => e2 x j ?_ ?_)) (FrX_mem (fun x hx j => e2 x j (by omega) (by omega)) (fun j => e2 3 j (by omega) (by omega)) (fun j => e2 13 j (by omega) (by omega)))
          · intro q
            rcases hx with h | h | h | h | h | h | hx
            · omega
            · omega
            · omega
            · omega
            · omega
            · omega
            · exact not_row hF.2.1 (by omega) (Or.inr (by omega)) hx
          · intro q
            rcases hx with h | h | h | h | h | h | hx
            · omega
            · omega
            · omega
            · omega
            · omega
            · omega
            · exact not_row hF.2.1 (by omega) (Or.inr (by omega)) hx
        · skip
          refine wq_iload_n (pc := 36) dX3_takeFree_36 rfl rfl ?_
          refine wq_iconst (pc := 37) dX3_takeFree_37 ?_
          refine wq_iadd (pc := 38) dX3_takeFree_38 ?_
          refine wq_bipush (pc := 39) dX3_takeFree_39 (by decide) (by decide) ?_
          refine wq_icmp_ge (pc := 41) (tgt := 64) dX3_takeFree_41 (by decide) (by first | (unfold inR; omega) | assumption) (by first | (unfold inR; omega) | assumption) (fun c4 => ?_) (fun c4 => ?_)
          · skip
            refine wq_iload_n (pc := 64) dX3_takeFree_64 rfl rfl ?_
            refine wq_iret (pc := 65) dX3_takeFree_65 rfl ?_
            have hk9 : k = fr.length := by omega
            subst hk9
            rw [hb0]
            refine h _ (CL_take hL e2 e3 e4) (fun F hF => CF_mem hF (fun x hx j => e2 x j ?_ ?_)) (FrX_mem (fun x hx j => e2 x j (by omega) (by omega)) (fun j => e2 3 j (by omega) (by omega)) (fun j => e2 13 j (by omega) (by omega)))
            · intro q
              rcases hx with h | h | h | h | h | h | hx
              · omega
              · omega
              · omega
              · omega
              · omega
              · omega
              · exact not_row hF.2.1 (by omega) (Or.inr (by omega)) hx
            · intro q
              rcases hx with h | h | h | h | h | h | hx
              · omega
              · omega
              · omega
              · omega
              · omega
              · omega
              · exact not_row hF.2.1 (by omega) (Or.inr (by omega)) hx
          · skip
            refine wq_aload_n (pc := 44) dX3_takeFree_44 rfl rfl ?_
            refine wq_getS (pc := 45) dX3_takeFree_45 hs (gf_X3_18 _ rfl) rfl rfl rfl rfl rfl ?_
            refine wq_iload_n (pc := 48) dX3_takeFree_48 rfl rfl ?_
            refine wq_aload_n (pc := 49) dX3_takeFree_49 rfl rfl ?_
            refine wq_getS (pc := 50) dX3_takeFree_50 hs (gf_X3_18 _ rfl) rfl rfl rfl rfl rfl ?_
            refine wq_iload_n (pc := 53) dX3_takeFree_53 rfl rfl ?_
            refine wq_iconst (pc := 54) dX3_takeFree_54 ?_
            refine wq_iadd (pc := 55) dX3_takeFree_55 ?_
            refine wq_ialdK (pc := 56) dX3_takeFree_56 hs rfl (by omega) (by omega) ?_
            refine wq_iastK (pc := 57) dX3_takeFree_57 hs rfl (by omega) (by omega) ?_
            refine wq_iinc (pc := 58) (L' := [(2, _), (0, _), (1, _)]) dX3_takeFree_58 rfl rfl (by decide) ?_
            refine wq_goto (pc := 61) (tgt := 28) dX3_takeFree_61 (by decide) ?_
            refine wq_sub1 (L' := [(0, _), (1, _), (2, _)]) ⟨rfl, rfl, rfl, trivial⟩ ?_
            refine ih (k + 1) _ _ (by omega) (by omega) (by omega) (by omega) (fun x j q1 q2 => by rw [wr_n _ _ (fun q => q1 q.1)]; exact e2 x j q1 q2) (by rw [wr_n _ _ (by omega)]; exact e3) (fun j q1 => ?_) (fun j q1 => by rw [wr_n _ _ (by omega)]; exact e5 j (by omega))
            by_cases e : j = k
            · subst e; rw [wr_s, e5 _ (by omega)]
            · rw [wr_n _ _ (by omega)]; exact e4 j (by omega)
    refine wq_sub1 (L' := [(0, _), (1, _), (2, _)]) ⟨rfl, rfl, rfl, trivial⟩ ?_
    exact loop2 9 0 _ _ (by omega) (by omega) (by omega) (by omega) (fun x j q1 q2 => wr_n _ _ (fun q => q2 q)) (by rw [wr_s]; omega) (fun j q1 => absurd q1 (by omega)) (fun j q1 => wr_n _ _ (by omega))
  · skip
    exfalso; omega
theorem sp_X3_dropClosed {μ : nMem} {ε : nEnv} {Q : nOut → nMem → nEnv → Prop} {c b : Int} {fr cl : List Int} (hs : SkP skC ε) (hL : CL (c, fr, cl) μ) (hb : 0 ≤ b ∧ b < 8) (h : ∀ μ9, CL (c, fr, cl.filter (fun x => !(x == b))) μ9 → (∀ F, CF F μ ε → CF F μ9 ε) → FrX (fun x => x = 8 ∨ x = 10 ∨ x = 11) μ ε μ9 ε → Q (.inl none) μ9 ε) : Sp mX3_dropClosed [vR 8, vI b] μ ε Q := by
  refine Sp_of (L := [(0, vR 8), (1, vI b)]) (by decide) rfl rfl (Nat.le_of_ble_eq_true rfl) ?_
  have c5 : μ 8 6 = (cl.length : Nat) := hL.2.2.2.1
  have c6 : cl.length ≤ 8 := hL.2.2.2.2.2.2.1
  refine wq_iconst (pc := 0) dX3_dropClosed_0 ?_
  refine wq_istore_n (pc := 1) (L' := [(2, _), (0, _), (1, _)]) dX3_dropClosed_1 rfl rfl (by decide) ?_
  refine wq_iconst (pc := 2) dX3_dropClosed_2 ?_
  refine wq_istore_n (pc := 3) (L' := [(3, _), (2, _), (0, _), (1, _)]) dX3_dropClosed_3 rfl rfl (by decide) ?_
  have loop1 : ∀ (n k : Nat), ∀ (m : nMem) (kp i : Int), k ≤ 8 → 8 < k + n → i = (k : Int) → kp = ((kept cl b k).length : Nat) → (k ≤ cl.length) → (∀ x j, x ≠ 11 → m x j = μ x j) → (∀ j : Nat, j < (kept cl b k).length → m 11 j = (kept cl b k).getD j 0) → (∀ j : Int, (k : Int) ≤ j → m 11 j = μ 11 j) → wp mX3_dropClosed 4 [(0, vR 8), (1, vI b), (2, vI kp), (3, vI i)] [] m ε Q := by
    intro n
    induction n with
    | zero => intro k m kp i hk1 hk2 e0 e1 e2 e3 e4 e5; exact absurd hk2 (by omega)
    | succ n ih =>
      intro k m kp i hk1 hk2 e0 e1 e2 e3 e4 e5
      subst e0
      have kl := kept_len cl b k
      have e86 : m 8 6 = cl.length := by rw [e3 8 6 (by omega)]; exact c5
      have gk : k < cl.length → m 11 k = cl.getD k 0 ∧ 0 ≤ m 11 k ∧ m 11 k < 8 := fun q => by
        obtain ⟨q1, q2⟩ := lsAt_get hL.2.2.2.2.1 (i := k) (by omega) (by show (k : Int) < cl.length; omega)
        rw [e5 k (by omega)]
        exact ⟨q1, hL.2.2.2.2.2.2.2.2 _ q2⟩
      refine wq_iload_n (pc := 4) dX3_dropClosed_4 rfl rfl ?_
      refine wq_aload_n (pc := 5) dX3_dropClosed_5 rfl rfl ?_
      refine wq_getIK (pc := 6) (kk := 6) dX3_dropClosed_6 hs (gf_X3_36 _ rfl) rfl rfl rfl rfl ?_
      refine wq_icmp_ge (pc := 9) (tgt := 49) dX3_dropClosed_9 (by decide) (by first | (unfold inR; omega) | assumption) (by first | (unfold inR; omega) | assumption) (fun c2 => ?_) (fun c2 => ?_)
      · skip
        refine wq_aload_n (pc := 49) dX3_dropClosed_49 rfl rfl ?_
        refine wq_iload_n (pc := 50) dX3_dropClosed_50 rfl rfl ?_
        refine wq_putIK (pc := 51) (kk := 6) dX3_dropClosed_51 hs (gf_X3_36 _ rfl) rfl rfl rfl rfl rfl ?_
        refine wq_vret (pc := 54) dX3_dropClosed_54 rfl ?_
        have hk9 : k = cl.length := by omega
        subst hk9
        have hka := kept_all cl b (Nat.le_refl cl.length)
        rw [hka] at e1 e4
        have hle : (cl.filter (fun x => !(x == b))).length ≤ cl.length := List.length_filter_le _ _
        have hm : ∀ x j, x ≠ 11 → ¬ (x = 8 ∧ j = 6) → wr m 8 6 kp x j = μ x j := fun x j q1 q2 => by rw [wr_n _ _ q2]; exact e3 x j q1
        have hx : ∀ x, ¬ (x = 8 ∨ x = 10 ∨ x = 11) → ∀ j, wr m 8 6 kp x j = μ x j := fun x q j => hm x j (by omega) (by omega)
        refine h _ ⟨by rw [hm 8 4 (by omega) (by omega)]; exact hL.1, by rw [hm 8 5 (by omega) (by omega)]; exact hL.2.1, fun i hi => by rw [hm 10 i (by omega) (by omega)]; exact hL.2.2.1 i hi, by rw [wr_s]; exact e1, fun i hi => by rw [wr_n _ _ (by omega)]; exact e4 i hi, hL.2.2.2.2.2.1, by show (cl.filter (fun x => !(x == b))).length ≤ 8; omega, hL.2.2.2.2.2.2.2.1, fun x q => hL.2.2.2.2.2.2.2.2 x (List.mem_filter.mp q).1⟩ (fun F hF => CF_mem hF (fun x q j => hx x ?_ j)) (FrX_mem hx (fun j => hx 3 (by omega) j) (fun j => hx 13 (by omega) j))
        rintro q9
        rcases q with h | h | h | h | h | h | q
        · omega
        · omega
        · omega
        · omega
        · omega
        · omega
        · exact not_row hF.2.1 (by omega) (Or.inr (by omega)) q
      · skip
        obtain ⟨g1, g2, g3⟩ := gk (by omega)
        refine wq_iload_n (pc := 12) dX3_dropClosed_12 rfl rfl ?_
        refine wq_bipush (pc := 13) dX3_dropClosed_13 (by decide) (by decide) ?_
        refine wq_icmp_ge (pc := 15) (tgt := 49) dX3_dropClosed_15 (by decide) (by first | (unfold inR; omega) | assumption) (by first | (unfold inR; omega) | assumption) (fun c3 => ?_) (fun c3 => ?_)
        · skip
          refine wq_aload_n (pc := 49) dX3_dropClosed_49 rfl rfl ?_
          refine wq_iload_n (pc := 50) dX3_dropClosed_50 rfl rfl ?_
          refine wq_putIK (pc := 51) (kk := 6) dX3_dropClosed_51 hs (gf_X3_36 _ rfl) rfl rfl rfl rfl rfl ?_
          refine wq_vret (pc := 54) dX3_dropClosed_54 rfl ?_
          have hk9 : k = cl.length := by omega
          subst hk9
          have hka := kept_all cl b (Nat.le_refl cl.length)
          rw [hka] at e1 e4
          have hle : (cl.filter (fun x => !(x == b))).length ≤ cl.length := List.length_filter_le _ _
          have hm : ∀ x j, x ≠ 11 → ¬ (x = 8 ∧ j = 6) → wr m 8 6 kp x j = μ x j := fun x j q1 q2 => by rw [wr_n _ _ q2]; exact e3 x j q1
          have hx : ∀ x, ¬ (x = 8 ∨ x = 10 ∨ x = 11) → ∀ j, wr m 8 6 kp x j = μ x j := fun x q j => hm x j (by omega) (by omega)
          refine h _ ⟨by rw [hm 8 4 (by omega) (by omega)]; exact hL.1, by rw [hm 8 5 (by omega) (by omega)]; exact hL.2.1, fun i hi => by rw [hm 10 i (by omega) (by omega)]; exact hL.2.2.1 i hi, by rw [wr_s]; exact e1, fun i hi => by rw [wr_n _ _ (by omega)]; exact e4 i hi, hL.2.2.2.2.2.1, by show (cl.filter (fun x => !(x == b))).length ≤ 8; omega, hL.2.2.2.2.2.2.2.1, fun x q => hL.2.2.2.2.2.2.2.2 x (List.mem_filter.mp q).1⟩ (fun F hF => CF_mem hF (fun x q j => hx x ?_ j)) (FrX_mem hx (fun j => hx 3 (by omega) j) (fun j => hx 13 (by omega) j))
          rintro q9
          rcases q with h | h | h | h | h | h | q
          · omega
          · omega
          · omega
          · omega
          · omega
          · omega
          · exact not_row hF.2.1 (by omega) (Or.inr (by omega)) q
        · skip
          refine wq_aload_n (pc := 18) dX3_dropClosed_18 rfl rfl ?_
          refine wq_getS (pc := 19) dX3_dropClosed_19 hs (gf_X3_22 _ rfl) rfl rfl rfl rfl rfl ?_
          refine wq_iload_n (pc := 22) dX3_dropClosed_22 rfl rfl ?_
          refine wq_ialdK (pc := 23) dX3_dropClosed_23 hs rfl (by omega) (by omega) ?_
          refine wq_iload_n (pc := 24) dX3_dropClosed_24 rfl rfl ?_
          refine wq_icmp_eq (pc := 25) (tgt := 43) dX3_dropClosed_25 (by decide) (by first | (unfold inR; omega) | assumption) (by first | (unfold inR; omega) | assumption) (fun c4 => ?_) (fun c4 => ?_)
          · skip
            refine wq_iinc (pc := 43) (L' := [(3, _), (0, _), (1, _), (2, _)]) dX3_dropClosed_43 rfl rfl (by decide) ?_
            refine wq_goto (pc := 46) (tgt := 4) dX3_dropClosed_46 (by decide) ?_
            refine wq_sub1 (L' := [(0, _), (1, _), (2, _), (3, _)]) ⟨rfl, rfl, rfl, rfl, trivial⟩ ?_
            first
              | (refine ih (k + 1) m _ _ (by omega) (by omega) (by omega) ?_ (by omega) e3 ?_ (fun j q1 => e5 j (by omega)) <;> rw [kept_s (by omega), if_pos (by omega)]
                 · exact e1
                 · exact e4)
              | (refine ih (k + 1) _ _ _ (by omega) (by omega) (by omega) ?_ (by omega) (fun x j q1 => by rw [wr_n _ _ (fun q => q1 q.1)]; exact e3 x j q1) ?_ (fun j q1 => by rw [wr_n _ _ (by omega)]; exact e5 j (by omega)) <;> rw [kept_s (by omega), if_neg (by omega), List.length_append]
                 · rw [e1]; simp
                 · intro j q1
                   have q1 : j < (kept cl b k).length + 1 := q1
                   simp only [List.getD_eq_getElem?_getD]
                   by_cases e : j = (kept cl b k).length
                   · rw [show (j : Int) = kp by omega, wr_s, e, g1]; simp
                   · rw [wr_n _ _ (by omega), List.getElem?_append_left (by omega), e4 j (by omega)]; simp)
          · skip
            refine wq_aload_n (pc := 28) dX3_dropClosed_28 rfl rfl ?_
            refine wq_getS (pc := 29) dX3_dropClosed_29 hs (gf_X3_22 _ rfl) rfl rfl rfl rfl rfl ?_
            refine wq_iload_n (pc := 32) dX3_dropClosed_32 rfl rfl ?_
            refine wq_aload_n (pc := 33) dX3_dropClosed_33 rfl rfl ?_
            refine wq_getS (pc := 34) dX3_dropClosed_34 hs (gf_X3_22 _ rfl) rfl rfl rfl rfl rfl ?_
            refine wq_iload_n (pc := 37) dX3_dropClosed_37 rfl rfl ?_
            refine wq_ialdK (pc := 38) dX3_dropClosed_38 hs rfl (by omega) (by omega) ?_
            refine wq_iastK (pc := 39) dX3_dropClosed_39 hs rfl (by omega) (by omega) ?_
            refine wq_iinc (pc := 40) (L' := [(2, _), (0, _), (1, _), (3, _)]) dX3_dropClosed_40 rfl rfl (by decide) ?_
            refine wq_iinc (pc := 43) (L' := [(3, _), (2, _), (0, _), (1, _)]) dX3_dropClosed_43 rfl rfl (by decide) ?_
            refine wq_goto (pc := 46) (tgt := 4) dX3_dropClosed_46 (by decide) ?_
            refine wq_sub1 (L' := [(0, _), (1, _), (2, _), (3, _)]) ⟨rfl, rfl, rfl, rfl, trivial⟩ ?_
            first
              | (refine ih (k + 1) m _ _ (by omega) (by omega) (by omega) ?_ (by omega) e3 ?_ (fun j q1 => e5 j (by omega)) <;> rw [kept_s (by omega), if_pos (by omega)]
                 · exact e1
                 · exact e4)
              | (refine ih (k + 1) _ _ _ (by omega) (by omega) (by omega) ?_ (by omega) (fun x j q1 => by rw [wr_n _ _ (fun q => q1 q.1)]; exact e3 x j q1) ?_ (fun j q1 => by rw [wr_n _ _ (by omega)]; exact e5 j (by omega)) <;> rw [kept_s (by omega), if_neg (by omega), List.length_append]
                 · rw [e1]; simp
                 · intro j q1
                   have q1 : j < (kept cl b k).length + 1 := q1
                   simp only [List.getD_eq_getElem?_getD]
                   by_cases e : j = (kept cl b k).length
                   · rw [show (j : Int) = kp by omega, wr_s, e, g1]; simp
                   · rw [wr_n _ _ (by omega), List.getElem?_append_left (by omega), e4 j (by omega)]; simp)
  refine wq_sub1 (L' := [(0, _), (1, _), (2, _), (3, _)]) ⟨rfl, rfl, rfl, rfl, trivial⟩ ?_
  exact loop1 9 0 μ _ _ (by omega) (by omega) (by omega) rfl (by omega) (fun x j _ => rfl) (fun j q1 => absurd q1 (by simp [kept])) (fun j q1 => rfl)
theorem sp_X3_beginTrial {μ : nMem} {ε : nEnv} {Q : nOut → nMem → nEnv → Prop} {F : Fl} {g : Lg} {n : Int} (hC : CF F μ ε) (hL : CL g μ) (hg : g.1 = -1 ∨ (0 ≤ g.1 ∧ g.1 < 8)) (h : ∀ μ9, TrM μ μ9 → μ9 8 7 = (if g.1 = -1 then 40 else fU F g.1) → μ9 8 8 = (if g.1 = -1 then 0 else fC F g.1) → μ9 8 9 = n → Q (.inl none) μ9 ε) : Sp mX3_beginTrial [vR 8, vI n] μ ε Q := by
  refine Sp_of (L := [(0, vR 8), (1, vI n)]) (by decide) rfl rfl (Nat.le_of_ble_eq_true rfl) ?_
  have hs := hC.1
  have c4 := hL.1
  have e4 : g.1 = -1 ∨ (μ 4 g.1 = fU F g.1 ∧ μ 5 g.1 = fC F g.1) := hg.imp id (fun q => ⟨(hC.2.2.2.2.1 g.1 q.1 q.2).1, (hC.2.2.2.2.1 g.1 q.1 q.2).2.1⟩)
  refine wq_aload_n (pc := 0) dX3_beginTrial_0 rfl rfl ?_
  refine wq_aload_n (pc := 1) dX3_beginTrial_1 rfl rfl ?_
  refine wq_getIK (pc := 2) (kk := 4) dX3_beginTrial_2 hs (gf_X3_25 _ rfl) rfl rfl rfl rfl ?_
  refine wq_iconst (pc := 5) dX3_beginTrial_5 ?_
  refine wq_icmp_ne (pc := 6) (tgt := 14) dX3_beginTrial_6 (by decide) (by first | (unfold inR; omega) | assumption) (by first | (unfold inR; omega) | assumption) (fun c1 => ?_) (fun c1 => ?_)
  · skip
    refine wq_aload_n (pc := 14) dX3_beginTrial_14 rfl rfl ?_
    refine wq_getS (pc := 15) dX3_beginTrial_15 hs (gf_X3_29 _ rfl) rfl rfl rfl rfl rfl ?_
    refine wq_aload_n (pc := 18) dX3_beginTrial_18 rfl rfl ?_
    refine wq_getIK (pc := 19) (kk := 4) dX3_beginTrial_19 hs (gf_X3_25 _ rfl) rfl rfl rfl rfl ?_
    refine cVK_1 (pc := 22) dX3_beginTrial_22 hs (cw_X3_39 _ rfl) (by decide) rfl ⟨by decide, by decide⟩ (Nat.le_of_ble_eq_true rfl) (sp_X0_usedOf hs (by first | (unfold inR; omega) | assumption) (fun hh2 => ?_) (fun hh3 => ?_))
    · skip
      refine kr_s ?_
      refine wq_putIK (pc := 25) (kk := 7) dX3_beginTrial_25 hs (gf_X3_45 _ rfl) rfl rfl rfl rfl rfl ?_
      refine bt_fin (P := fun mm => wp mX3_beginTrial 28 _ _ mm ε Q) (fun m1 hT1 h17 => ?_)
      have hC1 := TrM_CF hT1 hC
      have c41 : m1 8 4 = g.1 := (TrM_CL hT1 hL).1
      have e41 : g.1 = -1 ∨ m1 5 g.1 = fC F g.1 := hg.imp id (fun q => (hC1.2.2.2.2.1 g.1 q.1 q.2).2.1)
      refine wq_aload_n (pc := 28) dX3_beginTrial_28 rfl rfl ?_
      refine wq_aload_n (pc := 29) dX3_beginTrial_29 rfl rfl ?_
      refine wq_getS (pc := 30) dX3_beginTrial_30 hs (gf_X3_29 _ rfl) rfl rfl rfl rfl rfl ?_
      refine wq_aload_n (pc := 33) dX3_beginTrial_33 rfl rfl ?_
      refine wq_getIK (pc := 34) (kk := 4) dX3_beginTrial_34 hs (gf_X3_25 _ rfl) rfl rfl rfl rfl ?_
      refine cVK_1 (pc := 37) dX3_beginTrial_37 hs (cw_X3_48 _ rfl) (by decide) rfl ⟨by decide, by decide⟩ (Nat.le_of_ble_eq_true rfl) (sp_X0_countOf hs (by first | (unfold inR; omega) | assumption) (fun hh4 => ?_) (fun hh5 => ?_))
      · skip
        refine kr_s ?_
        refine wq_putIK (pc := 40) (kk := 8) dX3_beginTrial_40 hs (gf_X3_51 _ rfl) rfl rfl rfl rfl rfl ?_
        refine wq_aload_n (pc := 43) dX3_beginTrial_43 rfl rfl ?_
        refine wq_iload_n (pc := 44) dX3_beginTrial_44 rfl rfl ?_
        refine wq_putIK (pc := 45) (kk := 9) dX3_beginTrial_45 hs (gf_X3_54 _ rfl) rfl rfl rfl rfl rfl ?_
        refine wq_vret (pc := 48) dX3_beginTrial_48 rfl ?_
        first
          | (exfalso; omega)
          | (refine bt_fin2 (P := fun mm => Q (.inl none) mm ε) hT1 (fun m2 q1 q2 q3 q4 => h m2 q1 ?_ ?_ q4)
             · rw [q2, h17]
               first | (rw [if_pos (by omega)]; done) | (rw [if_neg (by omega), c4]; rcases e4 with e | e; (exfalso; omega); exact e.1)
             · rw [q3]
               first | (rw [if_pos (by omega)]; done) | (rw [if_neg (by omega), c41]; rcases e41 with e | e; (exfalso; omega); exact e))
      · skip
        refine kr_s ?_
        refine wq_putIK (pc := 40) (kk := 8) dX3_beginTrial_40 hs (gf_X3_51 _ rfl) rfl rfl rfl rfl rfl ?_
        refine wq_aload_n (pc := 43) dX3_beginTrial_43 rfl rfl ?_
        refine wq_iload_n (pc := 44) dX3_beginTrial_44 rfl rfl ?_
        refine wq_putIK (pc := 45) (kk := 9) dX3_beginTrial_45 hs (gf_X3_54 _ rfl) rfl rfl rfl rfl rfl ?_
        refine wq_vret (pc := 48) dX3_beginTrial_48 rfl ?_
        first
          | (exfalso; omega)
          | (refine bt_fin2 (P := fun mm => Q (.inl none) mm ε) hT1 (fun m2 q1 q2 q3 q4 => h m2 q1 ?_ ?_ q4)
             · rw [q2, h17]
               first | (rw [if_pos (by omega)]; done) | (rw [if_neg (by omega), c4]; rcases e4 with e | e; (exfalso; omega); exact e.1)
             · rw [q3]
               first | (rw [if_pos (by omega)]; done) | (rw [if_neg (by omega), c41]; rcases e41 with e | e; (exfalso; omega); exact e))
    · skip
      refine kr_s ?_
      refine wq_putIK (pc := 25) (kk := 7) dX3_beginTrial_25 hs (gf_X3_45 _ rfl) rfl rfl rfl rfl rfl ?_
      refine bt_fin (P := fun mm => wp mX3_beginTrial 28 _ _ mm ε Q) (fun m1 hT1 h17 => ?_)
      have hC1 := TrM_CF hT1 hC
      have c41 : m1 8 4 = g.1 := (TrM_CL hT1 hL).1
      have e41 : g.1 = -1 ∨ m1 5 g.1 = fC F g.1 := hg.imp id (fun q => (hC1.2.2.2.2.1 g.1 q.1 q.2).2.1)
      refine wq_aload_n (pc := 28) dX3_beginTrial_28 rfl rfl ?_
      refine wq_aload_n (pc := 29) dX3_beginTrial_29 rfl rfl ?_
      refine wq_getS (pc := 30) dX3_beginTrial_30 hs (gf_X3_29 _ rfl) rfl rfl rfl rfl rfl ?_
      refine wq_aload_n (pc := 33) dX3_beginTrial_33 rfl rfl ?_
      refine wq_getIK (pc := 34) (kk := 4) dX3_beginTrial_34 hs (gf_X3_25 _ rfl) rfl rfl rfl rfl ?_
      refine cVK_1 (pc := 37) dX3_beginTrial_37 hs (cw_X3_48 _ rfl) (by decide) rfl ⟨by decide, by decide⟩ (Nat.le_of_ble_eq_true rfl) (sp_X0_countOf hs (by first | (unfold inR; omega) | assumption) (fun hh6 => ?_) (fun hh7 => ?_))
      · skip
        refine kr_s ?_
        refine wq_putIK (pc := 40) (kk := 8) dX3_beginTrial_40 hs (gf_X3_51 _ rfl) rfl rfl rfl rfl rfl ?_
        refine wq_aload_n (pc := 43) dX3_beginTrial_43 rfl rfl ?_
        refine wq_iload_n (pc := 44) dX3_beginTrial_44 rfl rfl ?_
        refine wq_putIK (pc := 45) (kk := 9) dX3_beginTrial_45 hs (gf_X3_54 _ rfl) rfl rfl rfl rfl rfl ?_
        refine wq_vret (pc := 48) dX3_beginTrial_48 rfl ?_
        first
          | (exfalso; omega)
          | (refine bt_fin2 (P := fun mm => Q (.inl none) mm ε) hT1 (fun m2 q1 q2 q3 q4 => h m2 q1 ?_ ?_ q4)
             · rw [q2, h17]
               first | (rw [if_pos (by omega)]; done) | (rw [if_neg (by omega), c4]; rcases e4 with e | e; (exfalso; omega); exact e.1)
             · rw [q3]
               first | (rw [if_pos (by omega)]; done) | (rw [if_neg (by omega), c41]; rcases e41 with e | e; (exfalso; omega); exact e))
      · skip
        refine kr_s ?_
        refine wq_putIK (pc := 40) (kk := 8) dX3_beginTrial_40 hs (gf_X3_51 _ rfl) rfl rfl rfl rfl rfl ?_
        refine wq_aload_n (pc := 43) dX3_beginTrial_43 rfl rfl ?_
        refine wq_iload_n (pc := 44) dX3_beginTrial_44 rfl rfl ?_
        refine wq_putIK (pc := 45) (kk := 9) dX3_beginTrial_45 hs (gf_X3_54 _ rfl) rfl rfl rfl rfl rfl ?_
        refine wq_vret (pc := 48) dX3_beginTrial_48 rfl ?_
        first
          | (exfalso; omega)
          | (refine bt_fin2 (P := fun mm => Q (.inl none) mm ε) hT1 (fun m2 q1 q2 q3 q4 => h m2 q1 ?_ ?_ q4)
             · rw [q2, h17]
               first | (rw [if_pos (by omega)]; done) | (rw [if_neg (by omega), c4]; rcases e4 with e | e; (exfalso; omega); exact e.1)
             · rw [q3]
               first | (rw [if_pos (by omega)]; done) | (rw [if_neg (by omega), c41]; rcases e41 with e | e; (exfalso; omega); exact e))
  · skip
    refine wq_bipush (pc := 9) dX3_beginTrial_9 (by decide) (by decide) ?_
    refine wq_goto (pc := 11) (tgt := 25) dX3_beginTrial_11 (by decide) ?_
    refine wq_putIK (pc := 25) (kk := 7) dX3_beginTrial_25 hs (gf_X3_45 _ rfl) rfl rfl rfl rfl rfl ?_
    refine bt_fin (P := fun mm => wp mX3_beginTrial 28 _ _ mm ε Q) (fun m1 hT1 h17 => ?_)
    have hC1 := TrM_CF hT1 hC
    have c41 : m1 8 4 = g.1 := (TrM_CL hT1 hL).1
    have e41 : g.1 = -1 ∨ m1 5 g.1 = fC F g.1 := hg.imp id (fun q => (hC1.2.2.2.2.1 g.1 q.1 q.2).2.1)
    refine wq_aload_n (pc := 28) dX3_beginTrial_28 rfl rfl ?_
    refine wq_aload_n (pc := 29) dX3_beginTrial_29 rfl rfl ?_
    refine wq_getS (pc := 30) dX3_beginTrial_30 hs (gf_X3_29 _ rfl) rfl rfl rfl rfl rfl ?_
    refine wq_aload_n (pc := 33) dX3_beginTrial_33 rfl rfl ?_
    refine wq_getIK (pc := 34) (kk := 4) dX3_beginTrial_34 hs (gf_X3_25 _ rfl) rfl rfl rfl rfl ?_
    refine cVK_1 (pc := 37) dX3_beginTrial_37 hs (cw_X3_48 _ rfl) (by decide) rfl ⟨by decide, by decide⟩ (Nat.le_of_ble_eq_true rfl) (sp_X0_countOf hs (by first | (unfold inR; omega) | assumption) (fun hh8 => ?_) (fun hh9 => ?_))
    · skip
      refine kr_s ?_
      refine wq_putIK (pc := 40) (kk := 8) dX3_beginTrial_40 hs (gf_X3_51 _ rfl) rfl rfl rfl rfl rfl ?_
      refine wq_aload_n (pc := 43) dX3_beginTrial_43 rfl rfl ?_
      refine wq_iload_n (pc := 44) dX3_beginTrial_44 rfl rfl ?_
      refine wq_putIK (pc := 45) (kk := 9) dX3_beginTrial_45 hs (gf_X3_54 _ rfl) rfl rfl rfl rfl rfl ?_
      refine wq_vret (pc := 48) dX3_beginTrial_48 rfl ?_
      first
        | (exfalso; omega)
        | (refine bt_fin2 (P := fun mm => Q (.inl none) mm ε) hT1 (fun m2 q1 q2 q3 q4 => h m2 q1 ?_ ?_ q4)
           · rw [q2, h17]
             first | (rw [if_pos (by omega)]; done) | (rw [if_neg (by omega), c4]; rcases e4 with e | e; (exfalso; omega); exact e.1)
           · rw [q3]
             first | (rw [if_pos (by omega)]; done) | (rw [if_neg (by omega), c41]; rcases e41 with e | e; (exfalso; omega); exact e))
    · skip
      refine kr_s ?_
      refine wq_putIK (pc := 40) (kk := 8) dX3_beginTrial_40 hs (gf_X3_51 _ rfl) rfl rfl rfl rfl rfl ?_
      refine wq_aload_n (pc := 43) dX3_beginTrial_43 rfl rfl ?_
      refine wq_iload_n (pc := 44) dX3_beginTrial_44 rfl rfl ?_
      refine wq_putIK (pc := 45) (kk := 9) dX3_beginTrial_45 hs (gf_X3_54 _ rfl) rfl rfl rfl rfl rfl ?_
      refine wq_vret (pc := 48) dX3_beginTrial_48 rfl ?_
      first
        | (exfalso; omega)
        | (refine bt_fin2 (P := fun mm => Q (.inl none) mm ε) hT1 (fun m2 q1 q2 q3 q4 => h m2 q1 ?_ ?_ q4)
           · rw [q2, h17]
             first | (rw [if_pos (by omega)]; done) | (rw [if_neg (by omega), c4]; rcases e4 with e | e; (exfalso; omega); exact e.1)
           · rw [q3]
             first | (rw [if_pos (by omega)]; done) | (rw [if_neg (by omega), c41]; rcases e41 with e | e; (exfalso; omega); exact e))
theorem sp_X3_takesInTrial {μ : nMem} {ε : nEnv} {Q : nOut → nMem → nEnv → Prop} {u tu tn tf : Int} (hs : SkP skC ε) (e7 : μ 8 7 = tu) (e8 : μ 8 8 = tn) (e9 : μ 8 9 = tf) (r1 : 0 ≤ u ∧ u ≤ 100) (r2 : 0 ≤ tu ∧ tu ≤ 100) (r3 : 0 ≤ tn ∧ tn ≤ 100) (r4 : -10 ≤ tf ∧ tf ≤ 100) (h1 : tu + u + tn + 2 ≤ 40 → ∀ μ9, TrM μ μ9 → μ9 8 7 = tu + u → μ9 8 8 = tn + 1 → μ9 8 9 = tf → Q (.inl (some (vI 1))) μ9 ε) (h2 : ¬ (tu + u + tn + 2 ≤ 40) → 0 < tf → ∀ μ9, TrM μ μ9 → μ9 8 7 = 1 + u → μ9 8 8 = 1 → μ9 8 9 = tf - 1 → Q (.inl (some (vI 1))) μ9 ε) (h3 : ¬ (tu + u + tn + 2 ≤ 40) → tf ≤ 0 → Q (.inl (some (vI 0))) μ ε) : Sp mX3_takesInTrial [vR 8, vI u] μ ε Q := by
  refine Sp_of (L := [(0, vR 8), (1, vI u)]) (by decide) rfl rfl (Nat.le_of_ble_eq_true rfl) ?_
  refine wq_aload_n (pc := 0) dX3_takesInTrial_0 rfl rfl ?_
  refine wq_aload_n (pc := 1) dX3_takesInTrial_1 rfl rfl ?_
  refine wq_getIK (pc := 2) (kk := 7) dX3_takesInTrial_2 hs (gf_X3_45 _ rfl) rfl rfl rfl rfl ?_
  refine wq_aload_n (pc := 5) dX3_takesInTrial_5 rfl rfl ?_
  refine wq_getIK (pc := 6) (kk := 8) dX3_takesInTrial_6 hs (gf_X3_51 _ rfl) rfl rfl rfl rfl ?_
  refine wq_iload_n (pc := 9) dX3_takesInTrial_9 rfl rfl ?_
  refine cVK_3 (pc := 10) dX3_takesInTrial_10 hs (cw_X3_57 _ rfl) (by decide) rfl ⟨by decide, by decide⟩ (Nat.le_of_ble_eq_true rfl) (sp_X3_fits (by omega) (by omega) (by omega) (fun hf1 => ?_) (fun hf2 => ?_))
  · skip
    refine kr_s ?_
    refine wq_if_ne (pc := 13) (tgt := 45) dX3_takesInTrial_13 (by decide) (by first | (unfold inR; omega) | assumption) (fun _ => ?_) (fun c => absurd c (by decide))
    first
      | refine tt_fin (P := fun mm => wp mX3_takesInTrial 45 _ _ mm ε Q) (fun m1 hT1 g7 g8 g9 => ?_)
      | (have hT1 := TrM_refl μ; have g7 := e7; have g8 := e8; have g9 := e9)
    refine wq_aload_n (pc := 45) dX3_takesInTrial_45 rfl rfl ?_
    refine wq_dup (pc := 46) dX3_takesInTrial_46 rfl ?_
    refine wq_getIK (pc := 47) (kk := 7) dX3_takesInTrial_47 hs (gf_X3_45 _ rfl) rfl rfl rfl rfl ?_
    refine wq_iload_n (pc := 50) dX3_takesInTrial_50 rfl rfl ?_
    refine wq_iadd (pc := 51) dX3_takesInTrial_51 ?_
    refine wq_putIK (pc := 52) (kk := 7) dX3_takesInTrial_52 hs (gf_X3_45 _ rfl) rfl rfl rfl rfl rfl ?_
    refine wq_aload_n (pc := 55) dX3_takesInTrial_55 rfl rfl ?_
    refine wq_dup (pc := 56) dX3_takesInTrial_56 rfl ?_
    refine wq_getIK (pc := 57) (kk := 8) dX3_takesInTrial_57 hs (gf_X3_51 _ rfl) rfl rfl rfl rfl ?_
    refine wq_iconst (pc := 60) dX3_takesInTrial_60 ?_
    refine wq_iadd (pc := 61) dX3_takesInTrial_61 ?_
    refine wq_putIK (pc := 62) (kk := 8) dX3_takesInTrial_62 hs (gf_X3_51 _ rfl) rfl rfl rfl rfl rfl ?_
    refine wq_iconst (pc := 65) dX3_takesInTrial_65 ?_
    refine wq_zret (pc := 66) dX3_takesInTrial_66 rfl (by first | omega | (simp; done) | assumption) ?_
    first
      | exact h3 (by omega) (by omega)
      | exact h1 (by omega) _ (TrM_trans hT1 (TrM_trans (TrM_wr (by omega)) (TrM_wr (by omega)))) (by rw [wr_n _ _ (by omega), wr_s, g7]) (by rw [wr_s, wr_n _ _ (by omega), g8]) (by rw [wr_n _ _ (by omega), wr_n _ _ (by omega), g9])
      | exact h2 (by omega) (by omega) _ (TrM_trans hT1 (TrM_trans (TrM_wr (by omega)) (TrM_wr (by omega)))) (by rw [wr_n _ _ (by omega), wr_s, g7]) (by rw [wr_s, wr_n _ _ (by omega), g8]; rfl) (by rw [wr_n _ _ (by omega), wr_n _ _ (by omega), g9, e9])
  · skip
    refine kr_s ?_
    refine wq_if_ne (pc := 13) (tgt := 45) dX3_takesInTrial_13 (by decide) (by first | (unfold inR; omega) | assumption) (fun c => absurd c (by decide)) (fun _ => ?_)
    refine wq_aload_n (pc := 16) dX3_takesInTrial_16 rfl rfl ?_
    refine wq_getIK (pc := 17) (kk := 9) dX3_takesInTrial_17 hs (gf_X3_54 _ rfl) rfl rfl rfl rfl ?_
    refine wq_if_gt (pc := 20) (tgt := 25) dX3_takesInTrial_20 (by decide) (by first | (unfold inR; omega) | assumption) (fun c5 => ?_) (fun c5 => ?_)
    · skip
      refine wq_aload_n (pc := 25) dX3_takesInTrial_25 rfl rfl ?_
      refine wq_dup (pc := 26) dX3_takesInTrial_26 rfl ?_
      refine wq_getIK (pc := 27) (kk := 9) dX3_takesInTrial_27 hs (gf_X3_54 _ rfl) rfl rfl rfl rfl ?_
      refine wq_iconst (pc := 30) dX3_takesInTrial_30 ?_
      refine wq_isub (pc := 31) dX3_takesInTrial_31 ?_
      refine wq_putIK (pc := 32) (kk := 9) dX3_takesInTrial_32 hs (gf_X3_54 _ rfl) rfl rfl rfl rfl rfl ?_
      refine wq_aload_n (pc := 35) dX3_takesInTrial_35 rfl rfl ?_
      refine wq_iconst (pc := 36) dX3_takesInTrial_36 ?_
      refine wq_putIK (pc := 37) (kk := 7) dX3_takesInTrial_37 hs (gf_X3_45 _ rfl) rfl rfl rfl rfl rfl ?_
      refine wq_aload_n (pc := 40) dX3_takesInTrial_40 rfl rfl ?_
      refine wq_iconst (pc := 41) dX3_takesInTrial_41 ?_
      refine wq_putIK (pc := 42) (kk := 8) dX3_takesInTrial_42 hs (gf_X3_51 _ rfl) rfl rfl rfl rfl rfl ?_
      first
        | refine tt_fin (P := fun mm => wp mX3_takesInTrial 45 _ _ mm ε Q) (fun m1 hT1 g7 g8 g9 => ?_)
        | (have hT1 := TrM_refl μ; have g7 := e7; have g8 := e8; have g9 := e9)
      refine wq_aload_n (pc := 45) dX3_takesInTrial_45 rfl rfl ?_
      refine wq_dup (pc := 46) dX3_takesInTrial_46 rfl ?_
      refine wq_getIK (pc := 47) (kk := 7) dX3_takesInTrial_47 hs (gf_X3_45 _ rfl) rfl rfl rfl rfl ?_
      refine wq_iload_n (pc := 50) dX3_takesInTrial_50 rfl rfl ?_
      refine wq_iadd (pc := 51) dX3_takesInTrial_51 ?_
      refine wq_putIK (pc := 52) (kk := 7) dX3_takesInTrial_52 hs (gf_X3_45 _ rfl) rfl rfl rfl rfl rfl ?_
      refine wq_aload_n (pc := 55) dX3_takesInTrial_55 rfl rfl ?_
      refine wq_dup (pc := 56) dX3_takesInTrial_56 rfl ?_
      refine wq_getIK (pc := 57) (kk := 8) dX3_takesInTrial_57 hs (gf_X3_51 _ rfl) rfl rfl rfl rfl ?_
      refine wq_iconst (pc := 60) dX3_takesInTrial_60 ?_
      refine wq_iadd (pc := 61) dX3_takesInTrial_61 ?_
      refine wq_putIK (pc := 62) (kk := 8) dX3_takesInTrial_62 hs (gf_X3_51 _ rfl) rfl rfl rfl rfl rfl ?_
      refine wq_iconst (pc := 65) dX3_takesInTrial_65 ?_
      refine wq_zret (pc := 66) dX3_takesInTrial_66 rfl (by first | omega | (simp; done) | assumption) ?_
      first
        | exact h3 (by omega) (by omega)
        | exact h1 (by omega) _ (TrM_trans hT1 (TrM_trans (TrM_wr (by omega)) (TrM_wr (by omega)))) (by rw [wr_n _ _ (by omega), wr_s, g7]) (by rw [wr_s, wr_n _ _ (by omega), g8]) (by rw [wr_n _ _ (by omega), wr_n _ _ (by omega), g9])
        | exact h2 (by omega) (by omega) _ (TrM_trans hT1 (TrM_trans (TrM_wr (by omega)) (TrM_wr (by omega)))) (by rw [wr_n _ _ (by omega), wr_s, g7]) (by rw [wr_s, wr_n _ _ (by omega), g8]; rfl) (by rw [wr_n _ _ (by omega), wr_n _ _ (by omega), g9, e9])
    · skip
      refine wq_iconst (pc := 23) dX3_takesInTrial_23 ?_
      refine wq_zret (pc := 24) dX3_takesInTrial_24 rfl (by first | omega | (simp; done) | assumption) ?_
      first
        | exact h3 (by omega) (by omega)
        | exact h1 (by omega) _ (TrM_trans hT1 (TrM_trans (TrM_wr (by omega)) (TrM_wr (by omega)))) (by rw [wr_n _ _ (by omega), wr_s, g7]) (by rw [wr_s, wr_n _ _ (by omega), g8]) (by rw [wr_n _ _ (by omega), wr_n _ _ (by omega), g9])
        | exact h2 (by omega) (by omega) _ (TrM_trans hT1 (TrM_trans (TrM_wr (by omega)) (TrM_wr (by omega)))) (by rw [wr_n _ _ (by omega), wr_s, g7]) (by rw [wr_s, wr_n _ _ (by omega), g8]; rfl) (by rw [wr_n _ _ (by omega), wr_n _ _ (by omega), g9, e9])
