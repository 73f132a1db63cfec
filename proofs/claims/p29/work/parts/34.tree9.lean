def tNone : Tr := (1, [], fun _ _ => 0, fun _ _ => 0)
/-- the tree of the root alone -/
def tRoot : Tr := tAdd tNone 1 1
theorem CT_empty {μ : nMem} {ε : nEnv} (hs : SkP skT ε) (hi : nItems μ ε) : CT tNone (wr (wr μ 12 2 0) 12 3 1) ε ∧ FrT μ ε (wr (wr μ 12 2 0) 12 3 1) ε := by
  have m13 : ∀ i, wr (wr μ 12 2 0) 12 3 1 13 i = μ 13 i := fun i => by rw [wr_n _ _ (by omega), wr_n _ _ (by omega)]
  refine ⟨⟨hs, ?_, List.nodup_nil, by show 0 ≤ 129; omega, by rw [wr_n _ _ (by omega), wr_s]; rfl, by rw [wr_s]; rfl, fun i hi => absurd hi (Nat.not_lt_zero _)⟩, ⟨fun y _ y1 _ _ _ k => by rw [wr_n _ _ (fun q => y1 q.1), wr_n _ _ (fun q => y1 q.1)], fun _ _ => ⟨rfl, rfl, fun _ => rfl⟩, fun y ⟨i, i0, i1, i2, i3⟩ => Or.inl ⟨i, i0, i1, by rw [m13] at i2; exact i2, by rw [m13] at i3; exact i3⟩, rfl, fun t ht => Cap_congr ht (fun i => by rw [wr_n _ _ (by omega), wr_n _ _ (by omega)]) m13 rfl rfl⟩⟩
  unfold nItems; simp only [m13]; exact hi
theorem sp_X5_empty {μ : nMem} {ε : nEnv} {Q : nOut → nMem → nEnv → Prop} {t : Nat} (hs : SkP skT ε) (hi : nItems μ ε) (h56 : eKind ε 25 ≠ 0 ∨ eSz ε = 14) (hcap : Cap μ ε t) (h : ∀ μ9 ε9 a, CT tRoot μ9 ε9 → FrT μ ε μ9 ε9 → tAt tRoot μ9 a 1 → Q (.inl none) μ9 ε9) : Sp mX5_empty [vR 12] μ ε Q := by
  refine Sp_of (L := [(0, vR 12)]) (by decide) rfl rfl (Nat.le_of_ble_eq_true rfl) ?_
  refine wq_aload_n (pc := 0) dX5_empty_0 rfl rfl ?_
  refine wq_iconst (pc := 1) dX5_empty_1 ?_
  refine wq_putIK (pc := 2) (kk := 2) dX5_empty_2 hs (gf_X5_23 _ rfl) rfl rfl rfl rfl rfl ?_
  refine wq_aload_n (pc := 5) dX5_empty_5 rfl rfl ?_
  refine wq_iconst (pc := 6) dX5_empty_6 ?_
  refine wq_putIK (pc := 7) (kk := 3) dX5_empty_7 hs (gf_X5_27 _ rfl) rfl rfl rfl rfl rfl ?_
  obtain ⟨T1, F1⟩ := CT_empty hs hi
  generalize wr (wr μ 12 2 0) 12 3 1 = m1 at T1 F1 ⊢
  refine wq_aload_n (pc := 10) dX5_empty_10 rfl rfl ?_
  refine wq_iconst (pc := 11) dX5_empty_11 ?_
  refine wq_iconst (pc := 12) dX5_empty_12 ?_
  refine cVK_2 (pc := 13) dX5_empty_13 hs (cw_X5_30 _ rfl) (by decide) rfl ⟨by decide, by decide⟩ (Nat.le_of_ble_eq_true rfl) (sp_X5_add T1 (by show (0 : Int) ≤ 1 ∧ (1 : Int) ≤ 100000; omega) (fun q => by cases q) (by omega) (by show 0 < 129; omega) (by omega) h56 (F1.2.2.2.2 t hcap) (fun m2 e2 a2 T2 F2 A2 K2 => ?_))
  refine kr_s ?_
  refine wq_pop (pc := 16) dX5_empty_16 rfl ?_
  refine wq_vret (pc := 17) dX5_empty_17 rfl ?_
  exact h _ _ _ T2 (FrT_trans F1 F2) A2
def iRem (x y : Int) : Int := (Int32.ofInt x - Int32.ofInt x / Int32.ofInt y * Int32.ofInt y).toInt
theorem wq_iremG {M : nM} {pc : Nat} {L : List (Nat × nV)} {st : List nV} {μ : nMem} {ε : nEnv} {tb : List ExceptionTableEntry → Prop} {Fn : nG → Nat → Nat → List Frame → Array Value → State → State → Prop} {x y : Int} (hd : decode (mCode M) pc = .ok (.irem, 1)) (h1 : 0 < y ∧ y ≤ 2147483647) (k : wpF M (pc + 1) L (vI (iRem x y) :: st) μ ε tb Fn) : wpF M pc L (vI y :: vI x :: st) μ ε tb Fn := by
  intro G hG z0 n0 p l e R s m args below meth c hC htb H locs ls hR hl hS hz hn
  obtain ⟨hx, -, hb, -⟩ := id hC
  have h := k G hG z0 n0 p l e R s m args below meth c hC htb H locs ls hR hl hS hz hn
  refine lv_irem hx hb hd (n_ne0 h1) ?_
  rw [show Int32.ofInt x - Int32.ofInt x / Int32.ofInt y * Int32.ofInt y = Int32.ofInt (iRem x y) from (Int32.ofInt_toInt _).symm]
  exact h
theorem fm_tab : (iRem (-2) 3 = -2 ∧ iRem (-1) 3 = -1 ∧ iRem 0 3 = 0 ∧ iRem 1 3 = 1 ∧ iRem 2 3 = 2) ∧ (iXor (-2) 3 < 0 ∧ iXor (-1) 3 < 0 ∧ 0 ≤ iXor 0 3 ∧ 0 ≤ iXor 1 3 ∧ 0 ≤ iXor 2 3) ∧ (inR (iXor (-2) 3) ∧ inR (iXor (-1) 3) ∧ inR (iXor 0 3) ∧ inR (iXor 1 3) ∧ inR (iXor 2 3)) := by
  unfold iRem iXor inR; decide +kernel
theorem fm_all {a : Int} (h : -2 ≤ a ∧ a ≤ 2) : iRem a 3 = a ∧ (iXor a 3 < 0 ↔ a < 0) ∧ inR (iXor a 3) := by
  obtain ⟨⟨a1, a2, a3, a4, a5⟩, ⟨b1, b2, b3, b4, b5⟩, ⟨c1, c2, c3, c4, c5⟩⟩ := fm_tab
  have : a = -2 ∨ a = -1 ∨ a = 0 ∨ a = 1 ∨ a = 2 := by omega
  rcases this with e | e | e | e | e <;> subst e
  · exact ⟨a1, by omega, c1⟩
  · exact ⟨a2, by omega, c2⟩
  · exact ⟨a3, by omega, c3⟩
  · exact ⟨a4, by omega, c4⟩
  · exact ⟨a5, by omega, c5⟩
theorem sp_J9_floorMod {μ : nMem} {ε : nEnv} {Q : nOut → nMem → nEnv → Prop} {a b : Int} (ra : -2 ≤ a ∧ a ≤ 2) (rb : b = 3) (h : Q (.inl (some (vI (a % 3)))) μ ε) : Sp mJ9_floorMod [vI a, vI b] μ ε Q := by
  refine Sp_ofF (L := [(0, vI a), (1, vI b)]) (by decide +kernel) rfl rfl (Nat.le_of_ble_eq_true rfl) ?_
  subst rb
  obtain ⟨z1, z2, z3⟩ := fm_all ra
  refine wq_iload_n (pc := 0) dJ9_floorMod_0 rfl rfl ?_
  refine wq_iload_n (pc := 1) dJ9_floorMod_1 rfl rfl ?_
  refine wq_iremG (pc := 2) dJ9_floorMod_2 (by omega) ?_
  rw [z1]
  refine wq_istore_n (pc := 3) (L' := [(2, _), (0, _), (1, _)]) dJ9_floorMod_3 rfl rfl (by decide) ?_
  refine wq_iload_n (pc := 4) dJ9_floorMod_4 rfl rfl ?_
  refine wq_iload_n (pc := 5) dJ9_floorMod_5 rfl rfl ?_
  refine wq_ixor (pc := 6) dJ9_floorMod_6 ?_
  refine wq_if_ge (pc := 7) (tgt := 18) dJ9_floorMod_7 (by decide) (by first | (unfold inR; omega) | assumption) (fun c1 => ?_) (fun c1 => ?_)
  · skip
    refine wq_iload_n (pc := 18) dJ9_floorMod_18 rfl rfl ?_
    refine wq_iret (pc := 19) dJ9_floorMod_19 rfl ?_
    first | (rw [show a % 3 = a + 3 by omega] at h; exact h) | (rw [show a % 3 = a by omega] at h; exact h)
  · skip
    refine wq_iload_n (pc := 10) dJ9_floorMod_10 rfl rfl ?_
    refine wq_if_eq (pc := 11) (tgt := 18) dJ9_floorMod_11 (by decide) (by first | (unfold inR; omega) | assumption) (fun c2 => ?_) (fun c2 => ?_)
    · skip
      refine wq_iload_n (pc := 18) dJ9_floorMod_18 rfl rfl ?_
      refine wq_iret (pc := 19) dJ9_floorMod_19 rfl ?_
      first | (rw [show a % 3 = a + 3 by omega] at h; exact h) | (rw [show a % 3 = a by omega] at h; exact h)
    · skip
      refine wq_iload_n (pc := 14) dJ9_floorMod_14 rfl rfl ?_
      refine wq_iload_n (pc := 15) dJ9_floorMod_15 rfl rfl ?_
      refine wq_iadd (pc := 16) dJ9_floorMod_16 ?_
      refine wq_iret (pc := 17) dJ9_floorMod_17 rfl ?_
      first | (rw [show a % 3 = a + 3 by omega] at h; exact h) | (rw [show a % 3 = a by omega] at h; exact h)
