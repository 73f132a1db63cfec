/-! ### the content of a file, as the reference lays it -/
theorem nA255_64 (b : BitVec 64) : (b &&& 255#64).toInt = ((b.setWidth 8).toNat : Int) := by
  have h : (b &&& 255#64).toNat = (b.setWidth 8).toNat := by
    rw [BitVec.toNat_and, BitVec.toNat_setWidth]
    exact Nat.and_two_pow_sub_one_eq_mod b.toNat 8
  rw [BitVec.toInt_eq_toNat_of_lt, h]
  have := (b.setWidth 8).isLt
  rw [h]; omega
theorem nA255_32 (b : BitVec 32) : (b &&& 255#32).toInt = ((b.setWidth 8).toNat : Int) := by
  have h : (b &&& 255#32).toNat = (b.setWidth 8).toNat := by
    rw [BitVec.toNat_and, BitVec.toNat_setWidth]
    exact Nat.and_two_pow_sub_one_eq_mod b.toNat 8
  rw [BitVec.toInt_eq_toNat_of_lt, h]
  have := (b.setWidth 8).isLt
  rw [h]; omega
theorem nSh8 (b : BitVec 64) {c : Nat} (hc : c ≤ 56) : (b.sshiftRight c).setWidth 8 = ((b >>> c).setWidth 32).setWidth 8 := by
  apply BitVec.eq_of_getLsbD_eq
  intro i hi
  rw [BitVec.getLsbD_setWidth, BitVec.getLsbD_setWidth, BitVec.getLsbD_setWidth, BitVec.getLsbD_sshiftRight, BitVec.getLsbD_ushiftRight]
  have h1 : i < 32 := by omega
  have h2 : c + i < 64 := by omega
  have h3 : ¬ 64 ≤ i := by omega
  simp [h1, h2, h3, hi]
theorem nAmS : ∀ q : Fin 8, (((Int32.ofInt (8 * ((q : Nat) : Int))).toInt64 &&& 63).toBitVec.smod 64).toNat = 8 * q := by decide +kernel
theorem nAmU : ∀ q : Fin 8, ((Int32.ofInt (8 * ((q : Nat) : Int))).toInt64.toUInt64 &&& Int64.toUInt64 63) = UInt64.ofNat (8 * q) := by decide +kernel
theorem nAmH : ∀ q : Fin 8, ((UInt64.ofNat (8 * (q : Nat))).toBitVec % 64) = BitVec.ofNat 64 (8 * q) := by decide +kernel
theorem nByteEq (x : Int) {q : Nat} (hq : q < 8) : jAnd (jShr x (8 * (q : Int))) 255 = iAnd (jUshr x (8 * (q : Int))) 255 ∧ 0 ≤ jAnd (jShr x (8 * (q : Int))) 255 ∧ jAnd (jShr x (8 * (q : Int))) 255 ≤ 255 := by
  have e1 : jAnd (jShr x (8 * (q : Int))) 255 = (((BitVec.sshiftRight (Int64.ofInt x).toBitVec (8 * q)).setWidth 8).toNat : Int) := by
    unfold jAnd jShr
    rw [Int64.ofInt_toInt]
    show ((Int64.ofInt x >>> ((Int32.ofInt (8 * (q : Int))).toInt64 &&& 63)) &&& Int64.ofInt 255).toBitVec.toInt = _
    rw [Int64.toBitVec_and, Int64.toBitVec_shiftRight, BitVec.sshiftRight_eq', nAmS ⟨q, hq⟩]
    exact nA255_64 _
  have e2 : iAnd (jUshr x (8 * (q : Int))) 255 = (((((Int64.ofInt x).toBitVec >>> (8 * q)).setWidth 32).setWidth 8).toNat : Int) := by
    unfold iAnd jUshr
    rw [nAmU ⟨q, hq⟩]
    have h : Int32.ofInt ((((Int64.ofInt x).toUInt64 >>> UInt64.ofNat (8 * q)).toInt64).toInt) = Int32.ofBitVec (((Int64.ofInt x).toBitVec >>> (8 * q)).setWidth 32) := by
      apply Int32.toBitVec_inj.mp
      rw [Int32.toBitVec_ofInt]
      show BitVec.ofInt 32 (((Int64.ofInt x).toUInt64 >>> UInt64.ofNat (8 * q)).toBitVec.toInt) = _
      rw [UInt64.toBitVec_shiftRight]
      rw [nAmH ⟨q, hq⟩]
      show BitVec.signExtend 32 ((Int64.ofInt x).toBitVec >>> BitVec.ofNat 64 (8 * q)) = _
      rw [BitVec.signExtend_eq_setWidth_of_le _ (by decide), BitVec.ushiftRight_eq', BitVec.toNat_ofNat, Nat.mod_eq_of_lt (by omega)]
      rfl
    rw [h]
    show (Int32.ofBitVec _ &&& Int32.ofInt 255).toBitVec.toInt = _
    rw [Int32.toBitVec_and]
    exact nA255_32 _
  rw [e1, e2, nSh8 _ (by omega)]
  refine ⟨rfl, by omega, ?_⟩
  have := ((((Int64.ofInt x).toBitVec >>> (8 * q)).setWidth 32).setWidth 8).isLt
  omega
theorem mNxt_q {F : Fl} {μ : nMem} (hP : PrM F μ) (f v : Int) : ∀ n : Nat, n ≤ 128 → mNxt μ f v n = qNxt F f v n
  | 0, _ => rfl
  | n + 1, hn => by
    have ih := mNxt_q hP f v n (by omega)
    rw [mNxt_s, qNxt_s, ih]
    obtain ⟨a, b⟩ := hP n (by omega) (by omega)
    have hq : qNxt F f v n ≠ -1 → μ 24 (qNxt F f v n) = fN F (qNxt F f v n) 4 := fun z => by
      rcases qNxt_sp F f v n with ⟨y, -⟩ | ⟨y, ⟨y2, -⟩, -⟩
      · exact absurd y z
      · exact ((hP _ y.1 (by omega)).2 ((rT_W (Or.inl rfl)).mp y2).1).1.2.2
    have hc : (μ 41 n ≠ 0 ∧ μ 22 n = 1 ∧ μ 23 n = f ∧ v < μ 24 n ∧ (qNxt F f v n = -1 ∨ μ 24 n < μ 24 (qNxt F f v n))) ↔ (rT F n 1 f ∧ v < fN F n 4 ∧ (qNxt F f v n = -1 ∨ fN F n 4 < fN F (qNxt F f v n) 4)) := by
      constructor
      · rintro ⟨c1, c2, c3, c4, c5⟩
        have w := a.mp c1
        obtain ⟨⟨d1, d2, d3⟩, -⟩ := b w
        refine ⟨(rT_W (Or.inl rfl)).mpr ⟨w, by omega, by omega⟩, by omega, ?_⟩
        by_cases z : qNxt F f v n = -1
        · exact Or.inl z
        · rw [← hq z]; omega
      · rintro ⟨c1, c2, c3⟩
        obtain ⟨w, k1, k3⟩ := (rT_W (Or.inl rfl)).mp c1
        obtain ⟨⟨d1, d2, d3⟩, -⟩ := b w
        refine ⟨a.mpr w, by omega, by omega, by omega, ?_⟩
        by_cases z : qNxt F f v n = -1
        · exact Or.inl z
        · rw [hq z]; omega
    by_cases c : rT F n 1 f ∧ v < fN F n 4 ∧ (qNxt F f v n = -1 ∨ fN F n 4 < fN F (qNxt F f v n) 4)
    · rw [if_pos c, if_pos (hc.mpr c)]
    · rw [if_neg c, if_neg (fun z => c (hc.mp z))]
theorem nxt_step {F : Fl} {f v : Int} (hS : NS F) (hU : NU F) (c : qNxt F f v 128 ≠ -1) : ∃ i, qNxt F f v 128 = i ∧ (0 ≤ i ∧ i < 128) ∧ rT F i 1 f ∧ v < fN F i 4 ∧ (∀ key, rS F i key → qNew F 1 f key (fN F i 4 + 1) 128 ≠ -1 ∧ ∀ k, 0 ≤ k → k ≤ 11 → fN F (qNew F 1 f key (fN F i 4 + 1) 128) k = fN F i k) ∧ (∀ key, ¬ rS F i key → qNew F 1 f key (fN F i 4 + 1) 128 = qNew F 1 f key (v + 1) 128) ∧ cR (fun r => rT F r 1 f ∧ fN F i 4 < fN F r 4) 128 + 1 ≤ cR (fun r => rT F r 1 f ∧ v < fN F r 4) 128 := by
  rcases qNxt_sp F f v 128 with ⟨z, -⟩ | ⟨b1, ⟨b2, b3⟩, b4⟩
  · exact absurd z c
  · generalize qNxt F f v 128 = i at b1 b2 b3 b4
    have wi := (rT_W (Or.inl rfl)).mp b2
    have si := sOK_k (hS i b1.1 b1.2 wi.1)
    have copy : ∀ j, 0 ≤ j → j < 128 → rT F j 1 f → fN F j 4 = fN F i 4 → ∀ k, 0 ≤ k → k ≤ 11 → fN F j k = fN F i k := fun j j0 j1 hj e k k0 k1 => by
      have wj := (rT_W (Or.inl rfl)).mp hj
      exact hU j i j0 j1 b1.1 b1.2 wj.1 wi.1 (by omega) (by omega) e k k0 k1
    refine ⟨i, rfl, b1, b2, b3, fun key hr => ?_, fun key hr => ?_, ?_⟩
    · rcases qNew_sp F 1 f key (fN F i 4 + 1) 128 with ⟨-, y2⟩ | ⟨y1, y2, y3⟩
      · exact absurd ⟨b2, by omega, hr⟩ (y2 i b1.1 b1.2)
      · refine ⟨by omega, copy _ y1.1 y1.2 y2.1 ?_⟩
        have u := (y3 i b1.1 b1.2 ⟨b2, by omega, hr⟩).1
        have v := y2.2.1
        omega
    · refine qNew_cb (fun j j0 j1 => ⟨fun z => ⟨z.1, ?_, z.2.2⟩, fun z => ⟨z.1, by have := z.2.1; omega, z.2.2⟩⟩)
      by_cases e : fN F j 4 = fN F i 4
      · have cp := copy j j0 j1 z.1 e
        have := z.2.2
        unfold rS at this hr
        rw [cp 0 (by omega) (by omega), cp 5 (by omega) (by omega), cp 6 (by omega) (by omega), cp 9 (by omega) (by omega)] at this
        exact absurd this hr
      · have u := z.2.1
        by_cases w : v < fN F j 4
        · have := b4 j j0 j1 z.1 w; omega
        · omega
    · have one := cR_one (p := fun r => rT F r 1 f ∧ fN F i 4 < fN F r 4) (q := fun r => (rT F r 1 f ∧ fN F i 4 < fN F r 4) ∨ r = i) (a := i) 128 b1.1 b1.2 (fun z => absurd z.2 (by omega)) (fun r _ _ => Iff.rfl)
      have mon := cR_mono (p := fun r => (rT F r 1 f ∧ fN F i 4 < fN F r 4) ∨ r = i) (q := fun r => rT F r 1 f ∧ v < fN F r 4) 128 (fun r _ _ z => by
        rcases z with z | z
        · exact ⟨z.1, by omega⟩
        · rw [z]; exact ⟨b2, b3⟩)
      omega
theorem nxt_end {F : Fl} {f v : Int} (hS : NS F) (hv : v ≤ 5000) (c : qNxt F f v 128 = -1) (key : Int) : qNew F 1 f key (v + 1) 128 = qNew F 1 f key 2147483647 128 := qNew_cb (fun j j0 j1 => by
  refine ⟨fun z => ⟨z.1, by have := sOK_k (hS j j0 j1 ((rT_W (Or.inl rfl)).mp z.1).1); omega, z.2.2⟩, fun z => ⟨z.1, ?_, z.2.2⟩⟩
  rcases qNxt_sp F f v 128 with ⟨-, y⟩ | ⟨y, -⟩
  · have := y j j0 j1
    by_cases w : v < fN F j 4
    · exact absurd ⟨z.1, w⟩ this
    · omega
  · omega)
theorem nxt_0 {F : Fl} {f : Int} (hS : NS F) (key : Int) : qNew F 1 f key (0 + 1) 128 = -1 := qNew_none (fun j j0 j1 z => by
  have := sOK_k (hS j j0 j1 ((rT_W (Or.inl rfl)).mp z.1).1)
  have := z.2.1
  omega)
/-- the version that a place's byte is of -/
def qOw (F : Fl) (q p : Int) : Int := if q = -1 then 0 else if fN F q 5 ≤ p ∧ p - fN F q 5 < fN F q 6 then fN F q 4 else 0
def OW (F : Fl) (f p : Int) : Int := qOw F (qNew F 1 f p 2147483647 128) p
/-- a file's content lies at a place, up to a version -/
def COv (F : Fl) (f v a : Int) (μ : nMem) : Prop := ∀ p, 0 ≤ p → p < 64 → μ 49 (64 * a + p) = qByt F (qNew F 1 f p (v + 1) 128) p ∧ μ 50 (64 * a + p) = qOw F (qNew F 1 f p (v + 1) 128) p
def LNv (F : Fl) (f v : Int) : Int := if qNew F 1 f 64 (v + 1) 128 = -1 then 0 else fN F (qNew F 1 f 64 (v + 1) 128) 9
def CO (F : Fl) (f a : Int) (μ : nMem) : Prop := μ 47 a = LN F f ∧ ∀ p, 0 ≤ p → p < 64 → μ 49 (64 * a + p) = BY F f p ∧ μ 50 (64 * a + p) = OW F f p
theorem COv_end {F : Fl} {f v a : Int} {μ : nMem} (hS : NS F) (hv : v ≤ 5000) (c : qNxt F f v 128 = -1) (h : COv F f v a μ) (h2 : μ 47 a = LNv F f v) : CO F f a μ := by
  refine ⟨?_, fun p p0 p1 => ?_⟩
  · rw [h2]
    unfold LNv LN
    rw [nxt_end hS hv c 64]
  · have := h p p0 p1
    rw [nxt_end hS hv c p] at this
    exact this
/-- a node's range and length, as laid -/
theorem COv_step {F : Fl} {f v a i : Int} {μ m : nMem} (hS : NS F) (hi : 0 ≤ i ∧ i < 128) (hT : rT F i 1 f) (h1 : ∀ key, rS F i key → qNew F 1 f key (fN F i 4 + 1) 128 ≠ -1 ∧ ∀ k, 0 ≤ k → k ≤ 11 → fN F (qNew F 1 f key (fN F i 4 + 1) 128) k = fN F i k) (h2 : ∀ key, ¬ rS F i key → qNew F 1 f key (fN F i 4 + 1) 128 = qNew F 1 f key (v + 1) 128) (h : COv F f v a μ)
    (e : ∀ p, 0 ≤ p → p < 64 → (fN F i 5 ≤ p ∧ p - fN F i 5 < fN F i 6 → m 49 (64 * a + p) = iAnd (jUshr (fN F i 7) (8 * (p - fN F i 5))) 255 ∧ m 50 (64 * a + p) = fN F i 4) ∧ (¬ (fN F i 5 ≤ p ∧ p - fN F i 5 < fN F i 6) → fN F i 9 ≤ p → m 49 (64 * a + p) = 0 ∧ m 50 (64 * a + p) = 0) ∧ (¬ (fN F i 5 ≤ p ∧ p - fN F i 5 < fN F i 6) → ¬ fN F i 9 ≤ p → m 49 (64 * a + p) = μ 49 (64 * a + p) ∧ m 50 (64 * a + p) = μ 50 (64 * a + p))) :
    COv F f (fN F i 4) a m ∧ LNv F f (fN F i 4) = fN F i 9 := by
  obtain ⟨w, k0, k3⟩ := (rT_W (Or.inl rfl)).mp hT
  have hs := sOK_k (hS i hi.1 hi.2 w)
  refine ⟨fun p p0 p1 => ?_, ?_⟩
  · obtain ⟨ea, eb, ec⟩ := e p p0 p1
    by_cases c : rS F i p
    · obtain ⟨u1, u2⟩ := h1 p c
      unfold qByt qOw fByteFor
      rw [if_neg u1, if_neg u1, u2 5 (by omega) (by omega), u2 6 (by omega) (by omega), u2 7 (by omega) (by omega), u2 4 (by omega) (by omega)]
      by_cases d : fN F i 5 ≤ p ∧ p - fN F i 5 < fN F i 6
      · rw [if_pos d, if_pos d]; exact ea d
      · rw [if_neg d, if_neg d]
        exact eb d (by rcases c with c | c; omega; omega)
    · rw [h2 p c]
      have := ec (fun z => c (Or.inr ⟨by omega, Or.inr z⟩)) (fun z => c (Or.inr ⟨by omega, Or.inl z⟩))
      rw [this.1, this.2]; exact h p p0 p1
  · obtain ⟨u1, u2⟩ := h1 64 (Or.inr ⟨by omega, Or.inl (by omega)⟩)
    unfold LNv
    rw [if_neg u1, u2 9 (by omega) (by omega)]
theorem sp_X7_layContent {μ : nMem} {ε : nEnv} {Q : nOut → nMem → nEnv → Prop} {F : Fl} {a : Int} (hs : SkP skM ε) (hb : mB μ) (hP : PrM F μ) (hS : NS F) (hU : NU F) (a0 : 0 ≤ a) (a1 : a < 256) (h : ∀ m, mB m → (∀ x y, ¬ (x = 47 ∧ y = a) → ¬ ((x = 49 ∨ x = 50) ∧ 64 * a ≤ y ∧ y < 64 * a + 64) → m x y = μ x y) → CO F (μ 46 a) a m → Q (.inl none) m ε) : Sp mX7_layContent [vR 21, vI a] μ ε Q := by
  refine Sp_of (L := [(0, vR 21), (1, vI a)]) (by decide) rfl rfl (Nat.le_of_ble_eq_true rfl) ?_
  refine wq_bipush (pc := 0) dX7_layContent_0 (by decide) (by decide) ?_
  refine wq_iload_n (pc := 2) dX7_layContent_2 rfl rfl ?_
  refine wq_imul (pc := 3) dX7_layContent_3 ?_
  refine wq_istore_n (pc := 4) (L' := [(2, _), (0, _), (1, _)]) dX7_layContent_4 rfl rfl (by decide) ?_
  refine wq_iconst (pc := 5) dX7_layContent_5 ?_
  refine wq_istore_n (pc := 6) (L' := [(3, _), (2, _), (0, _), (1, _)]) dX7_layContent_6 rfl rfl (by decide) ?_
  refine wq_iload_n (pc := 7) dX7_layContent_7 rfl rfl ?_
  refine wq_istore (pc := 8) (L' := [(4, _), (3, _), (2, _), (0, _), (1, _)]) dX7_layContent_8 rfl (by decide) ?_
  have loop1 : ∀ (n k : Nat), ∀ (m : nMem) (j : Int), k ≤ 64 → 64 < k + n → j = 64 * a + k → mB m → (∀ x y, ¬ ((x = 49 ∨ x = 50) ∧ 64 * a ≤ y ∧ y < 64 * a + 64) → m x y = μ x y) → (∀ y, 64 * a ≤ y → y < 64 * a + k → m 49 y = 0 ∧ m 50 y = 0) → wp mX7_layContent 10 [(0, vR 21), (1, vI a), (2, vI (64 * a)), (3, vI 0), (4, vI j)] [] m ε Q := by
    intro n
    induction n with
    | zero => intro k m j hk1 hk2 e0 e1 e2 e3; exact absurd hk2 (by omega)
    | succ n ih =>
      intro k m j hk1 hk2 e0 e1 e2 e3
      subst e0
      have rk : inR (64 * a + (k : Int)) := by unfold inR; omega
      have rb : inR (64 * a + 64) := by unfold inR; omega
      refine wq_iload (pc := 10) dX7_layContent_10 rfl ?_
      refine wq_iload_n (pc := 12) dX7_layContent_12 rfl rfl ?_
      refine wq_bipush (pc := 13) dX7_layContent_13 (by decide) (by decide) ?_
      refine wq_iadd (pc := 15) dX7_layContent_15 ?_
      refine wq_icmp_ge (pc := 16) (tgt := 41) dX7_layContent_16 (by decide) (by first | (unfold inR; omega) | assumption) (by first | (unfold inR; omega) | assumption) (fun c2 => ?_) (fun c2 => ?_)
      · skip
        have r46 : inR (m 46 a) := (mR_of e1) 46 a (by decide) (by decide) (by decide)
        refine wq_aload_n (pc := 41) dX7_layContent_41 rfl rfl ?_
        refine wq_aload_n (pc := 42) dX7_layContent_42 rfl rfl ?_
        refine wq_getS (pc := 43) dX7_layContent_43 hs (gf_X7_84 _ rfl) rfl rfl rfl rfl rfl ?_
        refine wq_iload_n (pc := 46) dX7_layContent_46 rfl rfl ?_
        refine wq_ialdK (pc := 47) dX7_layContent_47 hs rfl (by omega) (by omega) ?_
        refine wq_iconst (pc := 48) dX7_layContent_48 ?_
        refine cVK_2 (pc := 49) dX7_layContent_49 hs (cw_X7_134 _ rfl) (by decide) rfl ⟨by decide, by decide⟩ (Nat.le_of_ble_eq_true rfl) (sp_X7_nextData hs (mR_of (by first | exact e6b | exact e1b | exact e1)) (by first | assumption | (unfold inR; omega)) (by first | assumption | (unfold inR; omega)) ?_)
        refine kr_s ?_
        refine wq_istore (pc := 52) (L' := [(4, _), (0, _), (1, _), (2, _), (3, _)]) dX7_layContent_52 rfl (by decide) ?_
        have lpb3 : ∀ (n k : Nat), ∀ (m : nMem) (w len v : Int), k ≤ 128 → 128 < k + n → w = qNxt F (μ 46 a) v 128 → mB m → (∀ x y, ¬ ((x = 49 ∨ x = 50) ∧ 64 * a ≤ y ∧ y < 64 * a + 64) → m x y = μ x y) → COv F (μ 46 a) v a m → len = LNv F (μ 46 a) v → 0 ≤ v ∧ v ≤ 5000 → cR (fun r => rT F r 1 (μ 46 a) ∧ v < fN F r 4) 128 ≤ 128 - (k : Int) → 0 ≤ len ∧ len ≤ 64 → wp mX7_layContent 54 [(0, vR 21), (1, vI a), (2, vI (64 * a)), (3, vI len), (4, vI w)] [] m ε Q := by
          intro n
          induction n with
          | zero => intro k m w len v hk1 hk2 e0 e1 e2 e3 e4 e5 e6 e7; exact absurd hk2 (by omega)
          | succ n ih =>
            intro k m w len v hk1 hk2 e0 e1 e2 e3 e4 e5 e6 e7
            have rw1 : inR w := by have := qNxt_r F (μ 46 a) v 128; unfold inR; omega
            have hPm := PrM_cg hP (fun x j hx => e2 x j (by omega))
            have hK0 := hk1
            refine wq_iload (pc := 54) dX7_layContent_54 rfl ?_
            refine wq_iconst (pc := 56) dX7_layContent_56 ?_
            refine wq_icmp_eq (pc := 57) (tgt := 206) dX7_layContent_57 (by decide) (by first | (unfold inR; omega) | assumption) (by first | (unfold inR; omega) | assumption) (fun c4 => ?_) (fun c4 => ?_)
            · skip
              refine wq_aload_n (pc := 206) dX7_layContent_206 rfl rfl ?_
              refine wq_getS (pc := 207) dX7_layContent_207 hs (gf_X7_87 _ rfl) rfl rfl rfl rfl rfl ?_
              refine wq_iload_n (pc := 210) dX7_layContent_210 rfl rfl ?_
              refine wq_iload_n (pc := 211) dX7_layContent_211 rfl rfl ?_
              refine wq_iastK (pc := 212) dX7_layContent_212 hs rfl (by omega) (by omega) ?_
              refine wq_vret (pc := 213) dX7_layContent_213 rfl ?_
              refine h _ (mB_wr e1 (Or.inr (Or.inr (by show 0 ≤ len ∧ len ≤ 64; exact e7)))) (fun x y hx hx2 => by rw [wr_n _ _ hx]; exact e2 x y hx2) (COv_end (v := v) hS (by omega) (by rw [← e0]; assumption) (fun p p0 p1 => ?_) ?_)
              · rw [wr_n _ _ (by omega), wr_n _ _ (by omega)]; exact e3 p p0 p1
              · rw [wr_s]; exact e4
            · skip
              have wne : qNxt F (μ 46 a) v 128 ≠ -1 := by rw [← e0]; assumption
              obtain ⟨i9, q9, hi, hT, hvv, st1, st2, st3⟩ := nxt_step hS hU wne
              have wi : w = i9 := e0.trans q9
              subst wi
              obtain ⟨w9, k9, k3⟩ := (rT_W (Or.inl rfl)).mp hT
              have hsk := sOK_k (hS w hi.1 hi.2 w9)
              have hrow := (hPm w hi.1 hi.2).2 w9
              obtain ⟨⟨p22, p23, p24a⟩, hd, -⟩ := hrow
              obtain ⟨p25, p26, p27, p28⟩ := hd k9
              have hsz : fN F w 5 + fN F w 6 ≤ fN F w 9 := by
                rcases hS w hi.1 hi.2 w9 with q | q
                · omega
                · omega
              have fpos := (cR_b (fun r => rT F r 1 (μ 46 a) ∧ fN F w 4 < fN F r 4) 128).1
              have e1b := e1
              have e2b := e2
              have e3b := e3
              have ihB := ih
              let kB := k
              have hkB : kB = k := rfl
              have hst3 := st3
              have e6o := e6
              have hk2b := hk2
              refine wq_aload_n (pc := 60) dX7_layContent_60 rfl rfl ?_
              refine wq_getS (pc := 61) dX7_layContent_61 hs (gf_X7_29 _ rfl) rfl rfl rfl rfl rfl ?_
              refine wq_iload (pc := 64) dX7_layContent_64 rfl ?_
              refine wq_ialdK (pc := 66) dX7_layContent_66 hs rfl (by omega) (by omega) ?_
              refine wq_istore_n (pc := 67) (L' := [(3, _), (0, _), (1, _), (2, _), (4, _)]) dX7_layContent_67 rfl rfl (by decide) ?_
              refine wq_iload_n (pc := 68) dX7_layContent_68 rfl rfl ?_
              refine wq_iload_n (pc := 69) dX7_layContent_69 rfl rfl ?_
              refine wq_iadd (pc := 70) dX7_layContent_70 ?_
              refine wq_istore (pc := 71) (L' := [(5, _), (3, _), (0, _), (1, _), (2, _), (4, _)]) dX7_layContent_71 rfl (by decide) ?_
              have lpc5 : ∀ (n k : Nat), ∀ (m2 : nMem) (j : Int), k ≤ 64 → 64 < k + n → j = 64 * a + m 28 w + k → m 28 w + k ≤ 64 → mB m2 → (∀ x y, ¬ ((x = 49 ∨ x = 50) ∧ 64 * a + m 28 w ≤ y ∧ y < 64 * a + 64) → m2 x y = m x y) → (∀ y, 64 * a + m 28 w ≤ y → y < 64 * a + m 28 w + k → m2 49 y = 0 ∧ m2 50 y = 0) → wp mX7_layContent 73 [(0, vR 21), (1, vI a), (2, vI (64 * a)), (3, vI (m 28 w)), (4, vI w), (5, vI j)] [] m2 ε Q := by
                intro n
                induction n with
                | zero => intro k m2 j hk1 hk2 e0 e1 e2 e3 e4; exact absurd hk2 (by omega)
                | succ n ih =>
                  intro k m2 j hk1 hk2 e0 e1 e2 e3 e4
                  subst e0
                  have rk : inR (64 * a + m 28 w + (k : Int)) := by unfold inR; omega
                  have rb : inR (64 * a + 64) := by unfold inR; omega
                  refine wq_iload (pc := 73) dX7_layContent_73 rfl ?_
                  refine wq_iload_n (pc := 75) dX7_layContent_75 rfl rfl ?_
                  refine wq_bipush (pc := 76) dX7_layContent_76 (by decide) (by decide) ?_
                  refine wq_iadd (pc := 78) dX7_layContent_78 ?_
                  refine wq_icmp_ge (pc := 79) (tgt := 104) dX7_layContent_79 (by decide) (by first | (unfold inR; omega) | assumption) (by first | (unfold inR; omega) | assumption) (fun c6 => ?_) (fun c6 => ?_)
                  · skip
                    have c3m := e3
                    have c4m : ∀ y, 64 * a + m 28 w ≤ y → y < 64 * a + 64 → m2 49 y = 0 ∧ m2 50 y = 0 := fun y y0 y1 => e4 y y0 (by omega)
                    refine wq_iconst (pc := 104) dX7_layContent_104 ?_
                    refine wq_istore (pc := 105) (L' := [(5, _), (0, _), (1, _), (2, _), (3, _), (4, _)]) dX7_layContent_105 rfl (by decide) ?_
                    have lpd7 : ∀ (n k : Nat), ∀ (m3 : nMem) (j : Int), k ≤ 8 → 8 < k + n → j = (k : Int) → mB m3 → (∀ x y, ¬ ((x = 49 ∨ x = 50) ∧ 64 * a + m 25 w ≤ y ∧ y < 64 * a + m 25 w + m 26 w) → m3 x y = m2 x y) → (∀ q : Nat, q < k → m3 49 (64 * a + m 25 w + q) = jAnd (jShr (m 27 w) (8 * (q : Int))) 255 ∧ m3 50 (64 * a + m 25 w + q) = m 24 w) → (k : Int) ≤ m 26 w → wp mX7_layContent 107 [(0, vR 21), (1, vI a), (2, vI (64 * a)), (3, vI (m 28 w)), (4, vI w), (5, vI j)] [] m3 ε Q := by
                      intro n
                      induction n with
                      | zero => intro k m3 j hk1 hk2 e0 e1 e2 e3 e4; exact absurd hk2 (by omega)
                      | succ n ih =>
                        intro k m3 j hk1 hk2 e0 e1 e2 e3 e4
                        subst e0
                        have rk : inR (k : Int) := by unfold inR; omega
                        have t26 : m3 26 w = m 26 w := by rw [e2 26 w (by omega)]; exact c3m 26 w (by omega)
                        have t25 : m3 25 w = m 25 w := by rw [e2 25 w (by omega)]; exact c3m 25 w (by omega)
                        have t27 : m3 27 w = m 27 w := by rw [e2 27 w (by omega)]; exact c3m 27 w (by omega)
                        have t24 : m3 24 w = m 24 w := by rw [e2 24 w (by omega)]; exact c3m 24 w (by omega)
                        have r26 : inR (m3 26 w) := by unfold inR; omega
                        have hbe := fun hq => nByteEq (m 27 w) (q := k) hq
                        refine wq_iload (pc := 107) dX7_layContent_107 rfl ?_
                        refine wq_aload_n (pc := 109) dX7_layContent_109 rfl rfl ?_
                        refine wq_getS (pc := 110) dX7_layContent_110 hs (gf_X7_22 _ rfl) rfl rfl rfl rfl rfl ?_
                        refine wq_iload (pc := 113) dX7_layContent_113 rfl ?_
                        refine wq_ialdK (pc := 115) dX7_layContent_115 hs rfl (by omega) (by omega) ?_
                        refine wq_icmp_ge (pc := 116) (tgt := 184) dX7_layContent_116 (by decide) (by first | (unfold inR; omega) | assumption) (by first | (unfold inR; omega) | assumption) (fun c8 => ?_) (fun c8 => ?_)
                        · skip
                          have hkk : (k : Int) = m 26 w := by omega
                          have hfr : ∀ x y, ¬ ((x = 49 ∨ x = 50) ∧ 64 * a ≤ y ∧ y < 64 * a + 64) → m3 x y = μ x y := fun x y hx => by
                            rw [e2 x y (by omega), c3m x y (by omega)]; exact e2b x y hx
                          have hPD := PrM_cg hP (fun x j hx => hfr x j (by omega))
                          have r46 : inR (m3 46 a) := (mR_of e1) 46 a (by decide) (by decide) (by decide)
                          have r24 : inR (m3 24 w) := (mR_of e1) 24 w (by decide) (by decide) (by decide)
                          have hCO := COv_step (v := v) (m := m3) hS hi hT st1 st2 e3b (fun p p0 p1 => by
                            refine ⟨fun c => ?_, fun c c2 => ?_, fun c c2 => ?_⟩
                            · have hq := e3 (p - fN F w 5).toNat (by omega)
                              rw [show 64 * a + m 25 w + (((p - fN F w 5).toNat : Nat) : Int) = 64 * a + p by omega] at hq
                              rw [hq.1, hq.2, (nByteEq (m 27 w) (q := (p - fN F w 5).toNat) (by omega)).1, show (((p - fN F w 5).toNat : Nat) : Int) = p - fN F w 5 by omega, p27]
                              exact ⟨rfl, p24a⟩
                            · rw [e2 49 _ (by omega), e2 50 _ (by omega)]
                              exact c4m _ (by omega) (by omega)
                            · rw [e2 49 _ (by omega), e2 50 _ (by omega), c3m 49 _ (by omega), c3m 50 _ (by omega)]
                              exact ⟨rfl, rfl⟩)
                          have d28 : m 28 w = fN F w 9 := p28
                          have p24 : μ 24 w = fN F w 4 := by rw [← e2b 24 w (by omega)]; exact p24a
                          refine wq_aload_n (pc := 184) dX7_layContent_184 rfl rfl ?_
                          refine wq_aload_n (pc := 185) dX7_layContent_185 rfl rfl ?_
                          refine wq_getS (pc := 186) dX7_layContent_186 hs (gf_X7_84 _ rfl) rfl rfl rfl rfl rfl ?_
                          refine wq_iload_n (pc := 189) dX7_layContent_189 rfl rfl ?_
                          refine wq_ialdK (pc := 190) dX7_layContent_190 hs rfl (by omega) (by omega) ?_
                          refine wq_aload_n (pc := 191) dX7_layContent_191 rfl rfl ?_
                          refine wq_getS (pc := 192) dX7_layContent_192 hs (gf_X7_16 _ rfl) rfl rfl rfl rfl rfl ?_
                          refine wq_iload (pc := 195) dX7_layContent_195 rfl ?_
                          refine wq_ialdK (pc := 197) dX7_layContent_197 hs rfl (by omega) (by omega) ?_
                          refine cVK_2 (pc := 198) dX7_layContent_198 hs (cw_X7_134 _ rfl) (by decide) rfl ⟨by decide, by decide⟩ (Nat.le_of_ble_eq_true rfl) (sp_X7_nextData hs (mR_of (by first | exact e6b | exact e1b | exact e1)) (by first | assumption | (unfold inR; omega)) (by first | assumption | (unfold inR; omega)) ?_)
                          refine kr_s ?_
                          refine wq_istore (pc := 201) (L' := [(4, _), (0, _), (1, _), (2, _), (3, _), (5, _)]) dX7_layContent_201 rfl (by decide) ?_
                          refine wq_goto (pc := 203) (tgt := 54) dX7_layContent_203 (by decide) ?_
                          refine wq_sub1 (L' := [(0, _), (1, _), (2, _), (3, _), (4, _)]) ⟨rfl, rfl, rfl, rfl, rfl, trivial⟩ ?_
                          have hq := mNxt_q hPD (μ 46 a) (fN F w 4) 128 (Nat.le_refl _)
                          have f46 : m3 46 a = μ 46 a := hfr 46 a (by omega)
                          have f24 : m3 24 w = fN F w 4 := by rw [hfr 24 w (by omega)]; exact p24
                          rw [f46, f24, hq]
                          exact ihB (kB + 1) _ _ _ (fN F w 4) (by omega) (by omega) rfl e1 hfr hCO.1 (by rw [hCO.2]; exact d28) (by omega) (by omega) (by omega)
                        · skip
                          refine wq_aload_n (pc := 119) dX7_layContent_119 rfl rfl ?_
                          refine wq_getS (pc := 120) dX7_layContent_120 hs (gf_X7_93 _ rfl) rfl rfl rfl rfl rfl ?_
                          refine wq_iload_n (pc := 123) dX7_layContent_123 rfl rfl ?_
                          refine wq_aload_n (pc := 124) dX7_layContent_124 rfl rfl ?_
                          refine wq_getS (pc := 125) dX7_layContent_125 hs (gf_X7_19 _ rfl) rfl rfl rfl rfl rfl ?_
                          refine wq_iload (pc := 128) dX7_layContent_128 rfl ?_
                          refine wq_ialdK (pc := 130) dX7_layContent_130 hs rfl (by omega) (by omega) ?_
                          refine wq_iadd (pc := 131) dX7_layContent_131 ?_
                          refine wq_iload (pc := 132) dX7_layContent_132 rfl ?_
                          refine wq_iadd (pc := 134) dX7_layContent_134 ?_
                          refine wq_aload_n (pc := 135) dX7_layContent_135 rfl rfl ?_
                          refine wq_getS (pc := 136) dX7_layContent_136 hs (gf_X7_25 _ rfl) rfl rfl rfl rfl rfl ?_
                          refine wq_iload (pc := 139) dX7_layContent_139 rfl ?_
                          refine wq_laldK (pc := 141) dX7_layContent_141 hs rfl (by omega) (by omega) ?_
                          refine wq_bipush (pc := 142) dX7_layContent_142 (by decide) (by decide) ?_
                          refine wq_iload (pc := 144) dX7_layContent_144 rfl ?_
                          refine wq_imul (pc := 146) dX7_layContent_146 ?_
                          refine wq_lshr (pc := 147) dX7_layContent_147 ?_
                          refine wq_ldc2 (pc := 148) dX7_layContent_148 (kc_X7_138 _ rfl) ?_
                          refine wq_land (pc := 151) dX7_layContent_151 ?_
                          refine wq_l2i (pc := 152) dX7_layContent_152 ?_
                          refine wq_iastK (pc := 153) dX7_layContent_153 hs rfl (by omega) (by omega) ?_
                          refine wq_aload_n (pc := 154) dX7_layContent_154 rfl rfl ?_
                          refine wq_getS (pc := 155) dX7_layContent_155 hs (gf_X7_96 _ rfl) rfl rfl rfl rfl rfl ?_
                          refine wq_iload_n (pc := 158) dX7_layContent_158 rfl rfl ?_
                          refine wq_aload_n (pc := 159) dX7_layContent_159 rfl rfl ?_
                          refine wq_getS (pc := 160) dX7_layContent_160 hs (gf_X7_19 _ rfl) rfl rfl rfl rfl rfl ?_
                          refine wq_iload (pc := 163) dX7_layContent_163 rfl ?_
                          refine wq_ialdK (pc := 165) dX7_layContent_165 hs rfl (by omega) (by omega) ?_
                          rw [wr_n (x := 25) _ _ (by omega)]
                          refine wq_iadd (pc := 166) dX7_layContent_166 ?_
                          refine wq_iload (pc := 167) dX7_layContent_167 rfl ?_
                          refine wq_iadd (pc := 169) dX7_layContent_169 ?_
                          refine wq_aload_n (pc := 170) dX7_layContent_170 rfl rfl ?_
                          refine wq_getS (pc := 171) dX7_layContent_171 hs (gf_X7_16 _ rfl) rfl rfl rfl rfl rfl ?_
                          refine wq_iload (pc := 174) dX7_layContent_174 rfl ?_
                          refine wq_ialdK (pc := 176) dX7_layContent_176 hs rfl (by omega) (by omega) ?_
                          refine wq_iastK (pc := 177) dX7_layContent_177 hs rfl (by omega) (by omega) ?_
                          refine wq_iinc (pc := 178) (L' := [(5, _), (0, _), (1, _), (2, _), (3, _), (4, _)]) dX7_layContent_178 rfl rfl (by decide) ?_
                          refine wq_goto (pc := 181) (tgt := 107) dX7_layContent_181 (by decide) ?_
                          refine wq_sub1 (L' := [(0, _), (1, _), (2, _), (3, _), (4, _), (5, _)]) ⟨rfl, rfl, rfl, rfl, rfl, rfl, trivial⟩ ?_
                          rw [wr_n (x := 24) _ _ (by omega), t25, t24, t27]
                          have hbk := (hbe (by omega)).2
                          refine ih (k + 1) _ _ (by omega) (by omega) (by omega) (mB_wr (mB_wr e1 (Or.inr (Or.inr hbk))) (Or.inr (Or.inr (by show 0 ≤ m 24 w ∧ m 24 w ≤ 5000; omega)))) (fun x y hx => by rw [wr_n _ _ (by omega), wr_n _ _ (by omega)]; exact e2 x y hx) (fun q hq => ?_) (by omega)
                          by_cases c9 : q = k
                          · subst c9; rw [wr_n _ _ (by omega), wr_s, wr_s]; exact ⟨rfl, rfl⟩
                          · rw [wr_n _ _ (by omega), wr_n _ _ (by omega), wr_n _ _ (by omega), wr_n _ _ (by omega)]; exact e3 q (by omega)
                    refine wq_sub1 (L' := [(0, _), (1, _), (2, _), (3, _), (4, _), (5, _)]) ⟨rfl, rfl, rfl, rfl, rfl, rfl, trivial⟩ ?_
                    exact lpd7 9 0 _ _ (by omega) (by omega) (by omega) e2 (fun _ _ _ => rfl) (fun q hq => absurd hq (Nat.not_lt_zero q)) (by omega)
                  · skip
                    refine wq_aload_n (pc := 82) dX7_layContent_82 rfl rfl ?_
                    refine wq_getS (pc := 83) dX7_layContent_83 hs (gf_X7_93 _ rfl) rfl rfl rfl rfl rfl ?_
                    refine wq_iload (pc := 86) dX7_layContent_86 rfl ?_
                    refine wq_iconst (pc := 88) dX7_layContent_88 ?_
                    refine wq_iastK (pc := 89) dX7_layContent_89 hs rfl (by omega) (by omega) ?_
                    refine wq_aload_n (pc := 90) dX7_layContent_90 rfl rfl ?_
                    refine wq_getS (pc := 91) dX7_layContent_91 hs (gf_X7_96 _ rfl) rfl rfl rfl rfl rfl ?_
                    refine wq_iload (pc := 94) dX7_layContent_94 rfl ?_
                    refine wq_iconst (pc := 96) dX7_layContent_96 ?_
                    refine wq_iastK (pc := 97) dX7_layContent_97 hs rfl (by omega) (by omega) ?_
                    refine wq_iinc (pc := 98) (L' := [(5, _), (0, _), (1, _), (2, _), (3, _), (4, _)]) dX7_layContent_98 rfl rfl (by decide) ?_
                    refine wq_goto (pc := 101) (tgt := 73) dX7_layContent_101 (by decide) ?_
                    refine wq_sub1 (L' := [(0, _), (1, _), (2, _), (3, _), (4, _), (5, _)]) ⟨rfl, rfl, rfl, rfl, rfl, rfl, trivial⟩ ?_
                    refine ih (k + 1) _ _ (by omega) (by omega) (by omega) (by omega) (mB_wr (mB_wr e2 (Or.inr (Or.inr (by decide)))) (Or.inr (Or.inr (by decide)))) (fun x y hx => by rw [wr_n _ _ (by omega), wr_n _ _ (by omega)]; exact e3 x y hx) (fun y y0 y1 => ?_)
                    by_cases c9 : y = 64 * a + m 28 w + k
                    · subst c9; rw [wr_n _ _ (by omega), wr_s, wr_s]; exact ⟨rfl, rfl⟩
                    · rw [wr_n _ _ (by omega), wr_n _ _ (by omega), wr_n _ _ (by omega), wr_n _ _ (by omega)]; exact e4 y y0 (by omega)
              refine wq_sub1 (L' := [(0, _), (1, _), (2, _), (3, _), (4, _), (5, _)]) ⟨rfl, rfl, rfl, rfl, rfl, rfl, trivial⟩ ?_
              exact lpc5 65 0 _ _ (by omega) (by omega) (by omega) (by omega) e1 (fun _ _ _ => rfl) (fun y y0 y1 => by omega)
        refine wq_sub1 (L' := [(0, _), (1, _), (2, _), (3, _), (4, _)]) ⟨rfl, rfl, rfl, rfl, rfl, trivial⟩ ?_
        refine lpb3 129 0 _ _ _ 0 (by omega) (by omega) (by rw [mNxt_q (PrM_cg hP (fun x j hx => e2 x j (by omega))) _ _ 128 (Nat.le_refl _), e2 46 a (by omega)]) e1 e2 (fun p p0 p1 => ?_) ?_ (by omega) (by have := (cR_b (fun r => rT F r 1 (μ 46 a) ∧ (0 : Int) < fN F r 4) 128).2; omega) (by omega)
        · rw [nxt_0 hS p]
          exact ⟨(e3 _ (by omega) (by omega)).1, (e3 _ (by omega) (by omega)).2⟩
        · unfold LNv
          rw [nxt_0 hS 64]; rfl
      · skip
        refine wq_aload_n (pc := 19) dX7_layContent_19 rfl rfl ?_
        refine wq_getS (pc := 20) dX7_layContent_20 hs (gf_X7_93 _ rfl) rfl rfl rfl rfl rfl ?_
        refine wq_iload (pc := 23) dX7_layContent_23 rfl ?_
        refine wq_iconst (pc := 25) dX7_layContent_25 ?_
        refine wq_iastK (pc := 26) dX7_layContent_26 hs rfl (by omega) (by omega) ?_
        refine wq_aload_n (pc := 27) dX7_layContent_27 rfl rfl ?_
        refine wq_getS (pc := 28) dX7_layContent_28 hs (gf_X7_96 _ rfl) rfl rfl rfl rfl rfl ?_
        refine wq_iload (pc := 31) dX7_layContent_31 rfl ?_
        refine wq_iconst (pc := 33) dX7_layContent_33 ?_
        refine wq_iastK (pc := 34) dX7_layContent_34 hs rfl (by omega) (by omega) ?_
        refine wq_iinc (pc := 35) (L' := [(4, _), (0, _), (1, _), (2, _), (3, _)]) dX7_layContent_35 rfl rfl (by decide) ?_
        refine wq_goto (pc := 38) (tgt := 10) dX7_layContent_38 (by decide) ?_
        refine wq_sub1 (L' := [(0, _), (1, _), (2, _), (3, _), (4, _)]) ⟨rfl, rfl, rfl, rfl, rfl, trivial⟩ ?_
        refine ih (k + 1) _ _ (by omega) (by omega) (by omega) (mB_wr (mB_wr e1 (Or.inr (Or.inr (by decide)))) (Or.inr (Or.inr (by decide)))) (fun x y hx => by rw [wr_n _ _ (by omega), wr_n _ _ (by omega)]; exact e2 x y hx) (fun y y0 y1 => ?_)
        by_cases c9 : y = 64 * a + k
        · subst c9; rw [wr_n _ _ (by omega), wr_s, wr_s]; exact ⟨rfl, rfl⟩
        · rw [wr_n _ _ (by omega), wr_n _ _ (by omega), wr_n _ _ (by omega), wr_n _ _ (by omega)]; exact e3 y y0 (by omega)
  refine wq_sub1 (L' := [(0, _), (1, _), (2, _), (3, _), (4, _)]) ⟨rfl, rfl, rfl, rfl, rfl, trivial⟩ ?_
  exact loop1 65 0 _ _ (by omega) (by omega) (by omega) hb (fun _ _ _ => rfl) (fun y y0 y1 => by omega)
