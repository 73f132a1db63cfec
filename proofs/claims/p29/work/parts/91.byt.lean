/-! ### bytes in longs -/
theorem bt_eq {x y : Int} (hx : inL x) (hy : inL y) (h : ∀ q : Nat, q < 64 → bt x q = bt y q) : x = y := by
  have e : (Int64.ofInt x).toBitVec = (Int64.ofInt y).toBitVec := BitVec.eq_of_getLsbD_eq (fun i hi => h i hi)
  have e1 : Int64.ofInt x = Int64.ofInt y := Int64.toBitVec_inj.mp e
  have e2 := congrArg Int64.toInt e1
  rwa [n_i64 hx, n_i64 hy] at e2
theorem jL (x : Int64) : inL x.toInt := by
  have h1 := x.le_toInt
  have h2 := x.toInt_lt
  unfold inL; omega
theorem jAnd_L (x y : Int) : inL (jAnd x y) := jL _
theorem bt_0 (q : Nat) : bt 0 q = false := by
  have e : (Int64.ofInt 0).toBitVec = 0#64 := by decide
  unfold bt
  rw [e, BitVec.getLsbD_zero]
theorem bt_255 (q : Nat) : bt 255 q = decide (q < 8) := by
  have e : (Int64.ofInt 255).toBitVec = 255#64 := by decide
  unfold bt
  rw [e]
  by_cases h : q < 64
  · have t : ∀ q : Fin 64, (255#64).getLsbD q = decide ((q : Nat) < 8) := by decide +kernel
    exact t ⟨q, h⟩
  · rw [BitVec.getLsbD_of_ge _ _ (by omega)]
    simp; omega
theorem amt2 : ∀ p : Fin 64, (((Int32.ofInt ((p : Nat) : Int)).toInt64 &&& 63).toBitVec.smod 64).toNat = (p : Nat) := by decide +kernel
theorem bt_shl {x : Int} {p : Nat} (hp : p < 64) {q : Nat} (hq : q < 64) : bt (jShl x p) q = (decide (p ≤ q) && bt x (q - p)) := by
  have ha : (((Int32.ofInt (p : Int)).toInt64 &&& 63).toBitVec.smod 64).toNat = p := amt2 ⟨p, hp⟩
  unfold bt jShl
  rw [Int64.ofInt_toInt, Int64.toBitVec_shiftLeft, BitVec.shiftLeft_eq', ha, BitVec.getLsbD_shiftLeft]
  by_cases c : p ≤ q
  · simp [hq, c, Nat.not_lt.mpr c]
  · simp [hq, c, Nat.lt_of_not_le c]
theorem bt_shr {x : Int} {p : Nat} (hp : p < 64) {q : Nat} (hq : p + q < 64) : bt (jShr x p) q = bt x (p + q) := by
  have ha : (((Int32.ofInt (p : Int)).toInt64 &&& 63).toBitVec.smod 64).toNat = p := amt2 ⟨p, hp⟩
  unfold bt jShr
  rw [Int64.ofInt_toInt, Int64.toBitVec_shiftRight, BitVec.sshiftRight_eq', ha, BitVec.getLsbD_sshiftRight]
  simp [hq]; omega
theorem jB_eq {x y : Int} (h : ∀ q : Nat, q < 8 → bt x q = bt y q) : jAnd x 255 = jAnd y 255 := bt_eq (jAnd_L _ _) (jAnd_L _ _) (fun q _ => by
  rw [bt_and, bt_and, bt_255]
  by_cases c : q < 8
  · rw [h q c]
  · simp [c])
theorem iB_jB (x : Int) : iAnd x 255 = jAnd x 255 := by
  have e1 : iAnd x 255 = x % 256 := by
    unfold iAnd
    have : (Int32.ofInt x &&& Int32.ofInt 255).toInt = ((Int32.ofInt x).toBitVec &&& 255#32).toInt := rfl
    rw [this, show (Int32.ofInt x).toBitVec = BitVec.ofInt 32 x from rfl, BitVec.toInt_eq_toNat_of_lt, BitVec.toNat_and]
    · rw [show (255#32).toNat = 2 ^ 8 - 1 from rfl, Nat.and_two_pow_sub_one_eq_mod, BitVec.toNat_ofInt]
      omega
    · rw [BitVec.toNat_and, show (255#32).toNat = 2 ^ 8 - 1 from rfl, Nat.and_two_pow_sub_one_eq_mod]; omega
  have e2 : jAnd x 255 = x % 256 := by
    unfold jAnd
    have : (Int64.ofInt x &&& Int64.ofInt 255).toInt = ((Int64.ofInt x).toBitVec &&& 255#64).toInt := rfl
    rw [this, show (Int64.ofInt x).toBitVec = BitVec.ofInt 64 x from rfl, BitVec.toInt_eq_toNat_of_lt, BitVec.toNat_and]
    · rw [show (255#64).toNat = 2 ^ 8 - 1 from rfl, Nat.and_two_pow_sub_one_eq_mod, BitVec.toNat_ofInt]
      omega
    · rw [BitVec.toNat_and, show (255#64).toNat = 2 ^ 8 - 1 from rfl, Nat.and_two_pow_sub_one_eq_mod]; omega
  rw [e1, e2]
/-- a long with one byte laid anew -/
abbrev layJ (x s v : Int) : Int := jOr (jAnd x (jXor (jShl 255 s) (-1))) (jShl (jAnd v 255) s)
abbrev getJ (x s : Int) : Int := jAnd (jShr x s) 255
theorem layJ_s {x v : Int} {k : Nat} (hk : k < 8) : getJ (layJ x (8 * (k : Int)) v) (8 * (k : Int)) = jAnd v 255 := by
  refine jB_eq (fun q hq => ?_)
  rw [show (8 * (k : Int)) = ((8 * k : Nat) : Int) by omega, bt_shr (by omega) (by omega), bt_or, bt_and, bt_not (by omega), bt_shl (by omega) (by omega), bt_shl (by omega) (by omega), bt_255, bt_and, bt_255]
  rw [show 8 * k + q - 8 * k = q by omega]
  simp [hq]
theorem layJ_n {x v : Int} {k j : Nat} (hk : k < 8) (hj : j < 8) (h : j ≠ k) : getJ (layJ x (8 * (k : Int)) v) (8 * (j : Int)) = getJ x (8 * (j : Int)) := by
  refine jB_eq (fun q hq => ?_)
  rw [show (8 * (k : Int)) = ((8 * k : Nat) : Int) by omega, show (8 * (j : Int)) = ((8 * j : Nat) : Int) by omega, bt_shr (by omega) (by omega), bt_shr (by omega) (by omega), bt_or, bt_and, bt_not (by omega), bt_shl (by omega) (by omega), bt_shl (by omega) (by omega), bt_255, bt_and, bt_255]
  by_cases c : 8 * k ≤ 8 * j + q
  · have : ¬ (8 * j + q - 8 * k < 8) := by omega
    simp [this]
  · simp [c]
theorem getJ_0 {k : Nat} (hk : k < 8) : getJ 0 (8 * (k : Int)) = 0 := by
  have h : getJ 0 (8 * (k : Int)) = jAnd 0 255 := jB_eq (fun q hq => by
    rw [show (8 * (k : Int)) = ((8 * k : Nat) : Int) by omega, bt_shr (by omega) (by omega), bt_0, bt_0])
  rw [h]; decide
/-- the law's byte of a file's content, and what a place of it is laid with -/
abbrev cB (c : Int → Int) (i p : Int) : Int := getJ (c (8 * i + p / 8)) (8 * (p % 8))
theorem byt_k {b k : Int} (hk : 0 ≤ k ∧ k < 8) : jAnd (jShr b (8 * k)) 255 = iAnd (jUshr b (8 * k)) 255 := by
  rw [iB_jB]
  obtain ⟨n, rfl⟩ := Int.eq_ofNat_of_zero_le hk.1
  refine jB_eq (fun q hq => ?_)
  rw [show (8 * (n : Int)) = ((8 * n : Nat) : Int) by omega, bt_shr (by omega) (by omega), bt_ushr (by omega)]
/-- one place of the contents laid anew: the other bytes stay -/
theorem cB_lay {c c' : Int → Int} {i0 p0 v : Int} (hp : 0 ≤ p0 ∧ p0 < 64) (h : ∀ j, c' j = if j = 8 * i0 + p0 / 8 then layJ (c (8 * i0 + p0 / 8)) (8 * (p0 % 8)) v else c j) (i p : Int) (hp2 : 0 ≤ p ∧ p < 64) : cB c' i p = if i = i0 ∧ p = p0 then jAnd v 255 else cB c i p := by
  unfold cB
  rw [h]
  obtain ⟨k, hk⟩ : ∃ k : Nat, p0 % 8 = k := ⟨(p0 % 8).toNat, by omega⟩
  obtain ⟨j, hj⟩ : ∃ k : Nat, p % 8 = k := ⟨(p % 8).toNat, by omega⟩
  by_cases e : 8 * i + p / 8 = 8 * i0 + p0 / 8
  · rw [if_pos e, hk, hj]
    by_cases z : j = k
    · subst z
      rw [if_pos (by omega), layJ_s (by omega)]
    · rw [if_neg (by omega), layJ_n (by omega) (by omega) z, e]
  · rw [if_neg e, if_neg (by rintro ⟨a, b⟩; apply e; rw [a, b])]
/-! ### behind a file's end there is nothing -/
theorem BY_end {F : Fl} (hS : NS F) (hU : NU F) {f p : Int} (h0 : LN F f ≤ p) (hp : p < 64) : BY F f p = 0 := by
  have hv : ∀ j, 0 ≤ j → j < 128 → rT F j 1 f → fN F j 4 < 2147483647 ∧ sOK (fN F j) := fun j j0 j1 q => by
    have := hS j j0 j1 ((rT_W (Or.inl rfl)).mp q).1
    exact ⟨by have := sOK_k this; omega, this⟩
  have all64 : ∀ j, 0 ≤ j → j < 128 → rT F j 1 f → qC F 1 f 64 2147483647 j := fun j j0 j1 q => by
    obtain ⟨a, b⟩ := hv j j0 j1 q
    have := sOK_k b
    have h1 := q.1
    exact ⟨q, a, Or.inr ⟨by omega, Or.inl (by omega)⟩⟩
  unfold BY qByt
  by_cases c : qNew F 1 f p 2147483647 128 = -1
  · rw [if_pos c]
  · rw [if_neg c]
    rcases qNew_sp F 1 f 64 2147483647 128 with ⟨a1, a2⟩ | ⟨a1, a2, a3⟩
    · rcases qNew_sp F 1 f p 2147483647 128 with ⟨b1, b2⟩ | ⟨b1, b2, b3⟩
      · exact absurd b1 c
      · exact absurd (all64 _ b1.1 b1.2 b2.1) (a2 _ b1.1 b1.2)
    · have hLN : LN F f = fN F (qNew F 1 f 64 2147483647 128) 9 := by unfold LN; rw [if_neg (by omega)]
      obtain ⟨a, b⟩ := hv _ a1.1 a1.2 a2.1
      have hk := sOK_k b
      have hq : qNew F 1 f p 2147483647 128 = qNew F 1 f 64 2147483647 128 := by
        refine qNew_is a1.1 a1.2 ⟨a2.1, a, Or.inr ⟨by have := a2.1.1; omega, Or.inl (by rw [← hLN]; exact h0)⟩⟩ (fun j j0 j1 q => ?_)
        exact a3 j j0 j1 (all64 j j0 j1 q.1)
      rw [hq]
      unfold fByteFor
      have : fN F (qNew F 1 f 64 2147483647 128) 5 + fN F (qNew F 1 f 64 2147483647 128) 6 ≤ fN F (qNew F 1 f 64 2147483647 128) 9 := by
        have h1 := a2.1.1
        rcases b with w | w
        · omega
        · omega
      rw [if_neg (by omega)]
