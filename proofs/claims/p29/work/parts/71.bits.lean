/-! ### bits -/
def bt (x : Int) (p : Nat) : Bool := (Int64.ofInt x).toBitVec.getLsbD p
theorem ofInt_toInt64 (x : Int64) : Int64.ofInt x.toInt = x := Int64.ofInt_toInt x
theorem bt_and (x y : Int) (p : Nat) : bt (jAnd x y) p = (bt x p && bt y p) := by
  unfold bt jAnd
  rw [Int64.ofInt_toInt, Int64.toBitVec_and, BitVec.getLsbD_and]
theorem bt_or (x y : Int) (p : Nat) : bt (jOr x y) p = (bt x p || bt y p) := by
  unfold bt jOr
  rw [Int64.ofInt_toInt, Int64.toBitVec_or, BitVec.getLsbD_or]
theorem bt_m1 {p : Nat} (hp : p < 64) : bt (-1) p = true := by
  have e : (Int64.ofInt (-1)).toBitVec = BitVec.allOnes 64 := by decide
  unfold bt
  rw [e, BitVec.getLsbD_allOnes]; simp [hp]
theorem bt_not {x : Int} {p : Nat} (hp : p < 64) : bt (jXor x (-1)) p = !bt x p := by
  have h := bt_m1 hp
  unfold bt jXor at *
  rw [Int64.ofInt_toInt, Int64.toBitVec_xor, BitVec.getLsbD_xor, h, Bool.xor_true]
theorem amt : ∀ p : Fin 64, ((Int32.ofInt ((p : Nat) : Int)).toInt64.toUInt64 &&& Int64.toUInt64 63) = UInt64.ofNat p := by decide +kernel
theorem bt_ushr {x : Int} {p : Nat} (hp : p < 64) (q : Nat) : bt (jUshr x p) q = bt x (p + q) := by
  have ha := amt ⟨p, hp⟩
  have ha : ((Int32.ofInt (p : Int)).toInt64.toUInt64 &&& Int64.toUInt64 63) = UInt64.ofNat p := ha
  unfold bt jUshr
  rw [ha, Int64.ofInt_toInt]
  show ((Int64.ofInt x).toUInt64 >>> UInt64.ofNat p).toBitVec.getLsbD q = _
  rw [UInt64.toBitVec_shiftRight, BitVec.ushiftRight_eq', BitVec.getLsbD_ushiftRight]
  have : ((UInt64.ofNat p).toBitVec % 64).toNat = p := by
    rw [BitVec.toNat_umod]
    have e1 : (UInt64.ofNat p).toBitVec.toNat = p := by
      show (UInt64.ofNat p).toNat = p
      rw [UInt64.toNat_ofNat']; omega
    rw [e1]
    show p % 64 = p
    omega
  rw [this]; rfl
theorem bt_1 : ∀ q : Nat, bt 1 q = decide (q = 0) := fun q => by
  have e : (Int64.ofInt 1).toBitVec = 1#64 := by decide
  unfold bt
  rw [e]
  simp
/-- a bit asked for -/
theorem bt_ask {x : Int} {p : Nat} (hp : p < 64) : jAnd (jUshr x p) 1 ≠ 0 ↔ bt x p = true := by
  have key : ∀ q : Nat, bt (jAnd (jUshr x p) 1) q = (bt x (p + q) && decide (q = 0)) := fun q => by rw [bt_and, bt_ushr hp, bt_1]
  constructor
  · intro h
    by_cases c : bt x p = true
    · exact c
    · exfalso; apply h
      have z : ∀ q : Nat, bt (jAnd (jUshr x p) 1) q = false := fun q => by
        rw [key]
        by_cases e : q = 0
        · rw [e]; simpa using c
        · simp [e]
      have e0 : (Int64.ofInt (jAnd (jUshr x p) 1)).toBitVec = 0#64 := by
        apply BitVec.eq_of_getLsbD_eq
        intro i hi
        rw [BitVec.getLsbD_zero]
        exact z i
      have e1 : Int64.ofInt (jAnd (jUshr x p) 1) = 0 := Int64.toBitVec_inj.mp e0
      have e2 : (Int64.ofInt (jAnd (jUshr x p) 1)).toInt = jAnd (jUshr x p) 1 := by
        unfold jAnd; rw [Int64.ofInt_toInt]
      rw [← e2, e1]; rfl
  · intro h z
    have := key 0
    rw [z] at this
    rw [show p + 0 = p by omega, h] at this
    revert this; decide
theorem j_nz {x : Int} (hx : inL x) : x ≠ 0 ↔ ∃ p : Nat, p < 64 ∧ bt x p = true := by
  have e2 : (Int64.ofInt x).toInt = x := by
    unfold inL at hx
    exact Int64.toInt_ofInt_of_le (by omega) (by omega)
  constructor
  · intro h
    refine Classical.byContradiction (fun c => h ?_)
    have e0 : (Int64.ofInt x).toBitVec = 0#64 := by
      apply BitVec.eq_of_getLsbD_eq
      intro i hi
      rw [BitVec.getLsbD_zero]
      by_cases q : bt x i = true
      · exact absurd ⟨i, hi, q⟩ c
      · simpa [bt] using q
    have e1 : Int64.ofInt x = 0 := Int64.toBitVec_inj.mp e0
    rw [← e2, e1]; rfl
  · rintro ⟨p, hp, h⟩ z
    rw [z] at h
    have : bt 0 p = false := by
      have e : (Int64.ofInt 0).toBitVec = 0#64 := by decide
      unfold bt; rw [e, BitVec.getLsbD_zero]
    rw [this] at h; cases h
def tabM : Bool := (List.range 64).all (fun z => (List.range 64).all (fun p => bt (jShl (-1) z) p == decide (z ≤ p)))
theorem tabM_ok : tabM = true := by decide +kernel
theorem bt_shm {z p : Nat} (hz : z < 64) (hp : p < 64) : bt (jShl (-1) z) p = decide (z ≤ p) := by
  have h := tabM_ok
  unfold tabM at h
  have h1 := List.all_eq_true.mp h z (List.mem_range.mpr hz)
  have h2 := List.all_eq_true.mp h1 p (List.mem_range.mpr hp)
  simpa using h2
def tabL (n : Nat) : Bool := (List.range 64).all (fun o => (List.range 64).all (fun p => decide (64 < o + n) || (bt (jShl (jShl 1 n - 1) o) p == (decide (o ≤ p) && decide (p < o + n)))))
theorem tabL_0 : tabL 0 = true := by decide +kernel
theorem tabL_1 : tabL 1 = true := by decide +kernel
theorem tabL_2 : tabL 2 = true := by decide +kernel
theorem tabL_3 : tabL 3 = true := by decide +kernel
theorem tabL_4 : tabL 4 = true := by decide +kernel
theorem tabL_5 : tabL 5 = true := by decide +kernel
theorem tabL_6 : tabL 6 = true := by decide +kernel
theorem tabL_7 : tabL 7 = true := by decide +kernel
theorem tabL_8 : tabL 8 = true := by decide +kernel
theorem bt_lay {n o p : Nat} (hn : n ≤ 8) (ho : o < 64) (hno : o + n ≤ 64) (hp : p < 64) : bt (jShl (jShl 1 n - 1) o) p = (decide (o ≤ p) && decide (p < o + n)) := by
  have h : tabL n = true := by
    have : n = 0 ∨ n = 1 ∨ n = 2 ∨ n = 3 ∨ n = 4 ∨ n = 5 ∨ n = 6 ∨ n = 7 ∨ n = 8 := by omega
    rcases this with e | e | e | e | e | e | e | e | e <;> rw [e]
    exact tabL_0
    exact tabL_1
    exact tabL_2
    exact tabL_3
    exact tabL_4
    exact tabL_5
    exact tabL_6
    exact tabL_7
    exact tabL_8
  unfold tabL at h
  have h1 := List.all_eq_true.mp h o (List.mem_range.mpr ho)
  have h2 := List.all_eq_true.mp h1 p (List.mem_range.mpr hp)
  rw [Bool.or_eq_true] at h2
  rcases h2 with q | q
  · have := of_decide_eq_true q; omega
  · simpa using q
