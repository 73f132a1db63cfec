theorem n_i32 {x : Int} (h : inR x) : (Int32.ofInt x).toInt = x := by
  unfold inR at h
  rw [Int32.toInt_ofInt]; show Int.bmod x 4294967296 = x; exact Int.bmod_eq_of_le (by omega) (by omega)
theorem n_i64 {x : Int} (h : inL x) : (Int64.ofInt x).toInt = x := by
  unfold inL at h
  rw [Int64.toInt_ofInt]; show Int.bmod x 18446744073709551616 = x; exact Int.bmod_eq_of_le (by omega) (by omega)
theorem n_eq {x y : Int} (hx : inR x) (hy : inR y) : Int32.ofInt x = Int32.ofInt y ↔ x = y := by
  constructor
  · intro h; have := congrArg Int32.toInt h; rwa [n_i32 hx, n_i32 hy] at this
  · intro h; rw [h]
theorem n_lt {x y : Int} (hx : inR x) (hy : inR y) : Int32.ofInt x < Int32.ofInt y ↔ x < y := by
  rw [Int32.lt_iff_toInt_lt, n_i32 hx, n_i32 hy]
theorem n_le {x y : Int} (hx : inR x) (hy : inR y) : Int32.ofInt x ≤ Int32.ofInt y ↔ x ≤ y := by
  rw [Int32.le_iff_toInt_le, n_i32 hx, n_i32 hy]
theorem n_0 : (0 : Int32) = Int32.ofInt 0 := by decide
theorem n_in0 : inR 0 := by unfold inR; omega
theorem n_add (x y : Int) : Int32.ofInt x + Int32.ofInt y = Int32.ofInt (x + y) := (Int32.ofInt_add ..).symm
theorem n_sub (x y : Int) : Int32.ofInt x - Int32.ofInt y = Int32.ofInt (x - y) := (Int32.ofInt_sub ..).symm
theorem n_mul (x y : Int) : Int32.ofInt x * Int32.ofInt y = Int32.ofInt (x * y) := (Int32.ofInt_mul ..).symm
theorem n_ladd (x y : Int) : Int64.ofInt x + Int64.ofInt y = Int64.ofInt (x + y) := (Int64.ofInt_add ..).symm
theorem n_lsub (x y : Int) : Int64.ofInt x - Int64.ofInt y = Int64.ofInt (x - y) := (Int64.ofInt_sub ..).symm
theorem n_lmul (x y : Int) : Int64.ofInt x * Int64.ofInt y = Int64.ofInt (x * y) := (Int64.ofInt_mul ..).symm
theorem n_div {x y : Int} (hx : 0 ≤ x ∧ x ≤ 2147483647) (hy : 0 < y ∧ y ≤ 2147483647) : Int32.ofInt x / Int32.ofInt y = Int32.ofInt (x / y) := by
  apply Int32.toInt_inj.mp
  have h1 : x / y ≤ x := Int.ediv_le_self _ hx.1
  have h2 : 0 ≤ x / y := Int.ediv_nonneg hx.1 (by omega)
  rw [Int32.toInt_div, n_i32 (by unfold inR; omega), n_i32 (by unfold inR; omega), n_i32 (by unfold inR; omega), Int.tdiv_eq_ediv_of_nonneg hx.1]
  exact Int.bmod_eq_of_le (by omega) (by omega)
theorem n_i2l {x : Int} (h : inR x) : (Int32.ofInt x).toInt64 = Int64.ofInt x := by
  apply Int64.toInt_inj.mp
  rw [Int32.toInt_toInt64, n_i32 h, n_i64 (by unfold inR at h; unfold inL; omega)]
theorem n_l2i (x : Int) : (Int64.ofInt x).toInt32 = Int32.ofInt x := by simp
theorem n_clamp {i : Int} (h0 : 0 ≤ i) (h1 : i ≤ 2147483647) : (Int32.ofInt i).toNatClampNeg = i.toNat := by
  rw [Int32.toNatClampNeg, n_i32 (by unfold inR; omega)]
theorem n_in {i : Int} {n : Nat} (h0 : 0 ≤ i) (h1 : i < n) (h2 : n ≤ 2147483648) : ¬ (Int32.ofInt i < 0 ∨ n ≤ (Int32.ofInt i).toNatClampNeg) := by
  rw [n_clamp h0 (by omega), n_0, n_lt (by unfold inR; omega) n_in0]
  omega
theorem n_bi : ∀ n : Int, -128 ≤ n → n ≤ 127 → (Int8.ofInt n).toInt32 = Int32.ofInt n := by
  intro n h1 h2
  apply Int32.toInt_inj.mp
  rw [Int8.toInt_toInt32, Int8.toInt_ofInt, n_i32 (by unfold inR; omega)]
  show Int.bmod n 256 = n; exact Int.bmod_eq_of_le (by omega) (by omega)
theorem n_si : ∀ n : Int, -32768 ≤ n → n ≤ 32767 → (Int16.ofInt n).toInt32 = Int32.ofInt n := by
  intro n h1 h2
  apply Int32.toInt_inj.mp
  rw [Int16.toInt_toInt32, Int16.toInt_ofInt, n_i32 (by unfold inR; omega)]
  show Int.bmod n 65536 = n; exact Int.bmod_eq_of_le (by omega) (by omega)
