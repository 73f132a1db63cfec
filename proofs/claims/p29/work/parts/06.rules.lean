theorem wq_iadd {M : nM} {pc : Nat} {L : List (Nat × nV)} {st : List nV} {μ : nMem} {ε : nEnv} {tb : List ExceptionTableEntry → Prop} {Fn : nG → Nat → Nat → List Frame → Array Value → State → State → Prop} {x y : Int} (hd : decode (mCode M) pc = .ok (.iadd, 1))  (k : wpF M (pc + 1) L (vI (x + y) :: st) μ ε tb Fn) : wpF M pc L (vI y :: vI x :: st) μ ε tb Fn := by
  intro G hG z0 n0 p l e R s m args below meth c hC htb H locs ls hR hl hS hz hn
  obtain ⟨hx, -, hb, -⟩ := id hC
  have h := k G hG z0 n0 p l e R s m args below meth c hC htb H locs ls hR hl hS hz hn
  refine lv_iadd hx hb hd ?_
  rw [n_add]; exact h
theorem wq_isub {M : nM} {pc : Nat} {L : List (Nat × nV)} {st : List nV} {μ : nMem} {ε : nEnv} {tb : List ExceptionTableEntry → Prop} {Fn : nG → Nat → Nat → List Frame → Array Value → State → State → Prop} {x y : Int} (hd : decode (mCode M) pc = .ok (.isub, 1))  (k : wpF M (pc + 1) L (vI (x - y) :: st) μ ε tb Fn) : wpF M pc L (vI y :: vI x :: st) μ ε tb Fn := by
  intro G hG z0 n0 p l e R s m args below meth c hC htb H locs ls hR hl hS hz hn
  obtain ⟨hx, -, hb, -⟩ := id hC
  have h := k G hG z0 n0 p l e R s m args below meth c hC htb H locs ls hR hl hS hz hn
  refine lv_isub hx hb hd ?_
  rw [n_sub]; exact h
theorem wq_imul {M : nM} {pc : Nat} {L : List (Nat × nV)} {st : List nV} {μ : nMem} {ε : nEnv} {tb : List ExceptionTableEntry → Prop} {Fn : nG → Nat → Nat → List Frame → Array Value → State → State → Prop} {x y : Int} (hd : decode (mCode M) pc = .ok (.imul, 1))  (k : wpF M (pc + 1) L (vI (x * y) :: st) μ ε tb Fn) : wpF M pc L (vI y :: vI x :: st) μ ε tb Fn := by
  intro G hG z0 n0 p l e R s m args below meth c hC htb H locs ls hR hl hS hz hn
  obtain ⟨hx, -, hb, -⟩ := id hC
  have h := k G hG z0 n0 p l e R s m args below meth c hC htb H locs ls hR hl hS hz hn
  refine lv_imul hx hb hd ?_
  rw [n_mul]; exact h
theorem wq_ladd {M : nM} {pc : Nat} {L : List (Nat × nV)} {st : List nV} {μ : nMem} {ε : nEnv} {tb : List ExceptionTableEntry → Prop} {Fn : nG → Nat → Nat → List Frame → Array Value → State → State → Prop} {x y : Int} (hd : decode (mCode M) pc = .ok (.ladd, 1))  (k : wpF M (pc + 1) L (vJ (x + y) :: st) μ ε tb Fn) : wpF M pc L (vJ y :: vJ x :: st) μ ε tb Fn := by
  intro G hG z0 n0 p l e R s m args below meth c hC htb H locs ls hR hl hS hz hn
  obtain ⟨hx, -, hb, -⟩ := id hC
  have h := k G hG z0 n0 p l e R s m args below meth c hC htb H locs ls hR hl hS hz hn
  refine lv_ladd hx hb hd ?_
  rw [n_ladd]; exact h
theorem wq_lsub {M : nM} {pc : Nat} {L : List (Nat × nV)} {st : List nV} {μ : nMem} {ε : nEnv} {tb : List ExceptionTableEntry → Prop} {Fn : nG → Nat → Nat → List Frame → Array Value → State → State → Prop} {x y : Int} (hd : decode (mCode M) pc = .ok (.lsub, 1))  (k : wpF M (pc + 1) L (vJ (x - y) :: st) μ ε tb Fn) : wpF M pc L (vJ y :: vJ x :: st) μ ε tb Fn := by
  intro G hG z0 n0 p l e R s m args below meth c hC htb H locs ls hR hl hS hz hn
  obtain ⟨hx, -, hb, -⟩ := id hC
  have h := k G hG z0 n0 p l e R s m args below meth c hC htb H locs ls hR hl hS hz hn
  refine lv_lsub hx hb hd ?_
  rw [n_lsub]; exact h
theorem wq_lmul {M : nM} {pc : Nat} {L : List (Nat × nV)} {st : List nV} {μ : nMem} {ε : nEnv} {tb : List ExceptionTableEntry → Prop} {Fn : nG → Nat → Nat → List Frame → Array Value → State → State → Prop} {x y : Int} (hd : decode (mCode M) pc = .ok (.lmul, 1))  (k : wpF M (pc + 1) L (vJ (x * y) :: st) μ ε tb Fn) : wpF M pc L (vJ y :: vJ x :: st) μ ε tb Fn := by
  intro G hG z0 n0 p l e R s m args below meth c hC htb H locs ls hR hl hS hz hn
  obtain ⟨hx, -, hb, -⟩ := id hC
  have h := k G hG z0 n0 p l e R s m args below meth c hC htb H locs ls hR hl hS hz hn
  refine lv_lmul hx hb hd ?_
  rw [n_lmul]; exact h
theorem n_ne0 {y : Int} (hy : 0 < y ∧ y ≤ 2147483647) : ¬ Int32.ofInt y = 0 := by
  rw [n_0, n_eq (by unfold inR; omega) n_in0]; omega
theorem n_rem {x y : Int} (hx : 0 ≤ x ∧ x ≤ 2147483647) (hy : 0 < y ∧ y ≤ 2147483647) : Int32.ofInt x - Int32.ofInt x / Int32.ofInt y * Int32.ofInt y = Int32.ofInt (x % y) := by
  rw [n_div hx hy, n_mul, n_sub, Int.emod_def, Int.mul_comm]
theorem wq_idiv {M : nM} {pc : Nat} {L : List (Nat × nV)} {st : List nV} {μ : nMem} {ε : nEnv} {tb : List ExceptionTableEntry → Prop} {Fn : nG → Nat → Nat → List Frame → Array Value → State → State → Prop} {x y : Int} (hd : decode (mCode M) pc = .ok (.idiv, 1)) (h0 : 0 ≤ x ∧ x ≤ 2147483647) (h1 : 0 < y ∧ y ≤ 2147483647) (k : wpF M (pc + 1) L (vI (x / y) :: st) μ ε tb Fn) : wpF M pc L (vI y :: vI x :: st) μ ε tb Fn := by
  intro G hG z0 n0 p l e R s m args below meth c hC htb H locs ls hR hl hS hz hn
  obtain ⟨hx, -, hb, -⟩ := id hC
  have h := k G hG z0 n0 p l e R s m args below meth c hC htb H locs ls hR hl hS hz hn
  refine lv_idiv hx hb hd (n_ne0 h1) ?_
  rw [n_div h0 h1]; exact h
theorem wq_irem {M : nM} {pc : Nat} {L : List (Nat × nV)} {st : List nV} {μ : nMem} {ε : nEnv} {tb : List ExceptionTableEntry → Prop} {Fn : nG → Nat → Nat → List Frame → Array Value → State → State → Prop} {x y : Int} (hd : decode (mCode M) pc = .ok (.irem, 1)) (h0 : 0 ≤ x ∧ x ≤ 2147483647) (h1 : 0 < y ∧ y ≤ 2147483647) (k : wpF M (pc + 1) L (vI (x % y) :: st) μ ε tb Fn) : wpF M pc L (vI y :: vI x :: st) μ ε tb Fn := by
  intro G hG z0 n0 p l e R s m args below meth c hC htb H locs ls hR hl hS hz hn
  obtain ⟨hx, -, hb, -⟩ := id hC
  have h := k G hG z0 n0 p l e R s m args below meth c hC htb H locs ls hR hl hS hz hn
  refine lv_irem hx hb hd (n_ne0 h1) ?_
  rw [n_rem h0 h1]; exact h
def iAnd (x y : Int) : Int := (Int32.ofInt x &&& Int32.ofInt y).toInt
theorem iAnd_v (x y : Int) : Int32.ofInt x &&& Int32.ofInt y = Int32.ofInt (iAnd x y) := (Int32.ofInt_toInt _).symm
theorem wq_iand {M : nM} {pc : Nat} {L : List (Nat × nV)} {st : List nV} {μ : nMem} {ε : nEnv} {tb : List ExceptionTableEntry → Prop} {Fn : nG → Nat → Nat → List Frame → Array Value → State → State → Prop} {x y : Int} (hd : decode (mCode M) pc = .ok (.iand, 1))  (k : wpF M (pc + 1) L (vI (iAnd x y) :: st) μ ε tb Fn) : wpF M pc L (vI y :: vI x :: st) μ ε tb Fn := by
  intro G hG z0 n0 p l e R s m args below meth c hC htb H locs ls hR hl hS hz hn
  obtain ⟨hx, -, hb, -⟩ := id hC
  have h := k G hG z0 n0 p l e R s m args below meth c hC htb H locs ls hR hl hS hz hn
  refine lv_iand hx hb hd ?_
  rw [iAnd_v]; exact h
def iXor (x y : Int) : Int := (Int32.ofInt x ^^^ Int32.ofInt y).toInt
theorem iXor_v (x y : Int) : Int32.ofInt x ^^^ Int32.ofInt y = Int32.ofInt (iXor x y) := (Int32.ofInt_toInt _).symm
theorem wq_ixor {M : nM} {pc : Nat} {L : List (Nat × nV)} {st : List nV} {μ : nMem} {ε : nEnv} {tb : List ExceptionTableEntry → Prop} {Fn : nG → Nat → Nat → List Frame → Array Value → State → State → Prop} {x y : Int} (hd : decode (mCode M) pc = .ok (.ixor, 1))  (k : wpF M (pc + 1) L (vI (iXor x y) :: st) μ ε tb Fn) : wpF M pc L (vI y :: vI x :: st) μ ε tb Fn := by
  intro G hG z0 n0 p l e R s m args below meth c hC htb H locs ls hR hl hS hz hn
  obtain ⟨hx, -, hb, -⟩ := id hC
  have h := k G hG z0 n0 p l e R s m args below meth c hC htb H locs ls hR hl hS hz hn
  refine lv_ixor hx hb hd ?_
  rw [iXor_v]; exact h
def jAnd (x y : Int) : Int := (Int64.ofInt x &&& Int64.ofInt y).toInt
theorem jAnd_v (x y : Int) : Int64.ofInt x &&& Int64.ofInt y = Int64.ofInt (jAnd x y) := (Int64.ofInt_toInt _).symm
theorem wq_land {M : nM} {pc : Nat} {L : List (Nat × nV)} {st : List nV} {μ : nMem} {ε : nEnv} {tb : List ExceptionTableEntry → Prop} {Fn : nG → Nat → Nat → List Frame → Array Value → State → State → Prop} {x y : Int} (hd : decode (mCode M) pc = .ok (.land, 1))  (k : wpF M (pc + 1) L (vJ (jAnd x y) :: st) μ ε tb Fn) : wpF M pc L (vJ y :: vJ x :: st) μ ε tb Fn := by
  intro G hG z0 n0 p l e R s m args below meth c hC htb H locs ls hR hl hS hz hn
  obtain ⟨hx, -, hb, -⟩ := id hC
  have h := k G hG z0 n0 p l e R s m args below meth c hC htb H locs ls hR hl hS hz hn
  refine lv_land hx hb hd ?_
  rw [jAnd_v]; exact h
def jOr (x y : Int) : Int := (Int64.ofInt x ||| Int64.ofInt y).toInt
theorem jOr_v (x y : Int) : Int64.ofInt x ||| Int64.ofInt y = Int64.ofInt (jOr x y) := (Int64.ofInt_toInt _).symm
theorem wq_lor {M : nM} {pc : Nat} {L : List (Nat × nV)} {st : List nV} {μ : nMem} {ε : nEnv} {tb : List ExceptionTableEntry → Prop} {Fn : nG → Nat → Nat → List Frame → Array Value → State → State → Prop} {x y : Int} (hd : decode (mCode M) pc = .ok (.lor, 1))  (k : wpF M (pc + 1) L (vJ (jOr x y) :: st) μ ε tb Fn) : wpF M pc L (vJ y :: vJ x :: st) μ ε tb Fn := by
  intro G hG z0 n0 p l e R s m args below meth c hC htb H locs ls hR hl hS hz hn
  obtain ⟨hx, -, hb, -⟩ := id hC
  have h := k G hG z0 n0 p l e R s m args below meth c hC htb H locs ls hR hl hS hz hn
  refine lv_lor hx hb hd ?_
  rw [jOr_v]; exact h
def jXor (x y : Int) : Int := (Int64.ofInt x ^^^ Int64.ofInt y).toInt
theorem jXor_v (x y : Int) : Int64.ofInt x ^^^ Int64.ofInt y = Int64.ofInt (jXor x y) := (Int64.ofInt_toInt _).symm
theorem wq_lxor {M : nM} {pc : Nat} {L : List (Nat × nV)} {st : List nV} {μ : nMem} {ε : nEnv} {tb : List ExceptionTableEntry → Prop} {Fn : nG → Nat → Nat → List Frame → Array Value → State → State → Prop} {x y : Int} (hd : decode (mCode M) pc = .ok (.lxor, 1))  (k : wpF M (pc + 1) L (vJ (jXor x y) :: st) μ ε tb Fn) : wpF M pc L (vJ y :: vJ x :: st) μ ε tb Fn := by
  intro G hG z0 n0 p l e R s m args below meth c hC htb H locs ls hR hl hS hz hn
  obtain ⟨hx, -, hb, -⟩ := id hC
  have h := k G hG z0 n0 p l e R s m args below meth c hC htb H locs ls hR hl hS hz hn
  refine lv_lxor hx hb hd ?_
  rw [jXor_v]; exact h
def jShl (x y : Int) : Int := (Int64.ofInt x <<< ((Int32.ofInt y).toInt64 &&& 63)).toInt
theorem wq_lshl {M : nM} {pc : Nat} {L : List (Nat × nV)} {st : List nV} {μ : nMem} {ε : nEnv} {tb : List ExceptionTableEntry → Prop} {Fn : nG → Nat → Nat → List Frame → Array Value → State → State → Prop} {x y : Int} (hd : decode (mCode M) pc = .ok (.lshl, 1))  (k : wpF M (pc + 1) L (vJ (jShl x y) :: st) μ ε tb Fn) : wpF M pc L (vI y :: vJ x :: st) μ ε tb Fn := by
  intro G hG z0 n0 p l e R s m args below meth c hC htb H locs ls hR hl hS hz hn
  obtain ⟨hx, -, hb, -⟩ := id hC
  have h := k G hG z0 n0 p l e R s m args below meth c hC htb H locs ls hR hl hS hz hn
  exact lv_lshl hx hb hd (Int64.ofInt_toInt _).symm h
def jShr (x y : Int) : Int := (Int64.ofInt x >>> ((Int32.ofInt y).toInt64 &&& 63)).toInt
theorem wq_lshr {M : nM} {pc : Nat} {L : List (Nat × nV)} {st : List nV} {μ : nMem} {ε : nEnv} {tb : List ExceptionTableEntry → Prop} {Fn : nG → Nat → Nat → List Frame → Array Value → State → State → Prop} {x y : Int} (hd : decode (mCode M) pc = .ok (.lshr, 1))  (k : wpF M (pc + 1) L (vJ (jShr x y) :: st) μ ε tb Fn) : wpF M pc L (vI y :: vJ x :: st) μ ε tb Fn := by
  intro G hG z0 n0 p l e R s m args below meth c hC htb H locs ls hR hl hS hz hn
  obtain ⟨hx, -, hb, -⟩ := id hC
  have h := k G hG z0 n0 p l e R s m args below meth c hC htb H locs ls hR hl hS hz hn
  exact lv_lshr hx hb hd (Int64.ofInt_toInt _).symm h
def jUshr (x y : Int) : Int := (((Int64.ofInt x).toUInt64 >>> ((Int32.ofInt y).toInt64.toUInt64 &&& Int64.toUInt64 63)).toInt64).toInt
theorem wq_lushr {M : nM} {pc : Nat} {L : List (Nat × nV)} {st : List nV} {μ : nMem} {ε : nEnv} {tb : List ExceptionTableEntry → Prop} {Fn : nG → Nat → Nat → List Frame → Array Value → State → State → Prop} {x y : Int} (hd : decode (mCode M) pc = .ok (.lushr, 1))  (k : wpF M (pc + 1) L (vJ (jUshr x y) :: st) μ ε tb Fn) : wpF M pc L (vI y :: vJ x :: st) μ ε tb Fn := by
  intro G hG z0 n0 p l e R s m args below meth c hC htb H locs ls hR hl hS hz hn
  obtain ⟨hx, -, hb, -⟩ := id hC
  have h := k G hG z0 n0 p l e R s m args below meth c hC htb H locs ls hR hl hS hz hn
  exact lv_lushr hx hb hd (Int64.ofInt_toInt _).symm h
theorem wq_i2l {M : nM} {pc : Nat} {L : List (Nat × nV)} {st : List nV} {μ : nMem} {ε : nEnv} {tb : List ExceptionTableEntry → Prop} {Fn : nG → Nat → Nat → List Frame → Array Value → State → State → Prop} {x : Int} (hd : decode (mCode M) pc = .ok (.i2l, 1)) (h0 : inR x) (k : wpF M (pc + 1) L (vJ x :: st) μ ε tb Fn) : wpF M pc L (vI x :: st) μ ε tb Fn := by
  intro G hG z0 n0 p l e R s m args below meth c hC htb H locs ls hR hl hS hz hn
  obtain ⟨hx, -, hb, -⟩ := id hC
  have h := k G hG z0 n0 p l e R s m args below meth c hC htb H locs ls hR hl hS hz hn
  exact lv_i2l hx hb hd (n_i2l h0) h
theorem wq_l2i {M : nM} {pc : Nat} {L : List (Nat × nV)} {st : List nV} {μ : nMem} {ε : nEnv} {tb : List ExceptionTableEntry → Prop} {Fn : nG → Nat → Nat → List Frame → Array Value → State → State → Prop} {x : Int} (hd : decode (mCode M) pc = .ok (.l2i, 1))  (k : wpF M (pc + 1) L (vI x :: st) μ ε tb Fn) : wpF M pc L (vJ x :: st) μ ε tb Fn := by
  intro G hG z0 n0 p l e R s m args below meth c hC htb H locs ls hR hl hS hz hn
  obtain ⟨hx, -, hb, -⟩ := id hC
  have h := k G hG z0 n0 p l e R s m args below meth c hC htb H locs ls hR hl hS hz hn
  exact lv_l2i hx hb hd (n_l2i x) h
def nCmp (x y : Int) : Int := if y < x then 1 else if x = y then 0 else -1
theorem nCmp_v {x y : Int} (hx : inL x) (hy : inL y) : lg_cmp (Int64.ofInt x) (Int64.ofInt y) = Int32.ofInt (nCmp x y) := by
  have e1 : (Int64.ofInt x > Int64.ofInt y) = (y < x) := by
    show (Int64.ofInt y < Int64.ofInt x) = _
    rw [Int64.lt_iff_toInt_lt, n_i64 hx, n_i64 hy]
  have e2 : (Int64.ofInt x = Int64.ofInt y) = (x = y) := by
    apply propext; constructor
    · intro h; have := congrArg Int64.toInt h; rwa [n_i64 hx, n_i64 hy] at this
    · intro h; rw [h]
  unfold lg_cmp nCmp
  simp only [e1, e2]
  split
  · rfl
  · split <;> rfl
theorem wq_lcmp {M : nM} {pc : Nat} {L : List (Nat × nV)} {st : List nV} {μ : nMem} {ε : nEnv} {tb : List ExceptionTableEntry → Prop} {Fn : nG → Nat → Nat → List Frame → Array Value → State → State → Prop} {x y : Int} (hd : decode (mCode M) pc = .ok (.lcmp, 1)) (h0 : inL x) (h1 : inL y) (k : wpF M (pc + 1) L (vI (nCmp x y) :: st) μ ε tb Fn) : wpF M pc L (vJ y :: vJ x :: st) μ ε tb Fn := by
  intro G hG z0 n0 p l e R s m args below meth c hC htb H locs ls hR hl hS hz hn
  obtain ⟨hx, -, hb, -⟩ := id hC
  have h := k G hG z0 n0 p l e R s m args below meth c hC htb H locs ls hR hl hS hz hn
  refine W.lcmp hx hb hd ?_
  rw [nCmp_v h0 h1]; exact h
theorem wq_iconst {M : nM} {pc : Nat} {L : List (Nat × nV)} {st : List nV} {μ : nMem} {ε : nEnv} {tb : List ExceptionTableEntry → Prop} {Fn : nG → Nat → Nat → List Frame → Array Value → State → State → Prop} {n : Int} (hd : decode (mCode M) pc = .ok (.iconst n, 1))  (k : wpF M (pc + 1) L (vI n :: st) μ ε tb Fn) : wpF M pc L (st) μ ε tb Fn := by
  intro G hG z0 n0 p l e R s m args below meth c hC htb H locs ls hR hl hS hz hn
  obtain ⟨hx, -, hb, -⟩ := id hC
  have h := k G hG z0 n0 p l e R s m args below meth c hC htb H locs ls hR hl hS hz hn
  exact lv_iconst hx hb hd rfl h
theorem wq_bipush {M : nM} {pc : Nat} {L : List (Nat × nV)} {st : List nV} {μ : nMem} {ε : nEnv} {tb : List ExceptionTableEntry → Prop} {Fn : nG → Nat → Nat → List Frame → Array Value → State → State → Prop} {n : Int} (hd : decode (mCode M) pc = .ok (.bipush n, 2)) (h1 : -128 ≤ n) (h2 : n ≤ 127) (k : wpF M (pc + 2) L (vI n :: st) μ ε tb Fn) : wpF M pc L (st) μ ε tb Fn := by
  intro G hG z0 n0 p l e R s m args below meth c hC htb H locs ls hR hl hS hz hn
  obtain ⟨hx, -, hb, -⟩ := id hC
  have h := k G hG z0 n0 p l e R s m args below meth c hC htb H locs ls hR hl hS hz hn
  exact lv_bipush hx hb hd (n_bi n h1 h2) h
theorem wq_sipush {M : nM} {pc : Nat} {L : List (Nat × nV)} {st : List nV} {μ : nMem} {ε : nEnv} {tb : List ExceptionTableEntry → Prop} {Fn : nG → Nat → Nat → List Frame → Array Value → State → State → Prop} {n : Int} (hd : decode (mCode M) pc = .ok (.sipush n, 3)) (h1 : -32768 ≤ n) (h2 : n ≤ 32767) (k : wpF M (pc + 3) L (vI n :: st) μ ε tb Fn) : wpF M pc L (st) μ ε tb Fn := by
  intro G hG z0 n0 p l e R s m args below meth c hC htb H locs ls hR hl hS hz hn
  obtain ⟨hx, -, hb, -⟩ := id hC
  have h := k G hG z0 n0 p l e R s m args below meth c hC htb H locs ls hR hl hS hz hn
  exact lv_sipush hx hb hd (n_si n h1 h2) h
theorem wq_lconst {M : nM} {pc : Nat} {L : List (Nat × nV)} {st : List nV} {μ : nMem} {ε : nEnv} {tb : List ExceptionTableEntry → Prop} {Fn : nG → Nat → Nat → List Frame → Array Value → State → State → Prop} {n : Fin 2} {v : Int} (hd : decode (mCode M) pc = .ok (.lconst n, 1)) (hv : ((n : Nat) : Int) = v) (k : wpF M (pc + 1) L (vJ v :: st) μ ε tb Fn) : wpF M pc L (st) μ ε tb Fn := by
  intro G hG z0 n0 p l e R s m args below meth c hC htb H locs ls hR hl hS hz hn
  obtain ⟨hx, -, hb, -⟩ := id hC
  have h := k G hG z0 n0 p l e R s m args below meth c hC htb H locs ls hR hl hS hz hn
  exact lv_lconst hx hb hd (by rw [← hv]; rfl) h
theorem wq_null {M : nM} {pc : Nat} {L : List (Nat × nV)} {st : List nV} {μ : nMem} {ε : nEnv} {tb : List ExceptionTableEntry → Prop} {Fn : nG → Nat → Nat → List Frame → Array Value → State → State → Prop}  (hd : decode (mCode M) pc = .ok (.aconst_null, 1))  (k : wpF M (pc + 1) L (vR 0 :: st) μ ε tb Fn) : wpF M pc L (st) μ ε tb Fn := by
  intro G hG z0 n0 p l e R s m args below meth c hC htb H locs ls hR hl hS hz hn
  obtain ⟨hx, -, hb, -⟩ := id hC
  have h := k G hG z0 n0 p l e R s m args below meth c hC htb H locs ls hR hl hS hz hn
  exact lv_null hx hb hd h
theorem n_wd {G : nG} {M : nM} {z0 n0 : Nat} {p : Program} {l : Launch} {R : Room} {s : State} {m : MethodId} {meth : Method} {c : Code} (hG : GOK G) (hC : nCx G M z0 n0 p l R s m meth c) {w : Cond} (hw : wOK w) (a : Array Value) : w.before a s = true := by
  obtain ⟨-, -, -, -, -, -, -, -, hW, -⟩ := hC
  obtain ⟨-, -, -, h4, -⟩ := hG
  exact word_at hW (good_of_word hw.2) (h4 w hw.1)
theorem wq_ldc {M : nM} {pc : Nat} {L : List (Nat × nV)} {st : List nV} {μ : nMem} {ε : nEnv} {tb : List ExceptionTableEntry → Prop} {Fn : nG → Nat → Nat → List Frame → Array Value → State → State → Prop} {i : Nat} {v : Int} (hd : decode (mCode M) pc = .ok (.ldc i, 2)) (hw : wOK (.constant (mOwn M) i (Int32.ofInt v))) (k : wpF M (pc + 2) L (vI v :: st) μ ε tb Fn) : wpF M pc L (st) μ ε tb Fn := by
  intro G hG z0 n0 p l e R s m args below meth c hC htb H locs ls hR hl hS hz hn
  obtain ⟨hx, -, hb, -⟩ := id hC
  have h := k G hG z0 n0 p l e R s m args below meth c hC htb H locs ls hR hl hS hz hn
  obtain ⟨-, -, -, -, -, -, ho, -⟩ := id hC
  exact lv_ldc hx hb ho (n_wd hG hC hw args) hd h
theorem wq_ldcw {M : nM} {pc : Nat} {L : List (Nat × nV)} {st : List nV} {μ : nMem} {ε : nEnv} {tb : List ExceptionTableEntry → Prop} {Fn : nG → Nat → Nat → List Frame → Array Value → State → State → Prop} {i : Nat} {v : Int} (hd : decode (mCode M) pc = .ok (.ldc_w i, 3)) (hw : wOK (.constant (mOwn M) i (Int32.ofInt v))) (k : wpF M (pc + 3) L (vI v :: st) μ ε tb Fn) : wpF M pc L (st) μ ε tb Fn := by
  intro G hG z0 n0 p l e R s m args below meth c hC htb H locs ls hR hl hS hz hn
  obtain ⟨hx, -, hb, -⟩ := id hC
  have h := k G hG z0 n0 p l e R s m args below meth c hC htb H locs ls hR hl hS hz hn
  obtain ⟨-, -, -, -, -, -, ho, -⟩ := id hC
  exact lv_ldcw hx hb ho (n_wd hG hC hw args) hd h
theorem wq_ldc2 {M : nM} {pc : Nat} {L : List (Nat × nV)} {st : List nV} {μ : nMem} {ε : nEnv} {tb : List ExceptionTableEntry → Prop} {Fn : nG → Nat → Nat → List Frame → Array Value → State → State → Prop} {i : Nat} {v : Int} (hd : decode (mCode M) pc = .ok (.ldc2_w i, 3)) (hw : wOK (.constantLong (mOwn M) i (Int64.ofInt v))) (k : wpF M (pc + 3) L (vJ v :: st) μ ε tb Fn) : wpF M pc L (st) μ ε tb Fn := by
  intro G hG z0 n0 p l e R s m args below meth c hC htb H locs ls hR hl hS hz hn
  obtain ⟨hx, -, hb, -⟩ := id hC
  have h := k G hG z0 n0 p l e R s m args below meth c hC htb H locs ls hR hl hS hz hn
  obtain ⟨-, -, -, -, -, -, ho, -⟩ := id hC
  exact lv_ldc2 hx hb ho (n_wd hG hC hw args) hd h
theorem toV_cat (G : nG) (v : nV) : (toV G v).category = nCat v := by
  rcases v with x | x | x
  · rfl
  · rfl
  · show (va_rf (nRf G x)).category = 1
    cases nRf G x <;> rfl
theorem wq_dup {M : nM} {pc : Nat} {L : List (Nat × nV)} {st : List nV} {μ : nMem} {ε : nEnv} {tb : List ExceptionTableEntry → Prop} {Fn : nG → Nat → Nat → List Frame → Array Value → State → State → Prop} {v : nV} (hd : decode (mCode M) pc = .ok (.dup, 1)) (h0 : nCat v = 1) (k : wpF M (pc + 1) L (v :: v :: st) μ ε tb Fn) : wpF M pc L (v :: st) μ ε tb Fn := by
  intro G hG z0 n0 p l e R s m args below meth c hC htb H locs ls hR hl hS hz hn
  obtain ⟨hx, -, hb, -⟩ := id hC
  have h := k G hG z0 n0 p l e R s m args below meth c hC htb H locs ls hR hl hS hz hn
  exact lv_dup hx hb hd ((toV_cat G v).trans h0) h
theorem wq_pop {M : nM} {pc : Nat} {L : List (Nat × nV)} {st : List nV} {μ : nMem} {ε : nEnv} {tb : List ExceptionTableEntry → Prop} {Fn : nG → Nat → Nat → List Frame → Array Value → State → State → Prop} {v : nV} (hd : decode (mCode M) pc = .ok (.pop, 1)) (h0 : nCat v = 1) (k : wpF M (pc + 1) L (st) μ ε tb Fn) : wpF M pc L (v :: st) μ ε tb Fn := by
  intro G hG z0 n0 p l e R s m args below meth c hC htb H locs ls hR hl hS hz hn
  obtain ⟨hx, -, hb, -⟩ := id hC
  have h := k G hG z0 n0 p l e R s m args below meth c hC htb H locs ls hR hl hS hz hn
  exact lv_pop hx hb hd ((toV_cat G v).trans h0) h
theorem wq_dup2 {M : nM} {pc : Nat} {L : List (Nat × nV)} {st : List nV} {μ : nMem} {ε : nEnv} {tb : List ExceptionTableEntry → Prop} {Fn : nG → Nat → Nat → List Frame → Array Value → State → State → Prop} {v w : nV} (hd : decode (mCode M) pc = .ok (.dup2, 1)) (h0 : nCat v = 1) (h1 : nCat w = 1) (k : wpF M (pc + 1) L (v :: w :: v :: w :: st) μ ε tb Fn) : wpF M pc L (v :: w :: st) μ ε tb Fn := by
  intro G hG z0 n0 p l e R s m args below meth c hC htb H locs ls hR hl hS hz hn
  obtain ⟨hx, -, hb, -⟩ := id hC
  have h := k G hG z0 n0 p l e R s m args below meth c hC htb H locs ls hR hl hS hz hn
  exact lv_dup2_11 hx hb hd ((toV_cat G v).trans h0) ((toV_cat G w).trans h1) h
def nGet : List (Nat × nV) → Nat → Option nV
  | [], _ => none
  | q :: r, i => cond (Nat.beq q.1 i) (some q.2) (nGet r i)
theorem nGet_mem {L : List (Nat × nV)} {i : Nat} {v : nV} (h : nGet L i = some v) : (i, v) ∈ L := by
  induction L with
  | nil => cases h
  | cons q r ih =>
    unfold nGet at h
    cases e : Nat.beq q.1 i with
    | true =>
      rw [e] at h
      have e1 : q.1 = i := Nat.eq_of_beq_eq_true e
      cases h
      rw [← e1]; exact List.mem_cons_self
    | false =>
      rw [e] at h
      exact List.mem_cons_of_mem _ (ih h)
theorem nGet_at {G : nG} {L : List (Nat × nV)} {i n : Nat} {v : nV} {ls : Array Slot} (hl : lv_has ls n (nLv G L)) (h : nGet L i = some v) : ls[i]? = some (.val (toV G v)) :=
  hl.2.2 (i, toV G v) (List.mem_map.mpr ⟨(i, v), nGet_mem h, rfl⟩)
def nSet (L : List (Nat × nV)) (i : Nat) (v : nV) : List (Nat × nV) := (i, v) :: L.filter (fun q => !(q.1 == i) && !(q.1 + 1 == i && nCat q.2 == 2))
def nSetJ (L : List (Nat × nV)) (i : Nat) (v : nV) : List (Nat × nV) := (i, v) :: L.filter (fun q => !(q.1 == i) && (!(q.1 == i + 1) && !(q.1 + 1 == i && nCat q.2 == 2)))
theorem nSet_v {G : nG} {L : List (Nat × nV)} {i : Nat} {v : nV} : (i, toV G v) :: (nLv G L).filter (fun q => !(q.1 == i) && !(q.1 + 1 == i && q.2.category == 2)) = nLv G (nSet L i v) := by
  unfold nSet nLv
  rw [List.map_cons, List.filter_map]
  congr 2
  apply List.filter_congr
  intro q _
  simp only [Function.comp, toV_cat]
theorem nSetJ_v {G : nG} {L : List (Nat × nV)} {i : Nat} {v : nV} : (i, toV G v) :: (nLv G L).filter (fun q => !(q.1 == i) && (!(q.1 == i + 1) && !(q.1 + 1 == i && q.2.category == 2))) = nLv G (nSetJ L i v) := by
  unfold nSetJ nLv
  rw [List.map_cons, List.filter_map]
  congr 2
  apply List.filter_congr
  intro q _
  simp only [Function.comp, toV_cat]
theorem wq_iload_n {M : nM} {pc : Nat} {L : List (Nat × nV)} {st : List nV} {μ : nMem} {ε : nEnv} {tb : List ExceptionTableEntry → Prop} {Fn : nG → Nat → Nat → List Frame → Array Value → State → State → Prop} {j : Fin 4} {i : Nat} {x : Int} (hd : decode (mCode M) pc = .ok (.iload_n j, 1)) (hi : (j : Nat) = i) (h0 : nGet L i = some (vI x)) (k : wpF M (pc + 1) L (vI x :: st) μ ε tb Fn) : wpF M pc L (st) μ ε tb Fn := by
  intro G hG z0 n0 p l e R s m args below meth c hC htb H locs ls hR hl hS hz hn
  obtain ⟨hx, -, hb, -⟩ := id hC
  have h := k G hG z0 n0 p l e R s m args below meth c hC htb H locs ls hR hl hS hz hn
  exact lv_iload_n hx hb hd hi (nGet_at hl h0) h
theorem wq_iload {M : nM} {pc : Nat} {L : List (Nat × nV)} {st : List nV} {μ : nMem} {ε : nEnv} {tb : List ExceptionTableEntry → Prop} {Fn : nG → Nat → Nat → List Frame → Array Value → State → State → Prop} {i : Nat} {x : Int} (hd : decode (mCode M) pc = .ok (.iload i, 2)) (h0 : nGet L i = some (vI x)) (k : wpF M (pc + 2) L (vI x :: st) μ ε tb Fn) : wpF M pc L (st) μ ε tb Fn := by
  intro G hG z0 n0 p l e R s m args below meth c hC htb H locs ls hR hl hS hz hn
  obtain ⟨hx, -, hb, -⟩ := id hC
  have h := k G hG z0 n0 p l e R s m args below meth c hC htb H locs ls hR hl hS hz hn
  exact lv_iload hx hb hd (nGet_at hl h0) h
theorem wq_lload_n {M : nM} {pc : Nat} {L : List (Nat × nV)} {st : List nV} {μ : nMem} {ε : nEnv} {tb : List ExceptionTableEntry → Prop} {Fn : nG → Nat → Nat → List Frame → Array Value → State → State → Prop} {j : Fin 4} {i : Nat} {x : Int} (hd : decode (mCode M) pc = .ok (.lload_n j, 1)) (hi : (j : Nat) = i) (h0 : nGet L i = some (vJ x)) (k : wpF M (pc + 1) L (vJ x :: st) μ ε tb Fn) : wpF M pc L (st) μ ε tb Fn := by
  intro G hG z0 n0 p l e R s m args below meth c hC htb H locs ls hR hl hS hz hn
  obtain ⟨hx, -, hb, -⟩ := id hC
  have h := k G hG z0 n0 p l e R s m args below meth c hC htb H locs ls hR hl hS hz hn
  exact lv_lload_n hx hb hd hi (nGet_at hl h0) h
theorem wq_lload {M : nM} {pc : Nat} {L : List (Nat × nV)} {st : List nV} {μ : nMem} {ε : nEnv} {tb : List ExceptionTableEntry → Prop} {Fn : nG → Nat → Nat → List Frame → Array Value → State → State → Prop} {i : Nat} {x : Int} (hd : decode (mCode M) pc = .ok (.lload i, 2)) (h0 : nGet L i = some (vJ x)) (k : wpF M (pc + 2) L (vJ x :: st) μ ε tb Fn) : wpF M pc L (st) μ ε tb Fn := by
  intro G hG z0 n0 p l e R s m args below meth c hC htb H locs ls hR hl hS hz hn
  obtain ⟨hx, -, hb, -⟩ := id hC
  have h := k G hG z0 n0 p l e R s m args below meth c hC htb H locs ls hR hl hS hz hn
  exact lv_lload hx hb hd (nGet_at hl h0) h
theorem wq_aload_n {M : nM} {pc : Nat} {L : List (Nat × nV)} {st : List nV} {μ : nMem} {ε : nEnv} {tb : List ExceptionTableEntry → Prop} {Fn : nG → Nat → Nat → List Frame → Array Value → State → State → Prop} {j : Fin 4} {i : Nat} {x : Int} (hd : decode (mCode M) pc = .ok (.aload_n j, 1)) (hi : (j : Nat) = i) (h0 : nGet L i = some (vR x)) (k : wpF M (pc + 1) L (vR x :: st) μ ε tb Fn) : wpF M pc L (st) μ ε tb Fn := by
  intro G hG z0 n0 p l e R s m args below meth c hC htb H locs ls hR hl hS hz hn
  obtain ⟨hx, -, hb, -⟩ := id hC
  have h := k G hG z0 n0 p l e R s m args below meth c hC htb H locs ls hR hl hS hz hn
  have h1 := nGet_at hl h0
  have e9 : ∀ o : Option Nat, nRf G x = o → ls[i]? = some (.val (va_rf o)) := fun o ho => by rw [← ho]; exact h1
  have h2 : ∀ o : Option Nat, nRf G x = o → W p l e R s m args below meth c H locs (eSz ε - z0) (eSl ε - n0) (Fn G z0 n0 below args s) (F0 m (pc + 1) ls (va_rf o :: st.map (toV G))) := fun o ho => by rw [← ho]; exact h
  cases ho : nRf G x with
  | none => exact lv_aload_nN hx hb hd hi (e9 _ ho) (h2 _ ho)
  | some q => exact lv_aload_n hx hb hd hi (e9 _ ho) (h2 _ ho)
theorem wq_aload {M : nM} {pc : Nat} {L : List (Nat × nV)} {st : List nV} {μ : nMem} {ε : nEnv} {tb : List ExceptionTableEntry → Prop} {Fn : nG → Nat → Nat → List Frame → Array Value → State → State → Prop} {i : Nat} {x : Int} (hd : decode (mCode M) pc = .ok (.aload i, 2)) (h0 : nGet L i = some (vR x)) (k : wpF M (pc + 2) L (vR x :: st) μ ε tb Fn) : wpF M pc L (st) μ ε tb Fn := by
  intro G hG z0 n0 p l e R s m args below meth c hC htb H locs ls hR hl hS hz hn
  obtain ⟨hx, -, hb, -⟩ := id hC
  have h := k G hG z0 n0 p l e R s m args below meth c hC htb H locs ls hR hl hS hz hn
  have h1 := nGet_at hl h0
  have e9 : ∀ o : Option Nat, nRf G x = o → ls[i]? = some (.val (va_rf o)) := fun o ho => by rw [← ho]; exact h1
  have h2 : ∀ o : Option Nat, nRf G x = o → W p l e R s m args below meth c H locs (eSz ε - z0) (eSl ε - n0) (Fn G z0 n0 below args s) (F0 m (pc + 2) ls (va_rf o :: st.map (toV G))) := fun o ho => by rw [← ho]; exact h
  cases ho : nRf G x with
  | none => exact lv_aloadN hx hb hd (e9 _ ho) (h2 _ ho)
  | some q => exact lv_aload hx hb hd (e9 _ ho) (h2 _ ho)
theorem wq_istore_n {M : nM} {pc : Nat} {L : List (Nat × nV)} {st : List nV} {μ : nMem} {ε : nEnv} {tb : List ExceptionTableEntry → Prop} {Fn : nG → Nat → Nat → List Frame → Array Value → State → State → Prop} {L' : List (Nat × nV)} {j : Fin 4} {i : Nat} {x : Int} (hd : decode (mCode M) pc = .ok (.istore_n j, 1)) (hi : (j : Nat) = i) (hL : nSet L i (vI x) = L') (hi2 : i < mMax M) (k : wpF M (pc + 1) L' st μ ε tb Fn) : wpF M pc L (vI x :: st) μ ε tb Fn := by
  intro G hG z0 n0 p l e R s m args below meth c hC htb H locs ls hR hl hS hz hn
  obtain ⟨hx, -, hb, -⟩ := id hC
  exact lv_istore_n hx hb hd hi hl hi2 (nSet_v (v := vI x)) (fun ls' hl' => k G hG z0 n0 p l e R s m args below meth c hC htb H locs ls' hR (hL ▸ hl') hS hz hn)
theorem wq_lstore_n {M : nM} {pc : Nat} {L : List (Nat × nV)} {st : List nV} {μ : nMem} {ε : nEnv} {tb : List ExceptionTableEntry → Prop} {Fn : nG → Nat → Nat → List Frame → Array Value → State → State → Prop} {L' : List (Nat × nV)} {j : Fin 4} {i : Nat} {x : Int} (hd : decode (mCode M) pc = .ok (.lstore_n j, 1)) (hi : (j : Nat) = i) (hL : nSetJ L i (vJ x) = L') (hi2 : i + 1 < mMax M) (k : wpF M (pc + 1) L' st μ ε tb Fn) : wpF M pc L (vJ x :: st) μ ε tb Fn := by
  intro G hG z0 n0 p l e R s m args below meth c hC htb H locs ls hR hl hS hz hn
  obtain ⟨hx, -, hb, -⟩ := id hC
  exact lv_lstore_n hx hb hd hi hl hi2 (nSetJ_v (v := vJ x)) (fun ls' hl' => k G hG z0 n0 p l e R s m args below meth c hC htb H locs ls' hR (hL ▸ hl') hS hz hn)
theorem wq_astore_n {M : nM} {pc : Nat} {L : List (Nat × nV)} {st : List nV} {μ : nMem} {ε : nEnv} {tb : List ExceptionTableEntry → Prop} {Fn : nG → Nat → Nat → List Frame → Array Value → State → State → Prop} {L' : List (Nat × nV)} {j : Fin 4} {i : Nat} {x : Int} (hd : decode (mCode M) pc = .ok (.astore_n j, 1)) (hi : (j : Nat) = i) (hL : nSet L i (vR x) = L') (hi2 : i < mMax M) (k : wpF M (pc + 1) L' st μ ε tb Fn) : wpF M pc L (vR x :: st) μ ε tb Fn := by
  intro G hG z0 n0 p l e R s m args below meth c hC htb H locs ls hR hl hS hz hn
  obtain ⟨hx, -, hb, -⟩ := id hC
  have h := fun ls' (hl' : lv_has ls' (mMax M) (nLv G (nSet L i (vR x)))) => k G hG z0 n0 p l e R s m args below meth c hC htb H locs ls' hR (hL ▸ hl') hS hz hn
  have hv : (i, va_rf (nRf G x)) :: (nLv G L).filter (fun q => !(q.1 == i) && !(q.1 + 1 == i && q.2.category == 2)) = nLv G (nSet L i (vR x)) := nSet_v (v := vR x)
  show W p l e R s m args below meth c H locs (eSz ε - z0) (eSl ε - n0) (Fn G z0 n0 below args s) (F0 m pc ls (va_rf (nRf G x) :: st.map (toV G)))
  revert hv
  cases nRf G x with
  | none => intro hv; exact lv_astore_nN hx hb hd hi hl hi2 hv h
  | some q => intro hv; exact lv_astore_n hx hb hd hi hl hi2 hv h
theorem wq_istore {M : nM} {pc : Nat} {L : List (Nat × nV)} {st : List nV} {μ : nMem} {ε : nEnv} {tb : List ExceptionTableEntry → Prop} {Fn : nG → Nat → Nat → List Frame → Array Value → State → State → Prop} {L' : List (Nat × nV)} {i : Nat} {x : Int} (hd : decode (mCode M) pc = .ok (.istore i, 2))  (hL : nSet L i (vI x) = L') (hi2 : i < mMax M) (k : wpF M (pc + 2) L' st μ ε tb Fn) : wpF M pc L (vI x :: st) μ ε tb Fn := by
  intro G hG z0 n0 p l e R s m args below meth c hC htb H locs ls hR hl hS hz hn
  obtain ⟨hx, -, hb, -⟩ := id hC
  exact lv_istore hx hb hd hl hi2 (nSet_v (v := vI x)) (fun ls' hl' => k G hG z0 n0 p l e R s m args below meth c hC htb H locs ls' hR (hL ▸ hl') hS hz hn)
theorem wq_lstore {M : nM} {pc : Nat} {L : List (Nat × nV)} {st : List nV} {μ : nMem} {ε : nEnv} {tb : List ExceptionTableEntry → Prop} {Fn : nG → Nat → Nat → List Frame → Array Value → State → State → Prop} {L' : List (Nat × nV)} {i : Nat} {x : Int} (hd : decode (mCode M) pc = .ok (.lstore i, 2))  (hL : nSetJ L i (vJ x) = L') (hi2 : i + 1 < mMax M) (k : wpF M (pc + 2) L' st μ ε tb Fn) : wpF M pc L (vJ x :: st) μ ε tb Fn := by
  intro G hG z0 n0 p l e R s m args below meth c hC htb H locs ls hR hl hS hz hn
  obtain ⟨hx, -, hb, -⟩ := id hC
  exact lv_lstore hx hb hd hl hi2 (nSetJ_v (v := vJ x)) (fun ls' hl' => k G hG z0 n0 p l e R s m args below meth c hC htb H locs ls' hR (hL ▸ hl') hS hz hn)
theorem wq_astore {M : nM} {pc : Nat} {L : List (Nat × nV)} {st : List nV} {μ : nMem} {ε : nEnv} {tb : List ExceptionTableEntry → Prop} {Fn : nG → Nat → Nat → List Frame → Array Value → State → State → Prop} {L' : List (Nat × nV)} {i : Nat} {x : Int} (hd : decode (mCode M) pc = .ok (.astore i, 2))  (hL : nSet L i (vR x) = L') (hi2 : i < mMax M) (k : wpF M (pc + 2) L' st μ ε tb Fn) : wpF M pc L (vR x :: st) μ ε tb Fn := by
  intro G hG z0 n0 p l e R s m args below meth c hC htb H locs ls hR hl hS hz hn
  obtain ⟨hx, -, hb, -⟩ := id hC
  have h := fun ls' (hl' : lv_has ls' (mMax M) (nLv G (nSet L i (vR x)))) => k G hG z0 n0 p l e R s m args below meth c hC htb H locs ls' hR (hL ▸ hl') hS hz hn
  have hv : (i, va_rf (nRf G x)) :: (nLv G L).filter (fun q => !(q.1 == i) && !(q.1 + 1 == i && q.2.category == 2)) = nLv G (nSet L i (vR x)) := nSet_v (v := vR x)
  show W p l e R s m args below meth c H locs (eSz ε - z0) (eSl ε - n0) (Fn G z0 n0 below args s) (F0 m pc ls (va_rf (nRf G x) :: st.map (toV G)))
  revert hv
  cases nRf G x with
  | none => intro hv; exact lv_astoreN hx hb hd hl hi2 hv h
  | some q => intro hv; exact lv_astore hx hb hd hl hi2 hv h
theorem wq_iinc {M : nM} {pc : Nat} {L : List (Nat × nV)} {st : List nV} {μ : nMem} {ε : nEnv} {tb : List ExceptionTableEntry → Prop} {Fn : nG → Nat → Nat → List Frame → Array Value → State → State → Prop} {L' : List (Nat × nV)} {i : Nat} {n x : Int} (hd : decode (mCode M) pc = .ok (.iinc i n, 3)) (h0 : nGet L i = some (vI x)) (hL : nSet L i (vI (x + n)) = L') (hi2 : i < mMax M) (k : wpF M (pc + 3) L' st μ ε tb Fn) : wpF M pc L st μ ε tb Fn := by
  intro G hG z0 n0 p l e R s m args below meth c hC htb H locs ls hR hl hS hz hn
  obtain ⟨hx, -, hb, -⟩ := id hC
  obtain ⟨kk, hk⟩ := List.getElem?_of_mem (List.mem_map.mpr ⟨(i, vI x), nGet_mem h0, rfl⟩ : (i, toV G (vI x)) ∈ nLv G L)
  exact lv_iinc hx hb hd hl hk (n_add x n) hi2 (nSet_v (v := vI (x + n))) (fun ls' hl' => k G hG z0 n0 p l e R s m args below meth c hC htb H locs ls' hR (hL ▸ hl') hS hz hn)
theorem wq_sub {M : nM} {pc : Nat} {L : List (Nat × nV)} {st : List nV} {μ : nMem} {ε : nEnv} {tb : List ExceptionTableEntry → Prop} {Fn : nG → Nat → Nat → List Frame → Array Value → State → State → Prop} {L' : List (Nat × nV)} (h0 : ∀ q ∈ L', nGet L q.1 = some q.2) (k : wpF M pc L' st μ ε tb Fn) : wpF M pc L st μ ε tb Fn := by
  intro G hG z0 n0 p l e R s m args below meth c hC htb H locs ls hR hl hS hz hn
  refine k G hG z0 n0 p l e R s m args below meth c hC htb H locs ls hR ⟨hl.1, hl.2.1, fun q hq => ?_⟩ hS hz hn
  obtain ⟨r, hr, rfl⟩ := List.mem_map.mp hq
  exact nGet_at hl (h0 r hr)
theorem wq_goto {M : nM} {pc : Nat} {L : List (Nat × nV)} {st : List nV} {μ : nMem} {ε : nEnv} {tb : List ExceptionTableEntry → Prop} {Fn : nG → Nat → Nat → List Frame → Array Value → State → State → Prop} {off : Int} {tgt : Nat} (hd : decode (mCode M) pc = .ok (.goto off, 3)) (ht : (pc : Int) + off = (tgt : Int)) (k : wpF M tgt L st μ ε tb Fn) : wpF M pc L st μ ε tb Fn := by
  intro G hG z0 n0 p l e R s m args below meth c hC htb H locs ls hR hl hS hz hn
  obtain ⟨hx, -, hb, -⟩ := id hC
  exact lv_goto hx hb hd ht (k G hG z0 n0 p l e R s m args below meth c hC htb H locs ls hR hl hS hz hn)
theorem wq_icmp_eq {M : nM} {pc : Nat} {L : List (Nat × nV)} {st : List nV} {μ : nMem} {ε : nEnv} {tb : List ExceptionTableEntry → Prop} {Fn : nG → Nat → Nat → List Frame → Array Value → State → State → Prop} {off : Int} {tgt : Nat} {x y : Int} (hd : decode (mCode M) pc = .ok (.if_icmp .eq off, 3)) (ht : (pc : Int) + off = (tgt : Int)) (h0 : inR x) (h1 : inR y) (kt : x = y → wpF M tgt L st μ ε tb Fn) (kf : ¬ (x = y) → wpF M (pc + 3) L st μ ε tb Fn) : wpF M pc L (vI y :: vI x :: st) μ ε tb Fn := by
  intro G hG z0 n0 p l e R s m args below meth c hC htb H locs ls hR hl hS hz hn
  obtain ⟨hx, -, hb, -⟩ := id hC
  exact lv_icmp_eq hx hb hd ht (fun q => kt ((n_eq h0 h1).mp q) G hG z0 n0 p l e R s m args below meth c hC htb H locs ls hR hl hS hz hn) (fun q => kf (fun q2 => q ((n_eq h0 h1).mpr q2)) G hG z0 n0 p l e R s m args below meth c hC htb H locs ls hR hl hS hz hn)
theorem wq_icmp_ne {M : nM} {pc : Nat} {L : List (Nat × nV)} {st : List nV} {μ : nMem} {ε : nEnv} {tb : List ExceptionTableEntry → Prop} {Fn : nG → Nat → Nat → List Frame → Array Value → State → State → Prop} {off : Int} {tgt : Nat} {x y : Int} (hd : decode (mCode M) pc = .ok (.if_icmp .ne off, 3)) (ht : (pc : Int) + off = (tgt : Int)) (h0 : inR x) (h1 : inR y) (kt : ¬ x = y → wpF M tgt L st μ ε tb Fn) (kf : x = y → wpF M (pc + 3) L st μ ε tb Fn) : wpF M pc L (vI y :: vI x :: st) μ ε tb Fn := by
  intro G hG z0 n0 p l e R s m args below meth c hC htb H locs ls hR hl hS hz hn
  obtain ⟨hx, -, hb, -⟩ := id hC
  exact lv_icmp_ne hx hb hd ht (fun q => kt (fun q2 => q ((n_eq h0 h1).mpr q2)) G hG z0 n0 p l e R s m args below meth c hC htb H locs ls hR hl hS hz hn) (fun q => kf ((n_eq h0 h1).mp q) G hG z0 n0 p l e R s m args below meth c hC htb H locs ls hR hl hS hz hn)
theorem wq_icmp_lt {M : nM} {pc : Nat} {L : List (Nat × nV)} {st : List nV} {μ : nMem} {ε : nEnv} {tb : List ExceptionTableEntry → Prop} {Fn : nG → Nat → Nat → List Frame → Array Value → State → State → Prop} {off : Int} {tgt : Nat} {x y : Int} (hd : decode (mCode M) pc = .ok (.if_icmp .lt off, 3)) (ht : (pc : Int) + off = (tgt : Int)) (h0 : inR x) (h1 : inR y) (kt : x < y → wpF M tgt L st μ ε tb Fn) (kf : ¬ (x < y) → wpF M (pc + 3) L st μ ε tb Fn) : wpF M pc L (vI y :: vI x :: st) μ ε tb Fn := by
  intro G hG z0 n0 p l e R s m args below meth c hC htb H locs ls hR hl hS hz hn
  obtain ⟨hx, -, hb, -⟩ := id hC
  exact lv_icmp_lt hx hb hd ht (fun q => kt ((n_lt h0 h1).mp q) G hG z0 n0 p l e R s m args below meth c hC htb H locs ls hR hl hS hz hn) (fun q => kf (fun q2 => q ((n_lt h0 h1).mpr q2)) G hG z0 n0 p l e R s m args below meth c hC htb H locs ls hR hl hS hz hn)
theorem wq_icmp_ge {M : nM} {pc : Nat} {L : List (Nat × nV)} {st : List nV} {μ : nMem} {ε : nEnv} {tb : List ExceptionTableEntry → Prop} {Fn : nG → Nat → Nat → List Frame → Array Value → State → State → Prop} {off : Int} {tgt : Nat} {x y : Int} (hd : decode (mCode M) pc = .ok (.if_icmp .ge off, 3)) (ht : (pc : Int) + off = (tgt : Int)) (h0 : inR x) (h1 : inR y) (kt : y ≤ x → wpF M tgt L st μ ε tb Fn) (kf : ¬ (y ≤ x) → wpF M (pc + 3) L st μ ε tb Fn) : wpF M pc L (vI y :: vI x :: st) μ ε tb Fn := by
  intro G hG z0 n0 p l e R s m args below meth c hC htb H locs ls hR hl hS hz hn
  obtain ⟨hx, -, hb, -⟩ := id hC
  exact lv_icmp_ge hx hb hd ht (fun q => kt ((n_le h1 h0).mp q) G hG z0 n0 p l e R s m args below meth c hC htb H locs ls hR hl hS hz hn) (fun q => kf (fun q2 => q ((n_le h1 h0).mpr q2)) G hG z0 n0 p l e R s m args below meth c hC htb H locs ls hR hl hS hz hn)
theorem wq_icmp_gt {M : nM} {pc : Nat} {L : List (Nat × nV)} {st : List nV} {μ : nMem} {ε : nEnv} {tb : List ExceptionTableEntry → Prop} {Fn : nG → Nat → Nat → List Frame → Array Value → State → State → Prop} {off : Int} {tgt : Nat} {x y : Int} (hd : decode (mCode M) pc = .ok (.if_icmp .gt off, 3)) (ht : (pc : Int) + off = (tgt : Int)) (h0 : inR x) (h1 : inR y) (kt : y < x → wpF M tgt L st μ ε tb Fn) (kf : ¬ (y < x) → wpF M (pc + 3) L st μ ε tb Fn) : wpF M pc L (vI y :: vI x :: st) μ ε tb Fn := by
  intro G hG z0 n0 p l e R s m args below meth c hC htb H locs ls hR hl hS hz hn
  obtain ⟨hx, -, hb, -⟩ := id hC
  exact lv_icmp_gt hx hb hd ht (fun q => kt ((n_lt h1 h0).mp q) G hG z0 n0 p l e R s m args below meth c hC htb H locs ls hR hl hS hz hn) (fun q => kf (fun q2 => q ((n_lt h1 h0).mpr q2)) G hG z0 n0 p l e R s m args below meth c hC htb H locs ls hR hl hS hz hn)
theorem wq_icmp_le {M : nM} {pc : Nat} {L : List (Nat × nV)} {st : List nV} {μ : nMem} {ε : nEnv} {tb : List ExceptionTableEntry → Prop} {Fn : nG → Nat → Nat → List Frame → Array Value → State → State → Prop} {off : Int} {tgt : Nat} {x y : Int} (hd : decode (mCode M) pc = .ok (.if_icmp .le off, 3)) (ht : (pc : Int) + off = (tgt : Int)) (h0 : inR x) (h1 : inR y) (kt : x ≤ y → wpF M tgt L st μ ε tb Fn) (kf : ¬ (x ≤ y) → wpF M (pc + 3) L st μ ε tb Fn) : wpF M pc L (vI y :: vI x :: st) μ ε tb Fn := by
  intro G hG z0 n0 p l e R s m args below meth c hC htb H locs ls hR hl hS hz hn
  obtain ⟨hx, -, hb, -⟩ := id hC
  exact lv_icmp_le hx hb hd ht (fun q => kt ((n_le h0 h1).mp q) G hG z0 n0 p l e R s m args below meth c hC htb H locs ls hR hl hS hz hn) (fun q => kf (fun q2 => q ((n_le h0 h1).mpr q2)) G hG z0 n0 p l e R s m args below meth c hC htb H locs ls hR hl hS hz hn)
theorem wq_if_eq {M : nM} {pc : Nat} {L : List (Nat × nV)} {st : List nV} {μ : nMem} {ε : nEnv} {tb : List ExceptionTableEntry → Prop} {Fn : nG → Nat → Nat → List Frame → Array Value → State → State → Prop} {off : Int} {tgt : Nat} {x : Int} (hd : decode (mCode M) pc = .ok (.ifCond .eq off, 3)) (ht : (pc : Int) + off = (tgt : Int)) (h0 : inR x) (kt : x = 0 → wpF M tgt L st μ ε tb Fn) (kf : ¬ (x = 0) → wpF M (pc + 3) L st μ ε tb Fn) : wpF M pc L (vI x :: st) μ ε tb Fn := by
  intro G hG z0 n0 p l e R s m args below meth c hC htb H locs ls hR hl hS hz hn
  obtain ⟨hx, -, hb, -⟩ := id hC
  exact lv_if_eq hx hb hd ht (fun q => kt ((n_eq h0 n_in0).mp q) G hG z0 n0 p l e R s m args below meth c hC htb H locs ls hR hl hS hz hn) (fun q => kf (fun q2 => q ((n_eq h0 n_in0).mpr q2)) G hG z0 n0 p l e R s m args below meth c hC htb H locs ls hR hl hS hz hn)
theorem wq_if_ne {M : nM} {pc : Nat} {L : List (Nat × nV)} {st : List nV} {μ : nMem} {ε : nEnv} {tb : List ExceptionTableEntry → Prop} {Fn : nG → Nat → Nat → List Frame → Array Value → State → State → Prop} {off : Int} {tgt : Nat} {x : Int} (hd : decode (mCode M) pc = .ok (.ifCond .ne off, 3)) (ht : (pc : Int) + off = (tgt : Int)) (h0 : inR x) (kt : ¬ x = 0 → wpF M tgt L st μ ε tb Fn) (kf : x = 0 → wpF M (pc + 3) L st μ ε tb Fn) : wpF M pc L (vI x :: st) μ ε tb Fn := by
  intro G hG z0 n0 p l e R s m args below meth c hC htb H locs ls hR hl hS hz hn
  obtain ⟨hx, -, hb, -⟩ := id hC
  exact lv_if_ne hx hb hd ht (fun q => kt (fun q2 => q ((n_eq h0 n_in0).mpr q2)) G hG z0 n0 p l e R s m args below meth c hC htb H locs ls hR hl hS hz hn) (fun q => kf ((n_eq h0 n_in0).mp q) G hG z0 n0 p l e R s m args below meth c hC htb H locs ls hR hl hS hz hn)
theorem wq_if_lt {M : nM} {pc : Nat} {L : List (Nat × nV)} {st : List nV} {μ : nMem} {ε : nEnv} {tb : List ExceptionTableEntry → Prop} {Fn : nG → Nat → Nat → List Frame → Array Value → State → State → Prop} {off : Int} {tgt : Nat} {x : Int} (hd : decode (mCode M) pc = .ok (.ifCond .lt off, 3)) (ht : (pc : Int) + off = (tgt : Int)) (h0 : inR x) (kt : x < 0 → wpF M tgt L st μ ε tb Fn) (kf : ¬ (x < 0) → wpF M (pc + 3) L st μ ε tb Fn) : wpF M pc L (vI x :: st) μ ε tb Fn := by
  intro G hG z0 n0 p l e R s m args below meth c hC htb H locs ls hR hl hS hz hn
  obtain ⟨hx, -, hb, -⟩ := id hC
  exact lv_if_lt hx hb hd ht (fun q => kt ((n_lt h0 n_in0).mp q) G hG z0 n0 p l e R s m args below meth c hC htb H locs ls hR hl hS hz hn) (fun q => kf (fun q2 => q ((n_lt h0 n_in0).mpr q2)) G hG z0 n0 p l e R s m args below meth c hC htb H locs ls hR hl hS hz hn)
theorem wq_if_ge {M : nM} {pc : Nat} {L : List (Nat × nV)} {st : List nV} {μ : nMem} {ε : nEnv} {tb : List ExceptionTableEntry → Prop} {Fn : nG → Nat → Nat → List Frame → Array Value → State → State → Prop} {off : Int} {tgt : Nat} {x : Int} (hd : decode (mCode M) pc = .ok (.ifCond .ge off, 3)) (ht : (pc : Int) + off = (tgt : Int)) (h0 : inR x) (kt : 0 ≤ x → wpF M tgt L st μ ε tb Fn) (kf : ¬ (0 ≤ x) → wpF M (pc + 3) L st μ ε tb Fn) : wpF M pc L (vI x :: st) μ ε tb Fn := by
  intro G hG z0 n0 p l e R s m args below meth c hC htb H locs ls hR hl hS hz hn
  obtain ⟨hx, -, hb, -⟩ := id hC
  exact lv_if_ge hx hb hd ht (fun q => kt ((n_le n_in0 h0).mp q) G hG z0 n0 p l e R s m args below meth c hC htb H locs ls hR hl hS hz hn) (fun q => kf (fun q2 => q ((n_le n_in0 h0).mpr q2)) G hG z0 n0 p l e R s m args below meth c hC htb H locs ls hR hl hS hz hn)
theorem wq_if_gt {M : nM} {pc : Nat} {L : List (Nat × nV)} {st : List nV} {μ : nMem} {ε : nEnv} {tb : List ExceptionTableEntry → Prop} {Fn : nG → Nat → Nat → List Frame → Array Value → State → State → Prop} {off : Int} {tgt : Nat} {x : Int} (hd : decode (mCode M) pc = .ok (.ifCond .gt off, 3)) (ht : (pc : Int) + off = (tgt : Int)) (h0 : inR x) (kt : 0 < x → wpF M tgt L st μ ε tb Fn) (kf : ¬ (0 < x) → wpF M (pc + 3) L st μ ε tb Fn) : wpF M pc L (vI x :: st) μ ε tb Fn := by
  intro G hG z0 n0 p l e R s m args below meth c hC htb H locs ls hR hl hS hz hn
  obtain ⟨hx, -, hb, -⟩ := id hC
  exact lv_if_gt hx hb hd ht (fun q => kt ((n_lt n_in0 h0).mp q) G hG z0 n0 p l e R s m args below meth c hC htb H locs ls hR hl hS hz hn) (fun q => kf (fun q2 => q ((n_lt n_in0 h0).mpr q2)) G hG z0 n0 p l e R s m args below meth c hC htb H locs ls hR hl hS hz hn)
theorem wq_if_le {M : nM} {pc : Nat} {L : List (Nat × nV)} {st : List nV} {μ : nMem} {ε : nEnv} {tb : List ExceptionTableEntry → Prop} {Fn : nG → Nat → Nat → List Frame → Array Value → State → State → Prop} {off : Int} {tgt : Nat} {x : Int} (hd : decode (mCode M) pc = .ok (.ifCond .le off, 3)) (ht : (pc : Int) + off = (tgt : Int)) (h0 : inR x) (kt : x ≤ 0 → wpF M tgt L st μ ε tb Fn) (kf : ¬ (x ≤ 0) → wpF M (pc + 3) L st μ ε tb Fn) : wpF M pc L (vI x :: st) μ ε tb Fn := by
  intro G hG z0 n0 p l e R s m args below meth c hC htb H locs ls hR hl hS hz hn
  obtain ⟨hx, -, hb, -⟩ := id hC
  exact lv_if_le hx hb hd ht (fun q => kt ((n_le h0 n_in0).mp q) G hG z0 n0 p l e R s m args below meth c hC htb H locs ls hR hl hS hz hn) (fun q => kf (fun q2 => q ((n_le h0 n_in0).mpr q2)) G hG z0 n0 p l e R s m args below meth c hC htb H locs ls hR hl hS hz hn)
theorem nRf_none {G : nG} {x : Int} : nRf G x = none ↔ x = 0 := by
  unfold nRf
  split
  · simp [*]
  · split <;> simp [*]
theorem nRf_inj {G : nG} (hb : gb G ≤ gB G) {x y : Int} : nRf G x = nRf G y ↔ (x = y ∨ (x < 0 ∧ y < 0)) := by
  unfold nRf
  split <;> split <;> (try split) <;> (try split) <;> simp <;> omega
theorem wq_ifnull {M : nM} {pc : Nat} {L : List (Nat × nV)} {st : List nV} {μ : nMem} {ε : nEnv} {tb : List ExceptionTableEntry → Prop} {Fn : nG → Nat → Nat → List Frame → Array Value → State → State → Prop} {off : Int} {tgt : Nat} {x : Int} (hd : decode (mCode M) pc = .ok (.ifnull off, 3)) (ht : (pc : Int) + off = (tgt : Int)) (kt : x = 0 → wpF M tgt L st μ ε tb Fn) (kf : ¬ x = 0 → wpF M (pc + 3) L st μ ε tb Fn) : wpF M pc L (vR x :: st) μ ε tb Fn := by
  intro G hG z0 n0 p l e R s m args below meth c hC htb H locs ls hR hl hS hz hn
  obtain ⟨hx, -, hb, -⟩ := id hC
  show W p l e R s m args below meth c H locs (eSz ε - z0) (eSl ε - n0) (Fn G z0 n0 below args s) (F0 m pc ls (va_rf (nRf G x) :: st.map (toV G)))
  cases ho : nRf G x with
  | none => exact lv_ifnullN hx hb hd ht (kt (nRf_none.mp ho) G hG z0 n0 p l e R s m args below meth c hC htb H locs ls hR hl hS hz hn)
  | some q => exact lv_ifnull hx hb hd (kf (fun q2 => by rw [nRf_none.mpr q2] at ho; cases ho) G hG z0 n0 p l e R s m args below meth c hC htb H locs ls hR hl hS hz hn)
theorem wq_ifnonnull {M : nM} {pc : Nat} {L : List (Nat × nV)} {st : List nV} {μ : nMem} {ε : nEnv} {tb : List ExceptionTableEntry → Prop} {Fn : nG → Nat → Nat → List Frame → Array Value → State → State → Prop} {off : Int} {tgt : Nat} {x : Int} (hd : decode (mCode M) pc = .ok (.ifnonnull off, 3)) (ht : (pc : Int) + off = (tgt : Int)) (kt : ¬ x = 0 → wpF M tgt L st μ ε tb Fn) (kf : x = 0 → wpF M (pc + 3) L st μ ε tb Fn) : wpF M pc L (vR x :: st) μ ε tb Fn := by
  intro G hG z0 n0 p l e R s m args below meth c hC htb H locs ls hR hl hS hz hn
  obtain ⟨hx, -, hb, -⟩ := id hC
  show W p l e R s m args below meth c H locs (eSz ε - z0) (eSl ε - n0) (Fn G z0 n0 below args s) (F0 m pc ls (va_rf (nRf G x) :: st.map (toV G)))
  cases ho : nRf G x with
  | none => exact lv_ifnonnullN hx hb hd (kf (nRf_none.mp ho) G hG z0 n0 p l e R s m args below meth c hC htb H locs ls hR hl hS hz hn)
  | some q => exact lv_ifnonnull hx hb hd ht (kt (fun q2 => by rw [nRf_none.mpr q2] at ho; cases ho) G hG z0 n0 p l e R s m args below meth c hC htb H locs ls hR hl hS hz hn)
theorem wq_acmp_eq {M : nM} {pc : Nat} {L : List (Nat × nV)} {st : List nV} {μ : nMem} {ε : nEnv} {tb : List ExceptionTableEntry → Prop} {Fn : nG → Nat → Nat → List Frame → Array Value → State → State → Prop} {off : Int} {tgt : Nat} {x y : Int} (hd : decode (mCode M) pc = .ok (.if_acmp .eq off, 3)) (ht : (pc : Int) + off = (tgt : Int)) (h0 : 0 ≤ x) (h1 : 0 ≤ y) (kt : x = y → wpF M tgt L st μ ε tb Fn) (kf : ¬ x = y → wpF M (pc + 3) L st μ ε tb Fn) : wpF M pc L (vR y :: vR x :: st) μ ε tb Fn := by
  intro G hG z0 n0 p l e R s m args below meth c hC htb H locs ls hR hl hS hz hn
  obtain ⟨hx, -, hb, -⟩ := id hC
  have e9 : nRf G x = nRf G y ↔ x = y := by
    rw [nRf_inj hR.2.2.2.2.2.2.1]; omega
  exact lv_acmp_eq hx hb hd ht (fun q => kt (e9.mp q) G hG z0 n0 p l e R s m args below meth c hC htb H locs ls hR hl hS hz hn) (fun q => kf (fun q2 => q (e9.mpr q2)) G hG z0 n0 p l e R s m args below meth c hC htb H locs ls hR hl hS hz hn)
theorem wq_acmp_ne {M : nM} {pc : Nat} {L : List (Nat × nV)} {st : List nV} {μ : nMem} {ε : nEnv} {tb : List ExceptionTableEntry → Prop} {Fn : nG → Nat → Nat → List Frame → Array Value → State → State → Prop} {off : Int} {tgt : Nat} {x y : Int} (hd : decode (mCode M) pc = .ok (.if_acmp .ne off, 3)) (ht : (pc : Int) + off = (tgt : Int)) (h0 : 0 ≤ x) (h1 : 0 ≤ y) (kt : ¬ x = y → wpF M tgt L st μ ε tb Fn) (kf : x = y → wpF M (pc + 3) L st μ ε tb Fn) : wpF M pc L (vR y :: vR x :: st) μ ε tb Fn := by
  intro G hG z0 n0 p l e R s m args below meth c hC htb H locs ls hR hl hS hz hn
  obtain ⟨hx, -, hb, -⟩ := id hC
  have e9 : nRf G x = nRf G y ↔ x = y := by
    rw [nRf_inj hR.2.2.2.2.2.2.1]; omega
  exact lv_acmp_ne hx hb hd ht (fun q => kt (fun q2 => q (e9.mpr q2)) G hG z0 n0 p l e R s m args below meth c hC htb H locs ls hR hl hS hz hn) (fun q => kf (e9.mp q) G hG z0 n0 p l e R s m args below meth c hC htb H locs ls hR hl hS hz hn)
