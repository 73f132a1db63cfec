theorem wq_tabIn {M : nM} {pc : Nat} {L : List (Nat × nV)} {st : List nV} {μ : nMem} {ε : nEnv} {tb : List ExceptionTableEntry → Prop} {Fn : nG → Nat → Nat → List Frame → Array Value → State → State → Prop} {dflt lo hi off x : Int} {offs : Array Int} {len tgt : Nat} (hd : decode (mCode M) pc = .ok (.tableswitch dflt lo hi offs, len)) (h0 : inR x) (h1 : lo ≤ x) (h2 : x ≤ hi) (ho : offs[(x - lo).toNat]? = some off) (ht : (pc : Int) + off = (tgt : Int)) (k : wpF M tgt L st μ ε tb Fn) : wpF M pc L (vI x :: st) μ ε tb Fn := by
  intro G hG z0 n0 p l e R s m args below meth c hC htb H locs ls hR hl hS hz hn
  obtain ⟨hx, -, hb, -⟩ := id hC
  exact lv_tableIn hx hb hd (by rw [n_i32 h0]; omega) (by rw [n_i32 h0]; omega) (by rw [n_i32 h0]; exact ho) ht (k G hG z0 n0 p l e R s m args below meth c hC htb H locs ls hR hl hS hz hn)
theorem wq_tabOut {M : nM} {pc : Nat} {L : List (Nat × nV)} {st : List nV} {μ : nMem} {ε : nEnv} {tb : List ExceptionTableEntry → Prop} {Fn : nG → Nat → Nat → List Frame → Array Value → State → State → Prop} {dflt lo hi x : Int} {offs : Array Int} {len tgt : Nat} (hd : decode (mCode M) pc = .ok (.tableswitch dflt lo hi offs, len)) (h0 : inR x) (h1 : x < lo ∨ hi < x) (ht : (pc : Int) + dflt = (tgt : Int)) (k : wpF M tgt L st μ ε tb Fn) : wpF M pc L (vI x :: st) μ ε tb Fn := by
  intro G hG z0 n0 p l e R s m args below meth c hC htb H locs ls hR hl hS hz hn
  obtain ⟨hx, -, hb, -⟩ := id hC
  exact lv_tableOut hx hb hd (by rw [n_i32 h0]; exact h1) ht (k G hG z0 n0 p l e R s m args below meth c hC htb H locs ls hR hl hS hz hn)
