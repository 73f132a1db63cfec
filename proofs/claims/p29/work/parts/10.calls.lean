theorem st_tight {p : Program} {l : Launch} {e : Env} {R : Room} {s : State} {m : MethodId} {args : Array Value} {below : List Frame} {meth : Method} {c : Code} {T : State} {locs : List Loc} {cells slots k n : Nat}
    (X : Stand p l e R s m args below meth c T locs cells slots) (h1 : T.heap.size ≤ s.heap.size + k) (h2 : tot T.heap ≤ tot s.heap + n) :
    Stand p l e R s m args below meth c T locs k n ∧ s.heap.size ≤ T.heap.size ∧ tot s.heap ≤ tot T.heap := by
  obtain ⟨a1, a2, a3, a4, a5, a6⟩ := X.same
  have hh : (T.setVm s.vm).heap = T.heap := rfl
  rw [hh] at a2 a5 a6
  have ht : (T.heap.toList.take s.heap.size).map (fun c => c.slots.size) = s.heap.toList.map (fun c => c.slots.size) := by
    apply List.ext_getElem?
    intro q
    rw [List.getElem?_map, List.getElem?_map, List.getElem?_take, Array.getElem?_toList, Array.getElem?_toList]
    by_cases hq : q < s.heap.size
    · rw [if_pos hq]
      obtain ⟨c', e1, e2, e3, e4⟩ := a6 q _ (Array.getElem?_eq_getElem hq)
      rw [e1, Array.getElem?_eq_getElem hq]
      simp [e3]
    · rw [if_neg hq, Array.getElem?_eq_none (by omega)]
  have hs : tot T.heap = tot s.heap + ((T.heap.toList.drop s.heap.size).map (fun c => c.slots.size)).sum := by
    unfold tot
    conv => lhs; rw [← List.take_append_drop s.heap.size T.heap.toList]
    rw [List.map_append, List.sum_append, ht]
  refine ⟨{ X with same := ⟨a1, a2, h1, a4, ?_, a6⟩ }, a2, by omega⟩
  show ((T.heap.toList.drop s.heap.size).map (fun c => c.slots.size)).sum ≤ n
  omega
/-- where a callee has thrown -/
def wxF (M : nM) (pc : Nat) (L : List (Nat × nV)) (st : List nV) (μ : nMem) (ε : nEnv) (E : String) (tb : List ExceptionTableEntry → Prop) (Fn : nG → Nat → Nat → List Frame → Array Value → State → State → Prop) : Prop :=
  ∀ (G : nG), GOK G → ∀ (z0 n0 : Nat) (p : Program) (l : Launch) (e : Env) (R : Room) (s : State) (m : MethodId) (args : Array Value) (below : List Frame) (meth : Method) (c : Code),
    nCx G M z0 n0 p l R s m meth c → tb c.exceptionTable.toList → ∀ (H : Heap) (locs : List Loc) (ls : Array Slot), Rep G μ ε H → lv_has ls (mMax M) (nLv G L) → va_S (nNew G) s.heap H locs → z0 ≤ eSz ε → n0 ≤ eSl ε →
    ∀ (ce : Cell) (q : Nat), H[q]? = some ce → ce.vm = .none → s.vm.findClass E = some ce.cls → vx_W p l e R s m args below meth c H locs (eSz ε - z0) (eSl ε - n0) (Fn G z0 n0 below args s) (F0 m pc ls (st.map (toV G))) q
theorem nS_call {G : nG} {μ μ' : nMem} {ε ε' : nEnv} {s : State} {H H' : Heap} {locs L : List Loc} (hR : Rep G μ ε H) (hR' : Rep G μ' ε' H') (hS : va_S (nNew G) s.heap H locs) (hle : s.heap.size ≤ H'.size) (hL : ∀ q ∈ L, nNew G q.base) : va_S (nNew G) s.heap H' (locs ++ L) := by
  refine ⟨hle, fun q h1 h2 => ?_, fun q hq => ?_⟩
  · have hq : q ≤ gB G := Nat.not_lt.mp h2
    rw [hR'.2.2.2.1 q hq, ← hS.2.1 q h1 h2, hR.2.2.2.1 q hq]
  · rcases List.mem_append.mp hq with h | h
    · exact hS.2.2 q h
    · exact hL q h
theorem wq_core {M : nM} {pc : Nat} {L : List (Nat × nV)} {st rest : List nV} {μ : nMem} {ε : nEnv} {tb : List ExceptionTableEntry → Prop} {Fn : nG → Nat → Nat → List Frame → Array Value → State → State → Prop} {Q : nOut → nMem → nEnv → Prop} {av : Array Value}
    (kr : ∀ (r : Option nV) (μ' : nMem) (ε' : nEnv), Q (.inl r) μ' ε' → wpF M (pc + 3) L (r.toList ++ rest) μ' ε' tb Fn)
    (kx : ∀ (E : String) (μ' : nMem) (ε' : nEnv), Q (.inr E) μ' ε' → wxF M pc L rest μ' ε' E tb Fn)
    {G : nG} (hG : GOK G) {z0 n0 : Nat} {p : Program} {l : Launch} {e : Env} {R : Room} {s : State} {m : MethodId} {args : Array Value} {below : List Frame} {meth : Method} {c : Code}
    (hC : nCx G M z0 n0 p l R s m meth c) (htb : tb c.exceptionTable.toList) {H : Heap} {locs : List Loc} {ls : Array Slot} (hR : Rep G μ ε H) (hl : lv_has ls (mMax M) (nLv G L)) (hS : va_S (nNew G) s.heap H locs) (hz : z0 ≤ eSz ε) (hn : n0 ≤ eSl ε)
    (hr : vx_Run p l e R s m args below meth c H locs (eSz ε - z0) (eSl ε - n0) (nCAP - eSz ε) (nSCAP - eSl ε) (F0 m pc ls (st.map (toV G))) (rest.map (toV G)) (Qr G Q av) (Qx G Q) (nNew G)) :
    W p l e R s m args below meth c H locs (eSz ε - z0) (eSl ε - n0) (Fn G z0 n0 below args s) (F0 m pc ls (st.map (toV G))) := by
  obtain ⟨hx, hst0, hb, hml, hret, hlk9, hown, hnm, hW, hRm, hs0, ht0⟩ := id hC
  have hti : ∀ (T' : State) (L9 : List Loc) (μ' : nMem) (ε' : nEnv), Rep G μ' ε' T'.heap → Stand p l e R s m args below meth c T' (locs ++ L9) (eSz ε - z0 + (nCAP - eSz ε)) (eSl ε - n0 + (nSCAP - eSl ε)) →
      Stand p l e R s m args below meth c T' (locs ++ L9) (eSz ε' - z0) (eSl ε' - n0) ∧ z0 ≤ eSz ε' ∧ n0 ≤ eSl ε' ∧ s.heap.size ≤ T'.heap.size := by
    intro T' L9 μ' ε' hR' X'
    obtain ⟨-, b1, b2⟩ := st_tight (k := eSz ε') (n := eSl ε') X' (by rw [hR'.1, hs0]; omega) (by rw [hR'.2.1, ht0]; omega)
    have c1 : z0 ≤ eSz ε' := by rw [hR'.1, hs0] at b1; omega
    have c2 : n0 ≤ eSl ε' := by rw [hR'.2.1, ht0] at b2; omega
    exact ⟨(st_tight X' (by rw [hR'.1, hs0]; omega) (by rw [hR'.2.1, ht0]; omega)).1, c1, c2, b1⟩
  intro T hT X
  rcases hr T hT X with ⟨v, st₀, t, T', L9, h0, X', hL, e1, e2, ⟨r, μ', ε', hv, hQ, hR'⟩, hgo⟩ | ⟨q, st₀, t, T', L9, E, ce, h0, X', hL, e1, e2, ⟨μ', ε', hQ, hR'⟩, hce, hcv, hcl, hgo⟩
  · cases hv
    rw [← e1] at hR'
    obtain ⟨Y, c1, c2, c3⟩ := hti T' L9 μ' ε' hR' X'
    have h := kr r μ' ε' hQ G hG z0 n0 p l e R s m args below meth c hC htb T'.heap (locs ++ L9) ls hR' hl (nS_call hR hR' hS c3 hL) c1 c2
    have e5 : (r.toList ++ rest).map (toV G) = (r.map (toV G)).toList ++ rest.map (toV G) := by cases r <;> simp
    rw [e5] at h
    obtain ⟨t2, a1, b1⟩ := h T' rfl Y
    exact ⟨t2, hgo t2 a1, b1⟩
  · rw [← e1] at hR' hce
    obtain ⟨Y, c1, c2, c3⟩ := hti T' L9 μ' ε' hR' X'
    have h := kx E μ' ε' hQ G hG z0 n0 p l e R s m args below meth c hC htb T'.heap (locs ++ L9) ls hR' hl (nS_call hR hR' hS c3 hL) c1 c2 ce q hce hcv hcl
    obtain ⟨t2, a1, b1⟩ := h T' rfl Y
    exact ⟨t2, hgo.trans a1, b1⟩
def cxB (M' : nM) (n : Nat) : Prop := wOK (.initialized (mNm M').cls) ∧ wOK (.code (mNm M') (mCode M') (mMax M') (mRet M')) ∧ ((mNm M').cls ≠ "java/lang/invoke/MethodHandle" ∧ (mNm M').cls ≠ "java/lang/invoke/VarHandle") ∧ (parseMethodDescriptor (mNm M').desc).map (fun d => d.parameters.length) = some n
def cxV (M : nM) (idx : Nat) (M' : nM) (C : String) (n : Nat) : Prop := wOK (.methodLink (mOwn M) idx (mNm M')) ∧ wOK (.instanceMethod (mNm M')) ∧ wOK (.selects C (mNm M') (mNm M')) ∧ cxB M' n
def cxS (M : nM) (idx : Nat) (M' : nM) (n : Nat) : Prop := wOK (.methodLink (mOwn M) idx (mNm M')) ∧ wOK (.static (mNm M')) ∧ cxB M' n
def cxI (M : nM) (idx : Nat) (M' : nM) (n : Nat) : Prop := (wOK (.methodLink (mOwn M) idx (mNm M')) ∨ ∃ host, Cond.methodLinkNest (mOwn M) idx (mNm M') host ∈ lw_tbl) ∧ wOK (.instanceMethod (mNm M')) ∧ (mNm M').name = "<init>" ∧ mRet M' = none ∧ cxB M' n
theorem n_blind {G : nG} {μ : nMem} {ε : nEnv} {av : List Value} : FrameBlind (va_Pc av (nWorld G μ ε)) := fun _ _ _ _ q => ⟨q.1, q.2.1, q.2.2⟩
theorem n_pre {G : nG} {μ : nMem} {ε : nEnv} {av : List Value} {s U : State} {H : Heap} (hR : Rep G μ ε H) (hW : (gS G).WarmedH s.vm) (hU : U.heap = H) (hWU : s.WarmedH U.vm) : va_Pc av (nWorld G μ ε) av.toArray U := ⟨rfl, by rw [hU]; exact hR, State.WarmedH.trans hW hWU⟩
theorem n_ws {G : nG} {M' : nM} {s : State} (hG : GOK G) (hW : (gS G).WarmedH s.vm) (hw : wOK (.code (mNm M') (mCode M') (mMax M') (mRet M'))) : ∀ w ∈ nWs M', ∀ (a' : Array Value) (U : State), s.WarmedH U.vm → w.before a' U = true := by
  intro w h a' U hWU
  have e : w = .code (mNm M') (mCode M') (mMax M') (mRet M') := List.mem_singleton.mp h
  rw [e]
  exact word_at (State.WarmedH.trans hW hWU) (good_of_word hw.2) (hG.2.2.2.1 _ hw.1)
theorem n_cat8 {G : nG} {rest : List nV} (h : (rest.map nCat).sum ≤ 8) : ((rest.map (toV G)).map fun v => v.category).sum ≤ 8 := by
  rw [List.map_map, show ((fun v : Value => v.category) ∘ toV G) = nCat from funext (toV_cat G)]
  exact h
theorem wq_callV {M M' : nM} {pc idx : Nat} {L : List (Nat × nV)} {rest as : List nV} {μ : nMem} {ε : nEnv} {tb : List ExceptionTableEntry → Prop} {Fn : nG → Nat → Nat → List Frame → Array Value → State → State → Prop} {Q' : nOut → nMem → nEnv → Prop} {ci : Nat} {x : Int} (hd : decode (mCode M) pc = .ok (.invokevirtual idx, 3)) (hw : cxV M idx M' (cTab ci).1 as.length) (hci : ci < 7) (hk : eKind ε x = ci + 1) (hfr : mFr M' + 1 ≤ mFr M ∧ 8 + (mMax M' + 11) + mLo M' ≤ mLo M) (hst8 : (rest.map nCat).sum ≤ 8) (h : Sp M' (vR x :: as) μ ε Q') (kr : ∀ (r : Option nV) (μ' : nMem) (ε' : nEnv), Q' (.inl r) μ' ε' → wpF M (pc + 3) L (r.toList ++ rest) μ' ε' tb Fn) (kx : ∀ (E : String) (μ' : nMem) (ε' : nEnv), Q' (.inr E) μ' ε' → wxF M pc L rest μ' ε' E tb Fn) : wpF M pc L (as.reverse ++ vR x :: rest) μ ε tb Fn := by
  intro G hG z0 n0 p l e R s m args below meth c hC htb H locs ls hR hl hS hz hn
  obtain ⟨hx, hst0, hb, hml, hret, hlk9, hown, hnm, hW, hRm, hs0, ht0⟩ := id hC
  obtain ⟨hlk, hin, hsel, hB⟩ := hw
  have hCB : CallB R s args (mOwn M) idx (mNm M') (mCode M') (mMax M') (mRet M') (nWs M') (nRm M' ε) (nCAP - eSz ε) (nSCAP - eSl ε) as.length :=
    ⟨rfl, rfl, by rw [hRm]; exact hfr.1, by rw [hRm]; exact hfr.2, n_ws hG hW hB.2.1, List.mem_singleton.mpr rfl, n_wd hG hC hB.2.1 args, n_wd hG hC hB.1 args, hB.2.2.1, fun sig h9 => by have h8 := hB.2.2.2; rw [h9] at h8; exact (Option.some.inj h8).symm, n_wd hG hC hlk args⟩
  have hroom : eSz ε - z0 + (nCAP - eSz ε) ≤ R.cells ∧ eSl ε - n0 + (nSCAP - eSl ε) ≤ R.slots := by
    have := hR.2.2.2.2.1
    rw [hRm]
    exact ⟨by show _ ≤ nCAP - z0; omega, by show _ ≤ nSCAP - n0; omega⟩
  obtain ⟨x1, x2, hat⟩ := hR.2.2.1 x (by rw [hk]; exact Nat.succ_ne_zero _)
  obtain ⟨r, hr, cell, q1, q2, q3, q4⟩ := hat.1 ci hk hci
  have er : cTab ci = r := cTab_eq hr
  subst er
  have hKu := u_Kn_moved hW.alike (hG.2.2.1.1 ci _ hr)
  refine wq_core (rest := rest) kr kx hG hC htb hR hl hS hz hn (vx_runV (As := as.map (toV G)) (b := nAd G x) (C := (cTab ci).1) (Ts := []) (nL := mMax M) ⟨hx, hb, hml, hown, fun _ h => absurd h List.not_mem_nil⟩ (h G hG l hst0)
    (n := as.length) ⟨hCB, n_wd hG hC hin args, n_wd hG hC hsel args⟩ ⟨n_blind, ⟨cell, q1, by rw [q3]; rfl, by rw [q2]; exact hKu.2.1⟩, fun U hU hWU => ?_⟩ rfl (by simp) hl.1 ?_ (lv_room (n_cat8 hst8)) hd hroom)
  · have h9 := n_pre (av := (vR x :: as).map (toV G)) hR hW hU hWU
    rw [List.map_cons, show toV G (vR x) = Value.ref (nAd G x) from toV_ref x1] at h9 ⊢
    exact h9
  · show (as.reverse ++ vR x :: rest).map (toV G) = _
    rw [List.map_append, List.map_cons, List.map_reverse, show toV G (vR x) = Value.ref (nAd G x) from toV_ref x1]
theorem wq_callS {M M' : nM} {pc idx : Nat} {L : List (Nat × nV)} {rest as : List nV} {μ : nMem} {ε : nEnv} {tb : List ExceptionTableEntry → Prop} {Fn : nG → Nat → Nat → List Frame → Array Value → State → State → Prop} {Q' : nOut → nMem → nEnv → Prop} (hd : decode (mCode M) pc = .ok (.invokestatic idx, 3)) (hw : cxS M idx M' as.length) (hfr : mFr M' + 1 ≤ mFr M ∧ 8 + (mMax M' + 11) + mLo M' ≤ mLo M) (hst8 : (rest.map nCat).sum ≤ 8) (h : Sp M' as μ ε Q') (kr : ∀ (r : Option nV) (μ' : nMem) (ε' : nEnv), Q' (.inl r) μ' ε' → wpF M (pc + 3) L (r.toList ++ rest) μ' ε' tb Fn) (kx : ∀ (E : String) (μ' : nMem) (ε' : nEnv), Q' (.inr E) μ' ε' → wxF M pc L rest μ' ε' E tb Fn) : wpF M pc L (as.reverse ++ rest) μ ε tb Fn := by
  intro G hG z0 n0 p l e R s m args below meth c hC htb H locs ls hR hl hS hz hn
  obtain ⟨hx, hst0, hb, hml, hret, hlk9, hown, hnm, hW, hRm, hs0, ht0⟩ := id hC
  obtain ⟨hlk, hin, hB⟩ := hw
  have hCB : CallB R s args (mOwn M) idx (mNm M') (mCode M') (mMax M') (mRet M') (nWs M') (nRm M' ε) (nCAP - eSz ε) (nSCAP - eSl ε) as.length :=
    ⟨rfl, rfl, by rw [hRm]; exact hfr.1, by rw [hRm]; exact hfr.2, n_ws hG hW hB.2.1, List.mem_singleton.mpr rfl, n_wd hG hC hB.2.1 args, n_wd hG hC hB.1 args, hB.2.2.1, fun sig h9 => by have h8 := hB.2.2.2; rw [h9] at h8; exact (Option.some.inj h8).symm, n_wd hG hC hlk args⟩
  have hroom : eSz ε - z0 + (nCAP - eSz ε) ≤ R.cells ∧ eSl ε - n0 + (nSCAP - eSl ε) ≤ R.slots := by
    have := hR.2.2.2.2.1
    rw [hRm]
    exact ⟨by show _ ≤ nCAP - z0; omega, by show _ ≤ nSCAP - n0; omega⟩
  refine wq_core (rest := rest) kr kx hG hC htb hR hl hS hz hn (vx_runS (As := as.map (toV G)) (Ts := []) (nL := mMax M) ⟨hx, hb, hml, hown, fun _ h => absurd h List.not_mem_nil⟩ (h G hG l hst0)
    (n := as.length) ⟨hCB, n_wd hG hC hin args⟩ ⟨n_blind, fun U hU hWU => n_pre hR hW hU hWU⟩ rfl (by simp) hl.1 ?_ (lv_room (n_cat8 hst8)) hd hroom)
  show (as.reverse ++ rest).map (toV G) = _
  rw [List.map_append, List.map_reverse]
theorem wq_callI {M M' : nM} {pc idx : Nat} {L : List (Nat × nV)} {rest as : List nV} {μ : nMem} {ε : nEnv} {tb : List ExceptionTableEntry → Prop} {Fn : nG → Nat → Nat → List Frame → Array Value → State → State → Prop} {Q' : nOut → nMem → nEnv → Prop} {x : Int} (hd : decode (mCode M) pc = .ok (.invokespecial idx, 3)) (hw : cxI M idx M' as.length) (x1 : 1 ≤ x) (hfr : mFr M' + 1 ≤ mFr M ∧ 8 + (mMax M' + 11) + mLo M' ≤ mLo M) (hst8 : (rest.map nCat).sum ≤ 8) (h : Sp M' (vR x :: as) μ ε Q') (kr : ∀ (r : Option nV) (μ' : nMem) (ε' : nEnv), Q' (.inl r) μ' ε' → wpF M (pc + 3) L (r.toList ++ rest) μ' ε' tb Fn) (kx : ∀ (E : String) (μ' : nMem) (ε' : nEnv), Q' (.inr E) μ' ε' → wxF M pc L rest μ' ε' E tb Fn) : wpF M pc L (as.reverse ++ vR x :: rest) μ ε tb Fn := by
  intro G hG z0 n0 p l e R s m args below meth c hC htb H locs ls hR hl hS hz hn
  obtain ⟨hx, hst0, hb, hml, hret, hlk9, hown, hnm, hW, hRm, hs0, ht0⟩ := id hC
  obtain ⟨hlk2, hin, hnm2, hrt, hB⟩ := hw
  have hMet := h G hG l hst0
  have hst9 : (F0 m pc ls ((as.reverse ++ vR x :: rest).map (toV G))).stack = (as.map (toV G)).reverse ++ Value.ref (nAd G x) :: rest.map (toV G) := by
    show (as.reverse ++ vR x :: rest).map (toV G) = _
    rw [List.map_append, List.map_cons, List.map_reverse, show toV G (vR x) = Value.ref (nAd G x) from toV_ref x1]
  have hpre : PreS s H (va_Pc ((vR x :: as).map (toV G)) (nWorld G μ ε)) (Value.ref (nAd G x) :: as.map (toV G)) := ⟨n_blind, fun U hU hWU => by
    have h9 := n_pre (av := (vR x :: as).map (toV G)) hR hW hU hWU
    rw [List.map_cons, show toV G (vR x) = Value.ref (nAd G x) from toV_ref x1] at h9 ⊢
    exact h9⟩
  have hroom : eSz ε - z0 + (nCAP - eSz ε) ≤ R.cells ∧ eSl ε - n0 + (nSCAP - eSl ε) ≤ R.slots := by
    have := hR.2.2.2.2.1
    rw [hRm]
    exact ⟨by show _ ≤ nCAP - z0; omega, by show _ ≤ nSCAP - n0; omega⟩
  have hcode := hB.2.1
  rw [hrt] at hcode
  have hws := n_ws hG hW hB.2.1
  have hn9 : ∀ sig, parseMethodDescriptor (mNm M').desc = some sig → as.length = sig.parameters.length := fun sig h9 => by have h8 := hB.2.2.2; rw [h9] at h8; exact (Option.some.inj h8).symm
  have hmem : Cond.code (mNm M') (mCode M') (mMax M') none ∈ nWs M' := List.mem_singleton.mpr (by rw [hrt])
  rcases hlk2 with hlk | ⟨host, hlk⟩
  · exact wq_core (rest := rest) kr kx hG hC htb hR hl hS hz hn (vx_runI (As := as.map (toV G)) (b := nAd G x) (Ts := []) (nL := mMax M) (maxL := mMax M') (bytes := mCode M') (n := as.length) ⟨hx, hb, hml, hown, fun _ h => absurd h List.not_mem_nil⟩ hMet
      ⟨⟨rfl, rfl, by rw [hRm]; exact hfr.1, by rw [hRm]; exact hfr.2, hws, hmem, n_wd hG hC hcode args, n_wd hG hC hB.1 args, hB.2.2.1, hn9, n_wd hG hC hlk args⟩, hnm2, n_wd hG hC hin args⟩ hpre rfl (by simp) hl.1 hst9 (lv_room (n_cat8 hst8)) hd hroom)
  · exact wq_core (rest := rest) kr kx hG hC htb hR hl hS hz hn (vx_runIN (host := host) (As := as.map (toV G)) (b := nAd G x) (Ts := []) (nL := mMax M) (maxL := mMax M') (bytes := mCode M') (n := as.length) ⟨hx, hb, hml, hown, fun _ h => absurd h List.not_mem_nil⟩ hMet
      ⟨⟨⟨rfl, rfl, by rw [hRm]; exact hfr.1, by rw [hRm]; exact hfr.2, hws, hmem⟩, n_wd hG hC hcode args, n_wd hG hC hB.1 args, hB.2.2.1, hn9, va_Nw.use rfl (va_Nw.warmM hW (va_Nw.of rfl (hG.2.2.2.1 _ hlk)))⟩, hnm2, n_wd hG hC hin args⟩ hpre rfl (by simp) hl.1 hst9 (lv_room (n_cat8 hst8)) hd hroom)
theorem wx_out {M : nM} {pc : Nat} {L : List (Nat × nV)} {st : List nV} {μ : nMem} {ε : nEnv} {Q : nOut → nMem → nEnv → Prop} {E : String} (h : Q (.inr E) μ ε) : wxF M pc L st μ ε E (fun tb => ∀ x ∈ tb, False) (nFin Q) := by
  intro G hG z0 n0 p l e R s m args below meth c hC htb H locs ls hR hl hS hz hn ce q hce hcv hcl
  obtain ⟨hx, hst0, hb, hml, hret, hlk9, hown, hnm, hW, hRm, hs0, ht0⟩ := id hC
  have hc := hR.2.2.2.2.1
  exact vx_out (fun x hx => (htb x hx).elim) hlk9 hce hcv hcl (fun t ht _ => ⟨μ, ε, h, by rw [ht]; exact hR⟩) hS.2.2 (by omega) (by omega)
/-- the three kinds of calls in a method without handlers: what comes behind is 'kont' -/
theorem kont_r {M : nM} {pc : Nat} {L : List (Nat × nV)} {rest : List nV} {Q : nOut → nMem → nEnv → Prop} : (∀ (r : Option nV) (μ' : nMem) (ε' : nEnv), kont M (pc + 3) L rest Q (.inl r) μ' ε' → wp M (pc + 3) L (r.toList ++ rest) μ' ε' Q) ∧ (∀ (E : String) (μ' : nMem) (ε' : nEnv), kont M (pc + 3) L rest Q (.inr E) μ' ε' → wxF M pc L rest μ' ε' E (fun tb => ∀ x ∈ tb, False) (nFin Q)) :=
  ⟨fun r μ' ε' h => by cases r <;> exact h, fun E μ' ε' h => wx_out h⟩
theorem wq_iret {M : nM} {pc : Nat} {L : List (Nat × nV)} {μ : nMem} {ε : nEnv} {Q : nOut → nMem → nEnv → Prop} {x : Int} (hd : decode (mCode M) pc = .ok (.ireturn, 1)) (hr : mRet M = some .int) (h : Q (.inl (some (vI x))) μ ε) : wp M pc L [vI x] μ ε Q := by
  intro G hG z0 n0 p l e R s m args below meth c hC htb H locs ls hR hl hS hz hn
  obtain ⟨hx, hst0, hb, hml, hret, hlk9, hown, hnm, hW, hRm, hs0, ht0⟩ := id hC
  have hc := hR.2.2.2.2.1
  refine W.widen (k := nCAP - z0) (n := nSCAP - n0) (by omega) (by omega) (vx_ret ?_)
  exact W.iret hx hb (hret.trans hr) (fun t ht _ => ⟨_, μ, ε, rfl, h, by rw [ht]; exact hR⟩) hS.2.2 hd hlk9
theorem wq_zret {M : nM} {pc : Nat} {L : List (Nat × nV)} {μ : nMem} {ε : nEnv} {Q : nOut → nMem → nEnv → Prop} {x : Int} (hd : decode (mCode M) pc = .ok (.ireturn, 1)) (hr : mRet M = some .boolean) (hv : x = 0 ∨ x = 1) (h : Q (.inl (some (vI x))) μ ε) : wp M pc L [vI x] μ ε Q := by
  intro G hG z0 n0 p l e R s m args below meth c hC htb H locs ls hR hl hS hz hn
  obtain ⟨hx, hst0, hb, hml, hret, hlk9, hown, hnm, hW, hRm, hs0, ht0⟩ := id hC
  have hc := hR.2.2.2.2.1
  refine W.widen (k := nCAP - z0) (n := nSCAP - n0) (by omega) (by omega) (vx_ret ?_)
  exact W.zret hx hb (hret.trans hr) (putOK_Z hv G).1 (fun t ht _ => ⟨_, μ, ε, rfl, h, by rw [ht]; exact hR⟩) hS.2.2 hd hlk9
theorem wq_lret {M : nM} {pc : Nat} {L : List (Nat × nV)} {μ : nMem} {ε : nEnv} {Q : nOut → nMem → nEnv → Prop} {x : Int} (hd : decode (mCode M) pc = .ok (.lreturn, 1)) (hr : mRet M = some .long) (h : Q (.inl (some (vJ x))) μ ε) : wp M pc L [vJ x] μ ε Q := by
  intro G hG z0 n0 p l e R s m args below meth c hC htb H locs ls hR hl hS hz hn
  obtain ⟨hx, hst0, hb, hml, hret, hlk9, hown, hnm, hW, hRm, hs0, ht0⟩ := id hC
  have hc := hR.2.2.2.2.1
  refine W.widen (k := nCAP - z0) (n := nSCAP - n0) (by omega) (by omega) (vx_ret ?_)
  exact W.lret hx hb (hret.trans hr) (fun t ht _ => ⟨_, μ, ε, rfl, h, by rw [ht]; exact hR⟩) hS.2.2 hd hlk9
theorem wq_aret {M : nM} {pc : Nat} {L : List (Nat × nV)} {μ : nMem} {ε : nEnv} {Q : nOut → nMem → nEnv → Prop} {x : Int} {C : String} (hd : decode (mCode M) pc = .ok (.areturn, 1)) (hr : mRet M = some (.object C)) (h : Q (.inl (some (vR x))) μ ε) : wp M pc L [vR x] μ ε Q := by
  intro G hG z0 n0 p l e R s m args below meth c hC htb H locs ls hR hl hS hz hn
  obtain ⟨hx, hst0, hb, hml, hret, hlk9, hown, hnm, hW, hRm, hs0, ht0⟩ := id hC
  have hc := hR.2.2.2.2.1
  refine W.widen (k := nCAP - z0) (n := nSCAP - n0) (by omega) (by omega) (vx_ret ?_)
  refine W.aret hx hb (hret.trans hr) (Or.inl ⟨C, rfl⟩) ?_ (fun t ht _ => ⟨_, μ, ε, rfl, h, by rw [ht]; exact hR⟩) hS.2.2 hd hlk9
  show va_rf (nRf G x) = .null ∨ ∃ a, va_rf (nRf G x) = .ref a
  cases nRf G x with
  | none => exact Or.inl rfl
  | some q => exact Or.inr ⟨q, rfl⟩
theorem wq_vret {M : nM} {pc : Nat} {L : List (Nat × nV)} {μ : nMem} {ε : nEnv} {Q : nOut → nMem → nEnv → Prop} (hd : decode (mCode M) pc = .ok (.return_, 1)) (hr : mRet M = none) (h : Q (.inl none) μ ε) : wp M pc L [] μ ε Q := by
  intro G hG z0 n0 p l e R s m args below meth c hC htb H locs ls hR hl hS hz hn
  obtain ⟨hx, hst0, hb, hml, hret, hlk9, hown, hnm, hW, hRm, hs0, ht0⟩ := id hC
  have hc := hR.2.2.2.2.1
  refine W.widen (k := nCAP - z0) (n := nSCAP - n0) (by omega) (by omega) (vx_ret ?_)
  exact W.vret hx hb (hret.trans hr) (fun t ht _ => ⟨_, μ, ε, rfl, h, by rw [ht]; exact hR⟩) hS.2.2 hd hlk9
theorem wq_oinit {M : nM} {pc : Nat} {L : List (Nat × nV)} {st : List nV} {μ : nMem} {ε : nEnv} {tb : List ExceptionTableEntry → Prop} {Fn : nG → Nat → Nat → List Frame → Array Value → State → State → Prop} {idx : Nat} {x : Int} (hd : decode (mCode M) pc = .ok (.invokespecial idx, 3)) (x1 : 1 ≤ x) (h1 : wOK (.methodLink (mOwn M) idx Lib.objectInit)) (h2 : wOK (.instanceMethod Lib.objectInit)) (h3 : wOK (.code Lib.objectInit ⟨#[0xb1]⟩ 1 none)) (hfr : 1 ≤ mFr M) (hlo : 20 ≤ mLo M) (hst8 : (st.map nCat).sum ≤ 8)
    (k9 : wpF M (pc + 3) L st μ ε tb Fn) : wpF M pc L (vR x :: st) μ ε tb Fn := by
  intro G hG z0 n0 p l e R s m args below meth c hC htb H locs ls hR hl hS hz hn
  obtain ⟨hx, hst0, hb, hml, hret, hlk9, hown, hnm, hW, hRm, hs0, ht0⟩ := id hC
  have h := k9 G hG z0 n0 p l e R s m args below meth c hC htb H locs ls hR hl hS hz hn
  refine W.objInit (a := nAd G x) (rest := st.map (toV G)) hx hb hown (n_wd hG hC h1 args) (n_wd hG hC h2 args) (n_wd hG hC h3 args) rfl (by rw [hml]; exact hl.1) ?_ hd (by rw [hRm]; exact hfr) ?_ h
  · show (vR x :: st).map (toV G) = _
    rw [List.map_cons, show toV G (vR x) = Value.ref (nAd G x) from toV_ref x1]
  · have h8 := lv_room (m := m) (pc := pc) (ls := ls) (rest := (vR x :: st).map (toV G)) (n_cat8 (G := G) hst8)
    rw [hRm]
    show _ ≤ mLo M
    omega
/-- from the method's entry -/
def nArgs : Nat → List nV → List (Nat × nV)
  | _, [] => []
  | i, v :: vs => (i, v) :: nArgs (if nCat v = 2 then i + 2 else i + 1) vs
theorem nArgs_v (G : nG) : ∀ (as : List nV) (i : Nat), lv_args i (as.map (toV G)) = nLv G (nArgs i as) := by
  intro as
  induction as with
  | nil => intro i; rfl
  | cons v vs ih =>
    intro i
    show (i, toV G v) :: lv_args (if (toV G v).category = 2 then i + 2 else i + 1) (vs.map (toV G)) = (i, toV G v) :: nLv G (nArgs (if nCat v = 2 then i + 2 else i + 1) vs)
    rw [toV_cat, ih]
theorem nSl_len (G : nG) (as : List nV) : (lg_sl (as.map (toV G))).length = (as.map nCat).sum := by
  induction as with
  | nil => rfl
  | cons v vs ih =>
    have e : lg_sl ((v :: vs).map (toV G)) = (if (toV G v).category = 2 then [Slot.val (toV G v), .second] else [.val (toV G v)]) ++ lg_sl (vs.map (toV G)) := by simp [lg_sl]
    rw [e, List.length_append, ih, toV_cat, List.map_cons, List.sum_cons]
    congr 1
    rcases v with x | x | x <;> rfl
theorem Sp_of {M : nM} {as : List nV} {L : List (Nat × nV)} {μ : nMem} {ε : nEnv} {Q : nOut → nMem → nEnv → Prop} (hp : plainName (mNm M).cls = true) (hc : (mNm M).cls = mOwn M) (hL : nArgs 0 as = L) (hn : (as.map nCat).sum ≤ mMax M) (h : wp M 0 L [] μ ε Q) : Sp M as μ ε Q := by
  subst hL
  intro G hG l hst
  refine vx_ofW (cc := mCode M) (maxL := mMax M) (ret := mRet M) hp rfl ?_
  intro p e s m args below meth c s₁ B hml hno hv
  obtain ⟨rfl, hR, hW⟩ := hv
  have hl := lv_entry (as.map (toV G)) (n := mMax M) (by rw [nSl_len]; exact hn)
  rw [lg_entry_eq]
  generalize (lg_sl (as.map (toV G)) ++ List.replicate (mMax M - (lg_sl (as.map (toV G))).length) Slot.unset).toArray = ls at hl ⊢
  rw [nArgs_v] at hl
  have hown : s.vm.findClass (mNm M).cls = some m.cls := findClass_of_methodNamed B.named
  have h9 := h G hG (eSz ε) (eSl ε) p l e (headSpec (nWs M) (nRm M ε)).room s m (as.map (toV G)).toArray below meth c
    ⟨B.exec, hst, B.bytes, hml, B.returns, B.notSynchronized, by rw [← hc]; exact hown, fun h8 => (name_of_methodNamed B.named B.method).1.trans h8, hW, rfl, hR.1, hR.2.1⟩ hno s.heap [] ls hR hl va_S.rf (Nat.le_refl _) (Nat.le_refl _)
  rw [Nat.sub_self, Nat.sub_self] at h9
  exact h9
theorem Sp_mono {M : nM} {as : List nV} {μ : nMem} {ε : nEnv} {Q Q' : nOut → nMem → nEnv → Prop} (h : ∀ o μ' ε', Q o μ' ε' → Q' o μ' ε') (k : Sp M as μ ε Q) : Sp M as μ ε Q' := by
  intro G hG l hst p e ha hc hk s m args below hf hfit hheap happ
  obtain ⟨t, o, h1, h2, h3, h4⟩ := k G hG l hst p e ha hc hk s m args below hf hfit hheap happ
  refine ⟨t, o, h1, h2, h3, ?_⟩
  rcases h4 with ⟨⟨r, μ', ε', e1, e2, e3⟩, h5⟩ | ⟨q, hq, E, ce, L, ⟨μ', ε', e2, e3⟩, h6⟩
  · exact Or.inl ⟨⟨r, μ', ε', e1, h _ _ _ e2, e3⟩, h5⟩
  · exact Or.inr ⟨q, hq, E, ce, L, ⟨μ', ε', h _ _ _ e2, e3⟩, h6⟩
