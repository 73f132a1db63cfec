/-! ===== methods with handlers (the law's wrappers), and the law's own end ===== -/
def nWsH (M : nM) (hh : List (Nat × Nat × Nat × Nat)) : List Cond := [.codeWith (mNm M) (mCode M) (mMax M) (mRet M) hh]
def SpH (M : nM) (hh : List (Nat × Nat × Nat × Nat)) (as : List nV) (μ : nMem) (ε : nEnv) (Q : nOut → nMem → nEnv → Prop) : Prop :=
  ∀ (G : nG), GOK G → ∀ (l : Launch), l.stackTraces = false → vx_Met l (mNm M) (nWsH M hh) (nRm M ε) (va_Pc (as.map (toV G)) (nWorld G μ ε)) (Qr G Q) (Qx G Q) (nCAP - eSz ε) (nSCAP - eSl ε) (nNew G)
abbrev wpH (M : nM) (hh : List (Nat × Nat × Nat × Nat)) (pc : Nat) (L : List (Nat × nV)) (st : List nV) (μ : nMem) (ε : nEnv) (Q : nOut → nMem → nEnv → Prop) : Prop :=
  wpF M pc L st μ ε (fun tb => tb = tableOf hh) (nFin Q)
theorem SpH_of {M : nM} {hh : List (Nat × Nat × Nat × Nat)} {as : List nV} {L : List (Nat × nV)} {μ : nMem} {ε : nEnv} {Q : nOut → nMem → nEnv → Prop} (hp : plainName (mNm M).cls = true) (hc : (mNm M).cls = mOwn M) (hL : nArgs 0 as = L) (hn : (as.map nCat).sum ≤ mMax M) (h : wpH M hh 0 L [] μ ε Q) : SpH M hh as μ ε Q := by
  subst hL
  intro G hG l hst
  refine vx_ofWH (hh := hh) (cc := mCode M) (maxL := mMax M) (ret := mRet M) hp rfl ?_
  intro p e s m args below meth c s₁ B hml hv
  have htab := vx_table (x := mNm M) B (atoms_spec (ws := nWsH M hh) B.pre _ List.mem_cons_self)
  obtain ⟨rfl, hR, hW⟩ := hv
  have hl := lv_entry (as.map (toV G)) (n := mMax M) (by rw [nSl_len]; exact hn)
  rw [lg_entry_eq]
  generalize (lg_sl (as.map (toV G)) ++ List.replicate (mMax M - (lg_sl (as.map (toV G))).length) Slot.unset).toArray = ls at hl ⊢
  rw [nArgs_v] at hl
  have hown : s.vm.findClass (mNm M).cls = some m.cls := findClass_of_methodNamed B.named
  have h9 := h G hG (eSz ε) (eSl ε) p l e (headSpec (nWsH M hh) (nRm M ε)).room s m (as.map (toV G)).toArray below meth c
    ⟨B.exec, hst, B.bytes, hml, B.returns, B.notSynchronized, by rw [← hc]; exact hown, fun h8 => (name_of_methodNamed B.named B.method).1.trans h8, hW, rfl, hR.1, hR.2.1⟩ htab s.heap [] ls hR hl va_S.rf (Nat.le_refl _) (Nat.le_refl _)
  rw [Nat.sub_self, Nat.sub_self] at h9
  exact h9
theorem wh_iret {M : nM} {hh : List (Nat × Nat × Nat × Nat)} {pc : Nat} {L : List (Nat × nV)} {μ : nMem} {ε : nEnv} {Q : nOut → nMem → nEnv → Prop} {x : Int} (hd : decode (mCode M) pc = .ok (.ireturn, 1)) (hr : mRet M = some .int) (h : Q (.inl (some (vI x))) μ ε) : wpH M hh pc L [vI x] μ ε Q := by
  intro G hG z0 n0 p l e R s m args below meth c hC htb H locs ls hR hl hS hz hn
  obtain ⟨hx, hst0, hb, hml, hret, hlk9, hown, hnm, hW, hRm, hs0, ht0⟩ := id hC
  have hc := hR.2.2.2.2.1
  refine W.widen (k := nCAP - z0) (n := nSCAP - n0) (by omega) (by omega) (vx_ret ?_)
  exact W.iret hx hb (hret.trans hr) (fun t ht _ => ⟨_, μ, ε, rfl, h, by rw [ht]; exact hR⟩) hS.2.2 hd hlk9
/-- the handlers ahead of the one that takes it: of other classes -/
def nPass (M : nM) (E : String) (pre : List ExceptionTableEntry) : Prop := ∀ z ∈ pre, z.catchType ≠ 0 ∧ ∃ nm : String, wOK (.classLink (mOwn M) z.catchType nm) ∧ nm ∈ nXs ∧ E ≠ nm
theorem wx_catch {M : nM} {hh : List (Nat × Nat × Nat × Nat)} {pc hp i ln : Nat} {L : List (Nat × nV)} {st : List nV} {μ : nMem} {ε : nEnv} {Q : nOut → nMem → nEnv → Prop} {E : String} (pre : List ExceptionTableEntry) (x : ExceptionTableEntry) (suf : List ExceptionTableEntry) (hsplit : tableOf hh = pre ++ x :: suf)
    (hpass : nPass M E pre) (hE : E ∈ nXs) (hcov : covers x pc = true) (h0 : x.catchType ≠ 0) (hlink : wOK (.classLink (mOwn M) x.catchType E)) (hcast : Cond.castable E E ∈ lw_tbl) (hpc : x.handlerPc = hp)
    (hd : (∃ j : Fin 4, (j : Nat) = i ∧ ln = 1 ∧ decode (mCode M) hp = .ok (.astore_n j, 1)) ∨ (ln = 2 ∧ decode (mCode M) hp = .ok (.astore i, 2))) (hi : i < mMax M) (k : wpH M hh (hp + ln) [] [] μ ε Q) : wxF M pc L st μ ε E (fun tb => tb = tableOf hh) (nFin Q) := by
  intro G hG z0 n0 p l e R s m args below meth c hC htb H locs ls hR hl hS hz hn ce q hce hcv hcl
  obtain ⟨hx, hst0, hb, hml, hret, hlk9, hown, hnm, hW, hRm, hs0, ht0⟩ := id hC
  refine vx_catch hown pre x suf (htb.trans hsplit) (fun z hz9 => ?_) hcov h0 (n_wd hG hC hlink args) (va_Nw.use rfl (va_Nw.warmC hW (va_Nw.of rfl (hG.2.2.2.1 _ hcast)))) hce hcv hcl ?_
  · obtain ⟨h1, nm, h2, h3, h4⟩ := hpass z hz9
    exact Or.inr ⟨h1, nm, n_wd hG hC h2 args, (hG.2.2.2.2.2.2.2 E hE nm h3 h4).moved hW.alike⟩
  · rw [hpc]
    have hk : ∀ ls' : Array Slot, lv_has ls' (mMax M) ((i, Value.ref q) :: (nLv G L).filter (fun q => !(q.1 == i) && !(q.1 + 1 == i && q.2.category == 2))) → W p l e R s m args below meth c H locs (eSz ε - z0) (eSl ε - n0) (nFin Q G z0 n0 below args s) (F0 m (hp + ln) ls' []) := fun ls' hl' =>
      k G hG z0 n0 p l e R s m args below meth c hC htb H locs ls' hR ⟨hl'.1, hl'.2.1, fun q hq => absurd hq List.not_mem_nil⟩ hS hz hn
    rcases hd with ⟨j, hj, rfl, hd⟩ | ⟨rfl, hd⟩
    · exact lv_astore_n hx hb hd hj hl hi rfl hk
    · exact lv_astore hx hb hd hl hi rfl hk
/-- a call of a wrapper, out of the law -/
def cxW (M : nM) (idx : Nat) (M' : nM) (hh : List (Nat × Nat × Nat × Nat)) (n : Nat) : Prop := wOK (.methodLink (mOwn M) idx (mNm M')) ∧ wOK (.static (mNm M')) ∧ wOK (.initialized (mNm M').cls) ∧ wOK (.codeWith (mNm M') (mCode M') (mMax M') (mRet M') hh) ∧ ((mNm M').cls ≠ "java/lang/invoke/MethodHandle" ∧ (mNm M').cls ≠ "java/lang/invoke/VarHandle") ∧ (parseMethodDescriptor (mNm M').desc).map (fun d => d.parameters.length) = some n
theorem wq_callW {M M' : nM} {hh : List (Nat × Nat × Nat × Nat)} {pc idx : Nat} {L : List (Nat × nV)} {rest as : List nV} {μ : nMem} {ε : nEnv} {tb : List ExceptionTableEntry → Prop} {Fn : nG → Nat → Nat → List Frame → Array Value → State → State → Prop} {Q' : nOut → nMem → nEnv → Prop}
    (hd : decode (mCode M) pc = .ok (.invokestatic idx, 3)) (hw : cxW M idx M' hh as.length) (hfr : mFr M' + 1 ≤ mFr M ∧ 8 + (mMax M' + 11) + mLo M' ≤ mLo M) (hst8 : (rest.map nCat).sum ≤ 8) (h : SpH M' hh as μ ε Q')
    (kr : ∀ (r : Option nV) (μ' : nMem) (ε' : nEnv), Q' (.inl r) μ' ε' → wpF M (pc + 3) L (r.toList ++ rest) μ' ε' tb Fn) (kx : ∀ (E : String) (μ' : nMem) (ε' : nEnv), ¬ Q' (.inr E) μ' ε') : wpF M pc L (as.reverse ++ rest) μ ε tb Fn := by
  intro G hG z0 n0 p l e R s m args below meth c hC htb H locs ls hR hl hS hz hn
  obtain ⟨hx, hst0, hb, hml, hret, hlk9, hown, hnm, hW, hRm, hs0, ht0⟩ := id hC
  obtain ⟨hlk, hsta, hini, hcod, hnmh, hpar⟩ := hw
  have hws : ∀ w ∈ nWsH M' hh, ∀ (a' : Array Value) (U : State), s.WarmedH U.vm → w.before a' U = true := by
    intro w h a' U hWU
    have e : w = .codeWith (mNm M') (mCode M') (mMax M') (mRet M') hh := List.mem_singleton.mp h
    rw [e]
    exact word_at (State.WarmedH.trans hW hWU) (good_of_word hcod.2) (hG.2.2.2.1 _ hcod.1)
  have hroom : eSz ε - z0 + (nCAP - eSz ε) ≤ R.cells ∧ eSl ε - n0 + (nSCAP - eSl ε) ≤ R.slots := by
    have := hR.2.2.2.2.1
    rw [hRm]
    exact ⟨by show _ ≤ nCAP - z0; omega, by show _ ≤ nSCAP - n0; omega⟩
  refine wq_core (rest := rest) kr (fun E μ' ε' h9 => absurd h9 (kx E μ' ε')) hG hC htb hR hl hS hz hn (vx_runSX (hh := hh) (As := as.map (toV G)) (Ts := []) (nL := mMax M) ⟨hx, hb, hml, hown, fun _ h => absurd h List.not_mem_nil⟩ (h G hG l hst0)
    (n := as.length) ⟨⟨rfl, rfl, by rw [hRm]; exact hfr.1, by rw [hRm]; exact hfr.2, hws, List.mem_singleton.mpr rfl⟩, n_wd hG hC hcod args, n_wd hG hC hini args, hnmh, fun sig h9 => by have h8 := hpar; rw [h9] at h8; exact (Option.some.inj h8).symm, n_wd hG hC hlk args, n_wd hG hC hsta args⟩ ⟨n_blind, fun U hU hWU => n_pre hR hW hU hWU⟩ rfl (by simp) hl.1 ?_ (lv_room (n_cat8 hst8)) hd hroom)
  show (as.reverse ++ rest).map (toV G) = _
  rw [List.map_append, List.map_reverse]
/-! THE CLAIM OUT OF ONE WALK OF THE LAW'S BODY. Your part is whole_start (and what it stands on); all else here is the same for every law, but numbers. -/
def R_law : String := "NodewashLaw"
def lw_P (b : Addr) (xs : List Int32) (args : Array Value) (s : State) : Prop := args = #[.ref b] ∧ s.IntsAt b xs ∧ xs.length ≤ 260 ∧ (Jvm.Cond.and given_1 narrow_1).before args s = true
def lw_Q (_ : Array Value) (s : State) (o : Outcome) (t : State) : Prop := o = .returned (some (.int 1)) ∧ Framed s o t [] 600086 7301442
def lw_Z (below : List Frame) (a : Array Value) (s : State) : State → Prop := fun t => ∃ o, t.status = .running ∧ Ended t below o ∧ lw_Q a s o t
/-- the law's own end, with 1 on the stack, nothing written that was there before, its room as the claim has it -/
theorem lw_ret {p : Program} {l : Launch} {e : Env} {s : State} {m : MethodId} {below : List Frame} {meth : Method} {c : Code} {b : Nat} (hx : p.tables.exec = Jvm.exec) (hb : c.code = code) (hr : meth.sig.returnType = ret) (hlocks : meth.locks = false) {pc : Nat} {H : Heap} {ls : Array Slot} (hdg : decode code pc = .ok (.ireturn, 1)) : W p l e room_1 s m #[Value.ref b] below meth c H [] 600086 7301442 (lw_Z below #[Value.ref b] s) (F0 m pc ls [.int 1]) := by
  intro T hT X
  obtain ⟨fs, hret, hrun, hended, hW, hframe⟩ := X.leave (v := some (.int 1)) (hlocks := hlocks) (fun h => by rw [hr] at h; cases h)
  have hmeth' : T.vm.method? m = some meth := X.method'
  refine ⟨T.setFrames fs, ?_, .returned (some (.int 1)), hrun, hended, rfl, ⟨_, rfl⟩, hW, hframe⟩
  jvm_step X.here [X.here.top, hx, hb, hdg, hmeth', hr, ret, narrow_b1]
  (try refine ⟨rfl, ?_⟩); (try refine ⟨rfl, ?_⟩)
  first | (intro acts; rw [hret _ acts rfl rfl rfl]) | rw [hret _ _ rfl rfl rfl]
  exact Steps.refl _
/-- what holds at the law's entry: the machine, the code, the tables' words (any of lw_tbl by 'hts w (by decide +kernel)'), the script of L ints xs at the cell b, what the Statement gives of the start (any of its parts by flat_of_before) -/
def lw_At (p : Program) (s : State) (m : MethodId) (meth : Method) (c : Code) (b L : Nat) (xs : Nat → Int32) : Prop :=
  p.tables.exec = Jvm.exec ∧ c.code = code ∧ meth.sig.returnType = ret ∧ c.maxLocals = 30 ∧ s.vm.findClass R_law = some m.cls ∧ (∀ w ∈ lw_tbl, w.before #[Value.ref b] s = true) ∧ va_X b L xs s s.heap ∧ b < s.heap.size ∧ meth.locks = false ∧ (Jvm.Cond.and given_1 narrow_1).before #[Value.ref b] s = true
abbrev mL_law : nM := (RL, cL_law, 30, some .boolean, 14, 544, yL_law)
abbrev wpL (pc : Nat) (L : List (Nat × nV)) (st : List nV) (μ : nMem) (ε : nEnv) (Q : nOut → nMem → nEnv → Prop) : Prop := wpF mL_law pc L st μ ε (fun _ => True) (nFin Q)
def Qlaw : nOut → nMem → nEnv → Prop := fun o _ _ => o = .inl (some (vI 1))
def ε0 (n : Int) : nEnv := (fun _ _ => 0, fun _ => 0, fun x => if x = -1 then n else 0, 0, 0)
theorem law_end {s : State} {below : List Frame} {args : Array Value} {G : nG} (hs : s.heap.size = gB G + 1) {t : State} (h : vx_MQ below (Qr G Qlaw) (Qx G Qlaw) args s 600086 7301442 (nNew G) t) : lw_Z below args s t := by
  obtain ⟨o, h1, h2, h3⟩ := h
  refine ⟨o, h1, h2, ?_⟩
  rcases h3 with ⟨⟨r, μ, ε, e1, e2, e3⟩, L, ⟨f1, f2, f3⟩, hL⟩ | ⟨q, e0, E, ce, L, ⟨μ, ε, e2, e3⟩, -⟩
  · have e4 : r = some (vI 1) := Sum.inl.inj e2
    subst e4
    refine ⟨e1, f1, f2, ?_⟩
    obtain ⟨a1, a2, a3, a4, a5, a6⟩ := f3
    refine ⟨a1, a2, a3, a4, a5, fun a c hc => ?_⟩
    obtain ⟨c', g1, g2, g3, g4⟩ := a6 a c hc
    refine ⟨c', g1, g2, g3, fun i _ => g4 i (fun hm => ?_)⟩
    have h9 : gB G < a := hL _ hm
    have h8 := (Array.getElem?_eq_some_iff.mp hc).1
    omega
  · exact absurd e2 (by intro h; cases h)
theorem nStrs_ok {s : State} {args : Array Value} (hts : ∀ w ∈ lw_tbl, w.before args s = true) (hn : (Jvm.Cond.and given_1 narrow_1).before args s = true) : ∀ q ∈ nStrs, ∃ sa, vk_R q.1 q.2.1 q.2.2 sa s := by
  have h1 : ∀ q ∈ nStrs, Cond.stringRef q.1 q.2.1 q.2.2 ∈ lw_tbl := by decide +kernel
  have h2 : ∀ q ∈ nStrs, Cond.exactly (.string q.1 q.2.1) "java/lang/String" ∈ flatC (Jvm.Cond.and given_1 narrow_1) := by decide +kernel
  intro q hq
  obtain ⟨a, c, cA, kA, q1, -⟩ := Cond.exactly_spec (args := args) (first := s) (o := none) (s := s) (idx := []) (flat_of_before _ hn _ (h2 q hq))
  exact ⟨a, vk_R.of (A := args) (hts _ (h1 q hq)) q1⟩
theorem nXs_ok {s : State} {args : Array Value} (hn : (Jvm.Cond.and given_1 narrow_1).before args s = true) : ∀ A ∈ nXs, ∀ B ∈ nXs, A ≠ B → va_Nc A B s := by
  have h2 : ∀ A ∈ nXs, ∀ B ∈ nXs, A ≠ B → Cond.not (.castable A B) ∈ flatC (Jvm.Cond.and given_1 narrow_1) := by decide +kernel
  intro A hA B hB hne
  exact va_Nc.of (flat_of_before _ hn _ (h2 A hA B hB hne))
set_option maxRecDepth 100000 in
theorem law_of {p : Program} {e : Env} {s : State} {m : MethodId} {below : List Frame} {meth : Method} {c : Code} (l : Launch) (hflags : l.flags = flags0) {b L : Nat} {xs : Nat → Int32} (hL : L ≤ 260) (C0 : lw_At p s m meth c b L xs)
    (hwp : ∀ (μ : nMem), (∀ j, inR (μ (-1) j)) → wpL 0 [(0, vR (-1))] [] μ (ε0 L) Qlaw) : W p l e room_1 s m #[Value.ref b] below meth c s.heap [] 0 0 (lw_Z below #[Value.ref b] s) (entryFrame m ([Value.ref b] : List Value).toArray 30) := by
  obtain ⟨hx, hb, hr, hml, hown, hts, hX, hbl, hlocks, hgv⟩ := C0
  obtain ⟨i0, K0⟩ := u_known (C := RX0) (T := TX0) (N := 7) (n := 7) hts (fun w h => (wC_0 w h).1) (hts (.instantiable RX0 7) (by decide +kernel))
  obtain ⟨i1, K1⟩ := u_known (C := RX1) (T := TX1) (N := 8) (n := 8) hts (fun w h => (wC_1 w h).1) (hts (.instantiable RX1 8) (by decide +kernel))
  obtain ⟨i2, K2⟩ := u_known (C := RX2) (T := TX2) (N := 5) (n := 5) hts (fun w h => (wC_2 w h).1) (hts (.instantiable RX2 5) (by decide +kernel))
  obtain ⟨i3, K3⟩ := u_known (C := RX3) (T := TX3) (N := 10) (n := 10) hts (fun w h => (wC_3 w h).1) (hts (.instantiable RX3 10) (by decide +kernel))
  obtain ⟨i4, K4⟩ := u_known (C := RX4) (T := TX4) (N := 14) (n := 14) hts (fun w h => (wC_4 w h).1) (hts (.instantiable RX4 14) (by decide +kernel))
  obtain ⟨i5, K5⟩ := u_known (C := RX5) (T := TX5) (N := 4) (n := 4) hts (fun w h => (wC_5 w h).1) (hts (.instantiable RX5 4) (by decide +kernel))
  obtain ⟨i6, K6⟩ := u_known (C := RX6) (T := TX6) (N := 5) (n := 5) hts (fun w h => (wC_6 w h).1) (hts (.instantiable RX6 5) (by decide +kernel))
  obtain ⟨j0, K0⟩ := K0; obtain ⟨j1, K1⟩ := K1; obtain ⟨j2, K2⟩ := K2; obtain ⟨j3, K3⟩ := K3; obtain ⟨j4, K4⟩ := K4; obtain ⟨j5, K5⟩ := K5; obtain ⟨j6, K6⟩ := K6
  have hK : va_K ((fun k => match k with | 0 => i0 | 1 => i1 | 2 => i2 | 3 => i3 | 4 => i4 | 5 => i5 | _ => i6), (fun k => match k with | 0 => j0 | 1 => j1 | 2 => j2 | 3 => j3 | 4 => j4 | 5 => j5 | _ => j6)) vwCl [] s := by
    refine ⟨fun k q hq => ?_, fun k q h => by simp at h⟩
    match k, hq with
    | 0, hq => cases hq; exact K0
    | 1, hq => cases hq; exact K1
    | 2, hq => cases hq; exact K2
    | 3, hq => cases hq; exact K3
    | 4, hq => cases hq; exact K4
    | 5, hq => cases hq; exact K5
    | 6, hq => cases hq; exact K6
    | k + 7, hq => simp at hq
  generalize hD : (((fun k => match k with | 0 => i0 | 1 => i1 | 2 => i2 | 3 => i3 | 4 => i4 | 5 => i5 | _ => i6), (fun k => match k with | 0 => j0 | 1 => j1 | 2 => j2 | 3 => j3 | 4 => j4 | 5 => j5 | _ => j6)) : va_G) = D at hK
  have hsz : s.heap.size - 1 + 1 = s.heap.size := by omega
  obtain ⟨G, hGe⟩ : ∃ G : nG, G = (s.heap.size - 1, b, D, s, #[Value.ref b], tot s.heap) := ⟨_, rfl⟩
  have g1 : gB G = s.heap.size - 1 := by rw [hGe]; rfl
  have g2 : gb G = b := by rw [hGe]; rfl
  have g3 : gD G = D := by rw [hGe]; rfl
  have g4 : gS G = s := by rw [hGe]; rfl
  have g5 : gA G = #[Value.ref b] := by rw [hGe]; rfl
  have g6 : gT G = tot s.heap := by rw [hGe]; rfl
  have hnn : ∀ a : Nat, a < s.heap.size → ¬ nNew G a := fun a h1 h2 => by
    have : gB G < a := h2
    omega
  have hG : GOK G := by
    refine ⟨by rw [g4, g1]; omega, by rw [g4, g6], by rw [g3, g4]; exact hK, by rw [g4, g5]; exact hts, ?_, ?_, ?_, ?_⟩
    · rw [g4]; exact vx_Zqof (hts _ (by decide +kernel)) (hts _ (by decide +kernel)) (flat_of_before _ hgv _ (by decide +kernel)) hnn
    · rw [g4]; exact vx_Zqof (hts _ (by decide +kernel)) (hts _ (by decide +kernel)) (flat_of_before _ hgv _ (by decide +kernel)) hnn
    · rw [g4]; exact nStrs_ok hts hgv
    · rw [g4]; exact nXs_ok hgv
  obtain ⟨μ, hμ⟩ : ∃ μ : nMem, μ = fun x j => if x = -1 ∧ 0 ≤ j then (xs j.toNat).toInt else 0 := ⟨_, rfl⟩
  have hin : ∀ j, inR (μ (-1) j) := by
    intro j
    rw [hμ]
    show inR (if (-1 : Int) = -1 ∧ 0 ≤ j then (xs j.toNat).toInt else 0)
    have h1 := (xs j.toNat).le_toInt
    have h2 := (xs j.toNat).toInt_lt
    unfold inR
    split <;> omega
  have hR : Rep G μ (ε0 L) s.heap := by
    refine ⟨by show s.heap.size = gB G + 1 + 0; omega, by rw [g6]; rfl, fun x hx => absurd rfl hx, fun q hq => by rw [g4], ⟨Nat.zero_le _, Nat.zero_le _⟩, ?_, by rw [g2, g1]; omega, ?_, ?_⟩
    · have e1 : eLen (ε0 L) (-1) = (L : Int) := rfl
      have e2 : (fun j : Nat => Int32.ofInt (μ (-1) j)) = xs := by
        funext j
        rw [hμ]
        show Int32.ofInt (if (-1 : Int) = -1 ∧ 0 ≤ (j : Int) then (xs (j : Int).toNat).toInt else 0) = xs j
        rw [if_pos ⟨rfl, by omega⟩, Int.toNat_natCast, Int32.ofInt_toInt]
      rw [g2, g4, e1, e2, Int.toNat_natCast]
      exact hX
    · show (0 : Int) ≤ (L : Int); omega
    · show (L : Int) < 2147483648; omega
  have hst : l.stackTraces = false := by unfold Launch.stackTraces; rw [hflags]; decide
  have hl := lv_entry ([.ref b]) (n := 30) (Nat.le_of_ble_eq_true rfl)
  rw [lg_entry_eq]
  generalize (lg_sl ([.ref b]) ++ List.replicate (30 - (lg_sl ([.ref b])).length) Slot.unset).toArray = ls at hl ⊢
  have hl : lv_has ls 30 (nLv G [(0, vR (-1))]) := by
    rw [show nLv G [(0, vR (-1))] = [(0, va_rf (nRf G (-1)))] from rfl, toV_scr, g2]
    exact hl
  have h := hwp μ hin G hG 0 0 p l e room_1 s m #[Value.ref b] below meth c ⟨hx, hst, hb, hml, hr, hlocks, hown, (fun h => absurd h (by decide)), by rw [g4]; exact State.WarmedH.refl s, rfl, by rw [g1]; omega, by rw [g6]; rfl⟩ trivial s.heap [] ls hR hl va_S.rf (Nat.le_refl _) (Nat.le_refl _)
  intro T hT X
  obtain ⟨t, a1, b1⟩ := h T hT X
  exact ⟨t, a1, law_end (G := G) (by rw [g1]; omega) b1⟩
theorem wl_zret {pc : Nat} {L : List (Nat × nV)} {μ : nMem} {ε : nEnv} {Q : nOut → nMem → nEnv → Prop} {x : Int} (hd : decode (mCode mL_law) pc = .ok (.ireturn, 1)) (hv : x = 0 ∨ x = 1) (h : Q (.inl (some (vI x))) μ ε) : wpL pc L [vI x] μ ε Q := by
  intro G hG z0 n0 p l e R s m args below meth c hC htb H locs ls hR hl hS hz hn
  obtain ⟨hx, hst0, hb, hml, hret, hlk9, hown, hnm, hW, hRm, hs0, ht0⟩ := id hC
  have hc := hR.2.2.2.2.1
  refine W.widen (k := nCAP - z0) (n := nSCAP - n0) (by omega) (by omega) (vx_ret ?_)
  exact W.zret hx hb (hret.trans rfl) (putOK_Z hv G).1 (fun t ht _ => ⟨_, μ, ε, rfl, h, by rw [ht]; exact hR⟩) hS.2.2 hd hlk9
