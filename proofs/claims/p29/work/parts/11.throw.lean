theorem tot_grow {s t : State} {locs : List Loc} {k n : Nat} (h : s.sameButNew t locs k n) : tot s.heap ≤ tot t.heap ∧ tot t.heap ≤ tot s.heap + n := by
  obtain ⟨a1, a2, a3, a4, a5, a6⟩ := h
  have ht : (t.heap.toList.take s.heap.size).map (fun c => c.slots.size) = s.heap.toList.map (fun c => c.slots.size) := by
    apply List.ext_getElem?
    intro q
    rw [List.getElem?_map, List.getElem?_map, List.getElem?_take, Array.getElem?_toList, Array.getElem?_toList]
    by_cases hq : q < s.heap.size
    · rw [if_pos hq]
      obtain ⟨c', e1, e2, e3, e4⟩ := a6 q _ (Array.getElem?_eq_getElem hq)
      rw [e1, Array.getElem?_eq_getElem hq]
      simp [e3]
    · rw [if_neg hq, Array.getElem?_eq_none (by omega)]
  have hs : tot t.heap = tot s.heap + ((t.heap.toList.drop s.heap.size).map (fun c => c.slots.size)).sum := by
    unfold tot
    conv => lhs; rw [← List.take_append_drop s.heap.size t.heap.toList]
    rw [List.map_append, List.sum_append, ht]
  omega
/-- an exception more, of which nothing is known but its room -/
def thr (ε ε' : nEnv) : Prop := ε'.1 = ε.1 ∧ ε'.2.1 = ε.2.1 ∧ ε'.2.2.1 = ε.2.2.1 ∧ eSz ε ≤ eSz ε' ∧ eSz ε' ≤ eSz ε + 1 ∧ eSl ε ≤ eSl ε' ∧ eSl ε' ≤ eSl ε + 6
theorem Rep_thr {G : nG} {μ : nMem} {ε : nEnv} {s t : State} (hR : Rep G μ ε s.heap) (h : s.sameButNew ({ t with vm := s.vm } : State) [] (0 + 1) (0 + 6)) (h1 : eSz ε + 1 ≤ nCAP) (h2 : eSl ε + 6 ≤ nSCAP) : ∃ ε', thr ε ε' ∧ Rep G μ ε' t.heap := by
  obtain ⟨f1, f2⟩ := vx_frame h
  obtain ⟨g1, g2⟩ := tot_grow h
  have f3 : t.heap.size ≤ s.heap.size + 1 := h.2.2.1
  have g1 : tot s.heap ≤ tot t.heap := g1
  have g2 : tot t.heap ≤ tot s.heap + 6 := g2
  obtain ⟨r1, r2, r3, r4, r5, r6⟩ := hR
  refine ⟨(ε.1, ε.2.1, ε.2.2.1, t.heap.size - (gB G + 1), tot t.heap - gT G), ⟨rfl, rfl, rfl, ?_, ?_, ?_, ?_⟩, ?_, ?_, fun y hy => ?_, fun q hq => ?_, ⟨?_, ?_⟩, r6⟩
  · show eSz ε ≤ t.heap.size - (gB G + 1); omega
  · show t.heap.size - (gB G + 1) ≤ eSz ε + 1; omega
  · show eSl ε ≤ tot t.heap - gT G; omega
  · show tot t.heap - gT G ≤ eSl ε + 6; omega
  · show t.heap.size = gB G + 1 + (t.heap.size - (gB G + 1)); omega
  · show tot t.heap = gT G + (tot t.heap - gT G); omega
  · obtain ⟨y1, y2, h3⟩ := r3 y hy
    refine ⟨y1, ?_, nAt_kept h3 rfl rfl (fun _ => rfl) (fun _ => rfl) (f2 _ (by unfold nAd; omega) (fun z hz => nomatch hz))⟩
    show y ≤ ((t.heap.size - (gB G + 1) : Nat) : Int)
    omega
  · rw [f2 q (by omega) (fun z hz => nomatch hz)]; exact r4 q hq
  · show t.heap.size - (gB G + 1) ≤ nCAP; omega
  · show tot t.heap - gT G ≤ nSCAP; omega
def nCast : Cond → Bool
  | .castable _ _ => true
  | .declares _ => true
  | _ => false
theorem nCast_eq {w : Cond} (h : nCast w = true) : (∃ C T, w = .castable C T) ∨ ∃ x, w = .declares x := by
  cases w <;> first | exact Or.inl ⟨_, _, rfl⟩ | exact Or.inr ⟨_, rfl⟩ | cases h
def nXn : List String := ["java/lang/RuntimeException", "java/lang/Exception"]
/-- what the tables say of a class whose objects are thrown by Nodewash -/
def thOK (ic ik : Nat) (cls : String) : Prop := (∀ w ∈ Cond.classLink RX6 ik cls :: Cond.initialized cls :: vx_atS RX6 ic cls nXn, w ∈ lw_tbl ∧ (goodWord w = true ∨ nCast w = true)) ∧ Bundle.fit cls = true
theorem n_wd2 {G : nG} {M : nM} {z0 n0 : Nat} {p : Program} {l : Launch} {R : Room} {s : State} {m : MethodId} {meth : Method} {c : Code} (hG : GOK G) (hC : nCx G M z0 n0 p l R s m meth c) {w : Cond} (hw : w ∈ lw_tbl ∧ (goodWord w = true ∨ nCast w = true)) (a : Array Value) : w.before a s = true := by
  rcases hw with ⟨h1, h2 | h2⟩
  · exact n_wd hG hC ⟨h1, h2⟩ a
  · obtain ⟨-, -, -, -, -, -, -, -, hW, -⟩ := hC
    rcases nCast_eq h2 with ⟨C, T, rfl⟩ | ⟨x, rfl⟩
    · exact va_Nw.use rfl (va_Nw.warmC hW (va_Nw.of rfl (hG.2.2.2.1 _ h1)))
    · exact va_Nw.use rfl (va_Nw.warmD hW (va_Nw.of rfl (hG.2.2.2.1 _ h1)))
theorem n_ot {w : Cond} (h : goodWord w = true ∨ nCast w = true) : vx_ot w = true := by
  unfold vx_ot
  rcases h with h | h
  · rw [h]; simp
  · rcases nCast_eq h with ⟨C, T, rfl⟩ | ⟨x, rfl⟩ <;> rfl
theorem wq_throw {M : nM} {pc : Nat} {L : List (Nat × nV)} {st : List nV} {μ : nMem} {ε : nEnv} {Q : nOut → nMem → nEnv → Prop} {cls text : String} {ik is ic : Nat} (d0 : decode (mCode M) pc = .ok (.new ik, 3)) (d3 : decode (mCode M) (pc + 3) = .ok (.dup, 1)) (d4 : decode (mCode M) (pc + 4) = .ok (.ldc is, 2)) (d6 : decode (mCode M) (pc + 6) = .ok (.invokespecial ic, 3)) (d9 : decode (mCode M) (pc + 9) = .ok (.athrow, 1))
    (ho : mOwn M = RX6) (hw : thOK ic ik cls) (hstr : (RX6, is, text) ∈ nStrs) (hfr : 6 ≤ mFr M) (hlo : 90 ≤ mLo M) (hst8 : (st.map nCat).sum ≤ 8) (hroom : eSz ε + 1 ≤ nCAP ∧ eSl ε + 6 ≤ nSCAP) (h : ∀ ε', thr ε ε' → Q (.inr cls) μ ε') : wp M pc L st μ ε Q := by
  intro G hG z0 n0 p l e R s m args below meth c hC htb H locs ls hR hl hS hz hn
  obtain ⟨hx, hst0, hb, hml, hret, hlk9, hown, hnm, hW, hRm, hs0, ht0⟩ := id hC
  obtain ⟨sa, hsa⟩ := hG.2.2.2.2.2.2.1 _ hstr
  have hcc := hR.2.2.2.2.1
  have hcat := n_cat8 (G := G) hst8
  rw [ho] at hown
  have hkeep : ∀ q : Nat, q < (gS G).heap.size → ¬ nNew G q → s.heap[q]? = (gS G).heap[q]? := fun q h1 h2 => by
    have hq : q ≤ gB G := Nat.not_lt.mp h2
    rw [← hR.2.2.2.1 q hq]
    exact (hS.2.1 q (by rw [hs0]; omega) h2).symm
  refine vt_throwS (cc := mCode M) (own := RX6) (cls := cls) (text := text) (names := nXn) (ik := ik) (is := is) (ic := ic) (sa := sa) (A := nNew G) hx hb hst0 hown hw.2 (by decide +kernel) (n_wd2 hG hC (hw.1 _ List.mem_cons_self) args) (n_wd2 hG hC (hw.1 _ (List.mem_cons_of_mem _ List.mem_cons_self)) args) (vk_R.warm hW hsa)
    (fun w h9 => n_wd2 hG hC (hw.1 w (List.mem_cons_of_mem _ (List.mem_cons_of_mem _ h9))) args) (fun w h9 => n_ot (hw.1 w h9).2) (vx_Zq.moved hW.alike (hG.2.2.2.2.1.kept hkeep)) (vx_Zq.moved hW.alike (hG.2.2.2.2.2.1.kept hkeep)) hS (by rw [hml]; exact hl.1)
    d0 d3 d4 d6 d9 (fun x hx9 => (htb x hx9).elim) (by rw [hRm]; show 2 + 3 < mFr M; omega) (by rw [hRm]; show _ + (13 * (2 + 1) + 43) ≤ mLo M; omega) (by rw [hRm]; show eSz ε - z0 + 1 ≤ nCAP - z0; omega) (by rw [hRm]; show eSl ε - n0 + 6 ≤ nSCAP - n0; omega) hlk9 (fun t s' _ hs' hsame => ?_) hS.2.2 (by omega) (by omega)
  obtain ⟨ε', h1, h2⟩ := Rep_thr (s := s') (by rw [hs']; exact hR) hsame hroom.1 hroom.2
  exact ⟨μ, ε', h ε' h1, h2⟩
theorem wq_throwW {M : nM} {pc : Nat} {L : List (Nat × nV)} {st : List nV} {μ : nMem} {ε : nEnv} {Q : nOut → nMem → nEnv → Prop} {cls text : String} {ik is ic : Nat} (d0 : decode (mCode M) pc = .ok (.new ik, 3)) (d3 : decode (mCode M) (pc + 3) = .ok (.dup, 1)) (d4 : decode (mCode M) (pc + 4) = .ok (.ldc_w is, 3)) (d6 : decode (mCode M) (pc + 7) = .ok (.invokespecial ic, 3)) (d9 : decode (mCode M) (pc + 10) = .ok (.athrow, 1))
    (ho : mOwn M = RX6) (hw : thOK ic ik cls) (hstr : (RX6, is, text) ∈ nStrs) (hfr : 6 ≤ mFr M) (hlo : 90 ≤ mLo M) (hst8 : (st.map nCat).sum ≤ 8) (hroom : eSz ε + 1 ≤ nCAP ∧ eSl ε + 6 ≤ nSCAP) (h : ∀ ε', thr ε ε' → Q (.inr cls) μ ε') : wp M pc L st μ ε Q := by
  intro G hG z0 n0 p l e R s m args below meth c hC htb H locs ls hR hl hS hz hn
  obtain ⟨hx, hst0, hb, hml, hret, hlk9, hown, hnm, hW, hRm, hs0, ht0⟩ := id hC
  obtain ⟨sa, hsa⟩ := hG.2.2.2.2.2.2.1 _ hstr
  have hcc := hR.2.2.2.2.1
  have hcat := n_cat8 (G := G) hst8
  rw [ho] at hown
  have hkeep : ∀ q : Nat, q < (gS G).heap.size → ¬ nNew G q → s.heap[q]? = (gS G).heap[q]? := fun q h1 h2 => by
    have hq : q ≤ gB G := Nat.not_lt.mp h2
    rw [← hR.2.2.2.1 q hq]
    exact (hS.2.1 q (by rw [hs0]; omega) h2).symm
  refine vt_throwSW (cc := mCode M) (own := RX6) (cls := cls) (text := text) (names := nXn) (ik := ik) (is := is) (ic := ic) (sa := sa) (A := nNew G) hx hb hst0 hown hw.2 (by decide +kernel) (n_wd2 hG hC (hw.1 _ List.mem_cons_self) args) (n_wd2 hG hC (hw.1 _ (List.mem_cons_of_mem _ List.mem_cons_self)) args) (vk_R.warm hW hsa)
    (fun w h9 => n_wd2 hG hC (hw.1 w (List.mem_cons_of_mem _ (List.mem_cons_of_mem _ h9))) args) (fun w h9 => n_ot (hw.1 w h9).2) (vx_Zq.moved hW.alike (hG.2.2.2.2.1.kept hkeep)) (vx_Zq.moved hW.alike (hG.2.2.2.2.2.1.kept hkeep)) hS (by rw [hml]; exact hl.1)
    d0 d3 d4 d6 d9 (fun x hx9 => (htb x hx9).elim) (by rw [hRm]; show 2 + 3 < mFr M; omega) (by rw [hRm]; show _ + (13 * (2 + 1) + 43) ≤ mLo M; omega) (by rw [hRm]; show eSz ε - z0 + 1 ≤ nCAP - z0; omega) (by rw [hRm]; show eSl ε - n0 + 6 ≤ nSCAP - n0; omega) hlk9 (fun t s' _ hs' hsame => ?_) hS.2.2 (by omega) (by omega)
  obtain ⟨ε', h1, h2⟩ := Rep_thr (s := s') (by rw [hs']; exact hR) hsame hroom.1 hroom.2
  exact ⟨μ, ε', h ε' h1, h2⟩
set_option maxRecDepth 100000 in
theorem th_X : thOK 206 202 "java/lang/IndexOutOfBoundsException" := ⟨by decide +kernel, by decide +kernel⟩
set_option maxRecDepth 100000 in
theorem th_S : thOK 110 106 "java/lang/IllegalStateException" := ⟨by decide +kernel, by decide +kernel⟩
set_option maxRecDepth 100000 in
theorem th_A : thOK 135 131 "java/lang/IllegalArgumentException" := ⟨by decide +kernel, by decide +kernel⟩
