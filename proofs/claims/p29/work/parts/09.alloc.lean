def zr (μ : nMem) (x : Int) : nMem := fun a j => if a = x then 0 else μ a j
def alF (ε : nEnv) (kd : Nat) (ln : Int) (n : Nat) : nEnv := (fun a j => if a = (eSz ε : Int) + 1 then 0 else ε.1 a j, fun a => if a = (eSz ε : Int) + 1 then kd else ε.2.1 a, fun a => if a = (eSz ε : Int) + 1 then ln else ε.2.2.1 a, eSz ε + 1, eSl ε + n)
theorem Rep_new {G : nG} {μ : nMem} {ε : nEnv} {H : Heap} {kd n : Nat} {ln : Int} {c : Cell} (hR : Rep G μ ε H) (hn : c.slots.size = n) (h1 : eSz ε + 1 ≤ nCAP) (h2 : eSl ε + n ≤ nSCAP) (hat : nAt G (zr μ (eSz ε + 1)) (alF ε kd ln n) (eSz ε + 1) (H.push c)) : Rep G (zr μ (eSz ε + 1)) (alF ε kd ln n) (H.push c) := by
  obtain ⟨r1, r2, r3, r4, r5, r6⟩ := hR
  refine ⟨?_, ?_, fun y hy => ?_, fun q hq => ?_, ⟨h1, h2⟩, ?_⟩
  · rw [Array.size_push, r1]; rfl
  · rw [tot_push, r2, hn]
    show _ = gT G + (eSl ε + n)
    omega
  · by_cases e : y = (eSz ε : Int) + 1
    · subst e
      refine ⟨by omega, ?_, hat⟩
      show _ ≤ ((eSz ε + 1 : Nat) : Int)
      omega
    · have hk : eKind (alF ε kd ln n) y = eKind ε y := if_neg e
      rw [hk] at hy
      obtain ⟨y1, y2, h3⟩ := r3 y hy
      refine ⟨y1, ?_, nAt_kept h3 hk (if_neg e) (fun j => if_neg e) (fun j => if_neg e) ?_⟩
      · show _ ≤ ((eSz ε + 1 : Nat) : Int)
        omega
      · rw [Array.getElem?_push, if_neg (by unfold nAd; omega)]
  · rw [Array.getElem?_push, if_neg (by omega)]
    exact r4 q hq
  · have e1 : eLen (alF ε kd ln n) (-1) = eLen ε (-1) := by
      show (if (-1 : Int) = (eSz ε : Int) + 1 then ln else eLen ε (-1)) = _
      exact if_neg (by omega)
    have e : (fun j : Nat => Int32.ofInt (zr μ (eSz ε + 1) (-1) j)) = (fun j : Nat => Int32.ofInt (μ (-1) j)) := by
      funext j
      rw [show zr μ (eSz ε + 1) (-1) j = μ (-1) j from if_neg (by omega)]
    rw [e1, e]
    exact r6
theorem nAd_new {G : nG} {μ : nMem} {ε : nEnv} {H : Heap} (hR : Rep G μ ε H) : nAd G ((eSz ε : Int) + 1) = H.size := by
  rw [hR.1]; unfold nAd; omega
theorem va_S_push {A : Nat → Prop} {H0 H : Heap} {locs : List Loc} (h : va_S A H0 H locs) (c : Cell) : va_S A H0 (H.push c) locs := by
  refine ⟨by rw [Array.size_push]; have := h.1; omega, fun q h1 h2 => ?_, h.2.2⟩
  rw [Array.getElem?_push, if_neg (by have := h.1; omega)]
  exact h.2.1 q h1 h2
theorem wq_new {M : nM} {pc : Nat} {L : List (Nat × nV)} {st : List nV} {μ : nMem} {ε : nEnv} {tb : List ExceptionTableEntry → Prop} {Fn : nG → Nat → Nat → List Frame → Array Value → State → State → Prop} {idx ci : Nat} (hd : decode (mCode M) pc = .ok (.new idx, 3)) (hci : ci < 7) (hcl : vwCl[ci]? = some (cTab ci)) (hlk : wOK (.classLink (mOwn M) idx (cTab ci).1)) (hins : wOK (.instantiable (cTab ci).1 (cTab ci).2.2)) (hini : wOK (.initialized (cTab ci).1)) (hroom : eSz ε + 1 ≤ nCAP ∧ eSl ε + (cTab ci).2.2 ≤ nSCAP)
    (k9 : wpF M (pc + 3) L (vR (eSz ε + 1) :: st) (zr μ (eSz ε + 1)) (alF ε (ci + 1) 0 (cTab ci).2.2) tb Fn) : wpF M pc L st μ ε tb Fn := by
  intro G hG z0 n0 p l e R s m args below meth c hC htb H locs ls hR hl hS hz hn
  obtain ⟨hx, hst0, hb, hml, hret, hlk9, hown, hnm, hW, hRm, hs0, ht0⟩ := id hC
  have hKu := u_Kn_moved hW.alike (hG.2.2.1.1 ci _ hcl)
  have hts : ∀ w ∈ u_ws (cTab ci).1 (cTab ci).2.1 (cTab ci).2.2, w.before args s = true := fun w hw => n_wd hG hC (wC_all ci hci w hw) args
  refine W.newc hx hb hown (n_wd hG hC hlk args) (n_wd hG hC hins args) (n_wd hG hC hini args) rfl hd (by rw [hRm]; show eSz ε - z0 + 1 ≤ nCAP - z0; omega) (by rw [hRm]; show eSl ε - n0 + (cTab ci).2.2 ≤ nSCAP - n0; omega) fun cC kC h1 h2 h3 h4 => ?_
  have ec : cC = (gD G).1 ci := Option.some.inj (h1.symm.trans hKu.2.1)
  subst ec
  have hsz : ({ cls := (gD G).1 ci, slots := kC.instanceTypes.map defaultValue, vm := .none } : Cell).slots.size = (cTab ci).2.2 := by
    show (kC.instanceTypes.map defaultValue).size = _
    rw [Array.size_map]; exact h4
  have hcell : (H.push ({ cls := (gD G).1 ci, slots := kC.instanceTypes.map defaultValue, vm := .none } : Cell))[nAd G ((eSz ε : Int) + 1)]? = some (blank ((gD G).1 ci) kC) := by
    rw [nAd_new hR, Array.getElem?_push_size]; rfl
  have hR' := Rep_new (kd := ci + 1) (ln := 0) hR hsz hroom.1 hroom.2 (by
    refine ⟨fun c2 hc2 h8 => ?_, fun kd hkd h8 => ?_⟩
    · have e4 : c2 = ci := by
        have : eKind (alF ε (ci + 1) 0 (cTab ci).2.2) ((eSz ε : Int) + 1) = ci + 1 := if_pos rfl
        omega
      subst e4
      refine ⟨_, hcl, (u_born (cTy c2) hts (fun _ h => h) hKu h2 hcell (cTy_ok c2 hci)).to fun k hk => ?_⟩
      rw [fTy_ok c2 hci k hk G]
      unfold fval
      have e1 : eFin (alF ε (c2 + 1) 0 (cTab c2).2.2) ((eSz ε : Int) + 1) k = 0 := if_pos rfl
      have e2 : zr μ (eSz ε + 1) ((eSz ε : Int) + 1) k = 0 := if_pos rfl
      rw [e1, e2, ite_self]
    · have : eKind (alF ε (ci + 1) 0 (cTab ci).2.2) ((eSz ε : Int) + 1) = ci + 1 := if_pos rfl
      omega)
  have h := k9 G hG z0 n0 p l e R s m args below meth c hC htb _ locs ls hR' hl (va_S_push hS _) (by show z0 ≤ eSz ε + 1; omega) (by show n0 ≤ eSl ε + _; omega)
  have e1 : eSz (alF ε (ci + 1) 0 (cTab ci).2.2) - z0 = eSz ε - z0 + 1 := by show eSz ε + 1 - z0 = _; omega
  have e2 : eSl (alF ε (ci + 1) 0 (cTab ci).2.2) - n0 = eSl ε - n0 + (cTab ci).2.2 := by show eSl ε + _ - n0 = _; omega
  rw [e1, e2] at h
  rw [show Value.ref H.size = toV G (vR ((eSz ε : Int) + 1)) by rw [← nAd_new hR]; exact (toV_ref (by omega)).symm]
  exact h
theorem wq_newI {M : nM} {pc : Nat} {L : List (Nat × nV)} {st : List nV} {μ : nMem} {ε : nEnv} {tb : List ExceptionTableEntry → Prop} {Fn : nG → Nat → Nat → List Frame → Array Value → State → State → Prop} {n : Int} (hd : decode (mCode M) pc = .ok (.newarray .int, 2)) (hw : wOK (.arrayClass .int)) (h0 : 0 ≤ n) (h1 : n ≤ 20000) (hroom : eSz ε + 1 ≤ nCAP ∧ eSl ε + n.toNat ≤ nSCAP)
    (k9 : wpF M (pc + 2) L (vR (eSz ε + 1) :: st) (zr μ (eSz ε + 1)) (alF ε 11 n n.toNat) tb Fn) : wpF M pc L (vI n :: st) μ ε tb Fn := by
  intro G hG z0 n0 p l e R s m args below meth c hC htb H locs ls hR hl hS hz hn
  obtain ⟨hx, hst0, hb, hml, hret, hlk9, hown, hnm, hW, hRm, hs0, ht0⟩ := id hC
  have hcl : (Int32.ofInt n).toNatClampNeg = n.toNat := n_clamp h0 (by omega)
  have hneg : ¬ Int32.ofInt n < 0 := by rw [n_0, n_lt (by unfold inR; omega) n_in0]; omega
  have hby : (Int32.ofInt n).toNatClampNeg * componentBytes (newarray.typeOf .int) ≤ 536870912 := by
    have h9 : componentBytes (newarray.typeOf .int) ≤ 8 := by decide
    have h8 : n.toNat ≤ 20000 := by omega
    rw [hcl]
    exact Nat.le_trans (Nat.mul_le_mul h8 h9) (Nat.le_of_ble_eq_true rfl)
  refine W.newa (atype := .int) hx hb (n_wd hG hC hw args) rfl hd rfl hneg hby (by rw [hRm]; show eSz ε - z0 + 1 ≤ nCAP - z0; omega) (by rw [hRm, hcl]; show eSl ε - n0 + n.toNat ≤ nSCAP - n0; omega) fun cA kA comp f1 f2 f3 => ?_
  have hAr : ArrOfT (gS G) cA .int := arrOfT_moved hW.alike.symm (fun N z => ⟨(fun k h => by cases h), kA, f2, comp, f3⟩ : ArrOfT s cA .int)
  have hRA : va_RA (gS G) cA .int := va_RA.moved hW.alike.symm (show va_RA s cA .int from f1)
  rw [hcl]
  have hsz : ({ cls := cA, slots := Array.replicate n.toNat (.int 0), vm := .none } : Cell).slots.size = n.toNat := Array.size_replicate
  have hR' := Rep_new (kd := 11) (ln := n) hR hsz hroom.1 hroom.2 (by
    refine ⟨fun c2 hc2 h8 => ?_, fun kd hkd h8 => ?_⟩
    · have : eKind (alF ε 11 n n.toNat) ((eSz ε : Int) + 1) = 11 := if_pos rfl
      omega
    · have e4 : kd = 11 := by
        have : eKind (alF ε 11 n n.toNat) ((eSz ε : Int) + 1) = 11 := if_pos rfl
        omega
      subst e4
      have e5 : eLen (alF ε 11 n n.toNat) ((eSz ε : Int) + 1) = n := if_pos rfl
      refine ⟨⟨cA, ?_, hAr, hRA⟩, by rw [e5]; exact h0, by rw [e5]; omega⟩
      rw [nAd_new hR, Array.getElem?_push_size, arrV_new, e5]
      congr 2
      funext j
      have e6 : zr μ (eSz ε + 1) ((eSz ε : Int) + 1) j = 0 := if_pos rfl
      rw [e6]; rfl)
  have h := k9 G hG z0 n0 p l e R s m args below meth c hC htb _ locs ls hR' hl (va_S_push hS _) (by show z0 ≤ eSz ε + 1; omega) (by show n0 ≤ eSl ε + _; omega)
  have e1 : eSz (alF ε 11 n n.toNat) - z0 = eSz ε - z0 + 1 := by show eSz ε + 1 - z0 = _; omega
  have e2 : eSl (alF ε 11 n n.toNat) - n0 = eSl ε - n0 + n.toNat := by show eSl ε + _ - n0 = _; omega
  rw [e1, e2] at h
  rw [show Value.ref H.size = toV G (vR ((eSz ε : Int) + 1)) by rw [← nAd_new hR]; exact (toV_ref (by omega)).symm]
  exact h
theorem wq_newJ {M : nM} {pc : Nat} {L : List (Nat × nV)} {st : List nV} {μ : nMem} {ε : nEnv} {tb : List ExceptionTableEntry → Prop} {Fn : nG → Nat → Nat → List Frame → Array Value → State → State → Prop} {n : Int} (hd : decode (mCode M) pc = .ok (.newarray .long, 2)) (hw : wOK (.arrayClass .long)) (h0 : 0 ≤ n) (h1 : n ≤ 20000) (hroom : eSz ε + 1 ≤ nCAP ∧ eSl ε + n.toNat ≤ nSCAP)
    (k9 : wpF M (pc + 2) L (vR (eSz ε + 1) :: st) (zr μ (eSz ε + 1)) (alF ε 12 n n.toNat) tb Fn) : wpF M pc L (vI n :: st) μ ε tb Fn := by
  intro G hG z0 n0 p l e R s m args below meth c hC htb H locs ls hR hl hS hz hn
  obtain ⟨hx, hst0, hb, hml, hret, hlk9, hown, hnm, hW, hRm, hs0, ht0⟩ := id hC
  have hcl : (Int32.ofInt n).toNatClampNeg = n.toNat := n_clamp h0 (by omega)
  have hneg : ¬ Int32.ofInt n < 0 := by rw [n_0, n_lt (by unfold inR; omega) n_in0]; omega
  have hby : (Int32.ofInt n).toNatClampNeg * componentBytes (newarray.typeOf .long) ≤ 536870912 := by
    have h9 : componentBytes (newarray.typeOf .long) ≤ 8 := by decide
    have h8 : n.toNat ≤ 20000 := by omega
    rw [hcl]
    exact Nat.le_trans (Nat.mul_le_mul h8 h9) (Nat.le_of_ble_eq_true rfl)
  refine W.newa (atype := .long) hx hb (n_wd hG hC hw args) rfl hd rfl hneg hby (by rw [hRm]; show eSz ε - z0 + 1 ≤ nCAP - z0; omega) (by rw [hRm, hcl]; show eSl ε - n0 + n.toNat ≤ nSCAP - n0; omega) fun cA kA comp f1 f2 f3 => ?_
  have hAr : ArrOfT (gS G) cA .long := arrOfT_moved hW.alike.symm (fun N z => ⟨(fun k h => by cases h), kA, f2, comp, f3⟩ : ArrOfT s cA .long)
  have hRA : va_RA (gS G) cA .long := va_RA.moved hW.alike.symm (show va_RA s cA .long from f1)
  rw [hcl]
  have hsz : ({ cls := cA, slots := Array.replicate n.toNat (.long 0), vm := .none } : Cell).slots.size = n.toNat := Array.size_replicate
  have hR' := Rep_new (kd := 12) (ln := n) hR hsz hroom.1 hroom.2 (by
    refine ⟨fun c2 hc2 h8 => ?_, fun kd hkd h8 => ?_⟩
    · have : eKind (alF ε 12 n n.toNat) ((eSz ε : Int) + 1) = 12 := if_pos rfl
      omega
    · have e4 : kd = 12 := by
        have : eKind (alF ε 12 n n.toNat) ((eSz ε : Int) + 1) = 12 := if_pos rfl
        omega
      subst e4
      have e5 : eLen (alF ε 12 n n.toNat) ((eSz ε : Int) + 1) = n := if_pos rfl
      refine ⟨⟨cA, ?_, hAr, hRA⟩, by rw [e5]; exact h0, by rw [e5]; omega⟩
      rw [nAd_new hR, Array.getElem?_push_size, arrV_new, e5]
      congr 2
      funext j
      have e6 : zr μ (eSz ε + 1) ((eSz ε : Int) + 1) j = 0 := if_pos rfl
      rw [e6]; rfl)
  have h := k9 G hG z0 n0 p l e R s m args below meth c hC htb _ locs ls hR' hl (va_S_push hS _) (by show z0 ≤ eSz ε + 1; omega) (by show n0 ≤ eSl ε + _; omega)
  have e1 : eSz (alF ε 12 n n.toNat) - z0 = eSz ε - z0 + 1 := by show eSz ε + 1 - z0 = _; omega
  have e2 : eSl (alF ε 12 n n.toNat) - n0 = eSl ε - n0 + n.toNat := by show eSl ε + _ - n0 = _; omega
  rw [e1, e2] at h
  rw [show Value.ref H.size = toV G (vR ((eSz ε : Int) + 1)) by rw [← nAd_new hR]; exact (toV_ref (by omega)).symm]
  exact h
theorem wq_newZ {M : nM} {pc : Nat} {L : List (Nat × nV)} {st : List nV} {μ : nMem} {ε : nEnv} {tb : List ExceptionTableEntry → Prop} {Fn : nG → Nat → Nat → List Frame → Array Value → State → State → Prop} {n : Int} (hd : decode (mCode M) pc = .ok (.newarray .boolean, 2)) (hw : wOK (.arrayClass .boolean)) (h0 : 0 ≤ n) (h1 : n ≤ 20000) (hroom : eSz ε + 1 ≤ nCAP ∧ eSl ε + n.toNat ≤ nSCAP)
    (k9 : wpF M (pc + 2) L (vR (eSz ε + 1) :: st) (zr μ (eSz ε + 1)) (alF ε 13 n n.toNat) tb Fn) : wpF M pc L (vI n :: st) μ ε tb Fn := by
  intro G hG z0 n0 p l e R s m args below meth c hC htb H locs ls hR hl hS hz hn
  obtain ⟨hx, hst0, hb, hml, hret, hlk9, hown, hnm, hW, hRm, hs0, ht0⟩ := id hC
  have hcl : (Int32.ofInt n).toNatClampNeg = n.toNat := n_clamp h0 (by omega)
  have hneg : ¬ Int32.ofInt n < 0 := by rw [n_0, n_lt (by unfold inR; omega) n_in0]; omega
  have hby : (Int32.ofInt n).toNatClampNeg * componentBytes (newarray.typeOf .boolean) ≤ 536870912 := by
    have h9 : componentBytes (newarray.typeOf .boolean) ≤ 8 := by decide
    have h8 : n.toNat ≤ 20000 := by omega
    rw [hcl]
    exact Nat.le_trans (Nat.mul_le_mul h8 h9) (Nat.le_of_ble_eq_true rfl)
  refine W.newa (atype := .boolean) hx hb (n_wd hG hC hw args) rfl hd rfl hneg hby (by rw [hRm]; show eSz ε - z0 + 1 ≤ nCAP - z0; omega) (by rw [hRm, hcl]; show eSl ε - n0 + n.toNat ≤ nSCAP - n0; omega) fun cA kA comp f1 f2 f3 => ?_
  have hAr : ArrOfT (gS G) cA .boolean := arrOfT_moved hW.alike.symm (fun N z => ⟨(fun k h => by cases h), kA, f2, comp, f3⟩ : ArrOfT s cA .boolean)
  have hRA : va_RA (gS G) cA .boolean := va_RA.moved hW.alike.symm (show va_RA s cA .boolean from f1)
  rw [hcl]
  have hsz : ({ cls := cA, slots := Array.replicate n.toNat (.int 0), vm := .none } : Cell).slots.size = n.toNat := Array.size_replicate
  have hR' := Rep_new (kd := 13) (ln := n) hR hsz hroom.1 hroom.2 (by
    refine ⟨fun c2 hc2 h8 => ?_, fun kd hkd h8 => ?_⟩
    · have : eKind (alF ε 13 n n.toNat) ((eSz ε : Int) + 1) = 13 := if_pos rfl
      omega
    · have e4 : kd = 13 := by
        have : eKind (alF ε 13 n n.toNat) ((eSz ε : Int) + 1) = 13 := if_pos rfl
        omega
      subst e4
      have e5 : eLen (alF ε 13 n n.toNat) ((eSz ε : Int) + 1) = n := if_pos rfl
      refine ⟨⟨cA, ?_, hAr, hRA⟩, by rw [e5]; exact h0, by rw [e5]; omega⟩
      rw [nAd_new hR, Array.getElem?_push_size, arrV_new, e5]
      congr 2
      funext j
      have e6 : zr μ (eSz ε + 1) ((eSz ε : Int) + 1) j = 0 := if_pos rfl
      rw [e6]; rfl)
  have h := k9 G hG z0 n0 p l e R s m args below meth c hC htb _ locs ls hR' hl (va_S_push hS _) (by show z0 ≤ eSz ε + 1; omega) (by show n0 ≤ eSl ε + _; omega)
  have e1 : eSz (alF ε 13 n n.toNat) - z0 = eSz ε - z0 + 1 := by show eSz ε + 1 - z0 = _; omega
  have e2 : eSl (alF ε 13 n n.toNat) - n0 = eSl ε - n0 + n.toNat := by show eSl ε + _ - n0 = _; omega
  rw [e1, e2] at h
  rw [show Value.ref H.size = toV G (vR ((eSz ε : Int) + 1)) by rw [← nAd_new hR]; exact (toV_ref (by omega)).symm]
  exact h
theorem n_ao {G : nG} {M : nM} {z0 n0 : Nat} {p : Program} {l : Launch} {R : Room} {s : State} {m : MethodId} {meth : Method} {c : Code} (hG : GOK G) (hC : nCx G M z0 n0 p l R s m meth c) {C : String} (hov : Cond.arrayOver (.object C) ∈ lw_tbl) : (Cond.arrayOver (.object C)).before #[] s = true := by
  obtain ⟨-, -, -, -, -, -, -, -, hW, -⟩ := hC
  exact va_AO.moved hW.alike (va_AO.of (hG.2.2.2.1 _ hov))
theorem wq_newQI {M : nM} {pc : Nat} {L : List (Nat × nV)} {st : List nV} {μ : nMem} {ε : nEnv} {tb : List ExceptionTableEntry → Prop} {Fn : nG → Nat → Nat → List Frame → Array Value → State → State → Prop} {n : Int} {idx : Nat} (hd : decode (mCode M) pc = .ok (.anewarray idx, 3)) (hlk : wOK (.classLink (mOwn M) idx RX1)) (hov : Cond.arrayOver (.object RX1) ∈ lw_tbl) (h0 : 0 ≤ n) (h1 : n ≤ 20000) (hroom : eSz ε + 1 ≤ nCAP ∧ eSl ε + n.toNat ≤ nSCAP)
    (k9 : wpF M (pc + 3) L (vR (eSz ε + 1) :: st) (zr μ (eSz ε + 1)) (alF ε 14 n n.toNat) tb Fn) : wpF M pc L (vI n :: st) μ ε tb Fn := by
  intro G hG z0 n0 p l e R s m args below meth c hC htb H locs ls hR hl hS hz hn
  obtain ⟨hx, hst0, hb, hml, hret, hlk9, hown, hnm, hW, hRm, hs0, ht0⟩ := id hC
  have hcl : (Int32.ofInt n).toNatClampNeg = n.toNat := n_clamp h0 (by omega)
  have hneg : ¬ Int32.ofInt n < 0 := by rw [n_0, n_lt (by unfold inR; omega) n_in0]; omega
  refine W.anew (C := RX1) hx hb hown (n_wd hG hC hlk args) (va_AO.use (va_AO.of (A := #[]) (n_ao hG hC hov))) rfl hd rfl hneg (by rw [hcl]; omega) (by rw [hRm]; show eSz ε - z0 + 1 ≤ nCAP - z0; omega) (by rw [hRm, hcl]; show eSl ε - n0 + n.toNat ≤ nSCAP - n0; omega) fun cA kA comp f1 f2 f3 f4 => ?_
  have hAr : ArrOfT (gS G) cA (.object RX1) := arrOfT_moved hW.alike.symm (fun N z => ⟨(fun k h => by cases h), kA, f2, comp, f3⟩ : ArrOfT s cA (.object RX1))
  have hRA : va_RA (gS G) cA (.object RX1) := va_RA.moved hW.alike.symm (show va_RA s cA (.object RX1) from ⟨kA, comp, f2, f3, f4, f1⟩)
  rw [hcl]
  have hsz : ({ cls := cA, slots := Array.replicate n.toNat .null, vm := .none } : Cell).slots.size = n.toNat := Array.size_replicate
  have hR' := Rep_new (kd := 14) (ln := n) hR hsz hroom.1 hroom.2 (by
    refine ⟨fun c2 hc2 h8 => ?_, fun kd hkd h8 => ?_⟩
    · have : eKind (alF ε 14 n n.toNat) ((eSz ε : Int) + 1) = 14 := if_pos rfl
      omega
    · have e4 : kd = 14 := by
        have : eKind (alF ε 14 n n.toNat) ((eSz ε : Int) + 1) = 14 := if_pos rfl
        omega
      subst e4
      have e5 : eLen (alF ε 14 n n.toNat) ((eSz ε : Int) + 1) = n := if_pos rfl
      refine ⟨⟨cA, ?_, hAr, hRA⟩, by rw [e5]; exact h0, by rw [e5]; omega⟩
      rw [nAd_new hR, Array.getElem?_push_size, arrV_new, e5]
      congr 2
      funext j
      have e6 : zr μ (eSz ε + 1) ((eSz ε : Int) + 1) j = 0 := if_pos rfl
      rw [e6]; rfl)
  have h := k9 G hG z0 n0 p l e R s m args below meth c hC htb _ locs ls hR' hl (va_S_push hS _) (by show z0 ≤ eSz ε + 1; omega) (by show n0 ≤ eSl ε + _; omega)
  have e1 : eSz (alF ε 14 n n.toNat) - z0 = eSz ε - z0 + 1 := by show eSz ε + 1 - z0 = _; omega
  have e2 : eSl (alF ε 14 n n.toNat) - n0 = eSl ε - n0 + n.toNat := by show eSl ε + _ - n0 = _; omega
  rw [e1, e2] at h
  rw [show Value.ref H.size = toV G (vR ((eSz ε : Int) + 1)) by rw [← nAd_new hR]; exact (toV_ref (by omega)).symm]
  exact h
theorem wq_newQN {M : nM} {pc : Nat} {L : List (Nat × nV)} {st : List nV} {μ : nMem} {ε : nEnv} {tb : List ExceptionTableEntry → Prop} {Fn : nG → Nat → Nat → List Frame → Array Value → State → State → Prop} {n : Int} {idx : Nat} (hd : decode (mCode M) pc = .ok (.anewarray idx, 3)) (hlk : wOK (.classLink (mOwn M) idx RX4)) (hov : Cond.arrayOver (.object RX4) ∈ lw_tbl) (h0 : 0 ≤ n) (h1 : n ≤ 20000) (hroom : eSz ε + 1 ≤ nCAP ∧ eSl ε + n.toNat ≤ nSCAP)
    (k9 : wpF M (pc + 3) L (vR (eSz ε + 1) :: st) (zr μ (eSz ε + 1)) (alF ε 15 n n.toNat) tb Fn) : wpF M pc L (vI n :: st) μ ε tb Fn := by
  intro G hG z0 n0 p l e R s m args below meth c hC htb H locs ls hR hl hS hz hn
  obtain ⟨hx, hst0, hb, hml, hret, hlk9, hown, hnm, hW, hRm, hs0, ht0⟩ := id hC
  have hcl : (Int32.ofInt n).toNatClampNeg = n.toNat := n_clamp h0 (by omega)
  have hneg : ¬ Int32.ofInt n < 0 := by rw [n_0, n_lt (by unfold inR; omega) n_in0]; omega
  refine W.anew (C := RX4) hx hb hown (n_wd hG hC hlk args) (va_AO.use (va_AO.of (A := #[]) (n_ao hG hC hov))) rfl hd rfl hneg (by rw [hcl]; omega) (by rw [hRm]; show eSz ε - z0 + 1 ≤ nCAP - z0; omega) (by rw [hRm, hcl]; show eSl ε - n0 + n.toNat ≤ nSCAP - n0; omega) fun cA kA comp f1 f2 f3 f4 => ?_
  have hAr : ArrOfT (gS G) cA (.object RX4) := arrOfT_moved hW.alike.symm (fun N z => ⟨(fun k h => by cases h), kA, f2, comp, f3⟩ : ArrOfT s cA (.object RX4))
  have hRA : va_RA (gS G) cA (.object RX4) := va_RA.moved hW.alike.symm (show va_RA s cA (.object RX4) from ⟨kA, comp, f2, f3, f4, f1⟩)
  rw [hcl]
  have hsz : ({ cls := cA, slots := Array.replicate n.toNat .null, vm := .none } : Cell).slots.size = n.toNat := Array.size_replicate
  have hR' := Rep_new (kd := 15) (ln := n) hR hsz hroom.1 hroom.2 (by
    refine ⟨fun c2 hc2 h8 => ?_, fun kd hkd h8 => ?_⟩
    · have : eKind (alF ε 15 n n.toNat) ((eSz ε : Int) + 1) = 15 := if_pos rfl
      omega
    · have e4 : kd = 15 := by
        have : eKind (alF ε 15 n n.toNat) ((eSz ε : Int) + 1) = 15 := if_pos rfl
        omega
      subst e4
      have e5 : eLen (alF ε 15 n n.toNat) ((eSz ε : Int) + 1) = n := if_pos rfl
      refine ⟨⟨cA, ?_, hAr, hRA⟩, by rw [e5]; exact h0, by rw [e5]; omega⟩
      rw [nAd_new hR, Array.getElem?_push_size, arrV_new, e5]
      congr 2
      funext j
      have e6 : zr μ (eSz ε + 1) ((eSz ε : Int) + 1) j = 0 := if_pos rfl
      rw [e6]; rfl)
  have h := k9 G hG z0 n0 p l e R s m args below meth c hC htb _ locs ls hR' hl (va_S_push hS _) (by show z0 ≤ eSz ε + 1; omega) (by show n0 ≤ eSl ε + _; omega)
  have e1 : eSz (alF ε 15 n n.toNat) - z0 = eSz ε - z0 + 1 := by show eSz ε + 1 - z0 = _; omega
  have e2 : eSl (alF ε 15 n n.toNat) - n0 = eSl ε - n0 + n.toNat := by show eSl ε + _ - n0 = _; omega
  rw [e1, e2] at h
  rw [show Value.ref H.size = toV G (vR ((eSz ε : Int) + 1)) by rw [← nAd_new hR]; exact (toV_ref (by omega)).symm]
  exact h
