theorem toV_ref {G : nG} {x : Int} (h : 1 ≤ x) : va_rf (nRf G x) = .ref (nAd G x) := by
  unfold nRf nAd
  rw [if_neg (by omega), if_neg (by omega)]
  rfl
theorem wC_all : ∀ ci, ci < 7 → ∀ w ∈ u_ws (cTab ci).1 (cTab ci).2.1 (cTab ci).2.2, wOK w := by
  intro ci h
  match ci, h with
  | 0, _ => exact wC_0
  | 1, _ => exact wC_1
  | 2, _ => exact wC_2
  | 3, _ => exact wC_3
  | 4, _ => exact wC_4
  | 5, _ => exact wC_5
  | 6, _ => exact wC_6
def cTy (ci : Nat) : Nat → FieldType := match ci with
  | 0 => tyX0
  | 1 => tyX1
  | 2 => tyX2
  | 3 => tyX3
  | 4 => tyX4
  | 5 => tyX5
  | _ => tyX6
theorem cTy_ok : ∀ ci, ci < 7 → ∀ k, k < (cTab ci).2.2 → parseFieldDescriptor ((cTab ci).2.1 k).2.2.1 = some (cTy ci k) := by
  intro ci h
  match ci, h with
  | 0, _ => exact tyX0_ok
  | 1, _ => exact tyX1_ok
  | 2, _ => exact tyX2_ok
  | 3, _ => exact tyX3_ok
  | 4, _ => exact tyX4_ok
  | 5, _ => exact tyX5_ok
  | 6, _ => exact tyX6_ok
theorem cNm_ok : ∀ ci, ci < 7 → ∀ a, a < (cTab ci).2.2 → ∀ b, b < (cTab ci).2.2 → a ≠ b → ((cTab ci).2.1 a).2.1 ≠ ((cTab ci).2.1 b).2.1 := by
  intro ci h
  match ci, h with
  | 0, _ => exact nmX0
  | 1, _ => exact nmX1
  | 2, _ => exact nmX2
  | 3, _ => exact nmX3
  | 4, _ => exact nmX4
  | 5, _ => exact nmX5
  | 6, _ => exact nmX6
/-- the fields' types as the tables of types have them -/
theorem fTy_ok : ∀ ci, ci < 7 → ∀ k, k < (cTab ci).2.2 → ∀ G : nG, defaultValue (cTy ci k) = toV G (tyV (fTy ci k) 0) := by
  have h : ∀ ci, ci < 7 → ∀ k, k < (cTab ci).2.2 → defaultValue (cTy ci k) = (if fTy ci k = 0 then .int 0 else if fTy ci k = 1 then .long 0 else .null) := by decide +kernel
  intro ci hc k hk G
  rw [h ci hc k hk]
  unfold tyV
  split
  · rfl
  · split
    · rfl
    · show Value.null = va_rf (nRf G 0)
      rfl
def lkF (M : nM) (idx : Nat) (C n d : String) : Prop := wOK (.fieldLink (mOwn M) idx C n d) ∨ ∃ host, Cond.fieldLinkNest (mOwn M) idx C n d host ∈ lw_tbl
theorem cTab_eq {ci : Nat} {r : vw_C} (hr : vwCl[ci]? = some r) : cTab ci = r := by
  unfold cTab
  rw [hr]
  rfl
theorem tot_same {H H' : Heap} (h : ∀ q : Nat, (H'[q]?).map (fun c => c.slots.size) = (H[q]?).map (fun c => c.slots.size)) : tot H' = tot H := by
  unfold tot
  congr 1
  apply List.ext_getElem?
  intro q
  rw [List.getElem?_map, List.getElem?_map, Array.getElem?_toList, Array.getElem?_toList]
  exact h q
theorem tot_push (H : Heap) (c : Cell) : tot (H.push c) = tot H + c.slots.size := by
  unfold tot
  rw [Array.toList_push, List.map_append, List.sum_append]
  simp
theorem nAt_kept {G : nG} {μ μ' : nMem} {ε ε' : nEnv} {y : Int} {H H' : Heap} (h : nAt G μ ε y H) (hk : eKind ε' y = eKind ε y) (hln : eLen ε' y = eLen ε y) (hf : ∀ j, eFin ε' y j = eFin ε y j) (hμ : ∀ j, μ' y j = μ y j) (hH : H'[nAd G y]? = H[nAd G y]?) : nAt G μ' ε' y H' := by
  refine ⟨fun ci hci h8 => ?_, fun kd hkd h8 => ?_⟩
  · obtain ⟨r, hr, ho⟩ := h.1 ci (hk ▸ hci) h8
    refine ⟨r, hr, (ho.kept hH).to fun k _ => ?_⟩
    unfold fval
    rw [hf, hμ]
  · obtain ⟨⟨cA, h1, h2, h3⟩, h4, h5⟩ := h.2 kd (hk ▸ hkd) h8
    refine ⟨⟨cA, ?_, h2, h3⟩, by rw [hln]; exact h4, by rw [hln]; exact h5⟩
    rw [hH, h1, hln]
    congr 2
    funext j
    rw [hμ]
theorem Rep_upd {G : nG} {μ μ' : nMem} {ε ε' : nEnv} {x : Int} {H H' : Heap} (hR : Rep G μ ε H) (hkd : ∀ y, eKind ε' y = eKind ε y) (hln : ∀ y, eLen ε' y = eLen ε y) (hsz : eSz ε' = eSz ε) (hsl : eSl ε' = eSl ε)
    (hfin : ∀ y, y ≠ x → ∀ j, eFin ε' y j = eFin ε y j) (hμ : ∀ y, y ≠ x → ∀ j, μ' y j = μ y j) (hx1 : 1 ≤ x) (z : H'.size = H.size) (oq : ∀ q, q ≠ nAd G x → H'[q]? = H[q]?)
    {c c' : Cell} (hc : H[nAd G x]? = some c) (hc' : H'[nAd G x]? = some c') (hcs : c'.slots.size = c.slots.size) (hat : nAt G μ' ε' x H') : Rep G μ' ε' H' := by
  obtain ⟨r1, r2, r3, r4, r5, r6⟩ := hR
  refine ⟨by rw [z, hsz]; exact r1, ?_, fun y hy => ?_, fun q hq => ?_, by rw [hsz, hsl]; exact r5, ?_⟩
  · rw [hsl, ← r2]
    apply tot_same
    intro q
    by_cases hq : q = nAd G x
    · rw [hq, hc, hc']; simp [hcs]
    · rw [oq q hq]
  · by_cases e : y = x
    · subst e
      rw [hkd] at hy
      obtain ⟨y1, y2, -⟩ := r3 y hy
      exact ⟨y1, by rw [hsz]; exact y2, hat⟩
    · rw [hkd] at hy
      obtain ⟨y1, y2, h3⟩ := r3 y hy
      refine ⟨y1, by rw [hsz]; exact y2, nAt_kept h3 (hkd y) (hln y) (hfin y e) (hμ y e) (oq _ ?_)⟩
      unfold nAd; omega
  · rw [oq q (by unfold nAd; omega)]; exact r4 q hq
  · rw [hln]
    have e : (fun j : Nat => Int32.ofInt (μ' (-1) j)) = (fun j : Nat => Int32.ofInt (μ (-1) j)) := by
      funext j
      rw [hμ (-1) (by omega)]
    rw [e]
    exact r6
theorem wq_getf {M : nM} {pc : Nat} {L : List (Nat × nV)} {st : List nV} {μ : nMem} {ε : nEnv} {tb : List ExceptionTableEntry → Prop} {Fn : nG → Nat → Nat → List Frame → Array Value → State → State → Prop} {idx ci k : Nat} {x : Int} {v : nV} (hd : decode (mCode M) pc = .ok (.getfield idx, 3)) (hk : eKind ε x = ci + 1) (hci : ci < 7) (hkf : k < (cTab ci).2.2) (hlk : lkF M idx ((cTab ci).2.1 k).1 ((cTab ci).2.1 k).2.1 ((cTab ci).2.1 k).2.2.1) (hv : fval μ ε x ci k = v) (k9 : wpF M (pc + 3) L (v :: st) μ ε tb Fn) : wpF M pc L (vR x :: st) μ ε tb Fn := by
  intro G hG z0 n0 p l e R s m args below meth c hC htb H locs ls hR hl hS hz hn
  obtain ⟨hx, -, hb, -, -, -, hown, hnm, hW, hRm, hs0, ht0⟩ := id hC
  have h := k9 G hG z0 n0 p l e R s m args below meth c hC htb H locs ls hR hl hS hz hn
  obtain ⟨x1, x2, hat⟩ := hR.2.2.1 x (by rw [hk]; exact Nat.succ_ne_zero _)
  obtain ⟨r, hr, cell, q1, q2, q3, q4⟩ := hat.1 ci hk hci
  have er : cTab ci = r := cTab_eq hr
  subst er
  have hKu := u_Kn_moved hW.alike (hG.2.2.1.1 ci _ hr)
  obtain ⟨hS', hfc, kC, hkC, hkind⟩ := id hKu
  obtain ⟨cf, kf, fi, f, hi, hsl⟩ := hS' k hkf
  have hts : ∀ w ∈ u_ws (cTab ci).1 (cTab ci).2.1 (cTab ci).2.2, w.before args s = true := fun w hw => n_wd hG hC (wC_all ci hci w hw) args
  have hst := (u_facts hfc hkC (u_lays hts (fun _ h => h) hkf) hi).1
  have hslot : cell.slots[f.slot]? = some (toV G v) := by rw [hsl, q4 k hkf]; show some (toV G (fval μ ε x ci k)) = _; rw [hv]
  show W p l e R s m args below meth c H locs (eSz ε - z0) (eSl ε - n0) (Fn G z0 n0 below args s) (F0 m pc ls (va_rf (nRf G x) :: st.map (toV G)))
  rw [toV_ref x1]
  rcases hlk with hlk | ⟨host, hlk⟩
  · exact W.getf hx hb hown (n_wd hG hC hlk args) hi hst q1 (by rw [q3]; exact fun h => by cases h) hslot rfl rfl hd h
  · exact va_Wgetf hx hb hown (va_Nw.use rfl (va_Nw.warmF hW (va_Nw.of rfl (hG.2.2.2.1 _ hlk)))) hi hst q1 (by rw [q3]; exact fun h => by cases h) hslot rfl rfl hd h
def putOK (ty : FieldType) (w : nV) : Prop := ∀ G : nG, narrow ty (toV G w) = toV G w ∧ fits ty (toV G w) = true
theorem putOK_I (x : Int) : putOK .int (vI x) := fun _ => ⟨rfl, rfl⟩
theorem putOK_J (x : Int) : putOK .long (vJ x) := fun _ => ⟨rfl, rfl⟩
theorem putOK_Z {x : Int} (h : x = 0 ∨ x = 1) : putOK .boolean (vI x) := fun _ => by rcases h with rfl | rfl <;> exact ⟨rfl, rfl⟩
theorem putOK_O (C : String) (x : Int) : putOK (.object C) (vR x) := fun G => by
  show narrow (.object C) (va_rf (nRf G x)) = va_rf (nRf G x) ∧ fits (.object C) (va_rf (nRf G x)) = true
  cases nRf G x <;> exact ⟨rfl, rfl⟩
theorem putOK_A (t : FieldType) (x : Int) : putOK (.array t) (vR x) := fun G => by
  show narrow (.array t) (va_rf (nRf G x)) = va_rf (nRf G x) ∧ fits (.array t) (va_rf (nRf G x)) = true
  cases nRf G x <;> exact ⟨rfl, rfl⟩
theorem n_apart {G : nG} {M : nM} {z0 n0 : Nat} {p : Program} {l : Launch} {R : Room} {s : State} {m : MethodId} {meth : Method} {c : Code} (hG : GOK G) (hC : nCx G M z0 n0 p l R s m meth c) {ci : Nat} (hci : ci < 7) (hr : vwCl[ci]? = some (cTab ci)) (args : Array Value) : ∀ x y, x < (cTab ci).2.2 → y < (cTab ci).2.2 → x ≠ y → ((gD G).2 ci) x ≠ ((gD G).2 ci) y := by
  obtain ⟨-, -, -, -, -, -, -, -, hW, -⟩ := id hC
  exact va_apart (own := mOwn M) (args := args) (s := s) (Ts := u_ws (cTab ci).1 (cTab ci).2.1 (cTab ci).2.2) (fun w hw => n_wd hG hC (wC_all ci hci w hw) args) (fun _ h => h) (cTy ci) (cTy_ok ci hci) (cNm_ok ci hci) (hG.2.2.1.moved hW.alike) (ci := ci) hr
theorem wr_s (μ : nMem) (a k v : Int) : wr μ a k v a k = v := by simp [wr]
theorem wr_n (μ : nMem) {a k x j : Int} (v : Int) (h : ¬ (x = a ∧ j = k)) : wr μ a k v x j = μ x j := by simp [wr, h]
theorem setSlot_size (c : Cell) (i : Nat) (v : Value) : (c.setSlot i v).slots.size = c.slots.size := by simp [Cell.setSlot]
def wrF (ε : nEnv) (a k v : Int) : nEnv := (wr ε.1 a k v, ε.2)
theorem wq_putf {M : nM} {pc : Nat} {L : List (Nat × nV)} {st : List nV} {μ : nMem} {ε : nEnv} {tb : List ExceptionTableEntry → Prop} {Fn : nG → Nat → Nat → List Frame → Array Value → State → State → Prop} {idx ci k : Nat} {x v : Int} {w : nV} (hd : decode (mCode M) pc = .ok (.putfield idx, 3)) (hk : eKind ε x = ci + 1) (hci : ci < 7) (hkf : k < (cTab ci).2.2) (hlk : lkF M idx ((cTab ci).2.1 k).1 ((cTab ci).2.1 k).2.1 ((cTab ci).2.1 k).2.2.1) (hfi : fFi ci k = false) (hv : tyV (fTy ci k) v = w) (hok : putOK (cTy ci k) w) (k9 : wpF M (pc + 3) L st (wr μ x k v) ε tb Fn) : wpF M pc L (w :: vR x :: st) μ ε tb Fn := by
  intro G hG z0 n0 p l e R s m args below meth c hC htb H locs ls hR hl hS hz hn
  obtain ⟨hx, -, hb, -, -, -, hown, hnm, hW, hRm, hs0, ht0⟩ := id hC
  obtain ⟨x1, x2, hat⟩ := hR.2.2.1 x (by rw [hk]; exact Nat.succ_ne_zero _)
  obtain ⟨r, hr, cell, q1, q2, q3, q4⟩ := hat.1 ci hk hci
  have er : cTab ci = r := cTab_eq hr
  subst er
  have hKu := u_Kn_moved hW.alike (hG.2.2.1.1 ci _ hr)
  obtain ⟨hS', hfc, kC, hkC, hkind⟩ := id hKu
  obtain ⟨cf, kf, fi, f, hi, hsl⟩ := hS' k hkf
  have hts : ∀ w ∈ u_ws (cTab ci).1 (cTab ci).2.1 (cTab ci).2.2, w.before args s = true := fun w hw => n_wd hG hC (wC_all ci hci w hw) args
  have hst := (u_facts hfc hkC (u_lays hts (fun _ h => h) hkf) hi).1
  have hlay := hts _ (u_in_lay hkf)
  unfold u_lay at hlay
  have hrest : ∀ (H' : Heap) (i9 : Nat), H'[nAd G x]? = some (cell.setSlot f.slot (toV G w)) → H'.size = H.size → (∀ q, q ≠ nAd G x → H'[q]? = H[q]?) → W p l e R s m args below meth c H' (locs ++ [⟨nAd G x, i9⟩]) (eSz ε - z0) (eSl ε - n0) (Fn G z0 n0 below args s) (F0 m (pc + 3) ls (st.map (toV G))) := by
    intro H' i9 e1 e2 e3
    have hR' : Rep G (wr μ x k v) ε H' := by
      refine Rep_upd (x := x) hR (fun _ => rfl) (fun _ => rfl) rfl rfl (fun y hy j => ?_) (fun y hy j => ?_) x1 e2 e3 q1 e1 (setSlot_size _ _ _) ⟨fun c2 hc2 h8 => ?_, fun kd hkd h8 => ?_⟩
      · rfl
      · exact wr_n _ _ (fun h => hy h.1)
      · have e4 : c2 = ci := by have := hk.symm.trans (show eKind ε x = c2 + 1 from hc2); omega
        subst e4
        refine ⟨_, hr, _, e1, q2, q3, fun j hj => ?_⟩
        rw [hsl]
        rw [t_set q4 (fun a b h1 h2 h3 => n_apart hG hC hci hr args a b h1 h2 h3) hkf (toV G w) j hj]
        unfold updV
        split
        · rename_i ej
          subst ej
          show some (toV G w) = some (toV G (fval (wr μ x j v) ε x c2 j))
          unfold fval
          rw [hfi, ← hv]
          simp only [Bool.false_eq_true, if_false]; rw [wr_s]
        · rename_i ej
          show some (toV G (fval μ ε x c2 j)) = some (toV G (fval (wr μ x k v) ε x c2 j))
          unfold fval
          rw [wr_n _ _ (fun h => ej (by omega))]
      · have e4 : kd = ci + 1 := (show eKind ε x = kd from hkd).symm.trans hk
        omega
    exact k9 G hG z0 n0 p l e R s m args below meth c hC htb H' _ ls hR' hl (hS.put e2 e3 (by show gB G < _; unfold nAd; omega)) hz hn
  show W p l e R s m args below meth c H locs (eSz ε - z0) (eSl ε - n0) (Fn G z0 n0 below args s) (F0 m pc ls (toV G w :: va_rf (nRf G x) :: st.map (toV G)))
  rw [toV_ref x1]
  rw [if_neg (by rw [show ((cTab ci).2.1 k).2.2.2 = false from hfi]; decide)] at hlay
  have h6 := u_store hfc hkC hkind hlay hi (cTy_ok ci hci k hkf) (hok G).1 (hok G).2
  rcases hlk with hlk | ⟨host, hlk⟩
  · exact W.putK hx hb (f := f) ⟨hown, n_wd hG hC hlk args, ⟨_, _, _, hi⟩, hst⟩ (by rw [q2]; exact h6) q1 q3 (by rw [hsl]; exact k2_hasslot (q4 k hkf)) rfl rfl hd fun H' e1 e2 e3 => hrest H' _ e1 e2 e3
  · exact va_WputK hx hb (f := f) hown (va_Nw.use rfl (va_Nw.warmF hW (va_Nw.of rfl (hG.2.2.2.1 _ hlk)))) hi hst (by rw [q2]; exact h6) q1 q3 (by rw [hsl]; exact k2_hasslot (q4 k hkf)) rfl rfl hd fun H' e1 e2 e3 => hrest H' _ e1 e2 e3
theorem wq_putF {M : nM} {pc : Nat} {L : List (Nat × nV)} {st : List nV} {μ : nMem} {ε : nEnv} {tb : List ExceptionTableEntry → Prop} {Fn : nG → Nat → Nat → List Frame → Array Value → State → State → Prop} {idx ci k : Nat} {x v : Int} {w : nV} (hd : decode (mCode M) pc = .ok (.putfield idx, 3)) (hk : eKind ε x = ci + 1) (hci : ci < 7) (hkf : k < (cTab ci).2.2) (hlk : wOK (.fieldLink (mOwn M) idx ((cTab ci).2.1 k).1 ((cTab ci).2.1 k).2.1 ((cTab ci).2.1 k).2.2.1)) (hini : (mNm M).name = "<init>") (hdc : ((cTab ci).2.1 k).1 = mOwn M) (hfi : fFi ci k = true) (hv : tyV (fTy ci k) v = w) (hok : putOK (cTy ci k) w) (k9 : wpF M (pc + 3) L st μ (wrF ε x k v) tb Fn) : wpF M pc L (w :: vR x :: st) μ ε tb Fn := by
  intro G hG z0 n0 p l e R s m args below meth c hC htb H locs ls hR hl hS hz hn
  obtain ⟨hx, -, hb, -, -, -, hown, hnm, hW, hRm, hs0, ht0⟩ := id hC
  obtain ⟨x1, x2, hat⟩ := hR.2.2.1 x (by rw [hk]; exact Nat.succ_ne_zero _)
  obtain ⟨r, hr, cell, q1, q2, q3, q4⟩ := hat.1 ci hk hci
  have er : cTab ci = r := cTab_eq hr
  subst er
  have hKu := u_Kn_moved hW.alike (hG.2.2.1.1 ci _ hr)
  obtain ⟨hS', hfc, kC, hkC, hkind⟩ := id hKu
  obtain ⟨cf, kf, fi, f, hi, hsl⟩ := hS' k hkf
  have hts : ∀ w ∈ u_ws (cTab ci).1 (cTab ci).2.1 (cTab ci).2.2, w.before args s = true := fun w hw => n_wd hG hC (wC_all ci hci w hw) args
  have hst := (u_facts hfc hkC (u_lays hts (fun _ h => h) hkf) hi).1
  have hlay := hts _ (u_in_lay hkf)
  unfold u_lay at hlay
  have hrest : ∀ (H' : Heap) (i9 : Nat), H'[nAd G x]? = some (cell.setSlot f.slot (toV G w)) → H'.size = H.size → (∀ q, q ≠ nAd G x → H'[q]? = H[q]?) → W p l e R s m args below meth c H' (locs ++ [⟨nAd G x, i9⟩]) (eSz ε - z0) (eSl ε - n0) (Fn G z0 n0 below args s) (F0 m (pc + 3) ls (st.map (toV G))) := by
    intro H' i9 e1 e2 e3
    have hR' : Rep G μ (wrF ε x k v) H' := by
      refine Rep_upd (x := x) hR (fun _ => rfl) (fun _ => rfl) rfl rfl (fun y hy j => ?_) (fun y hy j => ?_) x1 e2 e3 q1 e1 (setSlot_size _ _ _) ⟨fun c2 hc2 h8 => ?_, fun kd hkd h8 => ?_⟩
      · exact wr_n _ _ (fun h => hy h.1)
      · rfl
      · have e4 : c2 = ci := by have := hk.symm.trans (show eKind ε x = c2 + 1 from hc2); omega
        subst e4
        refine ⟨_, hr, _, e1, q2, q3, fun j hj => ?_⟩
        rw [hsl]
        rw [t_set q4 (fun a b h1 h2 h3 => n_apart hG hC hci hr args a b h1 h2 h3) hkf (toV G w) j hj]
        unfold updV
        split
        · rename_i ej
          subst ej
          show some (toV G w) = some (toV G (fval μ (wrF ε x j v) x c2 j))
          unfold fval
          rw [hfi, ← hv]
          simp only [if_true]; show some (toV G (tyV (fTy c2 j) v)) = some (toV G (tyV (fTy c2 j) (wr ε.1 x j v x j))); rw [wr_s]
        · rename_i ej
          show some (toV G (fval μ ε x c2 j)) = some (toV G (fval μ (wrF ε x k v) x c2 j))
          unfold fval
          show some (toV G (tyV (fTy c2 j) (if fFi c2 j = true then eFin ε x j else μ x j))) = some (toV G (tyV (fTy c2 j) (if fFi c2 j = true then wr ε.1 x k v x j else μ x j))); rw [wr_n _ _ (fun h => ej (by omega))]; rfl
      · have e4 : kd = ci + 1 := (show eKind ε x = kd from hkd).symm.trans hk
        omega
    exact k9 G hG z0 n0 p l e R s m args below meth c hC htb H' _ ls hR' hl (hS.put e2 e3 (by show gB G < _; unfold nAd; omega)) hz hn
  show W p l e R s m args below meth c H locs (eSz ε - z0) (eSl ε - n0) (Fn G z0 n0 below args s) (F0 m pc ls (toV G w :: va_rf (nRf G x) :: st.map (toV G)))
  rw [toV_ref x1]
  rw [if_pos (show ((cTab ci).2.1 k).2.2.2 = true from hfi)] at hlay
  have hcf : m.cls = cf := by
    obtain ⟨_, _, c', _, _, _, -, -, hf', -, -, -, hown2, -⟩ := Cond.laysFinal_spec hlay
    have e1 : c' = cf := by have := hi.symm.trans hf'; simp at this; exact this.1.symm
    rw [hdc] at hown2
    rw [← e1]; exact Option.some.inj (hown.symm.trans hown2)
  have h6 := u_fits hfc hkC hkind (Or.inr hlay) hi (cTy_ok ci hci k hkf) (hok G).1 (hok G).2
  exact W.putFinK hx hb hown (n_wd hG hC hlk args) hi hst hcf (hnm hini) (by rw [q2]; exact h6) q1 q3 (by rw [hsl]; exact k2_hasslot (q4 k hkf)) rfl rfl hd fun H' e1 e2 e3 => hrest H' _ e1 e2 e3
theorem wq_iald {M : nM} {pc : Nat} {L : List (Nat × nV)} {st : List nV} {μ : nMem} {ε : nEnv} {tb : List ExceptionTableEntry → Prop} {Fn : nG → Nat → Nat → List Frame → Array Value → State → State → Prop} {x i : Int} (hd : decode (mCode M) pc = .ok (.iaload, 1)) (hk : eKind ε x = 11) (h0 : 0 ≤ i) (h1 : i < eLen ε x) (k9 : wpF M (pc + 1) L (vI (μ x i) :: st) μ ε tb Fn) : wpF M pc L (vI i :: vR x :: st) μ ε tb Fn := by
  intro G hG z0 n0 p l e R s m args below meth c hC htb H locs ls hR hl hS hz hn
  obtain ⟨hx, -, hb, -, -, -, hown, hnm, hW, hRm, hs0, ht0⟩ := id hC
  have h := k9 G hG z0 n0 p l e R s m args below meth c hC htb H locs ls hR hl hS hz hn
  obtain ⟨x1, x2, hat⟩ := hR.2.2.1 x (by rw [hk]; decide)
  obtain ⟨⟨cA, q1, q2, q3⟩, q4, q5⟩ := hat.2 _ hk (by decide)
  have hAr := arrOfT_moved hW.alike q2
  have hlt : i.toNat < (eLen ε x).toNat := by omega
  have hin : ¬ (Int32.ofInt i < 0 ∨ (eLen ε x).toNat ≤ (Int32.ofInt i).toNatClampNeg) := n_in h0 (by omega) (by omega)
  have hcl : (Int32.ofInt i).toNatClampNeg = i.toNat := n_clamp h0 (by omega)
  have hii : ((i.toNat : Nat) : Int) = i := Int.toNat_of_nonneg h0
  show W p l e R s m args below meth c H locs (eSz ε - z0) (eSl ε - n0) (Fn G z0 n0 below args s) (F0 m pc ls (.int (Int32.ofInt i) :: va_rf (nRf G x) :: st.map (toV G)))
  rw [toV_ref x1]
  refine W.iald (v := toV G (vI (μ x i))) hx hb q1 (hAr _ _) (fun q => by cases q) (by rw [arrV_size]; exact hin) (by rw [hcl, arrV_read _ _ hlt, hii]; rfl) rfl rfl hd h
theorem wq_lald {M : nM} {pc : Nat} {L : List (Nat × nV)} {st : List nV} {μ : nMem} {ε : nEnv} {tb : List ExceptionTableEntry → Prop} {Fn : nG → Nat → Nat → List Frame → Array Value → State → State → Prop} {x i : Int} (hd : decode (mCode M) pc = .ok (.laload, 1)) (hk : eKind ε x = 12) (h0 : 0 ≤ i) (h1 : i < eLen ε x) (k9 : wpF M (pc + 1) L (vJ (μ x i) :: st) μ ε tb Fn) : wpF M pc L (vI i :: vR x :: st) μ ε tb Fn := by
  intro G hG z0 n0 p l e R s m args below meth c hC htb H locs ls hR hl hS hz hn
  obtain ⟨hx, -, hb, -, -, -, hown, hnm, hW, hRm, hs0, ht0⟩ := id hC
  have h := k9 G hG z0 n0 p l e R s m args below meth c hC htb H locs ls hR hl hS hz hn
  obtain ⟨x1, x2, hat⟩ := hR.2.2.1 x (by rw [hk]; decide)
  obtain ⟨⟨cA, q1, q2, q3⟩, q4, q5⟩ := hat.2 _ hk (by decide)
  have hAr := arrOfT_moved hW.alike q2
  have hlt : i.toNat < (eLen ε x).toNat := by omega
  have hin : ¬ (Int32.ofInt i < 0 ∨ (eLen ε x).toNat ≤ (Int32.ofInt i).toNatClampNeg) := n_in h0 (by omega) (by omega)
  have hcl : (Int32.ofInt i).toNatClampNeg = i.toNat := n_clamp h0 (by omega)
  have hii : ((i.toNat : Nat) : Int) = i := Int.toNat_of_nonneg h0
  show W p l e R s m args below meth c H locs (eSz ε - z0) (eSl ε - n0) (Fn G z0 n0 below args s) (F0 m pc ls (.int (Int32.ofInt i) :: va_rf (nRf G x) :: st.map (toV G)))
  rw [toV_ref x1]
  refine W.lald (v := toV G (vJ (μ x i))) hx hb q1 (hAr _ _) (fun q => by cases q) (by rw [arrV_size]; exact hin) (by rw [hcl, arrV_read _ _ hlt, hii]; rfl) rfl rfl hd h
theorem wq_zald {M : nM} {pc : Nat} {L : List (Nat × nV)} {st : List nV} {μ : nMem} {ε : nEnv} {tb : List ExceptionTableEntry → Prop} {Fn : nG → Nat → Nat → List Frame → Array Value → State → State → Prop} {x i : Int} (hd : decode (mCode M) pc = .ok (.baload, 1)) (hk : eKind ε x = 13) (h0 : 0 ≤ i) (h1 : i < eLen ε x) (k9 : wpF M (pc + 1) L (vI (μ x i) :: st) μ ε tb Fn) : wpF M pc L (vI i :: vR x :: st) μ ε tb Fn := by
  intro G hG z0 n0 p l e R s m args below meth c hC htb H locs ls hR hl hS hz hn
  obtain ⟨hx, -, hb, -, -, -, hown, hnm, hW, hRm, hs0, ht0⟩ := id hC
  have h := k9 G hG z0 n0 p l e R s m args below meth c hC htb H locs ls hR hl hS hz hn
  obtain ⟨x1, x2, hat⟩ := hR.2.2.1 x (by rw [hk]; decide)
  obtain ⟨⟨cA, q1, q2, q3⟩, q4, q5⟩ := hat.2 _ hk (by decide)
  have hAr := arrOfT_moved hW.alike q2
  have hlt : i.toNat < (eLen ε x).toNat := by omega
  have hin : ¬ (Int32.ofInt i < 0 ∨ (eLen ε x).toNat ≤ (Int32.ofInt i).toNatClampNeg) := n_in h0 (by omega) (by omega)
  have hcl : (Int32.ofInt i).toNatClampNeg = i.toNat := n_clamp h0 (by omega)
  have hii : ((i.toNat : Nat) : Int) = i := Int.toNat_of_nonneg h0
  show W p l e R s m args below meth c H locs (eSz ε - z0) (eSl ε - n0) (Fn G z0 n0 below args s) (F0 m pc ls (.int (Int32.ofInt i) :: va_rf (nRf G x) :: st.map (toV G)))
  rw [toV_ref x1]
  refine W.zald (v := toV G (vI (μ x i))) hx hb q1 (hAr _ _) (fun q => by cases q) (by rw [arrV_size]; exact hin) (by rw [hcl, arrV_read _ _ hlt, hii]; rfl) rfl rfl hd h
theorem wq_aaldI {M : nM} {pc : Nat} {L : List (Nat × nV)} {st : List nV} {μ : nMem} {ε : nEnv} {tb : List ExceptionTableEntry → Prop} {Fn : nG → Nat → Nat → List Frame → Array Value → State → State → Prop} {x i : Int} (hd : decode (mCode M) pc = .ok (.aaload, 1)) (hk : eKind ε x = 14) (h0 : 0 ≤ i) (h1 : i < eLen ε x) (k9 : wpF M (pc + 1) L (vR (μ x i) :: st) μ ε tb Fn) : wpF M pc L (vI i :: vR x :: st) μ ε tb Fn := by
  intro G hG z0 n0 p l e R s m args below meth c hC htb H locs ls hR hl hS hz hn
  obtain ⟨hx, -, hb, -, -, -, hown, hnm, hW, hRm, hs0, ht0⟩ := id hC
  have h := k9 G hG z0 n0 p l e R s m args below meth c hC htb H locs ls hR hl hS hz hn
  obtain ⟨x1, x2, hat⟩ := hR.2.2.1 x (by rw [hk]; decide)
  obtain ⟨⟨cA, q1, q2, q3⟩, q4, q5⟩ := hat.2 _ hk (by decide)
  have hAr := arrOfT_moved hW.alike q2
  have hlt : i.toNat < (eLen ε x).toNat := by omega
  have hin : ¬ (Int32.ofInt i < 0 ∨ (eLen ε x).toNat ≤ (Int32.ofInt i).toNatClampNeg) := n_in h0 (by omega) (by omega)
  have hcl : (Int32.ofInt i).toNatClampNeg = i.toNat := n_clamp h0 (by omega)
  have hii : ((i.toNat : Nat) : Int) = i := Int.toNat_of_nonneg h0
  show W p l e R s m args below meth c H locs (eSz ε - z0) (eSl ε - n0) (Fn G z0 n0 below args s) (F0 m pc ls (.int (Int32.ofInt i) :: va_rf (nRf G x) :: st.map (toV G)))
  rw [toV_ref x1]
  refine W.aald (v := toV G (vR (μ x i))) hx hb q1 (hAr _ _) rfl (fun q => by cases q) (by rw [arrV_size]; exact hin) (by rw [hcl, arrV_read _ _ hlt, hii]; rfl) rfl rfl hd h
theorem wq_aaldN {M : nM} {pc : Nat} {L : List (Nat × nV)} {st : List nV} {μ : nMem} {ε : nEnv} {tb : List ExceptionTableEntry → Prop} {Fn : nG → Nat → Nat → List Frame → Array Value → State → State → Prop} {x i : Int} (hd : decode (mCode M) pc = .ok (.aaload, 1)) (hk : eKind ε x = 15) (h0 : 0 ≤ i) (h1 : i < eLen ε x) (k9 : wpF M (pc + 1) L (vR (μ x i) :: st) μ ε tb Fn) : wpF M pc L (vI i :: vR x :: st) μ ε tb Fn := by
  intro G hG z0 n0 p l e R s m args below meth c hC htb H locs ls hR hl hS hz hn
  obtain ⟨hx, -, hb, -, -, -, hown, hnm, hW, hRm, hs0, ht0⟩ := id hC
  have h := k9 G hG z0 n0 p l e R s m args below meth c hC htb H locs ls hR hl hS hz hn
  obtain ⟨x1, x2, hat⟩ := hR.2.2.1 x (by rw [hk]; decide)
  obtain ⟨⟨cA, q1, q2, q3⟩, q4, q5⟩ := hat.2 _ hk (by decide)
  have hAr := arrOfT_moved hW.alike q2
  have hlt : i.toNat < (eLen ε x).toNat := by omega
  have hin : ¬ (Int32.ofInt i < 0 ∨ (eLen ε x).toNat ≤ (Int32.ofInt i).toNatClampNeg) := n_in h0 (by omega) (by omega)
  have hcl : (Int32.ofInt i).toNatClampNeg = i.toNat := n_clamp h0 (by omega)
  have hii : ((i.toNat : Nat) : Int) = i := Int.toNat_of_nonneg h0
  show W p l e R s m args below meth c H locs (eSz ε - z0) (eSl ε - n0) (Fn G z0 n0 below args s) (F0 m pc ls (.int (Int32.ofInt i) :: va_rf (nRf G x) :: st.map (toV G)))
  rw [toV_ref x1]
  refine W.aald (v := toV G (vR (μ x i))) hx hb q1 (hAr _ _) rfl (fun q => by cases q) (by rw [arrV_size]; exact hin) (by rw [hcl, arrV_read _ _ hlt, hii]; rfl) rfl rfl hd h
theorem wq_iast {M : nM} {pc : Nat} {L : List (Nat × nV)} {st : List nV} {μ : nMem} {ε : nEnv} {tb : List ExceptionTableEntry → Prop} {Fn : nG → Nat → Nat → List Frame → Array Value → State → State → Prop} {x i v : Int} (hd : decode (mCode M) pc = .ok (.iastore, 1)) (hk : eKind ε x = 11) (h0 : 0 ≤ i) (h1 : i < eLen ε x) (k9 : wpF M (pc + 1) L st (wr μ x i v) ε tb Fn) : wpF M pc L (vI v :: vI i :: vR x :: st) μ ε tb Fn := by
  intro G hG z0 n0 p l e R s m args below meth c hC htb H locs ls hR hl hS hz hn
  obtain ⟨hx, -, hb, -, -, -, hown, hnm, hW, hRm, hs0, ht0⟩ := id hC
  obtain ⟨x1, x2, hat⟩ := hR.2.2.1 x (by rw [hk]; decide)
  obtain ⟨⟨cA, q1, q2, q3⟩, q4, q5⟩ := hat.2 _ hk (by decide)
  have hAr := arrOfT_moved hW.alike q2
  have hlt : i.toNat < (eLen ε x).toNat := by omega
  have hin : ¬ (Int32.ofInt i < 0 ∨ (eLen ε x).toNat ≤ (Int32.ofInt i).toNatClampNeg) := n_in h0 (by omega) (by omega)
  have hcl : (Int32.ofInt i).toNatClampNeg = i.toNat := n_clamp h0 (by omega)
  have hii : ((i.toNat : Nat) : Int) = i := Int.toNat_of_nonneg h0
  have hrest : ∀ (H' : Heap) (i9 : Nat), H'[nAd G x]? = some ((arrV cA (eLen ε x).toNat (fun j => toV G (tyV (aTy 11) (μ x j)))).setSlot i.toNat (toV G (vI v))) → H'.size = H.size → (∀ q, q ≠ nAd G x → H'[q]? = H[q]?) → W p l e R s m args below meth c H' (locs ++ [⟨nAd G x, i9⟩]) (eSz ε - z0) (eSl ε - n0) (Fn G z0 n0 below args s) (F0 m (pc + 1) ls (st.map (toV G))) := by
    intro H' i9 e1 e2 e3
    have hR' : Rep G (wr μ x i v) ε H' := by
      refine Rep_upd (x := x) hR (fun _ => rfl) (fun _ => rfl) rfl rfl (fun y hy j => rfl) (fun y hy j => wr_n _ _ (fun h => hy h.1)) x1 e2 e3 q1 e1 (setSlot_size _ _ _) ⟨fun c2 hc2 h8 => ?_, fun k2 hk2 h8 => ?_⟩
      · rw [hk] at hc2; omega
      · have e4 : k2 = 11 := hk2.symm.trans hk
        subst e4
        refine ⟨⟨cA, ?_, q2, q3⟩, q4, q5⟩
        rw [e1, arrV_store]
        congr 2
        funext j
        unfold updV
        split
        · rename_i ej
          rw [ej, hii, wr_s]; rfl
        · rename_i ej
          rw [wr_n _ _ (fun h => ej (by omega))]
    exact k9 G hG z0 n0 p l e R s m args below meth c hC htb H' _ ls hR' hl (hS.put e2 e3 (by show gB G < _; unfold nAd; omega)) hz hn
  show W p l e R s m args below meth c H locs (eSz ε - z0) (eSl ε - n0) (Fn G z0 n0 below args s) (F0 m pc ls (toV G (vI v) :: .int (Int32.ofInt i) :: va_rf (nRf G x) :: st.map (toV G)))
  rw [toV_ref x1]
  refine W.iast hx hb q1 (hAr _ _) (fun q => by cases q) (by rw [arrV_size]; exact hin) rfl rfl hd fun H' e1 e2 e3 => ?_
  rw [hcl] at e1
  exact hrest H' _ e1 e2 e3
theorem wq_last {M : nM} {pc : Nat} {L : List (Nat × nV)} {st : List nV} {μ : nMem} {ε : nEnv} {tb : List ExceptionTableEntry → Prop} {Fn : nG → Nat → Nat → List Frame → Array Value → State → State → Prop} {x i v : Int} (hd : decode (mCode M) pc = .ok (.lastore, 1)) (hk : eKind ε x = 12) (h0 : 0 ≤ i) (h1 : i < eLen ε x) (k9 : wpF M (pc + 1) L st (wr μ x i v) ε tb Fn) : wpF M pc L (vJ v :: vI i :: vR x :: st) μ ε tb Fn := by
  intro G hG z0 n0 p l e R s m args below meth c hC htb H locs ls hR hl hS hz hn
  obtain ⟨hx, -, hb, -, -, -, hown, hnm, hW, hRm, hs0, ht0⟩ := id hC
  obtain ⟨x1, x2, hat⟩ := hR.2.2.1 x (by rw [hk]; decide)
  obtain ⟨⟨cA, q1, q2, q3⟩, q4, q5⟩ := hat.2 _ hk (by decide)
  have hAr := arrOfT_moved hW.alike q2
  have hlt : i.toNat < (eLen ε x).toNat := by omega
  have hin : ¬ (Int32.ofInt i < 0 ∨ (eLen ε x).toNat ≤ (Int32.ofInt i).toNatClampNeg) := n_in h0 (by omega) (by omega)
  have hcl : (Int32.ofInt i).toNatClampNeg = i.toNat := n_clamp h0 (by omega)
  have hii : ((i.toNat : Nat) : Int) = i := Int.toNat_of_nonneg h0
  have hrest : ∀ (H' : Heap) (i9 : Nat), H'[nAd G x]? = some ((arrV cA (eLen ε x).toNat (fun j => toV G (tyV (aTy 12) (μ x j)))).setSlot i.toNat (toV G (vJ v))) → H'.size = H.size → (∀ q, q ≠ nAd G x → H'[q]? = H[q]?) → W p l e R s m args below meth c H' (locs ++ [⟨nAd G x, i9⟩]) (eSz ε - z0) (eSl ε - n0) (Fn G z0 n0 below args s) (F0 m (pc + 1) ls (st.map (toV G))) := by
    intro H' i9 e1 e2 e3
    have hR' : Rep G (wr μ x i v) ε H' := by
      refine Rep_upd (x := x) hR (fun _ => rfl) (fun _ => rfl) rfl rfl (fun y hy j => rfl) (fun y hy j => wr_n _ _ (fun h => hy h.1)) x1 e2 e3 q1 e1 (setSlot_size _ _ _) ⟨fun c2 hc2 h8 => ?_, fun k2 hk2 h8 => ?_⟩
      · rw [hk] at hc2; omega
      · have e4 : k2 = 12 := hk2.symm.trans hk
        subst e4
        refine ⟨⟨cA, ?_, q2, q3⟩, q4, q5⟩
        rw [e1, arrV_store]
        congr 2
        funext j
        unfold updV
        split
        · rename_i ej
          rw [ej, hii, wr_s]; rfl
        · rename_i ej
          rw [wr_n _ _ (fun h => ej (by omega))]
    exact k9 G hG z0 n0 p l e R s m args below meth c hC htb H' _ ls hR' hl (hS.put e2 e3 (by show gB G < _; unfold nAd; omega)) hz hn
  show W p l e R s m args below meth c H locs (eSz ε - z0) (eSl ε - n0) (Fn G z0 n0 below args s) (F0 m pc ls (toV G (vJ v) :: .int (Int32.ofInt i) :: va_rf (nRf G x) :: st.map (toV G)))
  rw [toV_ref x1]
  refine W.last hx hb q1 (hAr _ _) (fun q => by cases q) (by rw [arrV_size]; exact hin) rfl rfl hd fun H' e1 e2 e3 => ?_
  rw [hcl] at e1
  exact hrest H' _ e1 e2 e3
theorem wq_zast {M : nM} {pc : Nat} {L : List (Nat × nV)} {st : List nV} {μ : nMem} {ε : nEnv} {tb : List ExceptionTableEntry → Prop} {Fn : nG → Nat → Nat → List Frame → Array Value → State → State → Prop} {x i v : Int} (hd : decode (mCode M) pc = .ok (.bastore, 1)) (hk : eKind ε x = 13) (h0 : 0 ≤ i) (h1 : i < eLen ε x) (hv : v = 0 ∨ v = 1) (k9 : wpF M (pc + 1) L st (wr μ x i v) ε tb Fn) : wpF M pc L (vI v :: vI i :: vR x :: st) μ ε tb Fn := by
  intro G hG z0 n0 p l e R s m args below meth c hC htb H locs ls hR hl hS hz hn
  obtain ⟨hx, -, hb, -, -, -, hown, hnm, hW, hRm, hs0, ht0⟩ := id hC
  obtain ⟨x1, x2, hat⟩ := hR.2.2.1 x (by rw [hk]; decide)
  obtain ⟨⟨cA, q1, q2, q3⟩, q4, q5⟩ := hat.2 _ hk (by decide)
  have hAr := arrOfT_moved hW.alike q2
  have hlt : i.toNat < (eLen ε x).toNat := by omega
  have hin : ¬ (Int32.ofInt i < 0 ∨ (eLen ε x).toNat ≤ (Int32.ofInt i).toNatClampNeg) := n_in h0 (by omega) (by omega)
  have hcl : (Int32.ofInt i).toNatClampNeg = i.toNat := n_clamp h0 (by omega)
  have hii : ((i.toNat : Nat) : Int) = i := Int.toNat_of_nonneg h0
  have hrest : ∀ (H' : Heap) (i9 : Nat), H'[nAd G x]? = some ((arrV cA (eLen ε x).toNat (fun j => toV G (tyV (aTy 13) (μ x j)))).setSlot i.toNat (toV G (vI v))) → H'.size = H.size → (∀ q, q ≠ nAd G x → H'[q]? = H[q]?) → W p l e R s m args below meth c H' (locs ++ [⟨nAd G x, i9⟩]) (eSz ε - z0) (eSl ε - n0) (Fn G z0 n0 below args s) (F0 m (pc + 1) ls (st.map (toV G))) := by
    intro H' i9 e1 e2 e3
    have hR' : Rep G (wr μ x i v) ε H' := by
      refine Rep_upd (x := x) hR (fun _ => rfl) (fun _ => rfl) rfl rfl (fun y hy j => rfl) (fun y hy j => wr_n _ _ (fun h => hy h.1)) x1 e2 e3 q1 e1 (setSlot_size _ _ _) ⟨fun c2 hc2 h8 => ?_, fun k2 hk2 h8 => ?_⟩
      · rw [hk] at hc2; omega
      · have e4 : k2 = 13 := hk2.symm.trans hk
        subst e4
        refine ⟨⟨cA, ?_, q2, q3⟩, q4, q5⟩
        rw [e1, arrV_store]
        congr 2
        funext j
        unfold updV
        split
        · rename_i ej
          rw [ej, hii, wr_s]; rfl
        · rename_i ej
          rw [wr_n _ _ (fun h => ej (by omega))]
    exact k9 G hG z0 n0 p l e R s m args below meth c hC htb H' _ ls hR' hl (hS.put e2 e3 (by show gB G < _; unfold nAd; omega)) hz hn
  show W p l e R s m args below meth c H locs (eSz ε - z0) (eSl ε - n0) (Fn G z0 n0 below args s) (F0 m pc ls (toV G (vI v) :: .int (Int32.ofInt i) :: va_rf (nRf G x) :: st.map (toV G)))
  rw [toV_ref x1]
  refine W.zast hx hb q1 (hAr _ _) (fun q => by cases q) (by rw [arrV_size]; exact hin) rfl rfl hd fun H' e1 e2 e3 => ?_
  rw [hcl, show narrow .boolean (.int (Int32.ofInt v)) = toV G (vI v) from (putOK_Z hv G).1] at e1
  exact hrest H' _ e1 e2 e3
theorem wq_aastI {M : nM} {pc : Nat} {L : List (Nat × nV)} {st : List nV} {μ : nMem} {ε : nEnv} {tb : List ExceptionTableEntry → Prop} {Fn : nG → Nat → Nat → List Frame → Array Value → State → State → Prop} {x i v : Int} (hd : decode (mCode M) pc = .ok (.aastore, 1)) (hk : eKind ε x = 14) (h0 : 0 ≤ i) (h1 : i < eLen ε x) (hv : eKind ε v = 2) (k9 : wpF M (pc + 1) L st (wr μ x i v) ε tb Fn) : wpF M pc L (vR v :: vI i :: vR x :: st) μ ε tb Fn := by
  intro G hG z0 n0 p l e R s m args below meth c hC htb H locs ls hR hl hS hz hn
  obtain ⟨hx, -, hb, -, -, -, hown, hnm, hW, hRm, hs0, ht0⟩ := id hC
  obtain ⟨x1, x2, hat⟩ := hR.2.2.1 x (by rw [hk]; decide)
  obtain ⟨⟨cA, q1, q2, q3⟩, q4, q5⟩ := hat.2 _ hk (by decide)
  have hAr := arrOfT_moved hW.alike q2
  have hlt : i.toNat < (eLen ε x).toNat := by omega
  have hin : ¬ (Int32.ofInt i < 0 ∨ (eLen ε x).toNat ≤ (Int32.ofInt i).toNatClampNeg) := n_in h0 (by omega) (by omega)
  have hcl : (Int32.ofInt i).toNatClampNeg = i.toNat := n_clamp h0 (by omega)
  have hii : ((i.toNat : Nat) : Int) = i := Int.toNat_of_nonneg h0
  have hrest : ∀ (H' : Heap) (i9 : Nat), H'[nAd G x]? = some ((arrV cA (eLen ε x).toNat (fun j => toV G (tyV (aTy 14) (μ x j)))).setSlot i.toNat (toV G (vR v))) → H'.size = H.size → (∀ q, q ≠ nAd G x → H'[q]? = H[q]?) → W p l e R s m args below meth c H' (locs ++ [⟨nAd G x, i9⟩]) (eSz ε - z0) (eSl ε - n0) (Fn G z0 n0 below args s) (F0 m (pc + 1) ls (st.map (toV G))) := by
    intro H' i9 e1 e2 e3
    have hR' : Rep G (wr μ x i v) ε H' := by
      refine Rep_upd (x := x) hR (fun _ => rfl) (fun _ => rfl) rfl rfl (fun y hy j => rfl) (fun y hy j => wr_n _ _ (fun h => hy h.1)) x1 e2 e3 q1 e1 (setSlot_size _ _ _) ⟨fun c2 hc2 h8 => ?_, fun k2 hk2 h8 => ?_⟩
      · rw [hk] at hc2; omega
      · have e4 : k2 = 14 := hk2.symm.trans hk
        subst e4
        refine ⟨⟨cA, ?_, q2, q3⟩, q4, q5⟩
        rw [e1, arrV_store]
        congr 2
        funext j
        unfold updV
        split
        · rename_i ej
          rw [ej, hii, wr_s]; rfl
        · rename_i ej
          rw [wr_n _ _ (fun h => ej (by omega))]
    exact k9 G hG z0 n0 p l e R s m args below meth c hC htb H' _ ls hR' hl (hS.put e2 e3 (by show gB G < _; unfold nAd; omega)) hz hn
  show W p l e R s m args below meth c H locs (eSz ε - z0) (eSl ε - n0) (Fn G z0 n0 below args s) (F0 m pc ls (toV G (vR v) :: .int (Int32.ofInt i) :: va_rf (nRf G x) :: st.map (toV G)))
  rw [toV_ref x1]
  obtain ⟨v1, v2, hatv⟩ := hR.2.2.1 v (by rw [hv]; decide)
  obtain ⟨rv, hrv, cellV, g1, g2, g3, -⟩ := hatv.1 1 hv (by decide)
  have erv : cTab 1 = rv := cTab_eq hrv
  subst erv
  have hcls : ClassAt s RX1 ((gD G).1 1) := (u_Kn_moved hW.alike (hG.2.2.1.1 1 _ hrv)).2
  obtain ⟨kA, comp, k1, k2, k3, -⟩ := va_RA.moved hW.alike q3
  have hcomp : comp = (gD G).1 1 := Option.some.inj (k3.symm.trans hcls.1)
  subst hcomp
  obtain ⟨kC, hkC, -⟩ := id hcls.2
  have hrest2 := hrest
  rw [show toV G (vR v) = Value.ref (nAd G v) from toV_ref v1] at hrest2 ⊢
  refine W.aast hx hb q1 (fun q h => by cases h) (fun h => by cases h) k1 k2 rfl hkC ⟨fun q => hin (Or.inl q), by show _ < (arrV _ _ _).slots.size; rw [arrV_size, hcl]; exact hlt⟩ g1 (fun q h => by rw [g3] at h; cases h) (by rw [g2]; exact hkC) (by rw [g2]; exact va_assign hcls) rfl rfl hd fun H' e1 e2 e3 => ?_
  rw [hcl] at e1
  exact hrest2 H' _ e1 e2 e3
theorem wq_aastN {M : nM} {pc : Nat} {L : List (Nat × nV)} {st : List nV} {μ : nMem} {ε : nEnv} {tb : List ExceptionTableEntry → Prop} {Fn : nG → Nat → Nat → List Frame → Array Value → State → State → Prop} {x i v : Int} (hd : decode (mCode M) pc = .ok (.aastore, 1)) (hk : eKind ε x = 15) (h0 : 0 ≤ i) (h1 : i < eLen ε x) (hv : eKind ε v = 5) (k9 : wpF M (pc + 1) L st (wr μ x i v) ε tb Fn) : wpF M pc L (vR v :: vI i :: vR x :: st) μ ε tb Fn := by
  intro G hG z0 n0 p l e R s m args below meth c hC htb H locs ls hR hl hS hz hn
  obtain ⟨hx, -, hb, -, -, -, hown, hnm, hW, hRm, hs0, ht0⟩ := id hC
  obtain ⟨x1, x2, hat⟩ := hR.2.2.1 x (by rw [hk]; decide)
  obtain ⟨⟨cA, q1, q2, q3⟩, q4, q5⟩ := hat.2 _ hk (by decide)
  have hAr := arrOfT_moved hW.alike q2
  have hlt : i.toNat < (eLen ε x).toNat := by omega
  have hin : ¬ (Int32.ofInt i < 0 ∨ (eLen ε x).toNat ≤ (Int32.ofInt i).toNatClampNeg) := n_in h0 (by omega) (by omega)
  have hcl : (Int32.ofInt i).toNatClampNeg = i.toNat := n_clamp h0 (by omega)
  have hii : ((i.toNat : Nat) : Int) = i := Int.toNat_of_nonneg h0
  have hrest : ∀ (H' : Heap) (i9 : Nat), H'[nAd G x]? = some ((arrV cA (eLen ε x).toNat (fun j => toV G (tyV (aTy 15) (μ x j)))).setSlot i.toNat (toV G (vR v))) → H'.size = H.size → (∀ q, q ≠ nAd G x → H'[q]? = H[q]?) → W p l e R s m args below meth c H' (locs ++ [⟨nAd G x, i9⟩]) (eSz ε - z0) (eSl ε - n0) (Fn G z0 n0 below args s) (F0 m (pc + 1) ls (st.map (toV G))) := by
    intro H' i9 e1 e2 e3
    have hR' : Rep G (wr μ x i v) ε H' := by
      refine Rep_upd (x := x) hR (fun _ => rfl) (fun _ => rfl) rfl rfl (fun y hy j => rfl) (fun y hy j => wr_n _ _ (fun h => hy h.1)) x1 e2 e3 q1 e1 (setSlot_size _ _ _) ⟨fun c2 hc2 h8 => ?_, fun k2 hk2 h8 => ?_⟩
      · rw [hk] at hc2; omega
      · have e4 : k2 = 15 := hk2.symm.trans hk
        subst e4
        refine ⟨⟨cA, ?_, q2, q3⟩, q4, q5⟩
        rw [e1, arrV_store]
        congr 2
        funext j
        unfold updV
        split
        · rename_i ej
          rw [ej, hii, wr_s]; rfl
        · rename_i ej
          rw [wr_n _ _ (fun h => ej (by omega))]
    exact k9 G hG z0 n0 p l e R s m args below meth c hC htb H' _ ls hR' hl (hS.put e2 e3 (by show gB G < _; unfold nAd; omega)) hz hn
  show W p l e R s m args below meth c H locs (eSz ε - z0) (eSl ε - n0) (Fn G z0 n0 below args s) (F0 m pc ls (toV G (vR v) :: .int (Int32.ofInt i) :: va_rf (nRf G x) :: st.map (toV G)))
  rw [toV_ref x1]
  obtain ⟨v1, v2, hatv⟩ := hR.2.2.1 v (by rw [hv]; decide)
  obtain ⟨rv, hrv, cellV, g1, g2, g3, -⟩ := hatv.1 4 hv (by decide)
  have erv : cTab 4 = rv := cTab_eq hrv
  subst erv
  have hcls : ClassAt s RX4 ((gD G).1 4) := (u_Kn_moved hW.alike (hG.2.2.1.1 4 _ hrv)).2
  obtain ⟨kA, comp, k1, k2, k3, -⟩ := va_RA.moved hW.alike q3
  have hcomp : comp = (gD G).1 4 := Option.some.inj (k3.symm.trans hcls.1)
  subst hcomp
  obtain ⟨kC, hkC, -⟩ := id hcls.2
  have hrest2 := hrest
  rw [show toV G (vR v) = Value.ref (nAd G v) from toV_ref v1] at hrest2 ⊢
  refine W.aast hx hb q1 (fun q h => by cases h) (fun h => by cases h) k1 k2 rfl hkC ⟨fun q => hin (Or.inl q), by show _ < (arrV _ _ _).slots.size; rw [arrV_size, hcl]; exact hlt⟩ g1 (fun q h => by rw [g3] at h; cases h) (by rw [g2]; exact hkC) (by rw [g2]; exact va_assign hcls) rfl rfl hd fun H' e1 e2 e3 => ?_
  rw [hcl] at e1
  exact hrest2 H' _ e1 e2 e3
theorem wq_alen {M : nM} {pc : Nat} {L : List (Nat × nV)} {st : List nV} {μ : nMem} {ε : nEnv} {tb : List ExceptionTableEntry → Prop} {Fn : nG → Nat → Nat → List Frame → Array Value → State → State → Prop} {x : Int} (hd : decode (mCode M) pc = .ok (.arraylength, 1)) (hk : 8 < eKind ε x) (k9 : wpF M (pc + 1) L (vI (eLen ε x) :: st) μ ε tb Fn) : wpF M pc L (vR x :: st) μ ε tb Fn := by
  intro G hG z0 n0 p l e R s m args below meth c hC htb H locs ls hR hl hS hz hn
  obtain ⟨hx, -, hb, -, -, -, hown, hnm, hW, hRm, hs0, ht0⟩ := id hC
  have h := k9 G hG z0 n0 p l e R s m args below meth c hC htb H locs ls hR hl hS hz hn
  obtain ⟨x1, x2, hat⟩ := hR.2.2.1 x (by omega)
  obtain ⟨⟨cA, q1, q2, q3⟩, q4, q5⟩ := hat.2 _ rfl hk
  have hAr := arrOfT_moved hW.alike q2
  show W p l e R s m args below meth c H locs (eSz ε - z0) (eSl ε - n0) (Fn G z0 n0 below args s) (F0 m pc ls (va_rf (nRf G x) :: st.map (toV G)))
  rw [toV_ref x1]
  refine W.alen (n := Int32.ofInt (eLen ε x)) hx hb q1 (hAr _ _) ?_ rfl rfl hd h
  rw [arrV_size]
  conv => rhs; rw [← Int.toNat_of_nonneg q4]
  rfl
theorem toV_scr (G : nG) : va_rf (nRf G (-1)) = .ref (gb G) := by
  unfold nRf
  rw [if_neg (by omega), if_pos (by omega)]
  rfl
theorem wq_slen {M : nM} {pc : Nat} {L : List (Nat × nV)} {st : List nV} {μ : nMem} {ε : nEnv} {tb : List ExceptionTableEntry → Prop} {Fn : nG → Nat → Nat → List Frame → Array Value → State → State → Prop} (hd : decode (mCode M) pc = .ok (.arraylength, 1)) (k9 : wpF M (pc + 1) L (vI (eLen ε (-1)) :: st) μ ε tb Fn) : wpF M pc L (vR (-1) :: st) μ ε tb Fn := by
  intro G hG z0 n0 p l e R s m args below meth c hC htb H locs ls hR hl hS hz hn
  obtain ⟨hx, -, hb, -, -, -, hown, hnm, hW, hRm, hs0, ht0⟩ := id hC
  have h := k9 G hG z0 n0 p l e R s m args below meth c hC htb H locs ls hR hl hS hz hn
  obtain ⟨⟨scr, a1, a2, a3, a4, a5⟩, b1, b2, b3⟩ := hR.2.2.2.2.2
  show W p l e R s m args below meth c H locs (eSz ε - z0) (eSl ε - n0) (Fn G z0 n0 below args s) (F0 m pc ls (va_rf (nRf G (-1)) :: st.map (toV G)))
  rw [toV_scr]
  refine W.alen (n := Int32.ofInt (eLen ε (-1))) hx hb ((hR.2.2.2.1 _ b1).trans a1) (State.isArrayOf_alike hW.alike a2) ?_ rfl rfl hd h
  rw [a4]
  conv => rhs; rw [← Int.toNat_of_nonneg b2]
  rfl
theorem wq_sld {M : nM} {pc : Nat} {L : List (Nat × nV)} {st : List nV} {μ : nMem} {ε : nEnv} {tb : List ExceptionTableEntry → Prop} {Fn : nG → Nat → Nat → List Frame → Array Value → State → State → Prop} {i : Int} (hd : decode (mCode M) pc = .ok (.iaload, 1)) (h0 : 0 ≤ i) (h1 : i < eLen ε (-1)) (k9 : wpF M (pc + 1) L (vI (μ (-1) i) :: st) μ ε tb Fn) : wpF M pc L (vI i :: vR (-1) :: st) μ ε tb Fn := by
  intro G hG z0 n0 p l e R s m args below meth c hC htb H locs ls hR hl hS hz hn
  obtain ⟨hx, -, hb, -, -, -, hown, hnm, hW, hRm, hs0, ht0⟩ := id hC
  have h := k9 G hG z0 n0 p l e R s m args below meth c hC htb H locs ls hR hl hS hz hn
  obtain ⟨⟨scr, a1, a2, a3, a4, a5⟩, b1, b2, b3⟩ := hR.2.2.2.2.2
  have hcl : (Int32.ofInt i).toNatClampNeg = i.toNat := n_clamp h0 (by omega)
  have hii : ((i.toNat : Nat) : Int) = i := Int.toNat_of_nonneg h0
  show W p l e R s m args below meth c H locs (eSz ε - z0) (eSl ε - n0) (Fn G z0 n0 below args s) (F0 m pc ls (.int (Int32.ofInt i) :: va_rf (nRf G (-1)) :: st.map (toV G)))
  rw [toV_scr]
  refine W.iald (v := .int (Int32.ofInt (μ (-1) i))) hx hb ((hR.2.2.2.1 _ b1).trans a1) (State.isArrayOf_alike hW.alike a2) a3 (by rw [a4]; exact n_in h0 (by omega) (by omega)) (by rw [hcl, a5 _ (by omega)]; show some (Value.int (Int32.ofInt (μ (-1) (i.toNat : Int)))) = _; rw [hii]) rfl rfl hd h
