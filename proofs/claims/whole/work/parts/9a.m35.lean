/-! ### a collection by the reference -/
theorem filt_1 {l : List Int} {b : Int} {t : Nat} (hn : l.Nodup) (ht : t < l.length) (hb : l.getD t 0 = b) : l.filter (fun x => !(x == b)) = l.take t ++ l.drop (t + 1) := by
  have hg : l[t] = b := by rw [← getD_E 0 ht]; exact hb
  have e : l = l.take t ++ l[t] :: l.drop (t + 1) := by
    rw [List.getElem_cons_drop, List.take_append_drop]
  have hn2 := hn
  rw [e, List.nodup_append] at hn2
  obtain ⟨n1, n2, n3⟩ := hn2
  rw [List.nodup_cons] at n2
  conv => lhs; rw [e]
  rw [List.filter_append, List.filter_cons_of_neg (by rw [hg]; simp), List.filter_eq_self.mpr (fun a ha => ?_), List.filter_eq_self.mpr (fun a ha => ?_)]
  · have : a ≠ b := fun z => n2.1 (by rw [hg, ← z]; exact ha)
    simp [this]
  · have : a ≠ b := fun z => n3 a ha l[t] List.mem_cons_self (by rw [hg]; exact z)
    simp [this]
theorem cut_len {l : List Int} {t : Nat} (ht : t < l.length) : (l.take t ++ l.drop (t + 1)).length = l.length - 1 := by
  rw [List.length_append, List.length_take, List.length_drop]; omega
theorem cut_get {l : List Int} {t i : Nat} (ht : t < l.length) : (l.take t ++ l.drop (t + 1)).getD i 0 = if i < t then l.getD i 0 else l.getD (i + 1) 0 := by
  rw [List.getD_eq_getElem?_getD, List.getD_eq_getElem?_getD, List.getD_eq_getElem?_getD]
  by_cases c : i < t
  · rw [if_pos c, List.getElem?_append_left (by rw [List.length_take]; omega), List.getElem?_take, if_pos c]
  · rw [if_neg c, List.getElem?_append_right (by rw [List.length_take]; omega), List.length_take, Nat.min_eq_left (by omega), List.getElem?_drop]
    congr 2
    omega
theorem vic_mem {A : AS} {dr : Int} (h : (aG A).2.2.length ≠ 0) : vicA A dr ∈ (aG A).2.2 := by
  unfold vicA
  rcases vc_sp (aF A) (tS (aF A)) (aG A) (wantOf dr) (aG A).2.2.length with ⟨z, -⟩ | ⟨-, i, hi, b1, -, -⟩
  · exact absurd z h
  · rw [b1]; exact lget_mem 0 hi
theorem vic_none {A : AS} {dr : Int} (h : (aG A).2.2.length = 0) : vicA A dr = -1 := by
  unfold vicA
  rw [h]; rfl
theorem lFree_1 {F : Fl} {g : Lg} {b : Int} (h : (fErR F b).2 = true) : lFree F g b = ((fErR F b).1, (g.1, g.2.1 ++ [b], g.2.2.filter (fun x => !(x == b))), true) := by unfold lFree; rw [if_pos h, h]
theorem lFree_0 {F : Fl} {g : Lg} {b : Int} (h : (fErR F b).2 = false) : lFree F g b = ((fErR F b).1, g, false) := by unfold lFree; rw [if_neg (by rw [h]; decide), h]
theorem uOf_get (F : Fl) (cs : List Int) (i : Nat) (h : i < cs.length) : (uOf F cs).getD i 0 = fN F (cs.getD i 0) 1 := by
  unfold uOf
  rw [List.getD_eq_getElem?_getD, List.getD_eq_getElem?_getD, List.getElem?_map, List.getElem?_eq_getElem h]; rfl
theorem uOf_len (F : Fl) (cs : List Int) : (uOf F cs).length = cs.length := List.length_map _
theorem sp_X7_collect {μ : nMem} {ε : nEnv} {Q : nOut → nMem → nEnv → Prop} {A : AS} {nb vb dr : Int} (hC : CM A μ ε) (hO : AOK A nb vb) (r1 : inR dr) (hfE : ∀ b, 0 ≤ b → b < 8 → 0 ≤ fE (aF A) b ∧ fE (aF A) b ≤ 190000) (h : ∀ m v, CM (actCollect A dr).2 m ε → FrM μ m → anM (actCollect A dr).1 [xA, xS] v m → Q (.inl (some (vI v))) m ε) : Sp mX7_collect [vR 21, vI dr] μ ε Q := by
  refine Sp_of (L := [(0, vR 21), (1, vI dr)]) (by decide) rfl rfl (Nat.le_of_ble_eq_true rfl) ?_
  have hs := hC.1.1
  have q21 := hC.2.1.2
  have hD := hO.2.1
  have r21 : inR (μ 21 21) := by unfold inR; omega
  unfold actCollect at h
  have hclm : fD (aF A) = 0 → μ 21 19 = (aG A).2.2.length ∧ (aG A).2.2.length ≤ 8 := fun z => by
    obtain ⟨fl, S0, hP, hT⟩ := hO.2.2 z
    exact ⟨(hC.2.2 z).1.2.2.2.1, (GM_len hP.2.2.2.1).2⟩
  have cut1 : ∀ (m : nMem), (CM A m ε) → (FrM μ m) → (m 21 25 = 0) → (fD (aF A) = 0) → (0 ≤ dr ∧ dr ≤ 127) → ((aG A).2.2.length ≠ 0) → wp mX7_collect 50 [(0, vR 21), (1, vI dr)] [] m ε Q := by
    intro m e0 e1 e2 e3 e4 e5
    have hs := e0.1.1
    have hA := AOK_KP hO
    have hd := e3
    obtain ⟨fl, S0, hP, hT⟩ := hO.2.2 e3
    have hf := hP.2.2.2.2.2.1
    have hL := hP.2.2.2.1
    have hSS := tS_S hP hT
    rw [pI_on e3, pI_0 (fun z => z e4)] at h
    have hvm := vic_mem (A := A) (dr := dr) e5
    have hvb := (hL.2.2.2.1 _ hvm).1
    have e0o := e0
    have e1o := e1
    have e2o := e2
    have e4o := e4
    refine wq_aload_n (pc := 50) dX7_collect_50 rfl rfl ?_
    refine wq_iload_n (pc := 51) dX7_collect_51 rfl rfl ?_
    refine cVK_1 (pc := 52) dX7_collect_52 hs (cw_X7_267 _ rfl) (by decide) rfl ⟨by decide, by decide⟩ (Nat.le_of_ble_eq_true rfl) (sp_X7_chosen e0 hA hf hd hL e4 (fun m2 C2 F2 t2 => ?_))
    refine kr_s ?_
    generalize vicA A dr = b at hvm hvb h ⊢
    have F2b := FrM_t e1 F2
    have t2b : m2 21 25 = 0 := by rw [t2]; exact e2
    refine wq_istore_n (pc := 55) (L' := [(2, _), (0, _), (1, _)]) dX7_collect_55 rfl rfl (by decide) ?_
    refine wq_aload_n (pc := 56) dX7_collect_56 rfl rfl ?_
    refine wq_iload_n (pc := 57) dX7_collect_57 rfl rfl ?_
    refine cVK_1 (pc := 58) dX7_collect_58 hs (cw_X7_270 _ rfl) (by decide) rfl ⟨by decide, by decide⟩ (Nat.le_of_ble_eq_true rfl) (sp_X7_layCopies C2 hO hd hvb (fun m3 C3 F3 t27 cc => ?_))
    refine kr_s ?_
    unfold chosenA at h
    have F3b := FrM_t F2b (FrM_C F3)
    have t3 : m3 21 25 = 0 := by rw [F3 21 25 (by omega) (by omega) (by omega)]; exact t2b
    have hfc := (hA.1 b hvb.1 hvb.2).1.1
    have hcl := ck_len (aF A) (tS (aF A)) b (fC (aF A) b).toNat
    obtain ⟨-, -, kC, -⟩ := ck_EQ hP hT hvb (fC (aF A) b).toNat (by omega)
    rw [ck_cg hSS] at kC
    have hcs : csOK (aF A) b (ck (aF A) (tS (aF A)) b (fC (aF A) b).toNat).2 := fun i hi => by obtain ⟨q1, q2, -⟩ := kC i hi; exact ⟨by omega, q2⟩
    generalize (ck (aF A) (tS (aF A)) b (fC (aF A) b).toNat).2 = cs at h cc hcl hcs ⊢
    have hcn : cs.length ≤ 13 := by omega
    have rcs : inR (cs.length : Int) := by unfold inR; omega
    refine wq_istore_n (pc := 61) (L' := [(3, _), (2, _), (0, _), (1, _)]) dX7_collect_61 rfl rfl (by decide) ?_
    refine wq_iconst (pc := 62) dX7_collect_62 ?_
    refine wq_istore (pc := 63) (L' := [(4, _), (3, _), (2, _), (0, _), (1, _)]) dX7_collect_63 rfl (by decide) ?_
    have loop4 : ∀ (n k : Nat), ∀ (m : nMem) (j : Int), k ≤ 16 → 16 < k + n → j = (k : Int) → k ≤ cs.length → CM A m ε → (∀ x j, x ≠ 52 → m x j = m3 x j) → (∀ t : Nat, t < k → m 52 t = fN (aF A) (cs.getD t 0) 1) → wp mX7_collect 65 [(0, vR 21), (1, vI dr), (2, vI b), (3, vI (cs.length : Int)), (4, vI j)] [] m ε Q := by
      intro n
      induction n with
      | zero => intro k m j hk1 hk2 e0 e1 e2 e3 e4; exact absurd hk2 (by omega)
      | succ n ih =>
        intro k m j hk1 hk2 e0 e1 e2 e3 e4
        subst e0
        have rk : inR (k : Int) := by unfold inR; omega
        have s54 : k < cs.length → m 54 (k : Int) = cs.getD k 0 := fun z => by rw [e3 54 _ (by decide)]; exact cc k z
        have hck := fun z => hcs _ (lget_mem (l := cs) (i := k) 0 z)
        refine wq_iload (pc := 65) dX7_collect_65 rfl ?_
        refine wq_iload_n (pc := 67) dX7_collect_67 rfl rfl ?_
        refine wq_icmp_ge (pc := 68) (tgt := 96) dX7_collect_68 (by decide) (by first | (unfold inR; omega) | assumption) (by first | (unfold inR; omega) | assumption) (fun c5 => ?_) (fun c5 => ?_)
        · skip
          have hk9 : k = cs.length := by omega
          subst hk9
          have C4 := e2
          have s52 := e4
          have f4 := e3
          obtain ⟨hG, -, -⟩ := e2.2.2 hd
          have l8 := GM_len hL
          have q16 := hG.2.1
          have q17 := hG.1
          have hL1 := hL.1
          have tU : tr0 (aF A) (aG A) ((aG A).2.1.length : Int) = (if m 21 17 = -1 then 40 else m 35 (m 21 17), if m 21 17 = -1 then 0 else m 34 (m 21 17), ((aG A).2.1.length : Int)) := by
            unfold tr0
            rw [q17]
            by_cases c : (aG A).1 = -1
            · rw [if_pos c, if_pos c, if_pos c, if_pos c]
            · have := e2.1.2.2.1.1 (aG A).1 (by omega) (by omega)
              rw [if_neg c, if_neg c, if_neg c, if_neg c, this.1, this.2.1]
          have hrt : (mRm m (if m 21 17 = -1 then 40 else m 35 (m 21 17)) (if m 21 17 = -1 then 0 else m 34 (m 21 17)) ((cs.length : Int)).toNat).2.2 ≤ m 21 16 ↔ trL (uOf (aF A) cs) (tr0 (aF A) (aG A) ((aG A).2.1.length : Int)) := by
            rw [tU, show ((cs.length : Int)).toNat = (uOf (aF A) cs).length by rw [uOf_len]; omega]
            refine mRm_trL (fun i hi => ?_) (by omega)
            rw [uOf_len] at hi
            rw [uOf_get _ _ _ hi]; exact s52 i hi
          have C4o := C4
          have cut6 : ∀ (m : nMem), (CM A m ε) → (FrM μ m) → (m 21 25 = 0) → (m 21 27 = 0) → (∀ t : Nat, t < cs.length → m 54 t = cs.getD t 0) → (trL (uOf (aF A) cs) (tr0 (aF A) (aG A) ((aG A).2.1.length : Int))) → wp mX7_collect 126 [(0, vR 21), (1, vI dr), (2, vI b), (3, vI (cs.length : Int))] [] m ε Q := by
            intro m e0 e1 e2 e3 e4 e5
            unfold actColl1 at h
            rw [pI_0 (by omega), pI_0 (fun z => z e5)] at h
            have hCP0 := CPI_0 (F0 := aF A) (g := aG A) (b := b) (cs := cs) hA.1 hL hvm hd e5
            obtain ⟨hG0, h22, h39⟩ := e0.2.2 hd
            unfold actColl2 at h
            refine wq_iconst (pc := 126) dX7_collect_126 ?_
            refine wq_istore (pc := 127) (L' := [(4, _), (0, _), (1, _), (2, _), (3, _)]) dX7_collect_127 rfl (by decide) ?_
            have loop7 : ∀ (n k : Nat), ∀ (m5 : nMem) (Fk : Fl) (gk : Lg) (j : Int), k ≤ 13 → 13 < k + n → j = (k : Int) → k ≤ cs.length → CPI (aF A) b cs k Fk gk → WM Fk gk m5 ε → m5 21 27 = 0 ∧ m5 21 25 = 0 ∧ m5 21 22 = aX A → (∀ n : Int, 0 ≤ n → n < 2048 → m5 39 n = aD A n ∧ m5 40 n = aN A n) → cpL (cs.drop k) Fk gk = cpL cs (aF A) (aG A) → (∀ t : Nat, t < cs.length → m5 54 t = cs.getD t 0) → FrM μ m5 → fE Fk = fE (aF A) → wp mX7_collect 129 [(0, vR 21), (1, vI dr), (2, vI b), (3, vI (cs.length : Int)), (4, vI j)] [] m5 ε Q := by
              intro n
              induction n with
              | zero => intro k m5 Fk gk j hk1 hk2 e0 e1 e2 e3 e4 e5 e6 e7 e8 e9; exact absurd hk2 (by omega)
              | succ n ih =>
                intro k m5 Fk gk j hk1 hk2 e0 e1 e2 e3 e4 e5 e6 e7 e8 e9
                subst e0
                have rk : inR (k : Int) := by unfold inR; omega
                have s54 := fun z => e7 k z
                have hpre := fun z => cp_pre e2 hvb hcs (k := k) z
                refine wq_iload (pc := 129) dX7_collect_129 rfl ?_
                refine wq_iload_n (pc := 131) dX7_collect_131 rfl rfl ?_
                refine wq_icmp_ge (pc := 132) (tgt := 259) dX7_collect_132 (by decide) (by first | (unfold inR; omega) | assumption) (by first | (unfold inR; omega) | assumption) (fun c8 => ?_) (fun c8 => ?_)
                · skip
                  have hk9 : k = cs.length := by omega
                  rw [hk9, List.drop_length] at e6
                  have hcp : cpL cs (aF A) (aG A) = (Fk, gk, true) := e6.symm
                  rw [hcp] at h
                  rw [if_neg (show ¬ (true = false) by decide)] at h
                  dsimp only at h
                  have hm := e2.2.2.1
                  have lG := GM_len e2.2.1
                  obtain ⟨e3s, e3b, e3R, e3G, e3p⟩ := id e3
                  obtain ⟨G1, G2, G3, G4, G5⟩ := id e3G
                  have hK2 := e2
                  have hx4 := e4
                  have hx5 := e5
                  have hx8 := e8
                  have hx9 := e9
                  have hndc := e2.2.1.2.2.2.2.1.2.1
                  have hfr8 := (free_ok hK2.1 hK2.2.1 hm).1
                  have hlfk := hK2.2.1.2.2.2.2.2.2
                  obtain ⟨t0, ht0, htb⟩ := mem_lget 0 hm
                  have rb : inR b := by unfold inR; omega
                  refine wq_iconst (pc := 259) dX7_collect_259 ?_
                  refine wq_istore (pc := 260) (L' := [(4, _), (0, _), (1, _), (2, _), (3, _)]) dX7_collect_260 rfl (by decide) ?_
                  have loop9 : ∀ (n k : Nat), ∀ (j : Int), k ≤ 8 → 8 < k + n → j = (k : Int) → k ≤ t0 → (∀ i : Nat, i < k → gk.2.2.getD i 0 ≠ b) → wp mX7_collect 262 [(0, vR 21), (1, vI dr), (2, vI b), (3, vI (cs.length : Int)), (4, vI j)] [] m5 ε Q := by
                    intro n
                    induction n with
                    | zero => intro k j hk1 hk2 e0 e1 e2; exact absurd hk2 (by omega)
                    | succ n ih =>
                      intro k j hk1 hk2 e0 e1 e2
                      subst e0
                      have rk : inR (k : Int) := by unfold inR; omega
                      have q38 := G5 k (by omega)
                      have r38 : inR (m5 38 (k : Int)) := (mR_of e3b) 38 _ (by decide) (by decide) (by decide)
                      refine wq_aload_n (pc := 262) dX7_collect_262 rfl rfl ?_
                      refine wq_getS (pc := 263) dX7_collect_263 hs (gf_X7_60 _ rfl) rfl rfl rfl rfl rfl ?_
                      refine wq_iload (pc := 266) dX7_collect_266 rfl ?_
                      refine wq_ialdK (pc := 268) dX7_collect_268 hs rfl (by omega) (by omega) ?_
                      refine wq_iload_n (pc := 269) dX7_collect_269 rfl rfl ?_
                      refine wq_icmp_eq (pc := 270) (tgt := 279) dX7_collect_270 (by decide) (by first | (unfold inR; omega) | assumption) (by first | (unfold inR; omega) | assumption) (fun c10 => ?_) (fun c10 => ?_)
                      · skip
                        have hbt : gk.2.2.getD k 0 = b := by omega
                        have hkl : k < gk.2.2.length := by omega
                        have hfil := filt_1 hndc hkl hbt
                        obtain ⟨T, hT9⟩ : ∃ T : Nat, T = k := ⟨k, rfl⟩
                        rw [← hT9] at hbt hkl hfil ⊢
                        refine wq_aload_n (pc := 279) dX7_collect_279 rfl rfl ?_
                        refine wq_dup (pc := 280) dX7_collect_280 rfl ?_
                        refine wq_getIK (pc := 281) (kk := 19) dX7_collect_281 hs (gf_X7_192 _ rfl) rfl rfl rfl rfl ?_
                        refine wq_iconst (pc := 284) dX7_collect_284 ?_
                        refine wq_isub (pc := 285) dX7_collect_285 ?_
                        refine wq_putIK (pc := 286) (kk := 19) dX7_collect_286 hs (gf_X7_192 _ rfl) rfl rfl rfl rfl rfl ?_
                        refine wq_iload (pc := 289) dX7_collect_289 rfl ?_
                        refine wq_istore (pc := 291) (L' := [(5, _), (0, _), (1, _), (2, _), (3, _), (4, _)]) dX7_collect_291 rfl (by decide) ?_
                        have loop11 : ∀ (n k : Nat), ∀ (m7 : nMem) (j : Int), k ≤ 8 → 8 < k + n → j = (T : Int) + (k : Int) → T + k < gk.2.2.length → mB m7 → m7 21 19 = (gk.2.2.length : Int) - 1 → (∀ x j, x ≠ 38 → ¬ (x = 21 ∧ j = 19) → m7 x j = m5 x j) → (∀ i : Nat, i < T + k → m7 38 i = if i < T then gk.2.2.getD i 0 else gk.2.2.getD (i + 1) 0) → (∀ i : Nat, T + k ≤ i → i < gk.2.2.length → m7 38 i = gk.2.2.getD i 0) → wp mX7_collect 293 [(0, vR 21), (1, vI dr), (2, vI b), (3, vI (cs.length : Int)), (5, vI j)] [] m7 ε Q := by
                          intro n
                          induction n with
                          | zero => intro k m7 j hk1 hk2 e0 e1 e2 e3 e4 e5 e6; exact absurd hk2 (by omega)
                          | succ n ih =>
                            intro k m7 j hk1 hk2 e0 e1 e2 e3 e4 e5 e6
                            subst e0
                            have rk : inR ((T : Int) + (k : Int)) := by unfold inR; omega
                            have r19 : inR (m7 21 19) := by unfold inR; omega
                            refine wq_iload (pc := 293) dX7_collect_293 rfl ?_
                            refine wq_aload_n (pc := 295) dX7_collect_295 rfl rfl ?_
                            refine wq_getIK (pc := 296) (kk := 19) dX7_collect_296 hs (gf_X7_192 _ rfl) rfl rfl rfl rfl ?_
                            refine wq_icmp_ge (pc := 299) (tgt := 324) dX7_collect_299 (by decide) (by first | (unfold inR; omega) | assumption) (by first | (unfold inR; omega) | assumption) (fun c12 => ?_) (fun c12 => ?_)
                            · skip
                              refine wq_aload_n (pc := 324) dX7_collect_324 rfl rfl ?_
                              refine wq_iload_n (pc := 325) dX7_collect_325 rfl rfl ?_
                              refine cVK_1 (pc := 326) dX7_collect_326 hs (cw_X7_273 _ rfl) (by decide) rfl ⟨by decide, by decide⟩ (Nat.le_of_ble_eq_true rfl) (sp_X7_erases (F := Fk) hs e2 (RM_cg e3R (fun x j x0 x1 => e4 x j (by omega) (by omega))) ⟨(e4 21 20 (by omega) (by omega)).trans e3p.1, (e4 21 21 (by omega) (by omega)).trans e3p.2⟩ ((e4 21 27 (by omega) (by omega)).trans hx4.1) (by rw [e4 21 16 (by omega) (by omega), G2]; omega) hvb hlfk (by rw [hx9]; exact hfE b hvb.1 hvb.2) (fun her m8 hb8 R8 p8 t8 f8 => ?_) (fun her m8 hb8 R8 p8 t8 f8 v16 v37 => ?_))
                              · skip
                                refine kr_s ?_
                                have her9 := her
                                refine wq_if_eq (pc := 329) (tgt := 336) dX7_collect_329 (by decide) (by first | (unfold inR; omega) | assumption) (fun _ => ?_) (fun c => absurd c (by decide))
                                refine wq_bipush (pc := 336) dX7_collect_336 (by decide) (by decide) ?_
                                refine wq_iret (pc := 338) dX7_collect_338 rfl ?_
                                first
                                  | (have hz9 : m7 21 19 = _ := e3
                                     have hTk : T + k = gk.2.2.length - 1 := by omega
                                     rw [lFree_1 her9] at h
                                     rw [if_neg (show ¬ (true = false) by decide)] at h
                                     dsimp only at h
                                     refine h _ _ ⟨⟨hs, hb8, R8, Or.inl t8⟩, p8, fun _ => ⟨⟨?_, ?_, fun i hi => ?_, ?_, fun i hi => ?_⟩, ?_, fun n n0 n1 => ⟨?_, ?_⟩⟩⟩ (fun x j hx => by rw [f8 x j (by omega) (by omega) (by omega) (by omega) (by omega), e4 x j (by omega) (by omega)]; exact hx8 x j hx) (anM_v ?_)
                                     · rw [f8 21 17 (by omega) (by omega) (by omega) (by omega) (by omega), e4 21 17 (by omega) (by omega)]; exact G1
                                     · rw [v16, e4 21 16 (by omega) (by omega), G2]
                                       show _ = ((gk.2.1 ++ [b]).length : Int)
                                       rw [List.length_append]; rfl
                                     · have hi2 : i < gk.2.1.length + 1 := by
                                         have hi : i < (gk.2.1 ++ [b]).length := hi
                                         rw [List.length_append] at hi; exact hi
                                       show m8 37 i = (gk.2.1 ++ [b]).getD i 0
                                       rw [getD_app]
                                       have q16 : m7 21 16 = gk.2.1.length := by rw [e4 21 16 (by omega) (by omega)]; exact G2
                                       by_cases ci : i < gk.2.1.length
                                       · rw [if_pos ci, f8 37 i (by omega) (by omega) (by omega) (by omega) (by omega), e4 37 i (by omega) (by omega)]; exact G3 i ci
                                       · rw [if_neg ci, if_pos (by omega), show (i : Int) = m7 21 16 by omega]; exact v37
                                     · rw [f8 21 19 (by omega) (by omega) (by omega) (by omega) (by omega), e3]
                                       show _ = ((gk.2.2.filter (fun x => !(x == b))).length : Int)
                                       rw [hfil, cut_len hkl]; omega
                                     · have hi : i < (gk.2.2.filter (fun x => !(x == b))).length := hi
                                       rw [hfil, cut_len hkl] at hi
                                       show m8 38 i = (gk.2.2.filter (fun x => !(x == b))).getD i 0
                                       rw [hfil, cut_get hkl, f8 38 i (by omega) (by omega) (by omega) (by omega) (by omega)]
                                       exact e5 i (by omega)
                                     · rw [f8 21 22 (by omega) (by omega) (by omega) (by omega) (by omega), e4 21 22 (by omega) (by omega)]; exact hx4.2.2
                                     · rw [f8 39 n (by omega) (by omega) (by omega) (by omega) (by omega), e4 39 n (by omega) (by omega)]; exact (hx5 n n0 n1).1
                                     · rw [f8 40 n (by omega) (by omega) (by omega) (by omega) (by omega), e4 40 n (by omega) (by omega)]; exact (hx5 n n0 n1).2
                                     · rw [f8 21 25 (by omega) (by omega) (by omega) (by omega) (by omega), e4 21 25 (by omega) (by omega)]; exact hx4.2.1)
                                  | (rw [lFree_0 her9] at h
                                     rw [if_pos rfl] at h
                                     refine h _ _ ⟨⟨hs, hb8, R8, Or.inl t8⟩, p8, fun z => ?_⟩ (fun x j hx => by rw [f8 x j (by omega) (by omega) (by omega) (by omega) (by omega), e4 x j (by omega) (by omega)]; exact hx8 x j hx) (anM_v ?_)
                                     · have z : fD (fErR Fk b).1 = 0 := z
                                       have := (erR_rows (F := Fk) (b := b)).2 her9
                                       omega
                                     · rw [f8 21 25 (by omega) (by omega) (by omega) (by omega) (by omega), e4 21 25 (by omega) (by omega)]; exact hx4.2.1)
                                  | (obtain ⟨st1, st2⟩ := cp_step e2 hvb hcs (k := k) (by omega) rfl
                                     obtain ⟨-, -, -, -, y6, -⟩ := id P6
                                     have hdr := drop_get (l := cs) (k := k) (by omega)
                                     rw [hdr, cpL_0 hr6] at e6
                                     rw [← e6, if_pos hr6] at h
                                     exact h _ _ (CM_put hs P6 (fun z => absurd z (by rw [hr6]; decide)) (fun _ => (st2 hr6).1)) (FrM_t e8 (FrM_P y6)) (anM_v (by rw [y6 21 25 (by omega) (by omega)]; exact e4.2.1)))
                                  | (unfold actColl1 at h
                                     rw [pI_0 (by omega), pI_1 hrm9] at h
                                     exact h _ _ (CM_25 C4) (FrM_t (FrM_t F3b (fun x j hx => f4 x j (by omega))) (FrM_w (by omega))) (anM_x 1 rfl (wr_s _ _ _ _)))
                                  | (exfalso; omega)
                                  | (have hv9 := vic_none (A := A) (dr := dr) (by omega)
                                     unfold actColl1 at h
                                     rw [pI_on (by omega), pI_0 (fun z => z (by omega)), hv9, pI_1 rfl] at h
                                     exact h _ _ (CM_25 hC) (FrM_w (by omega)) (anM_x 1 rfl (wr_s _ _ _ _)))
                                  | (rw [pI_on (by omega), pI_1 (by omega)] at h
                                     exact h _ _ (CM_25 hC) (FrM_w (by omega)) (anM_x 0 rfl (wr_s _ _ _ _)))
                                  | (rw [pI_1 (show dk A by show fD (aF A) = 1; omega)] at h
                                     exact h _ _ (CM_25 hC) (FrM_w (by omega)) (anM_x 1 rfl (wr_s _ _ _ _)))
                              · skip
                                refine kr_s ?_
                                have her9 := her
                                refine wq_if_eq (pc := 329) (tgt := 336) dX7_collect_329 (by decide) (by first | (unfold inR; omega) | assumption) (fun c => absurd c (by decide)) (fun _ => ?_)
                                refine wq_iload_n (pc := 332) dX7_collect_332 rfl rfl ?_
                                refine wq_goto (pc := 333) (tgt := 338) dX7_collect_333 (by decide) ?_
                                refine wq_iret (pc := 338) dX7_collect_338 rfl ?_
                                first
                                  | (have hz9 : m7 21 19 = _ := e3
                                     have hTk : T + k = gk.2.2.length - 1 := by omega
                                     rw [lFree_1 her9] at h
                                     rw [if_neg (show ¬ (true = false) by decide)] at h
                                     dsimp only at h
                                     refine h _ _ ⟨⟨hs, hb8, R8, Or.inl t8⟩, p8, fun _ => ⟨⟨?_, ?_, fun i hi => ?_, ?_, fun i hi => ?_⟩, ?_, fun n n0 n1 => ⟨?_, ?_⟩⟩⟩ (fun x j hx => by rw [f8 x j (by omega) (by omega) (by omega) (by omega) (by omega), e4 x j (by omega) (by omega)]; exact hx8 x j hx) (anM_v ?_)
                                     · rw [f8 21 17 (by omega) (by omega) (by omega) (by omega) (by omega), e4 21 17 (by omega) (by omega)]; exact G1
                                     · rw [v16, e4 21 16 (by omega) (by omega), G2]
                                       show _ = ((gk.2.1 ++ [b]).length : Int)
                                       rw [List.length_append]; rfl
                                     · have hi2 : i < gk.2.1.length + 1 := by
                                         have hi : i < (gk.2.1 ++ [b]).length := hi
                                         rw [List.length_append] at hi; exact hi
                                       show m8 37 i = (gk.2.1 ++ [b]).getD i 0
                                       rw [getD_app]
                                       have q16 : m7 21 16 = gk.2.1.length := by rw [e4 21 16 (by omega) (by omega)]; exact G2
                                       by_cases ci : i < gk.2.1.length
                                       · rw [if_pos ci, f8 37 i (by omega) (by omega) (by omega) (by omega) (by omega), e4 37 i (by omega) (by omega)]; exact G3 i ci
                                       · rw [if_neg ci, if_pos (by omega), show (i : Int) = m7 21 16 by omega]; exact v37
                                     · rw [f8 21 19 (by omega) (by omega) (by omega) (by omega) (by omega), e3]
                                       show _ = ((gk.2.2.filter (fun x => !(x == b))).length : Int)
                                       rw [hfil, cut_len hkl]; omega
                                     · have hi : i < (gk.2.2.filter (fun x => !(x == b))).length := hi
                                       rw [hfil, cut_len hkl] at hi
                                       show m8 38 i = (gk.2.2.filter (fun x => !(x == b))).getD i 0
                                       rw [hfil, cut_get hkl, f8 38 i (by omega) (by omega) (by omega) (by omega) (by omega)]
                                       exact e5 i (by omega)
                                     · rw [f8 21 22 (by omega) (by omega) (by omega) (by omega) (by omega), e4 21 22 (by omega) (by omega)]; exact hx4.2.2
                                     · rw [f8 39 n (by omega) (by omega) (by omega) (by omega) (by omega), e4 39 n (by omega) (by omega)]; exact (hx5 n n0 n1).1
                                     · rw [f8 40 n (by omega) (by omega) (by omega) (by omega) (by omega), e4 40 n (by omega) (by omega)]; exact (hx5 n n0 n1).2
                                     · rw [f8 21 25 (by omega) (by omega) (by omega) (by omega) (by omega), e4 21 25 (by omega) (by omega)]; exact hx4.2.1)
                                  | (rw [lFree_0 her9] at h
                                     rw [if_pos rfl] at h
                                     refine h _ _ ⟨⟨hs, hb8, R8, Or.inl t8⟩, p8, fun z => ?_⟩ (fun x j hx => by rw [f8 x j (by omega) (by omega) (by omega) (by omega) (by omega), e4 x j (by omega) (by omega)]; exact hx8 x j hx) (anM_v ?_)
                                     · have z : fD (fErR Fk b).1 = 0 := z
                                       have := (erR_rows (F := Fk) (b := b)).2 her9
                                       omega
                                     · rw [f8 21 25 (by omega) (by omega) (by omega) (by omega) (by omega), e4 21 25 (by omega) (by omega)]; exact hx4.2.1)
                                  | (obtain ⟨st1, st2⟩ := cp_step e2 hvb hcs (k := k) (by omega) rfl
                                     obtain ⟨-, -, -, -, y6, -⟩ := id P6
                                     have hdr := drop_get (l := cs) (k := k) (by omega)
                                     rw [hdr, cpL_0 hr6] at e6
                                     rw [← e6, if_pos hr6] at h
                                     exact h _ _ (CM_put hs P6 (fun z => absurd z (by rw [hr6]; decide)) (fun _ => (st2 hr6).1)) (FrM_t e8 (FrM_P y6)) (anM_v (by rw [y6 21 25 (by omega) (by omega)]; exact e4.2.1)))
                                  | (unfold actColl1 at h
                                     rw [pI_0 (by omega), pI_1 hrm9] at h
                                     exact h _ _ (CM_25 C4) (FrM_t (FrM_t F3b (fun x j hx => f4 x j (by omega))) (FrM_w (by omega))) (anM_x 1 rfl (wr_s _ _ _ _)))
                                  | (exfalso; omega)
                                  | (have hv9 := vic_none (A := A) (dr := dr) (by omega)
                                     unfold actColl1 at h
                                     rw [pI_on (by omega), pI_0 (fun z => z (by omega)), hv9, pI_1 rfl] at h
                                     exact h _ _ (CM_25 hC) (FrM_w (by omega)) (anM_x 1 rfl (wr_s _ _ _ _)))
                                  | (rw [pI_on (by omega), pI_1 (by omega)] at h
                                     exact h _ _ (CM_25 hC) (FrM_w (by omega)) (anM_x 0 rfl (wr_s _ _ _ _)))
                                  | (rw [pI_1 (show dk A by show fD (aF A) = 1; omega)] at h
                                     exact h _ _ (CM_25 hC) (FrM_w (by omega)) (anM_x 1 rfl (wr_s _ _ _ _)))
                            · skip
                              refine wq_aload_n (pc := 302) dX7_collect_302 rfl rfl ?_
                              refine wq_getS (pc := 303) dX7_collect_303 hs (gf_X7_60 _ rfl) rfl rfl rfl rfl rfl ?_
                              refine wq_iload (pc := 306) dX7_collect_306 rfl ?_
                              refine wq_aload_n (pc := 308) dX7_collect_308 rfl rfl ?_
                              refine wq_getS (pc := 309) dX7_collect_309 hs (gf_X7_60 _ rfl) rfl rfl rfl rfl rfl ?_
                              refine wq_iload (pc := 312) dX7_collect_312 rfl ?_
                              refine wq_iconst (pc := 314) dX7_collect_314 ?_
                              refine wq_iadd (pc := 315) dX7_collect_315 ?_
                              refine wq_ialdK (pc := 316) dX7_collect_316 hs rfl (by omega) (by omega) ?_
                              refine wq_iastK (pc := 317) dX7_collect_317 hs rfl (by omega) (by omega) ?_
                              refine wq_iinc (pc := 318) (L' := [(5, _), (0, _), (1, _), (2, _), (3, _)]) dX7_collect_318 rfl rfl (by decide) ?_
                              refine wq_goto (pc := 321) (tgt := 293) dX7_collect_321 (by decide) ?_
                              refine wq_sub1 (L' := [(0, _), (1, _), (2, _), (3, _), (5, _)]) ⟨rfl, rfl, rfl, rfl, rfl, trivial⟩ ?_
                              refine ih (k + 1) _ _ (by omega) (by omega) (by omega) (by omega) (mB_wr e2 (Or.inr (Or.inr (b38 e2 _)))) (by rw [wr_n _ _ (by omega)]; exact e3) (fun x j h1 h2 => by rw [wr_n _ _ (by omega)]; exact e4 x j h1 h2) (fun i hi => ?_) (fun i hi hi2 => by rw [wr_n _ _ (by omega)]; exact e6 i (by omega) hi2)
                              by_cases c9 : i = T + k
                              · have q := e6 (T + k + 1) (by omega) (by omega)
                                rw [c9, if_neg (by omega), show (((T + k : Nat)) : Int) = (T : Int) + (k : Int) by omega, wr_s, ← q]
                                congr 1
                              · rw [wr_n _ _ (by omega)]; exact e5 i (by omega)
                        refine wq_sub1 (L' := [(0, _), (1, _), (2, _), (3, _), (5, _)]) ⟨rfl, rfl, rfl, rfl, rfl, trivial⟩ ?_
                        exact loop11 9 0 _ _ (by omega) (by omega) (by omega) (by omega) (mB_wr e3b (Or.inr (Or.inl rfl))) (by rw [wr_s, G4]) (fun x j h1 h2 => wr_n _ _ (by omega)) (fun i hi => by rw [wr_n _ _ (by omega), if_pos (by omega)]; exact G5 i (by omega)) (fun i hi hi2 => by rw [wr_n _ _ (by omega)]; exact G5 i hi2)
                      · skip
                        refine wq_iinc (pc := 273) (L' := [(4, _), (0, _), (1, _), (2, _), (3, _)]) dX7_collect_273 rfl rfl (by decide) ?_
                        refine wq_goto (pc := 276) (tgt := 262) dX7_collect_276 (by decide) ?_
                        refine wq_sub1 (L' := [(0, _), (1, _), (2, _), (3, _), (4, _)]) ⟨rfl, rfl, rfl, rfl, rfl, trivial⟩ ?_
                        have hne : k ≠ t0 := fun z => by
                          have q9 := q38
                          rw [show gk.2.2.getD k 0 = b by rw [z]; exact htb] at q9
                          omega
                        exact ih (k + 1) _ (by omega) (by omega) (by omega) (by omega) (fun i hi => by
                          by_cases c9 : i = k
                          · rw [c9]; omega
                          · exact e2 i (by omega))
                  refine wq_sub1 (L' := [(0, _), (1, _), (2, _), (3, _), (4, _)]) ⟨rfl, rfl, rfl, rfl, rfl, trivial⟩ ?_
                  exact loop9 9 0 _ (by omega) (by omega) (by omega) (by omega) (fun i hi => absurd hi (Nat.not_lt_zero i))
                · skip
                  refine wq_aload_n (pc := 135) dX7_collect_135 rfl rfl ?_
                  refine wq_getS (pc := 136) dX7_collect_136 hs (gf_X7_108 _ rfl) rfl rfl rfl rfl rfl ?_
                  refine wq_iload (pc := 139) dX7_collect_139 rfl ?_
                  refine wq_ialdK (pc := 141) dX7_collect_141 hs rfl (by omega) (by omega) ?_
                  rw [s54 (by omega)]
                  obtain ⟨p1, p2, p3, p4, ⟨-, p7⟩⟩ := hpre (by omega)
                  have p2k := p2.1
                  obtain ⟨e3s, e3b, e3R, e3G, e3p⟩ := id e3
                  have hin := rW_in e2.1 (i := cs.getD k 0) (by omega) (by omega) p2
                  obtain ⟨⟨r22, r23, r24, r32, r33⟩, rD, rN⟩ := e3R.2 (cs.getD k 0) (by omega) (by omega) hin
                  have i22 : inR (m5 22 (cs.getD k 0)) := (mR_of e3b) 22 _ (by decide) (by decide) (by decide)
                  refine wq_istore (pc := 142) (L' := [(5, _), (0, _), (1, _), (2, _), (3, _), (4, _)]) dX7_collect_142 rfl (by decide) ?_
                  refine wq_aload_n (pc := 144) dX7_collect_144 rfl rfl ?_
                  refine wq_getS (pc := 145) dX7_collect_145 hs (gf_X7_7 _ rfl) rfl rfl rfl rfl rfl ?_
                  refine wq_iload (pc := 148) dX7_collect_148 rfl ?_
                  refine wq_ialdK (pc := 150) dX7_collect_150 hs rfl (by omega) (by omega) ?_
                  refine wq_iconst (pc := 151) dX7_collect_151 ?_
                  refine wq_icmp_ne (pc := 152) (tgt := 204) dX7_collect_152 (by decide) (by first | (unfold inR; omega) | assumption) (by first | (unfold inR; omega) | assumption) (fun c17 => ?_) (fun c17 => ?_)
                  · skip
                    refine wq_aload_n (pc := 204) dX7_collect_204 rfl rfl ?_
                    refine wq_aload_n (pc := 205) dX7_collect_205 rfl rfl ?_
                    refine wq_getS (pc := 206) dX7_collect_206 hs (gf_X7_13 _ rfl) rfl rfl rfl rfl rfl ?_
                    refine wq_iload (pc := 209) dX7_collect_209 rfl ?_
                    refine wq_ialdK (pc := 211) dX7_collect_211 hs rfl (by omega) (by omega) ?_
                    refine wq_aload_n (pc := 212) dX7_collect_212 rfl rfl ?_
                    refine wq_getS (pc := 213) dX7_collect_213 hs (gf_X7_16 _ rfl) rfl rfl rfl rfl rfl ?_
                    refine wq_iload (pc := 216) dX7_collect_216 rfl ?_
                    refine wq_ialdK (pc := 218) dX7_collect_218 hs rfl (by omega) (by omega) ?_
                    refine wq_aload_n (pc := 219) dX7_collect_219 rfl rfl ?_
                    refine wq_getS (pc := 220) dX7_collect_220 hs (gf_X7_32 _ rfl) rfl rfl rfl rfl rfl ?_
                    refine wq_iload (pc := 223) dX7_collect_223 rfl ?_
                    refine wq_ialdK (pc := 225) dX7_collect_225 hs rfl (by omega) (by omega) ?_
                    refine wq_aload_n (pc := 226) dX7_collect_226 rfl rfl ?_
                    refine wq_getS (pc := 227) dX7_collect_227 hs (gf_X7_35 _ rfl) rfl rfl rfl rfl rfl ?_
                    refine wq_iload (pc := 230) dX7_collect_230 rfl ?_
                    refine wq_ialdK (pc := 232) dX7_collect_232 hs rfl (by omega) (by omega) ?_
                    refine wq_aload_n (pc := 233) dX7_collect_233 rfl rfl ?_
                    refine wq_getS (pc := 234) dX7_collect_234 hs (gf_X7_38 _ rfl) rfl rfl rfl rfl rfl ?_
                    refine wq_iload (pc := 237) dX7_collect_237 rfl ?_
                    refine wq_zaldK (pc := 239) dX7_collect_239 hs rfl (by omega) (by omega) ?_
                    refine cVK_5 (pc := 240) dX7_collect_240 hs (cw_X7_202 _ rfl) (by decide) rfl ⟨by decide, by decide⟩ (Nat.le_of_ble_eq_true rfl) (sp_X7_putName (F := Fk) (g := gk) (s := nSrc (fN Fk (cs.getD k 0))) hs e3b e3R e2.1 e2.2.1 e3G e3p p4 (by obtain ⟨d1, d2, d3⟩ := rN (by omega); exact ⟨by rw [nSrc_k _ (by omega)]; omega, by rw [nSrc_k _ (by omega)]; exact r23.symm, by rw [nSrc_k _ (by omega)]; exact r24.symm, by rw [nSrc_k _ (by omega)]; exact d1.symm, by rw [nSrc_k _ (by omega)]; exact d2.symm, by rw [nSrc_k _ (by omega)]; exact d3.symm, trivial, trivial, trivial⟩) (by rw [nSrc_k _ (by omega)]; exact p7) (fun hr6 m6 P6 => ?_) (fun hr6 m6 P6 => ?_))
                    · skip
                      refine kr_s ?_
                      have hr6b := hr6
                      refine wq_istore (pc := 243) (L' := [(6, _), (5, _), (0, _), (1, _), (2, _), (3, _), (4, _)]) dX7_collect_243 rfl (by decide) ?_
                      refine wq_iload (pc := 245) dX7_collect_245 rfl ?_
                      refine wq_if_ne (pc := 247) (tgt := 253) dX7_collect_247 (by decide) (by first | (unfold inR; omega) | assumption) (fun c => absurd c (by decide)) (fun _ => ?_)
                      refine wq_bipush (pc := 250) dX7_collect_250 (by decide) (by decide) ?_
                      refine wq_iret (pc := 252) dX7_collect_252 rfl ?_
                      first
                        | (have hz9 : m7 21 19 = _ := e3
                           have hTk : T + k = gk.2.2.length - 1 := by omega
                           rw [lFree_1 her9] at h
                           rw [if_neg (show ¬ (true = false) by decide)] at h
                           dsimp only at h
                           refine h _ _ ⟨⟨hs, hb8, R8, Or.inl t8⟩, p8, fun _ => ⟨⟨?_, ?_, fun i hi => ?_, ?_, fun i hi => ?_⟩, ?_, fun n n0 n1 => ⟨?_, ?_⟩⟩⟩ (fun x j hx => by rw [f8 x j (by omega) (by omega) (by omega) (by omega) (by omega), e4 x j (by omega) (by omega)]; exact hx8 x j hx) (anM_v ?_)
                           · rw [f8 21 17 (by omega) (by omega) (by omega) (by omega) (by omega), e4 21 17 (by omega) (by omega)]; exact G1
                           · rw [v16, e4 21 16 (by omega) (by omega), G2]
                             show _ = ((gk.2.1 ++ [b]).length : Int)
                             rw [List.length_append]; rfl
                           · have hi2 : i < gk.2.1.length + 1 := by
                               have hi : i < (gk.2.1 ++ [b]).length := hi
                               rw [List.length_append] at hi; exact hi
                             show m8 37 i = (gk.2.1 ++ [b]).getD i 0
                             rw [getD_app]
                             have q16 : m7 21 16 = gk.2.1.length := by rw [e4 21 16 (by omega) (by omega)]; exact G2
                             by_cases ci : i < gk.2.1.length
                             · rw [if_pos ci, f8 37 i (by omega) (by omega) (by omega) (by omega) (by omega), e4 37 i (by omega) (by omega)]; exact G3 i ci
                             · rw [if_neg ci, if_pos (by omega), show (i : Int) = m7 21 16 by omega]; exact v37
                           · rw [f8 21 19 (by omega) (by omega) (by omega) (by omega) (by omega), e3]
                             show _ = ((gk.2.2.filter (fun x => !(x == b))).length : Int)
                             rw [hfil, cut_len hkl]; omega
                           · have hi : i < (gk.2.2.filter (fun x => !(x == b))).length := hi
                             rw [hfil, cut_len hkl] at hi
                             show m8 38 i = (gk.2.2.filter (fun x => !(x == b))).getD i 0
                             rw [hfil, cut_get hkl, f8 38 i (by omega) (by omega) (by omega) (by omega) (by omega)]
                             exact e5 i (by omega)
                           · rw [f8 21 22 (by omega) (by omega) (by omega) (by omega) (by omega), e4 21 22 (by omega) (by omega)]; exact hx4.2.2
                           · rw [f8 39 n (by omega) (by omega) (by omega) (by omega) (by omega), e4 39 n (by omega) (by omega)]; exact (hx5 n n0 n1).1
                           · rw [f8 40 n (by omega) (by omega) (by omega) (by omega) (by omega), e4 40 n (by omega) (by omega)]; exact (hx5 n n0 n1).2
                           · rw [f8 21 25 (by omega) (by omega) (by omega) (by omega) (by omega), e4 21 25 (by omega) (by omega)]; exact hx4.2.1)
                        | (rw [lFree_0 her9] at h
                           rw [if_pos rfl] at h
                           refine h _ _ ⟨⟨hs, hb8, R8, Or.inl t8⟩, p8, fun z => ?_⟩ (fun x j hx => by rw [f8 x j (by omega) (by omega) (by omega) (by omega) (by omega), e4 x j (by omega) (by omega)]; exact hx8 x j hx) (anM_v ?_)
                           · have z : fD (fErR Fk b).1 = 0 := z
                             have := (erR_rows (F := Fk) (b := b)).2 her9
                             omega
                           · rw [f8 21 25 (by omega) (by omega) (by omega) (by omega) (by omega), e4 21 25 (by omega) (by omega)]; exact hx4.2.1)
                        | (obtain ⟨st1, st2⟩ := cp_step e2 hvb hcs (k := k) (by omega) rfl
                           obtain ⟨-, -, -, -, y6, -⟩ := id P6
                           have hdr := drop_get (l := cs) (k := k) (by omega)
                           rw [hdr, cpL_0 hr6] at e6
                           rw [← e6, if_pos hr6] at h
                           exact h _ _ (CM_put hs P6 (fun z => absurd z (by rw [hr6]; decide)) (fun _ => (st2 hr6).1)) (FrM_t e8 (FrM_P y6)) (anM_v (by rw [y6 21 25 (by omega) (by omega)]; exact e4.2.1)))
                        | (unfold actColl1 at h
                           rw [pI_0 (by omega), pI_1 hrm9] at h
                           exact h _ _ (CM_25 C4) (FrM_t (FrM_t F3b (fun x j hx => f4 x j (by omega))) (FrM_w (by omega))) (anM_x 1 rfl (wr_s _ _ _ _)))
                        | (exfalso; omega)
                        | (have hv9 := vic_none (A := A) (dr := dr) (by omega)
                           unfold actColl1 at h
                           rw [pI_on (by omega), pI_0 (fun z => z (by omega)), hv9, pI_1 rfl] at h
                           exact h _ _ (CM_25 hC) (FrM_w (by omega)) (anM_x 1 rfl (wr_s _ _ _ _)))
                        | (rw [pI_on (by omega), pI_1 (by omega)] at h
                           exact h _ _ (CM_25 hC) (FrM_w (by omega)) (anM_x 0 rfl (wr_s _ _ _ _)))
                        | (rw [pI_1 (show dk A by show fD (aF A) = 1; omega)] at h
                           exact h _ _ (CM_25 hC) (FrM_w (by omega)) (anM_x 1 rfl (wr_s _ _ _ _)))
                    · skip
                      refine kr_s ?_
                      have hr6b := hr6
                      refine wq_istore (pc := 243) (L' := [(6, _), (5, _), (0, _), (1, _), (2, _), (3, _), (4, _)]) dX7_collect_243 rfl (by decide) ?_
                      refine wq_iload (pc := 245) dX7_collect_245 rfl ?_
                      refine wq_if_ne (pc := 247) (tgt := 253) dX7_collect_247 (by decide) (by first | (unfold inR; omega) | assumption) (fun _ => ?_) (fun c => absurd c (by decide))
                      refine wq_iinc (pc := 253) (L' := [(4, _), (6, _), (5, _), (0, _), (1, _), (2, _), (3, _)]) dX7_collect_253 rfl rfl (by decide) ?_
                      refine wq_goto (pc := 256) (tgt := 129) dX7_collect_256 (by decide) ?_
                      refine wq_sub1 (L' := [(0, _), (1, _), (2, _), (3, _), (4, _)]) ⟨rfl, rfl, rfl, rfl, rfl, trivial⟩ ?_
                      obtain ⟨st1, st2⟩ := cp_step e2 hvb hcs (k := k) (by omega) rfl
                      obtain ⟨-, -, -, -, y6, -⟩ := id P6
                      have hdr := drop_get (l := cs) (k := k) (by omega)
                      have e6b := e6
                      rw [hdr, cpL_1 hr6] at e6b
                      have PK := st1 hr6
                      have hpe := (put_ok e2.1 e2.2.1 p4 (by rw [nSrc_k _ (by omega)]; exact p7)).2.1
                      exact ih (k + 1) _ _ _ _ (by omega) (by omega) (by omega) (by omega) PK (PO_WM hs P6 hr6) ⟨P6.2.2.2.1, by rw [y6 21 25 (by omega) (by omega)]; exact e4.2.1, by rw [y6 21 22 (by omega) (by omega)]; exact e4.2.2⟩ (fun n n0 n1 => by rw [y6 39 n (by omega) (by omega), y6 40 n (by omega) (by omega)]; exact e5 n n0 n1) e6b (fun t ht => by rw [y6 54 t (by omega) (by omega)]; exact e7 t ht) (FrM_t e8 (FrM_P y6)) (by rw [hpe]; exact e9)
                  · skip
                    refine wq_aload_n (pc := 155) dX7_collect_155 rfl rfl ?_
                    refine wq_aload_n (pc := 156) dX7_collect_156 rfl rfl ?_
                    refine wq_getS (pc := 157) dX7_collect_157 hs (gf_X7_13 _ rfl) rfl rfl rfl rfl rfl ?_
                    refine wq_iload (pc := 160) dX7_collect_160 rfl ?_
                    refine wq_ialdK (pc := 162) dX7_collect_162 hs rfl (by omega) (by omega) ?_
                    refine wq_aload_n (pc := 163) dX7_collect_163 rfl rfl ?_
                    refine wq_getS (pc := 164) dX7_collect_164 hs (gf_X7_16 _ rfl) rfl rfl rfl rfl rfl ?_
                    refine wq_iload (pc := 167) dX7_collect_167 rfl ?_
                    refine wq_ialdK (pc := 169) dX7_collect_169 hs rfl (by omega) (by omega) ?_
                    refine wq_aload_n (pc := 170) dX7_collect_170 rfl rfl ?_
                    refine wq_getS (pc := 171) dX7_collect_171 hs (gf_X7_19 _ rfl) rfl rfl rfl rfl rfl ?_
                    refine wq_iload (pc := 174) dX7_collect_174 rfl ?_
                    refine wq_ialdK (pc := 176) dX7_collect_176 hs rfl (by omega) (by omega) ?_
                    refine wq_aload_n (pc := 177) dX7_collect_177 rfl rfl ?_
                    refine wq_getS (pc := 178) dX7_collect_178 hs (gf_X7_25 _ rfl) rfl rfl rfl rfl rfl ?_
                    refine wq_iload (pc := 181) dX7_collect_181 rfl ?_
                    refine wq_laldK (pc := 183) dX7_collect_183 hs rfl (by omega) (by omega) ?_
                    refine wq_aload_n (pc := 184) dX7_collect_184 rfl rfl ?_
                    refine wq_getS (pc := 185) dX7_collect_185 hs (gf_X7_22 _ rfl) rfl rfl rfl rfl rfl ?_
                    refine wq_iload (pc := 188) dX7_collect_188 rfl ?_
                    refine wq_ialdK (pc := 190) dX7_collect_190 hs rfl (by omega) (by omega) ?_
                    refine wq_aload_n (pc := 191) dX7_collect_191 rfl rfl ?_
                    refine wq_getS (pc := 192) dX7_collect_192 hs (gf_X7_29 _ rfl) rfl rfl rfl rfl rfl ?_
                    refine wq_iload (pc := 195) dX7_collect_195 rfl ?_
                    refine wq_ialdK (pc := 197) dX7_collect_197 hs rfl (by omega) (by omega) ?_
                    refine cVK_6 (pc := 198) dX7_collect_198 hs (cw_X7_198 _ rfl) (by decide) rfl ⟨by decide, by decide⟩ (Nat.le_of_ble_eq_true rfl) (sp_X7_putData (F := Fk) (g := gk) (s := nSrc (fN Fk (cs.getD k 0))) hs e3b e3R e2.1 e2.2.1 e3G e3p p4 (by obtain ⟨d1, d2, d3, d4⟩ := rD (by omega); exact ⟨by rw [nSrc_k _ (by omega)]; omega, by rw [nSrc_k _ (by omega)]; exact r23.symm, by rw [nSrc_k _ (by omega)]; exact r24.symm, by rw [nSrc_k _ (by omega)]; exact d1.symm, by rw [nSrc_k _ (by omega)]; exact d2.symm, by rw [nSrc_k _ (by omega)]; exact d3.symm, by rw [nSrc_k _ (by omega)]; exact d4.symm, trivial, trivial⟩) (by rw [nSrc_k _ (by omega)]; exact p7) (fun hr6 m6 P6 => ?_) (fun hr6 m6 P6 => ?_))
                    · skip
                      refine kr_s ?_
                      have hr6b := hr6
                      refine wq_goto (pc := 201) (tgt := 243) dX7_collect_201 (by decide) ?_
                      refine wq_istore (pc := 243) (L' := [(6, _), (5, _), (0, _), (1, _), (2, _), (3, _), (4, _)]) dX7_collect_243 rfl (by decide) ?_
                      refine wq_iload (pc := 245) dX7_collect_245 rfl ?_
                      refine wq_if_ne (pc := 247) (tgt := 253) dX7_collect_247 (by decide) (by first | (unfold inR; omega) | assumption) (fun c => absurd c (by decide)) (fun _ => ?_)
                      refine wq_bipush (pc := 250) dX7_collect_250 (by decide) (by decide) ?_
                      refine wq_iret (pc := 252) dX7_collect_252 rfl ?_
                      first
                        | (have hz9 : m7 21 19 = _ := e3
                           have hTk : T + k = gk.2.2.length - 1 := by omega
                           rw [lFree_1 her9] at h
                           rw [if_neg (show ¬ (true = false) by decide)] at h
                           dsimp only at h
                           refine h _ _ ⟨⟨hs, hb8, R8, Or.inl t8⟩, p8, fun _ => ⟨⟨?_, ?_, fun i hi => ?_, ?_, fun i hi => ?_⟩, ?_, fun n n0 n1 => ⟨?_, ?_⟩⟩⟩ (fun x j hx => by rw [f8 x j (by omega) (by omega) (by omega) (by omega) (by omega), e4 x j (by omega) (by omega)]; exact hx8 x j hx) (anM_v ?_)
                           · rw [f8 21 17 (by omega) (by omega) (by omega) (by omega) (by omega), e4 21 17 (by omega) (by omega)]; exact G1
                           · rw [v16, e4 21 16 (by omega) (by omega), G2]
                             show _ = ((gk.2.1 ++ [b]).length : Int)
                             rw [List.length_append]; rfl
                           · have hi2 : i < gk.2.1.length + 1 := by
                               have hi : i < (gk.2.1 ++ [b]).length := hi
                               rw [List.length_append] at hi; exact hi
                             show m8 37 i = (gk.2.1 ++ [b]).getD i 0
                             rw [getD_app]
                             have q16 : m7 21 16 = gk.2.1.length := by rw [e4 21 16 (by omega) (by omega)]; exact G2
                             by_cases ci : i < gk.2.1.length
                             · rw [if_pos ci, f8 37 i (by omega) (by omega) (by omega) (by omega) (by omega), e4 37 i (by omega) (by omega)]; exact G3 i ci
                             · rw [if_neg ci, if_pos (by omega), show (i : Int) = m7 21 16 by omega]; exact v37
                           · rw [f8 21 19 (by omega) (by omega) (by omega) (by omega) (by omega), e3]
                             show _ = ((gk.2.2.filter (fun x => !(x == b))).length : Int)
                             rw [hfil, cut_len hkl]; omega
                           · have hi : i < (gk.2.2.filter (fun x => !(x == b))).length := hi
                             rw [hfil, cut_len hkl] at hi
                             show m8 38 i = (gk.2.2.filter (fun x => !(x == b))).getD i 0
                             rw [hfil, cut_get hkl, f8 38 i (by omega) (by omega) (by omega) (by omega) (by omega)]
                             exact e5 i (by omega)
                           · rw [f8 21 22 (by omega) (by omega) (by omega) (by omega) (by omega), e4 21 22 (by omega) (by omega)]; exact hx4.2.2
                           · rw [f8 39 n (by omega) (by omega) (by omega) (by omega) (by omega), e4 39 n (by omega) (by omega)]; exact (hx5 n n0 n1).1
                           · rw [f8 40 n (by omega) (by omega) (by omega) (by omega) (by omega), e4 40 n (by omega) (by omega)]; exact (hx5 n n0 n1).2
                           · rw [f8 21 25 (by omega) (by omega) (by omega) (by omega) (by omega), e4 21 25 (by omega) (by omega)]; exact hx4.2.1)
                        | (rw [lFree_0 her9] at h
                           rw [if_pos rfl] at h
                           refine h _ _ ⟨⟨hs, hb8, R8, Or.inl t8⟩, p8, fun z => ?_⟩ (fun x j hx => by rw [f8 x j (by omega) (by omega) (by omega) (by omega) (by omega), e4 x j (by omega) (by omega)]; exact hx8 x j hx) (anM_v ?_)
                           · have z : fD (fErR Fk b).1 = 0 := z
                             have := (erR_rows (F := Fk) (b := b)).2 her9
                             omega
                           · rw [f8 21 25 (by omega) (by omega) (by omega) (by omega) (by omega), e4 21 25 (by omega) (by omega)]; exact hx4.2.1)
                        | (obtain ⟨st1, st2⟩ := cp_step e2 hvb hcs (k := k) (by omega) rfl
                           obtain ⟨-, -, -, -, y6, -⟩ := id P6
                           have hdr := drop_get (l := cs) (k := k) (by omega)
                           rw [hdr, cpL_0 hr6] at e6
                           rw [← e6, if_pos hr6] at h
                           exact h _ _ (CM_put hs P6 (fun z => absurd z (by rw [hr6]; decide)) (fun _ => (st2 hr6).1)) (FrM_t e8 (FrM_P y6)) (anM_v (by rw [y6 21 25 (by omega) (by omega)]; exact e4.2.1)))
                        | (unfold actColl1 at h
                           rw [pI_0 (by omega), pI_1 hrm9] at h
                           exact h _ _ (CM_25 C4) (FrM_t (FrM_t F3b (fun x j hx => f4 x j (by omega))) (FrM_w (by omega))) (anM_x 1 rfl (wr_s _ _ _ _)))
                        | (exfalso; omega)
                        | (have hv9 := vic_none (A := A) (dr := dr) (by omega)
                           unfold actColl1 at h
                           rw [pI_on (by omega), pI_0 (fun z => z (by omega)), hv9, pI_1 rfl] at h
                           exact h _ _ (CM_25 hC) (FrM_w (by omega)) (anM_x 1 rfl (wr_s _ _ _ _)))
                        | (rw [pI_on (by omega), pI_1 (by omega)] at h
                           exact h _ _ (CM_25 hC) (FrM_w (by omega)) (anM_x 0 rfl (wr_s _ _ _ _)))
                        | (rw [pI_1 (show dk A by show fD (aF A) = 1; omega)] at h
                           exact h _ _ (CM_25 hC) (FrM_w (by omega)) (anM_x 1 rfl (wr_s _ _ _ _)))
                    · skip
                      refine kr_s ?_
                      have hr6b := hr6
                      refine wq_goto (pc := 201) (tgt := 243) dX7_collect_201 (by decide) ?_
                      refine wq_istore (pc := 243) (L' := [(6, _), (5, _), (0, _), (1, _), (2, _), (3, _), (4, _)]) dX7_collect_243 rfl (by decide) ?_
                      refine wq_iload (pc := 245) dX7_collect_245 rfl ?_
                      refine wq_if_ne (pc := 247) (tgt := 253) dX7_collect_247 (by decide) (by first | (unfold inR; omega) | assumption) (fun _ => ?_) (fun c => absurd c (by decide))
                      refine wq_iinc (pc := 253) (L' := [(4, _), (6, _), (5, _), (0, _), (1, _), (2, _), (3, _)]) dX7_collect_253 rfl rfl (by decide) ?_
                      refine wq_goto (pc := 256) (tgt := 129) dX7_collect_256 (by decide) ?_
                      refine wq_sub1 (L' := [(0, _), (1, _), (2, _), (3, _), (4, _)]) ⟨rfl, rfl, rfl, rfl, rfl, trivial⟩ ?_
                      obtain ⟨st1, st2⟩ := cp_step e2 hvb hcs (k := k) (by omega) rfl
                      obtain ⟨-, -, -, -, y6, -⟩ := id P6
                      have hdr := drop_get (l := cs) (k := k) (by omega)
                      have e6b := e6
                      rw [hdr, cpL_1 hr6] at e6b
                      have PK := st1 hr6
                      have hpe := (put_ok e2.1 e2.2.1 p4 (by rw [nSrc_k _ (by omega)]; exact p7)).2.1
                      exact ih (k + 1) _ _ _ _ (by omega) (by omega) (by omega) (by omega) PK (PO_WM hs P6 hr6) ⟨P6.2.2.2.1, by rw [y6 21 25 (by omega) (by omega)]; exact e4.2.1, by rw [y6 21 22 (by omega) (by omega)]; exact e4.2.2⟩ (fun n n0 n1 => by rw [y6 39 n (by omega) (by omega), y6 40 n (by omega) (by omega)]; exact e5 n n0 n1) e6b (fun t ht => by rw [y6 54 t (by omega) (by omega)]; exact e7 t ht) (FrM_t e8 (FrM_P y6)) (by rw [hpe]; exact e9)
            refine wq_sub1 (L' := [(0, _), (1, _), (2, _), (3, _), (4, _)]) ⟨rfl, rfl, rfl, rfl, rfl, trivial⟩ ?_
            exact loop7 14 0 _ _ _ _ (by omega) (by omega) (by omega) (by omega) hCP0 (CM_WM e0 hd) ⟨e3, e2, h22⟩ h39 rfl e4 e1 rfl
          refine wq_aload_n (pc := 96) dX7_collect_96 rfl rfl ?_
          refine wq_aload_n (pc := 97) dX7_collect_97 rfl rfl ?_
          refine wq_iload_n (pc := 98) dX7_collect_98 rfl rfl ?_
          refine wq_aload_n (pc := 99) dX7_collect_99 rfl rfl ?_
          refine wq_getIK (pc := 100) (kk := 16) dX7_collect_100 hs (gf_X7_114 _ rfl) rfl rfl rfl rfl ?_
          refine cVK_2 (pc := 103) dX7_collect_103 hs (cw_X7_206 _ rfl) (by decide) rfl ⟨by decide, by decide⟩ (Nat.le_of_ble_eq_true rfl) (sp_X7_hasRoom (U := if m 21 17 = -1 then 40 else m 35 (m 21 17)) (N := if m 21 17 = -1 then 0 else m 34 (m 21 17)) hs (mR_of C4.1.2.1) (by omega) (by omega) (fun j => b52 C4.1.2.1 j) (by omega) (by omega) (by omega) (by omega) (fun x => b35 C4.1.2.1 x) (fun x => b34 C4.1.2.1 x) rfl rfl (fun hrm => ?_) (fun hrm => ?_))
          · skip
            refine kr_s ?_
            have hrm9 := hrt.mp hrm
            refine wq_if_eq (pc := 106) (tgt := 113) dX7_collect_106 (by decide) (by first | (unfold inR; omega) | assumption) (fun c => absurd c (by decide)) (fun _ => ?_)
            refine wq_iconst (pc := 109) dX7_collect_109 ?_
            refine wq_goto (pc := 110) (tgt := 114) dX7_collect_110 (by decide) ?_
            refine wq_putIK (pc := 114) (kk := 25) dX7_collect_114 hs (gf_X7_127 _ rfl) rfl rfl rfl rfl rfl ?_
            refine wq_aload_n (pc := 117) dX7_collect_117 rfl rfl ?_
            refine wq_getIK (pc := 118) (kk := 25) dX7_collect_118 hs (gf_X7_127 _ rfl) rfl rfl rfl rfl ?_
            rw [wr_s]
            refine wq_if_le (pc := 121) (tgt := 126) dX7_collect_121 (by decide) (by first | (unfold inR; omega) | assumption) (fun c29 => ?_) (fun c29 => ?_)
            · skip
              refine wq_sub1 (L' := [(0, _), (1, _), (2, _), (3, _)]) ⟨rfl, rfl, rfl, rfl, trivial⟩ ?_
              first
                | (exfalso; omega)
                | exact cut6 _ (CM_25 C4) (FrM_t (FrM_t F3b (fun x j hx => f4 x j (by omega))) (FrM_w (by omega))) (wr_s _ _ _ _) (by rw [wr_n _ _ (by omega), f4 21 27 (by omega)]; exact t27) (fun t ht => by rw [wr_n _ _ (by omega), f4 54 t (by omega)]; exact cc t ht) hrm9
            · skip
              refine wq_iconst (pc := 124) dX7_collect_124 ?_
              refine wq_iret (pc := 125) dX7_collect_125 rfl ?_
              first
                | (have hz9 : m7 21 19 = _ := e3
                   have hTk : T + k = gk.2.2.length - 1 := by omega
                   rw [lFree_1 her9] at h
                   rw [if_neg (show ¬ (true = false) by decide)] at h
                   dsimp only at h
                   refine h _ _ ⟨⟨hs, hb8, R8, Or.inl t8⟩, p8, fun _ => ⟨⟨?_, ?_, fun i hi => ?_, ?_, fun i hi => ?_⟩, ?_, fun n n0 n1 => ⟨?_, ?_⟩⟩⟩ (fun x j hx => by rw [f8 x j (by omega) (by omega) (by omega) (by omega) (by omega), e4 x j (by omega) (by omega)]; exact hx8 x j hx) (anM_v ?_)
                   · rw [f8 21 17 (by omega) (by omega) (by omega) (by omega) (by omega), e4 21 17 (by omega) (by omega)]; exact G1
                   · rw [v16, e4 21 16 (by omega) (by omega), G2]
                     show _ = ((gk.2.1 ++ [b]).length : Int)
                     rw [List.length_append]; rfl
                   · have hi2 : i < gk.2.1.length + 1 := by
                       have hi : i < (gk.2.1 ++ [b]).length := hi
                       rw [List.length_append] at hi; exact hi
                     show m8 37 i = (gk.2.1 ++ [b]).getD i 0
                     rw [getD_app]
                     have q16 : m7 21 16 = gk.2.1.length := by rw [e4 21 16 (by omega) (by omega)]; exact G2
                     by_cases ci : i < gk.2.1.length
                     · rw [if_pos ci, f8 37 i (by omega) (by omega) (by omega) (by omega) (by omega), e4 37 i (by omega) (by omega)]; exact G3 i ci
                     · rw [if_neg ci, if_pos (by omega), show (i : Int) = m7 21 16 by omega]; exact v37
                   · rw [f8 21 19 (by omega) (by omega) (by omega) (by omega) (by omega), e3]
                     show _ = ((gk.2.2.filter (fun x => !(x == b))).length : Int)
                     rw [hfil, cut_len hkl]; omega
                   · have hi : i < (gk.2.2.filter (fun x => !(x == b))).length := hi
                     rw [hfil, cut_len hkl] at hi
                     show m8 38 i = (gk.2.2.filter (fun x => !(x == b))).getD i 0
                     rw [hfil, cut_get hkl, f8 38 i (by omega) (by omega) (by omega) (by omega) (by omega)]
                     exact e5 i (by omega)
                   · rw [f8 21 22 (by omega) (by omega) (by omega) (by omega) (by omega), e4 21 22 (by omega) (by omega)]; exact hx4.2.2
                   · rw [f8 39 n (by omega) (by omega) (by omega) (by omega) (by omega), e4 39 n (by omega) (by omega)]; exact (hx5 n n0 n1).1
                   · rw [f8 40 n (by omega) (by omega) (by omega) (by omega) (by omega), e4 40 n (by omega) (by omega)]; exact (hx5 n n0 n1).2
                   · rw [f8 21 25 (by omega) (by omega) (by omega) (by omega) (by omega), e4 21 25 (by omega) (by omega)]; exact hx4.2.1)
                | (rw [lFree_0 her9] at h
                   rw [if_pos rfl] at h
                   refine h _ _ ⟨⟨hs, hb8, R8, Or.inl t8⟩, p8, fun z => ?_⟩ (fun x j hx => by rw [f8 x j (by omega) (by omega) (by omega) (by omega) (by omega), e4 x j (by omega) (by omega)]; exact hx8 x j hx) (anM_v ?_)
                   · have z : fD (fErR Fk b).1 = 0 := z
                     have := (erR_rows (F := Fk) (b := b)).2 her9
                     omega
                   · rw [f8 21 25 (by omega) (by omega) (by omega) (by omega) (by omega), e4 21 25 (by omega) (by omega)]; exact hx4.2.1)
                | (obtain ⟨st1, st2⟩ := cp_step e2 hvb hcs (k := k) (by omega) rfl
                   obtain ⟨-, -, -, -, y6, -⟩ := id P6
                   have hdr := drop_get (l := cs) (k := k) (by omega)
                   rw [hdr, cpL_0 hr6] at e6
                   rw [← e6, if_pos hr6] at h
                   exact h _ _ (CM_put hs P6 (fun z => absurd z (by rw [hr6]; decide)) (fun _ => (st2 hr6).1)) (FrM_t e8 (FrM_P y6)) (anM_v (by rw [y6 21 25 (by omega) (by omega)]; exact e4.2.1)))
                | (unfold actColl1 at h
                   rw [pI_0 (by omega), pI_1 hrm9] at h
                   exact h _ _ (CM_25 C4) (FrM_t (FrM_t F3b (fun x j hx => f4 x j (by omega))) (FrM_w (by omega))) (anM_x 1 rfl (wr_s _ _ _ _)))
                | (exfalso; omega)
                | (have hv9 := vic_none (A := A) (dr := dr) (by omega)
                   unfold actColl1 at h
                   rw [pI_on (by omega), pI_0 (fun z => z (by omega)), hv9, pI_1 rfl] at h
                   exact h _ _ (CM_25 hC) (FrM_w (by omega)) (anM_x 1 rfl (wr_s _ _ _ _)))
                | (rw [pI_on (by omega), pI_1 (by omega)] at h
                   exact h _ _ (CM_25 hC) (FrM_w (by omega)) (anM_x 0 rfl (wr_s _ _ _ _)))
                | (rw [pI_1 (show dk A by show fD (aF A) = 1; omega)] at h
                   exact h _ _ (CM_25 hC) (FrM_w (by omega)) (anM_x 1 rfl (wr_s _ _ _ _)))
          · skip
            refine kr_s ?_
            have hrm9 := fun z => hrm (hrt.mpr z)
            refine wq_if_eq (pc := 106) (tgt := 113) dX7_collect_106 (by decide) (by first | (unfold inR; omega) | assumption) (fun _ => ?_) (fun c => absurd c (by decide))
            refine wq_iconst (pc := 113) dX7_collect_113 ?_
            refine wq_putIK (pc := 114) (kk := 25) dX7_collect_114 hs (gf_X7_127 _ rfl) rfl rfl rfl rfl rfl ?_
            refine wq_aload_n (pc := 117) dX7_collect_117 rfl rfl ?_
            refine wq_getIK (pc := 118) (kk := 25) dX7_collect_118 hs (gf_X7_127 _ rfl) rfl rfl rfl rfl ?_
            rw [wr_s]
            refine wq_if_le (pc := 121) (tgt := 126) dX7_collect_121 (by decide) (by first | (unfold inR; omega) | assumption) (fun c31 => ?_) (fun c31 => ?_)
            · skip
              refine wq_sub1 (L' := [(0, _), (1, _), (2, _), (3, _)]) ⟨rfl, rfl, rfl, rfl, trivial⟩ ?_
              first
                | (exfalso; omega)
                | exact cut6 _ (CM_25 C4) (FrM_t (FrM_t F3b (fun x j hx => f4 x j (by omega))) (FrM_w (by omega))) (wr_s _ _ _ _) (by rw [wr_n _ _ (by omega), f4 21 27 (by omega)]; exact t27) (fun t ht => by rw [wr_n _ _ (by omega), f4 54 t (by omega)]; exact cc t ht) hrm9
            · skip
              refine wq_iconst (pc := 124) dX7_collect_124 ?_
              refine wq_iret (pc := 125) dX7_collect_125 rfl ?_
              first
                | (have hz9 : m7 21 19 = _ := e3
                   have hTk : T + k = gk.2.2.length - 1 := by omega
                   rw [lFree_1 her9] at h
                   rw [if_neg (show ¬ (true = false) by decide)] at h
                   dsimp only at h
                   refine h _ _ ⟨⟨hs, hb8, R8, Or.inl t8⟩, p8, fun _ => ⟨⟨?_, ?_, fun i hi => ?_, ?_, fun i hi => ?_⟩, ?_, fun n n0 n1 => ⟨?_, ?_⟩⟩⟩ (fun x j hx => by rw [f8 x j (by omega) (by omega) (by omega) (by omega) (by omega), e4 x j (by omega) (by omega)]; exact hx8 x j hx) (anM_v ?_)
                   · rw [f8 21 17 (by omega) (by omega) (by omega) (by omega) (by omega), e4 21 17 (by omega) (by omega)]; exact G1
                   · rw [v16, e4 21 16 (by omega) (by omega), G2]
                     show _ = ((gk.2.1 ++ [b]).length : Int)
                     rw [List.length_append]; rfl
                   · have hi2 : i < gk.2.1.length + 1 := by
                       have hi : i < (gk.2.1 ++ [b]).length := hi
                       rw [List.length_append] at hi; exact hi
                     show m8 37 i = (gk.2.1 ++ [b]).getD i 0
                     rw [getD_app]
                     have q16 : m7 21 16 = gk.2.1.length := by rw [e4 21 16 (by omega) (by omega)]; exact G2
                     by_cases ci : i < gk.2.1.length
                     · rw [if_pos ci, f8 37 i (by omega) (by omega) (by omega) (by omega) (by omega), e4 37 i (by omega) (by omega)]; exact G3 i ci
                     · rw [if_neg ci, if_pos (by omega), show (i : Int) = m7 21 16 by omega]; exact v37
                   · rw [f8 21 19 (by omega) (by omega) (by omega) (by omega) (by omega), e3]
                     show _ = ((gk.2.2.filter (fun x => !(x == b))).length : Int)
                     rw [hfil, cut_len hkl]; omega
                   · have hi : i < (gk.2.2.filter (fun x => !(x == b))).length := hi
                     rw [hfil, cut_len hkl] at hi
                     show m8 38 i = (gk.2.2.filter (fun x => !(x == b))).getD i 0
                     rw [hfil, cut_get hkl, f8 38 i (by omega) (by omega) (by omega) (by omega) (by omega)]
                     exact e5 i (by omega)
                   · rw [f8 21 22 (by omega) (by omega) (by omega) (by omega) (by omega), e4 21 22 (by omega) (by omega)]; exact hx4.2.2
                   · rw [f8 39 n (by omega) (by omega) (by omega) (by omega) (by omega), e4 39 n (by omega) (by omega)]; exact (hx5 n n0 n1).1
                   · rw [f8 40 n (by omega) (by omega) (by omega) (by omega) (by omega), e4 40 n (by omega) (by omega)]; exact (hx5 n n0 n1).2
                   · rw [f8 21 25 (by omega) (by omega) (by omega) (by omega) (by omega), e4 21 25 (by omega) (by omega)]; exact hx4.2.1)
                | (rw [lFree_0 her9] at h
                   rw [if_pos rfl] at h
                   refine h _ _ ⟨⟨hs, hb8, R8, Or.inl t8⟩, p8, fun z => ?_⟩ (fun x j hx => by rw [f8 x j (by omega) (by omega) (by omega) (by omega) (by omega), e4 x j (by omega) (by omega)]; exact hx8 x j hx) (anM_v ?_)
                   · have z : fD (fErR Fk b).1 = 0 := z
                     have := (erR_rows (F := Fk) (b := b)).2 her9
                     omega
                   · rw [f8 21 25 (by omega) (by omega) (by omega) (by omega) (by omega), e4 21 25 (by omega) (by omega)]; exact hx4.2.1)
                | (obtain ⟨st1, st2⟩ := cp_step e2 hvb hcs (k := k) (by omega) rfl
                   obtain ⟨-, -, -, -, y6, -⟩ := id P6
                   have hdr := drop_get (l := cs) (k := k) (by omega)
                   rw [hdr, cpL_0 hr6] at e6
                   rw [← e6, if_pos hr6] at h
                   exact h _ _ (CM_put hs P6 (fun z => absurd z (by rw [hr6]; decide)) (fun _ => (st2 hr6).1)) (FrM_t e8 (FrM_P y6)) (anM_v (by rw [y6 21 25 (by omega) (by omega)]; exact e4.2.1)))
                | (unfold actColl1 at h
                   rw [pI_0 (by omega), pI_1 hrm9] at h
                   exact h _ _ (CM_25 C4) (FrM_t (FrM_t F3b (fun x j hx => f4 x j (by omega))) (FrM_w (by omega))) (anM_x 1 rfl (wr_s _ _ _ _)))
                | (exfalso; omega)
                | (have hv9 := vic_none (A := A) (dr := dr) (by omega)
                   unfold actColl1 at h
                   rw [pI_on (by omega), pI_0 (fun z => z (by omega)), hv9, pI_1 rfl] at h
                   exact h _ _ (CM_25 hC) (FrM_w (by omega)) (anM_x 1 rfl (wr_s _ _ _ _)))
                | (rw [pI_on (by omega), pI_1 (by omega)] at h
                   exact h _ _ (CM_25 hC) (FrM_w (by omega)) (anM_x 0 rfl (wr_s _ _ _ _)))
                | (rw [pI_1 (show dk A by show fD (aF A) = 1; omega)] at h
                   exact h _ _ (CM_25 hC) (FrM_w (by omega)) (anM_x 1 rfl (wr_s _ _ _ _)))
        · skip
          refine wq_aload_n (pc := 71) dX7_collect_71 rfl rfl ?_
          refine wq_getS (pc := 72) dX7_collect_72 hs (gf_X7_102 _ rfl) rfl rfl rfl rfl rfl ?_
          refine wq_iload (pc := 75) dX7_collect_75 rfl ?_
          refine wq_aload_n (pc := 77) dX7_collect_77 rfl rfl ?_
          refine wq_getS (pc := 78) dX7_collect_78 hs (gf_X7_42 _ rfl) rfl rfl rfl rfl rfl ?_
          refine wq_aload_n (pc := 81) dX7_collect_81 rfl rfl ?_
          refine wq_getS (pc := 82) dX7_collect_82 hs (gf_X7_108 _ rfl) rfl rfl rfl rfl rfl ?_
          refine wq_iload (pc := 85) dX7_collect_85 rfl ?_
          refine wq_ialdK (pc := 87) dX7_collect_87 hs rfl (by omega) (by omega) ?_
          rw [s54 (by omega)]
          obtain ⟨hck1, hck2⟩ := hck (by omega)
          refine wq_ialdK (pc := 88) dX7_collect_88 hs rfl (by omega) (by omega) ?_
          refine wq_iastK (pc := 89) dX7_collect_89 hs rfl (by omega) (by omega) ?_
          refine wq_iinc (pc := 90) (L' := [(4, _), (0, _), (1, _), (2, _), (3, _)]) dX7_collect_90 rfl rfl (by decide) ?_
          refine wq_goto (pc := 93) (tgt := 65) dX7_collect_93 (by decide) ?_
          refine wq_sub1 (L' := [(0, _), (1, _), (2, _), (3, _), (4, _)]) ⟨rfl, rfl, rfl, rfl, rfl, trivial⟩ ?_
          exact ih (k + 1) _ _ (by omega) (by omega) (by omega) (by omega) (CM_w e2 (Or.inr ⟨by decide, by decide, b32 e2.1.2.1 _⟩)) (fun x j hx => by rw [wr_n _ _ (by omega)]; exact e3 x j hx) (fun t ht => by
            by_cases c9 : t = k
            · rw [c9, wr_s]
              obtain ⟨q1, q2⟩ := hck (by omega)
              have q3 := q2.1
              exact (RM_w hA.1 e2.1.2.2.1 (by omega) (by omega) (by omega)).2.2.2.2.1
            · rw [wr_n _ _ (by omega)]; exact e4 t (by omega))
    refine wq_sub1 (L' := [(0, _), (1, _), (2, _), (3, _), (4, _)]) ⟨rfl, rfl, rfl, rfl, rfl, trivial⟩ ?_
    exact loop4 17 0 _ _ (by omega) (by omega) (by omega) (by omega) C3 (fun _ _ _ => rfl) (fun t ht => absurd ht (Nat.not_lt_zero t))
  refine wq_aload_n (pc := 0) dX7_collect_0 rfl rfl ?_
  refine wq_aload_n (pc := 1) dX7_collect_1 rfl rfl ?_
  refine wq_getIK (pc := 2) (kk := 21) dX7_collect_2 hs (gf_X7_174 _ rfl) rfl rfl rfl rfl ?_
  refine wq_if_eq (pc := 5) (tgt := 12) dX7_collect_5 (by decide) (by first | (unfold inR; omega) | assumption) (fun c32 => ?_) (fun c32 => ?_)
  · skip
    refine wq_iload_n (pc := 12) dX7_collect_12 rfl rfl ?_
    refine wq_iconst (pc := 13) dX7_collect_13 ?_
    refine wq_bipush (pc := 14) dX7_collect_14 (by decide) (by decide) ?_
    refine cS_3 (pc := 16) dX7_collect_16 (cw_X7_210 _ rfl) ⟨by decide, by decide⟩ (Nat.le_of_ble_eq_true rfl) (sp_X7_in r1 (by unfold inR; omega) (by unfold inR; omega) (fun hin => ?_) (fun hin => ?_))
    · skip
      refine kr_s ?_
      have hin9 := hin
      refine wq_if_ne (pc := 19) (tgt := 26) dX7_collect_19 (by decide) (by first | (unfold inR; omega) | assumption) (fun _ => ?_) (fun c => absurd c (by decide))
      obtain ⟨hcl1, hcl2⟩ := hclm (by omega)
      have r19 : inR (μ 21 19) := by unfold inR; omega
      refine wq_aload_n (pc := 26) dX7_collect_26 rfl rfl ?_
      refine wq_getIK (pc := 27) (kk := 19) dX7_collect_27 hs (gf_X7_192 _ rfl) rfl rfl rfl rfl ?_
      refine wq_if_ne (pc := 30) (tgt := 37) dX7_collect_30 (by decide) (by first | (unfold inR; omega) | assumption) (fun c36 => ?_) (fun c36 => ?_)
      · skip
        refine wq_iconst (pc := 37) dX7_collect_37 ?_
        refine wq_putIK (pc := 38) (kk := 25) dX7_collect_38 hs (gf_X7_127 _ rfl) rfl rfl rfl rfl rfl ?_
        refine wq_aload_n (pc := 41) dX7_collect_41 rfl rfl ?_
        refine wq_getIK (pc := 42) (kk := 25) dX7_collect_42 hs (gf_X7_127 _ rfl) rfl rfl rfl rfl ?_
        rw [wr_s]
        refine wq_if_le (pc := 45) (tgt := 50) dX7_collect_45 (by decide) (by first | (unfold inR; omega) | assumption) (fun c37 => ?_) (fun c37 => ?_)
        · skip
          refine wq_sub1 (L' := [(0, _), (1, _)]) ⟨rfl, rfl, trivial⟩ ?_
          first
            | (exfalso; omega)
            | exact cut1 _ (CM_25 hC) (FrM_w (by omega)) (wr_s _ _ _ _) (by omega) (by omega) (by omega)
        · skip
          refine wq_iconst (pc := 48) dX7_collect_48 ?_
          refine wq_iret (pc := 49) dX7_collect_49 rfl ?_
          first
            | (have hz9 : m7 21 19 = _ := e3
               have hTk : T + k = gk.2.2.length - 1 := by omega
               rw [lFree_1 her9] at h
               rw [if_neg (show ¬ (true = false) by decide)] at h
               dsimp only at h
               refine h _ _ ⟨⟨hs, hb8, R8, Or.inl t8⟩, p8, fun _ => ⟨⟨?_, ?_, fun i hi => ?_, ?_, fun i hi => ?_⟩, ?_, fun n n0 n1 => ⟨?_, ?_⟩⟩⟩ (fun x j hx => by rw [f8 x j (by omega) (by omega) (by omega) (by omega) (by omega), e4 x j (by omega) (by omega)]; exact hx8 x j hx) (anM_v ?_)
               · rw [f8 21 17 (by omega) (by omega) (by omega) (by omega) (by omega), e4 21 17 (by omega) (by omega)]; exact G1
               · rw [v16, e4 21 16 (by omega) (by omega), G2]
                 show _ = ((gk.2.1 ++ [b]).length : Int)
                 rw [List.length_append]; rfl
               · have hi2 : i < gk.2.1.length + 1 := by
                   have hi : i < (gk.2.1 ++ [b]).length := hi
                   rw [List.length_append] at hi; exact hi
                 show m8 37 i = (gk.2.1 ++ [b]).getD i 0
                 rw [getD_app]
                 have q16 : m7 21 16 = gk.2.1.length := by rw [e4 21 16 (by omega) (by omega)]; exact G2
                 by_cases ci : i < gk.2.1.length
                 · rw [if_pos ci, f8 37 i (by omega) (by omega) (by omega) (by omega) (by omega), e4 37 i (by omega) (by omega)]; exact G3 i ci
                 · rw [if_neg ci, if_pos (by omega), show (i : Int) = m7 21 16 by omega]; exact v37
               · rw [f8 21 19 (by omega) (by omega) (by omega) (by omega) (by omega), e3]
                 show _ = ((gk.2.2.filter (fun x => !(x == b))).length : Int)
                 rw [hfil, cut_len hkl]; omega
               · have hi : i < (gk.2.2.filter (fun x => !(x == b))).length := hi
                 rw [hfil, cut_len hkl] at hi
                 show m8 38 i = (gk.2.2.filter (fun x => !(x == b))).getD i 0
                 rw [hfil, cut_get hkl, f8 38 i (by omega) (by omega) (by omega) (by omega) (by omega)]
                 exact e5 i (by omega)
               · rw [f8 21 22 (by omega) (by omega) (by omega) (by omega) (by omega), e4 21 22 (by omega) (by omega)]; exact hx4.2.2
               · rw [f8 39 n (by omega) (by omega) (by omega) (by omega) (by omega), e4 39 n (by omega) (by omega)]; exact (hx5 n n0 n1).1
               · rw [f8 40 n (by omega) (by omega) (by omega) (by omega) (by omega), e4 40 n (by omega) (by omega)]; exact (hx5 n n0 n1).2
               · rw [f8 21 25 (by omega) (by omega) (by omega) (by omega) (by omega), e4 21 25 (by omega) (by omega)]; exact hx4.2.1)
            | (rw [lFree_0 her9] at h
               rw [if_pos rfl] at h
               refine h _ _ ⟨⟨hs, hb8, R8, Or.inl t8⟩, p8, fun z => ?_⟩ (fun x j hx => by rw [f8 x j (by omega) (by omega) (by omega) (by omega) (by omega), e4 x j (by omega) (by omega)]; exact hx8 x j hx) (anM_v ?_)
               · have z : fD (fErR Fk b).1 = 0 := z
                 have := (erR_rows (F := Fk) (b := b)).2 her9
                 omega
               · rw [f8 21 25 (by omega) (by omega) (by omega) (by omega) (by omega), e4 21 25 (by omega) (by omega)]; exact hx4.2.1)
            | (obtain ⟨st1, st2⟩ := cp_step e2 hvb hcs (k := k) (by omega) rfl
               obtain ⟨-, -, -, -, y6, -⟩ := id P6
               have hdr := drop_get (l := cs) (k := k) (by omega)
               rw [hdr, cpL_0 hr6] at e6
               rw [← e6, if_pos hr6] at h
               exact h _ _ (CM_put hs P6 (fun z => absurd z (by rw [hr6]; decide)) (fun _ => (st2 hr6).1)) (FrM_t e8 (FrM_P y6)) (anM_v (by rw [y6 21 25 (by omega) (by omega)]; exact e4.2.1)))
            | (unfold actColl1 at h
               rw [pI_0 (by omega), pI_1 hrm9] at h
               exact h _ _ (CM_25 C4) (FrM_t (FrM_t F3b (fun x j hx => f4 x j (by omega))) (FrM_w (by omega))) (anM_x 1 rfl (wr_s _ _ _ _)))
            | (exfalso; omega)
            | (have hv9 := vic_none (A := A) (dr := dr) (by omega)
               unfold actColl1 at h
               rw [pI_on (by omega), pI_0 (fun z => z (by omega)), hv9, pI_1 rfl] at h
               exact h _ _ (CM_25 hC) (FrM_w (by omega)) (anM_x 1 rfl (wr_s _ _ _ _)))
            | (rw [pI_on (by omega), pI_1 (by omega)] at h
               exact h _ _ (CM_25 hC) (FrM_w (by omega)) (anM_x 0 rfl (wr_s _ _ _ _)))
            | (rw [pI_1 (show dk A by show fD (aF A) = 1; omega)] at h
               exact h _ _ (CM_25 hC) (FrM_w (by omega)) (anM_x 1 rfl (wr_s _ _ _ _)))
      · skip
        refine wq_iconst (pc := 33) dX7_collect_33 ?_
        refine wq_goto (pc := 34) (tgt := 38) dX7_collect_34 (by decide) ?_
        refine wq_putIK (pc := 38) (kk := 25) dX7_collect_38 hs (gf_X7_127 _ rfl) rfl rfl rfl rfl rfl ?_
        refine wq_aload_n (pc := 41) dX7_collect_41 rfl rfl ?_
        refine wq_getIK (pc := 42) (kk := 25) dX7_collect_42 hs (gf_X7_127 _ rfl) rfl rfl rfl rfl ?_
        rw [wr_s]
        refine wq_if_le (pc := 45) (tgt := 50) dX7_collect_45 (by decide) (by first | (unfold inR; omega) | assumption) (fun c38 => ?_) (fun c38 => ?_)
        · skip
          refine wq_sub1 (L' := [(0, _), (1, _)]) ⟨rfl, rfl, trivial⟩ ?_
          first
            | (exfalso; omega)
            | exact cut1 _ (CM_25 hC) (FrM_w (by omega)) (wr_s _ _ _ _) (by omega) (by omega) (by omega)
        · skip
          refine wq_iconst (pc := 48) dX7_collect_48 ?_
          refine wq_iret (pc := 49) dX7_collect_49 rfl ?_
          first
            | (have hz9 : m7 21 19 = _ := e3
               have hTk : T + k = gk.2.2.length - 1 := by omega
               rw [lFree_1 her9] at h
               rw [if_neg (show ¬ (true = false) by decide)] at h
               dsimp only at h
               refine h _ _ ⟨⟨hs, hb8, R8, Or.inl t8⟩, p8, fun _ => ⟨⟨?_, ?_, fun i hi => ?_, ?_, fun i hi => ?_⟩, ?_, fun n n0 n1 => ⟨?_, ?_⟩⟩⟩ (fun x j hx => by rw [f8 x j (by omega) (by omega) (by omega) (by omega) (by omega), e4 x j (by omega) (by omega)]; exact hx8 x j hx) (anM_v ?_)
               · rw [f8 21 17 (by omega) (by omega) (by omega) (by omega) (by omega), e4 21 17 (by omega) (by omega)]; exact G1
               · rw [v16, e4 21 16 (by omega) (by omega), G2]
                 show _ = ((gk.2.1 ++ [b]).length : Int)
                 rw [List.length_append]; rfl
               · have hi2 : i < gk.2.1.length + 1 := by
                   have hi : i < (gk.2.1 ++ [b]).length := hi
                   rw [List.length_append] at hi; exact hi
                 show m8 37 i = (gk.2.1 ++ [b]).getD i 0
                 rw [getD_app]
                 have q16 : m7 21 16 = gk.2.1.length := by rw [e4 21 16 (by omega) (by omega)]; exact G2
                 by_cases ci : i < gk.2.1.length
                 · rw [if_pos ci, f8 37 i (by omega) (by omega) (by omega) (by omega) (by omega), e4 37 i (by omega) (by omega)]; exact G3 i ci
                 · rw [if_neg ci, if_pos (by omega), show (i : Int) = m7 21 16 by omega]; exact v37
               · rw [f8 21 19 (by omega) (by omega) (by omega) (by omega) (by omega), e3]
                 show _ = ((gk.2.2.filter (fun x => !(x == b))).length : Int)
                 rw [hfil, cut_len hkl]; omega
               · have hi : i < (gk.2.2.filter (fun x => !(x == b))).length := hi
                 rw [hfil, cut_len hkl] at hi
                 show m8 38 i = (gk.2.2.filter (fun x => !(x == b))).getD i 0
                 rw [hfil, cut_get hkl, f8 38 i (by omega) (by omega) (by omega) (by omega) (by omega)]
                 exact e5 i (by omega)
               · rw [f8 21 22 (by omega) (by omega) (by omega) (by omega) (by omega), e4 21 22 (by omega) (by omega)]; exact hx4.2.2
               · rw [f8 39 n (by omega) (by omega) (by omega) (by omega) (by omega), e4 39 n (by omega) (by omega)]; exact (hx5 n n0 n1).1
               · rw [f8 40 n (by omega) (by omega) (by omega) (by omega) (by omega), e4 40 n (by omega) (by omega)]; exact (hx5 n n0 n1).2
               · rw [f8 21 25 (by omega) (by omega) (by omega) (by omega) (by omega), e4 21 25 (by omega) (by omega)]; exact hx4.2.1)
            | (rw [lFree_0 her9] at h
               rw [if_pos rfl] at h
               refine h _ _ ⟨⟨hs, hb8, R8, Or.inl t8⟩, p8, fun z => ?_⟩ (fun x j hx => by rw [f8 x j (by omega) (by omega) (by omega) (by omega) (by omega), e4 x j (by omega) (by omega)]; exact hx8 x j hx) (anM_v ?_)
               · have z : fD (fErR Fk b).1 = 0 := z
                 have := (erR_rows (F := Fk) (b := b)).2 her9
                 omega
               · rw [f8 21 25 (by omega) (by omega) (by omega) (by omega) (by omega), e4 21 25 (by omega) (by omega)]; exact hx4.2.1)
            | (obtain ⟨st1, st2⟩ := cp_step e2 hvb hcs (k := k) (by omega) rfl
               obtain ⟨-, -, -, -, y6, -⟩ := id P6
               have hdr := drop_get (l := cs) (k := k) (by omega)
               rw [hdr, cpL_0 hr6] at e6
               rw [← e6, if_pos hr6] at h
               exact h _ _ (CM_put hs P6 (fun z => absurd z (by rw [hr6]; decide)) (fun _ => (st2 hr6).1)) (FrM_t e8 (FrM_P y6)) (anM_v (by rw [y6 21 25 (by omega) (by omega)]; exact e4.2.1)))
            | (unfold actColl1 at h
               rw [pI_0 (by omega), pI_1 hrm9] at h
               exact h _ _ (CM_25 C4) (FrM_t (FrM_t F3b (fun x j hx => f4 x j (by omega))) (FrM_w (by omega))) (anM_x 1 rfl (wr_s _ _ _ _)))
            | (exfalso; omega)
            | (have hv9 := vic_none (A := A) (dr := dr) (by omega)
               unfold actColl1 at h
               rw [pI_on (by omega), pI_0 (fun z => z (by omega)), hv9, pI_1 rfl] at h
               exact h _ _ (CM_25 hC) (FrM_w (by omega)) (anM_x 1 rfl (wr_s _ _ _ _)))
            | (rw [pI_on (by omega), pI_1 (by omega)] at h
               exact h _ _ (CM_25 hC) (FrM_w (by omega)) (anM_x 0 rfl (wr_s _ _ _ _)))
            | (rw [pI_1 (show dk A by show fD (aF A) = 1; omega)] at h
               exact h _ _ (CM_25 hC) (FrM_w (by omega)) (anM_x 1 rfl (wr_s _ _ _ _)))
    · skip
      refine kr_s ?_
      have hin9 := hin
      refine wq_if_ne (pc := 19) (tgt := 26) dX7_collect_19 (by decide) (by first | (unfold inR; omega) | assumption) (fun c => absurd c (by decide)) (fun _ => ?_)
      refine wq_iconst (pc := 22) dX7_collect_22 ?_
      refine wq_goto (pc := 23) (tgt := 38) dX7_collect_23 (by decide) ?_
      refine wq_putIK (pc := 38) (kk := 25) dX7_collect_38 hs (gf_X7_127 _ rfl) rfl rfl rfl rfl rfl ?_
      refine wq_aload_n (pc := 41) dX7_collect_41 rfl rfl ?_
      refine wq_getIK (pc := 42) (kk := 25) dX7_collect_42 hs (gf_X7_127 _ rfl) rfl rfl rfl rfl ?_
      rw [wr_s]
      refine wq_if_le (pc := 45) (tgt := 50) dX7_collect_45 (by decide) (by first | (unfold inR; omega) | assumption) (fun c40 => ?_) (fun c40 => ?_)
      · skip
        refine wq_sub1 (L' := [(0, _), (1, _)]) ⟨rfl, rfl, trivial⟩ ?_
        first
          | (exfalso; omega)
          | exact cut1 _ (CM_25 hC) (FrM_w (by omega)) (wr_s _ _ _ _) (by omega) (by omega) (by omega)
      · skip
        refine wq_iconst (pc := 48) dX7_collect_48 ?_
        refine wq_iret (pc := 49) dX7_collect_49 rfl ?_
        first
          | (have hz9 : m7 21 19 = _ := e3
             have hTk : T + k = gk.2.2.length - 1 := by omega
             rw [lFree_1 her9] at h
             rw [if_neg (show ¬ (true = false) by decide)] at h
             dsimp only at h
             refine h _ _ ⟨⟨hs, hb8, R8, Or.inl t8⟩, p8, fun _ => ⟨⟨?_, ?_, fun i hi => ?_, ?_, fun i hi => ?_⟩, ?_, fun n n0 n1 => ⟨?_, ?_⟩⟩⟩ (fun x j hx => by rw [f8 x j (by omega) (by omega) (by omega) (by omega) (by omega), e4 x j (by omega) (by omega)]; exact hx8 x j hx) (anM_v ?_)
             · rw [f8 21 17 (by omega) (by omega) (by omega) (by omega) (by omega), e4 21 17 (by omega) (by omega)]; exact G1
             · rw [v16, e4 21 16 (by omega) (by omega), G2]
               show _ = ((gk.2.1 ++ [b]).length : Int)
               rw [List.length_append]; rfl
             · have hi2 : i < gk.2.1.length + 1 := by
                 have hi : i < (gk.2.1 ++ [b]).length := hi
                 rw [List.length_append] at hi; exact hi
               show m8 37 i = (gk.2.1 ++ [b]).getD i 0
               rw [getD_app]
               have q16 : m7 21 16 = gk.2.1.length := by rw [e4 21 16 (by omega) (by omega)]; exact G2
               by_cases ci : i < gk.2.1.length
               · rw [if_pos ci, f8 37 i (by omega) (by omega) (by omega) (by omega) (by omega), e4 37 i (by omega) (by omega)]; exact G3 i ci
               · rw [if_neg ci, if_pos (by omega), show (i : Int) = m7 21 16 by omega]; exact v37
             · rw [f8 21 19 (by omega) (by omega) (by omega) (by omega) (by omega), e3]
               show _ = ((gk.2.2.filter (fun x => !(x == b))).length : Int)
               rw [hfil, cut_len hkl]; omega
             · have hi : i < (gk.2.2.filter (fun x => !(x == b))).length := hi
               rw [hfil, cut_len hkl] at hi
               show m8 38 i = (gk.2.2.filter (fun x => !(x == b))).getD i 0
               rw [hfil, cut_get hkl, f8 38 i (by omega) (by omega) (by omega) (by omega) (by omega)]
               exact e5 i (by omega)
             · rw [f8 21 22 (by omega) (by omega) (by omega) (by omega) (by omega), e4 21 22 (by omega) (by omega)]; exact hx4.2.2
             · rw [f8 39 n (by omega) (by omega) (by omega) (by omega) (by omega), e4 39 n (by omega) (by omega)]; exact (hx5 n n0 n1).1
             · rw [f8 40 n (by omega) (by omega) (by omega) (by omega) (by omega), e4 40 n (by omega) (by omega)]; exact (hx5 n n0 n1).2
             · rw [f8 21 25 (by omega) (by omega) (by omega) (by omega) (by omega), e4 21 25 (by omega) (by omega)]; exact hx4.2.1)
          | (rw [lFree_0 her9] at h
             rw [if_pos rfl] at h
             refine h _ _ ⟨⟨hs, hb8, R8, Or.inl t8⟩, p8, fun z => ?_⟩ (fun x j hx => by rw [f8 x j (by omega) (by omega) (by omega) (by omega) (by omega), e4 x j (by omega) (by omega)]; exact hx8 x j hx) (anM_v ?_)
             · have z : fD (fErR Fk b).1 = 0 := z
               have := (erR_rows (F := Fk) (b := b)).2 her9
               omega
             · rw [f8 21 25 (by omega) (by omega) (by omega) (by omega) (by omega), e4 21 25 (by omega) (by omega)]; exact hx4.2.1)
          | (obtain ⟨st1, st2⟩ := cp_step e2 hvb hcs (k := k) (by omega) rfl
             obtain ⟨-, -, -, -, y6, -⟩ := id P6
             have hdr := drop_get (l := cs) (k := k) (by omega)
             rw [hdr, cpL_0 hr6] at e6
             rw [← e6, if_pos hr6] at h
             exact h _ _ (CM_put hs P6 (fun z => absurd z (by rw [hr6]; decide)) (fun _ => (st2 hr6).1)) (FrM_t e8 (FrM_P y6)) (anM_v (by rw [y6 21 25 (by omega) (by omega)]; exact e4.2.1)))
          | (unfold actColl1 at h
             rw [pI_0 (by omega), pI_1 hrm9] at h
             exact h _ _ (CM_25 C4) (FrM_t (FrM_t F3b (fun x j hx => f4 x j (by omega))) (FrM_w (by omega))) (anM_x 1 rfl (wr_s _ _ _ _)))
          | (exfalso; omega)
          | (have hv9 := vic_none (A := A) (dr := dr) (by omega)
             unfold actColl1 at h
             rw [pI_on (by omega), pI_0 (fun z => z (by omega)), hv9, pI_1 rfl] at h
             exact h _ _ (CM_25 hC) (FrM_w (by omega)) (anM_x 1 rfl (wr_s _ _ _ _)))
          | (rw [pI_on (by omega), pI_1 (by omega)] at h
             exact h _ _ (CM_25 hC) (FrM_w (by omega)) (anM_x 0 rfl (wr_s _ _ _ _)))
          | (rw [pI_1 (show dk A by show fD (aF A) = 1; omega)] at h
             exact h _ _ (CM_25 hC) (FrM_w (by omega)) (anM_x 1 rfl (wr_s _ _ _ _)))
  · skip
    refine wq_iconst (pc := 8) dX7_collect_8 ?_
    refine wq_goto (pc := 9) (tgt := 38) dX7_collect_9 (by decide) ?_
    refine wq_putIK (pc := 38) (kk := 25) dX7_collect_38 hs (gf_X7_127 _ rfl) rfl rfl rfl rfl rfl ?_
    refine wq_aload_n (pc := 41) dX7_collect_41 rfl rfl ?_
    refine wq_getIK (pc := 42) (kk := 25) dX7_collect_42 hs (gf_X7_127 _ rfl) rfl rfl rfl rfl ?_
    rw [wr_s]
    refine wq_if_le (pc := 45) (tgt := 50) dX7_collect_45 (by decide) (by first | (unfold inR; omega) | assumption) (fun c41 => ?_) (fun c41 => ?_)
    · skip
      refine wq_sub1 (L' := [(0, _), (1, _)]) ⟨rfl, rfl, trivial⟩ ?_
      first
        | (exfalso; omega)
        | exact cut1 _ (CM_25 hC) (FrM_w (by omega)) (wr_s _ _ _ _) (by omega) (by omega) (by omega)
    · skip
      refine wq_iconst (pc := 48) dX7_collect_48 ?_
      refine wq_iret (pc := 49) dX7_collect_49 rfl ?_
      first
        | (have hz9 : m7 21 19 = _ := e3
           have hTk : T + k = gk.2.2.length - 1 := by omega
           rw [lFree_1 her9] at h
           rw [if_neg (show ¬ (true = false) by decide)] at h
           dsimp only at h
           refine h _ _ ⟨⟨hs, hb8, R8, Or.inl t8⟩, p8, fun _ => ⟨⟨?_, ?_, fun i hi => ?_, ?_, fun i hi => ?_⟩, ?_, fun n n0 n1 => ⟨?_, ?_⟩⟩⟩ (fun x j hx => by rw [f8 x j (by omega) (by omega) (by omega) (by omega) (by omega), e4 x j (by omega) (by omega)]; exact hx8 x j hx) (anM_v ?_)
           · rw [f8 21 17 (by omega) (by omega) (by omega) (by omega) (by omega), e4 21 17 (by omega) (by omega)]; exact G1
           · rw [v16, e4 21 16 (by omega) (by omega), G2]
             show _ = ((gk.2.1 ++ [b]).length : Int)
             rw [List.length_append]; rfl
           · have hi2 : i < gk.2.1.length + 1 := by
               have hi : i < (gk.2.1 ++ [b]).length := hi
               rw [List.length_append] at hi; exact hi
             show m8 37 i = (gk.2.1 ++ [b]).getD i 0
             rw [getD_app]
             have q16 : m7 21 16 = gk.2.1.length := by rw [e4 21 16 (by omega) (by omega)]; exact G2
             by_cases ci : i < gk.2.1.length
             · rw [if_pos ci, f8 37 i (by omega) (by omega) (by omega) (by omega) (by omega), e4 37 i (by omega) (by omega)]; exact G3 i ci
             · rw [if_neg ci, if_pos (by omega), show (i : Int) = m7 21 16 by omega]; exact v37
           · rw [f8 21 19 (by omega) (by omega) (by omega) (by omega) (by omega), e3]
             show _ = ((gk.2.2.filter (fun x => !(x == b))).length : Int)
             rw [hfil, cut_len hkl]; omega
           · have hi : i < (gk.2.2.filter (fun x => !(x == b))).length := hi
             rw [hfil, cut_len hkl] at hi
             show m8 38 i = (gk.2.2.filter (fun x => !(x == b))).getD i 0
             rw [hfil, cut_get hkl, f8 38 i (by omega) (by omega) (by omega) (by omega) (by omega)]
             exact e5 i (by omega)
           · rw [f8 21 22 (by omega) (by omega) (by omega) (by omega) (by omega), e4 21 22 (by omega) (by omega)]; exact hx4.2.2
           · rw [f8 39 n (by omega) (by omega) (by omega) (by omega) (by omega), e4 39 n (by omega) (by omega)]; exact (hx5 n n0 n1).1
           · rw [f8 40 n (by omega) (by omega) (by omega) (by omega) (by omega), e4 40 n (by omega) (by omega)]; exact (hx5 n n0 n1).2
           · rw [f8 21 25 (by omega) (by omega) (by omega) (by omega) (by omega), e4 21 25 (by omega) (by omega)]; exact hx4.2.1)
        | (rw [lFree_0 her9] at h
           rw [if_pos rfl] at h
           refine h _ _ ⟨⟨hs, hb8, R8, Or.inl t8⟩, p8, fun z => ?_⟩ (fun x j hx => by rw [f8 x j (by omega) (by omega) (by omega) (by omega) (by omega), e4 x j (by omega) (by omega)]; exact hx8 x j hx) (anM_v ?_)
           · have z : fD (fErR Fk b).1 = 0 := z
             have := (erR_rows (F := Fk) (b := b)).2 her9
             omega
           · rw [f8 21 25 (by omega) (by omega) (by omega) (by omega) (by omega), e4 21 25 (by omega) (by omega)]; exact hx4.2.1)
        | (obtain ⟨st1, st2⟩ := cp_step e2 hvb hcs (k := k) (by omega) rfl
           obtain ⟨-, -, -, -, y6, -⟩ := id P6
           have hdr := drop_get (l := cs) (k := k) (by omega)
           rw [hdr, cpL_0 hr6] at e6
           rw [← e6, if_pos hr6] at h
           exact h _ _ (CM_put hs P6 (fun z => absurd z (by rw [hr6]; decide)) (fun _ => (st2 hr6).1)) (FrM_t e8 (FrM_P y6)) (anM_v (by rw [y6 21 25 (by omega) (by omega)]; exact e4.2.1)))
        | (unfold actColl1 at h
           rw [pI_0 (by omega), pI_1 hrm9] at h
           exact h _ _ (CM_25 C4) (FrM_t (FrM_t F3b (fun x j hx => f4 x j (by omega))) (FrM_w (by omega))) (anM_x 1 rfl (wr_s _ _ _ _)))
        | (exfalso; omega)
        | (have hv9 := vic_none (A := A) (dr := dr) (by omega)
           unfold actColl1 at h
           rw [pI_on (by omega), pI_0 (fun z => z (by omega)), hv9, pI_1 rfl] at h
           exact h _ _ (CM_25 hC) (FrM_w (by omega)) (anM_x 1 rfl (wr_s _ _ _ _)))
        | (rw [pI_on (by omega), pI_1 (by omega)] at h
           exact h _ _ (CM_25 hC) (FrM_w (by omega)) (anM_x 0 rfl (wr_s _ _ _ _)))
        | (rw [pI_1 (show dk A by show fD (aF A) = 1; omega)] at h
           exact h _ _ (CM_25 hC) (FrM_w (by omega)) (anM_x 1 rfl (wr_s _ _ _ _)))
