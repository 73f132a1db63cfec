/-! ### the reference's questions -/
theorem EL_nmAt {F : Fl} {el : LE2} (hS : NS F) (h : ∀ P, cntL P el = cR (fun r => ctR F r ∧ P (eP F r)) 128) (hso : srtE el) {d p : Int} (hd : thDf F d) {k : Nat} (hk : k < el.length) (hkd : (el.getD k PZ2).1 / 100 = d) (hp : cntL (fun x => x.1 / 100 = d) (el.take k) = p) : nmAt (TG F d) p 99 = (el.getD k PZ2).1 % 100 := by
  obtain ⟨r, hr, hc, er⟩ := (el_mem h _).mp (lget_mem PZ2 hk)
  have b := asgR_b hS hr.1 hr.2 hc.1
  have t := ct_TG hr.1 hc
  have e1 : (el.getD k PZ2).1 = 100 * fN F r 3 + fN F r 5 := by rw [← er]
  have e3 : fN F r 3 = d := by omega
  have e5 : (el.getD k PZ2).1 % 100 = fN F r 5 := by omega
  rw [e5]
  have hq : fN F r 5 = (((fN F r 5).toNat : Nat) : Int) := by omega
  rw [hq]
  refine nmAt_is (q := (fN F r 5).toNat) (by omega) (by rw [← hq, ← e3, t.1]; omega) ?_ 99 (by omega)
  rw [nmRow d ((fN F r 5).toNat - 1), ← hp]
  have a := h (fun x => x.1 / 100 = d ∧ x.1 % 100 < fN F r 5)
  have c1 : cR (fun s => ctR F s ∧ (fun x : Int × Int => x.1 / 100 = d ∧ x.1 % 100 < fN F r 5) (eP F s)) 128 = cR (fun s => asgR F s ∧ fN F s 3 = d ∧ 1 ≤ fN F s 5 ∧ fN F s 5 ≤ (((fN F r 5).toNat - 1 : Nat) : Int)) 128 := cR_cg 128 (fun s s0 s1 => by
    show (ctR F s ∧ (100 * fN F s 3 + fN F s 5) / 100 = d ∧ (100 * fN F s 3 + fN F s 5) % 100 < fN F r 5) ↔ _
    constructor
    · rintro ⟨z1, z2, z3⟩
      have bs := asgR_b hS s0 s1 z1.1
      exact ⟨z1.1, by omega, by omega, by omega⟩
    · rintro ⟨z1, z2, z3, z4⟩
      have bs := asgR_b hS s0 s1 z1
      exact ⟨⟨z1, by rw [z2]; exact hd⟩, by omega, by omega⟩)
  rw [← c1, ← a]
  have sp : el = el.take k ++ el.drop k := (List.take_append_drop k el).symm
  have hcnt : cntL (fun x : Int × Int => x.1 / 100 = d ∧ x.1 % 100 < fN F r 5) el = cntL (fun x : Int × Int => x.1 / 100 = d ∧ x.1 % 100 < fN F r 5) (el.take k) + cntL (fun x : Int × Int => x.1 / 100 = d ∧ x.1 % 100 < fN F r 5) (el.drop k) := by
    rw [← cntL_app, List.take_append_drop]
  have z0 : cntL (fun x : Int × Int => x.1 / 100 = d ∧ x.1 % 100 < fN F r 5) (el.drop k) = 0 := by
    have nn := cntL_nn (fun x : Int × Int => x.1 / 100 = d ∧ x.1 % 100 < fN F r 5) (el.drop k)
    by_cases c : 0 < cntL (fun x : Int × Int => x.1 / 100 = d ∧ x.1 % 100 < fN F r 5) (el.drop k)
    · obtain ⟨i, hi, q1, q2⟩ := (cntL_pos PZ2 (el.drop k)).mp c
      have hi2 : i < el.length - k := by rw [List.length_drop] at hi; exact hi
      have eg : (el.drop k).getD i PZ2 = el.getD (k + i) PZ2 := by rw [List.getD_eq_getElem?_getD, List.getD_eq_getElem?_getD, List.getElem?_drop]
      rw [eg] at q1 q2
      rcases Nat.eq_zero_or_pos i with w | w
      · rw [w, Nat.add_zero] at q2
        omega
      · have := hso k (k + i) (by omega) (by omega)
        omega
    · omega
  rw [hcnt, z0, Int.add_zero]
  have le1 := cntL_le (P := fun x : Int × Int => x.1 / 100 = d) (P' := fun x : Int × Int => x.1 / 100 = d ∧ x.1 % 100 < fN F r 5) (el.take k) (fun x _ z => z.1)
  have le2 := cntL_le (P' := fun x : Int × Int => x.1 / 100 = d) (P := fun x : Int × Int => x.1 / 100 = d ∧ x.1 % 100 < fN F r 5) (el.take k) (fun x hx z => ⟨z, by
    obtain ⟨i, hi, e⟩ := mem_lget PZ2 hx
    have hi2 : i < k := by rw [List.length_take] at hi; omega
    have eg : (el.take k).getD i PZ2 = el.getD i PZ2 := by rw [List.getD_eq_getElem?_getD, List.getD_eq_getElem?_getD, List.getElem?_take, if_pos hi2]
    rw [eg] at e
    have := hso i k hi2 hk
    rw [e] at this
    omega⟩)
  omega
theorem KL_el {F : Fl} {μ : nMem} {ε : nEnv} (h : KL F μ ε) : ∃ el : LE2, (μ 45 0 = el.length ∧ ∀ i : Nat, i < el.length → μ 43 i = (el.getD i PZ2).1 ∧ μ 44 i = (el.getD i PZ2).2) ∧ el.length ≤ 128 ∧ (∀ P, cntL P el = cR (fun r => ctR F r ∧ P (eP F r)) 128) ∧ srtE el := by
  obtain ⟨el, fl, h1, -, h3, h4, -, -, h7⟩ := LE_0 h.2.2.1
  exact ⟨el, h1, h3.1, h4, h7⟩
theorem sp_X7_targetOf {μ : nMem} {ε : nEnv} {Q : nOut → nMem → nEnv → Prop} {F : Fl} {d nm : Int} (hK : KM F μ ε) (hA : KP F) (hd : thDf F d) (hm : nmR nm) (h : ∀ m, KL F m ε → FrY μ m → Q (.inl (some (vI (if TG F d nm = 0 then -1 else TG F d nm)))) m ε) : Sp mX7_targetOf [vR 21, vI d, vI nm] μ ε Q := by
  refine Sp_of (L := [(0, vR 21), (1, vI d), (2, vI nm)]) (by decide) rfl rfl (Nat.le_of_ble_eq_true rfl) ?_
  obtain ⟨hs, -, -, -⟩ := id hK
  refine wq_aload_n (pc := 0) dX7_targetOf_0 rfl rfl ?_
  refine wq_iload_n (pc := 1) dX7_targetOf_1 rfl rfl ?_
  refine wq_iload_n (pc := 2) dX7_targetOf_2 rfl rfl ?_
  refine cVK_2 (pc := 3) dX7_targetOf_3 hs (cw_X7_171 _ rfl) (by decide) rfl ⟨by decide, by decide⟩ (Nat.le_of_ble_eq_true rfl) (sp_X7_entry hK hA hd hm (fun m2 v K2 Y2 ev => ?_))
  refine kr_s ?_
  have rv : inR v := by unfold inR; omega
  refine wq_istore_n (pc := 6) (L' := [(3, _), (0, _), (1, _), (2, _)]) dX7_targetOf_6 rfl rfl (by decide) ?_
  refine wq_iload_n (pc := 7) dX7_targetOf_7 rfl rfl ?_
  refine wq_iconst (pc := 8) dX7_targetOf_8 ?_
  refine wq_icmp_ne (pc := 9) (tgt := 16) dX7_targetOf_9 (by decide) (by first | (unfold inR; omega) | assumption) (by first | (unfold inR; omega) | assumption) (fun c2 => ?_) (fun c2 => ?_)
  · skip
    refine wq_iload_n (pc := 16) dX7_targetOf_16 rfl rfl ?_
    refine wq_iconst (pc := 17) dX7_targetOf_17 ?_
    refine wq_idiv (pc := 18) dX7_targetOf_18 (by omega) (by omega) ?_
    refine wq_iret (pc := 19) dX7_targetOf_19 rfl ?_
    first
      | (rw [if_pos (by omega)] at h; exact h _ K2 Y2)
      | (rw [if_neg (by omega)] at h
         rw [show v / 2 = TG F d nm by omega]; exact h _ K2 Y2)
  · skip
    refine wq_iconst (pc := 12) dX7_targetOf_12 ?_
    refine wq_goto (pc := 13) (tgt := 19) dX7_targetOf_13 (by decide) ?_
    refine wq_iret (pc := 19) dX7_targetOf_19 rfl ?_
    first
      | (rw [if_pos (by omega)] at h; exact h _ K2 Y2)
      | (rw [if_neg (by omega)] at h
         rw [show v / 2 = TG F d nm by omega]; exact h _ K2 Y2)
theorem sp_X7_lookUp {μ : nMem} {ε : nEnv} {Q : nOut → nMem → nEnv → Prop} {A : AS} {nb vb d nm : Int} (hC : CM A μ ε) (hO : AOK A nb vb) (r1 : inR d) (r2 : inR nm) (h : ∀ m v, CM (actLookUp A d nm).2 m ε → FrM μ m → anM (actLookUp A d nm).1 [xI, xA, xS] v m → Q (.inl (some (vI v))) m ε) : Sp mX7_lookUp [vR 21, vI d, vI nm] μ ε Q := by
  refine Sp_of (L := [(0, vR 21), (1, vI d), (2, vI nm)]) (by decide) rfl rfl (Nat.le_of_ble_eq_true rfl) ?_
  have hs := hC.1.1
  unfold actLookUp qD at h
  refine wq_aload_n (pc := 0) dX7_lookUp_0 rfl rfl ?_
  refine wq_iload_n (pc := 1) dX7_lookUp_1 rfl rfl ?_
  refine wq_iload_n (pc := 2) dX7_lookUp_2 rfl rfl ?_
  refine cVK_2 (pc := 3) dX7_lookUp_3 hs (cw_X7_219 _ rfl) (by decide) rfl ⟨by decide, by decide⟩ (Nat.le_of_ble_eq_true rfl) (sp_X7_canName hC hO r1 r2 (fun hd hdir hnm m1 C1 F1 t1 => ?_) (fun m1 C1 F1 t1 => ?_))
  · skip
    refine kr_s ?_
    have hd9 := hd
    refine wq_if_eq (pc := 6) (tgt := 18) dX7_lookUp_6 (by decide) (by first | (unfold inR; omega) | assumption) (fun c => absurd c (by decide)) (fun _ => ?_)
    refine wq_aload_n (pc := 9) dX7_lookUp_9 rfl rfl ?_
    refine wq_iload_n (pc := 10) dX7_lookUp_10 rfl rfl ?_
    refine wq_iload_n (pc := 11) dX7_lookUp_11 rfl rfl ?_
    refine cVK_2 (pc := 12) dX7_lookUp_12 hs (cw_X7_289 _ rfl) (by decide) rfl ⟨by decide, by decide⟩ (Nat.le_of_ble_eq_true rfl) (sp_X7_targetOf C1.1 (AOK_KP hO) hdir hnm (fun m2 K2 Y2 => ?_))
    refine kr_s ?_
    have C2 := CM_Y C1 K2.1 Y2
    refine wq_goto (pc := 15) (tgt := 19) dX7_lookUp_15 (by decide) ?_
    refine wq_iret (pc := 19) dX7_lookUp_19 rfl ?_
    first
      | (rw [pI_on hd, pI_0 (fun z => z hdir), pI_0 (fun z => z hnm)] at h
         exact h _ _ C2 (FrM_t F1 (FrM_Y Y2)) (anM_v (by rw [Y2 21 25 (by omega) (by omega)]; exact t1)))
      | (rcases t1 with ⟨q, t⟩ | ⟨q, q2, t⟩ | ⟨q, q2, q3, t⟩
         · rw [pI_1 q] at h; exact h _ _ C1 F1 (anM_x 2 rfl (by rw [t]; rfl))
         · rw [pI_0 q, pI_1 q2] at h; exact h _ _ C1 F1 (anM_x 0 rfl (by rw [t]; rfl))
         · rw [pI_0 q, pI_0 (fun z => z q2), pI_1 q3] at h; exact h _ _ C1 F1 (anM_x 1 rfl (by rw [t]; rfl)))
  · skip
    refine kr_s ?_
    have t19 := t1
    refine wq_if_eq (pc := 6) (tgt := 18) dX7_lookUp_6 (by decide) (by first | (unfold inR; omega) | assumption) (fun _ => ?_) (fun c => absurd c (by decide))
    refine wq_iconst (pc := 18) dX7_lookUp_18 ?_
    refine wq_iret (pc := 19) dX7_lookUp_19 rfl ?_
    first
      | (rw [pI_on hd, pI_0 (fun z => z hdir), pI_0 (fun z => z hnm)] at h
         exact h _ _ C2 (FrM_t F1 (FrM_Y Y2)) (anM_v (by rw [Y2 21 25 (by omega) (by omega)]; exact t1)))
      | (rcases t1 with ⟨q, t⟩ | ⟨q, q2, t⟩ | ⟨q, q2, q3, t⟩
         · rw [pI_1 q] at h; exact h _ _ C1 F1 (anM_x 2 rfl (by rw [t]; rfl))
         · rw [pI_0 q, pI_1 q2] at h; exact h _ _ C1 F1 (anM_x 0 rfl (by rw [t]; rfl))
         · rw [pI_0 q, pI_0 (fun z => z q2), pI_1 q3] at h; exact h _ _ C1 F1 (anM_x 1 rfl (by rw [t]; rfl)))
theorem sp_X7_hasIt {μ : nMem} {ε : nEnv} {Q : nOut → nMem → nEnv → Prop} {A : AS} {nb vb d : Int} (hC : CM A μ ε) (hO : AOK A nb vb) (r1 : inR d) (h1 : fD (aF A) = 0 → isDr A d → ∀ m, CM A m ε → FrM μ m → m 21 25 = 0 → Q (.inl (some (vI 1))) m ε) (h0 : ∀ m, CM A m ε → FrM μ m → (dk A ∧ m 21 25 = 2) ∨ (¬ dk A ∧ ¬ isDr A d ∧ m 21 25 = 1) → Q (.inl (some (vI 0))) m ε) : Sp mX7_hasIt [vR 21, vI d] μ ε Q := by
  refine Sp_of (L := [(0, vR 21), (1, vI d)]) (by decide) rfl rfl (Nat.le_of_ble_eq_true rfl) ?_
  have hs := hC.1.1
  have q21 := hC.2.1.2
  have hD := hO.2.1
  have r21 : inR (μ 21 21) := by unfold inR; omega
  
  refine wq_aload_n (pc := 0) dX7_hasIt_0 rfl rfl ?_
  refine wq_aload_n (pc := 1) dX7_hasIt_1 rfl rfl ?_
  refine wq_getIK (pc := 2) (kk := 21) dX7_hasIt_2 hs (gf_X7_174 _ rfl) rfl rfl rfl rfl ?_
  refine wq_if_eq (pc := 5) (tgt := 12) dX7_hasIt_5 (by decide) (by first | (unfold inR; omega) | assumption) (fun c1 => ?_) (fun c1 => ?_)
  · skip
    refine wq_aload_n (pc := 12) dX7_hasIt_12 rfl rfl ?_
    refine wq_iload_n (pc := 13) dX7_hasIt_13 rfl rfl ?_
    refine cVK_1 (pc := 14) dX7_hasIt_14 hs (cw_X7_213 _ rfl) (by decide) rfl ⟨by decide, by decide⟩ (Nat.le_of_ble_eq_true rfl) (sp_X7_hasDirectory hC.1 (AOK_KP hO) r1 (fun hdir m1 K1 Y1 => ?_) (fun hdir m1 K1 Y1 => ?_))
    · skip
      refine kr_s ?_
      have hdir9 := hdir
      have C1 := CM_Y hC K1.1 Y1
      have F1 := FrM_Y Y1
      refine wq_if_ne (pc := 17) (tgt := 24) dX7_hasIt_17 (by decide) (by first | (unfold inR; omega) | assumption) (fun _ => ?_) (fun c => absurd c (by decide))
      refine wq_iconst (pc := 24) dX7_hasIt_24 ?_
      refine wq_putIK (pc := 25) (kk := 25) dX7_hasIt_25 hs (gf_X7_127 _ rfl) rfl rfl rfl rfl rfl ?_
      refine wq_aload_n (pc := 28) dX7_hasIt_28 rfl rfl ?_
      refine wq_getIK (pc := 29) (kk := 25) dX7_hasIt_29 hs (gf_X7_127 _ rfl) rfl rfl rfl rfl ?_
      rw [wr_s]
      refine wq_if_ne (pc := 32) (tgt := 39) dX7_hasIt_32 (by decide) (by first | (unfold inR; omega) | assumption) (fun c5 => ?_) (fun c5 => ?_)
      · skip
        refine wq_iconst (pc := 39) dX7_hasIt_39 ?_
        refine wq_zret (pc := 40) dX7_hasIt_40 rfl (by first | omega | (simp; done) | assumption) ?_
        first
          | (exfalso; omega)
          | exact h1 (by omega) hdir9 _ (CM_25 C1) (FrM_t F1 (FrM_w (by omega))) (wr_s _ _ _ _)
          | exact h0 _ (CM_25 C1) (FrM_t F1 (FrM_w (by omega))) (Or.inr ⟨by omega, hdir9, wr_s _ _ _ _⟩)
          | exact h0 _ (CM_25 hC) (FrM_w (by omega)) (Or.inl ⟨by omega, wr_s _ _ _ _⟩)
      · skip
        refine wq_iconst (pc := 35) dX7_hasIt_35 ?_
        refine wq_goto (pc := 36) (tgt := 40) dX7_hasIt_36 (by decide) ?_
        refine wq_zret (pc := 40) dX7_hasIt_40 rfl (by first | omega | (simp; done) | assumption) ?_
        first
          | (exfalso; omega)
          | exact h1 (by omega) hdir9 _ (CM_25 C1) (FrM_t F1 (FrM_w (by omega))) (wr_s _ _ _ _)
          | exact h0 _ (CM_25 C1) (FrM_t F1 (FrM_w (by omega))) (Or.inr ⟨by omega, hdir9, wr_s _ _ _ _⟩)
          | exact h0 _ (CM_25 hC) (FrM_w (by omega)) (Or.inl ⟨by omega, wr_s _ _ _ _⟩)
    · skip
      refine kr_s ?_
      have hdir9 := hdir
      have C1 := CM_Y hC K1.1 Y1
      have F1 := FrM_Y Y1
      refine wq_if_ne (pc := 17) (tgt := 24) dX7_hasIt_17 (by decide) (by first | (unfold inR; omega) | assumption) (fun c => absurd c (by decide)) (fun _ => ?_)
      refine wq_iconst (pc := 20) dX7_hasIt_20 ?_
      refine wq_goto (pc := 21) (tgt := 25) dX7_hasIt_21 (by decide) ?_
      refine wq_putIK (pc := 25) (kk := 25) dX7_hasIt_25 hs (gf_X7_127 _ rfl) rfl rfl rfl rfl rfl ?_
      refine wq_aload_n (pc := 28) dX7_hasIt_28 rfl rfl ?_
      refine wq_getIK (pc := 29) (kk := 25) dX7_hasIt_29 hs (gf_X7_127 _ rfl) rfl rfl rfl rfl ?_
      rw [wr_s]
      refine wq_if_ne (pc := 32) (tgt := 39) dX7_hasIt_32 (by decide) (by first | (unfold inR; omega) | assumption) (fun c7 => ?_) (fun c7 => ?_)
      · skip
        refine wq_iconst (pc := 39) dX7_hasIt_39 ?_
        refine wq_zret (pc := 40) dX7_hasIt_40 rfl (by first | omega | (simp; done) | assumption) ?_
        first
          | (exfalso; omega)
          | exact h1 (by omega) hdir9 _ (CM_25 C1) (FrM_t F1 (FrM_w (by omega))) (wr_s _ _ _ _)
          | exact h0 _ (CM_25 C1) (FrM_t F1 (FrM_w (by omega))) (Or.inr ⟨by omega, hdir9, wr_s _ _ _ _⟩)
          | exact h0 _ (CM_25 hC) (FrM_w (by omega)) (Or.inl ⟨by omega, wr_s _ _ _ _⟩)
      · skip
        refine wq_iconst (pc := 35) dX7_hasIt_35 ?_
        refine wq_goto (pc := 36) (tgt := 40) dX7_hasIt_36 (by decide) ?_
        refine wq_zret (pc := 40) dX7_hasIt_40 rfl (by first | omega | (simp; done) | assumption) ?_
        first
          | (exfalso; omega)
          | exact h1 (by omega) hdir9 _ (CM_25 C1) (FrM_t F1 (FrM_w (by omega))) (wr_s _ _ _ _)
          | exact h0 _ (CM_25 C1) (FrM_t F1 (FrM_w (by omega))) (Or.inr ⟨by omega, hdir9, wr_s _ _ _ _⟩)
          | exact h0 _ (CM_25 hC) (FrM_w (by omega)) (Or.inl ⟨by omega, wr_s _ _ _ _⟩)
  · skip
    refine wq_iconst (pc := 8) dX7_hasIt_8 ?_
    refine wq_goto (pc := 9) (tgt := 25) dX7_hasIt_9 (by decide) ?_
    refine wq_putIK (pc := 25) (kk := 25) dX7_hasIt_25 hs (gf_X7_127 _ rfl) rfl rfl rfl rfl rfl ?_
    refine wq_aload_n (pc := 28) dX7_hasIt_28 rfl rfl ?_
    refine wq_getIK (pc := 29) (kk := 25) dX7_hasIt_29 hs (gf_X7_127 _ rfl) rfl rfl rfl rfl ?_
    rw [wr_s]
    refine wq_if_ne (pc := 32) (tgt := 39) dX7_hasIt_32 (by decide) (by first | (unfold inR; omega) | assumption) (fun c8 => ?_) (fun c8 => ?_)
    · skip
      refine wq_iconst (pc := 39) dX7_hasIt_39 ?_
      refine wq_zret (pc := 40) dX7_hasIt_40 rfl (by first | omega | (simp; done) | assumption) ?_
      first
        | (exfalso; omega)
        | exact h1 (by omega) hdir9 _ (CM_25 C1) (FrM_t F1 (FrM_w (by omega))) (wr_s _ _ _ _)
        | exact h0 _ (CM_25 C1) (FrM_t F1 (FrM_w (by omega))) (Or.inr ⟨by omega, hdir9, wr_s _ _ _ _⟩)
        | exact h0 _ (CM_25 hC) (FrM_w (by omega)) (Or.inl ⟨by omega, wr_s _ _ _ _⟩)
    · skip
      refine wq_iconst (pc := 35) dX7_hasIt_35 ?_
      refine wq_goto (pc := 36) (tgt := 40) dX7_hasIt_36 (by decide) ?_
      refine wq_zret (pc := 40) dX7_hasIt_40 rfl (by first | omega | (simp; done) | assumption) ?_
      first
        | (exfalso; omega)
        | exact h1 (by omega) hdir9 _ (CM_25 C1) (FrM_t F1 (FrM_w (by omega))) (wr_s _ _ _ _)
        | exact h0 _ (CM_25 C1) (FrM_t F1 (FrM_w (by omega))) (Or.inr ⟨by omega, hdir9, wr_s _ _ _ _⟩)
        | exact h0 _ (CM_25 hC) (FrM_w (by omega)) (Or.inl ⟨by omega, wr_s _ _ _ _⟩)
theorem sp_X7_names {μ : nMem} {ε : nEnv} {Q : nOut → nMem → nEnv → Prop} {A : AS} {nb vb d : Int} (hC : CM A μ ε) (hO : AOK A nb vb) (r1 : inR d) (h : ∀ m v, CM (actNames A d).2 m ε → FrM μ m → anM (actNames A d).1 [xI, xS] v m → Q (.inl (some (vI v))) m ε) : Sp mX7_names [vR 21, vI d] μ ε Q := by
  refine Sp_of (L := [(0, vR 21), (1, vI d)]) (by decide) rfl rfl (Nat.le_of_ble_eq_true rfl) ?_
  have hs := hC.1.1
  unfold actNames qD at h
  refine wq_aload_n (pc := 0) dX7_names_0 rfl rfl ?_
  refine wq_iload_n (pc := 1) dX7_names_1 rfl rfl ?_
  refine cVK_1 (pc := 2) dX7_names_2 hs (cw_X7_292 _ rfl) (by decide) rfl ⟨by decide, by decide⟩ (Nat.le_of_ble_eq_true rfl) (sp_X7_hasIt hC hO r1 (fun hd hdir m1 C1 F1 t1 => ?_) (fun m1 C1 F1 t1 => ?_))
  · skip
    refine kr_s ?_
    have hd9 := hd
    refine wq_if_eq (pc := 5) (tgt := 16) dX7_names_5 (by decide) (by first | (unfold inR; omega) | assumption) (fun c => absurd c (by decide)) (fun _ => ?_)
    refine wq_aload_n (pc := 8) dX7_names_8 rfl rfl ?_
    refine wq_iload_n (pc := 9) dX7_names_9 rfl rfl ?_
    refine cVK_1 (pc := 10) dX7_names_10 hs (cw_X7_240 _ rfl) (by decide) rfl ⟨by decide, by decide⟩ (Nat.le_of_ble_eq_true rfl) (sp_X7_namesIn C1.1 (AOK_KP hO) hdir (fun m2 K2 Y2 => ?_))
    refine kr_s ?_
    have C2 := CM_Y C1 K2.1 Y2
    have F2 := FrM_t F1 (FrM_Y Y2)
    have t2 : m2 21 25 = 0 := by rw [Y2 21 25 (by omega) (by omega)]; exact t1
    have cb := cntN_bb (TG (aF A) d) 99
    refine wq_goto (pc := 13) (tgt := 17) dX7_names_13 (by decide) ?_
    refine wq_iret (pc := 17) dX7_names_17 rfl ?_
    first
      | (rw [pI_on hd, pI_0 (fun z => z hdir)] at h
         exact h _ _ C2 F2 (anM_v t2))
      | (rcases t1 with ⟨q, t⟩ | ⟨q, q2, t⟩
         · rw [pI_1 q] at h; exact h _ _ C1 F1 (anM_x 1 rfl (by rw [t]; rfl))
         · rw [pI_0 q, pI_1 q2] at h; exact h _ _ C1 F1 (anM_x 0 rfl (by rw [t]; rfl)))
  · skip
    refine kr_s ?_
    have t19 := t1
    refine wq_if_eq (pc := 5) (tgt := 16) dX7_names_5 (by decide) (by first | (unfold inR; omega) | assumption) (fun _ => ?_) (fun c => absurd c (by decide))
    refine wq_iconst (pc := 16) dX7_names_16 ?_
    refine wq_iret (pc := 17) dX7_names_17 rfl ?_
    first
      | (rw [pI_on hd, pI_0 (fun z => z hdir)] at h
         exact h _ _ C2 F2 (anM_v t2))
      | (rcases t1 with ⟨q, t⟩ | ⟨q, q2, t⟩
         · rw [pI_1 q] at h; exact h _ _ C1 F1 (anM_x 1 rfl (by rw [t]; rfl))
         · rw [pI_0 q, pI_1 q2] at h; exact h _ _ C1 F1 (anM_x 0 rfl (by rw [t]; rfl)))
theorem sp_X7_nameAt {μ : nMem} {ε : nEnv} {Q : nOut → nMem → nEnv → Prop} {A : AS} {nb vb d p : Int} (hC : CM A μ ε) (hO : AOK A nb vb) (r1 : inR d) (r2 : inR p) (h : ∀ m v, CM (actNameAt A d p).2 m ε → FrM μ m → anM (actNameAt A d p).1 [xI, xS] v m → Q (.inl (some (vI v))) m ε) : Sp mX7_nameAt [vR 21, vI d, vI p] μ ε Q := by
  refine Sp_of (L := [(0, vR 21), (1, vI d), (2, vI p)]) (by decide) rfl rfl (Nat.le_of_ble_eq_true rfl) ?_
  have hs := hC.1.1
  have cut1 : ∀ (m : nMem), (CM A m ε) → (FrM μ m) → ((m 21 25 = 0 ∧ fD (aF A) = 0 ∧ isDr A d ∧ (0 ≤ p ∧ p < cntN (TG (aF A) d) 99) ∧ KL (aF A) m ε) ∨ (1 ≤ m 21 25 ∧ m 21 25 ≤ 2 ∧ ∃ a, actNameAt A d p = (a, A) ∧ anM a [xI, xS] 0 m)) → wp mX7_nameAt 32 [(0, vR 21), (1, vI d), (2, vI p)] [] m ε Q := by
    intro m e0 e1 e2
    have hCm := e0
    have hFm := e1
    have hcase := e2
    have hb := e0.1.2.1
    have q45 := b45 hb 0
    have r45 : inR (m 45 0) := by unfold inR; omega
    have r25 : inR (m 21 25) := by
      rcases e2 with ⟨z, -⟩ | ⟨z1, z2, -⟩
      · rw [z]; exact ⟨by decide, by decide⟩
      · unfold inR; omega
    have rp : inR p := r2
    obtain ⟨el, hel⟩ : ∃ el : LE2, m 21 25 = 0 → ((m 45 0 = el.length ∧ ∀ i : Nat, i < el.length → m 43 i = (el.getD i PZ2).1 ∧ m 44 i = (el.getD i PZ2).2) ∧ el.length ≤ 128 ∧ (∀ P, cntL P el = cR (fun r => ctR (aF A) r ∧ P (eP (aF A) r)) 128) ∧ srtE el) := by
      rcases e2 with ⟨z, -, -, -, hK⟩ | ⟨z1, -⟩
      · obtain ⟨el, q⟩ := KL_el hK
        exact ⟨el, fun _ => q⟩
      · exact ⟨[], fun z => by omega⟩
    refine wq_iconst (pc := 32) dX7_nameAt_32 ?_
    refine wq_istore_n (pc := 33) (L' := [(3, _), (0, _), (1, _), (2, _)]) dX7_nameAt_33 rfl rfl (by decide) ?_
    refine wq_iconst (pc := 34) dX7_nameAt_34 ?_
    refine wq_istore (pc := 35) (L' := [(4, _), (3, _), (0, _), (1, _), (2, _)]) dX7_nameAt_35 rfl (by decide) ?_
    have loop2 : ∀ (n k : Nat), ∀ (w : Int) (j : Int), k ≤ 128 → 128 < k + n → j = (k : Int) → (k : Int) ≤ m 45 0 → (m 21 25 = 0 → w = cntL (fun x : Int × Int => x.1 / 100 = d) (el.take k) ∧ w ≤ p) → 0 ≤ w ∧ w ≤ k → wp mX7_nameAt 37 [(0, vR 21), (1, vI d), (2, vI p), (3, vI w), (4, vI j)] [] m ε Q := by
      intro n
      induction n with
      | zero => intro k w j hk1 hk2 e0 e1 e2 e3; exact absurd hk2 (by omega)
      | succ n ih =>
        intro k w j hk1 hk2 e0 e1 e2 e3
        subst e0
        have rk : inR (k : Int) := by unfold inR; omega
        have rw1 : inR w := by unfold inR; omega
        have rd : inR d := r1
        have g43 := b43 hb (k : Int)
        have r9 : inR (m 43 (k : Int) / 100) := by unfold inR; omega
        refine wq_iload (pc := 37) dX7_nameAt_37 rfl ?_
        refine wq_aload_n (pc := 39) dX7_nameAt_39 rfl rfl ?_
        refine wq_getS (pc := 40) dX7_nameAt_40 hs (gf_X7_81 _ rfl) rfl rfl rfl rfl rfl ?_
        refine wq_iconst (pc := 43) dX7_nameAt_43 ?_
        refine wq_ialdK (pc := 44) dX7_nameAt_44 hs rfl (by omega) (by omega) ?_
        refine wq_icmp_ge (pc := 45) (tgt := 94) dX7_nameAt_45 (by decide) (by first | (unfold inR; omega) | assumption) (by first | (unfold inR; omega) | assumption) (fun c3 => ?_) (fun c3 => ?_)
        · skip
          refine wq_iconst (pc := 94) dX7_nameAt_94 ?_
          refine wq_iret (pc := 95) dX7_nameAt_95 rfl ?_
          first
            | (have t0 : m 21 25 = 0 := by omega
               obtain ⟨⟨l1, l2⟩, l3, l4, l5⟩ := hel t0
               obtain ⟨w1, w2⟩ := e2 t0
               have q9 := (l2 k (by omega)).1
               rcases hcase with ⟨-, hd, hdir, hpp, hK⟩ | ⟨z1, -⟩
               · have hS := PA_NS (AOK_KP hO).1
                 have key := EL_nmAt hS l4 l5 hdir (k := k) (p := p) (by omega) (by rw [← q9]; omega) (by omega)
                 rw [q9, ← key]
                 unfold actNameAt qD at h
                 rw [pI_on hd, pI_0 (fun z => z hdir), pI_0 (fun z => z hpp)] at h
                 exact h _ _ hCm hFm (anM_v t0)
               · omega)
            | (rcases hcase with ⟨t0, hd, hdir, hpp, hK⟩ | ⟨z1, z2, a, ea, an⟩
               · obtain ⟨⟨l1, l2⟩, l3, l4, l5⟩ := hel t0
                 obtain ⟨w1, w2⟩ := e2 t0
                 have hk9 : k = el.length := by omega
                 rw [hk9, List.take_length, EL_nm (PA_NS (AOK_KP hO).1) l4 hdir] at w1
                 exfalso; omega
               · rw [ea] at h; exact h _ _ hCm hFm an)
        · skip
          refine wq_aload_n (pc := 48) dX7_nameAt_48 rfl rfl ?_
          refine wq_getIK (pc := 49) (kk := 25) dX7_nameAt_49 hs (gf_X7_127 _ rfl) rfl rfl rfl rfl ?_
          refine wq_if_ne (pc := 52) (tgt := 94) dX7_nameAt_52 (by decide) (by first | (unfold inR; omega) | assumption) (fun c4 => ?_) (fun c4 => ?_)
          · skip
            refine wq_iconst (pc := 94) dX7_nameAt_94 ?_
            refine wq_iret (pc := 95) dX7_nameAt_95 rfl ?_
            first
              | (have t0 : m 21 25 = 0 := by omega
                 obtain ⟨⟨l1, l2⟩, l3, l4, l5⟩ := hel t0
                 obtain ⟨w1, w2⟩ := e2 t0
                 have q9 := (l2 k (by omega)).1
                 rcases hcase with ⟨-, hd, hdir, hpp, hK⟩ | ⟨z1, -⟩
                 · have hS := PA_NS (AOK_KP hO).1
                   have key := EL_nmAt hS l4 l5 hdir (k := k) (p := p) (by omega) (by rw [← q9]; omega) (by omega)
                   rw [q9, ← key]
                   unfold actNameAt qD at h
                   rw [pI_on hd, pI_0 (fun z => z hdir), pI_0 (fun z => z hpp)] at h
                   exact h _ _ hCm hFm (anM_v t0)
                 · omega)
              | (rcases hcase with ⟨t0, hd, hdir, hpp, hK⟩ | ⟨z1, z2, a, ea, an⟩
                 · obtain ⟨⟨l1, l2⟩, l3, l4, l5⟩ := hel t0
                   obtain ⟨w1, w2⟩ := e2 t0
                   have hk9 : k = el.length := by omega
                   rw [hk9, List.take_length, EL_nm (PA_NS (AOK_KP hO).1) l4 hdir] at w1
                   exfalso; omega
                 · rw [ea] at h; exact h _ _ hCm hFm an)
          · skip
            refine wq_aload_n (pc := 55) dX7_nameAt_55 rfl rfl ?_
            refine wq_getS (pc := 56) dX7_nameAt_56 hs (gf_X7_75 _ rfl) rfl rfl rfl rfl rfl ?_
            refine wq_iload (pc := 59) dX7_nameAt_59 rfl ?_
            refine wq_ialdK (pc := 61) dX7_nameAt_61 hs rfl (by omega) (by omega) ?_
            refine wq_bipush (pc := 62) dX7_nameAt_62 (by decide) (by decide) ?_
            refine wq_idiv (pc := 64) dX7_nameAt_64 (by omega) (by omega) ?_
            refine wq_iload_n (pc := 65) dX7_nameAt_65 rfl rfl ?_
            refine wq_icmp_ne (pc := 66) (tgt := 88) dX7_nameAt_66 (by decide) (by first | (unfold inR; omega) | assumption) (by first | (unfold inR; omega) | assumption) (fun c5 => ?_) (fun c5 => ?_)
            · skip
              refine wq_iinc (pc := 88) (L' := [(4, _), (0, _), (1, _), (2, _), (3, _)]) dX7_nameAt_88 rfl rfl (by decide) ?_
              refine wq_goto (pc := 91) (tgt := 37) dX7_nameAt_91 (by decide) ?_
              refine wq_sub1 (L' := [(0, _), (1, _), (2, _), (3, _), (4, _)]) ⟨rfl, rfl, rfl, rfl, rfl, trivial⟩ ?_
              have t0 : m 21 25 = 0 := by omega
              obtain ⟨⟨l1, l2⟩, l3, l4, l5⟩ := hel t0
              obtain ⟨w1, w2⟩ := e2 t0
              have q9 := (l2 k (by omega)).1
              have hcs := cntL_s (fun x : Int × Int => x.1 / 100 = d) PZ2 (l := el) (k := k) (by omega)
              first
                | (rw [pI_1 (show (el.getD k PZ2).1 / 100 = d by omega)] at hcs
                   exact ih (k + 1) _ _ (by omega) (by omega) (by omega) (by omega) (fun _ => ⟨by rw [hcs, ← w1], by omega⟩) (by omega))
                | (rw [pI_0 (show ¬ (el.getD k PZ2).1 / 100 = d by omega)] at hcs
                   exact ih (k + 1) _ _ (by omega) (by omega) (by omega) (by omega) (fun _ => ⟨by rw [hcs, ← w1]; omega, by omega⟩) (by omega))
            · skip
              refine wq_iload_n (pc := 69) dX7_nameAt_69 rfl rfl ?_
              refine wq_iload_n (pc := 70) dX7_nameAt_70 rfl rfl ?_
              refine wq_icmp_ne (pc := 71) (tgt := 85) dX7_nameAt_71 (by decide) (by first | (unfold inR; omega) | assumption) (by first | (unfold inR; omega) | assumption) (fun c6 => ?_) (fun c6 => ?_)
              · skip
                refine wq_iinc (pc := 85) (L' := [(3, _), (0, _), (1, _), (2, _), (4, _)]) dX7_nameAt_85 rfl rfl (by decide) ?_
                refine wq_iinc (pc := 88) (L' := [(4, _), (3, _), (0, _), (1, _), (2, _)]) dX7_nameAt_88 rfl rfl (by decide) ?_
                refine wq_goto (pc := 91) (tgt := 37) dX7_nameAt_91 (by decide) ?_
                refine wq_sub1 (L' := [(0, _), (1, _), (2, _), (3, _), (4, _)]) ⟨rfl, rfl, rfl, rfl, rfl, trivial⟩ ?_
                have t0 : m 21 25 = 0 := by omega
                obtain ⟨⟨l1, l2⟩, l3, l4, l5⟩ := hel t0
                obtain ⟨w1, w2⟩ := e2 t0
                have q9 := (l2 k (by omega)).1
                have hcs := cntL_s (fun x : Int × Int => x.1 / 100 = d) PZ2 (l := el) (k := k) (by omega)
                first
                  | (rw [pI_1 (show (el.getD k PZ2).1 / 100 = d by omega)] at hcs
                     exact ih (k + 1) _ _ (by omega) (by omega) (by omega) (by omega) (fun _ => ⟨by rw [hcs, ← w1], by omega⟩) (by omega))
                  | (rw [pI_0 (show ¬ (el.getD k PZ2).1 / 100 = d by omega)] at hcs
                     exact ih (k + 1) _ _ (by omega) (by omega) (by omega) (by omega) (fun _ => ⟨by rw [hcs, ← w1]; omega, by omega⟩) (by omega))
              · skip
                refine wq_aload_n (pc := 74) dX7_nameAt_74 rfl rfl ?_
                refine wq_getS (pc := 75) dX7_nameAt_75 hs (gf_X7_75 _ rfl) rfl rfl rfl rfl rfl ?_
                refine wq_iload (pc := 78) dX7_nameAt_78 rfl ?_
                refine wq_ialdK (pc := 80) dX7_nameAt_80 hs rfl (by omega) (by omega) ?_
                refine wq_bipush (pc := 81) dX7_nameAt_81 (by decide) (by decide) ?_
                refine wq_irem (pc := 83) dX7_nameAt_83 (by omega) (by omega) ?_
                refine wq_iret (pc := 84) dX7_nameAt_84 rfl ?_
                first
                  | (have t0 : m 21 25 = 0 := by omega
                     obtain ⟨⟨l1, l2⟩, l3, l4, l5⟩ := hel t0
                     obtain ⟨w1, w2⟩ := e2 t0
                     have q9 := (l2 k (by omega)).1
                     rcases hcase with ⟨-, hd, hdir, hpp, hK⟩ | ⟨z1, -⟩
                     · have hS := PA_NS (AOK_KP hO).1
                       have key := EL_nmAt hS l4 l5 hdir (k := k) (p := p) (by omega) (by rw [← q9]; omega) (by omega)
                       rw [q9, ← key]
                       unfold actNameAt qD at h
                       rw [pI_on hd, pI_0 (fun z => z hdir), pI_0 (fun z => z hpp)] at h
                       exact h _ _ hCm hFm (anM_v t0)
                     · omega)
                  | (rcases hcase with ⟨t0, hd, hdir, hpp, hK⟩ | ⟨z1, z2, a, ea, an⟩
                     · obtain ⟨⟨l1, l2⟩, l3, l4, l5⟩ := hel t0
                       obtain ⟨w1, w2⟩ := e2 t0
                       have hk9 : k = el.length := by omega
                       rw [hk9, List.take_length, EL_nm (PA_NS (AOK_KP hO).1) l4 hdir] at w1
                       exfalso; omega
                     · rw [ea] at h; exact h _ _ hCm hFm an)
    refine wq_sub1 (L' := [(0, _), (1, _), (2, _), (3, _), (4, _)]) ⟨rfl, rfl, rfl, rfl, rfl, trivial⟩ ?_
    exact loop2 129 0 _ _ (by omega) (by omega) (by omega) (by omega) (fun z => ⟨rfl, by rcases hcase with ⟨-, -, -, z, -⟩ | ⟨z1, -⟩ <;> omega⟩) (by omega)
  refine wq_aload_n (pc := 0) dX7_nameAt_0 rfl rfl ?_
  refine wq_iload_n (pc := 1) dX7_nameAt_1 rfl rfl ?_
  refine cVK_1 (pc := 2) dX7_nameAt_2 hs (cw_X7_292 _ rfl) (by decide) rfl ⟨by decide, by decide⟩ (Nat.le_of_ble_eq_true rfl) (sp_X7_hasIt hC hO r1 (fun hd hdir m1 C1 F1 t1 => ?_) (fun m1 C1 F1 t1 => ?_))
  · skip
    refine kr_s ?_
    have hd9 := hd
    refine wq_if_eq (pc := 5) (tgt := 32) dX7_nameAt_5 (by decide) (by first | (unfold inR; omega) | assumption) (fun c => absurd c (by decide)) (fun _ => ?_)
    refine wq_aload_n (pc := 8) dX7_nameAt_8 rfl rfl ?_
    refine wq_iload_n (pc := 9) dX7_nameAt_9 rfl rfl ?_
    refine wq_iconst (pc := 10) dX7_nameAt_10 ?_
    refine wq_aload_n (pc := 11) dX7_nameAt_11 rfl rfl ?_
    refine wq_iload_n (pc := 12) dX7_nameAt_12 rfl rfl ?_
    refine cVK_1 (pc := 13) dX7_nameAt_13 hs (cw_X7_240 _ rfl) (by decide) rfl ⟨by decide, by decide⟩ (Nat.le_of_ble_eq_true rfl) (sp_X7_namesIn C1.1 (AOK_KP hO) hdir (fun m2 K2 Y2 => ?_))
    refine kr_s ?_
    have C2 := CM_Y C1 K2.1 Y2
    have F2 := FrM_t F1 (FrM_Y Y2)
    have t2 : m2 21 25 = 0 := by rw [Y2 21 25 (by omega) (by omega)]; exact t1
    have cb := cntN_bb (TG (aF A) d) 99
    refine wq_iconst (pc := 16) dX7_nameAt_16 ?_
    refine wq_isub (pc := 17) dX7_nameAt_17 ?_
    refine cS_3 (pc := 18) dX7_nameAt_18 (cw_X7_210 _ rfl) ⟨by decide, by decide⟩ (Nat.le_of_ble_eq_true rfl) (sp_X7_in r2 (by unfold inR; omega) (by unfold inR; omega) (fun hin => ?_) (fun hin => ?_))
    · skip
      refine kr_s ?_
      have hin9 := hin
      refine wq_if_eq (pc := 21) (tgt := 28) dX7_nameAt_21 (by decide) (by first | (unfold inR; omega) | assumption) (fun c => absurd c (by decide)) (fun _ => ?_)
      refine wq_iconst (pc := 24) dX7_nameAt_24 ?_
      refine wq_goto (pc := 25) (tgt := 29) dX7_nameAt_25 (by decide) ?_
      refine wq_putIK (pc := 29) (kk := 25) dX7_nameAt_29 hs (gf_X7_127 _ rfl) rfl rfl rfl rfl rfl ?_
      refine wq_sub1 (L' := [(0, _), (1, _), (2, _)]) ⟨rfl, rfl, rfl, trivial⟩ ?_
      first
        | (refine cut1 _ (CM_w (CM_Y C1 K2.1 Y2) (Or.inl ⟨rfl, rfl⟩)) (FrM_t F2 (FrM_w (by omega))) (Or.inl ⟨wr_s _ _ _ _, hd, hdir, by omega, ?_⟩)
           obtain ⟨z1, z2, z3, z4⟩ := K2
           exact KL_of hs (mB_wr z1.2.1 (Or.inr (Or.inl rfl))) (RM_cg z1.2.2.1 (fun x j x0 x1 => wr_n _ _ (by omega))) (by rw [wr_n _ _ (by omega)]; exact z2) (LE_cg (Or.inl rfl) z3 (fun x y x0 x1 _ => wr_n _ _ (by omega))) (PrM_cg2 z4 (fun x j x0 x1 => wr_n _ _ (by omega))))
        | (refine cut1 _ (CM_25 C2) (FrM_t F2 (FrM_w (by omega))) (Or.inr ⟨by rw [wr_s]; decide, by rw [wr_s]; decide, .inr xI, ?_, anM_x 0 rfl (wr_s _ _ _ _)⟩)
           unfold actNameAt qD
           rw [pI_on hd, pI_0 (fun z => z hdir), pI_1 (by omega)])
        | (refine cut1 _ C1 F1 (Or.inr ?_)
           unfold actNameAt qD
           rcases t1 with ⟨q, t⟩ | ⟨q, q2, t⟩
           · exact ⟨by omega, by omega, _, by rw [pI_1 q], anM_x 1 rfl (by rw [t]; rfl)⟩
           · exact ⟨by omega, by omega, _, by rw [pI_0 q, pI_1 q2], anM_x 0 rfl (by rw [t]; rfl)⟩)
    · skip
      refine kr_s ?_
      have hin9 := hin
      refine wq_if_eq (pc := 21) (tgt := 28) dX7_nameAt_21 (by decide) (by first | (unfold inR; omega) | assumption) (fun _ => ?_) (fun c => absurd c (by decide))
      refine wq_iconst (pc := 28) dX7_nameAt_28 ?_
      refine wq_putIK (pc := 29) (kk := 25) dX7_nameAt_29 hs (gf_X7_127 _ rfl) rfl rfl rfl rfl rfl ?_
      refine wq_sub1 (L' := [(0, _), (1, _), (2, _)]) ⟨rfl, rfl, rfl, trivial⟩ ?_
      first
        | (refine cut1 _ (CM_w (CM_Y C1 K2.1 Y2) (Or.inl ⟨rfl, rfl⟩)) (FrM_t F2 (FrM_w (by omega))) (Or.inl ⟨wr_s _ _ _ _, hd, hdir, by omega, ?_⟩)
           obtain ⟨z1, z2, z3, z4⟩ := K2
           exact KL_of hs (mB_wr z1.2.1 (Or.inr (Or.inl rfl))) (RM_cg z1.2.2.1 (fun x j x0 x1 => wr_n _ _ (by omega))) (by rw [wr_n _ _ (by omega)]; exact z2) (LE_cg (Or.inl rfl) z3 (fun x y x0 x1 _ => wr_n _ _ (by omega))) (PrM_cg2 z4 (fun x j x0 x1 => wr_n _ _ (by omega))))
        | (refine cut1 _ (CM_25 C2) (FrM_t F2 (FrM_w (by omega))) (Or.inr ⟨by rw [wr_s]; decide, by rw [wr_s]; decide, .inr xI, ?_, anM_x 0 rfl (wr_s _ _ _ _)⟩)
           unfold actNameAt qD
           rw [pI_on hd, pI_0 (fun z => z hdir), pI_1 (by omega)])
        | (refine cut1 _ C1 F1 (Or.inr ?_)
           unfold actNameAt qD
           rcases t1 with ⟨q, t⟩ | ⟨q, q2, t⟩
           · exact ⟨by omega, by omega, _, by rw [pI_1 q], anM_x 1 rfl (by rw [t]; rfl)⟩
           · exact ⟨by omega, by omega, _, by rw [pI_0 q, pI_1 q2], anM_x 0 rfl (by rw [t]; rfl)⟩)
  · skip
    refine kr_s ?_
    have t19 := t1
    refine wq_if_eq (pc := 5) (tgt := 32) dX7_nameAt_5 (by decide) (by first | (unfold inR; omega) | assumption) (fun _ => ?_) (fun c => absurd c (by decide))
    refine wq_sub1 (L' := [(0, _), (1, _), (2, _)]) ⟨rfl, rfl, rfl, trivial⟩ ?_
    first
      | (refine cut1 _ (CM_w (CM_Y C1 K2.1 Y2) (Or.inl ⟨rfl, rfl⟩)) (FrM_t F2 (FrM_w (by omega))) (Or.inl ⟨wr_s _ _ _ _, hd, hdir, by omega, ?_⟩)
         obtain ⟨z1, z2, z3, z4⟩ := K2
         exact KL_of hs (mB_wr z1.2.1 (Or.inr (Or.inl rfl))) (RM_cg z1.2.2.1 (fun x j x0 x1 => wr_n _ _ (by omega))) (by rw [wr_n _ _ (by omega)]; exact z2) (LE_cg (Or.inl rfl) z3 (fun x y x0 x1 _ => wr_n _ _ (by omega))) (PrM_cg2 z4 (fun x j x0 x1 => wr_n _ _ (by omega))))
      | (refine cut1 _ (CM_25 C2) (FrM_t F2 (FrM_w (by omega))) (Or.inr ⟨by rw [wr_s]; decide, by rw [wr_s]; decide, .inr xI, ?_, anM_x 0 rfl (wr_s _ _ _ _)⟩)
         unfold actNameAt qD
         rw [pI_on hd, pI_0 (fun z => z hdir), pI_1 (by omega)])
      | (refine cut1 _ C1 F1 (Or.inr ?_)
         unfold actNameAt qD
         rcases t1 with ⟨q, t⟩ | ⟨q, q2, t⟩
         · exact ⟨by omega, by omega, _, by rw [pI_1 q], anM_x 1 rfl (by rw [t]; rfl)⟩
         · exact ⟨by omega, by omega, _, by rw [pI_0 q, pI_1 q2], anM_x 0 rfl (by rw [t]; rfl)⟩)
