/-! ### the block that is chosen; a block erased -/
theorem vc_sp (F : Fl) (S : Tr) (g : Lg) (w : Int) : ∀ n : Nat, (n = 0 ∧ vc F S g w n = (-1, 3)) ∨ ((∀ i, i < n → (vc F S g w n).2 ≤ (4 - jDirt F S (g.2.2.getD i 0) - w) % 3) ∧ ∃ i, i < n ∧ (vc F S g w n).1 = g.2.2.getD i 0 ∧ (vc F S g w n).2 = (4 - jDirt F S (g.2.2.getD i 0) - w) % 3 ∧ ∀ j, j < i → (vc F S g w n).2 < (4 - jDirt F S (g.2.2.getD j 0) - w) % 3)
  | 0 => Or.inl ⟨rfl, rfl⟩
  | n + 1 => by
    right
    have ih := vc_sp F S g w n
    rw [vc_s]
    unfold vcS
    have hr : ∀ i, 0 ≤ (4 - jDirt F S (g.2.2.getD i 0) - w) % 3 ∧ (4 - jDirt F S (g.2.2.getD i 0) - w) % 3 < 3 := fun i => ⟨Int.emod_nonneg _ (by decide), Int.emod_lt_of_pos _ (by decide)⟩
    by_cases c : (4 - jDirt F S (g.2.2.getD n 0) - w) % 3 < (vc F S g w n).2
    · rw [if_pos c]
      refine ⟨fun i hi => ?_, n, by omega, rfl, rfl, fun j hj => ?_⟩
      · show (4 - jDirt F S (g.2.2.getD n 0) - w) % 3 ≤ _
        by_cases e : i = n
        · rw [e]; exact Int.le_refl _
        · rcases ih with ⟨z, -⟩ | ⟨a, -⟩
          · omega
          · have := a i (by omega); omega
      · show (4 - jDirt F S (g.2.2.getD n 0) - w) % 3 < _
        rcases ih with ⟨z, -⟩ | ⟨a, -⟩
        · omega
        · have := a j hj; omega
    · rw [if_neg c]
      rcases ih with ⟨z, z2⟩ | ⟨a, i, hi, b1, b2, b3⟩
      · rw [z2] at c
        have := (hr n).2
        exact absurd this c
      · refine ⟨fun j hj => ?_, i, by omega, b1, b2, b3⟩
        by_cases e : j = n
        · rw [e]; omega
        · exact a j (by omega)
theorem vc_is {F : Fl} {S : Tr} {g : Lg} {w : Int} {t : Nat} {n : Nat} (ht : t < n) (h1 : ∀ i, i < n → (4 - jDirt F S (g.2.2.getD t 0) - w) % 3 ≤ (4 - jDirt F S (g.2.2.getD i 0) - w) % 3) (h2 : ∀ i, i < t → (4 - jDirt F S (g.2.2.getD t 0) - w) % 3 < (4 - jDirt F S (g.2.2.getD i 0) - w) % 3) : (vc F S g w n).1 = g.2.2.getD t 0 := by
  rcases vc_sp F S g w n with ⟨z, -⟩ | ⟨a, i, hi, b1, b2, b3⟩
  · omega
  · have a1 := a t ht
    have a2 := h1 i hi
    by_cases c : i < t
    · have := h2 i c; omega
    · by_cases d : t < i
      · have := b3 t d; omega
      · rw [b1, show i = t by omega]
theorem sp_X7_toCopy {μ : nMem} {ε : nEnv} {Q : nOut → nMem → nEnv → Prop} {A : AS} {nb vb b : Int} (hC : CM A μ ε) (hO : AOK A nb vb) (r1 : inR b) (h : ∀ m v, CM (actToCopy A b).2 m ε → FrM μ m → anM (actToCopy A b).1 [xI, xS] v m → Q (.inl (some (vI v))) m ε) : Sp mX7_toCopy [vR 21, vI b] μ ε Q := by
  refine Sp_of (L := [(0, vR 21), (1, vI b)]) (by decide) rfl rfl (Nat.le_of_ble_eq_true rfl) ?_
  have hs := hC.1.1
  have q21 := hC.2.1.2
  have hD := hO.2.1
  unfold actToCopy qB at h
  refine wq_aload_n (pc := 0) dX7_toCopy_0 rfl rfl ?_
  refine wq_iload_n (pc := 1) dX7_toCopy_1 rfl rfl ?_
  refine cVK_1 (pc := 2) dX7_toCopy_2 hs (cw_X7_304 _ rfl) (by decide) rfl ⟨by decide, by decide⟩ (Nat.le_of_ble_eq_true rfl) (sp_X7_asksFor hs r1 (by omega) (fun hz => ?_) (fun hz hb => ?_) (fun hz hb => ?_))
  · skip
    refine kr_s ?_
    have hz9 := hz
    refine wq_if_eq (pc := 5) (tgt := 16) dX7_toCopy_5 (by decide) (by first | (unfold inR; omega) | assumption) (fun _ => ?_) (fun c => absurd c (by decide))
    refine wq_iconst (pc := 16) dX7_toCopy_16 ?_
    refine wq_iret (pc := 17) dX7_toCopy_17 rfl ?_
    first
      | (rw [pI_on (by omega), pI_0 (fun z => z (by omega))] at h
         exact h _ _ C2 (FrM_t (FrM_w (by omega)) (FrM_C F2)) (anM_v (by rw [F2 21 25 (by omega) (by omega) (by omega), wr_s])))
      | (rw [pI_on (by omega), pI_1 (by omega)] at h
         exact h _ _ (CM_25 hC) (FrM_w (by omega)) (anM_x 0 rfl (wr_s _ _ _ _)))
      | (rw [pI_1 (show dk A by show fD (aF A) = 1; omega)] at h
         exact h _ _ (CM_25 hC) (FrM_w (by omega)) (anM_x 1 rfl (wr_s _ _ _ _)))
  · skip
    refine kr_s ?_
    have hz9 := hz
    refine wq_if_eq (pc := 5) (tgt := 16) dX7_toCopy_5 (by decide) (by first | (unfold inR; omega) | assumption) (fun c => absurd c (by decide)) (fun _ => ?_)
    refine wq_aload_n (pc := 8) dX7_toCopy_8 rfl rfl ?_
    refine wq_iload_n (pc := 9) dX7_toCopy_9 rfl rfl ?_
    refine cVK_1 (pc := 10) dX7_toCopy_10 hs (cw_X7_270 _ rfl) (by decide) rfl ⟨by decide, by decide⟩ (Nat.le_of_ble_eq_true rfl) (sp_X7_layCopies (CM_25 hC) hO (by omega) (by omega) (fun m2 C2 F2 t2 cc => ?_))
    refine kr_s ?_
    refine wq_goto (pc := 13) (tgt := 17) dX7_toCopy_13 (by decide) ?_
    refine wq_iret (pc := 17) dX7_toCopy_17 rfl ?_
    first
      | (rw [pI_on (by omega), pI_0 (fun z => z (by omega))] at h
         exact h _ _ C2 (FrM_t (FrM_w (by omega)) (FrM_C F2)) (anM_v (by rw [F2 21 25 (by omega) (by omega) (by omega), wr_s])))
      | (rw [pI_on (by omega), pI_1 (by omega)] at h
         exact h _ _ (CM_25 hC) (FrM_w (by omega)) (anM_x 0 rfl (wr_s _ _ _ _)))
      | (rw [pI_1 (show dk A by show fD (aF A) = 1; omega)] at h
         exact h _ _ (CM_25 hC) (FrM_w (by omega)) (anM_x 1 rfl (wr_s _ _ _ _)))
  · skip
    refine kr_s ?_
    have hz9 := hz
    refine wq_if_eq (pc := 5) (tgt := 16) dX7_toCopy_5 (by decide) (by first | (unfold inR; omega) | assumption) (fun _ => ?_) (fun c => absurd c (by decide))
    refine wq_iconst (pc := 16) dX7_toCopy_16 ?_
    refine wq_iret (pc := 17) dX7_toCopy_17 rfl ?_
    first
      | (rw [pI_on (by omega), pI_0 (fun z => z (by omega))] at h
         exact h _ _ C2 (FrM_t (FrM_w (by omega)) (FrM_C F2)) (anM_v (by rw [F2 21 25 (by omega) (by omega) (by omega), wr_s])))
      | (rw [pI_on (by omega), pI_1 (by omega)] at h
         exact h _ _ (CM_25 hC) (FrM_w (by omega)) (anM_x 0 rfl (wr_s _ _ _ _)))
      | (rw [pI_1 (show dk A by show fD (aF A) = 1; omega)] at h
         exact h _ _ (CM_25 hC) (FrM_w (by omega)) (anM_x 1 rfl (wr_s _ _ _ _)))
theorem sp_X7_chosen {μ : nMem} {ε : nEnv} {Q : nOut → nMem → nEnv → Prop} {A : AS} {fl : Int → Int} {dr : Int} (hC : CM A μ ε) (hA : KP (aF A)) (hf : flOK (aF A) fl) (hd : fD (aF A) = 0) (hL : PL (aF A) (aG A)) (hdr : 0 ≤ dr ∧ dr ≤ 127) (h : ∀ m, CM A m ε → FrM μ m → m 21 25 = μ 21 25 → Q (.inl (some (vI (vicA A dr)))) m ε) : Sp mX7_chosen [vR 21, vI dr] μ ε Q := by
  refine Sp_of (L := [(0, vR 21), (1, vI dr)]) (by decide) rfl rfl (Nat.le_of_ble_eq_true rfl) ?_
  have hs := hC.1.1
  obtain ⟨l1, l2⟩ := GM_len hL
  have rdr : inR dr := by unfold inR; omega
  have cut1 : ∀ (w : Int), (w = wantOf dr ∧ 0 ≤ w ∧ w ≤ 2) → wp mX7_chosen 22 [(0, vR 21), (1, vI dr), (2, vI w)] [] μ ε Q := by
    intro w e0
    obtain ⟨hw, hw0, hw2⟩ := e0
    refine wq_iconst (pc := 22) dX7_chosen_22 ?_
    refine wq_istore_n (pc := 23) (L' := [(3, _), (0, _), (1, _), (2, _)]) dX7_chosen_23 rfl rfl (by decide) ?_
    have loop2 : ∀ (n k : Nat), ∀ (m : nMem) (j : Int), k ≤ 3 → 3 < k + n → j = (k : Int) → CM A m ε → FrM μ m → m 21 25 = μ 21 25 → (∀ i : Nat, i < (aG A).2.2.length → (k : Int) ≤ (4 - jDirt (aF A) (tS (aF A)) ((aG A).2.2.getD i 0) - w) % 3) → wp mX7_chosen 24 [(0, vR 21), (1, vI dr), (2, vI w), (3, vI j)] [] m ε Q := by
      intro n
      induction n with
      | zero => intro k m j hk1 hk2 e0 e1 e2 e3 e4; exact absurd hk2 (by omega)
      | succ n ih =>
        intro k m j hk1 hk2 e0 e1 e2 e3 e4
        subst e0
        have rk : inR (k : Int) := by unfold inR; omega
        have ihO := ih
        have hk2o := hk2
        obtain ⟨K, hK⟩ : ∃ K : Nat, K = k := ⟨k, rfl⟩
        rw [← hK] at e4 ⊢
        have e4o := e4
        refine wq_iload_n (pc := 24) dX7_chosen_24 rfl rfl ?_
        refine wq_iconst (pc := 25) dX7_chosen_25 ?_
        refine wq_icmp_ge (pc := 26) (tgt := 86) dX7_chosen_26 (by decide) (by first | (unfold inR; omega) | assumption) (by first | (unfold inR; omega) | assumption) (fun c3 => ?_) (fun c3 => ?_)
        · skip
          refine wq_iconst (pc := 86) dX7_chosen_86 ?_
          refine wq_iret (pc := 87) dX7_chosen_87 rfl ?_
          first
            | (have e9 : vicA A dr = (aG A).2.2.getD k 0 := by
                 unfold vicA
                 rw [← hw]
                 exact vc_is (t := k) (by omega) (fun i hi => by have := e4o i hi; omega) (fun i hi => by have a := e4o i (by omega); have b := e4 i hi; omega)
               rw [q38b, ← e9]
               exact h _ C2 (FrM_t e2 F2) (by rw [t2]; exact e3))
            | (have hlen : (aG A).2.2.length = 0 := by
                 by_cases c : (aG A).2.2.length = 0
                 · exact c
                 · have a := e4 0 (by omega)
                   have b := Int.emod_lt_of_pos (4 - jDirt (aF A) (tS (aF A)) ((aG A).2.2.getD 0 0) - w) (b := 3) (by decide)
                   omega
               have e9 : vicA A dr = -1 := by
                 unfold vicA
                 rw [hlen]; rfl
               rw [← e9]
               exact h _ e1 e2 e3)
        · skip
          refine wq_iconst (pc := 29) dX7_chosen_29 ?_
          refine wq_iload_n (pc := 30) dX7_chosen_30 rfl rfl ?_
          refine wq_iload_n (pc := 31) dX7_chosen_31 rfl rfl ?_
          refine wq_iadd (pc := 32) dX7_chosen_32 ?_
          refine wq_iconst (pc := 33) dX7_chosen_33 ?_
          refine wq_irem (pc := 34) dX7_chosen_34 (by omega) (by omega) ?_
          refine wq_isub (pc := 35) dX7_chosen_35 ?_
          refine wq_istore (pc := 36) (L' := [(4, _), (0, _), (1, _), (2, _), (3, _)]) dX7_chosen_36 rfl (by decide) ?_
          refine wq_iconst (pc := 38) dX7_chosen_38 ?_
          refine wq_istore (pc := 39) (L' := [(5, _), (4, _), (0, _), (1, _), (2, _), (3, _)]) dX7_chosen_39 rfl (by decide) ?_
          have lpi4 : ∀ (n k : Nat), ∀ (m : nMem) (j : Int), k ≤ 8 → 8 < k + n → j = (k : Int) → CM A m ε → FrM μ m → m 21 25 = μ 21 25 → (∀ i : Nat, i < k → (4 - jDirt (aF A) (tS (aF A)) ((aG A).2.2.getD i 0) - w) % 3 ≠ (K : Int)) → (k : Int) ≤ (aG A).2.2.length → wp mX7_chosen 41 [(0, vR 21), (1, vI dr), (2, vI w), (3, vI (K : Int)), (4, vI (4 - (w + (K : Int)) % 3)), (5, vI j)] [] m ε Q := by
            intro n
            induction n with
            | zero => intro k m j hk1 hk2 e0 e1 e2 e3 e4 e5; exact absurd hk2 (by omega)
            | succ n ih =>
              intro k m j hk1 hk2 e0 e1 e2 e3 e4 e5
              subst e0
              have rk : inR (k : Int) := by unfold inR; omega
              obtain ⟨hG, -, -⟩ := e1.2.2 hd
              have q19 := hG.2.2.2.1
              have r19 : inR (m 21 19) := by unfold inR; omega
              have q38 := fun z => hG.2.2.2.2 k z
              have hbm := fun z : k < (aG A).2.2.length => hL.2.2.2.1 _ (lget_mem (i := k) 0 z)
              have hcl := fun z : k < (aG A).2.2.length => lget_mem (i := k) (0 : Int) z
              have hsr := jDirt_r (aF A) (tS (aF A)) ((aG A).2.2.getD k 0)
              refine wq_iload (pc := 41) dX7_chosen_41 rfl ?_
              refine wq_aload_n (pc := 43) dX7_chosen_43 rfl rfl ?_
              refine wq_getIK (pc := 44) (kk := 19) dX7_chosen_44 hs (gf_X7_192 _ rfl) rfl rfl rfl rfl ?_
              refine wq_icmp_ge (pc := 47) (tgt := 80) dX7_chosen_47 (by decide) (by first | (unfold inR; omega) | assumption) (by first | (unfold inR; omega) | assumption) (fun c5 => ?_) (fun c5 => ?_)
              · skip
                refine wq_iinc (pc := 80) (L' := [(3, _), (0, _), (1, _), (2, _), (4, _), (5, _)]) dX7_chosen_80 rfl rfl (by decide) ?_
                refine wq_goto (pc := 83) (tgt := 24) dX7_chosen_83 (by decide) ?_
                refine wq_sub1 (L' := [(0, _), (1, _), (2, _), (3, _)]) ⟨rfl, rfl, rfl, rfl, trivial⟩ ?_
                exact ihO (K + 1) _ _ (by omega) (by omega) (by omega) e1 e2 e3 (fun i hi => by
                  have a := e4o i hi
                  have b := e4 i (by omega)
                  omega)
              · skip
                refine wq_aload_n (pc := 50) dX7_chosen_50 rfl rfl ?_
                refine wq_aload_n (pc := 51) dX7_chosen_51 rfl rfl ?_
                refine wq_getS (pc := 52) dX7_chosen_52 hs (gf_X7_60 _ rfl) rfl rfl rfl rfl rfl ?_
                refine wq_iload (pc := 55) dX7_chosen_55 rfl ?_
                refine wq_ialdK (pc := 57) dX7_chosen_57 hs rfl (by omega) (by omega) ?_
                rw [q38 (by omega)]
                refine cVK_1 (pc := 58) dX7_chosen_58 hs (cw_X7_264 _ rfl) (by decide) rfl ⟨by decide, by decide⟩ (Nat.le_of_ble_eq_true rfl) (sp_X7_stateOf e1 hA hf hd hL (hbm (by omega)).1 (fun m2 v C2 F2 t2 ev => ?_))
                refine kr_s ?_
                rw [if_neg (fun z => hL.2.2.2.2.1.2.2.1 _ z (hcl (by omega))), if_neg (fun z => hL.2.2.2.2.1.2.2.2.2 (by rw [← z]; exact hcl (by omega)))] at ev
                have rv : inR v := by unfold inR; omega
                obtain ⟨hG2, -, -⟩ := C2.2.2 hd
                have q38b := hG2.2.2.2.2 k (by omega)
                refine wq_iload (pc := 61) dX7_chosen_61 rfl ?_
                refine wq_icmp_ne (pc := 63) (tgt := 74) dX7_chosen_63 (by decide) (by first | (unfold inR; omega) | assumption) (by first | (unfold inR; omega) | assumption) (fun c7 => ?_) (fun c7 => ?_)
                · skip
                  refine wq_iinc (pc := 74) (L' := [(5, _), (0, _), (1, _), (2, _), (3, _), (4, _)]) dX7_chosen_74 rfl rfl (by decide) ?_
                  refine wq_goto (pc := 77) (tgt := 41) dX7_chosen_77 (by decide) ?_
                  refine wq_sub1 (L' := [(0, _), (1, _), (2, _), (3, _), (4, _), (5, _)]) ⟨rfl, rfl, rfl, rfl, rfl, rfl, trivial⟩ ?_
                  exact ih (k + 1) _ _ (by omega) (by omega) (by omega) C2 (FrM_t e2 F2) (by rw [t2]; exact e3) (fun i hi => by
                    by_cases c9 : i = k
                    · rw [c9]; omega
                    · exact e4 i (by omega)) (by omega)
                · skip
                  refine wq_aload_n (pc := 66) dX7_chosen_66 rfl rfl ?_
                  refine wq_getS (pc := 67) dX7_chosen_67 hs (gf_X7_60 _ rfl) rfl rfl rfl rfl rfl ?_
                  refine wq_iload (pc := 70) dX7_chosen_70 rfl ?_
                  refine wq_ialdK (pc := 72) dX7_chosen_72 hs rfl (by omega) (by omega) ?_
                  refine wq_iret (pc := 73) dX7_chosen_73 rfl ?_
                  first
                    | (have e9 : vicA A dr = (aG A).2.2.getD k 0 := by
                         unfold vicA
                         rw [← hw]
                         exact vc_is (t := k) (by omega) (fun i hi => by have := e4o i hi; omega) (fun i hi => by have a := e4o i (by omega); have b := e4 i hi; omega)
                       rw [q38b, ← e9]
                       exact h _ C2 (FrM_t e2 F2) (by rw [t2]; exact e3))
                    | (have hlen : (aG A).2.2.length = 0 := by
                         by_cases c : (aG A).2.2.length = 0
                         · exact c
                         · have a := e4 0 (by omega)
                           have b := Int.emod_lt_of_pos (4 - jDirt (aF A) (tS (aF A)) ((aG A).2.2.getD 0 0) - w) (b := 3) (by decide)
                           omega
                       have e9 : vicA A dr = -1 := by
                         unfold vicA
                         rw [hlen]; rfl
                       rw [← e9]
                       exact h _ e1 e2 e3)
          refine wq_sub1 (L' := [(0, _), (1, _), (2, _), (3, _), (4, _), (5, _)]) ⟨rfl, rfl, rfl, rfl, rfl, rfl, trivial⟩ ?_
          exact lpi4 9 0 _ _ (by omega) (by omega) (by omega) e1 e2 e3 (fun i hi => absurd hi (Nat.not_lt_zero i)) (by omega)
    refine wq_sub1 (L' := [(0, _), (1, _), (2, _), (3, _)]) ⟨rfl, rfl, rfl, rfl, trivial⟩ ?_
    exact loop2 4 0 _ _ (by omega) (by omega) (by omega) hC (FrM_r _) rfl (fun i hi => Int.emod_nonneg _ (by decide))
  refine wq_iload_n (pc := 0) dX7_chosen_0 rfl rfl ?_
  refine wq_bipush (pc := 1) dX7_chosen_1 (by decide) (by decide) ?_
  refine wq_icmp_ge (pc := 3) (tgt := 10) dX7_chosen_3 (by decide) (by first | (unfold inR; omega) | assumption) (by first | (unfold inR; omega) | assumption) (fun c8 => ?_) (fun c8 => ?_)
  · skip
    refine wq_iload_n (pc := 10) dX7_chosen_10 rfl rfl ?_
    refine wq_bipush (pc := 11) dX7_chosen_11 (by decide) (by decide) ?_
    refine wq_icmp_ge (pc := 13) (tgt := 20) dX7_chosen_13 (by decide) (by first | (unfold inR; omega) | assumption) (by first | (unfold inR; omega) | assumption) (fun c9 => ?_) (fun c9 => ?_)
    · skip
      refine wq_iconst (pc := 20) dX7_chosen_20 ?_
      refine wq_istore_n (pc := 21) (L' := [(2, _), (0, _), (1, _)]) dX7_chosen_21 rfl rfl (by decide) ?_
      refine wq_sub1 (L' := [(0, _), (1, _), (2, _)]) ⟨rfl, rfl, rfl, trivial⟩ ?_
      refine cut1 _ ?_
      unfold wantOf
      first
        | (rw [if_pos (by omega)]; exact ⟨rfl, by decide, by decide⟩)
        | (rw [if_neg (by omega), if_pos (by omega)]; exact ⟨rfl, by decide, by decide⟩)
        | (rw [if_neg (by omega), if_neg (by omega)]; exact ⟨rfl, by decide, by decide⟩)
    · skip
      refine wq_iconst (pc := 16) dX7_chosen_16 ?_
      refine wq_goto (pc := 17) (tgt := 21) dX7_chosen_17 (by decide) ?_
      refine wq_istore_n (pc := 21) (L' := [(2, _), (0, _), (1, _)]) dX7_chosen_21 rfl rfl (by decide) ?_
      refine wq_sub1 (L' := [(0, _), (1, _), (2, _)]) ⟨rfl, rfl, rfl, trivial⟩ ?_
      refine cut1 _ ?_
      unfold wantOf
      first
        | (rw [if_pos (by omega)]; exact ⟨rfl, by decide, by decide⟩)
        | (rw [if_neg (by omega), if_pos (by omega)]; exact ⟨rfl, by decide, by decide⟩)
        | (rw [if_neg (by omega), if_neg (by omega)]; exact ⟨rfl, by decide, by decide⟩)
  · skip
    refine wq_iconst (pc := 6) dX7_chosen_6 ?_
    refine wq_goto (pc := 7) (tgt := 21) dX7_chosen_7 (by decide) ?_
    refine wq_istore_n (pc := 21) (L' := [(2, _), (0, _), (1, _)]) dX7_chosen_21 rfl rfl (by decide) ?_
    refine wq_sub1 (L' := [(0, _), (1, _), (2, _)]) ⟨rfl, rfl, rfl, trivial⟩ ?_
    refine cut1 _ ?_
    unfold wantOf
    first
      | (rw [if_pos (by omega)]; exact ⟨rfl, by decide, by decide⟩)
      | (rw [if_neg (by omega), if_pos (by omega)]; exact ⟨rfl, by decide, by decide⟩)
      | (rw [if_neg (by omega), if_neg (by omega)]; exact ⟨rfl, by decide, by decide⟩)
