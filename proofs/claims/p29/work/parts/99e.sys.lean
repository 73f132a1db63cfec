theorem Wd_s {N : Int} {A : AS} {nb vb : Int} {t : Nat} {X μ : nMem} {ε : nEnv} (h : Wd N A nb vb t X μ ε) : SkP skC ε := by
  obtain ⟨⟨S, ⟨hC, -⟩, -⟩, -⟩ := h
  exact hC.1
theorem cB_r (c : Int → Int) (i p : Int) : inR (cB c i p) := by
  unfold cB
  show inR (jAnd _ 255)
  rw [← iB_jB]; exact iAnd_r _ _
theorem GA_lk1 {A : AS} {X : nMem} (hG : GA A X) {nm : Int} (hm : nmR nm) : (if TG (aF A) 1 nm = 0 then -1 else TG (aF A) 1 nm) = if lsP (pF (X 22) 1 nm) (X 21 0).toNat < 0 then -1 else X 22 (4 * lsP (pF (X 22) 1 nm) (X 21 0).toNat + 2) := by
  rcases GA_find hG 1 nm with ⟨a, b⟩ | ⟨a, b, c⟩
  · rw [if_pos (b (isDr_1 A) hm), if_pos (by omega)]
  · obtain ⟨⟨e1, e2, e3, e4⟩, e5, -⟩ := GA_e hG a.1 a.2
    rw [b, c] at e3
    rw [e3, if_neg (by omega), if_neg (by omega)]
theorem qs_isDark0 {N : Int} {A : AS} {nb vb : Int} {t : Nat} {X μ : nMem} {ε : nEnv} {Q : nOut → nMem → nEnv → Prop} (hW : Wd N A nb vb (t + 1) X μ ε) (hn : nb + 1 ≤ 2000) (hv : vb + 2 ≤ 4000) (hD : fD (aF A) = 0) (h : ∀ m e, Wd N A nb vb t X m e → Q (.inl (some (vI 0))) m e) : Sp mX6_isDark [vR 1] μ ε Q :=
  qs_isDark hW hn hv (fun m e w => by rw [hD]; exact h m e w)
theorem qs_isDark1 {N : Int} {A : AS} {nb vb : Int} {t : Nat} {X μ : nMem} {ε : nEnv} {Q : nOut → nMem → nEnv → Prop} (hW : Wd N A nb vb (t + 1) X μ ε) (hn : nb + 1 ≤ 2000) (hv : vb + 2 ≤ 4000) (hD : fD (aF A) = 1) (h : ∀ m e, Wd N A nb vb t X m e → Q (.inl (some (vI 1))) m e) : Sp mX6_isDark [vR 1] μ ε Q :=
  qs_isDark hW hn hv (fun m e w => by rw [hD]; exact h m e w)
/-- how many of the first blocks are free -/
noncomputable def frN (A : AS) (k : Nat) : Int := cR (fun b => b ∈ (aG A).2.1) k
theorem sp_L_frees {μ : nMem} {ε : nEnv} {Q : nOut → nMem → nEnv → Prop} {N : Int} {A : AS} {nb vb : Int} {t : Nat} {X : nMem} (hW : Wd N A nb vb (t + 8) X μ ε) (hnb : nb + 1 ≤ 2000) (hvb : vb + 2 ≤ 4000) (hD : ¬ dk A) (h : ∀ m e, Wd N A nb vb t X m e → Q (.inl (some (vI (frN A 8)))) m e) : Sp mL_frees [vR 1] μ ε Q := by
  refine Sp_of (L := [(0, vR 1)]) (by decide) rfl rfl (Nat.le_of_ble_eq_true rfl) ?_
  refine wq_iconst (pc := 0) dL_frees_0 ?_
  refine wq_istore_n (pc := 1) (L' := [(1, _), (0, _)]) dL_frees_1 rfl rfl (by decide) ?_
  refine wq_iconst (pc := 2) dL_frees_2 ?_
  refine wq_istore_n (pc := 3) (L' := [(2, _), (1, _), (0, _)]) dL_frees_3 rfl rfl (by decide) ?_
  have loop1 : ∀ (n k : Nat), ∀ (m : nMem) (e : nEnv) (c b : Int), k ≤ 8 → 8 < k + n → b = (k : Int) → Wd N A nb vb (t + (8 - k)) X m e → c = frN A k → wp mL_frees 4 [(0, vR 1), (1, vI c), (2, vI b)] [] m e Q := by
    intro n
    induction n with
    | zero => intro k m e c b hk1 hk2 e0 e1 e2; exact absurd hk2 (by omega)
    | succ n ih =>
      intro k m e c b hk1 hk2 e0 e1 e2
      subst e0
      have W9 := e1
      have rk9 : inR (k : Int) := by unfold inR; omega
      refine wq_iload_n (pc := 4) dL_frees_4 rfl rfl ?_
      refine wq_bipush (pc := 5) dL_frees_5 (by decide) (by decide) ?_
      refine wq_icmp_ge (pc := 7) (tgt := 32) dL_frees_7 (by decide) (by first | (unfold inR; omega) | assumption | exact hr2 _ | exact hr3 _ | exact hr4 _) (by first | (unfold inR; omega) | assumption | exact hr2 _ | exact hr3 _ | exact hr4 _) (fun c2 => ?_) (fun c2 => ?_)
      · skip
        refine wq_iload_n (pc := 32) dL_frees_32 rfl rfl ?_
        refine wq_iret (pc := 33) dL_frees_33 rfl ?_
        have hk8 : k = 8 := by omega
        subst hk8
        rw [e2]; exact h _ _ (Wd_t e1 (by omega))
      · skip
        obtain ⟨T9, hT9⟩ : ∃ T9, T9 = t + (7 - k) := ⟨_, rfl⟩
        have W0 : Wd N A nb vb (T9 + 1) X m e := Wd_t e1 (by omega)
        clear e1 W9
        refine wq_iload_n (pc := 10) dL_frees_10 rfl rfl ?_
        refine wq_aload_n (pc := 11) dL_frees_11 rfl rfl ?_
        refine wq_iload_n (pc := 12) dL_frees_12 rfl rfl ?_
        refine cVK_1 (pc := 13) dL_frees_13 (Wd_s (by with_reducible assumption)) (cw_L_69 _ rfl) (by decide) rfl ⟨by decide, by decide⟩ (Nat.le_of_ble_eq_true rfl) (qs_state (by with_reducible assumption) hnb hvb hD (by omega) (fun mm ee st W hs1 hs2 hs3 => ?_))
        refine kr_s ?_
        have rst : inR st := by unfold inR; omega
        refine wq_if_ne (pc := 16) (tgt := 23) dL_frees_16 (by decide) (by first | (unfold inR; omega) | assumption | exact hr2 _ | exact hr3 _ | exact hr4 _) (fun c4 => ?_) (fun c4 => ?_)
        · skip
          refine wq_iconst (pc := 23) dL_frees_23 ?_
          refine wq_iadd (pc := 24) dL_frees_24 ?_
          refine wq_istore_n (pc := 25) (L' := [(1, _), (0, _), (2, _)]) dL_frees_25 rfl rfl (by decide) ?_
          refine wq_iinc (pc := 26) (L' := [(2, _), (1, _), (0, _)]) dL_frees_26 rfl rfl (by decide) ?_
          refine wq_goto (pc := 29) (tgt := 4) dL_frees_29 (by decide) ?_
          refine wq_sub1 (L' := [(0, _), (1, _), (2, _)]) ⟨rfl, rfl, rfl, trivial⟩ ?_
          first
            | exact ih (k + 1) _ _ _ _ (by omega) (by omega) (by omega) (Wd_t W (by omega)) (by unfold frN; rw [cR_s, pI_1 (hs2.mp (by omega))]; exact congrArg (· + 1) e2)
            | exact ih (k + 1) _ _ _ _ (by omega) (by omega) (by omega) (Wd_t W (by omega)) (by unfold frN; rw [cR_s, pI_0 (fun z => absurd (hs2.mpr z) (by omega))]; exact congrArg (· + 0) e2)
        · skip
          refine wq_iconst (pc := 19) dL_frees_19 ?_
          refine wq_goto (pc := 20) (tgt := 24) dL_frees_20 (by decide) ?_
          refine wq_iadd (pc := 24) dL_frees_24 ?_
          refine wq_istore_n (pc := 25) (L' := [(1, _), (0, _), (2, _)]) dL_frees_25 rfl rfl (by decide) ?_
          refine wq_iinc (pc := 26) (L' := [(2, _), (1, _), (0, _)]) dL_frees_26 rfl rfl (by decide) ?_
          refine wq_goto (pc := 29) (tgt := 4) dL_frees_29 (by decide) ?_
          refine wq_sub1 (L' := [(0, _), (1, _), (2, _)]) ⟨rfl, rfl, rfl, trivial⟩ ?_
          first
            | exact ih (k + 1) _ _ _ _ (by omega) (by omega) (by omega) (Wd_t W (by omega)) (by unfold frN; rw [cR_s, pI_1 (hs2.mp (by omega))]; exact congrArg (· + 1) e2)
            | exact ih (k + 1) _ _ _ _ (by omega) (by omega) (by omega) (Wd_t W (by omega)) (by unfold frN; rw [cR_s, pI_0 (fun z => absurd (hs2.mpr z) (by omega))]; exact congrArg (· + 0) e2)
  refine wq_sub1 (L' := [(0, _), (1, _), (2, _)]) ⟨rfl, rfl, rfl, trivial⟩ ?_
  exact loop1 9 0 _ _ _ _ (by omega) (by omega) (by omega) (Wd_t hW (by omega)) rfl
theorem sp_L_isSystem {μ : nMem} {ε : nEnv} {Q : nOut → nMem → nEnv → Prop} {N : Int} {A : AS} {nb vb : Int} {t : Nat} {X : nMem} {x : Int} (hW : Wd N A nb vb (t + 900) X μ ε) (hG : GA A X) (hD0 : fD (aF A) = 0) (hnb : nb + 1 ≤ 2000) (hvb : vb + 2 ≤ 4000) (rx : 0 ≤ x ∧ x ≤ 2147483647) (h : ∀ m e, Wd N A nb vb t X m e → Q (.inl (some (vI 1))) m e) : Sp mL_isSystem [vR 1, vR 21, vR 22, vR 23, vR 24, vR 25, vI x] μ ε Q := by
  refine Sp_of (L := [(0, vR 1), (1, vR 21), (2, vR 22), (3, vR 23), (4, vR 24), (5, vR 25), (6, vI x)]) (by decide) rfl rfl (Nat.le_of_ble_eq_true rfl) ?_
  have hX := hG.1.2.2
  obtain ⟨⟨hn0, hn15⟩, ⟨hm0, hm8⟩, hr2, hr3, hr4⟩ := id hX
  refine wq_aload_n (pc := 0) dL_isSystem_0 rfl rfl ?_
  refine cVK_0 (pc := 1) dL_isSystem_1 (Wd_s (by with_reducible assumption)) (cw_L_72 _ rfl) (by decide) rfl ⟨by decide, by decide⟩ (Nat.le_of_ble_eq_true rfl) (qs_isDark0 (by with_reducible assumption) hnb hvb hD0 (fun mm ee W => ?_))
  refine kr_s ?_
  refine wq_if_ne (pc := 4) (tgt := 41) dL_isSystem_4 (by decide) (by first | (unfold inR; omega) | assumption | exact hr2 _ | exact hr3 _ | exact hr4 _) (fun c => absurd c (by decide)) (fun _ => ?_)
  refine wq_aload_n (pc := 7) dL_isSystem_7 rfl rfl ?_
  refine wq_iconst (pc := 8) dL_isSystem_8 ?_
  refine cVK_1 (pc := 9) dL_isSystem_9 (Wd_s (by with_reducible assumption)) (cw_L_46 _ rfl) (by decide) rfl ⟨by decide, by decide⟩ (Nat.le_of_ble_eq_true rfl) (qs_names (by with_reducible assumption) hnb hvb hG (isDr_1 A) (fun mm ee W => ?_))
  refine kr_s ?_
  refine wq_aload_n (pc := 12) dL_isSystem_12 rfl rfl ?_
  refine wq_aload_n (pc := 13) dL_isSystem_13 rfl rfl ?_
  refine wq_iconst (pc := 14) dL_isSystem_14 ?_
  refine cS_3 (pc := 15) dL_isSystem_15 (cw_L_76 _ rfl) ⟨by decide, by decide⟩ (Nat.le_of_ble_eq_true rfl) (sW_namesIn (by with_reducible assumption) hX (by first | assumption | exact hr2 _ | exact hr3 _ | (unfold inR; omega)) ?_)
  refine kr_s ?_
  refine wq_icmp_ne (pc := 18) (tgt := 41) dL_isSystem_18 (by decide) (cR_r hn15) (cR_r hn15) (fun c4 => ?_) (fun c4 => ?_)
  · skip
    exact absurd rfl c4
  · skip
    refine wq_aload_n (pc := 21) dL_isSystem_21 rfl rfl ?_
    refine wq_iconst (pc := 22) dL_isSystem_22 ?_
    refine cVK_1 (pc := 23) dL_isSystem_23 (Wd_s (by with_reducible assumption)) (cw_L_79 _ rfl) (by decide) rfl ⟨by decide, by decide⟩ (Nat.le_of_ble_eq_true rfl) (qs_links1 (by with_reducible assumption) hnb hvb hG (fun mm ee W => ?_))
    refine kr_s ?_
    refine wq_if_ne (pc := 26) (tgt := 41) dL_isSystem_26 (by decide) (by first | (unfold inR; omega) | assumption | exact hr2 _ | exact hr3 _ | exact hr4 _) (fun c => absurd c (by decide)) (fun _ => ?_)
    refine wq_aload_n (pc := 29) dL_isSystem_29 rfl rfl ?_
    refine wq_iconst (pc := 30) dL_isSystem_30 ?_
    refine cVK_1 (pc := 31) dL_isSystem_31 (Wd_s (by with_reducible assumption)) (cw_L_81 _ rfl) (by decide) rfl ⟨by decide, by decide⟩ (Nat.le_of_ble_eq_true rfl) (qs_isDir (k := 1) (by with_reducible assumption) hnb hvb hG (Or.inl ⟨rfl, isDr_1 A⟩) (by omega) (fun mm ee W => ?_))
    refine kr_s ?_
    refine wq_if_eq (pc := 34) (tgt := 41) dL_isSystem_34 (by decide) (by first | (unfold inR; omega) | assumption | exact hr2 _ | exact hr3 _ | exact hr4 _) (fun c => absurd c (by decide)) (fun _ => ?_)
    refine wq_iconst (pc := 37) dL_isSystem_37 ?_
    refine wq_goto (pc := 38) (tgt := 42) dL_isSystem_38 (by decide) ?_
    refine wq_istore (pc := 42) (L' := [(7, _), (0, _), (1, _), (2, _), (3, _), (4, _), (5, _), (6, _)]) dL_isSystem_42 rfl (by decide) ?_
    refine wq_iconst (pc := 44) dL_isSystem_44 ?_
    refine wq_istore (pc := 45) (L' := [(8, _), (7, _), (0, _), (1, _), (2, _), (3, _), (4, _), (5, _), (6, _)]) dL_isSystem_45 rfl (by decide) ?_
    have loop9 : ∀ (n k : Nat), ∀ (m : nMem) (e : nEnv) (i : Int), k ≤ (X 21 0).toNat → (X 21 0).toNat < k + n → i = (k : Int) → Wd N A nb vb (t + 10 * (20 - k) + 600) X m e → wp mL_isSystem 47 [(0, vR 1), (1, vR 21), (2, vR 22), (3, vR 23), (4, vR 24), (5, vR 25), (6, vI x), (7, vI 1), (8, vI i)] [] m e Q := by
      intro n
      induction n with
      | zero => intro k m e i hk1 hk2 e0 e1; exact absurd hk2 (by omega)
      | succ n ih =>
        intro k m e i hk1 hk2 e0 e1
        subst e0
        have ihO := ih
        have hkO := hk2
        have hkO1 := hk1
        obtain ⟨kN, hkN⟩ : ∃ kN : Nat, kN = k := ⟨k, rfl⟩
        have hkz : (kN : Int) = (k : Int) := by omega
        have rkN : inR (kN : Int) := by unfold inR; omega
        rw [← hkz]
        obtain ⟨T9, hT9⟩ : ∃ T9, T9 = t + 10 * (19 - k) + 600 := ⟨_, rfl⟩
        have W0 : Wd N A nb vb (T9 + 10) X m e := Wd_t e1 (by omega)
        clear e1
        refine wq_iload (pc := 47) dL_isSystem_47 rfl ?_
        refine wq_aload_n (pc := 49) dL_isSystem_49 rfl rfl ?_
        refine wq_iconst (pc := 50) dL_isSystem_50 ?_
        refine wq_ialdX (pc := 51) dL_isSystem_51 (by with_reducible assumption) rfl (by omega) (by omega) ?_
        refine wq_icmp_ge (pc := 52) (tgt := 289) dL_isSystem_52 (by decide) (by first | (unfold inR; omega) | assumption | exact hr2 _ | exact hr3 _ | exact hr4 _) (by first | (unfold inR; omega) | assumption | exact hr2 _ | exact hr3 _ | exact hr4 _) (fun c10 => ?_) (fun c10 => ?_)
        · skip
          refine wq_iconst (pc := 289) dL_isSystem_289 ?_
          refine wq_istore (pc := 290) (L' := [(8, _), (0, _), (1, _), (2, _), (3, _), (4, _), (5, _), (6, _), (7, _)]) dL_isSystem_290 rfl (by decide) ?_
          have loop11 : ∀ (n k : Nat), ∀ (m : nMem) (e : nEnv) (i : Int), k ≤ (X 21 1).toNat → (X 21 1).toNat < k + n → i = (k : Int) → Wd N A nb vb (t + 40 * (10 - k) + 100) X m e → wp mL_isSystem 292 [(0, vR 1), (1, vR 21), (2, vR 22), (3, vR 23), (4, vR 24), (5, vR 25), (6, vI x), (7, vI 1), (8, vI i)] [] m e Q := by
            intro n
            induction n with
            | zero => intro k m e i hk1 hk2 e0 e1; exact absurd hk2 (by omega)
            | succ n ih =>
              intro k m e i hk1 hk2 e0 e1
              subst e0
              have ihF := ih
              have hkF := hk2
              have hkF1 := hk1
              obtain ⟨kN, hkN⟩ : ∃ kN : Nat, kN = k := ⟨k, rfl⟩
              have hkz : (kN : Int) = (k : Int) := by omega
              have rkN : inR (kN : Int) := by unfold inR; omega
              rw [← hkz]
              obtain ⟨T9, hT9⟩ : ∃ T9, T9 = t + 40 * (9 - k) + 100 := ⟨_, rfl⟩
              have W0 : Wd N A nb vb (T9 + 40) X m e := Wd_t e1 (by omega)
              clear e1
              refine wq_iload (pc := 292) dL_isSystem_292 rfl ?_
              refine wq_aload_n (pc := 294) dL_isSystem_294 rfl rfl ?_
              refine wq_iconst (pc := 295) dL_isSystem_295 ?_
              refine wq_ialdX (pc := 296) dL_isSystem_296 (by with_reducible assumption) rfl (by omega) (by omega) ?_
              refine wq_icmp_ge (pc := 297) (tgt := 458) dL_isSystem_297 (by decide) (by first | (unfold inR; omega) | assumption | exact hr2 _ | exact hr3 _ | exact hr4 _) (by first | (unfold inR; omega) | assumption | exact hr2 _ | exact hr3 _ | exact hr4 _) (fun c12 => ?_) (fun c12 => ?_)
              · skip
                refine wq_iconst (pc := 458) dL_isSystem_458 ?_
                refine wq_iload (pc := 459) dL_isSystem_459 rfl ?_
                refine wq_bipush (pc := 461) dL_isSystem_461 (by decide) (by decide) ?_
                refine wq_irem (pc := 463) dL_isSystem_463 (by omega) (by omega) ?_
                refine wq_iadd (pc := 464) dL_isSystem_464 ?_
                refine wq_istore (pc := 465) (L' := [(8, _), (0, _), (1, _), (2, _), (3, _), (4, _), (5, _), (6, _), (7, _)]) dL_isSystem_465 rfl (by decide) ?_
                refine wq_iload (pc := 467) dL_isSystem_467 rfl ?_
                refine wq_if_eq (pc := 469) (tgt := 518) dL_isSystem_469 (by decide) (by first | (unfold inR; omega) | assumption | exact hr2 _ | exact hr3 _ | exact hr4 _) (fun c => absurd c (by decide)) (fun _ => ?_)
                refine wq_aload_n (pc := 472) dL_isSystem_472 rfl rfl ?_
                refine wq_bipush (pc := 473) dL_isSystem_473 (by decide) (by decide) ?_
                refine wq_iconst (pc := 475) dL_isSystem_475 ?_
                refine wq_iload (pc := 476) dL_isSystem_476 rfl ?_
                refine wq_iconst (pc := 478) dL_isSystem_478 ?_
                refine cW_5 (pc := 479) dL_isSystem_479 (cw_L_85 _ rfl) ⟨by decide, by decide⟩ (Nat.le_of_ble_eq_true rfl) (qd_lookUp (by with_reducible assumption) hnb hvb hG (by omega) (fun mm ee W => ?_))
                show wp mL_isSystem 482 _ _ _ _ _
                rw [GA_lk1 hG (by omega)]
                have hrb := GA_find hG 1 (1 + x % 9)
                refine wq_aload_n (pc := 482) dL_isSystem_482 rfl rfl ?_
                refine wq_aload_n (pc := 483) dL_isSystem_483 rfl rfl ?_
                refine wq_iconst (pc := 484) dL_isSystem_484 ?_
                refine wq_iload (pc := 485) dL_isSystem_485 rfl ?_
                refine cS_4 (pc := 487) dL_isSystem_487 (cw_L_98 _ rfl) ⟨by decide, by decide⟩ (Nat.le_of_ble_eq_true rfl) (sW_find (by with_reducible assumption) hX (by first | assumption | exact hr2 _ | exact hr3 _ | (unfold inR; omega)) (by first | assumption | exact hr2 _ | exact hr3 _ | (unfold inR; omega)) ?_)
                refine kr_s ?_
                refine wq_if_ge (pc := 490) (tgt := 497) dL_isSystem_490 (by decide) (by unfold inR; omega) (fun c15 => ?_) (fun c15 => ?_)
                · skip
                  refine wq_aload_n (pc := 497) dL_isSystem_497 rfl rfl ?_
                  refine wq_iconst (pc := 498) dL_isSystem_498 ?_
                  refine wq_aload_n (pc := 499) dL_isSystem_499 rfl rfl ?_
                  refine wq_aload_n (pc := 500) dL_isSystem_500 rfl rfl ?_
                  refine wq_iconst (pc := 501) dL_isSystem_501 ?_
                  refine wq_iload (pc := 502) dL_isSystem_502 rfl ?_
                  refine cS_4 (pc := 504) dL_isSystem_504 (cw_L_98 _ rfl) ⟨by decide, by decide⟩ (Nat.le_of_ble_eq_true rfl) (sW_find (by with_reducible assumption) hX (by first | assumption | exact hr2 _ | exact hr3 _ | (unfold inR; omega)) (by first | assumption | exact hr2 _ | exact hr3 _ | (unfold inR; omega)) ?_)
                  refine kr_s ?_
                  refine wq_imul (pc := 507) dL_isSystem_507 ?_
                  refine wq_iconst (pc := 508) dL_isSystem_508 ?_
                  refine wq_iadd (pc := 509) dL_isSystem_509 ?_
                  refine wq_ialdX (pc := 510) dL_isSystem_510 (by with_reducible assumption) rfl (by omega) (by omega) ?_
                  refine wq_icmp_ne (pc := 511) (tgt := 518) dL_isSystem_511 (by decide) (by split; (unfold inR; omega); exact hr2 _) (by first | exact hr2 _ | (unfold inR; omega)) (fun c16 => ?_) (fun c16 => ?_)
                  · skip
                    exact absurd (by first | exact if_pos (by omega) | exact if_neg (by omega)) c16
                  · skip
                    refine wq_iconst (pc := 514) dL_isSystem_514 ?_
                    refine wq_goto (pc := 515) (tgt := 519) dL_isSystem_515 (by decide) ?_
                    refine wq_zret (pc := 519) dL_isSystem_519 rfl (by first | omega | (simp; done) | assumption) ?_
                    exact h _ _ (Wd_t W (by omega))
                · skip
                  refine wq_iconst (pc := 493) dL_isSystem_493 ?_
                  refine wq_goto (pc := 494) (tgt := 511) dL_isSystem_494 (by decide) ?_
                  refine wq_icmp_ne (pc := 511) (tgt := 518) dL_isSystem_511 (by decide) (by split; (unfold inR; omega); exact hr2 _) (by first | exact hr2 _ | (unfold inR; omega)) (fun c17 => ?_) (fun c17 => ?_)
                  · skip
                    exact absurd (by first | exact if_pos (by omega) | exact if_neg (by omega)) c17
                  · skip
                    refine wq_iconst (pc := 514) dL_isSystem_514 ?_
                    refine wq_goto (pc := 515) (tgt := 519) dL_isSystem_515 (by decide) ?_
                    refine wq_zret (pc := 519) dL_isSystem_519 rfl (by first | omega | (simp; done) | assumption) ?_
                    exact h _ _ (Wd_t W (by omega))
              · skip
                obtain ⟨q1, q2, q3, q4, q5, q6⟩ := GA_f hG (i := (kN : Int)) (by omega) (by omega)
                refine wq_iload (pc := 300) dL_isSystem_300 rfl ?_
                refine wq_if_eq (pc := 302) (tgt := 458) dL_isSystem_302 (by decide) (by first | (unfold inR; omega) | assumption | exact hr2 _ | exact hr3 _ | exact hr4 _) (fun c => absurd c (by decide)) (fun _ => ?_)
                refine wq_aload_n (pc := 305) dL_isSystem_305 rfl rfl ?_
                refine wq_aload_n (pc := 306) dL_isSystem_306 rfl rfl ?_
                refine wq_iload (pc := 307) dL_isSystem_307 rfl ?_
                refine wq_ialdX (pc := 309) dL_isSystem_309 (by with_reducible assumption) rfl (by omega) (by omega) ?_
                refine cVK_1 (pc := 310) dL_isSystem_310 (Wd_s (by with_reducible assumption)) (cw_L_52 _ rfl) (by decide) rfl ⟨by decide, by decide⟩ (Nat.le_of_ble_eq_true rfl) (qs_length (by with_reducible assumption) hnb hvb hG q1 q4 (fun mm ee W => ?_))
                refine kr_s ?_
                refine wq_aload (pc := 313) dL_isSystem_313 rfl ?_
                refine wq_iload (pc := 315) dL_isSystem_315 rfl ?_
                refine wq_ialdX (pc := 317) dL_isSystem_317 (by with_reducible assumption) rfl (by omega) (by omega) ?_
                refine wq_icmp_ne (pc := 318) (tgt := 325) dL_isSystem_318 (by decide) (by rw [← q2]; exact hr4 _) (hr4 _) (fun c20 => ?_) (fun c20 => ?_)
                · skip
                  exact absurd q2.symm c20
                · skip
                  refine wq_iconst (pc := 321) dL_isSystem_321 ?_
                  refine wq_goto (pc := 322) (tgt := 326) dL_isSystem_322 (by decide) ?_
                  refine wq_istore (pc := 326) (L' := [(7, _), (0, _), (1, _), (2, _), (3, _), (4, _), (5, _), (6, _), (8, _)]) dL_isSystem_326 rfl (by decide) ?_
                  refine wq_iload (pc := 328) dL_isSystem_328 rfl ?_
                  refine wq_iconst (pc := 330) dL_isSystem_330 ?_
                  refine wq_irem (pc := 331) dL_isSystem_331 (by omega) (by omega) ?_
                  refine wq_istore (pc := 332) (L' := [(9, _), (7, _), (0, _), (1, _), (2, _), (3, _), (4, _), (5, _), (6, _), (8, _)]) dL_isSystem_332 rfl (by decide) ?_
                  have loop21 : ∀ (n k : Nat), ∀ (m : nMem) (e : nEnv) (p : Int), k ≤ 30 → 30 < k + n → p = x % 3 + 3 * (k : Int) → Wd N A nb vb (T9 + 8 + (30 - k)) X m e → wp mL_isSystem 334 [(0, vR 1), (1, vR 21), (2, vR 22), (3, vR 23), (4, vR 24), (5, vR 25), (6, vI x), (7, vI 1), (8, vI (kN : Int)), (9, vI p)] [] m e Q := by
                    intro n
                    induction n with
                    | zero => intro k m e p hk1 hk2 e0 e1; exact absurd hk2 (by omega)
                    | succ n ih =>
                      intro k m e p hk1 hk2 e0 e1
                      obtain ⟨T8, hT8⟩ : ∃ T8, T8 = T9 + 8 + (29 - k) := ⟨_, rfl⟩
                      have W1 : k < 30 → Wd N A nb vb (T8 + 1) X m e := fun _ => Wd_t e1 (by omega)
                      have e1r := e1
                      refine wq_iload (pc := 334) dL_isSystem_334 rfl ?_
                      refine wq_aload (pc := 336) dL_isSystem_336 rfl ?_
                      refine wq_iload (pc := 338) dL_isSystem_338 rfl ?_
                      refine wq_ialdX (pc := 340) dL_isSystem_340 (by with_reducible assumption) rfl (by omega) (by omega) ?_
                      refine wq_icmp_ge (pc := 341) (tgt := 384) dL_isSystem_341 (by decide) (by unfold inR; omega) (hr4 _) (fun c22 => ?_) (fun c22 => ?_)
                      · skip
                        refine wq_iload (pc := 384) dL_isSystem_384 rfl ?_
                        refine wq_bipush (pc := 386) dL_isSystem_386 (by decide) (by decide) ?_
                        refine wq_irem (pc := 388) dL_isSystem_388 (by omega) (by omega) ?_
                        refine wq_istore (pc := 389) (L' := [(9, _), (0, _), (1, _), (2, _), (3, _), (4, _), (5, _), (6, _), (7, _), (8, _)]) dL_isSystem_389 rfl (by decide) ?_
                        have loop23 : ∀ (n k : Nat), ∀ (m : nMem) (e : nEnv) (p : Int), k ≤ 7 → 7 < k + n → p = x % 11 + 11 * (k : Int) → Wd N A nb vb (T9 + (7 - k)) X m e → wp mL_isSystem 391 [(0, vR 1), (1, vR 21), (2, vR 22), (3, vR 23), (4, vR 24), (5, vR 25), (6, vI x), (7, vI 1), (8, vI (kN : Int)), (9, vI p)] [] m e Q := by
                          intro n
                          induction n with
                          | zero => intro k m e p hk1 hk2 e0 e1; exact absurd hk2 (by omega)
                          | succ n ih =>
                            intro k m e p hk1 hk2 e0 e1
                            obtain ⟨T8, hT8⟩ : ∃ T8, T8 = T9 + (6 - k) := ⟨_, rfl⟩
                            have W1 : k < 7 → Wd N A nb vb (T8 + 1) X m e := fun _ => Wd_t e1 (by omega)
                            refine wq_iload (pc := 391) dL_isSystem_391 rfl ?_
                            refine wq_aload (pc := 393) dL_isSystem_393 rfl ?_
                            refine wq_iload (pc := 395) dL_isSystem_395 rfl ?_
                            refine wq_ialdX (pc := 397) dL_isSystem_397 (by with_reducible assumption) rfl (by omega) (by omega) ?_
                            refine wq_icmp_ge (pc := 398) (tgt := 452) dL_isSystem_398 (by decide) (by unfold inR; omega) (hr4 _) (fun c24 => ?_) (fun c24 => ?_)
                            · skip
                              refine wq_iinc (pc := 452) (L' := [(8, _), (0, _), (1, _), (2, _), (3, _), (4, _), (5, _), (6, _), (7, _), (9, _)]) dL_isSystem_452 rfl rfl (by decide) ?_
                              refine wq_goto (pc := 455) (tgt := 292) dL_isSystem_455 (by decide) ?_
                              refine wq_sub1 (L' := [(0, _), (1, _), (2, _), (3, _), (4, _), (5, _), (6, _), (7, _), (8, _)]) ⟨rfl, rfl, rfl, rfl, rfl, rfl, rfl, rfl, rfl, trivial⟩ ?_
                              exact ihF (kN + 1) _ _ _ (by omega) (by omega) (by omega) (Wd_t e1 (by omega))
                            · skip
                              refine wq_iload (pc := 401) dL_isSystem_401 rfl ?_
                              refine wq_if_eq (pc := 403) (tgt := 452) dL_isSystem_403 (by decide) (by first | (unfold inR; omega) | assumption | exact hr2 _ | exact hr3 _ | exact hr4 _) (fun c => absurd c (by decide)) (fun _ => ?_)
                              refine wq_iload (pc := 406) dL_isSystem_406 rfl ?_
                              refine wq_iload (pc := 408) dL_isSystem_408 rfl ?_
                              refine wq_aload_n (pc := 410) dL_isSystem_410 rfl rfl ?_
                              refine wq_iconst (pc := 411) dL_isSystem_411 ?_
                              refine wq_ialdX (pc := 412) dL_isSystem_412 (by with_reducible assumption) rfl (by omega) (by omega) ?_
                              refine wq_irem (pc := 413) dL_isSystem_413 (by omega) (by omega) ?_
                              refine wq_icmp_ne (pc := 414) (tgt := 452) dL_isSystem_414 (by decide) (by unfold inR; omega) (by have h1 := Int.emod_nonneg x (show X 21 1 ≠ 0 by omega); have h2 := Int.emod_lt_of_pos x (show 0 < X 21 1 by omega); unfold inR; omega) (fun c26 => ?_) (fun c26 => ?_)
                              · skip
                                refine wq_iinc (pc := 452) (L' := [(8, _), (0, _), (1, _), (2, _), (3, _), (4, _), (5, _), (6, _), (7, _), (9, _)]) dL_isSystem_452 rfl rfl (by decide) ?_
                                refine wq_goto (pc := 455) (tgt := 292) dL_isSystem_455 (by decide) ?_
                                refine wq_sub1 (L' := [(0, _), (1, _), (2, _), (3, _), (4, _), (5, _), (6, _), (7, _), (8, _)]) ⟨rfl, rfl, rfl, rfl, rfl, rfl, rfl, rfl, rfl, trivial⟩ ?_
                                exact ihF (kN + 1) _ _ _ (by omega) (by omega) (by omega) (Wd_t e1 (by omega))
                              · skip
                                have W1 := W1 (by omega)
                                refine wq_aload_n (pc := 417) dL_isSystem_417 rfl rfl ?_
                                refine wq_aload_n (pc := 418) dL_isSystem_418 rfl rfl ?_
                                refine wq_iload (pc := 419) dL_isSystem_419 rfl ?_
                                refine wq_ialdX (pc := 421) dL_isSystem_421 (by with_reducible assumption) rfl (by omega) (by omega) ?_
                                refine wq_iload (pc := 422) dL_isSystem_422 rfl ?_
                                refine cVK_2 (pc := 424) dL_isSystem_424 (Wd_s (by with_reducible assumption)) (cw_L_95 _ rfl) (by decide) rfl ⟨by decide, by decide⟩ (Nat.le_of_ble_eq_true rfl) (qs_byteByNodes (by with_reducible assumption) hnb hvb hG q1 q4 (by omega) (q3 _ (by omega) (by omega)).symm (fun mm ee W => ?_))
                                refine kr_s ?_
                                refine wq_aload (pc := 427) dL_isSystem_427 rfl ?_
                                refine wq_iload (pc := 429) dL_isSystem_429 rfl ?_
                                refine wq_iload (pc := 431) dL_isSystem_431 rfl ?_
                                refine cS_3 (pc := 433) dL_isSystem_433 (cw_L_92 _ rfl) ⟨by decide, by decide⟩ (Nat.le_of_ble_eq_true rfl) (sW_byteAt (by with_reducible assumption) (by omega) (by omega) ?_)
                                refine kr_s ?_
                                refine wq_icmp_ne (pc := 436) (tgt := 443) dL_isSystem_436 (by decide) (cB_r _ _ _) (cB_r _ _ _) (fun c28 => ?_) (fun c28 => ?_)
                                · skip
                                  exact absurd rfl c28
                                · skip
                                  refine wq_iconst (pc := 439) dL_isSystem_439 ?_
                                  refine wq_goto (pc := 440) (tgt := 444) dL_isSystem_440 (by decide) ?_
                                  refine wq_istore (pc := 444) (L' := [(7, _), (0, _), (1, _), (2, _), (3, _), (4, _), (5, _), (6, _), (8, _), (9, _)]) dL_isSystem_444 rfl (by decide) ?_
                                  refine wq_iinc (pc := 446) (L' := [(9, _), (7, _), (0, _), (1, _), (2, _), (3, _), (4, _), (5, _), (6, _), (8, _)]) dL_isSystem_446 rfl rfl (by decide) ?_
                                  refine wq_goto (pc := 449) (tgt := 391) dL_isSystem_449 (by decide) ?_
                                  refine wq_sub1 (L' := [(0, _), (1, _), (2, _), (3, _), (4, _), (5, _), (6, _), (7, _), (8, _), (9, _)]) ⟨rfl, rfl, rfl, rfl, rfl, rfl, rfl, rfl, rfl, rfl, trivial⟩ ?_
                                  exact ih (k + 1) _ _ _ (by omega) (by omega) (by omega) (Wd_t W (by omega))
                        refine wq_sub1 (L' := [(0, _), (1, _), (2, _), (3, _), (4, _), (5, _), (6, _), (7, _), (8, _), (9, _)]) ⟨rfl, rfl, rfl, rfl, rfl, rfl, rfl, rfl, rfl, rfl, trivial⟩ ?_
                        exact loop23 8 0 _ _ _ (by omega) (by omega) (by omega) (Wd_t e1 (by omega))
                      · skip
                        refine wq_iload (pc := 344) dL_isSystem_344 rfl ?_
                        refine wq_if_eq (pc := 346) (tgt := 384) dL_isSystem_346 (by decide) (by first | (unfold inR; omega) | assumption | exact hr2 _ | exact hr3 _ | exact hr4 _) (fun c => absurd c (by decide)) (fun _ => ?_)
                        have W1 := W1 (by omega)
                        refine wq_aload_n (pc := 349) dL_isSystem_349 rfl rfl ?_
                        refine wq_aload_n (pc := 350) dL_isSystem_350 rfl rfl ?_
                        refine wq_iload (pc := 351) dL_isSystem_351 rfl ?_
                        refine wq_ialdX (pc := 353) dL_isSystem_353 (by with_reducible assumption) rfl (by omega) (by omega) ?_
                        refine wq_iload (pc := 354) dL_isSystem_354 rfl ?_
                        refine cVK_2 (pc := 356) dL_isSystem_356 (Wd_s (by with_reducible assumption)) (cw_L_89 _ rfl) (by decide) rfl ⟨by decide, by decide⟩ (Nat.le_of_ble_eq_true rfl) (qs_byteAt (by with_reducible assumption) hnb hvb hG q1 q4 (by omega) (q3 _ (by omega) (by omega)).symm (fun mm ee W => ?_))
                        refine kr_s ?_
                        refine wq_aload (pc := 359) dL_isSystem_359 rfl ?_
                        refine wq_iload (pc := 361) dL_isSystem_361 rfl ?_
                        refine wq_iload (pc := 363) dL_isSystem_363 rfl ?_
                        refine cS_3 (pc := 365) dL_isSystem_365 (cw_L_92 _ rfl) ⟨by decide, by decide⟩ (Nat.le_of_ble_eq_true rfl) (sW_byteAt (by with_reducible assumption) (by omega) (by omega) ?_)
                        refine kr_s ?_
                        refine wq_icmp_ne (pc := 368) (tgt := 375) dL_isSystem_368 (by decide) (cB_r _ _ _) (cB_r _ _ _) (fun c31 => ?_) (fun c31 => ?_)
                        · skip
                          exact absurd rfl c31
                        · skip
                          refine wq_iconst (pc := 371) dL_isSystem_371 ?_
                          refine wq_goto (pc := 372) (tgt := 376) dL_isSystem_372 (by decide) ?_
                          refine wq_istore (pc := 376) (L' := [(7, _), (0, _), (1, _), (2, _), (3, _), (4, _), (5, _), (6, _), (8, _), (9, _)]) dL_isSystem_376 rfl (by decide) ?_
                          refine wq_iinc (pc := 378) (L' := [(9, _), (7, _), (0, _), (1, _), (2, _), (3, _), (4, _), (5, _), (6, _), (8, _)]) dL_isSystem_378 rfl rfl (by decide) ?_
                          refine wq_goto (pc := 381) (tgt := 334) dL_isSystem_381 (by decide) ?_
                          refine wq_sub1 (L' := [(0, _), (1, _), (2, _), (3, _), (4, _), (5, _), (6, _), (7, _), (8, _), (9, _)]) ⟨rfl, rfl, rfl, rfl, rfl, rfl, rfl, rfl, rfl, rfl, trivial⟩ ?_
                          exact ih (k + 1) _ _ _ (by omega) (by omega) (by omega) (Wd_t W (by omega))
                  refine wq_sub1 (L' := [(0, _), (1, _), (2, _), (3, _), (4, _), (5, _), (6, _), (7, _), (8, _), (9, _)]) ⟨rfl, rfl, rfl, rfl, rfl, rfl, rfl, rfl, rfl, rfl, trivial⟩ ?_
                  exact loop21 31 0 _ _ _ (by omega) (by omega) (by omega) (Wd_t W (by omega))
          refine wq_sub1 (L' := [(0, _), (1, _), (2, _), (3, _), (4, _), (5, _), (6, _), (7, _), (8, _)]) ⟨rfl, rfl, rfl, rfl, rfl, rfl, rfl, rfl, rfl, trivial⟩ ?_
          exact loop11 ((X 21 1).toNat + 1) 0 _ _ _ (by omega) (by omega) rfl (Wd_t W0 (by omega))
        · skip
          obtain ⟨⟨p1, p2, p3, p4⟩, p5, p6, p7⟩ := GA_e hG (i := (kN : Int)) (by omega) (by omega)
          have p8 : X 22 (4 * (kN : Int) + 3) = 0 ∨ X 22 (4 * (kN : Int) + 3) = 1 := by rcases p7 with q | q; exact Or.inr q.1; exact Or.inl q.1
          have hpl := GA_place hG (i := (kN : Int)) (by omega) (by omega)
          have hr2k := hr2 (4 * (kN : Int))
          have hr2v := hr2 (4 * (kN : Int) + 1)
          refine wq_iload (pc := 55) dL_isSystem_55 rfl ?_
          refine wq_if_eq (pc := 57) (tgt := 289) dL_isSystem_57 (by decide) (by first | (unfold inR; omega) | assumption | exact hr2 _ | exact hr3 _ | exact hr4 _) (fun c => absurd c (by decide)) (fun _ => ?_)
          refine wq_aload_n (pc := 60) dL_isSystem_60 rfl rfl ?_
          refine wq_iconst (pc := 61) dL_isSystem_61 ?_
          refine wq_iload (pc := 62) dL_isSystem_62 rfl ?_
          refine wq_imul (pc := 64) dL_isSystem_64 ?_
          refine wq_ialdX (pc := 65) dL_isSystem_65 (by with_reducible assumption) rfl (by omega) (by omega) ?_
          refine wq_istore (pc := 66) (L' := [(9, _), (0, _), (1, _), (2, _), (3, _), (4, _), (5, _), (6, _), (7, _), (8, _)]) dL_isSystem_66 rfl (by decide) ?_
          refine wq_aload_n (pc := 68) dL_isSystem_68 rfl rfl ?_
          refine wq_iconst (pc := 69) dL_isSystem_69 ?_
          refine wq_iload (pc := 70) dL_isSystem_70 rfl ?_
          refine wq_imul (pc := 72) dL_isSystem_72 ?_
          refine wq_iconst (pc := 73) dL_isSystem_73 ?_
          refine wq_iadd (pc := 74) dL_isSystem_74 ?_
          refine wq_ialdX (pc := 75) dL_isSystem_75 (by with_reducible assumption) rfl (by omega) (by omega) ?_
          refine wq_istore (pc := 76) (L' := [(10, _), (9, _), (0, _), (1, _), (2, _), (3, _), (4, _), (5, _), (6, _), (7, _), (8, _)]) dL_isSystem_76 rfl (by decide) ?_
          refine wq_iconst (pc := 78) dL_isSystem_78 ?_
          refine wq_istore (pc := 79) (L' := [(11, _), (10, _), (9, _), (0, _), (1, _), (2, _), (3, _), (4, _), (5, _), (6, _), (7, _), (8, _)]) dL_isSystem_79 rfl (by decide) ?_
          refine wq_iconst (pc := 81) dL_isSystem_81 ?_
          refine wq_istore (pc := 82) (L' := [(12, _), (11, _), (10, _), (9, _), (0, _), (1, _), (2, _), (3, _), (4, _), (5, _), (6, _), (7, _), (8, _)]) dL_isSystem_82 rfl (by decide) ?_
          have loop33 : ∀ (n k : Nat), ∀ (c j : Int), k ≤ (X 21 0).toNat → (X 21 0).toNat < k + n → j = (k : Int) → c = cR (fun j => X 22 (4 * j) = X 22 (4 * (kN : Int)) ∧ X 22 (4 * j + 1) < X 22 (4 * (kN : Int) + 1)) k → wp mL_isSystem 84 [(0, vR 1), (1, vR 21), (2, vR 22), (3, vR 23), (4, vR 24), (5, vR 25), (6, vI x), (7, vI 1), (8, vI (kN : Int)), (9, vI (X 22 (4 * (kN : Int)))), (10, vI (X 22 (4 * (kN : Int) + 2))), (11, vI c), (12, vI j)] [] m e Q := by
            intro n
            induction n with
            | zero => intro k c j hk1 hk2 e0 e1; exact absurd hk2 (by omega)
            | succ n ih =>
              intro k c j hk1 hk2 e0 e1
              subst e0
              refine wq_iload (pc := 84) dL_isSystem_84 rfl ?_
              refine wq_aload_n (pc := 86) dL_isSystem_86 rfl rfl ?_
              refine wq_iconst (pc := 87) dL_isSystem_87 ?_
              refine wq_ialdX (pc := 88) dL_isSystem_88 (by with_reducible assumption) rfl (by omega) (by omega) ?_
              refine wq_icmp_ge (pc := 89) (tgt := 138) dL_isSystem_89 (by decide) (by first | (unfold inR; omega) | assumption | exact hr2 _ | exact hr3 _ | exact hr4 _) (by first | (unfold inR; omega) | assumption | exact hr2 _ | exact hr3 _ | exact hr4 _) (fun c34 => ?_) (fun c34 => ?_)
              · skip
                have hc9 : c = _ := e1
                rw [show k = (X 21 0).toNat by omega] at hc9
                refine wq_aload_n (pc := 138) dL_isSystem_138 rfl rfl ?_
                refine wq_iload (pc := 139) dL_isSystem_139 rfl ?_
                refine wq_aload_n (pc := 141) dL_isSystem_141 rfl rfl ?_
                refine wq_iconst (pc := 142) dL_isSystem_142 ?_
                refine wq_iload (pc := 143) dL_isSystem_143 rfl ?_
                refine wq_imul (pc := 145) dL_isSystem_145 ?_
                refine wq_iconst (pc := 146) dL_isSystem_146 ?_
                refine wq_iadd (pc := 147) dL_isSystem_147 ?_
                refine wq_ialdX (pc := 148) dL_isSystem_148 (by with_reducible assumption) rfl (by omega) (by omega) ?_
                refine cVK_2 (pc := 149) dL_isSystem_149 (Wd_s (by with_reducible assumption)) (cw_L_43 _ rfl) (by decide) rfl ⟨by decide, by decide⟩ (Nat.le_of_ble_eq_true rfl) (qs_lookUp (by with_reducible assumption) hnb hvb hG p1 p2 p3 (by omega) (fun mm ee W => ?_))
                refine kr_s ?_
                refine wq_iload (pc := 152) dL_isSystem_152 rfl ?_
                refine wq_icmp_ne (pc := 154) (tgt := 280) dL_isSystem_154 (by decide) (by first | (unfold inR; omega) | assumption | exact hr2 _ | exact hr3 _ | exact hr4 _) (by first | (unfold inR; omega) | assumption | exact hr2 _ | exact hr3 _ | exact hr4 _) (fun c36 => ?_) (fun c36 => ?_)
                · skip
                  exact absurd rfl c36
                · skip
                  refine wq_aload_n (pc := 157) dL_isSystem_157 rfl rfl ?_
                  refine wq_iload (pc := 158) dL_isSystem_158 rfl ?_
                  refine cVK_1 (pc := 160) dL_isSystem_160 (Wd_s (by with_reducible assumption)) (cw_L_81 _ rfl) (by decide) rfl ⟨by decide, by decide⟩ (Nat.le_of_ble_eq_true rfl) (qs_isDir (by with_reducible assumption) hnb hvb hG p7 (by omega) (fun mm ee W => ?_))
                  refine kr_s ?_
                  have cut38 : wp mL_isSystem 183 [(0, vR 1), (1, vR 21), (2, vR 22), (3, vR 23), (4, vR 24), (5, vR 25), (6, vI x), (7, vI 1), (8, vI (kN : Int)), (9, vI (X 22 (4 * (kN : Int)))), (10, vI (X 22 (4 * (kN : Int) + 2))), (11, vI c)] [] mm ee Q := by
                    refine wq_aload_n (pc := 183) dL_isSystem_183 rfl rfl ?_
                    refine wq_iload (pc := 184) dL_isSystem_184 rfl ?_
                    refine cVK_1 (pc := 186) dL_isSystem_186 (Wd_s (by with_reducible assumption)) (cw_L_79 _ rfl) (by decide) rfl ⟨by decide, by decide⟩ (Nat.le_of_ble_eq_true rfl) (qs_links (by with_reducible assumption) hnb hvb hG (by rcases p7 with q | q; exact Or.inl q.2; exact Or.inr q.2.1) p5 (fun mm ee W => ?_))
                    refine kr_s ?_
                    refine wq_aload_n (pc := 189) dL_isSystem_189 rfl rfl ?_
                    refine wq_aload_n (pc := 190) dL_isSystem_190 rfl rfl ?_
                    refine wq_iload (pc := 191) dL_isSystem_191 rfl ?_
                    refine cS_3 (pc := 193) dL_isSystem_193 (cw_L_13 _ rfl) ⟨by decide, by decide⟩ (Nat.le_of_ble_eq_true rfl) (sW_links (by with_reducible assumption) hX (by first | assumption | exact hr2 _ | exact hr3 _ | (unfold inR; omega)) ?_)
                    refine kr_s ?_
                    refine wq_icmp_ne (pc := 196) (tgt := 280) dL_isSystem_196 (by decide) (cR_r hn15) (cR_r hn15) (fun c40 => ?_) (fun c40 => ?_)
                    · skip
                      exact absurd rfl c40
                    · skip
                      refine wq_aload_n (pc := 199) dL_isSystem_199 rfl rfl ?_
                      refine wq_iload (pc := 200) dL_isSystem_200 rfl ?_
                      refine wq_iload (pc := 202) dL_isSystem_202 rfl ?_
                      refine cVK_2 (pc := 204) dL_isSystem_204 (Wd_s (by with_reducible assumption)) (cw_L_49 _ rfl) (by decide) rfl ⟨by decide, by decide⟩ (Nat.le_of_ble_eq_true rfl) (qs_nameAt (by with_reducible assumption) hnb hvb hG p1 (by rw [hc9]; exact ⟨(cR_b _ _).1, hpl.2⟩) (by rw [hc9]; exact cR_r hn15) (show nmAt (TG (aF A) (X 22 (4 * (kN : Int)))) c 99 = X 22 (4 * (kN : Int) + 1) by rw [hc9]; exact hpl.1) (fun mm ee W => ?_))
                      refine kr_s ?_
                      refine wq_aload_n (pc := 207) dL_isSystem_207 rfl rfl ?_
                      refine wq_iconst (pc := 208) dL_isSystem_208 ?_
                      refine wq_iload (pc := 209) dL_isSystem_209 rfl ?_
                      refine wq_imul (pc := 211) dL_isSystem_211 ?_
                      refine wq_iconst (pc := 212) dL_isSystem_212 ?_
                      refine wq_iadd (pc := 213) dL_isSystem_213 ?_
                      refine wq_ialdX (pc := 214) dL_isSystem_214 (by with_reducible assumption) rfl (by omega) (by omega) ?_
                      refine wq_icmp_ne (pc := 215) (tgt := 280) dL_isSystem_215 (by decide) (by first | (unfold inR; omega) | assumption | exact hr2 _ | exact hr3 _ | exact hr4 _) (by first | (unfold inR; omega) | assumption | exact hr2 _ | exact hr3 _ | exact hr4 _) (fun c42 => ?_) (fun c42 => ?_)
                      · skip
                        exact absurd rfl c42
                      · skip
                        refine wq_aload_n (pc := 218) dL_isSystem_218 rfl rfl ?_
                        refine wq_bipush (pc := 219) dL_isSystem_219 (by decide) (by decide) ?_
                        refine wq_iload (pc := 221) dL_isSystem_221 rfl ?_
                        refine wq_iconst (pc := 223) dL_isSystem_223 ?_
                        refine wq_iconst (pc := 224) dL_isSystem_224 ?_
                        refine cW_5 (pc := 225) dL_isSystem_225 (cw_L_85 _ rfl) ⟨by decide, by decide⟩ (Nat.le_of_ble_eq_true rfl) (qd_names (by with_reducible assumption) hnb hvb hG p7 (by omega) (fun mm ee W => ?_))
                        show wp mL_isSystem 228 _ _ _ _ _
                        refine wq_aload_n (pc := 228) dL_isSystem_228 rfl rfl ?_
                        refine wq_iconst (pc := 229) dL_isSystem_229 ?_
                        refine wq_iload (pc := 230) dL_isSystem_230 rfl ?_
                        refine wq_imul (pc := 232) dL_isSystem_232 ?_
                        refine wq_iconst (pc := 233) dL_isSystem_233 ?_
                        refine wq_iadd (pc := 234) dL_isSystem_234 ?_
                        refine wq_ialdX (pc := 235) dL_isSystem_235 (by with_reducible assumption) rfl (by omega) (by omega) ?_
                        refine wq_iconst (pc := 236) dL_isSystem_236 ?_
                        refine wq_icmp_ne (pc := 237) (tgt := 250) dL_isSystem_237 (by decide) (by first | (unfold inR; omega) | assumption | exact hr2 _ | exact hr3 _ | exact hr4 _) (by first | (unfold inR; omega) | assumption | exact hr2 _ | exact hr3 _ | exact hr4 _) (fun c44 => ?_) (fun c44 => ?_)
                        · skip
                          refine wq_bipush (pc := 250) dL_isSystem_250 (by decide) (by decide) ?_
                          refine wq_icmp_ne (pc := 252) (tgt := 280) dL_isSystem_252 (by decide) (by first | (rw [if_pos (by omega)]; exact cR_r hn15) | (rw [if_neg (by omega)]; unfold inR; omega)) (by first | exact cR_r hn15 | (unfold inR; omega)) (fun c45 => ?_) (fun c45 => ?_)
                          · skip
                            exact absurd (by first | exact if_pos (by omega) | exact if_neg (by omega)) c45
                          · skip
                            refine wq_aload_n (pc := 255) dL_isSystem_255 rfl rfl ?_
                            refine wq_bipush (pc := 256) dL_isSystem_256 (by decide) (by decide) ?_
                            refine wq_iload (pc := 258) dL_isSystem_258 rfl ?_
                            refine wq_aload_n (pc := 260) dL_isSystem_260 rfl rfl ?_
                            refine wq_aload_n (pc := 261) dL_isSystem_261 rfl rfl ?_
                            refine wq_iload (pc := 262) dL_isSystem_262 rfl ?_
                            refine cS_3 (pc := 264) dL_isSystem_264 (cw_L_76 _ rfl) ⟨by decide, by decide⟩ (Nat.le_of_ble_eq_true rfl) (sW_namesIn (by with_reducible assumption) hX (by first | assumption | exact hr2 _ | exact hr3 _ | (unfold inR; omega)) ?_)
                            refine kr_s ?_
                            refine wq_iconst (pc := 267) dL_isSystem_267 ?_
                            refine cW_5 (pc := 268) dL_isSystem_268 (cw_L_85 _ rfl) ⟨by decide, by decide⟩ (Nat.le_of_ble_eq_true rfl) (qd_nameAt (by with_reducible assumption) hnb hvb hG p1 (fun mm ee W => ?_))
                            show wp mL_isSystem 271 _ _ _ _ _
                            refine wq_bipush (pc := 271) dL_isSystem_271 (by decide) (by decide) ?_
                            refine wq_icmp_ne (pc := 273) (tgt := 280) dL_isSystem_273 (by decide) (by first | (unfold inR; omega) | assumption | exact hr2 _ | exact hr3 _ | exact hr4 _) (by first | (unfold inR; omega) | assumption | exact hr2 _ | exact hr3 _ | exact hr4 _) (fun c47 => ?_) (fun c47 => ?_)
                            · skip
                              exact absurd rfl c47
                            · skip
                              refine wq_iconst (pc := 276) dL_isSystem_276 ?_
                              refine wq_goto (pc := 277) (tgt := 281) dL_isSystem_277 (by decide) ?_
                              refine wq_istore (pc := 281) (L' := [(7, _), (0, _), (1, _), (2, _), (3, _), (4, _), (5, _), (6, _), (8, _), (9, _), (10, _), (11, _)]) dL_isSystem_281 rfl (by decide) ?_
                              refine wq_iinc (pc := 283) (L' := [(8, _), (7, _), (0, _), (1, _), (2, _), (3, _), (4, _), (5, _), (6, _), (9, _), (10, _), (11, _)]) dL_isSystem_283 rfl rfl (by decide) ?_
                              refine wq_goto (pc := 286) (tgt := 47) dL_isSystem_286 (by decide) ?_
                              refine wq_sub1 (L' := [(0, _), (1, _), (2, _), (3, _), (4, _), (5, _), (6, _), (7, _), (8, _)]) ⟨rfl, rfl, rfl, rfl, rfl, rfl, rfl, rfl, rfl, trivial⟩ ?_
                              exact ihO (kN + 1) _ _ _ (by omega) (by omega) (by omega) (Wd_t W (by omega))
                        · skip
                          refine wq_aload_n (pc := 240) dL_isSystem_240 rfl rfl ?_
                          refine wq_aload_n (pc := 241) dL_isSystem_241 rfl rfl ?_
                          refine wq_iload (pc := 242) dL_isSystem_242 rfl ?_
                          refine cS_3 (pc := 244) dL_isSystem_244 (cw_L_76 _ rfl) ⟨by decide, by decide⟩ (Nat.le_of_ble_eq_true rfl) (sW_namesIn (by with_reducible assumption) hX (by first | assumption | exact hr2 _ | exact hr3 _ | (unfold inR; omega)) ?_)
                          refine kr_s ?_
                          refine wq_goto (pc := 247) (tgt := 252) dL_isSystem_247 (by decide) ?_
                          refine wq_icmp_ne (pc := 252) (tgt := 280) dL_isSystem_252 (by decide) (by first | (rw [if_pos (by omega)]; exact cR_r hn15) | (rw [if_neg (by omega)]; unfold inR; omega)) (by first | exact cR_r hn15 | (unfold inR; omega)) (fun c48 => ?_) (fun c48 => ?_)
                          · skip
                            exact absurd (by first | exact if_pos (by omega) | exact if_neg (by omega)) c48
                          · skip
                            refine wq_aload_n (pc := 255) dL_isSystem_255 rfl rfl ?_
                            refine wq_bipush (pc := 256) dL_isSystem_256 (by decide) (by decide) ?_
                            refine wq_iload (pc := 258) dL_isSystem_258 rfl ?_
                            refine wq_aload_n (pc := 260) dL_isSystem_260 rfl rfl ?_
                            refine wq_aload_n (pc := 261) dL_isSystem_261 rfl rfl ?_
                            refine wq_iload (pc := 262) dL_isSystem_262 rfl ?_
                            refine cS_3 (pc := 264) dL_isSystem_264 (cw_L_76 _ rfl) ⟨by decide, by decide⟩ (Nat.le_of_ble_eq_true rfl) (sW_namesIn (by with_reducible assumption) hX (by first | assumption | exact hr2 _ | exact hr3 _ | (unfold inR; omega)) ?_)
                            refine kr_s ?_
                            refine wq_iconst (pc := 267) dL_isSystem_267 ?_
                            refine cW_5 (pc := 268) dL_isSystem_268 (cw_L_85 _ rfl) ⟨by decide, by decide⟩ (Nat.le_of_ble_eq_true rfl) (qd_nameAt (by with_reducible assumption) hnb hvb hG p1 (fun mm ee W => ?_))
                            show wp mL_isSystem 271 _ _ _ _ _
                            refine wq_bipush (pc := 271) dL_isSystem_271 (by decide) (by decide) ?_
                            refine wq_icmp_ne (pc := 273) (tgt := 280) dL_isSystem_273 (by decide) (by first | (unfold inR; omega) | assumption | exact hr2 _ | exact hr3 _ | exact hr4 _) (by first | (unfold inR; omega) | assumption | exact hr2 _ | exact hr3 _ | exact hr4 _) (fun c50 => ?_) (fun c50 => ?_)
                            · skip
                              exact absurd rfl c50
                            · skip
                              refine wq_iconst (pc := 276) dL_isSystem_276 ?_
                              refine wq_goto (pc := 277) (tgt := 281) dL_isSystem_277 (by decide) ?_
                              refine wq_istore (pc := 281) (L' := [(7, _), (0, _), (1, _), (2, _), (3, _), (4, _), (5, _), (6, _), (8, _), (9, _), (10, _), (11, _)]) dL_isSystem_281 rfl (by decide) ?_
                              refine wq_iinc (pc := 283) (L' := [(8, _), (7, _), (0, _), (1, _), (2, _), (3, _), (4, _), (5, _), (6, _), (9, _), (10, _), (11, _)]) dL_isSystem_283 rfl rfl (by decide) ?_
                              refine wq_goto (pc := 286) (tgt := 47) dL_isSystem_286 (by decide) ?_
                              refine wq_sub1 (L' := [(0, _), (1, _), (2, _), (3, _), (4, _), (5, _), (6, _), (7, _), (8, _)]) ⟨rfl, rfl, rfl, rfl, rfl, rfl, rfl, rfl, rfl, trivial⟩ ?_
                              exact ihO (kN + 1) _ _ _ (by omega) (by omega) (by omega) (Wd_t W (by omega))
                  refine wq_aload_n (pc := 163) dL_isSystem_163 rfl rfl ?_
                  refine wq_iconst (pc := 164) dL_isSystem_164 ?_
                  refine wq_iload (pc := 165) dL_isSystem_165 rfl ?_
                  refine wq_imul (pc := 167) dL_isSystem_167 ?_
                  refine wq_iconst (pc := 168) dL_isSystem_168 ?_
                  refine wq_iadd (pc := 169) dL_isSystem_169 ?_
                  refine wq_ialdX (pc := 170) dL_isSystem_170 (by with_reducible assumption) rfl (by omega) (by omega) ?_
                  refine wq_iconst (pc := 171) dL_isSystem_171 ?_
                  refine wq_icmp_ne (pc := 172) (tgt := 179) dL_isSystem_172 (by decide) (by first | (unfold inR; omega) | assumption | exact hr2 _ | exact hr3 _ | exact hr4 _) (by first | (unfold inR; omega) | assumption | exact hr2 _ | exact hr3 _ | exact hr4 _) (fun c51 => ?_) (fun c51 => ?_)
                  · skip
                    refine wq_iconst (pc := 179) dL_isSystem_179 ?_
                    refine wq_icmp_ne (pc := 180) (tgt := 280) dL_isSystem_180 (by decide) (by first | (unfold inR; omega) | assumption | exact hr2 _ | exact hr3 _ | exact hr4 _) (by first | (unfold inR; omega) | assumption | exact hr2 _ | exact hr3 _ | exact hr4 _) (fun c52 => ?_) (fun c52 => ?_)
                    · skip
                      exfalso; omega
                    · skip
                      refine wq_sub1 (L' := [(0, _), (1, _), (2, _), (3, _), (4, _), (5, _), (6, _), (7, _), (8, _), (9, _), (10, _), (11, _)]) ⟨rfl, rfl, rfl, rfl, rfl, rfl, rfl, rfl, rfl, rfl, rfl, rfl, trivial⟩ ?_
                      exact cut38
                  · skip
                    refine wq_iconst (pc := 175) dL_isSystem_175 ?_
                    refine wq_goto (pc := 176) (tgt := 180) dL_isSystem_176 (by decide) ?_
                    refine wq_icmp_ne (pc := 180) (tgt := 280) dL_isSystem_180 (by decide) (by first | (unfold inR; omega) | assumption | exact hr2 _ | exact hr3 _ | exact hr4 _) (by first | (unfold inR; omega) | assumption | exact hr2 _ | exact hr3 _ | exact hr4 _) (fun c53 => ?_) (fun c53 => ?_)
                    · skip
                      exfalso; omega
                    · skip
                      refine wq_sub1 (L' := [(0, _), (1, _), (2, _), (3, _), (4, _), (5, _), (6, _), (7, _), (8, _), (9, _), (10, _), (11, _)]) ⟨rfl, rfl, rfl, rfl, rfl, rfl, rfl, rfl, rfl, rfl, rfl, rfl, trivial⟩ ?_
                      exact cut38
              · skip
                refine wq_iload (pc := 92) dL_isSystem_92 rfl ?_
                refine wq_aload_n (pc := 94) dL_isSystem_94 rfl rfl ?_
                refine wq_iconst (pc := 95) dL_isSystem_95 ?_
                refine wq_iload (pc := 96) dL_isSystem_96 rfl ?_
                refine wq_imul (pc := 98) dL_isSystem_98 ?_
                refine wq_ialdX (pc := 99) dL_isSystem_99 (by with_reducible assumption) rfl (by omega) (by omega) ?_
                refine wq_iload (pc := 100) dL_isSystem_100 rfl ?_
                refine wq_icmp_ne (pc := 102) (tgt := 128) dL_isSystem_102 (by decide) (by first | (unfold inR; omega) | assumption | exact hr2 _ | exact hr3 _ | exact hr4 _) (by first | (unfold inR; omega) | assumption | exact hr2 _ | exact hr3 _ | exact hr4 _) (fun c54 => ?_) (fun c54 => ?_)
                · skip
                  refine wq_iconst (pc := 128) dL_isSystem_128 ?_
                  refine wq_iadd (pc := 129) dL_isSystem_129 ?_
                  refine wq_istore (pc := 130) (L' := [(11, _), (0, _), (1, _), (2, _), (3, _), (4, _), (5, _), (6, _), (7, _), (8, _), (9, _), (10, _), (12, _)]) dL_isSystem_130 rfl (by decide) ?_
                  refine wq_iinc (pc := 132) (L' := [(12, _), (11, _), (0, _), (1, _), (2, _), (3, _), (4, _), (5, _), (6, _), (7, _), (8, _), (9, _), (10, _)]) dL_isSystem_132 rfl rfl (by decide) ?_
                  refine wq_goto (pc := 135) (tgt := 84) dL_isSystem_135 (by decide) ?_
                  refine wq_sub1 (L' := [(0, _), (1, _), (2, _), (3, _), (4, _), (5, _), (6, _), (7, _), (8, _), (9, _), (10, _), (11, _), (12, _)]) ⟨rfl, rfl, rfl, rfl, rfl, rfl, rfl, rfl, rfl, rfl, rfl, rfl, rfl, trivial⟩ ?_
                  first
                    | exact ih (k + 1) _ _ (by omega) (by omega) (by omega) (by rw [cR_s, pI_1 (show X 22 (4 * (k : Int)) = X 22 (4 * (kN : Int)) ∧ X 22 (4 * (k : Int) + 1) < X 22 (4 * (kN : Int) + 1) by omega)]; exact congrArg (· + 1) e1)
                    | exact ih (k + 1) _ _ (by omega) (by omega) (by omega) (by rw [cR_s, pI_0 (show ¬ (X 22 (4 * (k : Int)) = X 22 (4 * (kN : Int)) ∧ X 22 (4 * (k : Int) + 1) < X 22 (4 * (kN : Int) + 1)) by omega)]; exact congrArg (· + 0) e1)
                · skip
                  refine wq_aload_n (pc := 105) dL_isSystem_105 rfl rfl ?_
                  refine wq_iconst (pc := 106) dL_isSystem_106 ?_
                  refine wq_iload (pc := 107) dL_isSystem_107 rfl ?_
                  refine wq_imul (pc := 109) dL_isSystem_109 ?_
                  refine wq_iconst (pc := 110) dL_isSystem_110 ?_
                  refine wq_iadd (pc := 111) dL_isSystem_111 ?_
                  refine wq_ialdX (pc := 112) dL_isSystem_112 (by with_reducible assumption) rfl (by omega) (by omega) ?_
                  refine wq_aload_n (pc := 113) dL_isSystem_113 rfl rfl ?_
                  refine wq_iconst (pc := 114) dL_isSystem_114 ?_
                  refine wq_iload (pc := 115) dL_isSystem_115 rfl ?_
                  refine wq_imul (pc := 117) dL_isSystem_117 ?_
                  refine wq_iconst (pc := 118) dL_isSystem_118 ?_
                  refine wq_iadd (pc := 119) dL_isSystem_119 ?_
                  refine wq_ialdX (pc := 120) dL_isSystem_120 (by with_reducible assumption) rfl (by omega) (by omega) ?_
                  refine wq_icmp_ge (pc := 121) (tgt := 128) dL_isSystem_121 (by decide) (by first | (unfold inR; omega) | assumption | exact hr2 _ | exact hr3 _ | exact hr4 _) (by first | (unfold inR; omega) | assumption | exact hr2 _ | exact hr3 _ | exact hr4 _) (fun c55 => ?_) (fun c55 => ?_)
                  · skip
                    refine wq_iconst (pc := 128) dL_isSystem_128 ?_
                    refine wq_iadd (pc := 129) dL_isSystem_129 ?_
                    refine wq_istore (pc := 130) (L' := [(11, _), (0, _), (1, _), (2, _), (3, _), (4, _), (5, _), (6, _), (7, _), (8, _), (9, _), (10, _), (12, _)]) dL_isSystem_130 rfl (by decide) ?_
                    refine wq_iinc (pc := 132) (L' := [(12, _), (11, _), (0, _), (1, _), (2, _), (3, _), (4, _), (5, _), (6, _), (7, _), (8, _), (9, _), (10, _)]) dL_isSystem_132 rfl rfl (by decide) ?_
                    refine wq_goto (pc := 135) (tgt := 84) dL_isSystem_135 (by decide) ?_
                    refine wq_sub1 (L' := [(0, _), (1, _), (2, _), (3, _), (4, _), (5, _), (6, _), (7, _), (8, _), (9, _), (10, _), (11, _), (12, _)]) ⟨rfl, rfl, rfl, rfl, rfl, rfl, rfl, rfl, rfl, rfl, rfl, rfl, rfl, trivial⟩ ?_
                    first
                      | exact ih (k + 1) _ _ (by omega) (by omega) (by omega) (by rw [cR_s, pI_1 (show X 22 (4 * (k : Int)) = X 22 (4 * (kN : Int)) ∧ X 22 (4 * (k : Int) + 1) < X 22 (4 * (kN : Int) + 1) by omega)]; exact congrArg (· + 1) e1)
                      | exact ih (k + 1) _ _ (by omega) (by omega) (by omega) (by rw [cR_s, pI_0 (show ¬ (X 22 (4 * (k : Int)) = X 22 (4 * (kN : Int)) ∧ X 22 (4 * (k : Int) + 1) < X 22 (4 * (kN : Int) + 1)) by omega)]; exact congrArg (· + 0) e1)
                  · skip
                    refine wq_iconst (pc := 124) dL_isSystem_124 ?_
                    refine wq_goto (pc := 125) (tgt := 129) dL_isSystem_125 (by decide) ?_
                    refine wq_iadd (pc := 129) dL_isSystem_129 ?_
                    refine wq_istore (pc := 130) (L' := [(11, _), (0, _), (1, _), (2, _), (3, _), (4, _), (5, _), (6, _), (7, _), (8, _), (9, _), (10, _), (12, _)]) dL_isSystem_130 rfl (by decide) ?_
                    refine wq_iinc (pc := 132) (L' := [(12, _), (11, _), (0, _), (1, _), (2, _), (3, _), (4, _), (5, _), (6, _), (7, _), (8, _), (9, _), (10, _)]) dL_isSystem_132 rfl rfl (by decide) ?_
                    refine wq_goto (pc := 135) (tgt := 84) dL_isSystem_135 (by decide) ?_
                    refine wq_sub1 (L' := [(0, _), (1, _), (2, _), (3, _), (4, _), (5, _), (6, _), (7, _), (8, _), (9, _), (10, _), (11, _), (12, _)]) ⟨rfl, rfl, rfl, rfl, rfl, rfl, rfl, rfl, rfl, rfl, rfl, rfl, rfl, trivial⟩ ?_
                    first
                      | exact ih (k + 1) _ _ (by omega) (by omega) (by omega) (by rw [cR_s, pI_1 (show X 22 (4 * (k : Int)) = X 22 (4 * (kN : Int)) ∧ X 22 (4 * (k : Int) + 1) < X 22 (4 * (kN : Int) + 1) by omega)]; exact congrArg (· + 1) e1)
                      | exact ih (k + 1) _ _ (by omega) (by omega) (by omega) (by rw [cR_s, pI_0 (show ¬ (X 22 (4 * (k : Int)) = X 22 (4 * (kN : Int)) ∧ X 22 (4 * (k : Int) + 1) < X 22 (4 * (kN : Int) + 1)) by omega)]; exact congrArg (· + 0) e1)
          refine wq_sub1 (L' := [(0, _), (1, _), (2, _), (3, _), (4, _), (5, _), (6, _), (7, _), (8, _), (9, _), (10, _), (11, _), (12, _)]) ⟨rfl, rfl, rfl, rfl, rfl, rfl, rfl, rfl, rfl, rfl, rfl, rfl, rfl, trivial⟩ ?_
          exact loop33 ((X 21 0).toNat + 1) 0 _ _ (by omega) (by omega) rfl rfl
    refine wq_sub1 (L' := [(0, _), (1, _), (2, _), (3, _), (4, _), (5, _), (6, _), (7, _), (8, _)]) ⟨rfl, rfl, rfl, rfl, rfl, rfl, rfl, rfl, rfl, trivial⟩ ?_
    exact loop9 ((X 21 0).toNat + 1) 0 _ _ _ (by omega) (by omega) rfl (Wd_t W (by omega))
