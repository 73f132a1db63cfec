theorem lw_tail {μ : nMem} {ε : nEnv} {Q : nOut → nMem → nEnv → Prop} {N : Int} {A : AS} {nb vb : Int} {t : Nat} {X : nMem} {turn y w : Int} (hS : ST N A nb vb (t + 1000) X μ ε w) (hnb : nb + 1 ≤ 2000) (hvb : vb + 2 ≤ 4000) (hvb0 : 0 ≤ vb) (hn2 : 2 ≤ nb) (hy : 0 ≤ y ∧ y ≤ 2147483647) (ht : 0 ≤ turn ∧ turn < 120) (H : ∀ A1 m e, ST N A1 nb vb t X m e 0 → wpL 53 [(0, vR (-1)), (1, vR 1), (2, vR 21), (3, vR 22), (4, vR 23), (5, vR 24), (6, vR 25), (7, vI 1), (8, vI (turn + 1))] [] m e Q) : wpL 2040 [(0, vR (-1)), (1, vR 1), (2, vR 21), (3, vR 22), (4, vR 23), (5, vR 24), (6, vR 25), (7, vI 1), (8, vI turn), (11, vI y), (22, vI w)] [] μ ε Q := by
  have hw01 : w = 0 ∨ w = 1 := by
    rcases hS.2.2.2.1 with z | z
    · exact Or.inl z.1
    · exact Or.inr z.1
  have cut1 : ∀ (A1 : AS) (m : nMem) (e : nEnv), (ST N A1 nb vb (t + 950) X m e 0) → wpL 2058 [(0, vR (-1)), (1, vR 1), (2, vR 21), (3, vR 22), (4, vR 23), (5, vR 24), (6, vR 25), (7, vI 1), (8, vI turn), (11, vI y)] [] m e Q := by
    intro A1 m e e0
    obtain ⟨⟨-, hG0, -⟩, ⟨hD0, -⟩, -⟩ := ST_0 e0
    have W := e0.1
    refine wq_iload (pc := 2058) dL_law_2058 rfl ?_
    refine wq_if_eq (pc := 2060) (tgt := 2099) dL_law_2060 (by decide) (by first | (unfold inR; omega) | assumption | exact hr2 _ | exact hr3 _ | exact hr4 _) (fun c => absurd c (by decide)) (fun _ => ?_)
    refine wq_aload_n (pc := 2063) dL_law_2063 rfl rfl ?_
    refine lVK_0 (pc := 2064) dL_law_2064 (Wd_s (by with_reducible assumption)) (cw_L_72 _ rfl) (by decide) rfl ⟨by decide, by decide⟩ (Nat.le_of_ble_eq_true rfl) (qs_isDark0 (t := t + 945) (Wd_t e0.1 (by omega)) (by omega) (by omega) hD0 (fun mm ee W => ?_))
    show wpL 2067 _ _ _ _ _
    refine wq_if_ne (pc := 2067) (tgt := 2099) dL_law_2067 (by decide) (by first | (unfold inR; omega) | assumption | exact hr2 _ | exact hr3 _ | exact hr4 _) (fun c => absurd c (by decide)) (fun _ => ?_)
    refine wq_iload (pc := 2070) dL_law_2070 rfl ?_
    refine wq_iconst (pc := 2072) dL_law_2072 ?_
    refine wq_irem (pc := 2073) dL_law_2073 (by omega) (by omega) ?_
    refine wq_iconst (pc := 2074) dL_law_2074 ?_
    refine wq_icmp_lt (pc := 2075) (tgt := 2095) dL_law_2075 (by decide) (by first | (unfold inR; omega) | assumption | exact hr2 _ | exact hr3 _ | exact hr4 _) (by first | (unfold inR; omega) | assumption | exact hr2 _ | exact hr3 _ | exact hr4 _) (fun c5 => ?_) (fun c5 => ?_)
    · skip
      refine wq_iconst (pc := 2095) dL_law_2095 ?_
      refine wq_goto (pc := 2096) (tgt := 2100) dL_law_2096 (by decide) ?_
      refine wq_istore (pc := 2100) (L' := [(7, _), (0, _), (1, _), (2, _), (3, _), (4, _), (5, _), (6, _), (8, _), (11, _)]) dL_law_2100 rfl (by decide) ?_
      refine wq_iinc (pc := 2102) (L' := [(8, _), (7, _), (0, _), (1, _), (2, _), (3, _), (4, _), (5, _), (6, _), (11, _)]) dL_law_2102 rfl rfl (by decide) ?_
      refine wq_goto (pc := 2105) (tgt := 53) dL_law_2105 (by decide) ?_
      refine wq_sub1 (L' := [(0, _), (1, _), (2, _), (3, _), (4, _), (5, _), (6, _), (7, _), (8, _)]) ⟨rfl, rfl, rfl, rfl, rfl, rfl, rfl, rfl, rfl, trivial⟩ ?_
      exact H _ _ _ ⟨Wd_t W (by omega), e0.2⟩
    · skip
      refine wq_aload_n (pc := 2078) dL_law_2078 rfl rfl ?_
      refine wq_aload_n (pc := 2079) dL_law_2079 rfl rfl ?_
      refine wq_aload_n (pc := 2080) dL_law_2080 rfl rfl ?_
      refine wq_aload (pc := 2081) dL_law_2081 rfl ?_
      refine wq_aload (pc := 2083) dL_law_2083 rfl ?_
      refine wq_aload (pc := 2085) dL_law_2085 rfl ?_
      refine wq_iload (pc := 2087) dL_law_2087 rfl ?_
      refine lS_7 (pc := 2089) dL_law_2089 (cw_L_110 _ rfl) ⟨by decide, by decide⟩ (Nat.le_of_ble_eq_true rfl) (sp_L_isSystem (t := t + 40) (Wd_t W (by omega)) hG0 hD0 (by omega) (by omega) hy (fun mm ee W => ?_))
      show wpL 2092 _ _ _ _ _
      refine wq_if_eq (pc := 2092) (tgt := 2099) dL_law_2092 (by decide) (by first | (unfold inR; omega) | assumption | exact hr2 _ | exact hr3 _ | exact hr4 _) (fun c => absurd c (by decide)) (fun _ => ?_)
      refine wq_iconst (pc := 2095) dL_law_2095 ?_
      refine wq_goto (pc := 2096) (tgt := 2100) dL_law_2096 (by decide) ?_
      refine wq_istore (pc := 2100) (L' := [(7, _), (0, _), (1, _), (2, _), (3, _), (4, _), (5, _), (6, _), (8, _), (11, _)]) dL_law_2100 rfl (by decide) ?_
      refine wq_iinc (pc := 2102) (L' := [(8, _), (7, _), (0, _), (1, _), (2, _), (3, _), (4, _), (5, _), (6, _), (11, _)]) dL_law_2102 rfl rfl (by decide) ?_
      refine wq_goto (pc := 2105) (tgt := 53) dL_law_2105 (by decide) ?_
      refine wq_sub1 (L' := [(0, _), (1, _), (2, _), (3, _), (4, _), (5, _), (6, _), (7, _), (8, _)]) ⟨rfl, rfl, rfl, rfl, rfl, rfl, rfl, rfl, rfl, trivial⟩ ?_
      exact H _ _ _ ⟨Wd_t W (by omega), e0.2⟩
  refine wq_iload (pc := 2040) dL_law_2040 rfl ?_
  refine wq_if_eq (pc := 2042) (tgt := 2058) dL_law_2042 (by decide) (by first | (unfold inR; omega) | assumption | exact hr2 _ | exact hr3 _ | exact hr4 _) (fun c => absurd c (by decide)) (fun _ => ?_)
  refine wq_iload (pc := 2045) dL_law_2045 rfl ?_
  refine wq_if_eq (pc := 2047) (tgt := 2058) dL_law_2047 (by decide) (by first | (unfold inR; omega) | assumption | exact hr2 _ | exact hr3 _ | exact hr4 _) (fun c9 => ?_) (fun c9 => ?_)
  · skip
    obtain rfl : w = 0 := by omega
    have hS9 := ST_t (s := t + 950) hS (by omega) (Int.le_refl _) (Int.le_refl _) (by omega)
    refine wq_sub1 (L' := [(0, _), (1, _), (2, _), (3, _), (4, _), (5, _), (6, _), (7, _), (8, _), (11, _)]) ⟨rfl, rfl, rfl, rfl, rfl, rfl, rfl, rfl, rfl, rfl, trivial⟩ ?_
    exact cut1 _ _ _ hS9
  · skip
    have hq := (hS.2.2.2.1.resolve_left (fun z => by have := z.1; omega)).2
    refine wq_aload_n (pc := 2050) dL_law_2050 rfl rfl ?_
    refine wq_iload (pc := 2051) dL_law_2051 rfl ?_
    refine lS_2 (pc := 2053) dL_law_2053 (cw_L_142 _ rfl) ⟨by decide, by decide⟩ (Nat.le_of_ble_eq_true rfl) (sp_L_isMounted (t := t + 950) (Wd_t hS.1 (by omega)) hq.1 hq.2 hS.2.2.1.1 hS.2.2.1.2 (by omega) (by omega) hvb0 hn2 hy (fun A1 mm ee W hD1 hE1 hV1 => ?_))
    show wpL 2056 _ _ _ _ _
    have hS9 := (⟨W, ⟨JA_EQ hS.2.1.1 hE1, hS.2.1.2⟩, ⟨hV1.1, ZI_BI hV1.2⟩, Or.inl ⟨rfl, hD1, hV1.2⟩, hS.2.2.2.2⟩ : ST N A1 nb vb (t + 950) X mm ee 0)
    refine wq_istore (pc := 2056) (L' := [(7, _), (0, _), (1, _), (2, _), (3, _), (4, _), (5, _), (6, _), (8, _), (11, _), (22, _)]) dL_law_2056 rfl (by decide) ?_
    refine wq_sub1 (L' := [(0, _), (1, _), (2, _), (3, _), (4, _), (5, _), (6, _), (7, _), (8, _), (11, _)]) ⟨rfl, rfl, rfl, rfl, rfl, rfl, rfl, rfl, rfl, rfl, trivial⟩ ?_
    exact cut1 _ _ _ hS9
theorem lw_end {μ : nMem} {ε : nEnv} {Q : nOut → nMem → nEnv → Prop} {N : Int} {A : AS} {nb vb : Int} {t : Nat} {X : nMem} {turn : Int} (hS : ST N A nb vb (t + 900) X μ ε 0) (hnb : nb + 1 ≤ 2000) (hvb : vb + 2 ≤ 4000) (hq : ∀ m e, Q (.inl (some (vI 1))) m e) : wpL 2108 [(0, vR (-1)), (1, vR 1), (2, vR 21), (3, vR 22), (4, vR 23), (5, vR 24), (6, vR 25), (7, vI 1), (8, vI turn)] [] μ ε Q := by
  obtain ⟨⟨hW, hG0, -⟩, ⟨hD0, -⟩, -⟩ := ST_0 hS
  refine wq_iload (pc := 2108) dL_law_2108 rfl ?_
  refine wq_if_eq (pc := 2110) (tgt := 2133) dL_law_2110 (by decide) (by first | (unfold inR; omega) | assumption | exact hr2 _ | exact hr3 _ | exact hr4 _) (fun c => absurd c (by decide)) (fun _ => ?_)
  refine wq_aload_n (pc := 2113) dL_law_2113 rfl rfl ?_
  refine wq_aload_n (pc := 2114) dL_law_2114 rfl rfl ?_
  refine wq_aload_n (pc := 2115) dL_law_2115 rfl rfl ?_
  refine wq_aload (pc := 2116) dL_law_2116 rfl ?_
  refine wq_aload (pc := 2118) dL_law_2118 rfl ?_
  refine wq_aload (pc := 2120) dL_law_2120 rfl ?_
  refine wq_iconst (pc := 2122) dL_law_2122 ?_
  refine lS_7 (pc := 2123) dL_law_2123 (cw_L_110 _ rfl) ⟨by decide, by decide⟩ (Nat.le_of_ble_eq_true rfl) (sp_L_isSystem (t := t) hS.1 hG0 hD0 (by omega) (by omega) (by omega) (fun mm ee W => ?_))
  show wpL 2126 _ _ _ _ _
  refine wq_if_eq (pc := 2126) (tgt := 2133) dL_law_2126 (by decide) (by first | (unfold inR; omega) | assumption | exact hr2 _ | exact hr3 _ | exact hr4 _) (fun c => absurd c (by decide)) (fun _ => ?_)
  refine wq_iconst (pc := 2129) dL_law_2129 ?_
  refine wq_goto (pc := 2130) (tgt := 2134) dL_law_2130 (by decide) ?_
  exact wl_zret (pc := 2134) dL_law_2134 (Or.inr rfl) (hq _ _)
theorem lw_35 {μ : nMem} {ε : nEnv} {Q : nOut → nMem → nEnv → Prop} {N : Int} {A : AS} {nb vb : Int} {t : Nat} {X : nMem} (hS : ST N A nb vb (t + 900) X μ ε 0) (hnb : nb + 1 ≤ 2000) (hvb : vb + 2 ≤ 4000) (H : ∀ m e, ST N A nb vb t X m e 0 → wpL 53 [(0, vR (-1)), (1, vR 1), (2, vR 21), (3, vR 22), (4, vR 23), (5, vR 24), (6, vR 25), (7, vI 1), (8, vI 0)] [] m e Q) : wpL 35 [(0, vR (-1)), (1, vR 1), (2, vR 21), (3, vR 22), (4, vR 23), (5, vR 24), (6, vR 25)] [] μ ε Q := by
  obtain ⟨⟨hW, hG0, -⟩, ⟨hD0, -⟩, -⟩ := ST_0 hS
  refine wq_aload_n (pc := 35) dL_law_35 rfl rfl ?_
  refine wq_aload_n (pc := 36) dL_law_36 rfl rfl ?_
  refine wq_aload_n (pc := 37) dL_law_37 rfl rfl ?_
  refine wq_aload (pc := 38) dL_law_38 rfl ?_
  refine wq_aload (pc := 40) dL_law_40 rfl ?_
  refine wq_aload (pc := 42) dL_law_42 rfl ?_
  refine wq_iconst (pc := 44) dL_law_44 ?_
  refine lS_7 (pc := 45) dL_law_45 (cw_L_110 _ rfl) ⟨by decide, by decide⟩ (Nat.le_of_ble_eq_true rfl) (sp_L_isSystem (t := t) hS.1 hG0 hD0 (by omega) (by omega) (by omega) (fun mm ee W => ?_))
  show wpL 48 _ _ _ _ _
  refine wq_istore (pc := 48) (L' := [(7, _), (0, _), (1, _), (2, _), (3, _), (4, _), (5, _), (6, _)]) dL_law_48 rfl (by decide) ?_
  refine wq_iconst (pc := 50) dL_law_50 ?_
  refine wq_istore (pc := 51) (L' := [(8, _), (7, _), (0, _), (1, _), (2, _), (3, _), (4, _), (5, _), (6, _)]) dL_law_51 rfl (by decide) ?_
  refine wq_sub1 (L' := [(0, _), (1, _), (2, _), (3, _), (4, _), (5, _), (6, _), (7, _), (8, _)]) ⟨rfl, rfl, rfl, rfl, rfl, rfl, rfl, rfl, rfl, trivial⟩ ?_
  exact H _ _ ⟨W, hS.2⟩
theorem lw_53y {μ : nMem} {ε : nEnv} {Q : nOut → nMem → nEnv → Prop} {turn : Int} (ht : 0 ≤ turn ∧ turn < 120) (H : wpL 65 [(0, vR (-1)), (1, vR 1), (2, vR 21), (3, vR 22), (4, vR 23), (5, vR 24), (6, vR 25), (7, vI 1), (8, vI turn)] [] μ ε Q) : wpL 53 [(0, vR (-1)), (1, vR 1), (2, vR 21), (3, vR 22), (4, vR 23), (5, vR 24), (6, vR 25), (7, vI 1), (8, vI turn)] [] μ ε Q := by
  refine wq_iload (pc := 53) dL_law_53 rfl ?_
  refine wq_bipush (pc := 55) dL_law_55 (by decide) (by decide) ?_
  refine wq_icmp_ge (pc := 57) (tgt := 2108) dL_law_57 (by decide) (by first | (unfold inR; omega) | assumption | exact hr2 _ | exact hr3 _ | exact hr4 _) (by first | (unfold inR; omega) | assumption | exact hr2 _ | exact hr3 _ | exact hr4 _) (fun c9 => by exfalso; omega) (fun c1 => ?_)
  refine wq_iload (pc := 60) dL_law_60 rfl ?_
  refine wq_if_eq (pc := 62) (tgt := 2108) dL_law_62 (by decide) (by first | (unfold inR; omega) | assumption | exact hr2 _ | exact hr3 _ | exact hr4 _) (fun c => absurd c (by decide)) (fun _ => ?_)
  refine wq_sub1 (L' := [(0, _), (1, _), (2, _), (3, _), (4, _), (5, _), (6, _), (7, _), (8, _)]) ⟨rfl, rfl, rfl, rfl, rfl, rfl, rfl, rfl, rfl, trivial⟩ ?_
  exact H
theorem lw_53n {μ : nMem} {ε : nEnv} {Q : nOut → nMem → nEnv → Prop} {turn : Int} (ht : turn = 120) (H : wpL 2108 [(0, vR (-1)), (1, vR 1), (2, vR 21), (3, vR 22), (4, vR 23), (5, vR 24), (6, vR 25), (7, vI 1), (8, vI turn)] [] μ ε Q) : wpL 53 [(0, vR (-1)), (1, vR 1), (2, vR 21), (3, vR 22), (4, vR 23), (5, vR 24), (6, vR 25), (7, vI 1), (8, vI turn)] [] μ ε Q := by
  refine wq_iload (pc := 53) dL_law_53 rfl ?_
  refine wq_bipush (pc := 55) dL_law_55 (by decide) (by decide) ?_
  refine wq_icmp_ge (pc := 57) (tgt := 2108) dL_law_57 (by decide) (by first | (unfold inR; omega) | assumption | exact hr2 _ | exact hr3 _ | exact hr4 _) (by first | (unfold inR; omega) | assumption | exact hr2 _ | exact hr3 _ | exact hr4 _) (fun c1 => ?_) (fun c9 => by exfalso; omega)
  refine wq_sub1 (L' := [(0, _), (1, _), (2, _), (3, _), (4, _), (5, _), (6, _), (7, _), (8, _)]) ⟨rfl, rfl, rfl, rfl, rfl, rfl, rfl, rfl, rfl, trivial⟩ ?_
  exact H
/-- the law's loop -/
theorem lw_loop {N : Int} (hN : 0 ≤ N ∧ N ≤ 100000) : ∀ (n k : Nat) (A : AS) (X m : nMem) (e : nEnv) (turn : Int), turn = (k : Int) → k + n = 120 → ST N A (2 + (k : Int)) (2 * (k : Int)) (1200 * n + 2000) X m e 0 → wpL 53 [(0, vR (-1)), (1, vR 1), (2, vR 21), (3, vR 22), (4, vR 23), (5, vR 24), (6, vR 25), (7, vI 1), (8, vI turn)] [] m e Qlaw := by
  intro n
  induction n with
  | zero =>
    intro k A X m e turn hk hkn hS
    exact lw_53n (by omega) (lw_end (t := 1000) (ST_t hS (by omega) (Int.le_refl _) (Int.le_refl _) (by omega)) (by omega) (by omega) (fun _ _ => rfl))
  | succ n ih =>
    intro k A X m e turn hk hkn hS
    refine lw_53y (by omega) (lw_pre (t := 1200 * n + 3000) (ST_t hS (by omega) (Int.le_refl _) (Int.le_refl _) (by omega)) hN (by omega) (by omega) (by omega) (by omega) (by omega) (fun y A1 X1 m1 e1 w hy q => ?_))
    refine lw_tail (t := 1200 * n + 2000) q (by omega) (by omega) (by omega) (by omega) hy (by omega) (fun A2 m2 e2 q2 => ?_)
    exact ih (k + 1) A2 X1 m2 e2 (turn + 1) (by omega) (by omega) (ST_t q2 (Nat.le_refl _) (by omega) (by omega) (by omega))
