theorem lw_collect {μ : nMem} {ε : nEnv} {Q : nOut → nMem → nEnv → Prop} {N : Int} {A : AS} {nb vb : Int} {t : Nat} {X : nMem} {turn kd y d d2 nm nm2 f s b a fr : Int} (hS : ST N A nb vb (t + 10) X μ ε 0) (hnb : nb + 1 ≤ 490) (hvb : vb + 2 ≤ 4000) (hvb0 : 0 ≤ vb) (hn2 : 2 ≤ nb) (ry : 0 ≤ y ∧ y ≤ 2147483647) (ht : 0 ≤ turn ∧ turn < 120) (hF : LF A X d d2 nm nm2 f s b a fr) (H : ∀ A1 X1 m e w, ST N A1 (nb + 1) (vb + 2) t X1 m e w → wpL 2040 [(0, vR (-1)), (1, vR 1), (2, vR 21), (3, vR 22), (4, vR 23), (5, vR 24), (6, vR 25), (7, vI 1), (8, vI turn), (11, vI y), (22, vI w)] [] m e Q) (hvb2 : vb ≤ 300) : wpL 1906 [(0, vR (-1)), (1, vR 1), (2, vR 21), (3, vR 22), (4, vR 23), (5, vR 24), (6, vR 25), (7, vI 1), (8, vI turn), (10, vI kd), (11, vI y), (12, vI d), (13, vI d2), (14, vI nm), (15, vI nm2), (16, vI f), (17, vI s), (18, vI b), (19, vI a), (20, vI fr), (21, vI 0), (22, vI 0)] [] μ ε Q := by
  obtain ⟨⟨hW, hG, hX, hi⟩, ⟨hD, hJ, hV, hZ⟩, fl, SS, hP, hTS⟩ := ST_0 hS
  obtain ⟨f1, f2, f3, f4, f5, f6, f7, f8, f9⟩ := id hF
  obtain ⟨⟨⟨hn0, hn15⟩, ⟨hm0, hm8⟩, hr2, hr3, hr4⟩, hn14, hm7⟩ := id hX
  have hs9 := GA_slot hG f
  have ha9 := GA_find hG d nm
  rw [← f7] at hs9
  rw [← f8] at ha9
  have hfr9 := (frN_le A).2
  rw [← f9] at hfr9
  clear f7 f8 f9
  refine wq_iconst (pc := 1906) dL_law_1906 ?_
  refine wq_istore (pc := 1907) (L' := [(23, _), (0, _), (1, _), (2, _), (3, _), (4, _), (5, _), (6, _), (7, _), (8, _), (10, _), (11, _), (12, _), (13, _), (14, _), (15, _), (16, _), (17, _), (18, _), (19, _), (20, _), (21, _), (22, _)]) dL_law_1907 rfl (by decide) ?_
  refine wq_iconst (pc := 1909) dL_law_1909 ?_
  refine wq_istore (pc := 1910) (L' := [(24, _), (23, _), (0, _), (1, _), (2, _), (3, _), (4, _), (5, _), (6, _), (7, _), (8, _), (10, _), (11, _), (12, _), (13, _), (14, _), (15, _), (16, _), (17, _), (18, _), (19, _), (20, _), (21, _), (22, _)]) dL_law_1910 rfl (by decide) ?_
  have loop1 : ∀ (n k : Nat), ∀ (m : nMem) (e : nEnv) (c bb : Int), k ≤ 8 → 8 < k + n → bb = (k : Int) → Wd N A nb vb (t + 2 + (8 - k)) X m e → c = cR (fun b => b ∉ (aG A).2.1 ∧ b ≠ (aG A).1) k → wpL 1912 [(0, vR (-1)), (1, vR 1), (2, vR 21), (3, vR 22), (4, vR 23), (5, vR 24), (6, vR 25), (7, vI 1), (8, vI turn), (10, vI kd), (11, vI y), (12, vI d), (13, vI d2), (14, vI nm), (15, vI nm2), (16, vI f), (17, vI s), (18, vI b), (19, vI a), (20, vI fr), (21, vI 0), (22, vI 0), (23, vI c), (24, vI bb)] [] m e Q := by
    intro n
    induction n with
    | zero => intro k m e c bb hk1 hk2 e0 e1 e2; exact absurd hk2 (by omega)
    | succ n ih =>
      intro k m e c bb hk1 hk2 e0 e1 e2
      subst e0
      have W9 := e1
      have rk9 : inR (k : Int) := by unfold inR; omega
      have rc9 : inR c := by have := cR_b (fun b => b ∉ (aG A).2.1 ∧ b ≠ (aG A).1) k; unfold inR; omega
      refine wq_iload (pc := 1912) dL_law_1912 rfl ?_
      refine wq_bipush (pc := 1914) dL_law_1914 (by decide) (by decide) ?_
      refine wq_icmp_ge (pc := 1916) (tgt := 1945) dL_law_1916 (by decide) (by first | (unfold inR; omega) | assumption | exact hr2 _ | exact hr3 _ | exact hr4 _) (by first | (unfold inR; omega) | assumption | exact hr2 _ | exact hr3 _ | exact hr4 _) (fun c2 => ?_) (fun c2 => ?_)
      · skip
        have hk8 : k = 8 := by omega
        subst hk8
        have hS8 : ST N A nb vb (t + 1 + 1) X m e 0 := ⟨Wd_t e1 (by omega), hS.2⟩
        refine wq_aload_n (pc := 1945) dL_law_1945 rfl rfl ?_
        refine wq_iconst (pc := 1946) dL_law_1946 ?_
        refine wq_iload (pc := 1947) dL_law_1947 rfl ?_
        refine wq_sipush (pc := 1949) dL_law_1949 (by decide) (by decide) ?_
        refine wq_irem (pc := 1952) dL_law_1952 (by omega) (by omega) ?_
        refine wq_iconst (pc := 1953) dL_law_1953 ?_
        refine wq_iconst (pc := 1954) dL_law_1954 ?_
        refine cW_5 (pc := 1955) dL_law_1955 (cw_L_85 _ rfl) ⟨by decide, by decide⟩ (Nat.le_of_ble_eq_true rfl) (qc_collect hS8 (by omega) hvb hF (by omega) e2 (fun mm ee hE hr => ?_) (fun A1 mm ee hE hr => ?_) (fun A1 r mm ee hE hr hrb hin hdk => ?_))
        · skip
          show wpL 1958 _ _ _ _ _
          refine wq_istore (pc := 1958) (L' := [(21, _), (0, _), (1, _), (2, _), (3, _), (4, _), (5, _), (6, _), (7, _), (8, _), (10, _), (11, _), (12, _), (13, _), (14, _), (15, _), (16, _), (17, _), (18, _), (19, _), (20, _), (22, _), (23, _), (24, _)]) dL_law_1958 rfl (by decide) ?_
          refine wq_iload (pc := 1960) dL_law_1960 rfl ?_
          refine wq_bipush (pc := 1962) dL_law_1962 (by decide) (by decide) ?_
          refine wq_icmp_ne (pc := 1964) (tgt := 1971) dL_law_1964 (by decide) (by first | (unfold inR; omega) | assumption | exact hr2 _ | exact hr3 _ | exact hr4 _) (by first | (unfold inR; omega) | assumption | exact hr2 _ | exact hr3 _ | exact hr4 _) (fun _ => ?_) (fun c9 => by exfalso; omega)
          refine wq_iconst (pc := 1971) dL_law_1971 ?_
          refine wq_istore (pc := 1972) (L' := [(22, _), (21, _), (0, _), (1, _), (2, _), (3, _), (4, _), (5, _), (6, _), (7, _), (8, _), (10, _), (11, _), (12, _), (13, _), (14, _), (15, _), (16, _), (17, _), (18, _), (19, _), (20, _), (23, _), (24, _)]) dL_law_1972 rfl (by decide) ?_
          refine wq_iload (pc := 1974) dL_law_1974 rfl ?_
          refine wq_if_ne (pc := 1976) (tgt := 1994) dL_law_1976 (by decide) (by first | (unfold inR; omega) | assumption | exact hr2 _ | exact hr3 _ | exact hr4 _) (fun c7 => ?_) (fun c7 => ?_)
          · skip
            refine wq_iload (pc := 1994) dL_law_1994 rfl ?_
            refine wq_if_ne (pc := 1996) (tgt := 2033) dL_law_1996 (by decide) (by first | (unfold inR; omega) | assumption | exact hr2 _ | exact hr3 _ | exact hr4 _) (fun c => absurd c (by decide)) (fun _ => ?_)
            refine wq_iload (pc := 1999) dL_law_1999 rfl ?_
            refine wq_if_lt (pc := 2001) (tgt := 2020) dL_law_2001 (by decide) (by first | (unfold inR; omega) | assumption | exact hr2 _ | exact hr3 _ | exact hr4 _) (fun _ => ?_) (fun c => absurd c (by decide))
            refine wq_iload (pc := 2020) dL_law_2020 rfl ?_
            refine wq_bipush (pc := 2022) dL_law_2022 (by decide) (by decide) ?_
            refine wq_icmp_ne (pc := 2024) (tgt := 2037) dL_law_2024 (by decide) (by first | (unfold inR; omega) | assumption | exact hr2 _ | exact hr3 _ | exact hr4 _) (by first | (unfold inR; omega) | assumption | exact hr2 _ | exact hr3 _ | exact hr4 _) (fun c9 => by exfalso; omega) (fun _ => ?_)
            refine wq_iload (pc := 2027) dL_law_2027 rfl ?_
            refine wq_iconst (pc := 2029) dL_law_2029 ?_
            refine wq_icmp_ge (pc := 2030) (tgt := 2037) dL_law_2030 (by decide) (by first | (unfold inR; omega) | assumption | exact hr2 _ | exact hr3 _ | exact hr4 _) (by first | (unfold inR; omega) | assumption | exact hr2 _ | exact hr3 _ | exact hr4 _) (fun c9 => by exfalso; omega) (fun c11 => ?_)
            refine wq_iconst (pc := 2033) dL_law_2033 ?_
            refine wq_goto (pc := 2034) (tgt := 2038) dL_law_2034 (by decide) ?_
            refine wq_istore (pc := 2038) (L' := [(7, _), (22, _), (21, _), (0, _), (1, _), (2, _), (3, _), (4, _), (5, _), (6, _), (8, _), (10, _), (11, _), (12, _), (13, _), (14, _), (15, _), (16, _), (17, _), (18, _), (19, _), (20, _), (23, _), (24, _)]) dL_law_2038 rfl (by decide) ?_
            refine wq_sub1 (L' := [(0, _), (1, _), (2, _), (3, _), (4, _), (5, _), (6, _), (7, _), (8, _), (11, _), (22, _)]) ⟨rfl, rfl, rfl, rfl, rfl, rfl, rfl, rfl, rfl, rfl, rfl, trivial⟩ ?_
            exact H _ _ _ _ _ (ST_t hE (by omega) (by omega) (by omega) (by omega))
          · skip
            refine wq_iload (pc := 1979) dL_law_1979 rfl ?_
            refine wq_bipush (pc := 1981) dL_law_1981 (by decide) (by decide) ?_
            refine wq_icmp_ne (pc := 1983) (tgt := 1990) dL_law_1983 (by decide) (by first | (unfold inR; omega) | assumption | exact hr2 _ | exact hr3 _ | exact hr4 _) (by first | (unfold inR; omega) | assumption | exact hr2 _ | exact hr3 _ | exact hr4 _) (fun c9 => by exfalso; omega) (fun _ => ?_)
            refine wq_iconst (pc := 1986) dL_law_1986 ?_
            refine wq_goto (pc := 1987) (tgt := 2038) dL_law_1987 (by decide) ?_
            refine wq_istore (pc := 2038) (L' := [(7, _), (22, _), (21, _), (0, _), (1, _), (2, _), (3, _), (4, _), (5, _), (6, _), (8, _), (10, _), (11, _), (12, _), (13, _), (14, _), (15, _), (16, _), (17, _), (18, _), (19, _), (20, _), (23, _), (24, _)]) dL_law_2038 rfl (by decide) ?_
            refine wq_sub1 (L' := [(0, _), (1, _), (2, _), (3, _), (4, _), (5, _), (6, _), (7, _), (8, _), (11, _), (22, _)]) ⟨rfl, rfl, rfl, rfl, rfl, rfl, rfl, rfl, rfl, rfl, rfl, trivial⟩ ?_
            exact H _ _ _ _ _ (ST_t hE (by omega) (by omega) (by omega) (by omega))
        · skip
          show wpL 1958 _ _ _ _ _
          refine wq_istore (pc := 1958) (L' := [(21, _), (0, _), (1, _), (2, _), (3, _), (4, _), (5, _), (6, _), (7, _), (8, _), (10, _), (11, _), (12, _), (13, _), (14, _), (15, _), (16, _), (17, _), (18, _), (19, _), (20, _), (22, _), (23, _), (24, _)]) dL_law_1958 rfl (by decide) ?_
          refine wq_iload (pc := 1960) dL_law_1960 rfl ?_
          refine wq_bipush (pc := 1962) dL_law_1962 (by decide) (by decide) ?_
          refine wq_icmp_ne (pc := 1964) (tgt := 1971) dL_law_1964 (by decide) (by first | (unfold inR; omega) | assumption | exact hr2 _ | exact hr3 _ | exact hr4 _) (by first | (unfold inR; omega) | assumption | exact hr2 _ | exact hr3 _ | exact hr4 _) (fun c9 => by exfalso; omega) (fun _ => ?_)
          refine wq_iconst (pc := 1967) dL_law_1967 ?_
          refine wq_goto (pc := 1968) (tgt := 1972) dL_law_1968 (by decide) ?_
          refine wq_istore (pc := 1972) (L' := [(22, _), (21, _), (0, _), (1, _), (2, _), (3, _), (4, _), (5, _), (6, _), (7, _), (8, _), (10, _), (11, _), (12, _), (13, _), (14, _), (15, _), (16, _), (17, _), (18, _), (19, _), (20, _), (23, _), (24, _)]) dL_law_1972 rfl (by decide) ?_
          refine wq_iload (pc := 1974) dL_law_1974 rfl ?_
          refine wq_if_ne (pc := 1976) (tgt := 1994) dL_law_1976 (by decide) (by first | (unfold inR; omega) | assumption | exact hr2 _ | exact hr3 _ | exact hr4 _) (fun c14 => ?_) (fun c9 => by exfalso; omega)
          refine wq_iload (pc := 1994) dL_law_1994 rfl ?_
          refine wq_if_ne (pc := 1996) (tgt := 2033) dL_law_1996 (by decide) (by first | (unfold inR; omega) | assumption | exact hr2 _ | exact hr3 _ | exact hr4 _) (fun _ => ?_) (fun c => absurd c (by decide))
          refine wq_iconst (pc := 2033) dL_law_2033 ?_
          refine wq_goto (pc := 2034) (tgt := 2038) dL_law_2034 (by decide) ?_
          refine wq_istore (pc := 2038) (L' := [(7, _), (22, _), (21, _), (0, _), (1, _), (2, _), (3, _), (4, _), (5, _), (6, _), (8, _), (10, _), (11, _), (12, _), (13, _), (14, _), (15, _), (16, _), (17, _), (18, _), (19, _), (20, _), (23, _), (24, _)]) dL_law_2038 rfl (by decide) ?_
          refine wq_sub1 (L' := [(0, _), (1, _), (2, _), (3, _), (4, _), (5, _), (6, _), (7, _), (8, _), (11, _), (22, _)]) ⟨rfl, rfl, rfl, rfl, rfl, rfl, rfl, rfl, rfl, rfl, rfl, trivial⟩ ?_
          exact H _ _ _ _ _ (ST_t hE (by omega) (by omega) (by omega) (by omega))
        · skip
          show wpL 1958 _ _ _ _ _
          have WE := hE.1
          refine wq_istore (pc := 1958) (L' := [(21, _), (0, _), (1, _), (2, _), (3, _), (4, _), (5, _), (6, _), (7, _), (8, _), (10, _), (11, _), (12, _), (13, _), (14, _), (15, _), (16, _), (17, _), (18, _), (19, _), (20, _), (22, _), (23, _), (24, _)]) dL_law_1958 rfl (by decide) ?_
          refine wq_iload (pc := 1960) dL_law_1960 rfl ?_
          refine wq_bipush (pc := 1962) dL_law_1962 (by decide) (by decide) ?_
          refine wq_icmp_ne (pc := 1964) (tgt := 1971) dL_law_1964 (by decide) (by first | (unfold inR; omega) | assumption | exact hr2 _ | exact hr3 _ | exact hr4 _) (by first | (unfold inR; omega) | assumption | exact hr2 _ | exact hr3 _ | exact hr4 _) (fun c16 => ?_) (fun c9 => by exfalso; omega)
          refine wq_iconst (pc := 1971) dL_law_1971 ?_
          refine wq_istore (pc := 1972) (L' := [(22, _), (21, _), (0, _), (1, _), (2, _), (3, _), (4, _), (5, _), (6, _), (7, _), (8, _), (10, _), (11, _), (12, _), (13, _), (14, _), (15, _), (16, _), (17, _), (18, _), (19, _), (20, _), (23, _), (24, _)]) dL_law_1972 rfl (by decide) ?_
          refine wq_iload (pc := 1974) dL_law_1974 rfl ?_
          refine wq_if_ne (pc := 1976) (tgt := 1994) dL_law_1976 (by decide) (by first | (unfold inR; omega) | assumption | exact hr2 _ | exact hr3 _ | exact hr4 _) (fun c17 => ?_) (fun c9 => by exfalso; omega)
          refine wq_iload (pc := 1994) dL_law_1994 rfl ?_
          refine wq_if_ne (pc := 1996) (tgt := 2033) dL_law_1996 (by decide) (by first | (unfold inR; omega) | assumption | exact hr2 _ | exact hr3 _ | exact hr4 _) (fun c => absurd c (by decide)) (fun _ => ?_)
          refine wq_iload (pc := 1999) dL_law_1999 rfl ?_
          refine wq_if_lt (pc := 2001) (tgt := 2020) dL_law_2001 (by decide) (by first | (unfold inR; omega) | assumption | exact hr2 _ | exact hr3 _ | exact hr4 _) (fun c9 => by exfalso; omega) (fun c19 => ?_)
          refine wq_iload (pc := 2004) dL_law_2004 rfl ?_
          refine wq_bipush (pc := 2006) dL_law_2006 (by decide) (by decide) ?_
          refine wq_icmp_ge (pc := 2008) (tgt := 2020) dL_law_2008 (by decide) (by first | (unfold inR; omega) | assumption | exact hr2 _ | exact hr3 _ | exact hr4 _) (by first | (unfold inR; omega) | assumption | exact hr2 _ | exact hr3 _ | exact hr4 _) (fun c9 => by exfalso; omega) (fun c20 => ?_)
          refine wq_aload_n (pc := 2011) dL_law_2011 rfl rfl ?_
          refine wq_iload (pc := 2012) dL_law_2012 rfl ?_
          refine lVK_1 (pc := 2014) dL_law_2014 (Wd_s (by with_reducible assumption)) (cw_L_69 _ rfl) (by decide) rfl ⟨by decide, by decide⟩ (Nat.le_of_ble_eq_true rfl) (qs_state hE.1 (by omega) (by omega) hdk hrb (fun mm ee st W hs1 hs2 hs3 => ?_))
          show wpL 2017 _ _ _ _ _
          have hst : st = 0 := hs2.mpr hin
          have hE := (⟨W, hE.2⟩ : ST N A1 (nb + 1) (vb + 2) t X mm ee 0)
          refine wq_if_eq (pc := 2017) (tgt := 2033) dL_law_2017 (by decide) (by first | (unfold inR; omega) | assumption | exact hr2 _ | exact hr3 _ | exact hr4 _) (fun c22 => ?_) (fun c9 => by exfalso; omega)
          refine wq_iconst (pc := 2033) dL_law_2033 ?_
          refine wq_goto (pc := 2034) (tgt := 2038) dL_law_2034 (by decide) ?_
          refine wq_istore (pc := 2038) (L' := [(7, _), (22, _), (21, _), (0, _), (1, _), (2, _), (3, _), (4, _), (5, _), (6, _), (8, _), (10, _), (11, _), (12, _), (13, _), (14, _), (15, _), (16, _), (17, _), (18, _), (19, _), (20, _), (23, _), (24, _)]) dL_law_2038 rfl (by decide) ?_
          refine wq_sub1 (L' := [(0, _), (1, _), (2, _), (3, _), (4, _), (5, _), (6, _), (7, _), (8, _), (11, _), (22, _)]) ⟨rfl, rfl, rfl, rfl, rfl, rfl, rfl, rfl, rfl, rfl, rfl, trivial⟩ ?_
          exact H _ _ _ _ _ (ST_t hE (by omega) (by omega) (by omega) (by omega))
      · skip
        obtain ⟨T9, hT9⟩ : ∃ T9, T9 = t + 2 + (7 - k) := ⟨_, rfl⟩
        have W0 : Wd N A nb vb (T9 + 1) X m e := Wd_t e1 (by omega)
        clear e1 W9
        refine wq_iload (pc := 1919) dL_law_1919 rfl ?_
        refine wq_aload_n (pc := 1921) dL_law_1921 rfl rfl ?_
        refine wq_iload (pc := 1922) dL_law_1922 rfl ?_
        refine lVK_1 (pc := 1924) dL_law_1924 (Wd_s (by with_reducible assumption)) (cw_L_69 _ rfl) (by decide) rfl ⟨by decide, by decide⟩ (Nat.le_of_ble_eq_true rfl) (qs_state W0 (by omega) hvb hG.1.1 (by omega) (fun mm ee st W hs1 hs2 hs3 => ?_))
        show wpL 1927 _ _ _ _ _
        have rst : inR st := by unfold inR; omega
        refine wq_iconst (pc := 1927) dL_law_1927 ?_
        refine wq_icmp_le (pc := 1928) (tgt := 1935) dL_law_1928 (by decide) (by first | (unfold inR; omega) | assumption | exact hr2 _ | exact hr3 _ | exact hr4 _) (by first | (unfold inR; omega) | assumption | exact hr2 _ | exact hr3 _ | exact hr4 _) (fun c24 => ?_) (fun c24 => ?_)
        · skip
          refine wq_iconst (pc := 1935) dL_law_1935 ?_
          refine wq_iadd (pc := 1936) dL_law_1936 ?_
          refine wq_istore (pc := 1937) (L' := [(23, _), (0, _), (1, _), (2, _), (3, _), (4, _), (5, _), (6, _), (7, _), (8, _), (10, _), (11, _), (12, _), (13, _), (14, _), (15, _), (16, _), (17, _), (18, _), (19, _), (20, _), (21, _), (22, _), (24, _)]) dL_law_1937 rfl (by decide) ?_
          refine wq_iinc (pc := 1939) (L' := [(24, _), (23, _), (0, _), (1, _), (2, _), (3, _), (4, _), (5, _), (6, _), (7, _), (8, _), (10, _), (11, _), (12, _), (13, _), (14, _), (15, _), (16, _), (17, _), (18, _), (19, _), (20, _), (21, _), (22, _)]) dL_law_1939 rfl rfl (by decide) ?_
          refine wq_goto (pc := 1942) (tgt := 1912) dL_law_1942 (by decide) ?_
          refine wq_sub1 (L' := [(0, _), (1, _), (2, _), (3, _), (4, _), (5, _), (6, _), (7, _), (8, _), (10, _), (11, _), (12, _), (13, _), (14, _), (15, _), (16, _), (17, _), (18, _), (19, _), (20, _), (21, _), (22, _), (23, _), (24, _)]) ⟨rfl, rfl, rfl, rfl, rfl, rfl, rfl, rfl, rfl, rfl, rfl, rfl, rfl, rfl, rfl, rfl, rfl, rfl, rfl, rfl, rfl, rfl, rfl, rfl, trivial⟩ ?_
          first
            | exact ih (k + 1) _ _ _ _ (by omega) (by omega) (by omega) (Wd_t W (by omega)) (by rw [cR_s, pI_1 (hs3.mp (by omega))]; exact congrArg (· + 1) e2)
            | exact ih (k + 1) _ _ _ _ (by omega) (by omega) (by omega) (Wd_t W (by omega)) (by rw [cR_s, pI_0 (fun z => absurd (hs3.mpr z) (by omega))]; exact congrArg (· + 0) e2)
        · skip
          refine wq_iconst (pc := 1931) dL_law_1931 ?_
          refine wq_goto (pc := 1932) (tgt := 1936) dL_law_1932 (by decide) ?_
          refine wq_iadd (pc := 1936) dL_law_1936 ?_
          refine wq_istore (pc := 1937) (L' := [(23, _), (0, _), (1, _), (2, _), (3, _), (4, _), (5, _), (6, _), (7, _), (8, _), (10, _), (11, _), (12, _), (13, _), (14, _), (15, _), (16, _), (17, _), (18, _), (19, _), (20, _), (21, _), (22, _), (24, _)]) dL_law_1937 rfl (by decide) ?_
          refine wq_iinc (pc := 1939) (L' := [(24, _), (23, _), (0, _), (1, _), (2, _), (3, _), (4, _), (5, _), (6, _), (7, _), (8, _), (10, _), (11, _), (12, _), (13, _), (14, _), (15, _), (16, _), (17, _), (18, _), (19, _), (20, _), (21, _), (22, _)]) dL_law_1939 rfl rfl (by decide) ?_
          refine wq_goto (pc := 1942) (tgt := 1912) dL_law_1942 (by decide) ?_
          refine wq_sub1 (L' := [(0, _), (1, _), (2, _), (3, _), (4, _), (5, _), (6, _), (7, _), (8, _), (10, _), (11, _), (12, _), (13, _), (14, _), (15, _), (16, _), (17, _), (18, _), (19, _), (20, _), (21, _), (22, _), (23, _), (24, _)]) ⟨rfl, rfl, rfl, rfl, rfl, rfl, rfl, rfl, rfl, rfl, rfl, rfl, rfl, rfl, rfl, rfl, rfl, rfl, rfl, rfl, rfl, rfl, rfl, rfl, trivial⟩ ?_
          first
            | exact ih (k + 1) _ _ _ _ (by omega) (by omega) (by omega) (Wd_t W (by omega)) (by rw [cR_s, pI_1 (hs3.mp (by omega))]; exact congrArg (· + 1) e2)
            | exact ih (k + 1) _ _ _ _ (by omega) (by omega) (by omega) (Wd_t W (by omega)) (by rw [cR_s, pI_0 (fun z => absurd (hs3.mpr z) (by omega))]; exact congrArg (· + 0) e2)
  refine wq_sub1 (L' := [(0, _), (1, _), (2, _), (3, _), (4, _), (5, _), (6, _), (7, _), (8, _), (10, _), (11, _), (12, _), (13, _), (14, _), (15, _), (16, _), (17, _), (18, _), (19, _), (20, _), (21, _), (22, _), (23, _), (24, _)]) ⟨rfl, rfl, rfl, rfl, rfl, rfl, rfl, rfl, rfl, rfl, rfl, rfl, rfl, rfl, rfl, rfl, rfl, rfl, rfl, rfl, rfl, rfl, rfl, rfl, trivial⟩ ?_
  exact loop1 9 0 _ _ _ _ (by omega) (by omega) (by omega) (Wd_t hW (by omega)) rfl
theorem lw_cut {μ : nMem} {ε : nEnv} {Q : nOut → nMem → nEnv → Prop} {N : Int} {A : AS} {nb vb : Int} {t : Nat} {X : nMem} {turn kd y d d2 nm nm2 f s b a fr : Int} (hS : ST N A nb vb (t + 2) X μ ε 0) (hnb : nb + 1 ≤ 490) (hvb : vb + 2 ≤ 4000) (hvb0 : 0 ≤ vb) (hn2 : 2 ≤ nb) (ry : 0 ≤ y ∧ y ≤ 2147483647) (ht : 0 ≤ turn ∧ turn < 120) (hF : LF A X d d2 nm nm2 f s b a fr) (H : ∀ A1 X1 m e w, ST N A1 (nb + 1) (vb + 2) t X1 m e w → wpL 2040 [(0, vR (-1)), (1, vR 1), (2, vR 21), (3, vR 22), (4, vR 23), (5, vR 24), (6, vR 25), (7, vI 1), (8, vI turn), (11, vI y), (22, vI w)] [] m e Q)  : wpL 361 [(0, vR (-1)), (1, vR 1), (2, vR 21), (3, vR 22), (4, vR 23), (5, vR 24), (6, vR 25), (7, vI 1), (8, vI turn), (10, vI kd), (11, vI y), (12, vI d), (13, vI d2), (14, vI nm), (15, vI nm2), (16, vI f), (17, vI s), (18, vI b), (19, vI a), (20, vI fr), (21, vI 0), (22, vI 0)] [] μ ε Q := by
  obtain ⟨⟨hW, hG, hX, hi⟩, ⟨hD, hJ, hV, hZ⟩, fl, SS, hP, hTS⟩ := ST_0 hS
  obtain ⟨f1, f2, f3, f4, f5, f6, f7, f8, f9⟩ := id hF
  obtain ⟨⟨⟨hn0, hn15⟩, ⟨hm0, hm8⟩, hr2, hr3, hr4⟩, hn14, hm7⟩ := id hX
  have hs9 := GA_slot hG f
  have ha9 := GA_find hG d nm
  rw [← f7] at hs9
  rw [← f8] at ha9
  have hfr9 := (frN_le A).2
  rw [← f9] at hfr9
  clear f7 f8 f9
  have cut1 : ∀ (u : Int), (-1 ≤ u ∧ u ≤ 29) → wpL 381 [(0, vR (-1)), (1, vR 1), (2, vR 21), (3, vR 22), (4, vR 23), (5, vR 24), (6, vR 25), (7, vI 1), (8, vI turn), (10, vI kd), (11, vI y), (12, vI d), (13, vI d2), (14, vI nm), (15, vI nm2), (16, vI f), (17, vI s), (18, vI b), (19, vI a), (20, vI fr), (21, vI 0), (22, vI 0), (23, vI u)] [] μ ε Q := by
    intro u e0
    refine wq_aload_n (pc := 381) dL_law_381 rfl rfl ?_
    refine wq_iload (pc := 382) dL_law_382 rfl ?_
    refine lVK_1 (pc := 384) dL_law_384 (Wd_s (by with_reducible assumption)) (cw_L_102 _ rfl) (by decide) rfl ⟨by decide, by decide⟩ (Nat.le_of_ble_eq_true rfl) (qs_cut hW (by omega) hvb (by omega) (fun A1 mm ee hc W => ?_))
    show wpL 387 _ _ _ _ _
    have hl := (MC_IB hW.1).1.2.2.2.1
    have rl : inR (fL (aF A)) := by unfold inR; omega
    refine wq_iconst (pc := 387) dL_law_387 ?_
    refine wq_icmp_lt (pc := 388) (tgt := 406) dL_law_388 (by decide) (by first | (unfold inR; omega) | assumption | exact hr2 _ | exact hr3 _ | exact hr4 _) (by first | (unfold inR; omega) | assumption | exact hr2 _ | exact hr3 _ | exact hr4 _) (fun c9 => by exfalso; omega) (fun c3 => ?_)
    refine wq_aload_n (pc := 391) dL_law_391 rfl rfl ?_
    refine wq_iload (pc := 392) dL_law_392 rfl ?_
    refine lVK_1 (pc := 394) dL_law_394 (Wd_s (by with_reducible assumption)) (cw_L_102 _ rfl) (by decide) rfl ⟨by decide, by decide⟩ (Nat.le_of_ble_eq_true rfl) (qs_cut W (by omega) hvb (by omega) (fun A2 mm ee hc2 W2 => ?_))
    show wpL 397 _ _ _ _ _
    obtain ⟨v1, v2, v3, v4, v5, v6⟩ := id hc
    obtain ⟨u1, u2, u3, u4, u5, u6⟩ := id hc2
    have hB := ZI_BI hZ
    have hE : ST N A2 nb vb t X mm ee 0 := ⟨W2, ⟨JA_EQ hJ (EQ_trans v3 u3), hX⟩, ⟨u4 (v4 hV), u5 (v5 hB)⟩, Or.inl ⟨rfl, by omega, u6 (v6 hZ)⟩, hi⟩
    refine wq_iload (pc := 397) dL_law_397 rfl ?_
    refine wq_icmp_ne (pc := 399) (tgt := 406) dL_law_399 (by decide) (by rw [v1]; unfold inR; omega) (by unfold inR; omega) (fun c9 => by exfalso; omega) (fun c5 => ?_)
    refine wq_iconst (pc := 402) dL_law_402 ?_
    refine wq_goto (pc := 403) (tgt := 407) dL_law_403 (by decide) ?_
    refine wq_istore (pc := 407) (L' := [(7, _), (0, _), (1, _), (2, _), (3, _), (4, _), (5, _), (6, _), (8, _), (10, _), (11, _), (12, _), (13, _), (14, _), (15, _), (16, _), (17, _), (18, _), (19, _), (20, _), (21, _), (22, _), (23, _)]) dL_law_407 rfl (by decide) ?_
    refine wq_goto (pc := 409) (tgt := 2040) dL_law_409 (by decide) ?_
    refine wq_sub1 (L' := [(0, _), (1, _), (2, _), (3, _), (4, _), (5, _), (6, _), (7, _), (8, _), (11, _), (22, _)]) ⟨rfl, rfl, rfl, rfl, rfl, rfl, rfl, rfl, rfl, rfl, rfl, trivial⟩ ?_
    exact H _ _ _ _ _ (ST_t hE (by omega) (by omega) (by omega) (by omega))
  refine wq_iload (pc := 361) dL_law_361 rfl ?_
  refine wq_iconst (pc := 363) dL_law_363 ?_
  refine wq_irem (pc := 364) dL_law_364 (by omega) (by omega) ?_
  refine wq_if_ne (pc := 365) (tgt := 372) dL_law_365 (by decide) (by first | (unfold inR; omega) | assumption | exact hr2 _ | exact hr3 _ | exact hr4 _) (fun c6 => ?_) (fun c6 => ?_)
  · skip
    refine wq_iload (pc := 372) dL_law_372 rfl ?_
    refine wq_iconst (pc := 374) dL_law_374 ?_
    refine wq_idiv (pc := 375) dL_law_375 (by omega) (by omega) ?_
    refine wq_bipush (pc := 376) dL_law_376 (by decide) (by decide) ?_
    refine wq_irem (pc := 378) dL_law_378 (by omega) (by omega) ?_
    refine wq_istore (pc := 379) (L' := [(23, _), (0, _), (1, _), (2, _), (3, _), (4, _), (5, _), (6, _), (7, _), (8, _), (10, _), (11, _), (12, _), (13, _), (14, _), (15, _), (16, _), (17, _), (18, _), (19, _), (20, _), (21, _), (22, _)]) dL_law_379 rfl (by decide) ?_
    refine wq_sub1 (L' := [(0, _), (1, _), (2, _), (3, _), (4, _), (5, _), (6, _), (7, _), (8, _), (10, _), (11, _), (12, _), (13, _), (14, _), (15, _), (16, _), (17, _), (18, _), (19, _), (20, _), (21, _), (22, _), (23, _)]) ⟨rfl, rfl, rfl, rfl, rfl, rfl, rfl, rfl, rfl, rfl, rfl, rfl, rfl, rfl, rfl, rfl, rfl, rfl, rfl, rfl, rfl, rfl, rfl, trivial⟩ ?_
    exact cut1 _ (by omega)
  · skip
    refine wq_iconst (pc := 368) dL_law_368 ?_
    refine wq_goto (pc := 369) (tgt := 379) dL_law_369 (by decide) ?_
    refine wq_istore (pc := 379) (L' := [(23, _), (0, _), (1, _), (2, _), (3, _), (4, _), (5, _), (6, _), (7, _), (8, _), (10, _), (11, _), (12, _), (13, _), (14, _), (15, _), (16, _), (17, _), (18, _), (19, _), (20, _), (21, _), (22, _)]) dL_law_379 rfl (by decide) ?_
    refine wq_sub1 (L' := [(0, _), (1, _), (2, _), (3, _), (4, _), (5, _), (6, _), (7, _), (8, _), (10, _), (11, _), (12, _), (13, _), (14, _), (15, _), (16, _), (17, _), (18, _), (19, _), (20, _), (21, _), (22, _), (23, _)]) ⟨rfl, rfl, rfl, rfl, rfl, rfl, rfl, rfl, rfl, rfl, rfl, rfl, rfl, rfl, rfl, rfl, rfl, rfl, rfl, rfl, rfl, rfl, rfl, trivial⟩ ?_
    exact cut1 _ (by omega)
theorem lw_mount {μ : nMem} {ε : nEnv} {Q : nOut → nMem → nEnv → Prop} {N : Int} {A : AS} {nb vb : Int} {t : Nat} {X : nMem} {turn kd y d d2 nm nm2 f s b a fr : Int} (hS : ST N A nb vb (t + 1) X μ ε 0) (hnb : nb + 1 ≤ 490) (hvb : vb + 2 ≤ 4000) (hvb0 : 0 ≤ vb) (hn2 : 2 ≤ nb) (ry : 0 ≤ y ∧ y ≤ 2147483647) (ht : 0 ≤ turn ∧ turn < 120) (hF : LF A X d d2 nm nm2 f s b a fr) (H : ∀ A1 X1 m e w, ST N A1 (nb + 1) (vb + 2) t X1 m e w → wpL 2040 [(0, vR (-1)), (1, vR 1), (2, vR 21), (3, vR 22), (4, vR 23), (5, vR 24), (6, vR 25), (7, vI 1), (8, vI turn), (11, vI y), (22, vI w)] [] m e Q)  : wpL 419 [(0, vR (-1)), (1, vR 1), (2, vR 21), (3, vR 22), (4, vR 23), (5, vR 24), (6, vR 25), (7, vI 1), (8, vI turn), (10, vI kd), (11, vI y), (12, vI d), (13, vI d2), (14, vI nm), (15, vI nm2), (16, vI f), (17, vI s), (18, vI b), (19, vI a), (20, vI fr), (21, vI 0), (22, vI 0)] [] μ ε Q := by
  obtain ⟨⟨hW, hG, hX, hi⟩, ⟨hD, hJ, hV, hZ⟩, fl, SS, hP, hTS⟩ := ST_0 hS
  obtain ⟨f1, f2, f3, f4, f5, f6, f7, f8, f9⟩ := id hF
  obtain ⟨⟨⟨hn0, hn15⟩, ⟨hm0, hm8⟩, hr2, hr3, hr4⟩, hn14, hm7⟩ := id hX
  have hs9 := GA_slot hG f
  have ha9 := GA_find hG d nm
  rw [← f7] at hs9
  rw [← f8] at ha9
  have hfr9 := (frN_le A).2
  rw [← f9] at hfr9
  clear f7 f8 f9
  refine wq_aload_n (pc := 419) dL_law_419 rfl rfl ?_
  refine wq_iload (pc := 420) dL_law_420 rfl ?_
  refine wq_iconst (pc := 422) dL_law_422 ?_
  refine wq_irem (pc := 423) dL_law_423 (by omega) (by omega) ?_
  refine wq_if_ne (pc := 424) (tgt := 431) dL_law_424 (by decide) (by first | (unfold inR; omega) | assumption | exact hr2 _ | exact hr3 _ | exact hr4 _) (fun c1 => ?_) (fun c1 => ?_)
  · skip
    refine wq_iconst (pc := 431) dL_law_431 ?_
    refine lVK_1 (pc := 432) dL_law_432 (Wd_s (by with_reducible assumption)) (cw_L_105 _ rfl) (by decide) rfl ⟨by decide, by decide⟩ (Nat.le_of_ble_eq_true rfl) (qs_mount hW (by omega) hvb hvb0 hn2 hV (ZI_BI hZ) (by omega) (fun A1 r mm ee hm W => ?_))
    show wpL 435 _ _ _ _ _
    obtain ⟨⟨g1, g2⟩, g3, g4, g5, g6, g7, g8⟩ := hm.resolve_left (fun z => z.2.2.2.2.2 hZ)
    have g9 := g3 hZ
    have hE : ST N A1 nb vb t X mm ee 0 := ⟨W, ⟨JA_EQ hJ g5, hX⟩, ⟨g6.1, ZI_BI g6.2⟩, Or.inl ⟨rfl, g4, g6.2⟩, hi⟩
    refine wq_istore (pc := 435) (L' := [(23, _), (0, _), (1, _), (2, _), (3, _), (4, _), (5, _), (6, _), (7, _), (8, _), (10, _), (11, _), (12, _), (13, _), (14, _), (15, _), (16, _), (17, _), (18, _), (19, _), (20, _), (21, _), (22, _)]) dL_law_435 rfl (by decide) ?_
    refine wq_iload (pc := 437) dL_law_437 rfl ?_
    refine wq_bipush (pc := 439) dL_law_439 (by decide) (by decide) ?_
    refine wq_icmp_le (pc := 441) (tgt := 456) dL_law_441 (by decide) (by first | (unfold inR; omega) | assumption | exact hr2 _ | exact hr3 _ | exact hr4 _) (by first | (unfold inR; omega) | assumption | exact hr2 _ | exact hr3 _ | exact hr4 _) (fun c9 => by exfalso; omega) (fun c3 => ?_)
    refine wq_iload (pc := 444) dL_law_444 rfl ?_
    refine wq_sipush (pc := 446) dL_law_446 (by decide) (by decide) ?_
    refine wq_icmp_gt (pc := 449) (tgt := 456) dL_law_449 (by decide) (by first | (unfold inR; omega) | assumption | exact hr2 _ | exact hr3 _ | exact hr4 _) (by first | (unfold inR; omega) | assumption | exact hr2 _ | exact hr3 _ | exact hr4 _) (fun c9 => by exfalso; omega) (fun c4 => ?_)
    refine wq_iconst (pc := 452) dL_law_452 ?_
    refine wq_goto (pc := 453) (tgt := 457) dL_law_453 (by decide) ?_
    refine wq_istore (pc := 457) (L' := [(7, _), (23, _), (0, _), (1, _), (2, _), (3, _), (4, _), (5, _), (6, _), (8, _), (10, _), (11, _), (12, _), (13, _), (14, _), (15, _), (16, _), (17, _), (18, _), (19, _), (20, _), (21, _), (22, _)]) dL_law_457 rfl (by decide) ?_
    refine wq_goto (pc := 459) (tgt := 2040) dL_law_459 (by decide) ?_
    refine wq_sub1 (L' := [(0, _), (1, _), (2, _), (3, _), (4, _), (5, _), (6, _), (7, _), (8, _), (11, _), (22, _)]) ⟨rfl, rfl, rfl, rfl, rfl, rfl, rfl, rfl, rfl, rfl, rfl, trivial⟩ ?_
    exact H _ _ _ _ _ (ST_t hE (by omega) (by omega) (by omega) (by omega))
  · skip
    refine wq_iconst (pc := 427) dL_law_427 ?_
    refine wq_goto (pc := 428) (tgt := 432) dL_law_428 (by decide) ?_
    refine lVK_1 (pc := 432) dL_law_432 (Wd_s (by with_reducible assumption)) (cw_L_105 _ rfl) (by decide) rfl ⟨by decide, by decide⟩ (Nat.le_of_ble_eq_true rfl) (qs_mount hW (by omega) hvb hvb0 hn2 hV (ZI_BI hZ) (by omega) (fun A1 r mm ee hm W => ?_))
    show wpL 435 _ _ _ _ _
    obtain ⟨⟨g1, g2⟩, g3, g4, g5, g6, g7, g8⟩ := hm.resolve_left (fun z => z.2.2.2.2.2 hZ)
    have g9 := g3 hZ
    have hE : ST N A1 nb vb t X mm ee 0 := ⟨W, ⟨JA_EQ hJ g5, hX⟩, ⟨g6.1, ZI_BI g6.2⟩, Or.inl ⟨rfl, g4, g6.2⟩, hi⟩
    refine wq_istore (pc := 435) (L' := [(23, _), (0, _), (1, _), (2, _), (3, _), (4, _), (5, _), (6, _), (7, _), (8, _), (10, _), (11, _), (12, _), (13, _), (14, _), (15, _), (16, _), (17, _), (18, _), (19, _), (20, _), (21, _), (22, _)]) dL_law_435 rfl (by decide) ?_
    refine wq_iload (pc := 437) dL_law_437 rfl ?_
    refine wq_bipush (pc := 439) dL_law_439 (by decide) (by decide) ?_
    refine wq_icmp_le (pc := 441) (tgt := 456) dL_law_441 (by decide) (by first | (unfold inR; omega) | assumption | exact hr2 _ | exact hr3 _ | exact hr4 _) (by first | (unfold inR; omega) | assumption | exact hr2 _ | exact hr3 _ | exact hr4 _) (fun c9 => by exfalso; omega) (fun c6 => ?_)
    refine wq_iload (pc := 444) dL_law_444 rfl ?_
    refine wq_sipush (pc := 446) dL_law_446 (by decide) (by decide) ?_
    refine wq_icmp_gt (pc := 449) (tgt := 456) dL_law_449 (by decide) (by first | (unfold inR; omega) | assumption | exact hr2 _ | exact hr3 _ | exact hr4 _) (by first | (unfold inR; omega) | assumption | exact hr2 _ | exact hr3 _ | exact hr4 _) (fun c9 => by exfalso; omega) (fun c7 => ?_)
    refine wq_iconst (pc := 452) dL_law_452 ?_
    refine wq_goto (pc := 453) (tgt := 457) dL_law_453 (by decide) ?_
    refine wq_istore (pc := 457) (L' := [(7, _), (23, _), (0, _), (1, _), (2, _), (3, _), (4, _), (5, _), (6, _), (8, _), (10, _), (11, _), (12, _), (13, _), (14, _), (15, _), (16, _), (17, _), (18, _), (19, _), (20, _), (21, _), (22, _)]) dL_law_457 rfl (by decide) ?_
    refine wq_goto (pc := 459) (tgt := 2040) dL_law_459 (by decide) ?_
    refine wq_sub1 (L' := [(0, _), (1, _), (2, _), (3, _), (4, _), (5, _), (6, _), (7, _), (8, _), (11, _), (22, _)]) ⟨rfl, rfl, rfl, rfl, rfl, rfl, rfl, rfl, rfl, rfl, rfl, trivial⟩ ?_
    exact H _ _ _ _ _ (ST_t hE (by omega) (by omega) (by omega) (by omega))
