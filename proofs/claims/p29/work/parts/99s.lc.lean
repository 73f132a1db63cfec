theorem lw_case {μ : nMem} {ε : nEnv} {Q : nOut → nMem → nEnv → Prop} {N : Int} {A : AS} {nb vb : Int} {t : Nat} {X : nMem} {turn kd y d d2 nm nm2 f s b a fr : Int} (hS : ST N A nb vb (t + 40) X μ ε 0) (hnb : nb + 1 ≤ 490) (hvb : vb + 2 ≤ 4000) (hvb0 : 0 ≤ vb) (hn2 : 2 ≤ nb) (ry : 0 ≤ y ∧ y ≤ 2147483647) (ht : 0 ≤ turn ∧ turn < 120) (hF : LF A X d d2 nm nm2 f s b a fr) (H : ∀ A1 X1 m e w, ST N A1 (nb + 1) (vb + 2) t X1 m e w → wpL 2040 [(0, vR (-1)), (1, vR 1), (2, vR 21), (3, vR 22), (4, vR 23), (5, vR 24), (6, vR 25), (7, vI 1), (8, vI turn), (11, vI y), (22, vI w)] [] m e Q) (hk : 0 ≤ kd ∧ kd < 26) (hvb2 : vb ≤ 300) : wpL 354 [(0, vR (-1)), (1, vR 1), (2, vR 21), (3, vR 22), (4, vR 23), (5, vR 24), (6, vR 25), (7, vI 1), (8, vI turn), (10, vI kd), (11, vI y), (12, vI d), (13, vI d2), (14, vI nm), (15, vI nm2), (16, vI f), (17, vI s), (18, vI b), (19, vI a), (20, vI fr), (21, vI 0), (22, vI 0)] [] μ ε Q := by
  obtain ⟨⟨⟨hn0, hn15⟩, ⟨hm0, hm8⟩, hr2, hr3, hr4⟩, hn14, hm7⟩ := id hS.2.1.2
  have hW := hS.1
  refine wq_iload (pc := 354) dL_law_354 rfl ?_
  refine wq_bipush (pc := 356) dL_law_356 (by decide) (by decide) ?_
  refine wq_icmp_ne (pc := 358) (tgt := 412) dL_law_358 (by decide) (by first | (unfold inR; omega) | assumption | exact hr2 _ | exact hr3 _ | exact hr4 _) (by first | (unfold inR; omega) | assumption | exact hr2 _ | exact hr3 _ | exact hr4 _) (fun c1 => ?_) (fun c1 => ?_)
  · skip
    refine wq_iload (pc := 412) dL_law_412 rfl ?_
    refine wq_bipush (pc := 414) dL_law_414 (by decide) (by decide) ?_
    refine wq_icmp_ne (pc := 416) (tgt := 462) dL_law_416 (by decide) (by first | (unfold inR; omega) | assumption | exact hr2 _ | exact hr3 _ | exact hr4 _) (by first | (unfold inR; omega) | assumption | exact hr2 _ | exact hr3 _ | exact hr4 _) (fun c2 => ?_) (fun c2 => ?_)
    · skip
      refine wq_iload (pc := 462) dL_law_462 rfl ?_
      refine wq_iconst (pc := 464) dL_law_464 ?_
      refine wq_icmp_ge (pc := 465) (tgt := 723) dL_law_465 (by decide) (by first | (unfold inR; omega) | assumption | exact hr2 _ | exact hr3 _ | exact hr4 _) (by first | (unfold inR; omega) | assumption | exact hr2 _ | exact hr3 _ | exact hr4 _) (fun c3 => ?_) (fun c3 => ?_)
      · skip
        refine wq_iload (pc := 723) dL_law_723 rfl ?_
        refine wq_iconst (pc := 725) dL_law_725 ?_
        refine wq_icmp_ne (pc := 726) (tgt := 900) dL_law_726 (by decide) (by first | (unfold inR; omega) | assumption | exact hr2 _ | exact hr3 _ | exact hr4 _) (by first | (unfold inR; omega) | assumption | exact hr2 _ | exact hr3 _ | exact hr4 _) (fun c4 => ?_) (fun c4 => ?_)
        · skip
          refine wq_iload (pc := 900) dL_law_900 rfl ?_
          refine wq_bipush (pc := 902) dL_law_902 (by decide) (by decide) ?_
          refine wq_icmp_ge (pc := 904) (tgt := 1081) dL_law_904 (by decide) (by first | (unfold inR; omega) | assumption | exact hr2 _ | exact hr3 _ | exact hr4 _) (by first | (unfold inR; omega) | assumption | exact hr2 _ | exact hr3 _ | exact hr4 _) (fun c5 => ?_) (fun c5 => ?_)
          · skip
            refine wq_iload (pc := 1081) dL_law_1081 rfl ?_
            refine wq_bipush (pc := 1083) dL_law_1083 (by decide) (by decide) ?_
            refine wq_icmp_ge (pc := 1085) (tgt := 1465) dL_law_1085 (by decide) (by first | (unfold inR; omega) | assumption | exact hr2 _ | exact hr3 _ | exact hr4 _) (by first | (unfold inR; omega) | assumption | exact hr2 _ | exact hr3 _ | exact hr4 _) (fun c6 => ?_) (fun c6 => ?_)
            · skip
              refine wq_iload (pc := 1465) dL_law_1465 rfl ?_
              refine wq_bipush (pc := 1467) dL_law_1467 (by decide) (by decide) ?_
              refine wq_icmp_ge (pc := 1469) (tgt := 1730) dL_law_1469 (by decide) (by first | (unfold inR; omega) | assumption | exact hr2 _ | exact hr3 _ | exact hr4 _) (by first | (unfold inR; omega) | assumption | exact hr2 _ | exact hr3 _ | exact hr4 _) (fun c7 => ?_) (fun c7 => ?_)
              · skip
                refine wq_iload (pc := 1730) dL_law_1730 rfl ?_
                refine wq_bipush (pc := 1732) dL_law_1732 (by decide) (by decide) ?_
                refine wq_icmp_ge (pc := 1734) (tgt := 1906) dL_law_1734 (by decide) (by first | (unfold inR; omega) | assumption | exact hr2 _ | exact hr3 _ | exact hr4 _) (by first | (unfold inR; omega) | assumption | exact hr2 _ | exact hr3 _ | exact hr4 _) (fun c8 => ?_) (fun c8 => ?_)
                · skip
                  refine wq_sub1 (L' := [(0, _), (1, _), (2, _), (3, _), (4, _), (5, _), (6, _), (7, _), (8, _), (10, _), (11, _), (12, _), (13, _), (14, _), (15, _), (16, _), (17, _), (18, _), (19, _), (20, _), (21, _), (22, _)]) ⟨rfl, rfl, rfl, rfl, rfl, rfl, rfl, rfl, rfl, rfl, rfl, rfl, rfl, rfl, rfl, rfl, rfl, rfl, rfl, rfl, rfl, rfl, trivial⟩ ?_
                  exact lw_collect (t := t) (ST_t hS (by omega) (Int.le_refl _) (Int.le_refl _) (by omega)) hnb hvb hvb0 hn2 ry ht hF H hvb2
                · skip
                  refine wq_sub1 (L' := [(0, _), (1, _), (2, _), (3, _), (4, _), (5, _), (6, _), (7, _), (8, _), (10, _), (11, _), (12, _), (13, _), (14, _), (15, _), (16, _), (17, _), (18, _), (19, _), (20, _), (21, _), (22, _)]) ⟨rfl, rfl, rfl, rfl, rfl, rfl, rfl, rfl, rfl, rfl, rfl, rfl, rfl, rfl, rfl, rfl, rfl, rfl, rfl, rfl, rfl, rfl, trivial⟩ ?_
                  exact lw_truncate (t := t) (ST_t hS (by omega) (Int.le_refl _) (Int.le_refl _) (by omega)) hnb hvb hvb0 hn2 ry ht hF H 
              · skip
                refine wq_sub1 (L' := [(0, _), (1, _), (2, _), (3, _), (4, _), (5, _), (6, _), (7, _), (8, _), (10, _), (11, _), (12, _), (13, _), (14, _), (15, _), (16, _), (17, _), (18, _), (19, _), (20, _), (21, _), (22, _)]) ⟨rfl, rfl, rfl, rfl, rfl, rfl, rfl, rfl, rfl, rfl, rfl, rfl, rfl, rfl, rfl, rfl, rfl, rfl, rfl, rfl, rfl, rfl, trivial⟩ ?_
                exact lw_write (t := t) (ST_t hS (by omega) (Int.le_refl _) (Int.le_refl _) (by omega)) hnb hvb hvb0 hn2 ry ht hF H 
            · skip
              refine wq_aload_n (pc := 1088) dL_law_1088 rfl rfl ?_
              refine wq_iconst (pc := 1089) dL_law_1089 ?_
              refine wq_ialdX (pc := 1090) dL_law_1090 (by with_reducible assumption) rfl (by omega) (by omega) ?_
              refine wq_bipush (pc := 1091) dL_law_1091 (by decide) (by decide) ?_
              refine wq_icmp_ge (pc := 1093) (tgt := 1465) dL_law_1093 (by decide) (by first | (unfold inR; omega) | assumption | exact hr2 _ | exact hr3 _ | exact hr4 _) (by first | (unfold inR; omega) | assumption | exact hr2 _ | exact hr3 _ | exact hr4 _) (fun c9 => ?_) (fun c9 => ?_)
              · skip
                refine wq_iload (pc := 1465) dL_law_1465 rfl ?_
                refine wq_bipush (pc := 1467) dL_law_1467 (by decide) (by decide) ?_
                refine wq_icmp_ge (pc := 1469) (tgt := 1730) dL_law_1469 (by decide) (by first | (unfold inR; omega) | assumption | exact hr2 _ | exact hr3 _ | exact hr4 _) (by first | (unfold inR; omega) | assumption | exact hr2 _ | exact hr3 _ | exact hr4 _) (fun c10 => ?_) (fun c10 => ?_)
                · skip
                  refine wq_iload (pc := 1730) dL_law_1730 rfl ?_
                  refine wq_bipush (pc := 1732) dL_law_1732 (by decide) (by decide) ?_
                  refine wq_icmp_ge (pc := 1734) (tgt := 1906) dL_law_1734 (by decide) (by first | (unfold inR; omega) | assumption | exact hr2 _ | exact hr3 _ | exact hr4 _) (by first | (unfold inR; omega) | assumption | exact hr2 _ | exact hr3 _ | exact hr4 _) (fun c11 => ?_) (fun c11 => ?_)
                  · skip
                    refine wq_sub1 (L' := [(0, _), (1, _), (2, _), (3, _), (4, _), (5, _), (6, _), (7, _), (8, _), (10, _), (11, _), (12, _), (13, _), (14, _), (15, _), (16, _), (17, _), (18, _), (19, _), (20, _), (21, _), (22, _)]) ⟨rfl, rfl, rfl, rfl, rfl, rfl, rfl, rfl, rfl, rfl, rfl, rfl, rfl, rfl, rfl, rfl, rfl, rfl, rfl, rfl, rfl, rfl, trivial⟩ ?_
                    exact lw_collect (t := t) (ST_t hS (by omega) (Int.le_refl _) (Int.le_refl _) (by omega)) hnb hvb hvb0 hn2 ry ht hF H hvb2
                  · skip
                    refine wq_sub1 (L' := [(0, _), (1, _), (2, _), (3, _), (4, _), (5, _), (6, _), (7, _), (8, _), (10, _), (11, _), (12, _), (13, _), (14, _), (15, _), (16, _), (17, _), (18, _), (19, _), (20, _), (21, _), (22, _)]) ⟨rfl, rfl, rfl, rfl, rfl, rfl, rfl, rfl, rfl, rfl, rfl, rfl, rfl, rfl, rfl, rfl, rfl, rfl, rfl, rfl, rfl, rfl, trivial⟩ ?_
                    exact lw_truncate (t := t) (ST_t hS (by omega) (Int.le_refl _) (Int.le_refl _) (by omega)) hnb hvb hvb0 hn2 ry ht hF H 
                · skip
                  refine wq_sub1 (L' := [(0, _), (1, _), (2, _), (3, _), (4, _), (5, _), (6, _), (7, _), (8, _), (10, _), (11, _), (12, _), (13, _), (14, _), (15, _), (16, _), (17, _), (18, _), (19, _), (20, _), (21, _), (22, _)]) ⟨rfl, rfl, rfl, rfl, rfl, rfl, rfl, rfl, rfl, rfl, rfl, rfl, rfl, rfl, rfl, rfl, rfl, rfl, rfl, rfl, rfl, rfl, trivial⟩ ?_
                  exact lw_write (t := t) (ST_t hS (by omega) (Int.le_refl _) (Int.le_refl _) (by omega)) hnb hvb hvb0 hn2 ry ht hF H 
              · skip
                refine wq_sub1 (L' := [(0, _), (1, _), (2, _), (3, _), (4, _), (5, _), (6, _), (7, _), (8, _), (10, _), (11, _), (12, _), (13, _), (14, _), (15, _), (16, _), (17, _), (18, _), (19, _), (20, _), (21, _), (22, _)]) ⟨rfl, rfl, rfl, rfl, rfl, rfl, rfl, rfl, rfl, rfl, rfl, rfl, rfl, rfl, rfl, rfl, rfl, rfl, rfl, rfl, rfl, rfl, trivial⟩ ?_
                exact lw_rename (t := t) (ST_t hS (by omega) (Int.le_refl _) (Int.le_refl _) (by omega)) hnb hvb hvb0 hn2 ry ht hF H (by omega) hvb2
          · skip
            refine wq_sub1 (L' := [(0, _), (1, _), (2, _), (3, _), (4, _), (5, _), (6, _), (7, _), (8, _), (10, _), (11, _), (12, _), (13, _), (14, _), (15, _), (16, _), (17, _), (18, _), (19, _), (20, _), (21, _), (22, _)]) ⟨rfl, rfl, rfl, rfl, rfl, rfl, rfl, rfl, rfl, rfl, rfl, rfl, rfl, rfl, rfl, rfl, rfl, rfl, rfl, rfl, rfl, rfl, trivial⟩ ?_
            exact lw_unlink (t := t) (ST_t hS (by omega) (Int.le_refl _) (Int.le_refl _) (by omega)) hnb hvb hvb0 hn2 ry ht hF H 
        · skip
          refine wq_aload_n (pc := 729) dL_law_729 rfl rfl ?_
          refine wq_iconst (pc := 730) dL_law_730 ?_
          refine wq_ialdX (pc := 731) dL_law_731 (by with_reducible assumption) rfl (by omega) (by omega) ?_
          refine wq_bipush (pc := 732) dL_law_732 (by decide) (by decide) ?_
          refine wq_icmp_ge (pc := 734) (tgt := 900) dL_law_734 (by decide) (by first | (unfold inR; omega) | assumption | exact hr2 _ | exact hr3 _ | exact hr4 _) (by first | (unfold inR; omega) | assumption | exact hr2 _ | exact hr3 _ | exact hr4 _) (fun c12 => ?_) (fun c12 => ?_)
          · skip
            refine wq_iload (pc := 900) dL_law_900 rfl ?_
            refine wq_bipush (pc := 902) dL_law_902 (by decide) (by decide) ?_
            refine wq_icmp_ge (pc := 904) (tgt := 1081) dL_law_904 (by decide) (by first | (unfold inR; omega) | assumption | exact hr2 _ | exact hr3 _ | exact hr4 _) (by first | (unfold inR; omega) | assumption | exact hr2 _ | exact hr3 _ | exact hr4 _) (fun c13 => ?_) (fun c13 => ?_)
            · skip
              refine wq_iload (pc := 1081) dL_law_1081 rfl ?_
              refine wq_bipush (pc := 1083) dL_law_1083 (by decide) (by decide) ?_
              refine wq_icmp_ge (pc := 1085) (tgt := 1465) dL_law_1085 (by decide) (by first | (unfold inR; omega) | assumption | exact hr2 _ | exact hr3 _ | exact hr4 _) (by first | (unfold inR; omega) | assumption | exact hr2 _ | exact hr3 _ | exact hr4 _) (fun c14 => ?_) (fun c14 => ?_)
              · skip
                refine wq_iload (pc := 1465) dL_law_1465 rfl ?_
                refine wq_bipush (pc := 1467) dL_law_1467 (by decide) (by decide) ?_
                refine wq_icmp_ge (pc := 1469) (tgt := 1730) dL_law_1469 (by decide) (by first | (unfold inR; omega) | assumption | exact hr2 _ | exact hr3 _ | exact hr4 _) (by first | (unfold inR; omega) | assumption | exact hr2 _ | exact hr3 _ | exact hr4 _) (fun c15 => ?_) (fun c15 => ?_)
                · skip
                  refine wq_iload (pc := 1730) dL_law_1730 rfl ?_
                  refine wq_bipush (pc := 1732) dL_law_1732 (by decide) (by decide) ?_
                  refine wq_icmp_ge (pc := 1734) (tgt := 1906) dL_law_1734 (by decide) (by first | (unfold inR; omega) | assumption | exact hr2 _ | exact hr3 _ | exact hr4 _) (by first | (unfold inR; omega) | assumption | exact hr2 _ | exact hr3 _ | exact hr4 _) (fun c16 => ?_) (fun c16 => ?_)
                  · skip
                    refine wq_sub1 (L' := [(0, _), (1, _), (2, _), (3, _), (4, _), (5, _), (6, _), (7, _), (8, _), (10, _), (11, _), (12, _), (13, _), (14, _), (15, _), (16, _), (17, _), (18, _), (19, _), (20, _), (21, _), (22, _)]) ⟨rfl, rfl, rfl, rfl, rfl, rfl, rfl, rfl, rfl, rfl, rfl, rfl, rfl, rfl, rfl, rfl, rfl, rfl, rfl, rfl, rfl, rfl, trivial⟩ ?_
                    exact lw_collect (t := t) (ST_t hS (by omega) (Int.le_refl _) (Int.le_refl _) (by omega)) hnb hvb hvb0 hn2 ry ht hF H hvb2
                  · skip
                    refine wq_sub1 (L' := [(0, _), (1, _), (2, _), (3, _), (4, _), (5, _), (6, _), (7, _), (8, _), (10, _), (11, _), (12, _), (13, _), (14, _), (15, _), (16, _), (17, _), (18, _), (19, _), (20, _), (21, _), (22, _)]) ⟨rfl, rfl, rfl, rfl, rfl, rfl, rfl, rfl, rfl, rfl, rfl, rfl, rfl, rfl, rfl, rfl, rfl, rfl, rfl, rfl, rfl, rfl, trivial⟩ ?_
                    exact lw_truncate (t := t) (ST_t hS (by omega) (Int.le_refl _) (Int.le_refl _) (by omega)) hnb hvb hvb0 hn2 ry ht hF H 
                · skip
                  refine wq_sub1 (L' := [(0, _), (1, _), (2, _), (3, _), (4, _), (5, _), (6, _), (7, _), (8, _), (10, _), (11, _), (12, _), (13, _), (14, _), (15, _), (16, _), (17, _), (18, _), (19, _), (20, _), (21, _), (22, _)]) ⟨rfl, rfl, rfl, rfl, rfl, rfl, rfl, rfl, rfl, rfl, rfl, rfl, rfl, rfl, rfl, rfl, rfl, rfl, rfl, rfl, rfl, rfl, trivial⟩ ?_
                  exact lw_write (t := t) (ST_t hS (by omega) (Int.le_refl _) (Int.le_refl _) (by omega)) hnb hvb hvb0 hn2 ry ht hF H 
              · skip
                refine wq_aload_n (pc := 1088) dL_law_1088 rfl rfl ?_
                refine wq_iconst (pc := 1089) dL_law_1089 ?_
                refine wq_ialdX (pc := 1090) dL_law_1090 (by with_reducible assumption) rfl (by omega) (by omega) ?_
                refine wq_bipush (pc := 1091) dL_law_1091 (by decide) (by decide) ?_
                refine wq_icmp_ge (pc := 1093) (tgt := 1465) dL_law_1093 (by decide) (by first | (unfold inR; omega) | assumption | exact hr2 _ | exact hr3 _ | exact hr4 _) (by first | (unfold inR; omega) | assumption | exact hr2 _ | exact hr3 _ | exact hr4 _) (fun c17 => ?_) (fun c17 => ?_)
                · skip
                  refine wq_iload (pc := 1465) dL_law_1465 rfl ?_
                  refine wq_bipush (pc := 1467) dL_law_1467 (by decide) (by decide) ?_
                  refine wq_icmp_ge (pc := 1469) (tgt := 1730) dL_law_1469 (by decide) (by first | (unfold inR; omega) | assumption | exact hr2 _ | exact hr3 _ | exact hr4 _) (by first | (unfold inR; omega) | assumption | exact hr2 _ | exact hr3 _ | exact hr4 _) (fun c18 => ?_) (fun c18 => ?_)
                  · skip
                    refine wq_iload (pc := 1730) dL_law_1730 rfl ?_
                    refine wq_bipush (pc := 1732) dL_law_1732 (by decide) (by decide) ?_
                    refine wq_icmp_ge (pc := 1734) (tgt := 1906) dL_law_1734 (by decide) (by first | (unfold inR; omega) | assumption | exact hr2 _ | exact hr3 _ | exact hr4 _) (by first | (unfold inR; omega) | assumption | exact hr2 _ | exact hr3 _ | exact hr4 _) (fun c19 => ?_) (fun c19 => ?_)
                    · skip
                      refine wq_sub1 (L' := [(0, _), (1, _), (2, _), (3, _), (4, _), (5, _), (6, _), (7, _), (8, _), (10, _), (11, _), (12, _), (13, _), (14, _), (15, _), (16, _), (17, _), (18, _), (19, _), (20, _), (21, _), (22, _)]) ⟨rfl, rfl, rfl, rfl, rfl, rfl, rfl, rfl, rfl, rfl, rfl, rfl, rfl, rfl, rfl, rfl, rfl, rfl, rfl, rfl, rfl, rfl, trivial⟩ ?_
                      exact lw_collect (t := t) (ST_t hS (by omega) (Int.le_refl _) (Int.le_refl _) (by omega)) hnb hvb hvb0 hn2 ry ht hF H hvb2
                    · skip
                      refine wq_sub1 (L' := [(0, _), (1, _), (2, _), (3, _), (4, _), (5, _), (6, _), (7, _), (8, _), (10, _), (11, _), (12, _), (13, _), (14, _), (15, _), (16, _), (17, _), (18, _), (19, _), (20, _), (21, _), (22, _)]) ⟨rfl, rfl, rfl, rfl, rfl, rfl, rfl, rfl, rfl, rfl, rfl, rfl, rfl, rfl, rfl, rfl, rfl, rfl, rfl, rfl, rfl, rfl, trivial⟩ ?_
                      exact lw_truncate (t := t) (ST_t hS (by omega) (Int.le_refl _) (Int.le_refl _) (by omega)) hnb hvb hvb0 hn2 ry ht hF H 
                  · skip
                    refine wq_sub1 (L' := [(0, _), (1, _), (2, _), (3, _), (4, _), (5, _), (6, _), (7, _), (8, _), (10, _), (11, _), (12, _), (13, _), (14, _), (15, _), (16, _), (17, _), (18, _), (19, _), (20, _), (21, _), (22, _)]) ⟨rfl, rfl, rfl, rfl, rfl, rfl, rfl, rfl, rfl, rfl, rfl, rfl, rfl, rfl, rfl, rfl, rfl, rfl, rfl, rfl, rfl, rfl, trivial⟩ ?_
                    exact lw_write (t := t) (ST_t hS (by omega) (Int.le_refl _) (Int.le_refl _) (by omega)) hnb hvb hvb0 hn2 ry ht hF H 
                · skip
                  refine wq_sub1 (L' := [(0, _), (1, _), (2, _), (3, _), (4, _), (5, _), (6, _), (7, _), (8, _), (10, _), (11, _), (12, _), (13, _), (14, _), (15, _), (16, _), (17, _), (18, _), (19, _), (20, _), (21, _), (22, _)]) ⟨rfl, rfl, rfl, rfl, rfl, rfl, rfl, rfl, rfl, rfl, rfl, rfl, rfl, rfl, rfl, rfl, rfl, rfl, rfl, rfl, rfl, rfl, trivial⟩ ?_
                  exact lw_rename (t := t) (ST_t hS (by omega) (Int.le_refl _) (Int.le_refl _) (by omega)) hnb hvb hvb0 hn2 ry ht hF H (by omega) hvb2
            · skip
              refine wq_sub1 (L' := [(0, _), (1, _), (2, _), (3, _), (4, _), (5, _), (6, _), (7, _), (8, _), (10, _), (11, _), (12, _), (13, _), (14, _), (15, _), (16, _), (17, _), (18, _), (19, _), (20, _), (21, _), (22, _)]) ⟨rfl, rfl, rfl, rfl, rfl, rfl, rfl, rfl, rfl, rfl, rfl, rfl, rfl, rfl, rfl, rfl, rfl, rfl, rfl, rfl, rfl, rfl, trivial⟩ ?_
              exact lw_unlink (t := t) (ST_t hS (by omega) (Int.le_refl _) (Int.le_refl _) (by omega)) hnb hvb hvb0 hn2 ry ht hF H 
          · skip
            refine wq_sub1 (L' := [(0, _), (1, _), (2, _), (3, _), (4, _), (5, _), (6, _), (7, _), (8, _), (10, _), (11, _), (12, _), (13, _), (14, _), (15, _), (16, _), (17, _), (18, _), (19, _), (20, _), (21, _), (22, _)]) ⟨rfl, rfl, rfl, rfl, rfl, rfl, rfl, rfl, rfl, rfl, rfl, rfl, rfl, rfl, rfl, rfl, rfl, rfl, rfl, rfl, rfl, rfl, trivial⟩ ?_
            exact lw_link (t := t) (ST_t hS (by omega) (Int.le_refl _) (Int.le_refl _) (by omega)) hnb hvb hvb0 hn2 ry ht hF H (by omega)
      · skip
        refine wq_sub1 (L' := [(0, _), (1, _), (2, _), (3, _), (4, _), (5, _), (6, _), (7, _), (8, _), (10, _), (11, _), (12, _), (13, _), (14, _), (15, _), (16, _), (17, _), (18, _), (19, _), (20, _), (21, _), (22, _)]) ⟨rfl, rfl, rfl, rfl, rfl, rfl, rfl, rfl, rfl, rfl, rfl, rfl, rfl, rfl, rfl, rfl, rfl, rfl, rfl, rfl, rfl, rfl, trivial⟩ ?_
        exact lw_create (t := t) (ST_t hS (by omega) (Int.le_refl _) (Int.le_refl _) (by omega)) hnb hvb hvb0 hn2 ry ht hF H (by omega)
    · skip
      refine wq_sub1 (L' := [(0, _), (1, _), (2, _), (3, _), (4, _), (5, _), (6, _), (7, _), (8, _), (10, _), (11, _), (12, _), (13, _), (14, _), (15, _), (16, _), (17, _), (18, _), (19, _), (20, _), (21, _), (22, _)]) ⟨rfl, rfl, rfl, rfl, rfl, rfl, rfl, rfl, rfl, rfl, rfl, rfl, rfl, rfl, rfl, rfl, rfl, rfl, rfl, rfl, rfl, rfl, trivial⟩ ?_
      exact lw_mount (t := t) (ST_t hS (by omega) (Int.le_refl _) (Int.le_refl _) (by omega)) hnb hvb hvb0 hn2 ry ht hF H 
  · skip
    refine wq_sub1 (L' := [(0, _), (1, _), (2, _), (3, _), (4, _), (5, _), (6, _), (7, _), (8, _), (10, _), (11, _), (12, _), (13, _), (14, _), (15, _), (16, _), (17, _), (18, _), (19, _), (20, _), (21, _), (22, _)]) ⟨rfl, rfl, rfl, rfl, rfl, rfl, rfl, rfl, rfl, rfl, rfl, rfl, rfl, rfl, rfl, rfl, rfl, rfl, rfl, rfl, rfl, rfl, trivial⟩ ?_
    exact lw_cut (t := t) (ST_t hS (by omega) (Int.le_refl _) (Int.le_refl _) (by omega)) hnb hvb hvb0 hn2 ry ht hF H 
theorem lw_pre {μ : nMem} {ε : nEnv} {Q : nOut → nMem → nEnv → Prop} {N : Int} {A : AS} {nb vb : Int} {t : Nat} {X : nMem} {turn : Int} (hS : ST N A nb vb (t + 60) X μ ε 0) (hN : 0 ≤ N ∧ N ≤ 100000) (hnb : nb + 1 ≤ 490) (hvb2 : vb ≤ 300) (hvb0 : 0 ≤ vb) (hn2 : 2 ≤ nb) (ht : 0 ≤ turn ∧ turn < 120) (H : ∀ y A1 X1 m e w, (0 ≤ y ∧ y ≤ 2147483647) → ST N A1 (nb + 1) (vb + 2) t X1 m e w → wpL 2040 [(0, vR (-1)), (1, vR 1), (2, vR 21), (3, vR 22), (4, vR 23), (5, vR 24), (6, vR 25), (7, vI 1), (8, vI turn), (11, vI y), (22, vI w)] [] m e Q) : wpL 65 [(0, vR (-1)), (1, vR 1), (2, vR 21), (3, vR 22), (4, vR 23), (5, vR 24), (6, vR 25), (7, vI 1), (8, vI turn)] [] μ ε Q := by
  obtain ⟨⟨hW, hG, hX, hi⟩, ⟨hD, hJ, hV, hZ⟩, fl, SS, hP, hTS⟩ := ST_0 hS
  obtain ⟨⟨⟨hn0, hn15⟩, ⟨hm0, hm8⟩, hr2, hr3, hr4⟩, hn14, hm7⟩ := id hX
  have hln := hW.2.2.2.2
  have cut1 : ∀ (f0 : Int), (0 ≤ f0 ∧ f0 ≤ 2147483647) → wpL 105 [(0, vR (-1)), (1, vR 1), (2, vR 21), (3, vR 22), (4, vR 23), (5, vR 24), (6, vR 25), (7, vI 1), (8, vI turn), (9, vI f0)] [] μ ε Q := by
    intro f0 e0
    have hf0 := e0
    have cut2 : ∀ (kd : Int), (0 ≤ kd ∧ kd < 26) → wpL 122 [(0, vR (-1)), (1, vR 1), (2, vR 21), (3, vR 22), (4, vR 23), (5, vR 24), (6, vR 25), (7, vI 1), (8, vI turn), (9, vI f0), (10, vI kd)] [] μ ε Q := by
      intro kd e0
      have hkd := e0
      have cut3 : ∀ (y : Int), (0 ≤ y ∧ y ≤ 2147483647) → wpL 129 [(0, vR (-1)), (1, vR 1), (2, vR 21), (3, vR 22), (4, vR 23), (5, vR 24), (6, vR 25), (7, vI 1), (8, vI turn), (10, vI kd), (11, vI y)] [] μ ε Q := by
        intro y e0
        have hy := e0
        refine wq_iconst (pc := 129) dL_law_129 ?_
        refine wq_istore (pc := 130) (L' := [(12, _), (0, _), (1, _), (2, _), (3, _), (4, _), (5, _), (6, _), (7, _), (8, _), (10, _), (11, _)]) dL_law_130 rfl (by decide) ?_
        refine wq_iconst (pc := 132) dL_law_132 ?_
        refine wq_istore (pc := 133) (L' := [(13, _), (12, _), (0, _), (1, _), (2, _), (3, _), (4, _), (5, _), (6, _), (7, _), (8, _), (10, _), (11, _)]) dL_law_133 rfl (by decide) ?_
        refine wq_iconst (pc := 135) dL_law_135 ?_
        refine wq_istore (pc := 136) (L' := [(14, _), (13, _), (12, _), (0, _), (1, _), (2, _), (3, _), (4, _), (5, _), (6, _), (7, _), (8, _), (10, _), (11, _)]) dL_law_136 rfl (by decide) ?_
        have loop4 : ∀ (n k : Nat), ∀ (d d2 i : Int), k ≤ (X 21 0).toNat → (X 21 0).toNat < k + n → i = (k : Int) → (isDr A d ∧ 1 ≤ d ∧ d < 2000) → (isDr A d2 ∧ 1 ≤ d2 ∧ d2 < 2000) → wpL 138 [(0, vR (-1)), (1, vR 1), (2, vR 21), (3, vR 22), (4, vR 23), (5, vR 24), (6, vR 25), (7, vI 1), (8, vI turn), (10, vI kd), (11, vI y), (12, vI d), (13, vI d2), (14, vI i)] [] μ ε Q := by
          intro n
          induction n with
          | zero => intro k d d2 i hk1 hk2 e0 e1 e2; exact absurd hk2 (by omega)
          | succ n ih =>
            intro k d d2 i hk1 hk2 e0 e1 e2
            subst e0
            refine wq_iload (pc := 138) dL_law_138 rfl ?_
            refine wq_aload_n (pc := 140) dL_law_140 rfl rfl ?_
            refine wq_iconst (pc := 141) dL_law_141 ?_
            refine wq_ialdX (pc := 142) dL_law_142 (by with_reducible assumption) rfl (by omega) (by omega) ?_
            refine wq_icmp_ge (pc := 143) (tgt := 234) dL_law_143 (by decide) (by first | (unfold inR; omega) | assumption | exact hr2 _ | exact hr3 _ | exact hr4 _) (by first | (unfold inR; omega) | assumption | exact hr2 _ | exact hr3 _ | exact hr4 _) (fun c5 => ?_) (fun c5 => ?_)
            · skip
              have hd12 : isDr A d ∧ 1 ≤ d ∧ d < 2000 := by assumption
              have hd22 : isDr A d2 ∧ 1 ≤ d2 ∧ d2 < 2000 := by assumption
              have cut6 : ∀ (dz : Int), (1 ≤ dz ∧ dz < 2000) → wpL 252 [(0, vR (-1)), (1, vR 1), (2, vR 21), (3, vR 22), (4, vR 23), (5, vR 24), (6, vR 25), (7, vI 1), (8, vI turn), (10, vI kd), (11, vI y), (12, vI dz), (13, vI d2)] [] μ ε Q := by
                intro dz e0
                have hdz := e0
                have cut7 : ∀ (nm : Int), (0 ≤ nm ∧ nm ≤ 6) → wpL 275 [(0, vR (-1)), (1, vR 1), (2, vR 21), (3, vR 22), (4, vR 23), (5, vR 24), (6, vR 25), (7, vI 1), (8, vI turn), (10, vI kd), (11, vI y), (12, vI dz), (13, vI d2), (14, vI nm)] [] μ ε Q := by
                  intro nm e0
                  have hnm := e0
                  have cut8 : ∀ (nm2 : Int), (1 ≤ nm2 ∧ nm2 ≤ 6) → wpL 287 [(0, vR (-1)), (1, vR 1), (2, vR 21), (3, vR 22), (4, vR 23), (5, vR 24), (6, vR 25), (7, vI 1), (8, vI turn), (10, vI kd), (11, vI y), (12, vI dz), (13, vI d2), (14, vI nm), (15, vI nm2)] [] μ ε Q := by
                    intro nm2 e0
                    have hnm2 := e0
                    have cut9 : ∀ (f : Int), (2 ≤ f ∧ f < 2000) → wpL 312 [(0, vR (-1)), (1, vR 1), (2, vR 21), (3, vR 22), (4, vR 23), (5, vR 24), (6, vR 25), (7, vI 1), (8, vI turn), (10, vI kd), (11, vI y), (12, vI dz), (13, vI d2), (14, vI nm), (15, vI nm2), (16, vI f)] [] μ ε Q := by
                      intro f e0
                      have hf := e0
                      refine wq_aload_n (pc := 312) dL_law_312 rfl rfl ?_
                      refine wq_aload (pc := 313) dL_law_313 rfl ?_
                      refine wq_iload (pc := 315) dL_law_315 rfl ?_
                      refine lS_3 (pc := 317) dL_law_317 (cw_L_7 _ rfl) ⟨by decide, by decide⟩ (Nat.le_of_ble_eq_true rfl) (sW_slot hW hX.1 (by unfold inR; omega) ?_)
                      show wpL 320 _ _ _ _ _
                      obtain ⟨s, hs⟩ : ∃ s, s = lsP (pZ (X 23) f) (X 21 1).toNat := ⟨_, rfl⟩
                      rw [← hs]
                      refine wq_istore (pc := 320) (L' := [(17, _), (0, _), (1, _), (2, _), (3, _), (4, _), (5, _), (6, _), (7, _), (8, _), (10, _), (11, _), (12, _), (13, _), (14, _), (15, _), (16, _)]) dL_law_320 rfl (by decide) ?_
                      refine wq_aload_n (pc := 322) dL_law_322 rfl rfl ?_
                      refine wq_aload_n (pc := 323) dL_law_323 rfl rfl ?_
                      refine wq_iload (pc := 324) dL_law_324 rfl ?_
                      refine lS_3 (pc := 326) dL_law_326 (cw_L_116 _ rfl) ⟨by decide, by decide⟩ (Nat.le_of_ble_eq_true rfl) (sW_isDirectory hW hX.1 (by unfold inR; omega) (fun hq => ?_) (fun hq => ?_))
                      · skip
                        show wpL 329 _ _ _ _ _
                        have hb : ((1 : Int) = 1 ∧ isDr A dz) ∨ ((1 : Int) = 0 ∧ ¬ isDr A dz) := Or.inl ⟨rfl, (GA_dr hG dz).mp hq⟩
                        refine wq_istore (pc := 329) (L' := [(18, _), (17, _), (0, _), (1, _), (2, _), (3, _), (4, _), (5, _), (6, _), (7, _), (8, _), (10, _), (11, _), (12, _), (13, _), (14, _), (15, _), (16, _)]) dL_law_329 rfl (by decide) ?_
                        refine wq_aload_n (pc := 331) dL_law_331 rfl rfl ?_
                        refine wq_aload_n (pc := 332) dL_law_332 rfl rfl ?_
                        refine wq_iload (pc := 333) dL_law_333 rfl ?_
                        refine wq_iload (pc := 335) dL_law_335 rfl ?_
                        refine lS_4 (pc := 337) dL_law_337 (cw_L_98 _ rfl) ⟨by decide, by decide⟩ (Nat.le_of_ble_eq_true rfl) (sW_find hW hX.1 (by unfold inR; omega) (by unfold inR; omega) ?_)
                        show wpL 340 _ _ _ _ _
                        obtain ⟨a, ha⟩ : ∃ a, a = lsP (pF (X 22) dz nm) (X 21 0).toNat := ⟨_, rfl⟩
                        rw [← ha]
                        refine wq_istore (pc := 340) (L' := [(19, _), (18, _), (17, _), (0, _), (1, _), (2, _), (3, _), (4, _), (5, _), (6, _), (7, _), (8, _), (10, _), (11, _), (12, _), (13, _), (14, _), (15, _), (16, _)]) dL_law_340 rfl (by decide) ?_
                        refine wq_aload_n (pc := 342) dL_law_342 rfl rfl ?_
                        refine lS_1 (pc := 343) dL_law_343 (cw_L_119 _ rfl) ⟨by decide, by decide⟩ (Nat.le_of_ble_eq_true rfl) (sp_L_frees (t := t + 40) (Wd_t hW (by omega)) (by omega) (by omega) hG.1.1 (fun mm ee W => ?_))
                        show wpL 346 _ _ _ _ _
                        obtain ⟨fr, hfr⟩ : ∃ fr, fr = frN A 8 := ⟨_, rfl⟩
                        rw [← hfr]
                        refine wq_istore (pc := 346) (L' := [(20, _), (19, _), (18, _), (17, _), (0, _), (1, _), (2, _), (3, _), (4, _), (5, _), (6, _), (7, _), (8, _), (10, _), (11, _), (12, _), (13, _), (14, _), (15, _), (16, _)]) dL_law_346 rfl (by decide) ?_
                        refine wq_iconst (pc := 348) dL_law_348 ?_
                        refine wq_istore (pc := 349) (L' := [(21, _), (20, _), (19, _), (18, _), (17, _), (0, _), (1, _), (2, _), (3, _), (4, _), (5, _), (6, _), (7, _), (8, _), (10, _), (11, _), (12, _), (13, _), (14, _), (15, _), (16, _)]) dL_law_349 rfl (by decide) ?_
                        refine wq_iconst (pc := 351) dL_law_351 ?_
                        refine wq_istore (pc := 352) (L' := [(22, _), (21, _), (20, _), (19, _), (18, _), (17, _), (0, _), (1, _), (2, _), (3, _), (4, _), (5, _), (6, _), (7, _), (8, _), (10, _), (11, _), (12, _), (13, _), (14, _), (15, _), (16, _)]) dL_law_352 rfl (by decide) ?_
                        refine wq_sub1 (L' := [(0, _), (1, _), (2, _), (3, _), (4, _), (5, _), (6, _), (7, _), (8, _), (10, _), (11, _), (12, _), (13, _), (14, _), (15, _), (16, _), (17, _), (18, _), (19, _), (20, _), (21, _), (22, _)]) ⟨rfl, rfl, rfl, rfl, rfl, rfl, rfl, rfl, rfl, rfl, rfl, rfl, rfl, rfl, rfl, rfl, rfl, rfl, rfl, rfl, rfl, rfl, trivial⟩ ?_
                        exact lw_case (t := t) (A := A) (X := X) (nb := nb) (vb := vb) ⟨W, hS.2⟩ hnb (by omega) hvb0 hn2 hy ht ⟨hdz, hb, hd22, hnm, hnm2, hf, hs, ha, hfr⟩ (fun A1 X1 m e w q => H _ A1 X1 m e w hy q) hkd hvb2
                      · skip
                        show wpL 329 _ _ _ _ _
                        have hb : ((0 : Int) = 1 ∧ isDr A dz) ∨ ((0 : Int) = 0 ∧ ¬ isDr A dz) := Or.inr ⟨rfl, fun z => hq ((GA_dr hG dz).mpr z)⟩
                        refine wq_istore (pc := 329) (L' := [(18, _), (17, _), (0, _), (1, _), (2, _), (3, _), (4, _), (5, _), (6, _), (7, _), (8, _), (10, _), (11, _), (12, _), (13, _), (14, _), (15, _), (16, _)]) dL_law_329 rfl (by decide) ?_
                        refine wq_aload_n (pc := 331) dL_law_331 rfl rfl ?_
                        refine wq_aload_n (pc := 332) dL_law_332 rfl rfl ?_
                        refine wq_iload (pc := 333) dL_law_333 rfl ?_
                        refine wq_iload (pc := 335) dL_law_335 rfl ?_
                        refine lS_4 (pc := 337) dL_law_337 (cw_L_98 _ rfl) ⟨by decide, by decide⟩ (Nat.le_of_ble_eq_true rfl) (sW_find hW hX.1 (by unfold inR; omega) (by unfold inR; omega) ?_)
                        show wpL 340 _ _ _ _ _
                        obtain ⟨a, ha⟩ : ∃ a, a = lsP (pF (X 22) dz nm) (X 21 0).toNat := ⟨_, rfl⟩
                        rw [← ha]
                        refine wq_istore (pc := 340) (L' := [(19, _), (18, _), (17, _), (0, _), (1, _), (2, _), (3, _), (4, _), (5, _), (6, _), (7, _), (8, _), (10, _), (11, _), (12, _), (13, _), (14, _), (15, _), (16, _)]) dL_law_340 rfl (by decide) ?_
                        refine wq_aload_n (pc := 342) dL_law_342 rfl rfl ?_
                        refine lS_1 (pc := 343) dL_law_343 (cw_L_119 _ rfl) ⟨by decide, by decide⟩ (Nat.le_of_ble_eq_true rfl) (sp_L_frees (t := t + 40) (Wd_t hW (by omega)) (by omega) (by omega) hG.1.1 (fun mm ee W => ?_))
                        show wpL 346 _ _ _ _ _
                        obtain ⟨fr, hfr⟩ : ∃ fr, fr = frN A 8 := ⟨_, rfl⟩
                        rw [← hfr]
                        refine wq_istore (pc := 346) (L' := [(20, _), (19, _), (18, _), (17, _), (0, _), (1, _), (2, _), (3, _), (4, _), (5, _), (6, _), (7, _), (8, _), (10, _), (11, _), (12, _), (13, _), (14, _), (15, _), (16, _)]) dL_law_346 rfl (by decide) ?_
                        refine wq_iconst (pc := 348) dL_law_348 ?_
                        refine wq_istore (pc := 349) (L' := [(21, _), (20, _), (19, _), (18, _), (17, _), (0, _), (1, _), (2, _), (3, _), (4, _), (5, _), (6, _), (7, _), (8, _), (10, _), (11, _), (12, _), (13, _), (14, _), (15, _), (16, _)]) dL_law_349 rfl (by decide) ?_
                        refine wq_iconst (pc := 351) dL_law_351 ?_
                        refine wq_istore (pc := 352) (L' := [(22, _), (21, _), (20, _), (19, _), (18, _), (17, _), (0, _), (1, _), (2, _), (3, _), (4, _), (5, _), (6, _), (7, _), (8, _), (10, _), (11, _), (12, _), (13, _), (14, _), (15, _), (16, _)]) dL_law_352 rfl (by decide) ?_
                        refine wq_sub1 (L' := [(0, _), (1, _), (2, _), (3, _), (4, _), (5, _), (6, _), (7, _), (8, _), (10, _), (11, _), (12, _), (13, _), (14, _), (15, _), (16, _), (17, _), (18, _), (19, _), (20, _), (21, _), (22, _)]) ⟨rfl, rfl, rfl, rfl, rfl, rfl, rfl, rfl, rfl, rfl, rfl, rfl, rfl, rfl, rfl, rfl, rfl, rfl, rfl, rfl, rfl, rfl, trivial⟩ ?_
                        exact lw_case (t := t) (A := A) (X := X) (nb := nb) (vb := vb) ⟨W, hS.2⟩ hnb (by omega) hvb0 hn2 hy ht ⟨hdz, hb, hd22, hnm, hnm2, hf, hs, ha, hfr⟩ (fun A1 X1 m e w q => H _ A1 X1 m e w hy q) hkd hvb2
                    refine wq_aload_n (pc := 287) dL_law_287 rfl rfl ?_
                    refine wq_iconst (pc := 288) dL_law_288 ?_
                    refine wq_ialdX (pc := 289) dL_law_289 (by with_reducible assumption) rfl (by omega) (by omega) ?_
                    refine wq_if_ne (pc := 290) (tgt := 299) dL_law_290 (by decide) (by first | (unfold inR; omega) | assumption | exact hr2 _ | exact hr3 _ | exact hr4 _) (fun c14 => ?_) (fun c14 => ?_)
                    · skip
                      have hm1 := Int.emod_nonneg (y / 5) (show X 21 1 ≠ 0 by omega)
                      have hm2 := Int.emod_lt_of_pos (y / 5) (show 0 < X 21 1 by omega)
                      refine wq_aload (pc := 299) dL_law_299 rfl ?_
                      refine wq_iload (pc := 301) dL_law_301 rfl ?_
                      refine wq_iconst (pc := 303) dL_law_303 ?_
                      refine wq_idiv (pc := 304) dL_law_304 (by omega) (by omega) ?_
                      refine wq_aload_n (pc := 305) dL_law_305 rfl rfl ?_
                      refine wq_iconst (pc := 306) dL_law_306 ?_
                      refine wq_ialdX (pc := 307) dL_law_307 (by with_reducible assumption) rfl (by omega) (by omega) ?_
                      refine wq_irem (pc := 308) dL_law_308 (by omega) (by omega) ?_
                      refine wq_ialdX (pc := 309) dL_law_309 (by with_reducible assumption) rfl (by omega) (by omega) ?_
                      refine wq_istore (pc := 310) (L' := [(16, _), (0, _), (1, _), (2, _), (3, _), (4, _), (5, _), (6, _), (7, _), (8, _), (10, _), (11, _), (12, _), (13, _), (14, _), (15, _)]) dL_law_310 rfl (by decide) ?_
                      refine wq_sub1 (L' := [(0, _), (1, _), (2, _), (3, _), (4, _), (5, _), (6, _), (7, _), (8, _), (10, _), (11, _), (12, _), (13, _), (14, _), (15, _), (16, _)]) ⟨rfl, rfl, rfl, rfl, rfl, rfl, rfl, rfl, rfl, rfl, rfl, rfl, rfl, rfl, rfl, rfl, trivial⟩ ?_
                      first
                        | exact cut9 _ (by omega)
                        | exact cut9 _ (GA_f hG hm1 hm2).2.2.2.1
                    · skip
                      refine wq_sipush (pc := 293) dL_law_293 (by decide) (by decide) ?_
                      refine wq_goto (pc := 296) (tgt := 310) dL_law_296 (by decide) ?_
                      refine wq_istore (pc := 310) (L' := [(16, _), (0, _), (1, _), (2, _), (3, _), (4, _), (5, _), (6, _), (7, _), (8, _), (10, _), (11, _), (12, _), (13, _), (14, _), (15, _)]) dL_law_310 rfl (by decide) ?_
                      refine wq_sub1 (L' := [(0, _), (1, _), (2, _), (3, _), (4, _), (5, _), (6, _), (7, _), (8, _), (10, _), (11, _), (12, _), (13, _), (14, _), (15, _), (16, _)]) ⟨rfl, rfl, rfl, rfl, rfl, rfl, rfl, rfl, rfl, rfl, rfl, rfl, rfl, rfl, rfl, rfl, trivial⟩ ?_
                      first
                        | exact cut9 _ (by omega)
                        | exact cut9 _ (GA_f hG hm1 hm2).2.2.2.1
                  refine wq_iconst (pc := 275) dL_law_275 ?_
                  refine wq_iload (pc := 276) dL_law_276 rfl ?_
                  refine wq_bipush (pc := 278) dL_law_278 (by decide) (by decide) ?_
                  refine wq_idiv (pc := 280) dL_law_280 (by omega) (by omega) ?_
                  refine wq_bipush (pc := 281) dL_law_281 (by decide) (by decide) ?_
                  refine wq_irem (pc := 283) dL_law_283 (by omega) (by omega) ?_
                  refine wq_iadd (pc := 284) dL_law_284 ?_
                  refine wq_istore (pc := 285) (L' := [(15, _), (0, _), (1, _), (2, _), (3, _), (4, _), (5, _), (6, _), (7, _), (8, _), (10, _), (11, _), (12, _), (13, _), (14, _)]) dL_law_285 rfl (by decide) ?_
                  refine wq_sub1 (L' := [(0, _), (1, _), (2, _), (3, _), (4, _), (5, _), (6, _), (7, _), (8, _), (10, _), (11, _), (12, _), (13, _), (14, _), (15, _)]) ⟨rfl, rfl, rfl, rfl, rfl, rfl, rfl, rfl, rfl, rfl, rfl, rfl, rfl, rfl, rfl, trivial⟩ ?_
                  exact cut8 _ (by omega)
                refine wq_iload (pc := 252) dL_law_252 rfl ?_
                refine wq_bipush (pc := 254) dL_law_254 (by decide) (by decide) ?_
                refine wq_irem (pc := 256) dL_law_256 (by omega) (by omega) ?_
                refine wq_if_ne (pc := 257) (tgt := 264) dL_law_257 (by decide) (by first | (unfold inR; omega) | assumption | exact hr2 _ | exact hr3 _ | exact hr4 _) (fun c15 => ?_) (fun c15 => ?_)
                · skip
                  refine wq_iconst (pc := 264) dL_law_264 ?_
                  refine wq_iload (pc := 265) dL_law_265 rfl ?_
                  refine wq_iconst (pc := 267) dL_law_267 ?_
                  refine wq_idiv (pc := 268) dL_law_268 (by omega) (by omega) ?_
                  refine wq_bipush (pc := 269) dL_law_269 (by decide) (by decide) ?_
                  refine wq_irem (pc := 271) dL_law_271 (by omega) (by omega) ?_
                  refine wq_iadd (pc := 272) dL_law_272 ?_
                  refine wq_istore (pc := 273) (L' := [(14, _), (0, _), (1, _), (2, _), (3, _), (4, _), (5, _), (6, _), (7, _), (8, _), (10, _), (11, _), (12, _), (13, _)]) dL_law_273 rfl (by decide) ?_
                  refine wq_sub1 (L' := [(0, _), (1, _), (2, _), (3, _), (4, _), (5, _), (6, _), (7, _), (8, _), (10, _), (11, _), (12, _), (13, _), (14, _)]) ⟨rfl, rfl, rfl, rfl, rfl, rfl, rfl, rfl, rfl, rfl, rfl, rfl, rfl, rfl, trivial⟩ ?_
                  exact cut7 _ (by omega)
                · skip
                  refine wq_iconst (pc := 260) dL_law_260 ?_
                  refine wq_goto (pc := 261) (tgt := 273) dL_law_261 (by decide) ?_
                  refine wq_istore (pc := 273) (L' := [(14, _), (0, _), (1, _), (2, _), (3, _), (4, _), (5, _), (6, _), (7, _), (8, _), (10, _), (11, _), (12, _), (13, _)]) dL_law_273 rfl (by decide) ?_
                  refine wq_sub1 (L' := [(0, _), (1, _), (2, _), (3, _), (4, _), (5, _), (6, _), (7, _), (8, _), (10, _), (11, _), (12, _), (13, _), (14, _)]) ⟨rfl, rfl, rfl, rfl, rfl, rfl, rfl, rfl, rfl, rfl, rfl, rfl, rfl, rfl, trivial⟩ ?_
                  exact cut7 _ (by omega)
              refine wq_iload (pc := 234) dL_law_234 rfl ?_
              refine wq_bipush (pc := 236) dL_law_236 (by decide) (by decide) ?_
              refine wq_irem (pc := 238) dL_law_238 (by omega) (by omega) ?_
              refine wq_if_ne (pc := 239) (tgt := 248) dL_law_239 (by decide) (by first | (unfold inR; omega) | assumption | exact hr2 _ | exact hr3 _ | exact hr4 _) (fun c16 => ?_) (fun c16 => ?_)
              · skip
                refine wq_iload (pc := 248) dL_law_248 rfl ?_
                refine wq_istore (pc := 250) (L' := [(12, _), (0, _), (1, _), (2, _), (3, _), (4, _), (5, _), (6, _), (7, _), (8, _), (10, _), (11, _), (13, _), (14, _)]) dL_law_250 rfl (by decide) ?_
                refine wq_sub1 (L' := [(0, _), (1, _), (2, _), (3, _), (4, _), (5, _), (6, _), (7, _), (8, _), (10, _), (11, _), (12, _), (13, _)]) ⟨rfl, rfl, rfl, rfl, rfl, rfl, rfl, rfl, rfl, rfl, rfl, rfl, rfl, trivial⟩ ?_
                exact cut6 _ (by omega)
              · skip
                refine wq_sipush (pc := 242) dL_law_242 (by decide) (by decide) ?_
                refine wq_goto (pc := 245) (tgt := 250) dL_law_245 (by decide) ?_
                refine wq_istore (pc := 250) (L' := [(12, _), (0, _), (1, _), (2, _), (3, _), (4, _), (5, _), (6, _), (7, _), (8, _), (10, _), (11, _), (13, _), (14, _)]) dL_law_250 rfl (by decide) ?_
                refine wq_sub1 (L' := [(0, _), (1, _), (2, _), (3, _), (4, _), (5, _), (6, _), (7, _), (8, _), (10, _), (11, _), (12, _), (13, _)]) ⟨rfl, rfl, rfl, rfl, rfl, rfl, rfl, rfl, rfl, rfl, rfl, rfl, rfl, trivial⟩ ?_
                exact cut6 _ (by omega)
            · skip
              have cut17 : ∀ (d : Int), ((isDr A d ∧ 1 ≤ d ∧ d < 2000)) → wpL 187 [(0, vR (-1)), (1, vR 1), (2, vR 21), (3, vR 22), (4, vR 23), (5, vR 24), (6, vR 25), (7, vI 1), (8, vI turn), (10, vI kd), (11, vI y), (12, vI d), (13, vI d2), (14, vI (k : Int))] [] μ ε Q := by
                intro d e0
                have cut18 : ∀ (d2 : Int), ((isDr A d2 ∧ 1 ≤ d2 ∧ d2 < 2000)) → wpL 228 [(0, vR (-1)), (1, vR 1), (2, vR 21), (3, vR 22), (4, vR 23), (5, vR 24), (6, vR 25), (7, vI 1), (8, vI turn), (10, vI kd), (11, vI y), (12, vI d), (13, vI d2), (14, vI (k : Int))] [] μ ε Q := by
                  intro d2 e0
                  refine wq_iinc (pc := 228) (L' := [(14, _), (0, _), (1, _), (2, _), (3, _), (4, _), (5, _), (6, _), (7, _), (8, _), (10, _), (11, _), (12, _), (13, _)]) dL_law_228 rfl rfl (by decide) ?_
                  refine wq_goto (pc := 231) (tgt := 138) dL_law_231 (by decide) ?_
                  refine wq_sub1 (L' := [(0, _), (1, _), (2, _), (3, _), (4, _), (5, _), (6, _), (7, _), (8, _), (10, _), (11, _), (12, _), (13, _), (14, _)]) ⟨rfl, rfl, rfl, rfl, rfl, rfl, rfl, rfl, rfl, rfl, rfl, rfl, rfl, rfl, trivial⟩ ?_
                  exact ih (k + 1) _ _ _ (by omega) (by omega) (by omega) (by assumption) (by assumption)
                refine wq_aload_n (pc := 187) dL_law_187 rfl rfl ?_
                refine wq_iconst (pc := 188) dL_law_188 ?_
                refine wq_iload (pc := 189) dL_law_189 rfl ?_
                refine wq_imul (pc := 191) dL_law_191 ?_
                refine wq_iconst (pc := 192) dL_law_192 ?_
                refine wq_iadd (pc := 193) dL_law_193 ?_
                refine wq_ialdX (pc := 194) dL_law_194 (by with_reducible assumption) rfl (by omega) (by omega) ?_
                refine wq_iconst (pc := 195) dL_law_195 ?_
                refine wq_icmp_ne (pc := 196) (tgt := 224) dL_law_196 (by decide) (by first | (unfold inR; omega) | assumption | exact hr2 _ | exact hr3 _ | exact hr4 _) (by first | (unfold inR; omega) | assumption | exact hr2 _ | exact hr3 _ | exact hr4 _) (fun c19 => ?_) (fun c19 => ?_)
                · skip
                  refine wq_iload (pc := 224) dL_law_224 rfl ?_
                  refine wq_istore (pc := 226) (L' := [(13, _), (0, _), (1, _), (2, _), (3, _), (4, _), (5, _), (6, _), (7, _), (8, _), (10, _), (11, _), (12, _), (14, _)]) dL_law_226 rfl (by decide) ?_
                  refine wq_sub1 (L' := [(0, _), (1, _), (2, _), (3, _), (4, _), (5, _), (6, _), (7, _), (8, _), (10, _), (11, _), (12, _), (13, _), (14, _)]) ⟨rfl, rfl, rfl, rfl, rfl, rfl, rfl, rfl, rfl, rfl, rfl, rfl, rfl, rfl, trivial⟩ ?_
                  first
                    | exact cut18 _ e2
                    | (have hge := GA_e hG (i := (k : Int)) (by omega) (by omega)
                       exact cut18 _ ⟨(hge.2.2.2.resolve_right (fun z => by have := z.1; omega)).2, by omega, by omega⟩)
                · skip
                  refine wq_iload (pc := 199) dL_law_199 rfl ?_
                  refine wq_bipush (pc := 201) dL_law_201 (by decide) (by decide) ?_
                  refine wq_idiv (pc := 203) dL_law_203 (by omega) (by omega) ?_
                  refine wq_iconst (pc := 204) dL_law_204 ?_
                  refine wq_irem (pc := 205) dL_law_205 (by omega) (by omega) ?_
                  refine wq_iload (pc := 206) dL_law_206 rfl ?_
                  refine wq_iconst (pc := 208) dL_law_208 ?_
                  refine wq_irem (pc := 209) dL_law_209 (by omega) (by omega) ?_
                  refine wq_icmp_ne (pc := 210) (tgt := 224) dL_law_210 (by decide) (by first | (unfold inR; omega) | assumption | exact hr2 _ | exact hr3 _ | exact hr4 _) (by first | (unfold inR; omega) | assumption | exact hr2 _ | exact hr3 _ | exact hr4 _) (fun c20 => ?_) (fun c20 => ?_)
                  · skip
                    refine wq_iload (pc := 224) dL_law_224 rfl ?_
                    refine wq_istore (pc := 226) (L' := [(13, _), (0, _), (1, _), (2, _), (3, _), (4, _), (5, _), (6, _), (7, _), (8, _), (10, _), (11, _), (12, _), (14, _)]) dL_law_226 rfl (by decide) ?_
                    refine wq_sub1 (L' := [(0, _), (1, _), (2, _), (3, _), (4, _), (5, _), (6, _), (7, _), (8, _), (10, _), (11, _), (12, _), (13, _), (14, _)]) ⟨rfl, rfl, rfl, rfl, rfl, rfl, rfl, rfl, rfl, rfl, rfl, rfl, rfl, rfl, trivial⟩ ?_
                    first
                      | exact cut18 _ e2
                      | (have hge := GA_e hG (i := (k : Int)) (by omega) (by omega)
                         exact cut18 _ ⟨(hge.2.2.2.resolve_right (fun z => by have := z.1; omega)).2, by omega, by omega⟩)
                  · skip
                    refine wq_aload_n (pc := 213) dL_law_213 rfl rfl ?_
                    refine wq_iconst (pc := 214) dL_law_214 ?_
                    refine wq_iload (pc := 215) dL_law_215 rfl ?_
                    refine wq_imul (pc := 217) dL_law_217 ?_
                    refine wq_iconst (pc := 218) dL_law_218 ?_
                    refine wq_iadd (pc := 219) dL_law_219 ?_
                    refine wq_ialdX (pc := 220) dL_law_220 (by with_reducible assumption) rfl (by omega) (by omega) ?_
                    refine wq_goto (pc := 221) (tgt := 226) dL_law_221 (by decide) ?_
                    refine wq_istore (pc := 226) (L' := [(13, _), (0, _), (1, _), (2, _), (3, _), (4, _), (5, _), (6, _), (7, _), (8, _), (10, _), (11, _), (12, _), (14, _)]) dL_law_226 rfl (by decide) ?_
                    refine wq_sub1 (L' := [(0, _), (1, _), (2, _), (3, _), (4, _), (5, _), (6, _), (7, _), (8, _), (10, _), (11, _), (12, _), (13, _), (14, _)]) ⟨rfl, rfl, rfl, rfl, rfl, rfl, rfl, rfl, rfl, rfl, rfl, rfl, rfl, rfl, trivial⟩ ?_
                    first
                      | exact cut18 _ e2
                      | (have hge := GA_e hG (i := (k : Int)) (by omega) (by omega)
                         exact cut18 _ ⟨(hge.2.2.2.resolve_right (fun z => by have := z.1; omega)).2, by omega, by omega⟩)
              refine wq_aload_n (pc := 146) dL_law_146 rfl rfl ?_
              refine wq_iconst (pc := 147) dL_law_147 ?_
              refine wq_iload (pc := 148) dL_law_148 rfl ?_
              refine wq_imul (pc := 150) dL_law_150 ?_
              refine wq_iconst (pc := 151) dL_law_151 ?_
              refine wq_iadd (pc := 152) dL_law_152 ?_
              refine wq_ialdX (pc := 153) dL_law_153 (by with_reducible assumption) rfl (by omega) (by omega) ?_
              refine wq_iconst (pc := 154) dL_law_154 ?_
              refine wq_icmp_ne (pc := 155) (tgt := 183) dL_law_155 (by decide) (by first | (unfold inR; omega) | assumption | exact hr2 _ | exact hr3 _ | exact hr4 _) (by first | (unfold inR; omega) | assumption | exact hr2 _ | exact hr3 _ | exact hr4 _) (fun c21 => ?_) (fun c21 => ?_)
              · skip
                refine wq_iload (pc := 183) dL_law_183 rfl ?_
                refine wq_istore (pc := 185) (L' := [(12, _), (0, _), (1, _), (2, _), (3, _), (4, _), (5, _), (6, _), (7, _), (8, _), (10, _), (11, _), (13, _), (14, _)]) dL_law_185 rfl (by decide) ?_
                refine wq_sub1 (L' := [(0, _), (1, _), (2, _), (3, _), (4, _), (5, _), (6, _), (7, _), (8, _), (10, _), (11, _), (12, _), (13, _), (14, _)]) ⟨rfl, rfl, rfl, rfl, rfl, rfl, rfl, rfl, rfl, rfl, rfl, rfl, rfl, rfl, trivial⟩ ?_
                first
                  | exact cut17 _ e1
                  | (have hge := GA_e hG (i := (k : Int)) (by omega) (by omega)
                     exact cut17 _ ⟨(hge.2.2.2.resolve_right (fun z => by have := z.1; omega)).2, by omega, by omega⟩)
              · skip
                refine wq_iload (pc := 158) dL_law_158 rfl ?_
                refine wq_bipush (pc := 160) dL_law_160 (by decide) (by decide) ?_
                refine wq_idiv (pc := 162) dL_law_162 (by omega) (by omega) ?_
                refine wq_iconst (pc := 163) dL_law_163 ?_
                refine wq_irem (pc := 164) dL_law_164 (by omega) (by omega) ?_
                refine wq_iload (pc := 165) dL_law_165 rfl ?_
                refine wq_iconst (pc := 167) dL_law_167 ?_
                refine wq_irem (pc := 168) dL_law_168 (by omega) (by omega) ?_
                refine wq_icmp_ne (pc := 169) (tgt := 183) dL_law_169 (by decide) (by first | (unfold inR; omega) | assumption | exact hr2 _ | exact hr3 _ | exact hr4 _) (by first | (unfold inR; omega) | assumption | exact hr2 _ | exact hr3 _ | exact hr4 _) (fun c22 => ?_) (fun c22 => ?_)
                · skip
                  refine wq_iload (pc := 183) dL_law_183 rfl ?_
                  refine wq_istore (pc := 185) (L' := [(12, _), (0, _), (1, _), (2, _), (3, _), (4, _), (5, _), (6, _), (7, _), (8, _), (10, _), (11, _), (13, _), (14, _)]) dL_law_185 rfl (by decide) ?_
                  refine wq_sub1 (L' := [(0, _), (1, _), (2, _), (3, _), (4, _), (5, _), (6, _), (7, _), (8, _), (10, _), (11, _), (12, _), (13, _), (14, _)]) ⟨rfl, rfl, rfl, rfl, rfl, rfl, rfl, rfl, rfl, rfl, rfl, rfl, rfl, rfl, trivial⟩ ?_
                  first
                    | exact cut17 _ e1
                    | (have hge := GA_e hG (i := (k : Int)) (by omega) (by omega)
                       exact cut17 _ ⟨(hge.2.2.2.resolve_right (fun z => by have := z.1; omega)).2, by omega, by omega⟩)
                · skip
                  refine wq_aload_n (pc := 172) dL_law_172 rfl rfl ?_
                  refine wq_iconst (pc := 173) dL_law_173 ?_
                  refine wq_iload (pc := 174) dL_law_174 rfl ?_
                  refine wq_imul (pc := 176) dL_law_176 ?_
                  refine wq_iconst (pc := 177) dL_law_177 ?_
                  refine wq_iadd (pc := 178) dL_law_178 ?_
                  refine wq_ialdX (pc := 179) dL_law_179 (by with_reducible assumption) rfl (by omega) (by omega) ?_
                  refine wq_goto (pc := 180) (tgt := 185) dL_law_180 (by decide) ?_
                  refine wq_istore (pc := 185) (L' := [(12, _), (0, _), (1, _), (2, _), (3, _), (4, _), (5, _), (6, _), (7, _), (8, _), (10, _), (11, _), (13, _), (14, _)]) dL_law_185 rfl (by decide) ?_
                  refine wq_sub1 (L' := [(0, _), (1, _), (2, _), (3, _), (4, _), (5, _), (6, _), (7, _), (8, _), (10, _), (11, _), (12, _), (13, _), (14, _)]) ⟨rfl, rfl, rfl, rfl, rfl, rfl, rfl, rfl, rfl, rfl, rfl, rfl, rfl, rfl, trivial⟩ ?_
                  first
                    | exact cut17 _ e1
                    | (have hge := GA_e hG (i := (k : Int)) (by omega) (by omega)
                       exact cut17 _ ⟨(hge.2.2.2.resolve_right (fun z => by have := z.1; omega)).2, by omega, by omega⟩)
        refine wq_sub1 (L' := [(0, _), (1, _), (2, _), (3, _), (4, _), (5, _), (6, _), (7, _), (8, _), (10, _), (11, _), (12, _), (13, _), (14, _)]) ⟨rfl, rfl, rfl, rfl, rfl, rfl, rfl, rfl, rfl, rfl, rfl, rfl, rfl, rfl, trivial⟩ ?_
        exact loop4 ((X 21 0).toNat + 1) 0 _ _ 0 (by omega) (by omega) rfl ⟨isDr_1 A, by omega, by omega⟩ ⟨isDr_1 A, by omega, by omega⟩
      refine wq_iload (pc := 122) dL_law_122 rfl ?_
      refine wq_bipush (pc := 124) dL_law_124 (by decide) (by decide) ?_
      refine wq_idiv (pc := 126) dL_law_126 (by omega) (by omega) ?_
      refine wq_istore (pc := 127) (L' := [(11, _), (0, _), (1, _), (2, _), (3, _), (4, _), (5, _), (6, _), (7, _), (8, _), (9, _), (10, _)]) dL_law_127 rfl (by decide) ?_
      refine wq_sub1 (L' := [(0, _), (1, _), (2, _), (3, _), (4, _), (5, _), (6, _), (7, _), (8, _), (10, _), (11, _)]) ⟨rfl, rfl, rfl, rfl, rfl, rfl, rfl, rfl, rfl, rfl, rfl, trivial⟩ ?_
      exact cut3 _ (by omega)
    refine wq_iload (pc := 105) dL_law_105 rfl ?_
    refine wq_iconst (pc := 107) dL_law_107 ?_
    refine wq_icmp_ge (pc := 108) (tgt := 115) dL_law_108 (by decide) (by first | (unfold inR; omega) | assumption | exact hr2 _ | exact hr3 _ | exact hr4 _) (by first | (unfold inR; omega) | assumption | exact hr2 _ | exact hr3 _ | exact hr4 _) (fun c23 => ?_) (fun c23 => ?_)
    · skip
      refine wq_iload (pc := 115) dL_law_115 rfl ?_
      refine wq_bipush (pc := 117) dL_law_117 (by decide) (by decide) ?_
      refine wq_irem (pc := 119) dL_law_119 (by omega) (by omega) ?_
      refine wq_istore (pc := 120) (L' := [(10, _), (0, _), (1, _), (2, _), (3, _), (4, _), (5, _), (6, _), (7, _), (8, _), (9, _)]) dL_law_120 rfl (by decide) ?_
      refine wq_sub1 (L' := [(0, _), (1, _), (2, _), (3, _), (4, _), (5, _), (6, _), (7, _), (8, _), (9, _), (10, _)]) ⟨rfl, rfl, rfl, rfl, rfl, rfl, rfl, rfl, rfl, rfl, rfl, trivial⟩ ?_
      exact cut2 _ (by omega)
    · skip
      refine wq_iconst (pc := 111) dL_law_111 ?_
      refine wq_goto (pc := 112) (tgt := 120) dL_law_112 (by decide) ?_
      refine wq_istore (pc := 120) (L' := [(10, _), (0, _), (1, _), (2, _), (3, _), (4, _), (5, _), (6, _), (7, _), (8, _), (9, _)]) dL_law_120 rfl (by decide) ?_
      refine wq_sub1 (L' := [(0, _), (1, _), (2, _), (3, _), (4, _), (5, _), (6, _), (7, _), (8, _), (9, _), (10, _)]) ⟨rfl, rfl, rfl, rfl, rfl, rfl, rfl, rfl, rfl, rfl, rfl, trivial⟩ ?_
      exact cut2 _ (by omega)
  refine wq_iload (pc := 65) dL_law_65 rfl ?_
  refine wq_aload_n (pc := 67) dL_law_67 rfl rfl ?_
  refine wq_slen (pc := 68) dL_law_68 ?_
  refine wq_icmp_ge (pc := 69) (tgt := 82) dL_law_69 (by decide) (by first | (unfold inR; omega) | assumption | exact hr2 _ | exact hr3 _ | exact hr4 _) (by first | (unfold inR; omega) | assumption | exact hr2 _ | exact hr3 _ | exact hr4 _) (fun c24 => ?_) (fun c24 => ?_)
  · skip
    refine wq_ldc (pc := 82) dL_law_82 (kc_L_115 _ rfl) ?_
    refine wq_iload (pc := 84) dL_law_84 rfl ?_
    refine wq_imul (pc := 86) dL_law_86 ?_
    refine wq_iload (pc := 87) dL_law_87 rfl ?_
    refine wq_imul (pc := 89) dL_law_89 ?_
    refine wq_sipush (pc := 90) dL_law_90 (by decide) (by decide) ?_
    refine wq_iload (pc := 93) dL_law_93 rfl ?_
    refine wq_imul (pc := 95) dL_law_95 ?_
    refine wq_iadd (pc := 96) dL_law_96 ?_
    refine wq_bipush (pc := 97) dL_law_97 (by decide) (by decide) ?_
    refine wq_iadd (pc := 99) dL_law_99 ?_
    refine wq_ldc (pc := 100) dL_law_100 (kc_L_114 _ rfl) ?_
    refine wq_iand (pc := 102) dL_law_102 ?_
    refine wq_istore (pc := 103) (L' := [(9, _), (0, _), (1, _), (2, _), (3, _), (4, _), (5, _), (6, _), (7, _), (8, _)]) dL_law_103 rfl (by decide) ?_
    refine wq_sub1 (L' := [(0, _), (1, _), (2, _), (3, _), (4, _), (5, _), (6, _), (7, _), (8, _), (9, _)]) ⟨rfl, rfl, rfl, rfl, rfl, rfl, rfl, rfl, rfl, rfl, trivial⟩ ?_
    exact cut1 _ (iAnd_p _)
  · skip
    refine wq_aload_n (pc := 72) dL_law_72 rfl rfl ?_
    refine wq_iload (pc := 73) dL_law_73 rfl ?_
    refine wq_sld (pc := 75) dL_law_75 (by omega) (by omega) ?_
    refine wq_ldc (pc := 76) dL_law_76 (kc_L_114 _ rfl) ?_
    refine wq_iand (pc := 78) dL_law_78 ?_
    refine wq_goto (pc := 79) (tgt := 103) dL_law_79 (by decide) ?_
    refine wq_istore (pc := 103) (L' := [(9, _), (0, _), (1, _), (2, _), (3, _), (4, _), (5, _), (6, _), (7, _), (8, _)]) dL_law_103 rfl (by decide) ?_
    refine wq_sub1 (L' := [(0, _), (1, _), (2, _), (3, _), (4, _), (5, _), (6, _), (7, _), (8, _), (9, _)]) ⟨rfl, rfl, rfl, rfl, rfl, rfl, rfl, rfl, rfl, rfl, trivial⟩ ?_
    exact cut1 _ (iAnd_p _)
