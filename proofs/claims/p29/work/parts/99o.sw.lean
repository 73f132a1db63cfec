theorem lw_wy {μ : nMem} {ε : nEnv} {Q : nOut → nMem → nEnv → Prop} {N : Int} {A : AS} {nb vb : Int} {t : Nat} {X : nMem} {turn kd y d d2 nm nm2 f s b a fr : Int} {n9 o bb : Int} (hS : ST N A nb vb (t + 1) X μ ε 0) (hnb : nb + 1 ≤ 490) (hvb : vb + 2 ≤ 4000) (hvb0 : 0 ≤ vb) (hn2 : 2 ≤ nb) (ry : 0 ≤ y ∧ y ≤ 2147483647) (ht : 0 ≤ turn ∧ turn < 120) (hF : LF A X d d2 nm nm2 f s b a fr) (H : ∀ A1 X1 m e w, ST N A1 (nb + 1) (vb + 2) t X1 m e w → wpL 2040 [(0, vR (-1)), (1, vR 1), (2, vR 21), (3, vR 22), (4, vR 23), (5, vR 24), (6, vR 25), (7, vI 1), (8, vI turn), (11, vI y), (22, vI w)] [] m e Q) (hno : (1 ≤ n9 ∧ n9 ≤ 8) ∧ 0 ≤ o ∧ o < 60) (hc : 0 ≤ s ∧ o + n9 ≤ 64) : wpL 1547 [(0, vR (-1)), (1, vR 1), (2, vR 21), (3, vR 22), (4, vR 23), (5, vR 24), (6, vR 25), (7, vI 1), (8, vI turn), (10, vI kd), (11, vI y), (12, vI d), (13, vI d2), (14, vI nm), (15, vI nm2), (16, vI f), (17, vI s), (18, vI b), (19, vI a), (20, vI fr), (21, vI 0), (22, vI 0), (23, vI n9), (24, vI o), (25, vJ bb), (27, vI 1)] [] μ ε Q := by
  obtain ⟨⟨hW, hG, hX, hi⟩, ⟨hD, hJ, hV, hZ⟩, fl, SS, hP, hTS⟩ := ST_0 hS
  obtain ⟨f1, f2, f3, f4, f5, f6, f7, f8, f9⟩ := id hF
  obtain ⟨⟨⟨hn0, hn15⟩, ⟨hm0, hm8⟩, hr2, hr3, hr4⟩, hn14, hm7⟩ := id hX
  have hs9 := GA_slot hG f
  have ha9 := GA_find hG d nm
  rw [← f7] at hs9
  rw [← f8] at ha9
  have hfr9 := (frN_le A).2
  rw [← f9] at hfr9
  clear f7 f8 f9
  have hgf := (GA_f hG (i := s) (by omega) (by omega)).2.2.2.2
  have cut1 : ∀ (q : Int), (q = max (X 24 s) (o + n9)) → wpL 1584 [(0, vR (-1)), (1, vR 1), (2, vR 21), (3, vR 22), (4, vR 23), (5, vR 24), (6, vR 25), (7, vI 1), (8, vI turn), (10, vI kd), (11, vI y), (12, vI d), (13, vI d2), (14, vI nm), (15, vI nm2), (16, vI f), (17, vI s), (18, vI b), (19, vI a), (20, vI fr), (21, vI 0), (22, vI 0), (23, vI n9), (24, vI o), (25, vJ bb), (27, vI 1), (28, vI q)] [] μ ε Q := by
    intro q e0
    refine wq_aload_n (pc := 1584) dL_law_1584 rfl rfl ?_
    refine wq_iload (pc := 1585) dL_law_1585 rfl ?_
    refine wq_iload (pc := 1587) dL_law_1587 rfl ?_
    refine wq_lload (pc := 1589) dL_law_1589 rfl ?_
    refine wq_iload (pc := 1591) dL_law_1591 rfl ?_
    refine cW_5 (pc := 1593) dL_law_1593 (cw_L_150 _ rfl) ⟨by decide, by decide⟩ (Nat.le_of_ble_eq_true rfl) (qc_write hS hnb hvb hF (by omega) (by omega) (fun r mm ee hE hr => ?_) (fun mm ee hE hr => ?_) (fun A1 mm ee hE hr => ?_) (fun A1 r mm ee W hr hJA hz => ?_))
    · skip
      exfalso; omega
    · skip
      show wpL 1596 _ _ _ _ _
      have WE := hE.1
      refine wq_istore (pc := 1596) (L' := [(21, _), (0, _), (1, _), (2, _), (3, _), (4, _), (5, _), (6, _), (7, _), (8, _), (10, _), (11, _), (12, _), (13, _), (14, _), (15, _), (16, _), (17, _), (18, _), (19, _), (20, _), (22, _), (23, _), (24, _), (25, _), (27, _), (28, _)]) dL_law_1596 rfl (by decide) ?_
      refine wq_iload (pc := 1598) dL_law_1598 rfl ?_
      refine wq_bipush (pc := 1600) dL_law_1600 (by decide) (by decide) ?_
      refine wq_icmp_ne (pc := 1602) (tgt := 1609) dL_law_1602 (by decide) (by first | (unfold inR; omega) | assumption | exact hr2 _ | exact hr3 _ | exact hr4 _) (by first | (unfold inR; omega) | assumption | exact hr2 _ | exact hr3 _ | exact hr4 _) (fun _ => ?_) (fun c9 => by exfalso; omega)
      refine wq_iconst (pc := 1609) dL_law_1609 ?_
      refine wq_istore (pc := 1610) (L' := [(22, _), (21, _), (0, _), (1, _), (2, _), (3, _), (4, _), (5, _), (6, _), (7, _), (8, _), (10, _), (11, _), (12, _), (13, _), (14, _), (15, _), (16, _), (17, _), (18, _), (19, _), (20, _), (23, _), (24, _), (25, _), (27, _), (28, _)]) dL_law_1610 rfl (by decide) ?_
      refine wq_iload (pc := 1612) dL_law_1612 rfl ?_
      refine wq_if_ne (pc := 1614) (tgt := 1642) dL_law_1614 (by decide) (by first | (unfold inR; omega) | assumption | exact hr2 _ | exact hr3 _ | exact hr4 _) (fun _ => ?_) (fun c => absurd c (by decide))
      refine wq_iload (pc := 1642) dL_law_1642 rfl ?_
      refine wq_iload (pc := 1644) dL_law_1644 rfl ?_
      refine wq_icmp_eq (pc := 1646) (tgt := 1667) dL_law_1646 (by decide) (by first | (unfold inR; omega) | assumption | exact hr2 _ | exact hr3 _ | exact hr4 _) (by first | (unfold inR; omega) | assumption | exact hr2 _ | exact hr3 _ | exact hr4 _) (fun c9 => by exfalso; omega) (fun c8 => ?_)
      refine wq_iload (pc := 1649) dL_law_1649 rfl ?_
      refine wq_if_ne (pc := 1651) (tgt := 1667) dL_law_1651 (by decide) (by first | (unfold inR; omega) | assumption | exact hr2 _ | exact hr3 _ | exact hr4 _) (fun c => absurd c (by decide)) (fun _ => ?_)
      refine wq_iload (pc := 1654) dL_law_1654 rfl ?_
      refine wq_bipush (pc := 1656) dL_law_1656 (by decide) (by decide) ?_
      refine wq_icmp_ne (pc := 1658) (tgt := 1671) dL_law_1658 (by decide) (by first | (unfold inR; omega) | assumption | exact hr2 _ | exact hr3 _ | exact hr4 _) (by first | (unfold inR; omega) | assumption | exact hr2 _ | exact hr3 _ | exact hr4 _) (fun c9 => by exfalso; omega) (fun _ => ?_)
      refine wq_iload (pc := 1661) dL_law_1661 rfl ?_
      refine wq_iconst (pc := 1663) dL_law_1663 ?_
      refine wq_icmp_ge (pc := 1664) (tgt := 1671) dL_law_1664 (by decide) (by first | (unfold inR; omega) | assumption | exact hr2 _ | exact hr3 _ | exact hr4 _) (by first | (unfold inR; omega) | assumption | exact hr2 _ | exact hr3 _ | exact hr4 _) (fun c9 => by exfalso; omega) (fun c11 => ?_)
      refine wq_iconst (pc := 1667) dL_law_1667 ?_
      refine wq_goto (pc := 1668) (tgt := 1672) dL_law_1668 (by decide) ?_
      refine wq_istore (pc := 1672) (L' := [(7, _), (22, _), (21, _), (0, _), (1, _), (2, _), (3, _), (4, _), (5, _), (6, _), (8, _), (10, _), (11, _), (12, _), (13, _), (14, _), (15, _), (16, _), (17, _), (18, _), (19, _), (20, _), (23, _), (24, _), (25, _), (27, _), (28, _)]) dL_law_1672 rfl (by decide) ?_
      refine wq_iconst (pc := 1674) dL_law_1674 ?_
      refine wq_istore (pc := 1675) (L' := [(29, _), (7, _), (22, _), (21, _), (0, _), (1, _), (2, _), (3, _), (4, _), (5, _), (6, _), (8, _), (10, _), (11, _), (12, _), (13, _), (14, _), (15, _), (16, _), (17, _), (18, _), (19, _), (20, _), (23, _), (24, _), (25, _), (27, _), (28, _)]) dL_law_1675 rfl (by decide) ?_
      refine wq_iload (pc := 1677) dL_law_1677 rfl ?_
      refine wq_iload (pc := 1679) dL_law_1679 rfl ?_
      refine wq_icmp_ge (pc := 1681) (tgt := 1727) dL_law_1681 (by decide) (by first | (unfold inR; omega) | assumption | exact hr2 _ | exact hr3 _ | exact hr4 _) (by first | (unfold inR; omega) | assumption | exact hr2 _ | exact hr3 _ | exact hr4 _) (fun c9 => by exfalso; omega) (fun c12 => ?_)
      refine wq_iload (pc := 1684) dL_law_1684 rfl ?_
      refine wq_if_eq (pc := 1686) (tgt := 1727) dL_law_1686 (by decide) (by first | (unfold inR; omega) | assumption | exact hr2 _ | exact hr3 _ | exact hr4 _) (fun c => absurd c (by decide)) (fun _ => ?_)
      refine wq_iload (pc := 1689) dL_law_1689 rfl ?_
      refine wq_if_le (pc := 1691) (tgt := 1727) dL_law_1691 (by decide) (by first | (unfold inR; omega) | assumption | exact hr2 _ | exact hr3 _ | exact hr4 _) (fun _ => ?_) (fun c => absurd c (by decide))
      refine wq_goto (pc := 1727) (tgt := 2040) dL_law_1727 (by decide) ?_
      refine wq_sub1 (L' := [(0, _), (1, _), (2, _), (3, _), (4, _), (5, _), (6, _), (7, _), (8, _), (11, _), (22, _)]) ⟨rfl, rfl, rfl, rfl, rfl, rfl, rfl, rfl, rfl, rfl, rfl, trivial⟩ ?_
      exact H _ _ _ _ _ (ST_t hE (by omega) (by omega) (by omega) (by omega))
    · skip
      show wpL 1596 _ _ _ _ _
      have WE := hE.1
      refine wq_istore (pc := 1596) (L' := [(21, _), (0, _), (1, _), (2, _), (3, _), (4, _), (5, _), (6, _), (7, _), (8, _), (10, _), (11, _), (12, _), (13, _), (14, _), (15, _), (16, _), (17, _), (18, _), (19, _), (20, _), (22, _), (23, _), (24, _), (25, _), (27, _), (28, _)]) dL_law_1596 rfl (by decide) ?_
      refine wq_iload (pc := 1598) dL_law_1598 rfl ?_
      refine wq_bipush (pc := 1600) dL_law_1600 (by decide) (by decide) ?_
      refine wq_icmp_ne (pc := 1602) (tgt := 1609) dL_law_1602 (by decide) (by first | (unfold inR; omega) | assumption | exact hr2 _ | exact hr3 _ | exact hr4 _) (by first | (unfold inR; omega) | assumption | exact hr2 _ | exact hr3 _ | exact hr4 _) (fun c9 => by exfalso; omega) (fun _ => ?_)
      refine wq_iconst (pc := 1605) dL_law_1605 ?_
      refine wq_goto (pc := 1606) (tgt := 1610) dL_law_1606 (by decide) ?_
      refine wq_istore (pc := 1610) (L' := [(22, _), (21, _), (0, _), (1, _), (2, _), (3, _), (4, _), (5, _), (6, _), (7, _), (8, _), (10, _), (11, _), (12, _), (13, _), (14, _), (15, _), (16, _), (17, _), (18, _), (19, _), (20, _), (23, _), (24, _), (25, _), (27, _), (28, _)]) dL_law_1610 rfl (by decide) ?_
      refine wq_iload (pc := 1612) dL_law_1612 rfl ?_
      refine wq_if_ne (pc := 1614) (tgt := 1642) dL_law_1614 (by decide) (by first | (unfold inR; omega) | assumption | exact hr2 _ | exact hr3 _ | exact hr4 _) (fun _ => ?_) (fun c => absurd c (by decide))
      refine wq_iload (pc := 1642) dL_law_1642 rfl ?_
      refine wq_iload (pc := 1644) dL_law_1644 rfl ?_
      refine wq_icmp_eq (pc := 1646) (tgt := 1667) dL_law_1646 (by decide) (by first | (unfold inR; omega) | assumption | exact hr2 _ | exact hr3 _ | exact hr4 _) (by first | (unfold inR; omega) | assumption | exact hr2 _ | exact hr3 _ | exact hr4 _) (fun c9 => by exfalso; omega) (fun c17 => ?_)
      refine wq_iload (pc := 1649) dL_law_1649 rfl ?_
      refine wq_if_ne (pc := 1651) (tgt := 1667) dL_law_1651 (by decide) (by first | (unfold inR; omega) | assumption | exact hr2 _ | exact hr3 _ | exact hr4 _) (fun _ => ?_) (fun c => absurd c (by decide))
      refine wq_iconst (pc := 1667) dL_law_1667 ?_
      refine wq_goto (pc := 1668) (tgt := 1672) dL_law_1668 (by decide) ?_
      refine wq_istore (pc := 1672) (L' := [(7, _), (22, _), (21, _), (0, _), (1, _), (2, _), (3, _), (4, _), (5, _), (6, _), (8, _), (10, _), (11, _), (12, _), (13, _), (14, _), (15, _), (16, _), (17, _), (18, _), (19, _), (20, _), (23, _), (24, _), (25, _), (27, _), (28, _)]) dL_law_1672 rfl (by decide) ?_
      refine wq_iconst (pc := 1674) dL_law_1674 ?_
      refine wq_istore (pc := 1675) (L' := [(29, _), (7, _), (22, _), (21, _), (0, _), (1, _), (2, _), (3, _), (4, _), (5, _), (6, _), (8, _), (10, _), (11, _), (12, _), (13, _), (14, _), (15, _), (16, _), (17, _), (18, _), (19, _), (20, _), (23, _), (24, _), (25, _), (27, _), (28, _)]) dL_law_1675 rfl (by decide) ?_
      refine wq_iload (pc := 1677) dL_law_1677 rfl ?_
      refine wq_iload (pc := 1679) dL_law_1679 rfl ?_
      refine wq_icmp_ge (pc := 1681) (tgt := 1727) dL_law_1681 (by decide) (by first | (unfold inR; omega) | assumption | exact hr2 _ | exact hr3 _ | exact hr4 _) (by first | (unfold inR; omega) | assumption | exact hr2 _ | exact hr3 _ | exact hr4 _) (fun c9 => by exfalso; omega) (fun c19 => ?_)
      refine wq_iload (pc := 1684) dL_law_1684 rfl ?_
      refine wq_if_eq (pc := 1686) (tgt := 1727) dL_law_1686 (by decide) (by first | (unfold inR; omega) | assumption | exact hr2 _ | exact hr3 _ | exact hr4 _) (fun c => absurd c (by decide)) (fun _ => ?_)
      refine wq_iload (pc := 1689) dL_law_1689 rfl ?_
      refine wq_if_le (pc := 1691) (tgt := 1727) dL_law_1691 (by decide) (by first | (unfold inR; omega) | assumption | exact hr2 _ | exact hr3 _ | exact hr4 _) (fun _ => ?_) (fun c => absurd c (by decide))
      refine wq_goto (pc := 1727) (tgt := 2040) dL_law_1727 (by decide) ?_
      refine wq_sub1 (L' := [(0, _), (1, _), (2, _), (3, _), (4, _), (5, _), (6, _), (7, _), (8, _), (11, _), (22, _)]) ⟨rfl, rfl, rfl, rfl, rfl, rfl, rfl, rfl, rfl, rfl, rfl, trivial⟩ ?_
      exact H _ _ _ _ _ (ST_t hE (by omega) (by omega) (by omega) (by omega))
    · skip
      show wpL 1596 _ _ _ _ _
      have hrr : inR r := by unfold inR; omega
      obtain rfl : r = q := by omega
      refine wq_istore (pc := 1596) (L' := [(21, _), (0, _), (1, _), (2, _), (3, _), (4, _), (5, _), (6, _), (7, _), (8, _), (10, _), (11, _), (12, _), (13, _), (14, _), (15, _), (16, _), (17, _), (18, _), (19, _), (20, _), (22, _), (23, _), (24, _), (25, _), (27, _), (28, _)]) dL_law_1596 rfl (by decide) ?_
      refine wq_iload (pc := 1598) dL_law_1598 rfl ?_
      refine wq_bipush (pc := 1600) dL_law_1600 (by decide) (by decide) ?_
      refine wq_icmp_ne (pc := 1602) (tgt := 1609) dL_law_1602 (by decide) (by first | (unfold inR; omega) | assumption | exact hr2 _ | exact hr3 _ | exact hr4 _) (by first | (unfold inR; omega) | assumption | exact hr2 _ | exact hr3 _ | exact hr4 _) (fun c22 => ?_) (fun c9 => by exfalso; omega)
      refine wq_iconst (pc := 1609) dL_law_1609 ?_
      refine wq_istore (pc := 1610) (L' := [(22, _), (21, _), (0, _), (1, _), (2, _), (3, _), (4, _), (5, _), (6, _), (7, _), (8, _), (10, _), (11, _), (12, _), (13, _), (14, _), (15, _), (16, _), (17, _), (18, _), (19, _), (20, _), (23, _), (24, _), (25, _), (27, _), (28, _)]) dL_law_1610 rfl (by decide) ?_
      refine wq_iload (pc := 1612) dL_law_1612 rfl ?_
      refine wq_if_ne (pc := 1614) (tgt := 1642) dL_law_1614 (by decide) (by first | (unfold inR; omega) | assumption | exact hr2 _ | exact hr3 _ | exact hr4 _) (fun _ => ?_) (fun c => absurd c (by decide))
      refine wq_iload (pc := 1642) dL_law_1642 rfl ?_
      refine wq_iload (pc := 1644) dL_law_1644 rfl ?_
      refine wq_icmp_eq (pc := 1646) (tgt := 1667) dL_law_1646 (by decide) (by first | (unfold inR; omega) | assumption | exact hr2 _ | exact hr3 _ | exact hr4 _) (by first | (unfold inR; omega) | assumption | exact hr2 _ | exact hr3 _ | exact hr4 _) (fun c24 => ?_) (fun c9 => by exfalso; omega)
      refine wq_iconst (pc := 1667) dL_law_1667 ?_
      refine wq_goto (pc := 1668) (tgt := 1672) dL_law_1668 (by decide) ?_
      refine wq_istore (pc := 1672) (L' := [(7, _), (22, _), (21, _), (0, _), (1, _), (2, _), (3, _), (4, _), (5, _), (6, _), (8, _), (10, _), (11, _), (12, _), (13, _), (14, _), (15, _), (16, _), (17, _), (18, _), (19, _), (20, _), (23, _), (24, _), (25, _), (27, _), (28, _)]) dL_law_1672 rfl (by decide) ?_
      refine wq_iconst (pc := 1674) dL_law_1674 ?_
      refine wq_istore (pc := 1675) (L' := [(29, _), (7, _), (22, _), (21, _), (0, _), (1, _), (2, _), (3, _), (4, _), (5, _), (6, _), (8, _), (10, _), (11, _), (12, _), (13, _), (14, _), (15, _), (16, _), (17, _), (18, _), (19, _), (20, _), (23, _), (24, _), (25, _), (27, _), (28, _)]) dL_law_1675 rfl (by decide) ?_
      have loop25 : ∀ (n k : Nat), ∀ (Xk m : nMem) (jj : Int), k ≤ n9.toNat → n9.toNat < k + n → jj = (k : Int) → Wd N A1 (nb + 1) (vb + 2) t Xk m ee → (∀ x j, 21 ≤ x → x ≤ 23 → Xk x j = X x j) → (∀ j, Xk 24 j = if j = s ∧ 0 < (k : Int) then r else X 24 j) → (∀ i p, 0 ≤ i → i < X 21 1 → 0 ≤ p → p < 64 → cB (Xk 25) i p = if i = s ∧ o ≤ p ∧ p < o + (k : Int) then jAnd (jShr bb (8 * (p - o))) 255 else cB (X 25) i p) → (∀ j, inR (Xk (-1) j)) → wpL 1677 [(0, vR (-1)), (1, vR 1), (2, vR 21), (3, vR 22), (4, vR 23), (5, vR 24), (6, vR 25), (7, vI 1), (8, vI turn), (11, vI y), (17, vI s), (21, vI r), (22, vI 0), (23, vI n9), (24, vI o), (25, vJ bb), (27, vI 1), (28, vI r), (29, vI jj)] [] m ee Q := by
        intro n
        induction n with
        | zero => intro k Xk m jj hk1 hk2 e0 e1 e2 e3 e4 e5; exact absurd hk2 (by omega)
        | succ n ih =>
          intro k Xk m jj hk1 hk2 e0 e1 e2 e3 e4 e5
          subst e0
          refine wq_iload (pc := 1677) dL_law_1677 rfl ?_
          refine wq_iload (pc := 1679) dL_law_1679 rfl ?_
          refine wq_icmp_ge (pc := 1681) (tgt := 1727) dL_law_1681 (by decide) (by first | (unfold inR; omega) | assumption | exact hr2 _ | exact hr3 _ | exact hr4 _) (by first | (unfold inR; omega) | assumption | exact hr2 _ | exact hr3 _ | exact hr4 _) (fun c26 => ?_) (fun c26 => ?_)
          · skip
            have hkn : (k : Int) = n9 := by omega
            have hE : ST N A1 (nb + 1) (vb + 2) t Xk m ee 0 := by
              refine ST_i e1 (hJA _ (fun j => e2 21 j (by omega) (by omega)) (fun j => e2 22 j (by omega) (by omega)) (fun j => e2 23 j (by omega) (by omega)) (fun j => ?_) (fun i p i0 i1 p0 p1 => by rw [e4 i p i0 i1 p0 p1, hkn])) (LXs_w hX e2 (fun j => by rw [e3 j]; split; (unfold inR; omega); exact hr4 j)) hz.1 hz.2 e5
              rw [e3 j]
              by_cases c : j = s
              · rw [if_pos ⟨c, by omega⟩, if_pos c]
              · rw [if_neg (fun q => c q.1), if_neg c]
            refine wq_goto (pc := 1727) (tgt := 2040) dL_law_1727 (by decide) ?_
            refine wq_sub1 (L' := [(0, _), (1, _), (2, _), (3, _), (4, _), (5, _), (6, _), (7, _), (8, _), (11, _), (22, _)]) ⟨rfl, rfl, rfl, rfl, rfl, rfl, rfl, rfl, rfl, rfl, rfl, trivial⟩ ?_
            exact H _ _ _ _ _ (ST_t hE (by omega) (by omega) (by omega) (by omega))
          · skip
            refine wq_iload (pc := 1684) dL_law_1684 rfl ?_
            refine wq_if_eq (pc := 1686) (tgt := 1727) dL_law_1686 (by decide) (by first | (unfold inR; omega) | assumption | exact hr2 _ | exact hr3 _ | exact hr4 _) (fun c => absurd c (by decide)) (fun _ => ?_)
            refine wq_iload (pc := 1689) dL_law_1689 rfl ?_
            refine wq_if_le (pc := 1691) (tgt := 1727) dL_law_1691 (by decide) (by first | (unfold inR; omega) | assumption | exact hr2 _ | exact hr3 _ | exact hr4 _) (fun c9 => by exfalso; omega) (fun c28 => ?_)
            refine wq_aload (pc := 1694) dL_law_1694 rfl ?_
            refine wq_iload (pc := 1696) dL_law_1696 rfl ?_
            refine wq_iload (pc := 1698) dL_law_1698 rfl ?_
            refine wq_iload (pc := 1700) dL_law_1700 rfl ?_
            refine wq_iadd (pc := 1702) dL_law_1702 ?_
            refine wq_lload (pc := 1703) dL_law_1703 rfl ?_
            refine wq_bipush (pc := 1705) dL_law_1705 (by decide) (by decide) ?_
            refine wq_iload (pc := 1707) dL_law_1707 rfl ?_
            refine wq_imul (pc := 1709) dL_law_1709 ?_
            refine wq_lshr (pc := 1710) dL_law_1710 ?_
            refine lS_4 (pc := 1711) dL_law_1711 (cw_L_154 _ rfl) ⟨by decide, by decide⟩ (Nat.le_of_ble_eq_true rfl) (sW_lays e1 (by omega) (by omega) (fun X1 W1 ly im1 => ?_))
            show wpL 1714 _ _ _ _ _
            refine wq_aload (pc := 1714) dL_law_1714 rfl ?_
            refine wq_iload (pc := 1716) dL_law_1716 rfl ?_
            refine wq_iload (pc := 1718) dL_law_1718 rfl ?_
            refine wq_iastK (pc := 1720) dL_law_1720 (Wd_s2 (by with_reducible assumption)) rfl (by omega) (by omega) ?_
            refine wq_iinc (pc := 1721) (L' := [(29, _), (0, _), (1, _), (2, _), (3, _), (4, _), (5, _), (6, _), (7, _), (8, _), (11, _), (17, _), (21, _), (22, _), (23, _), (24, _), (25, _), (27, _), (28, _)]) dL_law_1721 rfl rfl (by decide) ?_
            refine wq_goto (pc := 1724) (tgt := 1677) dL_law_1724 (by decide) ?_
            refine wq_sub1 (L' := [(0, _), (1, _), (2, _), (3, _), (4, _), (5, _), (6, _), (7, _), (8, _), (11, _), (17, _), (21, _), (22, _), (23, _), (24, _), (25, _), (27, _), (28, _), (29, _)]) ⟨rfl, rfl, rfl, rfl, rfl, rfl, rfl, rfl, rfl, rfl, rfl, rfl, rfl, rfl, rfl, rfl, rfl, rfl, rfl, trivial⟩ ?_
            refine ih (k + 1) _ _ _ (by omega) (by omega) (by omega) (Wd_w W1 (fun x j hx => wr_n _ _ (by omega))).1 (fun x j x0 x1 => ?_) (fun j => ?_) (fun i p i0 i1 p0 p1 => ?_) (fun j => ?_)
            · rw [wr_n _ _ (by omega), ly.1 x j x0 (by omega)]; exact e2 x j x0 x1
            · by_cases c : j = s
              · rw [c, wr_s, if_pos (by omega)]
              · rw [wr_n _ _ (fun q => c q.2), ly.1 24 j (by omega) (by omega), e3 j, if_neg (fun q => c q.1), if_neg (fun q => c q.1)]
            · rw [show wr X1 24 s r 25 = X1 25 from funext (fun j => wr_n _ _ (by omega)), cB_lay (c := Xk 25) (by omega) ly.2 i p ⟨p0, p1⟩]
              by_cases c : i = s ∧ p = o + (k : Int)
              · rw [if_pos c, if_pos (by omega), show p - o = (k : Int) by omega]
              · rw [if_neg c, e4 i p i0 i1 p0 p1]
                by_cases c2 : i = s ∧ o ≤ p ∧ p < o + (k : Int)
                · rw [if_pos c2, if_pos (by omega)]
                · rw [if_neg c2, if_neg (by omega)]
            · rw [wr_n _ _ (by omega), im1 j]; exact e5 j
      refine wq_sub1 (L' := [(0, _), (1, _), (2, _), (3, _), (4, _), (5, _), (6, _), (7, _), (8, _), (11, _), (17, _), (21, _), (22, _), (23, _), (24, _), (25, _), (27, _), (28, _), (29, _)]) ⟨rfl, rfl, rfl, rfl, rfl, rfl, rfl, rfl, rfl, rfl, rfl, rfl, rfl, rfl, rfl, rfl, rfl, rfl, rfl, trivial⟩ ?_
      exact loop25 (n9.toNat + 1) 0 _ _ 0 (by omega) (by omega) rfl W (fun x j _ _ => rfl) (fun j => by rw [if_neg (by omega)]) (fun i p _ _ _ _ => by rw [if_neg (by omega)]) hi
  refine wq_iload (pc := 1547) dL_law_1547 rfl ?_
  refine wq_if_ge (pc := 1549) (tgt := 1556) dL_law_1549 (by decide) (by first | (unfold inR; omega) | assumption | exact hr2 _ | exact hr3 _ | exact hr4 _) (fun c30 => ?_) (fun c9 => by exfalso; omega)
  refine wq_iload (pc := 1556) dL_law_1556 rfl ?_
  refine wq_iload (pc := 1558) dL_law_1558 rfl ?_
  refine wq_iadd (pc := 1560) dL_law_1560 ?_
  refine wq_aload (pc := 1561) dL_law_1561 rfl ?_
  refine wq_iload (pc := 1563) dL_law_1563 rfl ?_
  refine wq_ialdX (pc := 1565) dL_law_1565 (by with_reducible assumption) rfl (by omega) (by omega) ?_
  refine wq_icmp_le (pc := 1566) (tgt := 1577) dL_law_1566 (by decide) (by unfold inR; omega) (hr4 _) (fun c31 => ?_) (fun c31 => ?_)
  · skip
    refine wq_aload (pc := 1577) dL_law_1577 rfl ?_
    refine wq_iload (pc := 1579) dL_law_1579 rfl ?_
    refine wq_ialdX (pc := 1581) dL_law_1581 (by with_reducible assumption) rfl (by omega) (by omega) ?_
    refine wq_istore (pc := 1582) (L' := [(28, _), (0, _), (1, _), (2, _), (3, _), (4, _), (5, _), (6, _), (7, _), (8, _), (10, _), (11, _), (12, _), (13, _), (14, _), (15, _), (16, _), (17, _), (18, _), (19, _), (20, _), (21, _), (22, _), (23, _), (24, _), (25, _), (27, _)]) dL_law_1582 rfl (by decide) ?_
    refine wq_sub1 (L' := [(0, _), (1, _), (2, _), (3, _), (4, _), (5, _), (6, _), (7, _), (8, _), (10, _), (11, _), (12, _), (13, _), (14, _), (15, _), (16, _), (17, _), (18, _), (19, _), (20, _), (21, _), (22, _), (23, _), (24, _), (25, _), (27, _), (28, _)]) ⟨rfl, rfl, rfl, rfl, rfl, rfl, rfl, rfl, rfl, rfl, rfl, rfl, rfl, rfl, rfl, rfl, rfl, rfl, rfl, rfl, rfl, rfl, rfl, rfl, rfl, rfl, rfl, trivial⟩ ?_
    exact cut1 _ (by omega)
  · skip
    refine wq_iload (pc := 1569) dL_law_1569 rfl ?_
    refine wq_iload (pc := 1571) dL_law_1571 rfl ?_
    refine wq_iadd (pc := 1573) dL_law_1573 ?_
    refine wq_goto (pc := 1574) (tgt := 1582) dL_law_1574 (by decide) ?_
    refine wq_istore (pc := 1582) (L' := [(28, _), (0, _), (1, _), (2, _), (3, _), (4, _), (5, _), (6, _), (7, _), (8, _), (10, _), (11, _), (12, _), (13, _), (14, _), (15, _), (16, _), (17, _), (18, _), (19, _), (20, _), (21, _), (22, _), (23, _), (24, _), (25, _), (27, _)]) dL_law_1582 rfl (by decide) ?_
    refine wq_sub1 (L' := [(0, _), (1, _), (2, _), (3, _), (4, _), (5, _), (6, _), (7, _), (8, _), (10, _), (11, _), (12, _), (13, _), (14, _), (15, _), (16, _), (17, _), (18, _), (19, _), (20, _), (21, _), (22, _), (23, _), (24, _), (25, _), (27, _), (28, _)]) ⟨rfl, rfl, rfl, rfl, rfl, rfl, rfl, rfl, rfl, rfl, rfl, rfl, rfl, rfl, rfl, rfl, rfl, rfl, rfl, rfl, rfl, rfl, rfl, rfl, rfl, rfl, rfl, trivial⟩ ?_
    exact cut1 _ (by omega)
theorem lw_wn {μ : nMem} {ε : nEnv} {Q : nOut → nMem → nEnv → Prop} {N : Int} {A : AS} {nb vb : Int} {t : Nat} {X : nMem} {turn kd y d d2 nm nm2 f s b a fr : Int} {n9 o bb : Int} (hS : ST N A nb vb (t + 1) X μ ε 0) (hnb : nb + 1 ≤ 490) (hvb : vb + 2 ≤ 4000) (hvb0 : 0 ≤ vb) (hn2 : 2 ≤ nb) (ry : 0 ≤ y ∧ y ≤ 2147483647) (ht : 0 ≤ turn ∧ turn < 120) (hF : LF A X d d2 nm nm2 f s b a fr) (H : ∀ A1 X1 m e w, ST N A1 (nb + 1) (vb + 2) t X1 m e w → wpL 2040 [(0, vR (-1)), (1, vR 1), (2, vR 21), (3, vR 22), (4, vR 23), (5, vR 24), (6, vR 25), (7, vI 1), (8, vI turn), (11, vI y), (22, vI w)] [] m e Q) (hno : (1 ≤ n9 ∧ n9 ≤ 8) ∧ 0 ≤ o ∧ o < 60) (hc : ¬ (0 ≤ s ∧ o + n9 ≤ 64)) : wpL 1547 [(0, vR (-1)), (1, vR 1), (2, vR 21), (3, vR 22), (4, vR 23), (5, vR 24), (6, vR 25), (7, vI 1), (8, vI turn), (10, vI kd), (11, vI y), (12, vI d), (13, vI d2), (14, vI nm), (15, vI nm2), (16, vI f), (17, vI s), (18, vI b), (19, vI a), (20, vI fr), (21, vI 0), (22, vI 0), (23, vI n9), (24, vI o), (25, vJ bb), (27, vI 0)] [] μ ε Q := by
  obtain ⟨⟨hW, hG, hX, hi⟩, ⟨hD, hJ, hV, hZ⟩, fl, SS, hP, hTS⟩ := ST_0 hS
  obtain ⟨f1, f2, f3, f4, f5, f6, f7, f8, f9⟩ := id hF
  obtain ⟨⟨⟨hn0, hn15⟩, ⟨hm0, hm8⟩, hr2, hr3, hr4⟩, hn14, hm7⟩ := id hX
  have hs9 := GA_slot hG f
  have ha9 := GA_find hG d nm
  rw [← f7] at hs9
  rw [← f8] at ha9
  have hfr9 := (frN_le A).2
  rw [← f9] at hfr9
  clear f7 f8 f9
  have cut1 : ∀ (q : Int), wpL 1584 [(0, vR (-1)), (1, vR 1), (2, vR 21), (3, vR 22), (4, vR 23), (5, vR 24), (6, vR 25), (7, vI 1), (8, vI turn), (10, vI kd), (11, vI y), (12, vI d), (13, vI d2), (14, vI nm), (15, vI nm2), (16, vI f), (17, vI s), (18, vI b), (19, vI a), (20, vI fr), (21, vI 0), (22, vI 0), (23, vI n9), (24, vI o), (25, vJ bb), (27, vI 0), (28, vI q)] [] μ ε Q := by
    intro q
    refine wq_aload_n (pc := 1584) dL_law_1584 rfl rfl ?_
    refine wq_iload (pc := 1585) dL_law_1585 rfl ?_
    refine wq_iload (pc := 1587) dL_law_1587 rfl ?_
    refine wq_lload (pc := 1589) dL_law_1589 rfl ?_
    refine wq_iload (pc := 1591) dL_law_1591 rfl ?_
    refine cW_5 (pc := 1593) dL_law_1593 (cw_L_150 _ rfl) ⟨by decide, by decide⟩ (Nat.le_of_ble_eq_true rfl) (qc_write hS hnb hvb hF (by omega) (by omega) (fun r mm ee hE hr => ?_) (fun mm ee hE hr => ?_) (fun A1 mm ee hE hr => ?_) (fun A1 r mm ee W hr hJA hz => ?_))
    · skip
      show wpL 1596 _ _ _ _ _
      have WE := hE.1
      refine wq_istore (pc := 1596) (L' := [(21, _), (0, _), (1, _), (2, _), (3, _), (4, _), (5, _), (6, _), (7, _), (8, _), (10, _), (11, _), (12, _), (13, _), (14, _), (15, _), (16, _), (17, _), (18, _), (19, _), (20, _), (22, _), (23, _), (24, _), (25, _), (27, _), (28, _)]) dL_law_1596 rfl (by decide) ?_
      refine wq_iload (pc := 1598) dL_law_1598 rfl ?_
      refine wq_bipush (pc := 1600) dL_law_1600 (by decide) (by decide) ?_
      refine wq_icmp_ne (pc := 1602) (tgt := 1609) dL_law_1602 (by decide) (by first | (unfold inR; omega) | assumption | exact hr2 _ | exact hr3 _ | exact hr4 _) (by first | (unfold inR; omega) | assumption | exact hr2 _ | exact hr3 _ | exact hr4 _) (fun c6 => ?_) (fun c9 => by exfalso; omega)
      refine wq_iconst (pc := 1609) dL_law_1609 ?_
      refine wq_istore (pc := 1610) (L' := [(22, _), (21, _), (0, _), (1, _), (2, _), (3, _), (4, _), (5, _), (6, _), (7, _), (8, _), (10, _), (11, _), (12, _), (13, _), (14, _), (15, _), (16, _), (17, _), (18, _), (19, _), (20, _), (23, _), (24, _), (25, _), (27, _), (28, _)]) dL_law_1610 rfl (by decide) ?_
      refine wq_iload (pc := 1612) dL_law_1612 rfl ?_
      refine wq_if_ne (pc := 1614) (tgt := 1642) dL_law_1614 (by decide) (by first | (unfold inR; omega) | assumption | exact hr2 _ | exact hr3 _ | exact hr4 _) (fun c => absurd c (by decide)) (fun _ => ?_)
      refine wq_iload (pc := 1617) dL_law_1617 rfl ?_
      refine wq_iload (pc := 1619) dL_law_1619 rfl ?_
      refine wq_if_ge (pc := 1621) (tgt := 1629) dL_law_1621 (by decide) (by first | (unfold inR; omega) | assumption | exact hr2 _ | exact hr3 _ | exact hr4 _) (fun c8 => ?_) (fun c8 => ?_)
      · skip
        refine wq_bipush (pc := 1629) dL_law_1629 (by decide) (by decide) ?_
        refine wq_icmp_ne (pc := 1631) (tgt := 1638) dL_law_1631 (by decide) (by first | (unfold inR; omega) | assumption | exact hr2 _ | exact hr3 _ | exact hr4 _) (by first | (unfold inR; omega) | assumption | exact hr2 _ | exact hr3 _ | exact hr4 _) (fun c9 => by exfalso; omega) (fun c9 => ?_)
        refine wq_iconst (pc := 1634) dL_law_1634 ?_
        refine wq_goto (pc := 1635) (tgt := 1672) dL_law_1635 (by decide) ?_
        refine wq_istore (pc := 1672) (L' := [(7, _), (22, _), (21, _), (0, _), (1, _), (2, _), (3, _), (4, _), (5, _), (6, _), (8, _), (10, _), (11, _), (12, _), (13, _), (14, _), (15, _), (16, _), (17, _), (18, _), (19, _), (20, _), (23, _), (24, _), (25, _), (27, _), (28, _)]) dL_law_1672 rfl (by decide) ?_
        refine wq_iconst (pc := 1674) dL_law_1674 ?_
        refine wq_istore (pc := 1675) (L' := [(29, _), (7, _), (22, _), (21, _), (0, _), (1, _), (2, _), (3, _), (4, _), (5, _), (6, _), (8, _), (10, _), (11, _), (12, _), (13, _), (14, _), (15, _), (16, _), (17, _), (18, _), (19, _), (20, _), (23, _), (24, _), (25, _), (27, _), (28, _)]) dL_law_1675 rfl (by decide) ?_
        refine wq_iload (pc := 1677) dL_law_1677 rfl ?_
        refine wq_iload (pc := 1679) dL_law_1679 rfl ?_
        refine wq_icmp_ge (pc := 1681) (tgt := 1727) dL_law_1681 (by decide) (by first | (unfold inR; omega) | assumption | exact hr2 _ | exact hr3 _ | exact hr4 _) (by first | (unfold inR; omega) | assumption | exact hr2 _ | exact hr3 _ | exact hr4 _) (fun c9 => by exfalso; omega) (fun c10 => ?_)
        refine wq_iload (pc := 1684) dL_law_1684 rfl ?_
        refine wq_if_eq (pc := 1686) (tgt := 1727) dL_law_1686 (by decide) (by first | (unfold inR; omega) | assumption | exact hr2 _ | exact hr3 _ | exact hr4 _) (fun _ => ?_) (fun c => absurd c (by decide))
        refine wq_goto (pc := 1727) (tgt := 2040) dL_law_1727 (by decide) ?_
        refine wq_sub1 (L' := [(0, _), (1, _), (2, _), (3, _), (4, _), (5, _), (6, _), (7, _), (8, _), (11, _), (22, _)]) ⟨rfl, rfl, rfl, rfl, rfl, rfl, rfl, rfl, rfl, rfl, rfl, trivial⟩ ?_
        exact H _ _ _ _ _ (ST_t hE (by omega) (by omega) (by omega) (by omega))
      · skip
        refine wq_bipush (pc := 1624) dL_law_1624 (by decide) (by decide) ?_
        refine wq_goto (pc := 1626) (tgt := 1631) dL_law_1626 (by decide) ?_
        refine wq_icmp_ne (pc := 1631) (tgt := 1638) dL_law_1631 (by decide) (by first | (unfold inR; omega) | assumption | exact hr2 _ | exact hr3 _ | exact hr4 _) (by first | (unfold inR; omega) | assumption | exact hr2 _ | exact hr3 _ | exact hr4 _) (fun c9 => by exfalso; omega) (fun c12 => ?_)
        refine wq_iconst (pc := 1634) dL_law_1634 ?_
        refine wq_goto (pc := 1635) (tgt := 1672) dL_law_1635 (by decide) ?_
        refine wq_istore (pc := 1672) (L' := [(7, _), (22, _), (21, _), (0, _), (1, _), (2, _), (3, _), (4, _), (5, _), (6, _), (8, _), (10, _), (11, _), (12, _), (13, _), (14, _), (15, _), (16, _), (17, _), (18, _), (19, _), (20, _), (23, _), (24, _), (25, _), (27, _), (28, _)]) dL_law_1672 rfl (by decide) ?_
        refine wq_iconst (pc := 1674) dL_law_1674 ?_
        refine wq_istore (pc := 1675) (L' := [(29, _), (7, _), (22, _), (21, _), (0, _), (1, _), (2, _), (3, _), (4, _), (5, _), (6, _), (8, _), (10, _), (11, _), (12, _), (13, _), (14, _), (15, _), (16, _), (17, _), (18, _), (19, _), (20, _), (23, _), (24, _), (25, _), (27, _), (28, _)]) dL_law_1675 rfl (by decide) ?_
        refine wq_iload (pc := 1677) dL_law_1677 rfl ?_
        refine wq_iload (pc := 1679) dL_law_1679 rfl ?_
        refine wq_icmp_ge (pc := 1681) (tgt := 1727) dL_law_1681 (by decide) (by first | (unfold inR; omega) | assumption | exact hr2 _ | exact hr3 _ | exact hr4 _) (by first | (unfold inR; omega) | assumption | exact hr2 _ | exact hr3 _ | exact hr4 _) (fun c9 => by exfalso; omega) (fun c13 => ?_)
        refine wq_iload (pc := 1684) dL_law_1684 rfl ?_
        refine wq_if_eq (pc := 1686) (tgt := 1727) dL_law_1686 (by decide) (by first | (unfold inR; omega) | assumption | exact hr2 _ | exact hr3 _ | exact hr4 _) (fun _ => ?_) (fun c => absurd c (by decide))
        refine wq_goto (pc := 1727) (tgt := 2040) dL_law_1727 (by decide) ?_
        refine wq_sub1 (L' := [(0, _), (1, _), (2, _), (3, _), (4, _), (5, _), (6, _), (7, _), (8, _), (11, _), (22, _)]) ⟨rfl, rfl, rfl, rfl, rfl, rfl, rfl, rfl, rfl, rfl, rfl, trivial⟩ ?_
        exact H _ _ _ _ _ (ST_t hE (by omega) (by omega) (by omega) (by omega))
    · skip
      exfalso; omega
    · skip
      exfalso; omega
    · skip
      exfalso; omega
  refine wq_iload (pc := 1547) dL_law_1547 rfl ?_
  refine wq_if_ge (pc := 1549) (tgt := 1556) dL_law_1549 (by decide) (by first | (unfold inR; omega) | assumption | exact hr2 _ | exact hr3 _ | exact hr4 _) (fun c15 => ?_) (fun c15 => ?_)
  · skip
    refine wq_iload (pc := 1556) dL_law_1556 rfl ?_
    refine wq_iload (pc := 1558) dL_law_1558 rfl ?_
    refine wq_iadd (pc := 1560) dL_law_1560 ?_
    refine wq_aload (pc := 1561) dL_law_1561 rfl ?_
    refine wq_iload (pc := 1563) dL_law_1563 rfl ?_
    refine wq_ialdX (pc := 1565) dL_law_1565 (by with_reducible assumption) rfl (by omega) (by omega) ?_
    refine wq_icmp_le (pc := 1566) (tgt := 1577) dL_law_1566 (by decide) (by unfold inR; omega) (hr4 _) (fun c16 => ?_) (fun c16 => ?_)
    · skip
      refine wq_aload (pc := 1577) dL_law_1577 rfl ?_
      refine wq_iload (pc := 1579) dL_law_1579 rfl ?_
      refine wq_ialdX (pc := 1581) dL_law_1581 (by with_reducible assumption) rfl (by omega) (by omega) ?_
      refine wq_istore (pc := 1582) (L' := [(28, _), (0, _), (1, _), (2, _), (3, _), (4, _), (5, _), (6, _), (7, _), (8, _), (10, _), (11, _), (12, _), (13, _), (14, _), (15, _), (16, _), (17, _), (18, _), (19, _), (20, _), (21, _), (22, _), (23, _), (24, _), (25, _), (27, _)]) dL_law_1582 rfl (by decide) ?_
      refine wq_sub1 (L' := [(0, _), (1, _), (2, _), (3, _), (4, _), (5, _), (6, _), (7, _), (8, _), (10, _), (11, _), (12, _), (13, _), (14, _), (15, _), (16, _), (17, _), (18, _), (19, _), (20, _), (21, _), (22, _), (23, _), (24, _), (25, _), (27, _), (28, _)]) ⟨rfl, rfl, rfl, rfl, rfl, rfl, rfl, rfl, rfl, rfl, rfl, rfl, rfl, rfl, rfl, rfl, rfl, rfl, rfl, rfl, rfl, rfl, rfl, rfl, rfl, rfl, rfl, trivial⟩ ?_
      exact cut1 _
    · skip
      refine wq_iload (pc := 1569) dL_law_1569 rfl ?_
      refine wq_iload (pc := 1571) dL_law_1571 rfl ?_
      refine wq_iadd (pc := 1573) dL_law_1573 ?_
      refine wq_goto (pc := 1574) (tgt := 1582) dL_law_1574 (by decide) ?_
      refine wq_istore (pc := 1582) (L' := [(28, _), (0, _), (1, _), (2, _), (3, _), (4, _), (5, _), (6, _), (7, _), (8, _), (10, _), (11, _), (12, _), (13, _), (14, _), (15, _), (16, _), (17, _), (18, _), (19, _), (20, _), (21, _), (22, _), (23, _), (24, _), (25, _), (27, _)]) dL_law_1582 rfl (by decide) ?_
      refine wq_sub1 (L' := [(0, _), (1, _), (2, _), (3, _), (4, _), (5, _), (6, _), (7, _), (8, _), (10, _), (11, _), (12, _), (13, _), (14, _), (15, _), (16, _), (17, _), (18, _), (19, _), (20, _), (21, _), (22, _), (23, _), (24, _), (25, _), (27, _), (28, _)]) ⟨rfl, rfl, rfl, rfl, rfl, rfl, rfl, rfl, rfl, rfl, rfl, rfl, rfl, rfl, rfl, rfl, rfl, rfl, rfl, rfl, rfl, rfl, rfl, rfl, rfl, rfl, rfl, trivial⟩ ?_
      exact cut1 _
  · skip
    refine wq_iconst (pc := 1552) dL_law_1552 ?_
    refine wq_goto (pc := 1553) (tgt := 1582) dL_law_1553 (by decide) ?_
    refine wq_istore (pc := 1582) (L' := [(28, _), (0, _), (1, _), (2, _), (3, _), (4, _), (5, _), (6, _), (7, _), (8, _), (10, _), (11, _), (12, _), (13, _), (14, _), (15, _), (16, _), (17, _), (18, _), (19, _), (20, _), (21, _), (22, _), (23, _), (24, _), (25, _), (27, _)]) dL_law_1582 rfl (by decide) ?_
    refine wq_sub1 (L' := [(0, _), (1, _), (2, _), (3, _), (4, _), (5, _), (6, _), (7, _), (8, _), (10, _), (11, _), (12, _), (13, _), (14, _), (15, _), (16, _), (17, _), (18, _), (19, _), (20, _), (21, _), (22, _), (23, _), (24, _), (25, _), (27, _), (28, _)]) ⟨rfl, rfl, rfl, rfl, rfl, rfl, rfl, rfl, rfl, rfl, rfl, rfl, rfl, rfl, rfl, rfl, rfl, rfl, rfl, rfl, rfl, rfl, rfl, rfl, rfl, rfl, rfl, trivial⟩ ?_
    exact cut1 _
theorem lw_write {μ : nMem} {ε : nEnv} {Q : nOut → nMem → nEnv → Prop} {N : Int} {A : AS} {nb vb : Int} {t : Nat} {X : nMem} {turn kd y d d2 nm nm2 f s b a fr : Int} (hS : ST N A nb vb (t + 1) X μ ε 0) (hnb : nb + 1 ≤ 490) (hvb : vb + 2 ≤ 4000) (hvb0 : 0 ≤ vb) (hn2 : 2 ≤ nb) (ry : 0 ≤ y ∧ y ≤ 2147483647) (ht : 0 ≤ turn ∧ turn < 120) (hF : LF A X d d2 nm nm2 f s b a fr) (H : ∀ A1 X1 m e w, ST N A1 (nb + 1) (vb + 2) t X1 m e w → wpL 2040 [(0, vR (-1)), (1, vR 1), (2, vR 21), (3, vR 22), (4, vR 23), (5, vR 24), (6, vR 25), (7, vI 1), (8, vI turn), (11, vI y), (22, vI w)] [] m e Q) : wpL 1472 [(0, vR (-1)), (1, vR 1), (2, vR 21), (3, vR 22), (4, vR 23), (5, vR 24), (6, vR 25), (7, vI 1), (8, vI turn), (10, vI kd), (11, vI y), (12, vI d), (13, vI d2), (14, vI nm), (15, vI nm2), (16, vI f), (17, vI s), (18, vI b), (19, vI a), (20, vI fr), (21, vI 0), (22, vI 0)] [] μ ε Q := by
  obtain ⟨⟨hW, hG, hX, hi⟩, ⟨hD, hJ, hV, hZ⟩, fl, SS, hP, hTS⟩ := ST_0 hS
  obtain ⟨f1, f2, f3, f4, f5, f6, f7, f8, f9⟩ := id hF
  obtain ⟨⟨⟨hn0, hn15⟩, ⟨hm0, hm8⟩, hr2, hr3, hr4⟩, hn14, hm7⟩ := id hX
  have hs9 := GA_slot hG f
  have ha9 := GA_find hG d nm
  rw [← f7] at hs9
  rw [← f8] at ha9
  have hfr9 := (frN_le A).2
  rw [← f9] at hfr9
  clear f7 f8 f9
  have cut1 : ∀ (n9 : Int), (1 ≤ n9 ∧ n9 ≤ 8) → wpL 1499 [(0, vR (-1)), (1, vR 1), (2, vR 21), (3, vR 22), (4, vR 23), (5, vR 24), (6, vR 25), (7, vI 1), (8, vI turn), (10, vI kd), (11, vI y), (12, vI d), (13, vI d2), (14, vI nm), (15, vI nm2), (16, vI f), (17, vI s), (18, vI b), (19, vI a), (20, vI fr), (21, vI 0), (22, vI 0), (23, vI n9)] [] μ ε Q := by
    intro n9 e0
    refine wq_iload (pc := 1499) dL_law_1499 rfl ?_
    refine wq_iconst (pc := 1501) dL_law_1501 ?_
    refine wq_idiv (pc := 1502) dL_law_1502 (by omega) (by omega) ?_
    refine wq_bipush (pc := 1503) dL_law_1503 (by decide) (by decide) ?_
    refine wq_irem (pc := 1505) dL_law_1505 (by omega) (by omega) ?_
    refine wq_istore (pc := 1506) (L' := [(24, _), (0, _), (1, _), (2, _), (3, _), (4, _), (5, _), (6, _), (7, _), (8, _), (10, _), (11, _), (12, _), (13, _), (14, _), (15, _), (16, _), (17, _), (18, _), (19, _), (20, _), (21, _), (22, _), (23, _)]) dL_law_1506 rfl (by decide) ?_
    refine wq_iload (pc := 1508) dL_law_1508 rfl ?_
    refine wq_i2l (pc := 1510) dL_law_1510 (by first | (unfold inR; omega) | assumption | exact hr2 _ | exact hr3 _ | exact hr4 _) ?_
    refine wq_ldc2 (pc := 1511) dL_law_1511 (kc_L_146 _ rfl) ?_
    refine wq_lmul (pc := 1514) dL_law_1514 ?_
    refine wq_ldc2 (pc := 1515) dL_law_1515 (kc_L_148 _ rfl) ?_
    refine wq_iload (pc := 1518) dL_law_1518 rfl ?_
    refine wq_i2l (pc := 1520) dL_law_1520 (by first | (unfold inR; omega) | assumption | exact hr2 _ | exact hr3 _ | exact hr4 _) ?_
    refine wq_lmul (pc := 1521) dL_law_1521 ?_
    refine wq_ladd (pc := 1522) dL_law_1522 ?_
    refine wq_lstore (pc := 1523) (L' := [(25, _), (24, _), (0, _), (1, _), (2, _), (3, _), (4, _), (5, _), (6, _), (7, _), (8, _), (10, _), (11, _), (12, _), (13, _), (14, _), (15, _), (16, _), (17, _), (18, _), (19, _), (20, _), (21, _), (22, _), (23, _)]) dL_law_1523 rfl (by decide) ?_
    refine wq_iload (pc := 1525) dL_law_1525 rfl ?_
    refine wq_if_lt (pc := 1527) (tgt := 1544) dL_law_1527 (by decide) (by first | (unfold inR; omega) | assumption | exact hr2 _ | exact hr3 _ | exact hr4 _) (fun c2 => ?_) (fun c2 => ?_)
    · skip
      refine wq_iconst (pc := 1544) dL_law_1544 ?_
      refine wq_istore (pc := 1545) (L' := [(27, _), (25, _), (24, _), (0, _), (1, _), (2, _), (3, _), (4, _), (5, _), (6, _), (7, _), (8, _), (10, _), (11, _), (12, _), (13, _), (14, _), (15, _), (16, _), (17, _), (18, _), (19, _), (20, _), (21, _), (22, _), (23, _)]) dL_law_1545 rfl (by decide) ?_
      refine wq_sub1 (L' := [(0, _), (1, _), (2, _), (3, _), (4, _), (5, _), (6, _), (7, _), (8, _), (10, _), (11, _), (12, _), (13, _), (14, _), (15, _), (16, _), (17, _), (18, _), (19, _), (20, _), (21, _), (22, _), (23, _), (24, _), (25, _), (27, _)]) ⟨rfl, rfl, rfl, rfl, rfl, rfl, rfl, rfl, rfl, rfl, rfl, rfl, rfl, rfl, rfl, rfl, rfl, rfl, rfl, rfl, rfl, rfl, rfl, rfl, rfl, rfl, trivial⟩ ?_
      exact lw_wn hS hnb hvb hvb0 hn2 ry ht hF H (by omega) (by omega)
    · skip
      refine wq_iload (pc := 1530) dL_law_1530 rfl ?_
      refine wq_iload (pc := 1532) dL_law_1532 rfl ?_
      refine wq_iadd (pc := 1534) dL_law_1534 ?_
      refine wq_bipush (pc := 1535) dL_law_1535 (by decide) (by decide) ?_
      refine wq_icmp_gt (pc := 1537) (tgt := 1544) dL_law_1537 (by decide) (by first | (unfold inR; omega) | assumption | exact hr2 _ | exact hr3 _ | exact hr4 _) (by first | (unfold inR; omega) | assumption | exact hr2 _ | exact hr3 _ | exact hr4 _) (fun c3 => ?_) (fun c3 => ?_)
      · skip
        refine wq_iconst (pc := 1544) dL_law_1544 ?_
        refine wq_istore (pc := 1545) (L' := [(27, _), (25, _), (24, _), (0, _), (1, _), (2, _), (3, _), (4, _), (5, _), (6, _), (7, _), (8, _), (10, _), (11, _), (12, _), (13, _), (14, _), (15, _), (16, _), (17, _), (18, _), (19, _), (20, _), (21, _), (22, _), (23, _)]) dL_law_1545 rfl (by decide) ?_
        refine wq_sub1 (L' := [(0, _), (1, _), (2, _), (3, _), (4, _), (5, _), (6, _), (7, _), (8, _), (10, _), (11, _), (12, _), (13, _), (14, _), (15, _), (16, _), (17, _), (18, _), (19, _), (20, _), (21, _), (22, _), (23, _), (24, _), (25, _), (27, _)]) ⟨rfl, rfl, rfl, rfl, rfl, rfl, rfl, rfl, rfl, rfl, rfl, rfl, rfl, rfl, rfl, rfl, rfl, rfl, rfl, rfl, rfl, rfl, rfl, rfl, rfl, rfl, trivial⟩ ?_
        exact lw_wn hS hnb hvb hvb0 hn2 ry ht hF H (by omega) (by omega)
      · skip
        refine wq_iconst (pc := 1540) dL_law_1540 ?_
        refine wq_goto (pc := 1541) (tgt := 1545) dL_law_1541 (by decide) ?_
        refine wq_istore (pc := 1545) (L' := [(27, _), (25, _), (24, _), (0, _), (1, _), (2, _), (3, _), (4, _), (5, _), (6, _), (7, _), (8, _), (10, _), (11, _), (12, _), (13, _), (14, _), (15, _), (16, _), (17, _), (18, _), (19, _), (20, _), (21, _), (22, _), (23, _)]) dL_law_1545 rfl (by decide) ?_
        refine wq_sub1 (L' := [(0, _), (1, _), (2, _), (3, _), (4, _), (5, _), (6, _), (7, _), (8, _), (10, _), (11, _), (12, _), (13, _), (14, _), (15, _), (16, _), (17, _), (18, _), (19, _), (20, _), (21, _), (22, _), (23, _), (24, _), (25, _), (27, _)]) ⟨rfl, rfl, rfl, rfl, rfl, rfl, rfl, rfl, rfl, rfl, rfl, rfl, rfl, rfl, rfl, rfl, rfl, rfl, rfl, rfl, rfl, rfl, rfl, rfl, rfl, rfl, trivial⟩ ?_
        exact lw_wy hS hnb hvb hvb0 hn2 ry ht hF H (by omega) (by omega)
  refine wq_iload (pc := 1472) dL_law_1472 rfl ?_
  refine wq_bipush (pc := 1474) dL_law_1474 (by decide) (by decide) ?_
  refine wq_idiv (pc := 1476) dL_law_1476 (by omega) (by omega) ?_
  refine wq_iconst (pc := 1477) dL_law_1477 ?_
  refine wq_irem (pc := 1478) dL_law_1478 (by omega) (by omega) ?_
  refine wq_if_ne (pc := 1479) (tgt := 1495) dL_law_1479 (by decide) (by first | (unfold inR; omega) | assumption | exact hr2 _ | exact hr3 _ | exact hr4 _) (fun c4 => ?_) (fun c4 => ?_)
  · skip
    refine wq_bipush (pc := 1495) dL_law_1495 (by decide) (by decide) ?_
    refine wq_istore (pc := 1497) (L' := [(23, _), (0, _), (1, _), (2, _), (3, _), (4, _), (5, _), (6, _), (7, _), (8, _), (10, _), (11, _), (12, _), (13, _), (14, _), (15, _), (16, _), (17, _), (18, _), (19, _), (20, _), (21, _), (22, _)]) dL_law_1497 rfl (by decide) ?_
    refine wq_sub1 (L' := [(0, _), (1, _), (2, _), (3, _), (4, _), (5, _), (6, _), (7, _), (8, _), (10, _), (11, _), (12, _), (13, _), (14, _), (15, _), (16, _), (17, _), (18, _), (19, _), (20, _), (21, _), (22, _), (23, _)]) ⟨rfl, rfl, rfl, rfl, rfl, rfl, rfl, rfl, rfl, rfl, rfl, rfl, rfl, rfl, rfl, rfl, rfl, rfl, rfl, rfl, rfl, rfl, rfl, trivial⟩ ?_
    exact cut1 _ (by omega)
  · skip
    refine wq_iconst (pc := 1482) dL_law_1482 ?_
    refine wq_iload (pc := 1483) dL_law_1483 rfl ?_
    refine wq_bipush (pc := 1485) dL_law_1485 (by decide) (by decide) ?_
    refine wq_idiv (pc := 1487) dL_law_1487 (by omega) (by omega) ?_
    refine wq_bipush (pc := 1488) dL_law_1488 (by decide) (by decide) ?_
    refine wq_irem (pc := 1490) dL_law_1490 (by omega) (by omega) ?_
    refine wq_iadd (pc := 1491) dL_law_1491 ?_
    refine wq_goto (pc := 1492) (tgt := 1497) dL_law_1492 (by decide) ?_
    refine wq_istore (pc := 1497) (L' := [(23, _), (0, _), (1, _), (2, _), (3, _), (4, _), (5, _), (6, _), (7, _), (8, _), (10, _), (11, _), (12, _), (13, _), (14, _), (15, _), (16, _), (17, _), (18, _), (19, _), (20, _), (21, _), (22, _)]) dL_law_1497 rfl (by decide) ?_
    refine wq_sub1 (L' := [(0, _), (1, _), (2, _), (3, _), (4, _), (5, _), (6, _), (7, _), (8, _), (10, _), (11, _), (12, _), (13, _), (14, _), (15, _), (16, _), (17, _), (18, _), (19, _), (20, _), (21, _), (22, _), (23, _)]) ⟨rfl, rfl, rfl, rfl, rfl, rfl, rfl, rfl, rfl, rfl, rfl, rfl, rfl, rfl, rfl, rfl, rfl, rfl, rfl, rfl, rfl, rfl, rfl, trivial⟩ ?_
    exact cut1 _ (by omega)
