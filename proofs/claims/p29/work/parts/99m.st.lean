theorem Wd_s2 {N : Int} {A : AS} {nb vb : Int} {t : Nat} {X μ : nMem} {ε : nEnv} (h : Wd N A nb vb t X μ ε) : SkP skM ε := h.2.2.1
theorem LXs_w {X Y : nMem} (h : LXs X) (e : ∀ x j, 21 ≤ x → x ≤ 23 → Y x j = X x j) (r : ∀ j, inR (Y 24 j)) : LXs Y := by
  obtain ⟨⟨h1, h2, h3, h4, h5⟩, h6, h7⟩ := h
  have e0 := e 21 0 (by omega) (by omega)
  have e1 := e 21 1 (by omega) (by omega)
  exact ⟨⟨by omega, by omega, fun j => by rw [e 22 j (by omega) (by omega)]; exact h3 j, fun j => by rw [e 23 j (by omega) (by omega)]; exact h4 j, r⟩, by omega, by omega⟩
theorem lw_ty {μ : nMem} {ε : nEnv} {Q : nOut → nMem → nEnv → Prop} {N : Int} {A : AS} {nb vb : Int} {t : Nat} {X : nMem} {turn kd y d d2 nm nm2 f s b a fr : Int} {z : Int} (hS : ST N A nb vb (t + 1) X μ ε 0) (hnb : nb + 1 ≤ 490) (hvb : vb + 2 ≤ 4000) (hvb0 : 0 ≤ vb) (hn2 : 2 ≤ nb) (ry : 0 ≤ y ∧ y ≤ 2147483647) (ht : 0 ≤ turn ∧ turn < 120) (hF : LF A X d d2 nm nm2 f s b a fr) (H : ∀ A1 X1 m e w, ST N A1 (nb + 1) (vb + 2) t X1 m e w → wpL 2040 [(0, vR (-1)), (1, vR 1), (2, vR 21), (3, vR 22), (4, vR 23), (5, vR 24), (6, vR 25), (7, vI 1), (8, vI turn), (11, vI y), (22, vI w)] [] m e Q) (hzz : 0 ≤ z ∧ z < 66) (hc : 0 ≤ s ∧ z < 65) : wpL 1765 [(0, vR (-1)), (1, vR 1), (2, vR 21), (3, vR 22), (4, vR 23), (5, vR 24), (6, vR 25), (7, vI 1), (8, vI turn), (10, vI kd), (11, vI y), (12, vI d), (13, vI d2), (14, vI nm), (15, vI nm2), (16, vI f), (17, vI s), (18, vI b), (19, vI a), (20, vI fr), (21, vI 0), (22, vI 0), (23, vI z), (24, vI 1)] [] μ ε Q := by
  obtain ⟨⟨hW, hG, hX, hi⟩, ⟨hD, hJ, hV, hZ⟩, fl, SS, hP, hTS⟩ := ST_0 hS
  obtain ⟨f1, f2, f3, f4, f5, f6, f7, f8, f9⟩ := id hF
  obtain ⟨⟨⟨hn0, hn15⟩, ⟨hm0, hm8⟩, hr2, hr3, hr4⟩, hn14, hm7⟩ := id hX
  have hs9 := GA_slot hG f
  have ha9 := GA_find hG d nm
  rw [← f7] at hs9
  rw [← f8] at ha9
  have hfr9 := (frN_le A).2
  rw [← f9] at hfr9
  clear f7 f8 f9
  have hgf := (GA_f hG (i := s) (by omega) (by omega)).2.2.2.2
  refine wq_aload_n (pc := 1765) dL_law_1765 rfl rfl ?_
  refine wq_iconst (pc := 1766) dL_law_1766 ?_
  refine wq_iload (pc := 1767) dL_law_1767 rfl ?_
  refine wq_iload (pc := 1769) dL_law_1769 rfl ?_
  refine wq_iconst (pc := 1771) dL_law_1771 ?_
  refine cW_5 (pc := 1772) dL_law_1772 (cw_L_85 _ rfl) ⟨by decide, by decide⟩ (Nat.le_of_ble_eq_true rfl) (qc_truncate hS hnb hvb hF (by omega) (fun r mm ee hE hr => ?_) (fun mm ee hE hr => ?_) (fun A1 mm ee hE hr => ?_) (fun A1 r mm ee W hr hJA hz => ?_))
  · skip
    exfalso; omega
  · skip
    show wpL 1775 _ _ _ _ _
    have WE := hE.1
    refine wq_istore (pc := 1775) (L' := [(21, _), (0, _), (1, _), (2, _), (3, _), (4, _), (5, _), (6, _), (7, _), (8, _), (10, _), (11, _), (12, _), (13, _), (14, _), (15, _), (16, _), (17, _), (18, _), (19, _), (20, _), (22, _), (23, _), (24, _)]) dL_law_1775 rfl (by decide) ?_
    refine wq_iload (pc := 1777) dL_law_1777 rfl ?_
    refine wq_bipush (pc := 1779) dL_law_1779 (by decide) (by decide) ?_
    refine wq_icmp_ne (pc := 1781) (tgt := 1788) dL_law_1781 (by decide) (by first | (unfold inR; omega) | assumption | exact hr2 _ | exact hr3 _ | exact hr4 _) (by first | (unfold inR; omega) | assumption | exact hr2 _ | exact hr3 _ | exact hr4 _) (fun _ => ?_) (fun c9 => by exfalso; omega)
    refine wq_iconst (pc := 1788) dL_law_1788 ?_
    refine wq_istore (pc := 1789) (L' := [(22, _), (21, _), (0, _), (1, _), (2, _), (3, _), (4, _), (5, _), (6, _), (7, _), (8, _), (10, _), (11, _), (12, _), (13, _), (14, _), (15, _), (16, _), (17, _), (18, _), (19, _), (20, _), (23, _), (24, _)]) dL_law_1789 rfl (by decide) ?_
    refine wq_iload (pc := 1791) dL_law_1791 rfl ?_
    refine wq_if_ne (pc := 1793) (tgt := 1821) dL_law_1793 (by decide) (by first | (unfold inR; omega) | assumption | exact hr2 _ | exact hr3 _ | exact hr4 _) (fun _ => ?_) (fun c => absurd c (by decide))
    refine wq_iload (pc := 1821) dL_law_1821 rfl ?_
    refine wq_aload (pc := 1823) dL_law_1823 rfl ?_
    refine wq_iload (pc := 1825) dL_law_1825 rfl ?_
    refine wq_ialdX (pc := 1827) dL_law_1827 (by with_reducible assumption) rfl (by omega) (by omega) ?_
    refine wq_icmp_eq (pc := 1828) (tgt := 1849) dL_law_1828 (by decide) (by first | assumption | (unfold inR; omega)) (hr4 _) (fun c9 => by exfalso; omega) (fun c7 => ?_)
    refine wq_iload (pc := 1831) dL_law_1831 rfl ?_
    refine wq_if_ne (pc := 1833) (tgt := 1849) dL_law_1833 (by decide) (by first | (unfold inR; omega) | assumption | exact hr2 _ | exact hr3 _ | exact hr4 _) (fun c => absurd c (by decide)) (fun _ => ?_)
    refine wq_iload (pc := 1836) dL_law_1836 rfl ?_
    refine wq_bipush (pc := 1838) dL_law_1838 (by decide) (by decide) ?_
    refine wq_icmp_ne (pc := 1840) (tgt := 1853) dL_law_1840 (by decide) (by first | (unfold inR; omega) | assumption | exact hr2 _ | exact hr3 _ | exact hr4 _) (by first | (unfold inR; omega) | assumption | exact hr2 _ | exact hr3 _ | exact hr4 _) (fun c9 => by exfalso; omega) (fun _ => ?_)
    refine wq_iload (pc := 1843) dL_law_1843 rfl ?_
    refine wq_iconst (pc := 1845) dL_law_1845 ?_
    refine wq_icmp_ge (pc := 1846) (tgt := 1853) dL_law_1846 (by decide) (by first | (unfold inR; omega) | assumption | exact hr2 _ | exact hr3 _ | exact hr4 _) (by first | (unfold inR; omega) | assumption | exact hr2 _ | exact hr3 _ | exact hr4 _) (fun c9 => by exfalso; omega) (fun c10 => ?_)
    refine wq_iconst (pc := 1849) dL_law_1849 ?_
    refine wq_goto (pc := 1850) (tgt := 1854) dL_law_1850 (by decide) ?_
    refine wq_istore (pc := 1854) (L' := [(7, _), (22, _), (21, _), (0, _), (1, _), (2, _), (3, _), (4, _), (5, _), (6, _), (8, _), (10, _), (11, _), (12, _), (13, _), (14, _), (15, _), (16, _), (17, _), (18, _), (19, _), (20, _), (23, _), (24, _)]) dL_law_1854 rfl (by decide) ?_
    refine wq_iload (pc := 1856) dL_law_1856 rfl ?_
    refine wq_if_eq (pc := 1858) (tgt := 1903) dL_law_1858 (by decide) (by first | (unfold inR; omega) | assumption | exact hr2 _ | exact hr3 _ | exact hr4 _) (fun c => absurd c (by decide)) (fun _ => ?_)
    refine wq_iload (pc := 1861) dL_law_1861 rfl ?_
    refine wq_if_lt (pc := 1863) (tgt := 1903) dL_law_1863 (by decide) (by first | (unfold inR; omega) | assumption | exact hr2 _ | exact hr3 _ | exact hr4 _) (fun _ => ?_) (fun c => absurd c (by decide))
    refine wq_goto (pc := 1903) (tgt := 2040) dL_law_1903 (by decide) ?_
    refine wq_sub1 (L' := [(0, _), (1, _), (2, _), (3, _), (4, _), (5, _), (6, _), (7, _), (8, _), (11, _), (22, _)]) ⟨rfl, rfl, rfl, rfl, rfl, rfl, rfl, rfl, rfl, rfl, rfl, trivial⟩ ?_
    exact H _ _ _ _ _ (ST_t hE (by omega) (by omega) (by omega) (by omega))
  · skip
    show wpL 1775 _ _ _ _ _
    have WE := hE.1
    refine wq_istore (pc := 1775) (L' := [(21, _), (0, _), (1, _), (2, _), (3, _), (4, _), (5, _), (6, _), (7, _), (8, _), (10, _), (11, _), (12, _), (13, _), (14, _), (15, _), (16, _), (17, _), (18, _), (19, _), (20, _), (22, _), (23, _), (24, _)]) dL_law_1775 rfl (by decide) ?_
    refine wq_iload (pc := 1777) dL_law_1777 rfl ?_
    refine wq_bipush (pc := 1779) dL_law_1779 (by decide) (by decide) ?_
    refine wq_icmp_ne (pc := 1781) (tgt := 1788) dL_law_1781 (by decide) (by first | (unfold inR; omega) | assumption | exact hr2 _ | exact hr3 _ | exact hr4 _) (by first | (unfold inR; omega) | assumption | exact hr2 _ | exact hr3 _ | exact hr4 _) (fun c9 => by exfalso; omega) (fun _ => ?_)
    refine wq_iconst (pc := 1784) dL_law_1784 ?_
    refine wq_goto (pc := 1785) (tgt := 1789) dL_law_1785 (by decide) ?_
    refine wq_istore (pc := 1789) (L' := [(22, _), (21, _), (0, _), (1, _), (2, _), (3, _), (4, _), (5, _), (6, _), (7, _), (8, _), (10, _), (11, _), (12, _), (13, _), (14, _), (15, _), (16, _), (17, _), (18, _), (19, _), (20, _), (23, _), (24, _)]) dL_law_1789 rfl (by decide) ?_
    refine wq_iload (pc := 1791) dL_law_1791 rfl ?_
    refine wq_if_ne (pc := 1793) (tgt := 1821) dL_law_1793 (by decide) (by first | (unfold inR; omega) | assumption | exact hr2 _ | exact hr3 _ | exact hr4 _) (fun _ => ?_) (fun c => absurd c (by decide))
    refine wq_iload (pc := 1821) dL_law_1821 rfl ?_
    refine wq_aload (pc := 1823) dL_law_1823 rfl ?_
    refine wq_iload (pc := 1825) dL_law_1825 rfl ?_
    refine wq_ialdX (pc := 1827) dL_law_1827 (by with_reducible assumption) rfl (by omega) (by omega) ?_
    refine wq_icmp_eq (pc := 1828) (tgt := 1849) dL_law_1828 (by decide) (by first | assumption | (unfold inR; omega)) (hr4 _) (fun c9 => by exfalso; omega) (fun c15 => ?_)
    refine wq_iload (pc := 1831) dL_law_1831 rfl ?_
    refine wq_if_ne (pc := 1833) (tgt := 1849) dL_law_1833 (by decide) (by first | (unfold inR; omega) | assumption | exact hr2 _ | exact hr3 _ | exact hr4 _) (fun _ => ?_) (fun c => absurd c (by decide))
    refine wq_iconst (pc := 1849) dL_law_1849 ?_
    refine wq_goto (pc := 1850) (tgt := 1854) dL_law_1850 (by decide) ?_
    refine wq_istore (pc := 1854) (L' := [(7, _), (22, _), (21, _), (0, _), (1, _), (2, _), (3, _), (4, _), (5, _), (6, _), (8, _), (10, _), (11, _), (12, _), (13, _), (14, _), (15, _), (16, _), (17, _), (18, _), (19, _), (20, _), (23, _), (24, _)]) dL_law_1854 rfl (by decide) ?_
    refine wq_iload (pc := 1856) dL_law_1856 rfl ?_
    refine wq_if_eq (pc := 1858) (tgt := 1903) dL_law_1858 (by decide) (by first | (unfold inR; omega) | assumption | exact hr2 _ | exact hr3 _ | exact hr4 _) (fun c => absurd c (by decide)) (fun _ => ?_)
    refine wq_iload (pc := 1861) dL_law_1861 rfl ?_
    refine wq_if_lt (pc := 1863) (tgt := 1903) dL_law_1863 (by decide) (by first | (unfold inR; omega) | assumption | exact hr2 _ | exact hr3 _ | exact hr4 _) (fun _ => ?_) (fun c => absurd c (by decide))
    refine wq_goto (pc := 1903) (tgt := 2040) dL_law_1903 (by decide) ?_
    refine wq_sub1 (L' := [(0, _), (1, _), (2, _), (3, _), (4, _), (5, _), (6, _), (7, _), (8, _), (11, _), (22, _)]) ⟨rfl, rfl, rfl, rfl, rfl, rfl, rfl, rfl, rfl, rfl, rfl, trivial⟩ ?_
    exact H _ _ _ _ _ (ST_t hE (by omega) (by omega) (by omega) (by omega))
  · skip
    show wpL 1775 _ _ _ _ _
    have hrr : inR r := by unfold inR; omega
    refine wq_istore (pc := 1775) (L' := [(21, _), (0, _), (1, _), (2, _), (3, _), (4, _), (5, _), (6, _), (7, _), (8, _), (10, _), (11, _), (12, _), (13, _), (14, _), (15, _), (16, _), (17, _), (18, _), (19, _), (20, _), (22, _), (23, _), (24, _)]) dL_law_1775 rfl (by decide) ?_
    refine wq_iload (pc := 1777) dL_law_1777 rfl ?_
    refine wq_bipush (pc := 1779) dL_law_1779 (by decide) (by decide) ?_
    refine wq_icmp_ne (pc := 1781) (tgt := 1788) dL_law_1781 (by decide) (by first | (unfold inR; omega) | assumption | exact hr2 _ | exact hr3 _ | exact hr4 _) (by first | (unfold inR; omega) | assumption | exact hr2 _ | exact hr3 _ | exact hr4 _) (fun c19 => ?_) (fun c9 => by exfalso; omega)
    refine wq_iconst (pc := 1788) dL_law_1788 ?_
    refine wq_istore (pc := 1789) (L' := [(22, _), (21, _), (0, _), (1, _), (2, _), (3, _), (4, _), (5, _), (6, _), (7, _), (8, _), (10, _), (11, _), (12, _), (13, _), (14, _), (15, _), (16, _), (17, _), (18, _), (19, _), (20, _), (23, _), (24, _)]) dL_law_1789 rfl (by decide) ?_
    refine wq_iload (pc := 1791) dL_law_1791 rfl ?_
    refine wq_if_ne (pc := 1793) (tgt := 1821) dL_law_1793 (by decide) (by first | (unfold inR; omega) | assumption | exact hr2 _ | exact hr3 _ | exact hr4 _) (fun _ => ?_) (fun c => absurd c (by decide))
    refine wq_iload (pc := 1821) dL_law_1821 rfl ?_
    refine wq_aload (pc := 1823) dL_law_1823 rfl ?_
    refine wq_iload (pc := 1825) dL_law_1825 rfl ?_
    refine wq_ialdX (pc := 1827) dL_law_1827 (by with_reducible assumption) rfl (by omega) (by omega) ?_
    refine wq_icmp_eq (pc := 1828) (tgt := 1849) dL_law_1828 (by decide) (by first | assumption | (unfold inR; omega)) (hr4 _) (fun c21 => ?_) (fun c9 => by exfalso; omega)
    refine wq_iconst (pc := 1849) dL_law_1849 ?_
    refine wq_goto (pc := 1850) (tgt := 1854) dL_law_1850 (by decide) ?_
    refine wq_istore (pc := 1854) (L' := [(7, _), (22, _), (21, _), (0, _), (1, _), (2, _), (3, _), (4, _), (5, _), (6, _), (8, _), (10, _), (11, _), (12, _), (13, _), (14, _), (15, _), (16, _), (17, _), (18, _), (19, _), (20, _), (23, _), (24, _)]) dL_law_1854 rfl (by decide) ?_
    refine wq_iload (pc := 1856) dL_law_1856 rfl ?_
    refine wq_if_eq (pc := 1858) (tgt := 1903) dL_law_1858 (by decide) (by first | (unfold inR; omega) | assumption | exact hr2 _ | exact hr3 _ | exact hr4 _) (fun c => absurd c (by decide)) (fun _ => ?_)
    refine wq_iload (pc := 1861) dL_law_1861 rfl ?_
    refine wq_if_lt (pc := 1863) (tgt := 1903) dL_law_1863 (by decide) (by first | (unfold inR; omega) | assumption | exact hr2 _ | exact hr3 _ | exact hr4 _) (fun c9 => by exfalso; omega) (fun c23 => ?_)
    refine wq_iload (pc := 1866) dL_law_1866 rfl ?_
    refine wq_istore (pc := 1868) (L' := [(25, _), (7, _), (22, _), (21, _), (0, _), (1, _), (2, _), (3, _), (4, _), (5, _), (6, _), (8, _), (10, _), (11, _), (12, _), (13, _), (14, _), (15, _), (16, _), (17, _), (18, _), (19, _), (20, _), (23, _), (24, _)]) dL_law_1868 rfl (by decide) ?_
    have loop24 : ∀ (n k : Nat), ∀ (Xk m : nMem) (pp : Int), k ≤ 70 → 70 < k + n → pp = z + (k : Int) → Wd N A1 (nb + 1) (vb + 2) t Xk m ee → (∀ x j, 21 ≤ x → x ≤ 24 → Xk x j = X x j) → (∀ i p, 0 ≤ i → i < X 21 1 → 0 ≤ p → p < 64 → cB (Xk 25) i p = if i = s ∧ z ≤ p ∧ p < z + (k : Int) then 0 else cB (X 25) i p) → (∀ j, inR (Xk (-1) j)) → (k = 0 ∨ z + (k : Int) ≤ X 24 s) → wpL 1870 [(0, vR (-1)), (1, vR 1), (2, vR 21), (3, vR 22), (4, vR 23), (5, vR 24), (6, vR 25), (7, vI 1), (8, vI turn), (11, vI y), (17, vI s), (22, vI 0), (23, vI z), (25, vI pp)] [] m ee Q := by
      intro n
      induction n with
      | zero => intro k Xk m pp hk1 hk2 e0 e1 e2 e3 e4 e5; exact absurd hk2 (by omega)
      | succ n ih =>
        intro k Xk m pp hk1 hk2 e0 e1 e2 e3 e4 e5
        subst e0
        have hl := e2 24 s (by omega) (by omega)
        refine wq_iload (pc := 1870) dL_law_1870 rfl ?_
        refine wq_aload (pc := 1872) dL_law_1872 rfl ?_
        refine wq_iload (pc := 1874) dL_law_1874 rfl ?_
        refine wq_ialdX (pc := 1876) dL_law_1876 (by with_reducible assumption) rfl (by omega) (by omega) ?_
        refine wq_icmp_ge (pc := 1877) (tgt := 1896) dL_law_1877 (by decide) (by unfold inR; omega) (by rw [hl]; exact hr4 _) (fun c25 => ?_) (fun c25 => ?_)
        · skip
          have ew := fun (x j : Int) (hx : x ≠ 24) => wr_n m (a := 24) (k := s) (x := x) (j := j) z (fun q => hx q.1)
          have e24 : ∀ j, wr m 24 s z 24 j = if j = s then z else X 24 j := fun j => by
            by_cases c : j = s
            · rw [c, wr_s, if_pos rfl]
            · rw [wr_n _ _ (fun q => c q.2), if_neg c, Wd_x e1 (x := 24) (by omega)]; exact e2 24 j (by omega) (by omega)
          have e25 : wr m 24 s z 25 = Xk 25 := funext (fun j => by rw [ew 25 j (by omega), Wd_x e1 (x := 25) (by omega)])
          have ex : ∀ x j, 21 ≤ x → x ≤ 23 → wr m 24 s z x j = X x j := fun x j x0 x1 => by rw [ew x j (by omega), Wd_x e1 (x := x) (by omega)]; exact e2 x j x0 (by omega)
          have hE : ST N A1 (nb + 1) (vb + 2) t (wr m 24 s z) (wr m 24 s z) ee 0 := by
            obtain ⟨w1, w2⟩ := Wd_w e1 (μ9 := wr m 24 s z) (fun x j hx => ew x j (by omega))
            refine ST_i w1 (hJA _ (fun j => ex 21 j (by omega) (by omega)) (fun j => ex 22 j (by omega) (by omega)) (fun j => ex 23 j (by omega) (by omega)) e24 (fun i p i0 i1 p0 p1 => ?_)) (LXs_w hX ex (fun j => by rw [e24 j]; split; (unfold inR; omega); exact hr4 j)) hz.1 hz.2 (fun j => by rw [w2 j]; exact e4 j)
            rw [e25, e3 i p i0 i1 p0 p1]
            by_cases c : i = s ∧ z ≤ p ∧ p < X 24 s
            · rw [if_pos c, if_pos (by omega)]
            · rw [if_neg c]
              by_cases c2 : i = s ∧ z ≤ p ∧ p < z + (k : Int)
              · omega
              · rw [if_neg c2]
          refine wq_aload (pc := 1896) dL_law_1896 rfl ?_
          refine wq_iload (pc := 1898) dL_law_1898 rfl ?_
          refine wq_iload (pc := 1900) dL_law_1900 rfl ?_
          refine wq_iastK (pc := 1902) dL_law_1902 (Wd_s2 (by with_reducible assumption)) rfl (by omega) (by omega) ?_
          refine wq_goto (pc := 1903) (tgt := 2040) dL_law_1903 (by decide) ?_
          refine wq_sub1 (L' := [(0, _), (1, _), (2, _), (3, _), (4, _), (5, _), (6, _), (7, _), (8, _), (11, _), (22, _)]) ⟨rfl, rfl, rfl, rfl, rfl, rfl, rfl, rfl, rfl, rfl, rfl, trivial⟩ ?_
          exact H _ _ _ _ _ (ST_t hE (by omega) (by omega) (by omega) (by omega))
        · skip
          refine wq_aload (pc := 1880) dL_law_1880 rfl ?_
          refine wq_iload (pc := 1882) dL_law_1882 rfl ?_
          refine wq_iload (pc := 1884) dL_law_1884 rfl ?_
          refine wq_lconst (pc := 1886) (v := 0) dL_law_1886 rfl ?_
          refine lS_4 (pc := 1887) dL_law_1887 (cw_L_154 _ rfl) ⟨by decide, by decide⟩ (Nat.le_of_ble_eq_true rfl) (sW_lays e1 (by omega) (by omega) (fun X1 W1 ly im1 => ?_))
          show wpL 1890 _ _ _ _ _
          refine wq_iinc (pc := 1890) (L' := [(25, _), (0, _), (1, _), (2, _), (3, _), (4, _), (5, _), (6, _), (7, _), (8, _), (11, _), (17, _), (22, _), (23, _)]) dL_law_1890 rfl rfl (by decide) ?_
          refine wq_goto (pc := 1893) (tgt := 1870) dL_law_1893 (by decide) ?_
          refine wq_sub1 (L' := [(0, _), (1, _), (2, _), (3, _), (4, _), (5, _), (6, _), (7, _), (8, _), (11, _), (17, _), (22, _), (23, _), (25, _)]) ⟨rfl, rfl, rfl, rfl, rfl, rfl, rfl, rfl, rfl, rfl, rfl, rfl, rfl, rfl, trivial⟩ ?_
          refine ih (k + 1) _ _ _ (by omega) (by omega) (by omega) W1 (fun x j x0 x1 => ?_) (fun i p i0 i1 p0 p1 => ?_) (fun j => ?_) (by omega)
          · rw [ly.1 x j x0 x1]; exact e2 x j x0 x1
          · rw [cB_lay (c := Xk 25) (by omega) ly.2 i p ⟨p0, p1⟩]
            by_cases c : i = s ∧ p = z + (k : Int)
            · rw [if_pos c, if_pos (by omega)]; rfl
            · rw [if_neg c, e3 i p i0 i1 p0 p1]
              by_cases c2 : i = s ∧ z ≤ p ∧ p < z + (k : Int)
              · rw [if_pos c2, if_pos (by omega)]
              · rw [if_neg c2, if_neg (by omega)]
          · rw [im1 j]; exact e4 j
    refine wq_sub1 (L' := [(0, _), (1, _), (2, _), (3, _), (4, _), (5, _), (6, _), (7, _), (8, _), (11, _), (17, _), (22, _), (23, _), (25, _)]) ⟨rfl, rfl, rfl, rfl, rfl, rfl, rfl, rfl, rfl, rfl, rfl, rfl, rfl, rfl, trivial⟩ ?_
    exact loop24 71 0 _ _ z (by omega) (by omega) (by omega) W (fun x j _ _ => rfl) (fun i p _ _ _ _ => by rw [if_neg (by omega)]) hi (Or.inl rfl)
theorem lw_tn {μ : nMem} {ε : nEnv} {Q : nOut → nMem → nEnv → Prop} {N : Int} {A : AS} {nb vb : Int} {t : Nat} {X : nMem} {turn kd y d d2 nm nm2 f s b a fr : Int} {z : Int} (hS : ST N A nb vb (t + 1) X μ ε 0) (hnb : nb + 1 ≤ 490) (hvb : vb + 2 ≤ 4000) (hvb0 : 0 ≤ vb) (hn2 : 2 ≤ nb) (ry : 0 ≤ y ∧ y ≤ 2147483647) (ht : 0 ≤ turn ∧ turn < 120) (hF : LF A X d d2 nm nm2 f s b a fr) (H : ∀ A1 X1 m e w, ST N A1 (nb + 1) (vb + 2) t X1 m e w → wpL 2040 [(0, vR (-1)), (1, vR 1), (2, vR 21), (3, vR 22), (4, vR 23), (5, vR 24), (6, vR 25), (7, vI 1), (8, vI turn), (11, vI y), (22, vI w)] [] m e Q) (hzz : 0 ≤ z ∧ z < 66) (hc : ¬ (0 ≤ s ∧ z < 65)) : wpL 1765 [(0, vR (-1)), (1, vR 1), (2, vR 21), (3, vR 22), (4, vR 23), (5, vR 24), (6, vR 25), (7, vI 1), (8, vI turn), (10, vI kd), (11, vI y), (12, vI d), (13, vI d2), (14, vI nm), (15, vI nm2), (16, vI f), (17, vI s), (18, vI b), (19, vI a), (20, vI fr), (21, vI 0), (22, vI 0), (23, vI z), (24, vI 0)] [] μ ε Q := by
  obtain ⟨⟨hW, hG, hX, hi⟩, ⟨hD, hJ, hV, hZ⟩, fl, SS, hP, hTS⟩ := ST_0 hS
  obtain ⟨f1, f2, f3, f4, f5, f6, f7, f8, f9⟩ := id hF
  obtain ⟨⟨⟨hn0, hn15⟩, ⟨hm0, hm8⟩, hr2, hr3, hr4⟩, hn14, hm7⟩ := id hX
  have hs9 := GA_slot hG f
  have ha9 := GA_find hG d nm
  rw [← f7] at hs9
  rw [← f8] at ha9
  have hfr9 := (frN_le A).2
  rw [← f9] at hfr9
  clear f7 f8 f9
  refine wq_aload_n (pc := 1765) dL_law_1765 rfl rfl ?_
  refine wq_iconst (pc := 1766) dL_law_1766 ?_
  refine wq_iload (pc := 1767) dL_law_1767 rfl ?_
  refine wq_iload (pc := 1769) dL_law_1769 rfl ?_
  refine wq_iconst (pc := 1771) dL_law_1771 ?_
  refine cW_5 (pc := 1772) dL_law_1772 (cw_L_85 _ rfl) ⟨by decide, by decide⟩ (Nat.le_of_ble_eq_true rfl) (qc_truncate hS hnb hvb hF (by omega) (fun r mm ee hE hr => ?_) (fun mm ee hE hr => ?_) (fun A1 mm ee hE hr => ?_) (fun A1 r mm ee W hr hJA hz => ?_))
  · skip
    show wpL 1775 _ _ _ _ _
    have WE := hE.1
    refine wq_istore (pc := 1775) (L' := [(21, _), (0, _), (1, _), (2, _), (3, _), (4, _), (5, _), (6, _), (7, _), (8, _), (10, _), (11, _), (12, _), (13, _), (14, _), (15, _), (16, _), (17, _), (18, _), (19, _), (20, _), (22, _), (23, _), (24, _)]) dL_law_1775 rfl (by decide) ?_
    refine wq_iload (pc := 1777) dL_law_1777 rfl ?_
    refine wq_bipush (pc := 1779) dL_law_1779 (by decide) (by decide) ?_
    refine wq_icmp_ne (pc := 1781) (tgt := 1788) dL_law_1781 (by decide) (by first | (unfold inR; omega) | assumption | exact hr2 _ | exact hr3 _ | exact hr4 _) (by first | (unfold inR; omega) | assumption | exact hr2 _ | exact hr3 _ | exact hr4 _) (fun c5 => ?_) (fun c9 => by exfalso; omega)
    refine wq_iconst (pc := 1788) dL_law_1788 ?_
    refine wq_istore (pc := 1789) (L' := [(22, _), (21, _), (0, _), (1, _), (2, _), (3, _), (4, _), (5, _), (6, _), (7, _), (8, _), (10, _), (11, _), (12, _), (13, _), (14, _), (15, _), (16, _), (17, _), (18, _), (19, _), (20, _), (23, _), (24, _)]) dL_law_1789 rfl (by decide) ?_
    refine wq_iload (pc := 1791) dL_law_1791 rfl ?_
    refine wq_if_ne (pc := 1793) (tgt := 1821) dL_law_1793 (by decide) (by first | (unfold inR; omega) | assumption | exact hr2 _ | exact hr3 _ | exact hr4 _) (fun c => absurd c (by decide)) (fun _ => ?_)
    refine wq_iload (pc := 1796) dL_law_1796 rfl ?_
    refine wq_iload (pc := 1798) dL_law_1798 rfl ?_
    refine wq_if_ge (pc := 1800) (tgt := 1808) dL_law_1800 (by decide) (by first | (unfold inR; omega) | assumption | exact hr2 _ | exact hr3 _ | exact hr4 _) (fun c7 => ?_) (fun c7 => ?_)
    · skip
      refine wq_bipush (pc := 1808) dL_law_1808 (by decide) (by decide) ?_
      refine wq_icmp_ne (pc := 1810) (tgt := 1817) dL_law_1810 (by decide) (by first | (unfold inR; omega) | assumption | exact hr2 _ | exact hr3 _ | exact hr4 _) (by first | (unfold inR; omega) | assumption | exact hr2 _ | exact hr3 _ | exact hr4 _) (fun c9 => by exfalso; omega) (fun c8 => ?_)
      refine wq_iconst (pc := 1813) dL_law_1813 ?_
      refine wq_goto (pc := 1814) (tgt := 1854) dL_law_1814 (by decide) ?_
      refine wq_istore (pc := 1854) (L' := [(7, _), (22, _), (21, _), (0, _), (1, _), (2, _), (3, _), (4, _), (5, _), (6, _), (8, _), (10, _), (11, _), (12, _), (13, _), (14, _), (15, _), (16, _), (17, _), (18, _), (19, _), (20, _), (23, _), (24, _)]) dL_law_1854 rfl (by decide) ?_
      refine wq_iload (pc := 1856) dL_law_1856 rfl ?_
      refine wq_if_eq (pc := 1858) (tgt := 1903) dL_law_1858 (by decide) (by first | (unfold inR; omega) | assumption | exact hr2 _ | exact hr3 _ | exact hr4 _) (fun _ => ?_) (fun c => absurd c (by decide))
      refine wq_goto (pc := 1903) (tgt := 2040) dL_law_1903 (by decide) ?_
      refine wq_sub1 (L' := [(0, _), (1, _), (2, _), (3, _), (4, _), (5, _), (6, _), (7, _), (8, _), (11, _), (22, _)]) ⟨rfl, rfl, rfl, rfl, rfl, rfl, rfl, rfl, rfl, rfl, rfl, trivial⟩ ?_
      exact H _ _ _ _ _ (ST_t hE (by omega) (by omega) (by omega) (by omega))
    · skip
      refine wq_bipush (pc := 1803) dL_law_1803 (by decide) (by decide) ?_
      refine wq_goto (pc := 1805) (tgt := 1810) dL_law_1805 (by decide) ?_
      refine wq_icmp_ne (pc := 1810) (tgt := 1817) dL_law_1810 (by decide) (by first | (unfold inR; omega) | assumption | exact hr2 _ | exact hr3 _ | exact hr4 _) (by first | (unfold inR; omega) | assumption | exact hr2 _ | exact hr3 _ | exact hr4 _) (fun c9 => by exfalso; omega) (fun c10 => ?_)
      refine wq_iconst (pc := 1813) dL_law_1813 ?_
      refine wq_goto (pc := 1814) (tgt := 1854) dL_law_1814 (by decide) ?_
      refine wq_istore (pc := 1854) (L' := [(7, _), (22, _), (21, _), (0, _), (1, _), (2, _), (3, _), (4, _), (5, _), (6, _), (8, _), (10, _), (11, _), (12, _), (13, _), (14, _), (15, _), (16, _), (17, _), (18, _), (19, _), (20, _), (23, _), (24, _)]) dL_law_1854 rfl (by decide) ?_
      refine wq_iload (pc := 1856) dL_law_1856 rfl ?_
      refine wq_if_eq (pc := 1858) (tgt := 1903) dL_law_1858 (by decide) (by first | (unfold inR; omega) | assumption | exact hr2 _ | exact hr3 _ | exact hr4 _) (fun _ => ?_) (fun c => absurd c (by decide))
      refine wq_goto (pc := 1903) (tgt := 2040) dL_law_1903 (by decide) ?_
      refine wq_sub1 (L' := [(0, _), (1, _), (2, _), (3, _), (4, _), (5, _), (6, _), (7, _), (8, _), (11, _), (22, _)]) ⟨rfl, rfl, rfl, rfl, rfl, rfl, rfl, rfl, rfl, rfl, rfl, trivial⟩ ?_
      exact H _ _ _ _ _ (ST_t hE (by omega) (by omega) (by omega) (by omega))
  · skip
    exfalso; omega
  · skip
    exfalso; omega
  · skip
    exfalso; omega
theorem lw_truncate {μ : nMem} {ε : nEnv} {Q : nOut → nMem → nEnv → Prop} {N : Int} {A : AS} {nb vb : Int} {t : Nat} {X : nMem} {turn kd y d d2 nm nm2 f s b a fr : Int} (hS : ST N A nb vb (t + 1) X μ ε 0) (hnb : nb + 1 ≤ 490) (hvb : vb + 2 ≤ 4000) (hvb0 : 0 ≤ vb) (hn2 : 2 ≤ nb) (ry : 0 ≤ y ∧ y ≤ 2147483647) (ht : 0 ≤ turn ∧ turn < 120) (hF : LF A X d d2 nm nm2 f s b a fr) (H : ∀ A1 X1 m e w, ST N A1 (nb + 1) (vb + 2) t X1 m e w → wpL 2040 [(0, vR (-1)), (1, vR 1), (2, vR 21), (3, vR 22), (4, vR 23), (5, vR 24), (6, vR 25), (7, vI 1), (8, vI turn), (11, vI y), (22, vI w)] [] m e Q) : wpL 1737 [(0, vR (-1)), (1, vR 1), (2, vR 21), (3, vR 22), (4, vR 23), (5, vR 24), (6, vR 25), (7, vI 1), (8, vI turn), (10, vI kd), (11, vI y), (12, vI d), (13, vI d2), (14, vI nm), (15, vI nm2), (16, vI f), (17, vI s), (18, vI b), (19, vI a), (20, vI fr), (21, vI 0), (22, vI 0)] [] μ ε Q := by
  obtain ⟨⟨hW, hG, hX, hi⟩, ⟨hD, hJ, hV, hZ⟩, fl, SS, hP, hTS⟩ := ST_0 hS
  obtain ⟨f1, f2, f3, f4, f5, f6, f7, f8, f9⟩ := id hF
  obtain ⟨⟨⟨hn0, hn15⟩, ⟨hm0, hm8⟩, hr2, hr3, hr4⟩, hn14, hm7⟩ := id hX
  have hs9 := GA_slot hG f
  have ha9 := GA_find hG d nm
  rw [← f7] at hs9
  rw [← f8] at ha9
  have hfr9 := (frN_le A).2
  rw [← f9] at hfr9
  clear f7 f8 f9
  refine wq_iload (pc := 1737) dL_law_1737 rfl ?_
  refine wq_iconst (pc := 1739) dL_law_1739 ?_
  refine wq_idiv (pc := 1740) dL_law_1740 (by omega) (by omega) ?_
  refine wq_bipush (pc := 1741) dL_law_1741 (by decide) (by decide) ?_
  refine wq_irem (pc := 1743) dL_law_1743 (by omega) (by omega) ?_
  refine wq_istore (pc := 1744) (L' := [(23, _), (0, _), (1, _), (2, _), (3, _), (4, _), (5, _), (6, _), (7, _), (8, _), (10, _), (11, _), (12, _), (13, _), (14, _), (15, _), (16, _), (17, _), (18, _), (19, _), (20, _), (21, _), (22, _)]) dL_law_1744 rfl (by decide) ?_
  refine wq_iload (pc := 1746) dL_law_1746 rfl ?_
  refine wq_if_lt (pc := 1748) (tgt := 1762) dL_law_1748 (by decide) (by first | (unfold inR; omega) | assumption | exact hr2 _ | exact hr3 _ | exact hr4 _) (fun c1 => ?_) (fun c1 => ?_)
  · skip
    refine wq_iconst (pc := 1762) dL_law_1762 ?_
    refine wq_istore (pc := 1763) (L' := [(24, _), (23, _), (0, _), (1, _), (2, _), (3, _), (4, _), (5, _), (6, _), (7, _), (8, _), (10, _), (11, _), (12, _), (13, _), (14, _), (15, _), (16, _), (17, _), (18, _), (19, _), (20, _), (21, _), (22, _)]) dL_law_1763 rfl (by decide) ?_
    refine wq_sub1 (L' := [(0, _), (1, _), (2, _), (3, _), (4, _), (5, _), (6, _), (7, _), (8, _), (10, _), (11, _), (12, _), (13, _), (14, _), (15, _), (16, _), (17, _), (18, _), (19, _), (20, _), (21, _), (22, _), (23, _), (24, _)]) ⟨rfl, rfl, rfl, rfl, rfl, rfl, rfl, rfl, rfl, rfl, rfl, rfl, rfl, rfl, rfl, rfl, rfl, rfl, rfl, rfl, rfl, rfl, rfl, rfl, trivial⟩ ?_
    exact lw_tn hS hnb hvb hvb0 hn2 ry ht hF H (by omega) (by omega)
  · skip
    refine wq_iload (pc := 1751) dL_law_1751 rfl ?_
    refine wq_bipush (pc := 1753) dL_law_1753 (by decide) (by decide) ?_
    refine wq_icmp_ge (pc := 1755) (tgt := 1762) dL_law_1755 (by decide) (by first | (unfold inR; omega) | assumption | exact hr2 _ | exact hr3 _ | exact hr4 _) (by first | (unfold inR; omega) | assumption | exact hr2 _ | exact hr3 _ | exact hr4 _) (fun c2 => ?_) (fun c2 => ?_)
    · skip
      refine wq_iconst (pc := 1762) dL_law_1762 ?_
      refine wq_istore (pc := 1763) (L' := [(24, _), (23, _), (0, _), (1, _), (2, _), (3, _), (4, _), (5, _), (6, _), (7, _), (8, _), (10, _), (11, _), (12, _), (13, _), (14, _), (15, _), (16, _), (17, _), (18, _), (19, _), (20, _), (21, _), (22, _)]) dL_law_1763 rfl (by decide) ?_
      refine wq_sub1 (L' := [(0, _), (1, _), (2, _), (3, _), (4, _), (5, _), (6, _), (7, _), (8, _), (10, _), (11, _), (12, _), (13, _), (14, _), (15, _), (16, _), (17, _), (18, _), (19, _), (20, _), (21, _), (22, _), (23, _), (24, _)]) ⟨rfl, rfl, rfl, rfl, rfl, rfl, rfl, rfl, rfl, rfl, rfl, rfl, rfl, rfl, rfl, rfl, rfl, rfl, rfl, rfl, rfl, rfl, rfl, rfl, trivial⟩ ?_
      exact lw_tn hS hnb hvb hvb0 hn2 ry ht hF H (by omega) (by omega)
    · skip
      refine wq_iconst (pc := 1758) dL_law_1758 ?_
      refine wq_goto (pc := 1759) (tgt := 1763) dL_law_1759 (by decide) ?_
      refine wq_istore (pc := 1763) (L' := [(24, _), (23, _), (0, _), (1, _), (2, _), (3, _), (4, _), (5, _), (6, _), (7, _), (8, _), (10, _), (11, _), (12, _), (13, _), (14, _), (15, _), (16, _), (17, _), (18, _), (19, _), (20, _), (21, _), (22, _)]) dL_law_1763 rfl (by decide) ?_
      refine wq_sub1 (L' := [(0, _), (1, _), (2, _), (3, _), (4, _), (5, _), (6, _), (7, _), (8, _), (10, _), (11, _), (12, _), (13, _), (14, _), (15, _), (16, _), (17, _), (18, _), (19, _), (20, _), (21, _), (22, _), (23, _), (24, _)]) ⟨rfl, rfl, rfl, rfl, rfl, rfl, rfl, rfl, rfl, rfl, rfl, rfl, rfl, rfl, rfl, rfl, rfl, rfl, rfl, rfl, rfl, rfl, rfl, rfl, trivial⟩ ?_
      exact lw_ty hS hnb hvb hvb0 hn2 ry ht hF H (by omega) (by omega)
