theorem lw_ly {μ : nMem} {ε : nEnv} {Q : nOut → nMem → nEnv → Prop} {N : Int} {A : AS} {nb vb : Int} {t : Nat} {X : nMem} {turn kd y d d2 nm nm2 f s b a fr : Int} (hS : ST N A nb vb (t + 1) X μ ε 0) (hnb : nb + 1 ≤ 490) (hvb : vb + 2 ≤ 4000) (hvb0 : 0 ≤ vb) (hn2 : 2 ≤ nb) (ry : 0 ≤ y ∧ y ≤ 2147483647) (ht : 0 ≤ turn ∧ turn < 120) (hF : LF A X d d2 nm nm2 f s b a fr) (H : ∀ A1 X1 m e w, ST N A1 (nb + 1) (vb + 2) t X1 m e w → wpL 2040 [(0, vR (-1)), (1, vR 1), (2, vR 21), (3, vR 22), (4, vR 23), (5, vR 24), (6, vR 25), (7, vI 1), (8, vI turn), (11, vI y), (22, vI w)] [] m e Q) (hn13 : X 21 0 < 14) (hc : (b = 1 ∧ 0 ≤ s ∧ 0 < nm ∧ a < 0)) : wpL 764 [(0, vR (-1)), (1, vR 1), (2, vR 21), (3, vR 22), (4, vR 23), (5, vR 24), (6, vR 25), (7, vI 1), (8, vI turn), (10, vI kd), (11, vI y), (12, vI d), (13, vI d2), (14, vI nm), (15, vI nm2), (16, vI f), (17, vI s), (18, vI b), (19, vI a), (20, vI fr), (21, vI 0), (22, vI 0), (23, vI 1)] [] μ ε Q := by
  obtain ⟨⟨hW, hG, hX, hi⟩, ⟨hD, hJ, hV, hZ⟩, fl, SS, hP, hTS⟩ := ST_0 hS
  obtain ⟨f1, f2, f3, f4, f5, f6, f7, f8, f9⟩ := id hF
  obtain ⟨⟨⟨hn0, hn15⟩, ⟨hm0, hm8⟩, hr2, hr3, hr4⟩, hn14, hm7⟩ := id hX
  have hs9 := GA_slot hG f
  have ha9 := GA_find hG d nm
  rw [← f7] at hs9
  rw [← f8] at ha9
  have hfr9 := (frN_le A).2
  rw [← f9] at hfr9
  clear f7 f8 f9
  have hcf := cR_b (pT (X 22) f) (X 21 0).toNat
  refine wq_aload_n (pc := 764) dL_law_764 rfl rfl ?_
  refine wq_iconst (pc := 765) dL_law_765 ?_
  refine wq_iload (pc := 766) dL_law_766 rfl ?_
  refine wq_iload (pc := 768) dL_law_768 rfl ?_
  refine wq_iload (pc := 770) dL_law_770 rfl ?_
  refine cW_5 (pc := 772) dL_law_772 (cw_L_85 _ rfl) ⟨by decide, by decide⟩ (Nat.le_of_ble_eq_true rfl) (qc_link hS hnb hvb hF (fun r mm ee hE hr => ?_) (fun mm ee hE hr => ?_) (fun A1 mm ee hE hr => ?_) (fun A1 r mm ee W hr hl hJA hz => ?_))
  · skip
    exfalso; omega
  · skip
    show wpL 775 _ _ _ _ _
    refine wq_istore (pc := 775) (L' := [(21, _), (0, _), (1, _), (2, _), (3, _), (4, _), (5, _), (6, _), (7, _), (8, _), (10, _), (11, _), (12, _), (13, _), (14, _), (15, _), (16, _), (17, _), (18, _), (19, _), (20, _), (22, _), (23, _)]) dL_law_775 rfl (by decide) ?_
    refine wq_iload (pc := 777) dL_law_777 rfl ?_
    refine wq_bipush (pc := 779) dL_law_779 (by decide) (by decide) ?_
    refine wq_icmp_ne (pc := 781) (tgt := 788) dL_law_781 (by decide) (by first | (unfold inR; omega) | assumption | exact hr2 _ | exact hr3 _ | exact hr4 _) (by first | (unfold inR; omega) | assumption | exact hr2 _ | exact hr3 _ | exact hr4 _) (fun _ => ?_) (fun c9 => by exfalso; omega)
    refine wq_iconst (pc := 788) dL_law_788 ?_
    refine wq_istore (pc := 789) (L' := [(22, _), (21, _), (0, _), (1, _), (2, _), (3, _), (4, _), (5, _), (6, _), (7, _), (8, _), (10, _), (11, _), (12, _), (13, _), (14, _), (15, _), (16, _), (17, _), (18, _), (19, _), (20, _), (23, _)]) dL_law_789 rfl (by decide) ?_
    refine wq_iload (pc := 791) dL_law_791 rfl ?_
    refine wq_if_ne (pc := 793) (tgt := 836) dL_law_793 (by decide) (by first | (unfold inR; omega) | assumption | exact hr2 _ | exact hr3 _ | exact hr4 _) (fun _ => ?_) (fun c => absurd c (by decide))
    refine wq_iload (pc := 836) dL_law_836 rfl ?_
    refine wq_aload_n (pc := 838) dL_law_838 rfl rfl ?_
    refine wq_aload_n (pc := 839) dL_law_839 rfl rfl ?_
    refine wq_iload (pc := 840) dL_law_840 rfl ?_
    refine lS_3 (pc := 842) dL_law_842 (cw_L_13 _ rfl) ⟨by decide, by decide⟩ (Nat.le_of_ble_eq_true rfl) (sW_links hE.1 hX.1 (by unfold inR; omega) ?_)
    show wpL 845 _ _ _ _ _
    refine wq_iconst (pc := 845) dL_law_845 ?_
    refine wq_iadd (pc := 846) dL_law_846 ?_
    refine wq_icmp_eq (pc := 847) (tgt := 868) dL_law_847 (by decide) (by first | (unfold inR; omega) | assumption | exact hr2 _ | exact hr3 _ | exact hr4 _) (by first | (unfold inR; omega) | assumption | exact hr2 _ | exact hr3 _ | exact hr4 _) (fun c9 => by exfalso; omega) (fun c7 => ?_)
    refine wq_iload (pc := 850) dL_law_850 rfl ?_
    refine wq_if_ne (pc := 852) (tgt := 868) dL_law_852 (by decide) (by first | (unfold inR; omega) | assumption | exact hr2 _ | exact hr3 _ | exact hr4 _) (fun c => absurd c (by decide)) (fun _ => ?_)
    refine wq_iload (pc := 855) dL_law_855 rfl ?_
    refine wq_bipush (pc := 857) dL_law_857 (by decide) (by decide) ?_
    refine wq_icmp_ne (pc := 859) (tgt := 872) dL_law_859 (by decide) (by first | (unfold inR; omega) | assumption | exact hr2 _ | exact hr3 _ | exact hr4 _) (by first | (unfold inR; omega) | assumption | exact hr2 _ | exact hr3 _ | exact hr4 _) (fun c9 => by exfalso; omega) (fun _ => ?_)
    refine wq_iload (pc := 862) dL_law_862 rfl ?_
    refine wq_iconst (pc := 864) dL_law_864 ?_
    refine wq_icmp_ge (pc := 865) (tgt := 872) dL_law_865 (by decide) (by first | (unfold inR; omega) | assumption | exact hr2 _ | exact hr3 _ | exact hr4 _) (by first | (unfold inR; omega) | assumption | exact hr2 _ | exact hr3 _ | exact hr4 _) (fun c9 => by exfalso; omega) (fun c10 => ?_)
    refine wq_iconst (pc := 868) dL_law_868 ?_
    refine wq_goto (pc := 869) (tgt := 873) dL_law_869 (by decide) ?_
    refine wq_istore (pc := 873) (L' := [(7, _), (22, _), (21, _), (0, _), (1, _), (2, _), (3, _), (4, _), (5, _), (6, _), (8, _), (10, _), (11, _), (12, _), (13, _), (14, _), (15, _), (16, _), (17, _), (18, _), (19, _), (20, _), (23, _)]) dL_law_873 rfl (by decide) ?_
    refine wq_iload (pc := 875) dL_law_875 rfl ?_
    refine wq_if_eq (pc := 877) (tgt := 897) dL_law_877 (by decide) (by first | (unfold inR; omega) | assumption | exact hr2 _ | exact hr3 _ | exact hr4 _) (fun c => absurd c (by decide)) (fun _ => ?_)
    refine wq_iload (pc := 880) dL_law_880 rfl ?_
    refine wq_if_le (pc := 882) (tgt := 897) dL_law_882 (by decide) (by first | (unfold inR; omega) | assumption | exact hr2 _ | exact hr3 _ | exact hr4 _) (fun _ => ?_) (fun c => absurd c (by decide))
    refine wq_goto (pc := 897) (tgt := 2040) dL_law_897 (by decide) ?_
    refine wq_sub1 (L' := [(0, _), (1, _), (2, _), (3, _), (4, _), (5, _), (6, _), (7, _), (8, _), (11, _), (22, _)]) ⟨rfl, rfl, rfl, rfl, rfl, rfl, rfl, rfl, rfl, rfl, rfl, trivial⟩ ?_
    exact H _ _ _ _ _ hE
  · skip
    show wpL 775 _ _ _ _ _
    refine wq_istore (pc := 775) (L' := [(21, _), (0, _), (1, _), (2, _), (3, _), (4, _), (5, _), (6, _), (7, _), (8, _), (10, _), (11, _), (12, _), (13, _), (14, _), (15, _), (16, _), (17, _), (18, _), (19, _), (20, _), (22, _), (23, _)]) dL_law_775 rfl (by decide) ?_
    refine wq_iload (pc := 777) dL_law_777 rfl ?_
    refine wq_bipush (pc := 779) dL_law_779 (by decide) (by decide) ?_
    refine wq_icmp_ne (pc := 781) (tgt := 788) dL_law_781 (by decide) (by first | (unfold inR; omega) | assumption | exact hr2 _ | exact hr3 _ | exact hr4 _) (by first | (unfold inR; omega) | assumption | exact hr2 _ | exact hr3 _ | exact hr4 _) (fun c9 => by exfalso; omega) (fun _ => ?_)
    refine wq_iconst (pc := 784) dL_law_784 ?_
    refine wq_goto (pc := 785) (tgt := 789) dL_law_785 (by decide) ?_
    refine wq_istore (pc := 789) (L' := [(22, _), (21, _), (0, _), (1, _), (2, _), (3, _), (4, _), (5, _), (6, _), (7, _), (8, _), (10, _), (11, _), (12, _), (13, _), (14, _), (15, _), (16, _), (17, _), (18, _), (19, _), (20, _), (23, _)]) dL_law_789 rfl (by decide) ?_
    refine wq_iload (pc := 791) dL_law_791 rfl ?_
    refine wq_if_ne (pc := 793) (tgt := 836) dL_law_793 (by decide) (by first | (unfold inR; omega) | assumption | exact hr2 _ | exact hr3 _ | exact hr4 _) (fun _ => ?_) (fun c => absurd c (by decide))
    refine wq_iload (pc := 836) dL_law_836 rfl ?_
    refine wq_aload_n (pc := 838) dL_law_838 rfl rfl ?_
    refine wq_aload_n (pc := 839) dL_law_839 rfl rfl ?_
    refine wq_iload (pc := 840) dL_law_840 rfl ?_
    refine lS_3 (pc := 842) dL_law_842 (cw_L_13 _ rfl) ⟨by decide, by decide⟩ (Nat.le_of_ble_eq_true rfl) (sW_links hE.1 hX.1 (by unfold inR; omega) ?_)
    show wpL 845 _ _ _ _ _
    refine wq_iconst (pc := 845) dL_law_845 ?_
    refine wq_iadd (pc := 846) dL_law_846 ?_
    refine wq_icmp_eq (pc := 847) (tgt := 868) dL_law_847 (by decide) (by first | (unfold inR; omega) | assumption | exact hr2 _ | exact hr3 _ | exact hr4 _) (by first | (unfold inR; omega) | assumption | exact hr2 _ | exact hr3 _ | exact hr4 _) (fun c9 => by exfalso; omega) (fun c15 => ?_)
    refine wq_iload (pc := 850) dL_law_850 rfl ?_
    refine wq_if_ne (pc := 852) (tgt := 868) dL_law_852 (by decide) (by first | (unfold inR; omega) | assumption | exact hr2 _ | exact hr3 _ | exact hr4 _) (fun _ => ?_) (fun c => absurd c (by decide))
    refine wq_iconst (pc := 868) dL_law_868 ?_
    refine wq_goto (pc := 869) (tgt := 873) dL_law_869 (by decide) ?_
    refine wq_istore (pc := 873) (L' := [(7, _), (22, _), (21, _), (0, _), (1, _), (2, _), (3, _), (4, _), (5, _), (6, _), (8, _), (10, _), (11, _), (12, _), (13, _), (14, _), (15, _), (16, _), (17, _), (18, _), (19, _), (20, _), (23, _)]) dL_law_873 rfl (by decide) ?_
    refine wq_iload (pc := 875) dL_law_875 rfl ?_
    refine wq_if_eq (pc := 877) (tgt := 897) dL_law_877 (by decide) (by first | (unfold inR; omega) | assumption | exact hr2 _ | exact hr3 _ | exact hr4 _) (fun c => absurd c (by decide)) (fun _ => ?_)
    refine wq_iload (pc := 880) dL_law_880 rfl ?_
    refine wq_if_le (pc := 882) (tgt := 897) dL_law_882 (by decide) (by first | (unfold inR; omega) | assumption | exact hr2 _ | exact hr3 _ | exact hr4 _) (fun _ => ?_) (fun c => absurd c (by decide))
    refine wq_goto (pc := 897) (tgt := 2040) dL_law_897 (by decide) ?_
    refine wq_sub1 (L' := [(0, _), (1, _), (2, _), (3, _), (4, _), (5, _), (6, _), (7, _), (8, _), (11, _), (22, _)]) ⟨rfl, rfl, rfl, rfl, rfl, rfl, rfl, rfl, rfl, rfl, rfl, trivial⟩ ?_
    exact H _ _ _ _ _ hE
  · skip
    show wpL 775 _ _ _ _ _
    refine wq_istore (pc := 775) (L' := [(21, _), (0, _), (1, _), (2, _), (3, _), (4, _), (5, _), (6, _), (7, _), (8, _), (10, _), (11, _), (12, _), (13, _), (14, _), (15, _), (16, _), (17, _), (18, _), (19, _), (20, _), (22, _), (23, _)]) dL_law_775 rfl (by decide) ?_
    refine wq_iload (pc := 777) dL_law_777 rfl ?_
    refine wq_bipush (pc := 779) dL_law_779 (by decide) (by decide) ?_
    refine wq_icmp_ne (pc := 781) (tgt := 788) dL_law_781 (by decide) (by first | (unfold inR; omega) | assumption | exact hr2 _ | exact hr3 _ | exact hr4 _) (by first | (unfold inR; omega) | assumption | exact hr2 _ | exact hr3 _ | exact hr4 _) (fun c19 => ?_) (fun c9 => by exfalso; omega)
    refine wq_iconst (pc := 788) dL_law_788 ?_
    refine wq_istore (pc := 789) (L' := [(22, _), (21, _), (0, _), (1, _), (2, _), (3, _), (4, _), (5, _), (6, _), (7, _), (8, _), (10, _), (11, _), (12, _), (13, _), (14, _), (15, _), (16, _), (17, _), (18, _), (19, _), (20, _), (23, _)]) dL_law_789 rfl (by decide) ?_
    refine wq_iload (pc := 791) dL_law_791 rfl ?_
    refine wq_if_ne (pc := 793) (tgt := 836) dL_law_793 (by decide) (by first | (unfold inR; omega) | assumption | exact hr2 _ | exact hr3 _ | exact hr4 _) (fun _ => ?_) (fun c => absurd c (by decide))
    refine wq_iload (pc := 836) dL_law_836 rfl ?_
    refine wq_aload_n (pc := 838) dL_law_838 rfl rfl ?_
    refine wq_aload_n (pc := 839) dL_law_839 rfl rfl ?_
    refine wq_iload (pc := 840) dL_law_840 rfl ?_
    refine lS_3 (pc := 842) dL_law_842 (cw_L_13 _ rfl) ⟨by decide, by decide⟩ (Nat.le_of_ble_eq_true rfl) (sW_links W hX.1 (by unfold inR; omega) ?_)
    show wpL 845 _ _ _ _ _
    refine wq_iconst (pc := 845) dL_law_845 ?_
    refine wq_iadd (pc := 846) dL_law_846 ?_
    refine wq_icmp_eq (pc := 847) (tgt := 868) dL_law_847 (by decide) (by first | (unfold inR; omega) | assumption | exact hr2 _ | exact hr3 _ | exact hr4 _) (by first | (unfold inR; omega) | assumption | exact hr2 _ | exact hr3 _ | exact hr4 _) (fun c21 => ?_) (fun c9 => by exfalso; omega)
    refine wq_iconst (pc := 868) dL_law_868 ?_
    refine wq_goto (pc := 869) (tgt := 873) dL_law_869 (by decide) ?_
    refine wq_istore (pc := 873) (L' := [(7, _), (22, _), (21, _), (0, _), (1, _), (2, _), (3, _), (4, _), (5, _), (6, _), (8, _), (10, _), (11, _), (12, _), (13, _), (14, _), (15, _), (16, _), (17, _), (18, _), (19, _), (20, _), (23, _)]) dL_law_873 rfl (by decide) ?_
    refine wq_iload (pc := 875) dL_law_875 rfl ?_
    refine wq_if_eq (pc := 877) (tgt := 897) dL_law_877 (by decide) (by first | (unfold inR; omega) | assumption | exact hr2 _ | exact hr3 _ | exact hr4 _) (fun c => absurd c (by decide)) (fun _ => ?_)
    refine wq_iload (pc := 880) dL_law_880 rfl ?_
    refine wq_if_le (pc := 882) (tgt := 897) dL_law_882 (by decide) (by first | (unfold inR; omega) | assumption | exact hr2 _ | exact hr3 _ | exact hr4 _) (fun c9 => by exfalso; omega) (fun c23 => ?_)
    refine wq_aload_n (pc := 885) dL_law_885 rfl rfl ?_
    refine wq_aload_n (pc := 886) dL_law_886 rfl rfl ?_
    refine wq_iload (pc := 887) dL_law_887 rfl ?_
    refine wq_iload (pc := 889) dL_law_889 rfl ?_
    refine wq_iload (pc := 891) dL_law_891 rfl ?_
    refine wq_iconst (pc := 893) dL_law_893 ?_
    refine lS_6 (pc := 894) dL_law_894 (cw_L_123 _ rfl) ⟨by decide, by decide⟩ (Nat.le_of_ble_eq_true rfl) (sW_adds W (by omega) (by omega) (fun X1 W1 ad im1 => ?_))
    show wpL 897 _ _ _ _ _
    obtain ⟨ad1, ad2, ad3, ad4⟩ := id ad
    have hE := ST_i W1 (hJA _ ad) ⟨LX_ad ad hX.1 (by omega) (by unfold inR; omega) (by unfold inR; omega) (by unfold inR; omega) (by unfold inR; omega), by omega, by omega⟩ hz.1 hz.2 (fun j => by rw [im1]; exact hi j)
    refine wq_goto (pc := 897) (tgt := 2040) dL_law_897 (by decide) ?_
    refine wq_sub1 (L' := [(0, _), (1, _), (2, _), (3, _), (4, _), (5, _), (6, _), (7, _), (8, _), (11, _), (22, _)]) ⟨rfl, rfl, rfl, rfl, rfl, rfl, rfl, rfl, rfl, rfl, rfl, trivial⟩ ?_
    exact H _ _ _ _ _ hE
theorem lw_ln {μ : nMem} {ε : nEnv} {Q : nOut → nMem → nEnv → Prop} {N : Int} {A : AS} {nb vb : Int} {t : Nat} {X : nMem} {turn kd y d d2 nm nm2 f s b a fr : Int} (hS : ST N A nb vb (t + 1) X μ ε 0) (hnb : nb + 1 ≤ 490) (hvb : vb + 2 ≤ 4000) (hvb0 : 0 ≤ vb) (hn2 : 2 ≤ nb) (ry : 0 ≤ y ∧ y ≤ 2147483647) (ht : 0 ≤ turn ∧ turn < 120) (hF : LF A X d d2 nm nm2 f s b a fr) (H : ∀ A1 X1 m e w, ST N A1 (nb + 1) (vb + 2) t X1 m e w → wpL 2040 [(0, vR (-1)), (1, vR 1), (2, vR 21), (3, vR 22), (4, vR 23), (5, vR 24), (6, vR 25), (7, vI 1), (8, vI turn), (11, vI y), (22, vI w)] [] m e Q) (hn13 : X 21 0 < 14) (hc : ¬ (b = 1 ∧ 0 ≤ s ∧ 0 < nm ∧ a < 0)) : wpL 764 [(0, vR (-1)), (1, vR 1), (2, vR 21), (3, vR 22), (4, vR 23), (5, vR 24), (6, vR 25), (7, vI 1), (8, vI turn), (10, vI kd), (11, vI y), (12, vI d), (13, vI d2), (14, vI nm), (15, vI nm2), (16, vI f), (17, vI s), (18, vI b), (19, vI a), (20, vI fr), (21, vI 0), (22, vI 0), (23, vI 0)] [] μ ε Q := by
  obtain ⟨⟨hW, hG, hX, hi⟩, ⟨hD, hJ, hV, hZ⟩, fl, SS, hP, hTS⟩ := ST_0 hS
  obtain ⟨f1, f2, f3, f4, f5, f6, f7, f8, f9⟩ := id hF
  obtain ⟨⟨⟨hn0, hn15⟩, ⟨hm0, hm8⟩, hr2, hr3, hr4⟩, hn14, hm7⟩ := id hX
  have hs9 := GA_slot hG f
  have ha9 := GA_find hG d nm
  rw [← f7] at hs9
  rw [← f8] at ha9
  have hfr9 := (frN_le A).2
  rw [← f9] at hfr9
  clear f7 f8 f9
  refine wq_aload_n (pc := 764) dL_law_764 rfl rfl ?_
  refine wq_iconst (pc := 765) dL_law_765 ?_
  refine wq_iload (pc := 766) dL_law_766 rfl ?_
  refine wq_iload (pc := 768) dL_law_768 rfl ?_
  refine wq_iload (pc := 770) dL_law_770 rfl ?_
  refine cW_5 (pc := 772) dL_law_772 (cw_L_85 _ rfl) ⟨by decide, by decide⟩ (Nat.le_of_ble_eq_true rfl) (qc_link hS hnb hvb hF (fun r mm ee hE hr => ?_) (fun mm ee hE hr => ?_) (fun A1 mm ee hE hr => ?_) (fun A1 r mm ee W hr hl hJA hz => ?_))
  · skip
    show wpL 775 _ _ _ _ _
    refine wq_istore (pc := 775) (L' := [(21, _), (0, _), (1, _), (2, _), (3, _), (4, _), (5, _), (6, _), (7, _), (8, _), (10, _), (11, _), (12, _), (13, _), (14, _), (15, _), (16, _), (17, _), (18, _), (19, _), (20, _), (22, _), (23, _)]) dL_law_775 rfl (by decide) ?_
    refine wq_iload (pc := 777) dL_law_777 rfl ?_
    refine wq_bipush (pc := 779) dL_law_779 (by decide) (by decide) ?_
    refine wq_icmp_ne (pc := 781) (tgt := 788) dL_law_781 (by decide) (by first | (unfold inR; omega) | assumption | exact hr2 _ | exact hr3 _ | exact hr4 _) (by first | (unfold inR; omega) | assumption | exact hr2 _ | exact hr3 _ | exact hr4 _) (fun c5 => ?_) (fun c9 => by exfalso; omega)
    refine wq_iconst (pc := 788) dL_law_788 ?_
    refine wq_istore (pc := 789) (L' := [(22, _), (21, _), (0, _), (1, _), (2, _), (3, _), (4, _), (5, _), (6, _), (7, _), (8, _), (10, _), (11, _), (12, _), (13, _), (14, _), (15, _), (16, _), (17, _), (18, _), (19, _), (20, _), (23, _)]) dL_law_789 rfl (by decide) ?_
    refine wq_iload (pc := 791) dL_law_791 rfl ?_
    refine wq_if_ne (pc := 793) (tgt := 836) dL_law_793 (by decide) (by first | (unfold inR; omega) | assumption | exact hr2 _ | exact hr3 _ | exact hr4 _) (fun c => absurd c (by decide)) (fun _ => ?_)
    refine wq_iload (pc := 796) dL_law_796 rfl ?_
    refine wq_iload (pc := 798) dL_law_798 rfl ?_
    refine wq_if_eq (pc := 800) (tgt := 808) dL_law_800 (by decide) (by first | (unfold inR; omega) | assumption | exact hr2 _ | exact hr3 _ | exact hr4 _) (fun c7 => ?_) (fun c7 => ?_)
    · skip
      refine wq_bipush (pc := 808) dL_law_808 (by decide) (by decide) ?_
      refine wq_goto (pc := 810) (tgt := 825) dL_law_810 (by decide) ?_
      refine wq_icmp_ne (pc := 825) (tgt := 832) dL_law_825 (by decide) (by first | (unfold inR; omega) | assumption | exact hr2 _ | exact hr3 _ | exact hr4 _) (by first | (unfold inR; omega) | assumption | exact hr2 _ | exact hr3 _ | exact hr4 _) (fun c9 => by exfalso; omega) (fun c8 => ?_)
      refine wq_iconst (pc := 828) dL_law_828 ?_
      refine wq_goto (pc := 829) (tgt := 873) dL_law_829 (by decide) ?_
      refine wq_istore (pc := 873) (L' := [(7, _), (22, _), (21, _), (0, _), (1, _), (2, _), (3, _), (4, _), (5, _), (6, _), (8, _), (10, _), (11, _), (12, _), (13, _), (14, _), (15, _), (16, _), (17, _), (18, _), (19, _), (20, _), (23, _)]) dL_law_873 rfl (by decide) ?_
      refine wq_iload (pc := 875) dL_law_875 rfl ?_
      refine wq_if_eq (pc := 877) (tgt := 897) dL_law_877 (by decide) (by first | (unfold inR; omega) | assumption | exact hr2 _ | exact hr3 _ | exact hr4 _) (fun _ => ?_) (fun c => absurd c (by decide))
      refine wq_goto (pc := 897) (tgt := 2040) dL_law_897 (by decide) ?_
      refine wq_sub1 (L' := [(0, _), (1, _), (2, _), (3, _), (4, _), (5, _), (6, _), (7, _), (8, _), (11, _), (22, _)]) ⟨rfl, rfl, rfl, rfl, rfl, rfl, rfl, rfl, rfl, rfl, rfl, trivial⟩ ?_
      exact H _ _ _ _ _ hE
    · skip
      refine wq_iload (pc := 803) dL_law_803 rfl ?_
      refine wq_if_ge (pc := 805) (tgt := 813) dL_law_805 (by decide) (by first | (unfold inR; omega) | assumption | exact hr2 _ | exact hr3 _ | exact hr4 _) (fun c10 => ?_) (fun c10 => ?_)
      · skip
        refine wq_iload (pc := 813) dL_law_813 rfl ?_
        refine wq_if_ne (pc := 815) (tgt := 823) dL_law_815 (by decide) (by first | (unfold inR; omega) | assumption | exact hr2 _ | exact hr3 _ | exact hr4 _) (fun c11 => ?_) (fun c11 => ?_)
        · skip
          refine wq_bipush (pc := 823) dL_law_823 (by decide) (by decide) ?_
          refine wq_icmp_ne (pc := 825) (tgt := 832) dL_law_825 (by decide) (by first | (unfold inR; omega) | assumption | exact hr2 _ | exact hr3 _ | exact hr4 _) (by first | (unfold inR; omega) | assumption | exact hr2 _ | exact hr3 _ | exact hr4 _) (fun c9 => by exfalso; omega) (fun c12 => ?_)
          refine wq_iconst (pc := 828) dL_law_828 ?_
          refine wq_goto (pc := 829) (tgt := 873) dL_law_829 (by decide) ?_
          refine wq_istore (pc := 873) (L' := [(7, _), (22, _), (21, _), (0, _), (1, _), (2, _), (3, _), (4, _), (5, _), (6, _), (8, _), (10, _), (11, _), (12, _), (13, _), (14, _), (15, _), (16, _), (17, _), (18, _), (19, _), (20, _), (23, _)]) dL_law_873 rfl (by decide) ?_
          refine wq_iload (pc := 875) dL_law_875 rfl ?_
          refine wq_if_eq (pc := 877) (tgt := 897) dL_law_877 (by decide) (by first | (unfold inR; omega) | assumption | exact hr2 _ | exact hr3 _ | exact hr4 _) (fun _ => ?_) (fun c => absurd c (by decide))
          refine wq_goto (pc := 897) (tgt := 2040) dL_law_897 (by decide) ?_
          refine wq_sub1 (L' := [(0, _), (1, _), (2, _), (3, _), (4, _), (5, _), (6, _), (7, _), (8, _), (11, _), (22, _)]) ⟨rfl, rfl, rfl, rfl, rfl, rfl, rfl, rfl, rfl, rfl, rfl, trivial⟩ ?_
          exact H _ _ _ _ _ hE
        · skip
          refine wq_bipush (pc := 818) dL_law_818 (by decide) (by decide) ?_
          refine wq_goto (pc := 820) (tgt := 825) dL_law_820 (by decide) ?_
          refine wq_icmp_ne (pc := 825) (tgt := 832) dL_law_825 (by decide) (by first | (unfold inR; omega) | assumption | exact hr2 _ | exact hr3 _ | exact hr4 _) (by first | (unfold inR; omega) | assumption | exact hr2 _ | exact hr3 _ | exact hr4 _) (fun c9 => by exfalso; omega) (fun c14 => ?_)
          refine wq_iconst (pc := 828) dL_law_828 ?_
          refine wq_goto (pc := 829) (tgt := 873) dL_law_829 (by decide) ?_
          refine wq_istore (pc := 873) (L' := [(7, _), (22, _), (21, _), (0, _), (1, _), (2, _), (3, _), (4, _), (5, _), (6, _), (8, _), (10, _), (11, _), (12, _), (13, _), (14, _), (15, _), (16, _), (17, _), (18, _), (19, _), (20, _), (23, _)]) dL_law_873 rfl (by decide) ?_
          refine wq_iload (pc := 875) dL_law_875 rfl ?_
          refine wq_if_eq (pc := 877) (tgt := 897) dL_law_877 (by decide) (by first | (unfold inR; omega) | assumption | exact hr2 _ | exact hr3 _ | exact hr4 _) (fun _ => ?_) (fun c => absurd c (by decide))
          refine wq_goto (pc := 897) (tgt := 2040) dL_law_897 (by decide) ?_
          refine wq_sub1 (L' := [(0, _), (1, _), (2, _), (3, _), (4, _), (5, _), (6, _), (7, _), (8, _), (11, _), (22, _)]) ⟨rfl, rfl, rfl, rfl, rfl, rfl, rfl, rfl, rfl, rfl, rfl, trivial⟩ ?_
          exact H _ _ _ _ _ hE
      · skip
        refine wq_bipush (pc := 808) dL_law_808 (by decide) (by decide) ?_
        refine wq_goto (pc := 810) (tgt := 825) dL_law_810 (by decide) ?_
        refine wq_icmp_ne (pc := 825) (tgt := 832) dL_law_825 (by decide) (by first | (unfold inR; omega) | assumption | exact hr2 _ | exact hr3 _ | exact hr4 _) (by first | (unfold inR; omega) | assumption | exact hr2 _ | exact hr3 _ | exact hr4 _) (fun c9 => by exfalso; omega) (fun c16 => ?_)
        refine wq_iconst (pc := 828) dL_law_828 ?_
        refine wq_goto (pc := 829) (tgt := 873) dL_law_829 (by decide) ?_
        refine wq_istore (pc := 873) (L' := [(7, _), (22, _), (21, _), (0, _), (1, _), (2, _), (3, _), (4, _), (5, _), (6, _), (8, _), (10, _), (11, _), (12, _), (13, _), (14, _), (15, _), (16, _), (17, _), (18, _), (19, _), (20, _), (23, _)]) dL_law_873 rfl (by decide) ?_
        refine wq_iload (pc := 875) dL_law_875 rfl ?_
        refine wq_if_eq (pc := 877) (tgt := 897) dL_law_877 (by decide) (by first | (unfold inR; omega) | assumption | exact hr2 _ | exact hr3 _ | exact hr4 _) (fun _ => ?_) (fun c => absurd c (by decide))
        refine wq_goto (pc := 897) (tgt := 2040) dL_law_897 (by decide) ?_
        refine wq_sub1 (L' := [(0, _), (1, _), (2, _), (3, _), (4, _), (5, _), (6, _), (7, _), (8, _), (11, _), (22, _)]) ⟨rfl, rfl, rfl, rfl, rfl, rfl, rfl, rfl, rfl, rfl, rfl, trivial⟩ ?_
        exact H _ _ _ _ _ hE
  · skip
    exfalso; omega
  · skip
    exfalso; omega
  · skip
    exfalso; omega
theorem lw_link {μ : nMem} {ε : nEnv} {Q : nOut → nMem → nEnv → Prop} {N : Int} {A : AS} {nb vb : Int} {t : Nat} {X : nMem} {turn kd y d d2 nm nm2 f s b a fr : Int} (hS : ST N A nb vb (t + 1) X μ ε 0) (hnb : nb + 1 ≤ 490) (hvb : vb + 2 ≤ 4000) (hvb0 : 0 ≤ vb) (hn2 : 2 ≤ nb) (ry : 0 ≤ y ∧ y ≤ 2147483647) (ht : 0 ≤ turn ∧ turn < 120) (hF : LF A X d d2 nm nm2 f s b a fr) (H : ∀ A1 X1 m e w, ST N A1 (nb + 1) (vb + 2) t X1 m e w → wpL 2040 [(0, vR (-1)), (1, vR 1), (2, vR 21), (3, vR 22), (4, vR 23), (5, vR 24), (6, vR 25), (7, vI 1), (8, vI turn), (11, vI y), (22, vI w)] [] m e Q) (hn13 : X 21 0 < 14) : wpL 737 [(0, vR (-1)), (1, vR 1), (2, vR 21), (3, vR 22), (4, vR 23), (5, vR 24), (6, vR 25), (7, vI 1), (8, vI turn), (10, vI kd), (11, vI y), (12, vI d), (13, vI d2), (14, vI nm), (15, vI nm2), (16, vI f), (17, vI s), (18, vI b), (19, vI a), (20, vI fr), (21, vI 0), (22, vI 0)] [] μ ε Q := by
  obtain ⟨⟨hW, hG, hX, hi⟩, ⟨hD, hJ, hV, hZ⟩, fl, SS, hP, hTS⟩ := ST_0 hS
  obtain ⟨f1, f2, f3, f4, f5, f6, f7, f8, f9⟩ := id hF
  obtain ⟨⟨⟨hn0, hn15⟩, ⟨hm0, hm8⟩, hr2, hr3, hr4⟩, hn14, hm7⟩ := id hX
  have hs9 := GA_slot hG f
  have ha9 := GA_find hG d nm
  rw [← f7] at hs9
  rw [← f8] at ha9
  have hfr9 := (frN_le A).2
  rw [← f9] at hfr9
  clear f7 f8 f9
  refine wq_iload (pc := 737) dL_law_737 rfl ?_
  refine wq_if_eq (pc := 739) (tgt := 761) dL_law_739 (by decide) (by first | (unfold inR; omega) | assumption | exact hr2 _ | exact hr3 _ | exact hr4 _) (fun c1 => ?_) (fun c1 => ?_)
  · skip
    refine wq_iconst (pc := 761) dL_law_761 ?_
    refine wq_istore (pc := 762) (L' := [(23, _), (0, _), (1, _), (2, _), (3, _), (4, _), (5, _), (6, _), (7, _), (8, _), (10, _), (11, _), (12, _), (13, _), (14, _), (15, _), (16, _), (17, _), (18, _), (19, _), (20, _), (21, _), (22, _)]) dL_law_762 rfl (by decide) ?_
    refine wq_sub1 (L' := [(0, _), (1, _), (2, _), (3, _), (4, _), (5, _), (6, _), (7, _), (8, _), (10, _), (11, _), (12, _), (13, _), (14, _), (15, _), (16, _), (17, _), (18, _), (19, _), (20, _), (21, _), (22, _), (23, _)]) ⟨rfl, rfl, rfl, rfl, rfl, rfl, rfl, rfl, rfl, rfl, rfl, rfl, rfl, rfl, rfl, rfl, rfl, rfl, rfl, rfl, rfl, rfl, rfl, trivial⟩ ?_
    exact lw_ln hS hnb hvb hvb0 hn2 ry ht hF H hn13 (by omega)
  · skip
    refine wq_iload (pc := 742) dL_law_742 rfl ?_
    refine wq_if_lt (pc := 744) (tgt := 761) dL_law_744 (by decide) (by first | (unfold inR; omega) | assumption | exact hr2 _ | exact hr3 _ | exact hr4 _) (fun c2 => ?_) (fun c2 => ?_)
    · skip
      refine wq_iconst (pc := 761) dL_law_761 ?_
      refine wq_istore (pc := 762) (L' := [(23, _), (0, _), (1, _), (2, _), (3, _), (4, _), (5, _), (6, _), (7, _), (8, _), (10, _), (11, _), (12, _), (13, _), (14, _), (15, _), (16, _), (17, _), (18, _), (19, _), (20, _), (21, _), (22, _)]) dL_law_762 rfl (by decide) ?_
      refine wq_sub1 (L' := [(0, _), (1, _), (2, _), (3, _), (4, _), (5, _), (6, _), (7, _), (8, _), (10, _), (11, _), (12, _), (13, _), (14, _), (15, _), (16, _), (17, _), (18, _), (19, _), (20, _), (21, _), (22, _), (23, _)]) ⟨rfl, rfl, rfl, rfl, rfl, rfl, rfl, rfl, rfl, rfl, rfl, rfl, rfl, rfl, rfl, rfl, rfl, rfl, rfl, rfl, rfl, rfl, rfl, trivial⟩ ?_
      exact lw_ln hS hnb hvb hvb0 hn2 ry ht hF H hn13 (by omega)
    · skip
      refine wq_iload (pc := 747) dL_law_747 rfl ?_
      refine wq_if_le (pc := 749) (tgt := 761) dL_law_749 (by decide) (by first | (unfold inR; omega) | assumption | exact hr2 _ | exact hr3 _ | exact hr4 _) (fun c3 => ?_) (fun c3 => ?_)
      · skip
        refine wq_iconst (pc := 761) dL_law_761 ?_
        refine wq_istore (pc := 762) (L' := [(23, _), (0, _), (1, _), (2, _), (3, _), (4, _), (5, _), (6, _), (7, _), (8, _), (10, _), (11, _), (12, _), (13, _), (14, _), (15, _), (16, _), (17, _), (18, _), (19, _), (20, _), (21, _), (22, _)]) dL_law_762 rfl (by decide) ?_
        refine wq_sub1 (L' := [(0, _), (1, _), (2, _), (3, _), (4, _), (5, _), (6, _), (7, _), (8, _), (10, _), (11, _), (12, _), (13, _), (14, _), (15, _), (16, _), (17, _), (18, _), (19, _), (20, _), (21, _), (22, _), (23, _)]) ⟨rfl, rfl, rfl, rfl, rfl, rfl, rfl, rfl, rfl, rfl, rfl, rfl, rfl, rfl, rfl, rfl, rfl, rfl, rfl, rfl, rfl, rfl, rfl, trivial⟩ ?_
        exact lw_ln hS hnb hvb hvb0 hn2 ry ht hF H hn13 (by omega)
      · skip
        refine wq_iload (pc := 752) dL_law_752 rfl ?_
        refine wq_if_ge (pc := 754) (tgt := 761) dL_law_754 (by decide) (by first | (unfold inR; omega) | assumption | exact hr2 _ | exact hr3 _ | exact hr4 _) (fun c4 => ?_) (fun c4 => ?_)
        · skip
          refine wq_iconst (pc := 761) dL_law_761 ?_
          refine wq_istore (pc := 762) (L' := [(23, _), (0, _), (1, _), (2, _), (3, _), (4, _), (5, _), (6, _), (7, _), (8, _), (10, _), (11, _), (12, _), (13, _), (14, _), (15, _), (16, _), (17, _), (18, _), (19, _), (20, _), (21, _), (22, _)]) dL_law_762 rfl (by decide) ?_
          refine wq_sub1 (L' := [(0, _), (1, _), (2, _), (3, _), (4, _), (5, _), (6, _), (7, _), (8, _), (10, _), (11, _), (12, _), (13, _), (14, _), (15, _), (16, _), (17, _), (18, _), (19, _), (20, _), (21, _), (22, _), (23, _)]) ⟨rfl, rfl, rfl, rfl, rfl, rfl, rfl, rfl, rfl, rfl, rfl, rfl, rfl, rfl, rfl, rfl, rfl, rfl, rfl, rfl, rfl, rfl, rfl, trivial⟩ ?_
          exact lw_ln hS hnb hvb hvb0 hn2 ry ht hF H hn13 (by omega)
        · skip
          refine wq_iconst (pc := 757) dL_law_757 ?_
          refine wq_goto (pc := 758) (tgt := 762) dL_law_758 (by decide) ?_
          refine wq_istore (pc := 762) (L' := [(23, _), (0, _), (1, _), (2, _), (3, _), (4, _), (5, _), (6, _), (7, _), (8, _), (10, _), (11, _), (12, _), (13, _), (14, _), (15, _), (16, _), (17, _), (18, _), (19, _), (20, _), (21, _), (22, _)]) dL_law_762 rfl (by decide) ?_
          refine wq_sub1 (L' := [(0, _), (1, _), (2, _), (3, _), (4, _), (5, _), (6, _), (7, _), (8, _), (10, _), (11, _), (12, _), (13, _), (14, _), (15, _), (16, _), (17, _), (18, _), (19, _), (20, _), (21, _), (22, _), (23, _)]) ⟨rfl, rfl, rfl, rfl, rfl, rfl, rfl, rfl, rfl, rfl, rfl, rfl, rfl, rfl, rfl, rfl, rfl, rfl, rfl, rfl, rfl, rfl, rfl, trivial⟩ ?_
          exact lw_ly hS hnb hvb hvb0 hn2 ry ht hF H hn13 (by omega)
theorem lw_uy {μ : nMem} {ε : nEnv} {Q : nOut → nMem → nEnv → Prop} {N : Int} {A : AS} {nb vb : Int} {t : Nat} {X : nMem} {turn kd y d d2 nm nm2 f s b a fr : Int} (hS : ST N A nb vb (t + 1) X μ ε 0) (hnb : nb + 1 ≤ 490) (hvb : vb + 2 ≤ 4000) (hvb0 : 0 ≤ vb) (hn2 : 2 ≤ nb) (ry : 0 ≤ y ∧ y ≤ 2147483647) (ht : 0 ≤ turn ∧ turn < 120) (hF : LF A X d d2 nm nm2 f s b a fr) (H : ∀ A1 X1 m e w, ST N A1 (nb + 1) (vb + 2) t X1 m e w → wpL 2040 [(0, vR (-1)), (1, vR 1), (2, vR 21), (3, vR 22), (4, vR 23), (5, vR 24), (6, vR 25), (7, vI 1), (8, vI turn), (11, vI y), (22, vI w)] [] m e Q) (hc : (b = 1 ∧ 0 ≤ a ∧ (X 22 (4 * a + 3) = 0 ∨ cR (pD (X 22) (X 22 (4 * a + 2))) (X 21 0).toNat = 0))) : wpL 951 [(0, vR (-1)), (1, vR 1), (2, vR 21), (3, vR 22), (4, vR 23), (5, vR 24), (6, vR 25), (7, vI 1), (8, vI turn), (10, vI kd), (11, vI y), (12, vI d), (13, vI d2), (14, vI nm), (15, vI nm2), (16, vI f), (17, vI s), (18, vI b), (19, vI a), (20, vI fr), (21, vI 0), (22, vI 0), (23, vI 1)] [] μ ε Q := by
  obtain ⟨⟨hW, hG, hX, hi⟩, ⟨hD, hJ, hV, hZ⟩, fl, SS, hP, hTS⟩ := ST_0 hS
  obtain ⟨f1, f2, f3, f4, f5, f6, f7, f8, f9⟩ := id hF
  obtain ⟨⟨⟨hn0, hn15⟩, ⟨hm0, hm8⟩, hr2, hr3, hr4⟩, hn14, hm7⟩ := id hX
  have hs9 := GA_slot hG f
  have ha9 := GA_find hG d nm
  rw [← f7] at hs9
  rw [← f8] at ha9
  have hfr9 := (frN_le A).2
  rw [← f9] at hfr9
  clear f7 f8 f9
  have hr2a := hr2 (4 * a + 2)
  refine wq_aload_n (pc := 951) dL_law_951 rfl rfl ?_
  refine wq_iconst (pc := 952) dL_law_952 ?_
  refine wq_iload (pc := 953) dL_law_953 rfl ?_
  refine wq_iload (pc := 955) dL_law_955 rfl ?_
  refine wq_iconst (pc := 957) dL_law_957 ?_
  refine cW_5 (pc := 958) dL_law_958 (cw_L_85 _ rfl) ⟨by decide, by decide⟩ (Nat.le_of_ble_eq_true rfl) (qc_unlink hS hnb hvb hF (fun r mm ee hE hq hr => ?_) (fun mm ee hE hq hr => ?_) (fun A1 mm ee hE hq => ?_) (fun A1 r mm ee W hq hr hl hJA hz => ?_))
  · skip
    exact absurd hc hq
  · skip
    show wpL 961 _ _ _ _ _
    have WE := hE.1
    refine wq_istore (pc := 961) (L' := [(21, _), (0, _), (1, _), (2, _), (3, _), (4, _), (5, _), (6, _), (7, _), (8, _), (10, _), (11, _), (12, _), (13, _), (14, _), (15, _), (16, _), (17, _), (18, _), (19, _), (20, _), (22, _), (23, _)]) dL_law_961 rfl (by decide) ?_
    refine wq_iload (pc := 963) dL_law_963 rfl ?_
    refine wq_bipush (pc := 965) dL_law_965 (by decide) (by decide) ?_
    refine wq_icmp_ne (pc := 967) (tgt := 974) dL_law_967 (by decide) (by first | (unfold inR; omega) | assumption | exact hr2 _ | exact hr3 _ | exact hr4 _) (by first | (unfold inR; omega) | assumption | exact hr2 _ | exact hr3 _ | exact hr4 _) (fun _ => ?_) (fun c9 => by exfalso; omega)
    refine wq_iconst (pc := 974) dL_law_974 ?_
    refine wq_istore (pc := 975) (L' := [(22, _), (21, _), (0, _), (1, _), (2, _), (3, _), (4, _), (5, _), (6, _), (7, _), (8, _), (10, _), (11, _), (12, _), (13, _), (14, _), (15, _), (16, _), (17, _), (18, _), (19, _), (20, _), (23, _)]) dL_law_975 rfl (by decide) ?_
    refine wq_iload (pc := 977) dL_law_977 rfl ?_
    refine wq_if_ne (pc := 979) (tgt := 1017) dL_law_979 (by decide) (by first | (unfold inR; omega) | assumption | exact hr2 _ | exact hr3 _ | exact hr4 _) (fun _ => ?_) (fun c => absurd c (by decide))
    refine wq_iload (pc := 1017) dL_law_1017 rfl ?_
    refine wq_aload_n (pc := 1019) dL_law_1019 rfl rfl ?_
    refine wq_iconst (pc := 1020) dL_law_1020 ?_
    refine wq_iload (pc := 1021) dL_law_1021 rfl ?_
    refine wq_imul (pc := 1023) dL_law_1023 ?_
    refine wq_iconst (pc := 1024) dL_law_1024 ?_
    refine wq_iadd (pc := 1025) dL_law_1025 ?_
    refine wq_ialdX (pc := 1026) dL_law_1026 (by with_reducible assumption) rfl (by omega) (by omega) ?_
    have hge := GA_e hG (i := a) (by omega) (by omega)
    refine wq_icmp_eq (pc := 1027) (tgt := 1048) dL_law_1027 (by decide) (by first | (unfold inR; omega) | exact hr2 _) (hr2 _) (fun c9 => by exfalso; omega) (fun c7 => ?_)
    refine wq_iload (pc := 1030) dL_law_1030 rfl ?_
    refine wq_if_ne (pc := 1032) (tgt := 1048) dL_law_1032 (by decide) (by first | (unfold inR; omega) | assumption | exact hr2 _ | exact hr3 _ | exact hr4 _) (fun c => absurd c (by decide)) (fun _ => ?_)
    refine wq_iload (pc := 1035) dL_law_1035 rfl ?_
    refine wq_bipush (pc := 1037) dL_law_1037 (by decide) (by decide) ?_
    refine wq_icmp_ne (pc := 1039) (tgt := 1052) dL_law_1039 (by decide) (by first | (unfold inR; omega) | assumption | exact hr2 _ | exact hr3 _ | exact hr4 _) (by first | (unfold inR; omega) | assumption | exact hr2 _ | exact hr3 _ | exact hr4 _) (fun c9 => by exfalso; omega) (fun _ => ?_)
    refine wq_iload (pc := 1042) dL_law_1042 rfl ?_
    refine wq_iconst (pc := 1044) dL_law_1044 ?_
    refine wq_icmp_ge (pc := 1045) (tgt := 1052) dL_law_1045 (by decide) (by first | (unfold inR; omega) | assumption | exact hr2 _ | exact hr3 _ | exact hr4 _) (by first | (unfold inR; omega) | assumption | exact hr2 _ | exact hr3 _ | exact hr4 _) (fun c9 => by exfalso; omega) (fun c10 => ?_)
    refine wq_iconst (pc := 1048) dL_law_1048 ?_
    refine wq_goto (pc := 1049) (tgt := 1053) dL_law_1049 (by decide) ?_
    refine wq_istore (pc := 1053) (L' := [(7, _), (22, _), (21, _), (0, _), (1, _), (2, _), (3, _), (4, _), (5, _), (6, _), (8, _), (10, _), (11, _), (12, _), (13, _), (14, _), (15, _), (16, _), (17, _), (18, _), (19, _), (20, _), (23, _)]) dL_law_1053 rfl (by decide) ?_
    refine wq_iload (pc := 1055) dL_law_1055 rfl ?_
    refine wq_if_eq (pc := 1057) (tgt := 1078) dL_law_1057 (by decide) (by first | (unfold inR; omega) | assumption | exact hr2 _ | exact hr3 _ | exact hr4 _) (fun c => absurd c (by decide)) (fun _ => ?_)
    refine wq_iload (pc := 1060) dL_law_1060 rfl ?_
    refine wq_if_le (pc := 1062) (tgt := 1078) dL_law_1062 (by decide) (by first | (unfold inR; omega) | assumption | exact hr2 _ | exact hr3 _ | exact hr4 _) (fun _ => ?_) (fun c => absurd c (by decide))
    refine wq_goto (pc := 1078) (tgt := 2040) dL_law_1078 (by decide) ?_
    refine wq_sub1 (L' := [(0, _), (1, _), (2, _), (3, _), (4, _), (5, _), (6, _), (7, _), (8, _), (11, _), (22, _)]) ⟨rfl, rfl, rfl, rfl, rfl, rfl, rfl, rfl, rfl, rfl, rfl, trivial⟩ ?_
    exact H _ _ _ _ _ hE
  · skip
    show wpL 961 _ _ _ _ _
    have WE := hE.1
    refine wq_istore (pc := 961) (L' := [(21, _), (0, _), (1, _), (2, _), (3, _), (4, _), (5, _), (6, _), (7, _), (8, _), (10, _), (11, _), (12, _), (13, _), (14, _), (15, _), (16, _), (17, _), (18, _), (19, _), (20, _), (22, _), (23, _)]) dL_law_961 rfl (by decide) ?_
    refine wq_iload (pc := 963) dL_law_963 rfl ?_
    refine wq_bipush (pc := 965) dL_law_965 (by decide) (by decide) ?_
    refine wq_icmp_ne (pc := 967) (tgt := 974) dL_law_967 (by decide) (by first | (unfold inR; omega) | assumption | exact hr2 _ | exact hr3 _ | exact hr4 _) (by first | (unfold inR; omega) | assumption | exact hr2 _ | exact hr3 _ | exact hr4 _) (fun c9 => by exfalso; omega) (fun _ => ?_)
    refine wq_iconst (pc := 970) dL_law_970 ?_
    refine wq_goto (pc := 971) (tgt := 975) dL_law_971 (by decide) ?_
    refine wq_istore (pc := 975) (L' := [(22, _), (21, _), (0, _), (1, _), (2, _), (3, _), (4, _), (5, _), (6, _), (7, _), (8, _), (10, _), (11, _), (12, _), (13, _), (14, _), (15, _), (16, _), (17, _), (18, _), (19, _), (20, _), (23, _)]) dL_law_975 rfl (by decide) ?_
    refine wq_iload (pc := 977) dL_law_977 rfl ?_
    refine wq_if_ne (pc := 979) (tgt := 1017) dL_law_979 (by decide) (by first | (unfold inR; omega) | assumption | exact hr2 _ | exact hr3 _ | exact hr4 _) (fun _ => ?_) (fun c => absurd c (by decide))
    refine wq_iload (pc := 1017) dL_law_1017 rfl ?_
    refine wq_aload_n (pc := 1019) dL_law_1019 rfl rfl ?_
    refine wq_iconst (pc := 1020) dL_law_1020 ?_
    refine wq_iload (pc := 1021) dL_law_1021 rfl ?_
    refine wq_imul (pc := 1023) dL_law_1023 ?_
    refine wq_iconst (pc := 1024) dL_law_1024 ?_
    refine wq_iadd (pc := 1025) dL_law_1025 ?_
    refine wq_ialdX (pc := 1026) dL_law_1026 (by with_reducible assumption) rfl (by omega) (by omega) ?_
    have hge := GA_e hG (i := a) (by omega) (by omega)
    refine wq_icmp_eq (pc := 1027) (tgt := 1048) dL_law_1027 (by decide) (by first | (unfold inR; omega) | exact hr2 _) (hr2 _) (fun c9 => by exfalso; omega) (fun c15 => ?_)
    refine wq_iload (pc := 1030) dL_law_1030 rfl ?_
    refine wq_if_ne (pc := 1032) (tgt := 1048) dL_law_1032 (by decide) (by first | (unfold inR; omega) | assumption | exact hr2 _ | exact hr3 _ | exact hr4 _) (fun _ => ?_) (fun c => absurd c (by decide))
    refine wq_iconst (pc := 1048) dL_law_1048 ?_
    refine wq_goto (pc := 1049) (tgt := 1053) dL_law_1049 (by decide) ?_
    refine wq_istore (pc := 1053) (L' := [(7, _), (22, _), (21, _), (0, _), (1, _), (2, _), (3, _), (4, _), (5, _), (6, _), (8, _), (10, _), (11, _), (12, _), (13, _), (14, _), (15, _), (16, _), (17, _), (18, _), (19, _), (20, _), (23, _)]) dL_law_1053 rfl (by decide) ?_
    refine wq_iload (pc := 1055) dL_law_1055 rfl ?_
    refine wq_if_eq (pc := 1057) (tgt := 1078) dL_law_1057 (by decide) (by first | (unfold inR; omega) | assumption | exact hr2 _ | exact hr3 _ | exact hr4 _) (fun c => absurd c (by decide)) (fun _ => ?_)
    refine wq_iload (pc := 1060) dL_law_1060 rfl ?_
    refine wq_if_le (pc := 1062) (tgt := 1078) dL_law_1062 (by decide) (by first | (unfold inR; omega) | assumption | exact hr2 _ | exact hr3 _ | exact hr4 _) (fun _ => ?_) (fun c => absurd c (by decide))
    refine wq_goto (pc := 1078) (tgt := 2040) dL_law_1078 (by decide) ?_
    refine wq_sub1 (L' := [(0, _), (1, _), (2, _), (3, _), (4, _), (5, _), (6, _), (7, _), (8, _), (11, _), (22, _)]) ⟨rfl, rfl, rfl, rfl, rfl, rfl, rfl, rfl, rfl, rfl, rfl, trivial⟩ ?_
    exact H _ _ _ _ _ hE
  · skip
    show wpL 961 _ _ _ _ _
    have hrr : inR r := by rw [hr.1]; exact hr2 _
    refine wq_istore (pc := 961) (L' := [(21, _), (0, _), (1, _), (2, _), (3, _), (4, _), (5, _), (6, _), (7, _), (8, _), (10, _), (11, _), (12, _), (13, _), (14, _), (15, _), (16, _), (17, _), (18, _), (19, _), (20, _), (22, _), (23, _)]) dL_law_961 rfl (by decide) ?_
    refine wq_iload (pc := 963) dL_law_963 rfl ?_
    refine wq_bipush (pc := 965) dL_law_965 (by decide) (by decide) ?_
    refine wq_icmp_ne (pc := 967) (tgt := 974) dL_law_967 (by decide) (by first | (unfold inR; omega) | assumption | exact hr2 _ | exact hr3 _ | exact hr4 _) (by first | (unfold inR; omega) | assumption | exact hr2 _ | exact hr3 _ | exact hr4 _) (fun c19 => ?_) (fun c9 => by exfalso; omega)
    refine wq_iconst (pc := 974) dL_law_974 ?_
    refine wq_istore (pc := 975) (L' := [(22, _), (21, _), (0, _), (1, _), (2, _), (3, _), (4, _), (5, _), (6, _), (7, _), (8, _), (10, _), (11, _), (12, _), (13, _), (14, _), (15, _), (16, _), (17, _), (18, _), (19, _), (20, _), (23, _)]) dL_law_975 rfl (by decide) ?_
    refine wq_iload (pc := 977) dL_law_977 rfl ?_
    refine wq_if_ne (pc := 979) (tgt := 1017) dL_law_979 (by decide) (by first | (unfold inR; omega) | assumption | exact hr2 _ | exact hr3 _ | exact hr4 _) (fun _ => ?_) (fun c => absurd c (by decide))
    refine wq_iload (pc := 1017) dL_law_1017 rfl ?_
    refine wq_aload_n (pc := 1019) dL_law_1019 rfl rfl ?_
    refine wq_iconst (pc := 1020) dL_law_1020 ?_
    refine wq_iload (pc := 1021) dL_law_1021 rfl ?_
    refine wq_imul (pc := 1023) dL_law_1023 ?_
    refine wq_iconst (pc := 1024) dL_law_1024 ?_
    refine wq_iadd (pc := 1025) dL_law_1025 ?_
    refine wq_ialdX (pc := 1026) dL_law_1026 (by with_reducible assumption) rfl (by omega) (by omega) ?_
    have hge := GA_e hG (i := a) (by omega) (by omega)
    refine wq_icmp_eq (pc := 1027) (tgt := 1048) dL_law_1027 (by decide) (by first | (unfold inR; omega) | exact hr2 _) (hr2 _) (fun c21 => ?_) (fun c9 => by exfalso; omega)
    refine wq_iconst (pc := 1048) dL_law_1048 ?_
    refine wq_goto (pc := 1049) (tgt := 1053) dL_law_1049 (by decide) ?_
    refine wq_istore (pc := 1053) (L' := [(7, _), (22, _), (21, _), (0, _), (1, _), (2, _), (3, _), (4, _), (5, _), (6, _), (8, _), (10, _), (11, _), (12, _), (13, _), (14, _), (15, _), (16, _), (17, _), (18, _), (19, _), (20, _), (23, _)]) dL_law_1053 rfl (by decide) ?_
    refine wq_iload (pc := 1055) dL_law_1055 rfl ?_
    refine wq_if_eq (pc := 1057) (tgt := 1078) dL_law_1057 (by decide) (by first | (unfold inR; omega) | assumption | exact hr2 _ | exact hr3 _ | exact hr4 _) (fun c => absurd c (by decide)) (fun _ => ?_)
    refine wq_iload (pc := 1060) dL_law_1060 rfl ?_
    refine wq_if_le (pc := 1062) (tgt := 1078) dL_law_1062 (by decide) (by first | (unfold inR; omega) | assumption | exact hr2 _ | exact hr3 _ | exact hr4 _) (fun c9 => by exfalso; omega) (fun c23 => ?_)
    refine wq_aload_n (pc := 1065) dL_law_1065 rfl rfl ?_
    refine wq_aload_n (pc := 1066) dL_law_1066 rfl rfl ?_
    refine wq_aload (pc := 1067) dL_law_1067 rfl ?_
    refine wq_aload (pc := 1069) dL_law_1069 rfl ?_
    refine wq_aload (pc := 1071) dL_law_1071 rfl ?_
    refine wq_iload (pc := 1073) dL_law_1073 rfl ?_
    refine lS_6 (pc := 1075) dL_law_1075 (cw_L_131 _ rfl) ⟨by decide, by decide⟩ (Nat.le_of_ble_eq_true rfl) (sW_takes W hX.1 hl (fun X1 W1 tk im1 => ?_))
    show wpL 1078 _ _ _ _ _
    have hX1 := LX_tk tk hX.1 hl
    have tk1 := tk.1
    have hm71 : X1 21 1 ≤ 7 := by
      by_cases c9 : txD X X1 a
      · have := (tk.2.2.1 c9).1; omega
      · have := (tk.2.2.2 c9).1; omega
    have hE := ST_i W1 (hJA _ tk) ⟨hX1, by omega, hm71⟩ hz.1 hz.2 (fun j => by rw [im1]; exact hi j)
    refine wq_goto (pc := 1078) (tgt := 2040) dL_law_1078 (by decide) ?_
    refine wq_sub1 (L' := [(0, _), (1, _), (2, _), (3, _), (4, _), (5, _), (6, _), (7, _), (8, _), (11, _), (22, _)]) ⟨rfl, rfl, rfl, rfl, rfl, rfl, rfl, rfl, rfl, rfl, rfl, trivial⟩ ?_
    exact H _ _ _ _ _ hE
theorem lw_un {μ : nMem} {ε : nEnv} {Q : nOut → nMem → nEnv → Prop} {N : Int} {A : AS} {nb vb : Int} {t : Nat} {X : nMem} {turn kd y d d2 nm nm2 f s b a fr : Int} (hS : ST N A nb vb (t + 1) X μ ε 0) (hnb : nb + 1 ≤ 490) (hvb : vb + 2 ≤ 4000) (hvb0 : 0 ≤ vb) (hn2 : 2 ≤ nb) (ry : 0 ≤ y ∧ y ≤ 2147483647) (ht : 0 ≤ turn ∧ turn < 120) (hF : LF A X d d2 nm nm2 f s b a fr) (H : ∀ A1 X1 m e w, ST N A1 (nb + 1) (vb + 2) t X1 m e w → wpL 2040 [(0, vR (-1)), (1, vR 1), (2, vR 21), (3, vR 22), (4, vR 23), (5, vR 24), (6, vR 25), (7, vI 1), (8, vI turn), (11, vI y), (22, vI w)] [] m e Q) (hc : ¬ (b = 1 ∧ 0 ≤ a ∧ (X 22 (4 * a + 3) = 0 ∨ cR (pD (X 22) (X 22 (4 * a + 2))) (X 21 0).toNat = 0))) : wpL 951 [(0, vR (-1)), (1, vR 1), (2, vR 21), (3, vR 22), (4, vR 23), (5, vR 24), (6, vR 25), (7, vI 1), (8, vI turn), (10, vI kd), (11, vI y), (12, vI d), (13, vI d2), (14, vI nm), (15, vI nm2), (16, vI f), (17, vI s), (18, vI b), (19, vI a), (20, vI fr), (21, vI 0), (22, vI 0), (23, vI 0)] [] μ ε Q := by
  obtain ⟨⟨hW, hG, hX, hi⟩, ⟨hD, hJ, hV, hZ⟩, fl, SS, hP, hTS⟩ := ST_0 hS
  obtain ⟨f1, f2, f3, f4, f5, f6, f7, f8, f9⟩ := id hF
  obtain ⟨⟨⟨hn0, hn15⟩, ⟨hm0, hm8⟩, hr2, hr3, hr4⟩, hn14, hm7⟩ := id hX
  have hs9 := GA_slot hG f
  have ha9 := GA_find hG d nm
  rw [← f7] at hs9
  rw [← f8] at ha9
  have hfr9 := (frN_le A).2
  rw [← f9] at hfr9
  clear f7 f8 f9
  refine wq_aload_n (pc := 951) dL_law_951 rfl rfl ?_
  refine wq_iconst (pc := 952) dL_law_952 ?_
  refine wq_iload (pc := 953) dL_law_953 rfl ?_
  refine wq_iload (pc := 955) dL_law_955 rfl ?_
  refine wq_iconst (pc := 957) dL_law_957 ?_
  refine cW_5 (pc := 958) dL_law_958 (cw_L_85 _ rfl) ⟨by decide, by decide⟩ (Nat.le_of_ble_eq_true rfl) (qc_unlink hS hnb hvb hF (fun r mm ee hE hq hr => ?_) (fun mm ee hE hq hr => ?_) (fun A1 mm ee hE hq => ?_) (fun A1 r mm ee W hq hr hl hJA hz => ?_))
  · skip
    show wpL 961 _ _ _ _ _
    clear hq
    have hrr : inR r := by clear hc hs9 ha9 f2; unfold inR; omega
    have hr5 : r ≠ -9 := by clear hc hs9 ha9 f2; omega
    refine wq_istore (pc := 961) (L' := [(21, _), (0, _), (1, _), (2, _), (3, _), (4, _), (5, _), (6, _), (7, _), (8, _), (10, _), (11, _), (12, _), (13, _), (14, _), (15, _), (16, _), (17, _), (18, _), (19, _), (20, _), (22, _), (23, _)]) dL_law_961 rfl (by decide) ?_
    refine wq_iload (pc := 963) dL_law_963 rfl ?_
    refine wq_bipush (pc := 965) dL_law_965 (by decide) (by decide) ?_
    refine wq_icmp_ne (pc := 967) (tgt := 974) dL_law_967 (by decide) (by first | (unfold inR; omega) | assumption | exact hr2 _ | exact hr3 _ | exact hr4 _) (by first | (unfold inR; omega) | assumption | exact hr2 _ | exact hr3 _ | exact hr4 _) (fun c5 => ?_) (fun c9 => by exfalso; omega)
    refine wq_iconst (pc := 974) dL_law_974 ?_
    refine wq_istore (pc := 975) (L' := [(22, _), (21, _), (0, _), (1, _), (2, _), (3, _), (4, _), (5, _), (6, _), (7, _), (8, _), (10, _), (11, _), (12, _), (13, _), (14, _), (15, _), (16, _), (17, _), (18, _), (19, _), (20, _), (23, _)]) dL_law_975 rfl (by decide) ?_
    refine wq_iload (pc := 977) dL_law_977 rfl ?_
    refine wq_if_ne (pc := 979) (tgt := 1017) dL_law_979 (by decide) (by first | (unfold inR; omega) | assumption | exact hr2 _ | exact hr3 _ | exact hr4 _) (fun c => absurd c (by decide)) (fun _ => ?_)
    refine wq_iload (pc := 982) dL_law_982 rfl ?_
    refine wq_iload (pc := 984) dL_law_984 rfl ?_
    refine wq_if_ne (pc := 986) (tgt := 994) dL_law_986 (by decide) (by first | (unfold inR; omega) | assumption | exact hr2 _ | exact hr3 _ | exact hr4 _) (fun c7 => ?_) (fun c7 => ?_)
    · skip
      refine wq_iload (pc := 994) dL_law_994 rfl ?_
      refine wq_if_ne (pc := 996) (tgt := 1004) dL_law_996 (by decide) (by first | (unfold inR; omega) | assumption | exact hr2 _ | exact hr3 _ | exact hr4 _) (fun c8 => ?_) (fun c8 => ?_)
      · skip
        refine wq_bipush (pc := 1004) dL_law_1004 (by decide) (by decide) ?_
        refine wq_icmp_ne (pc := 1006) (tgt := 1013) dL_law_1006 (by decide) (by first | (unfold inR; omega) | assumption | exact hr2 _ | exact hr3 _ | exact hr4 _) (by first | (unfold inR; omega) | assumption | exact hr2 _ | exact hr3 _ | exact hr4 _) (fun c9 => by exfalso; omega) (fun c9 => ?_)
        refine wq_iconst (pc := 1009) dL_law_1009 ?_
        refine wq_goto (pc := 1010) (tgt := 1053) dL_law_1010 (by decide) ?_
        refine wq_istore (pc := 1053) (L' := [(7, _), (22, _), (21, _), (0, _), (1, _), (2, _), (3, _), (4, _), (5, _), (6, _), (8, _), (10, _), (11, _), (12, _), (13, _), (14, _), (15, _), (16, _), (17, _), (18, _), (19, _), (20, _), (23, _)]) dL_law_1053 rfl (by decide) ?_
        refine wq_iload (pc := 1055) dL_law_1055 rfl ?_
        refine wq_if_eq (pc := 1057) (tgt := 1078) dL_law_1057 (by decide) (by first | (unfold inR; omega) | assumption | exact hr2 _ | exact hr3 _ | exact hr4 _) (fun _ => ?_) (fun c => absurd c (by decide))
        refine wq_goto (pc := 1078) (tgt := 2040) dL_law_1078 (by decide) ?_
        refine wq_sub1 (L' := [(0, _), (1, _), (2, _), (3, _), (4, _), (5, _), (6, _), (7, _), (8, _), (11, _), (22, _)]) ⟨rfl, rfl, rfl, rfl, rfl, rfl, rfl, rfl, rfl, rfl, rfl, trivial⟩ ?_
        exact H _ _ _ _ _ hE
      · skip
        refine wq_bipush (pc := 999) dL_law_999 (by decide) (by decide) ?_
        refine wq_goto (pc := 1001) (tgt := 1006) dL_law_1001 (by decide) ?_
        refine wq_icmp_ne (pc := 1006) (tgt := 1013) dL_law_1006 (by decide) (by first | (unfold inR; omega) | assumption | exact hr2 _ | exact hr3 _ | exact hr4 _) (by first | (unfold inR; omega) | assumption | exact hr2 _ | exact hr3 _ | exact hr4 _) (fun c9 => by exfalso; omega) (fun c11 => ?_)
        refine wq_iconst (pc := 1009) dL_law_1009 ?_
        refine wq_goto (pc := 1010) (tgt := 1053) dL_law_1010 (by decide) ?_
        refine wq_istore (pc := 1053) (L' := [(7, _), (22, _), (21, _), (0, _), (1, _), (2, _), (3, _), (4, _), (5, _), (6, _), (8, _), (10, _), (11, _), (12, _), (13, _), (14, _), (15, _), (16, _), (17, _), (18, _), (19, _), (20, _), (23, _)]) dL_law_1053 rfl (by decide) ?_
        refine wq_iload (pc := 1055) dL_law_1055 rfl ?_
        refine wq_if_eq (pc := 1057) (tgt := 1078) dL_law_1057 (by decide) (by first | (unfold inR; omega) | assumption | exact hr2 _ | exact hr3 _ | exact hr4 _) (fun _ => ?_) (fun c => absurd c (by decide))
        refine wq_goto (pc := 1078) (tgt := 2040) dL_law_1078 (by decide) ?_
        refine wq_sub1 (L' := [(0, _), (1, _), (2, _), (3, _), (4, _), (5, _), (6, _), (7, _), (8, _), (11, _), (22, _)]) ⟨rfl, rfl, rfl, rfl, rfl, rfl, rfl, rfl, rfl, rfl, rfl, trivial⟩ ?_
        exact H _ _ _ _ _ hE
    · skip
      refine wq_bipush (pc := 989) dL_law_989 (by decide) (by decide) ?_
      refine wq_goto (pc := 991) (tgt := 1006) dL_law_991 (by decide) ?_
      refine wq_icmp_ne (pc := 1006) (tgt := 1013) dL_law_1006 (by decide) (by first | (unfold inR; omega) | assumption | exact hr2 _ | exact hr3 _ | exact hr4 _) (by first | (unfold inR; omega) | assumption | exact hr2 _ | exact hr3 _ | exact hr4 _) (fun c9 => by exfalso; omega) (fun c13 => ?_)
      refine wq_iconst (pc := 1009) dL_law_1009 ?_
      refine wq_goto (pc := 1010) (tgt := 1053) dL_law_1010 (by decide) ?_
      refine wq_istore (pc := 1053) (L' := [(7, _), (22, _), (21, _), (0, _), (1, _), (2, _), (3, _), (4, _), (5, _), (6, _), (8, _), (10, _), (11, _), (12, _), (13, _), (14, _), (15, _), (16, _), (17, _), (18, _), (19, _), (20, _), (23, _)]) dL_law_1053 rfl (by decide) ?_
      refine wq_iload (pc := 1055) dL_law_1055 rfl ?_
      refine wq_if_eq (pc := 1057) (tgt := 1078) dL_law_1057 (by decide) (by first | (unfold inR; omega) | assumption | exact hr2 _ | exact hr3 _ | exact hr4 _) (fun _ => ?_) (fun c => absurd c (by decide))
      refine wq_goto (pc := 1078) (tgt := 2040) dL_law_1078 (by decide) ?_
      refine wq_sub1 (L' := [(0, _), (1, _), (2, _), (3, _), (4, _), (5, _), (6, _), (7, _), (8, _), (11, _), (22, _)]) ⟨rfl, rfl, rfl, rfl, rfl, rfl, rfl, rfl, rfl, rfl, rfl, trivial⟩ ?_
      exact H _ _ _ _ _ hE
  · skip
    exact absurd hq hc
  · skip
    exact absurd hq hc
  · skip
    exact absurd hq hc
theorem lw_unlink {μ : nMem} {ε : nEnv} {Q : nOut → nMem → nEnv → Prop} {N : Int} {A : AS} {nb vb : Int} {t : Nat} {X : nMem} {turn kd y d d2 nm nm2 f s b a fr : Int} (hS : ST N A nb vb (t + 1) X μ ε 0) (hnb : nb + 1 ≤ 490) (hvb : vb + 2 ≤ 4000) (hvb0 : 0 ≤ vb) (hn2 : 2 ≤ nb) (ry : 0 ≤ y ∧ y ≤ 2147483647) (ht : 0 ≤ turn ∧ turn < 120) (hF : LF A X d d2 nm nm2 f s b a fr) (H : ∀ A1 X1 m e w, ST N A1 (nb + 1) (vb + 2) t X1 m e w → wpL 2040 [(0, vR (-1)), (1, vR 1), (2, vR 21), (3, vR 22), (4, vR 23), (5, vR 24), (6, vR 25), (7, vI 1), (8, vI turn), (11, vI y), (22, vI w)] [] m e Q) : wpL 907 [(0, vR (-1)), (1, vR 1), (2, vR 21), (3, vR 22), (4, vR 23), (5, vR 24), (6, vR 25), (7, vI 1), (8, vI turn), (10, vI kd), (11, vI y), (12, vI d), (13, vI d2), (14, vI nm), (15, vI nm2), (16, vI f), (17, vI s), (18, vI b), (19, vI a), (20, vI fr), (21, vI 0), (22, vI 0)] [] μ ε Q := by
  obtain ⟨⟨hW, hG, hX, hi⟩, ⟨hD, hJ, hV, hZ⟩, fl, SS, hP, hTS⟩ := ST_0 hS
  obtain ⟨f1, f2, f3, f4, f5, f6, f7, f8, f9⟩ := id hF
  obtain ⟨⟨⟨hn0, hn15⟩, ⟨hm0, hm8⟩, hr2, hr3, hr4⟩, hn14, hm7⟩ := id hX
  have hs9 := GA_slot hG f
  have ha9 := GA_find hG d nm
  rw [← f7] at hs9
  rw [← f8] at ha9
  have hfr9 := (frN_le A).2
  rw [← f9] at hfr9
  clear f7 f8 f9
  refine wq_iload (pc := 907) dL_law_907 rfl ?_
  refine wq_if_eq (pc := 909) (tgt := 948) dL_law_909 (by decide) (by first | (unfold inR; omega) | assumption | exact hr2 _ | exact hr3 _ | exact hr4 _) (fun c1 => ?_) (fun c1 => ?_)
  · skip
    refine wq_iconst (pc := 948) dL_law_948 ?_
    refine wq_istore (pc := 949) (L' := [(23, _), (0, _), (1, _), (2, _), (3, _), (4, _), (5, _), (6, _), (7, _), (8, _), (10, _), (11, _), (12, _), (13, _), (14, _), (15, _), (16, _), (17, _), (18, _), (19, _), (20, _), (21, _), (22, _)]) dL_law_949 rfl (by decide) ?_
    refine wq_sub1 (L' := [(0, _), (1, _), (2, _), (3, _), (4, _), (5, _), (6, _), (7, _), (8, _), (10, _), (11, _), (12, _), (13, _), (14, _), (15, _), (16, _), (17, _), (18, _), (19, _), (20, _), (21, _), (22, _), (23, _)]) ⟨rfl, rfl, rfl, rfl, rfl, rfl, rfl, rfl, rfl, rfl, rfl, rfl, rfl, rfl, rfl, rfl, rfl, rfl, rfl, rfl, rfl, rfl, rfl, trivial⟩ ?_
    exact lw_un hS hnb hvb hvb0 hn2 ry ht hF H (by omega)
  · skip
    refine wq_iload (pc := 912) dL_law_912 rfl ?_
    refine wq_if_lt (pc := 914) (tgt := 948) dL_law_914 (by decide) (by first | (unfold inR; omega) | assumption | exact hr2 _ | exact hr3 _ | exact hr4 _) (fun c2 => ?_) (fun c2 => ?_)
    · skip
      refine wq_iconst (pc := 948) dL_law_948 ?_
      refine wq_istore (pc := 949) (L' := [(23, _), (0, _), (1, _), (2, _), (3, _), (4, _), (5, _), (6, _), (7, _), (8, _), (10, _), (11, _), (12, _), (13, _), (14, _), (15, _), (16, _), (17, _), (18, _), (19, _), (20, _), (21, _), (22, _)]) dL_law_949 rfl (by decide) ?_
      refine wq_sub1 (L' := [(0, _), (1, _), (2, _), (3, _), (4, _), (5, _), (6, _), (7, _), (8, _), (10, _), (11, _), (12, _), (13, _), (14, _), (15, _), (16, _), (17, _), (18, _), (19, _), (20, _), (21, _), (22, _), (23, _)]) ⟨rfl, rfl, rfl, rfl, rfl, rfl, rfl, rfl, rfl, rfl, rfl, rfl, rfl, rfl, rfl, rfl, rfl, rfl, rfl, rfl, rfl, rfl, rfl, trivial⟩ ?_
      exact lw_un hS hnb hvb hvb0 hn2 ry ht hF H (by omega)
    · skip
      refine wq_aload_n (pc := 917) dL_law_917 rfl rfl ?_
      refine wq_iconst (pc := 918) dL_law_918 ?_
      refine wq_iload (pc := 919) dL_law_919 rfl ?_
      refine wq_imul (pc := 921) dL_law_921 ?_
      refine wq_iconst (pc := 922) dL_law_922 ?_
      refine wq_iadd (pc := 923) dL_law_923 ?_
      refine wq_ialdX (pc := 924) dL_law_924 (by with_reducible assumption) rfl (by omega) (by omega) ?_
      refine wq_if_eq (pc := 925) (tgt := 944) dL_law_925 (by decide) (by first | (unfold inR; omega) | assumption | exact hr2 _ | exact hr3 _ | exact hr4 _) (fun c3 => ?_) (fun c3 => ?_)
      · skip
        refine wq_iconst (pc := 944) dL_law_944 ?_
        refine wq_goto (pc := 945) (tgt := 949) dL_law_945 (by decide) ?_
        refine wq_istore (pc := 949) (L' := [(23, _), (0, _), (1, _), (2, _), (3, _), (4, _), (5, _), (6, _), (7, _), (8, _), (10, _), (11, _), (12, _), (13, _), (14, _), (15, _), (16, _), (17, _), (18, _), (19, _), (20, _), (21, _), (22, _)]) dL_law_949 rfl (by decide) ?_
        refine wq_sub1 (L' := [(0, _), (1, _), (2, _), (3, _), (4, _), (5, _), (6, _), (7, _), (8, _), (10, _), (11, _), (12, _), (13, _), (14, _), (15, _), (16, _), (17, _), (18, _), (19, _), (20, _), (21, _), (22, _), (23, _)]) ⟨rfl, rfl, rfl, rfl, rfl, rfl, rfl, rfl, rfl, rfl, rfl, rfl, rfl, rfl, rfl, rfl, rfl, rfl, rfl, rfl, rfl, rfl, rfl, trivial⟩ ?_
        exact lw_uy hS hnb hvb hvb0 hn2 ry ht hF H (by omega)
      · skip
        refine wq_aload_n (pc := 928) dL_law_928 rfl rfl ?_
        refine wq_aload_n (pc := 929) dL_law_929 rfl rfl ?_
        refine wq_aload_n (pc := 930) dL_law_930 rfl rfl ?_
        refine wq_iconst (pc := 931) dL_law_931 ?_
        refine wq_iload (pc := 932) dL_law_932 rfl ?_
        refine wq_imul (pc := 934) dL_law_934 ?_
        refine wq_iconst (pc := 935) dL_law_935 ?_
        refine wq_iadd (pc := 936) dL_law_936 ?_
        refine wq_ialdX (pc := 937) dL_law_937 (by with_reducible assumption) rfl (by omega) (by omega) ?_
        refine lS_3 (pc := 938) dL_law_938 (cw_L_76 _ rfl) ⟨by decide, by decide⟩ (Nat.le_of_ble_eq_true rfl) (sW_namesIn hW hX.1 (hr2 _) ?_)
        show wpL 941 _ _ _ _ _
        refine wq_if_ne (pc := 941) (tgt := 948) dL_law_941 (by decide) (cR_r hn15) (fun c4 => ?_) (fun c4 => ?_)
        · skip
          refine wq_iconst (pc := 948) dL_law_948 ?_
          refine wq_istore (pc := 949) (L' := [(23, _), (0, _), (1, _), (2, _), (3, _), (4, _), (5, _), (6, _), (7, _), (8, _), (10, _), (11, _), (12, _), (13, _), (14, _), (15, _), (16, _), (17, _), (18, _), (19, _), (20, _), (21, _), (22, _)]) dL_law_949 rfl (by decide) ?_
          refine wq_sub1 (L' := [(0, _), (1, _), (2, _), (3, _), (4, _), (5, _), (6, _), (7, _), (8, _), (10, _), (11, _), (12, _), (13, _), (14, _), (15, _), (16, _), (17, _), (18, _), (19, _), (20, _), (21, _), (22, _), (23, _)]) ⟨rfl, rfl, rfl, rfl, rfl, rfl, rfl, rfl, rfl, rfl, rfl, rfl, rfl, rfl, rfl, rfl, rfl, rfl, rfl, rfl, rfl, rfl, rfl, trivial⟩ ?_
          exact lw_un hS hnb hvb hvb0 hn2 ry ht hF H (by omega)
        · skip
          refine wq_iconst (pc := 944) dL_law_944 ?_
          refine wq_goto (pc := 945) (tgt := 949) dL_law_945 (by decide) ?_
          refine wq_istore (pc := 949) (L' := [(23, _), (0, _), (1, _), (2, _), (3, _), (4, _), (5, _), (6, _), (7, _), (8, _), (10, _), (11, _), (12, _), (13, _), (14, _), (15, _), (16, _), (17, _), (18, _), (19, _), (20, _), (21, _), (22, _)]) dL_law_949 rfl (by decide) ?_
          refine wq_sub1 (L' := [(0, _), (1, _), (2, _), (3, _), (4, _), (5, _), (6, _), (7, _), (8, _), (10, _), (11, _), (12, _), (13, _), (14, _), (15, _), (16, _), (17, _), (18, _), (19, _), (20, _), (21, _), (22, _), (23, _)]) ⟨rfl, rfl, rfl, rfl, rfl, rfl, rfl, rfl, rfl, rfl, rfl, rfl, rfl, rfl, rfl, rfl, rfl, rfl, rfl, rfl, rfl, rfl, rfl, trivial⟩ ?_
          exact lw_uy hS hnb hvb hvb0 hn2 ry ht hF H (by omega)
