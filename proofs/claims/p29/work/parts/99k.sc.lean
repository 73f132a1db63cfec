theorem lw_cy1 {μ : nMem} {ε : nEnv} {Q : nOut → nMem → nEnv → Prop} {N : Int} {A : AS} {nb vb : Int} {t : Nat} {X : nMem} {turn kd y d d2 nm nm2 f s b a fr : Int} (hS : ST N A nb vb (t + 1) X μ ε 0) (hnb : nb + 1 ≤ 490) (hvb : vb + 2 ≤ 4000) (hvb0 : 0 ≤ vb) (hn2 : 2 ≤ nb) (ry : 0 ≤ y ∧ y ≤ 2147483647) (ht : 0 ≤ turn ∧ turn < 120) (hF : LF A X d d2 nm nm2 f s b a fr) (H : ∀ A1 X1 m e w, ST N A1 (nb + 1) (vb + 2) t X1 m e w → wpL 2040 [(0, vR (-1)), (1, vR 1), (2, vR 21), (3, vR 22), (4, vR 23), (5, vR 24), (6, vR 25), (7, vI 1), (8, vI turn), (11, vI y), (22, vI w)] [] m e Q) (hc : b = 1 ∧ 0 < nm ∧ a < 0 ∧ X 21 0 < 14 ∧ X 21 1 < 7) : wpL 519 [(0, vR (-1)), (1, vR 1), (2, vR 21), (3, vR 22), (4, vR 23), (5, vR 24), (6, vR 25), (7, vI 1), (8, vI turn), (10, vI kd), (11, vI y), (12, vI d), (13, vI d2), (14, vI nm), (15, vI nm2), (16, vI f), (17, vI s), (18, vI b), (19, vI a), (20, vI fr), (21, vI 0), (22, vI 0), (23, vI 1), (24, vI 1)] [] μ ε Q := by
  obtain ⟨⟨hW, hG, hX, hi⟩, ⟨hD, hJ, hV, hZ⟩, fl, SS, hP, hTS⟩ := ST_0 hS
  obtain ⟨f1, f2, f3, f4, f5, f6, f7, f8, f9⟩ := id hF
  obtain ⟨⟨⟨hn0, hn15⟩, ⟨hm0, hm8⟩, hr2, hr3, hr4⟩, hn14, hm7⟩ := id hX
  have hs9 := GA_slot hG f
  have ha9 := GA_find hG d nm
  rw [← f7] at hs9
  rw [← f8] at ha9
  have hfr9 := (frN_le A).2
  rw [← f9] at hfr9
  clear f7 f8 f9
  refine wq_aload_n (pc := 519) dL_law_519 rfl rfl ?_
  refine wq_iconst (pc := 520) dL_law_520 ?_
  refine wq_ialdX (pc := 521) dL_law_521 (by with_reducible assumption) rfl (by omega) (by omega) ?_
  refine wq_bipush (pc := 522) dL_law_522 (by decide) (by decide) ?_
  refine wq_icmp_lt (pc := 524) (tgt := 542) dL_law_524 (by decide) (by first | (unfold inR; omega) | assumption | exact hr2 _ | exact hr3 _ | exact hr4 _) (by first | (unfold inR; omega) | assumption | exact hr2 _ | exact hr3 _ | exact hr4 _) (fun c1 => ?_) (fun c9 => by exfalso; omega)
  refine wq_aload_n (pc := 542) dL_law_542 rfl rfl ?_
  refine wq_iload (pc := 543) dL_law_543 rfl ?_
  refine wq_if_eq (pc := 545) (tgt := 552) dL_law_545 (by decide) (by first | (unfold inR; omega) | assumption | exact hr2 _ | exact hr3 _ | exact hr4 _) (fun c => absurd c (by decide)) (fun _ => ?_)
  refine wq_iconst (pc := 548) dL_law_548 ?_
  refine wq_goto (pc := 549) (tgt := 553) dL_law_549 (by decide) ?_
  refine wq_iload (pc := 553) dL_law_553 rfl ?_
  refine wq_iload (pc := 555) dL_law_555 rfl ?_
  refine wq_iconst (pc := 557) dL_law_557 ?_
  refine cW_5 (pc := 558) dL_law_558 (cw_L_85 _ rfl) ⟨by decide, by decide⟩ (Nat.le_of_ble_eq_true rfl) (qc_create hS hnb hvb hF (fun r mm ee hE hr => ?_) (fun mm ee hE hr => ?_) (fun A1 mm ee hE hr => ?_) (fun A1 r mm ee W hr hl hJA hz => ?_))
  · skip
    exfalso; omega
  · skip
    show wpL 561 _ _ _ _ _
    refine wq_goto (pc := 561) (tgt := 566) dL_law_561 (by decide) ?_
    refine wq_istore (pc := 566) (L' := [(21, _), (0, _), (1, _), (2, _), (3, _), (4, _), (5, _), (6, _), (7, _), (8, _), (10, _), (11, _), (12, _), (13, _), (14, _), (15, _), (16, _), (17, _), (18, _), (19, _), (20, _), (22, _), (23, _), (24, _)]) dL_law_566 rfl (by decide) ?_
    refine wq_iload (pc := 568) dL_law_568 rfl ?_
    refine wq_bipush (pc := 570) dL_law_570 (by decide) (by decide) ?_
    refine wq_icmp_ne (pc := 572) (tgt := 579) dL_law_572 (by decide) (by first | (unfold inR; omega) | assumption | exact hr2 _ | exact hr3 _ | exact hr4 _) (by first | (unfold inR; omega) | assumption | exact hr2 _ | exact hr3 _ | exact hr4 _) (fun _ => ?_) (fun c9 => by exfalso; omega)
    refine wq_iconst (pc := 579) dL_law_579 ?_
    refine wq_istore (pc := 580) (L' := [(22, _), (21, _), (0, _), (1, _), (2, _), (3, _), (4, _), (5, _), (6, _), (7, _), (8, _), (10, _), (11, _), (12, _), (13, _), (14, _), (15, _), (16, _), (17, _), (18, _), (19, _), (20, _), (23, _), (24, _)]) dL_law_580 rfl (by decide) ?_
    refine wq_iload (pc := 582) dL_law_582 rfl ?_
    refine wq_if_ne (pc := 584) (tgt := 622) dL_law_584 (by decide) (by first | (unfold inR; omega) | assumption | exact hr2 _ | exact hr3 _ | exact hr4 _) (fun _ => ?_) (fun c => absurd c (by decide))
    refine wq_iload (pc := 622) dL_law_622 rfl ?_
    refine wq_iconst (pc := 624) dL_law_624 ?_
    refine wq_icmp_le (pc := 625) (tgt := 646) dL_law_625 (by decide) (by first | (unfold inR; omega) | assumption | exact hr2 _ | exact hr3 _ | exact hr4 _) (by first | (unfold inR; omega) | assumption | exact hr2 _ | exact hr3 _ | exact hr4 _) (fun _ => ?_) (fun c9 => by exfalso; omega)
    refine wq_iload (pc := 646) dL_law_646 rfl ?_
    refine wq_if_ne (pc := 648) (tgt := 664) dL_law_648 (by decide) (by first | (unfold inR; omega) | assumption | exact hr2 _ | exact hr3 _ | exact hr4 _) (fun c => absurd c (by decide)) (fun _ => ?_)
    refine wq_iload (pc := 651) dL_law_651 rfl ?_
    refine wq_bipush (pc := 653) dL_law_653 (by decide) (by decide) ?_
    refine wq_icmp_ne (pc := 655) (tgt := 668) dL_law_655 (by decide) (by first | (unfold inR; omega) | assumption | exact hr2 _ | exact hr3 _ | exact hr4 _) (by first | (unfold inR; omega) | assumption | exact hr2 _ | exact hr3 _ | exact hr4 _) (fun c9 => by exfalso; omega) (fun _ => ?_)
    refine wq_iload (pc := 658) dL_law_658 rfl ?_
    refine wq_iconst (pc := 660) dL_law_660 ?_
    refine wq_icmp_ge (pc := 661) (tgt := 668) dL_law_661 (by decide) (by first | (unfold inR; omega) | assumption | exact hr2 _ | exact hr3 _ | exact hr4 _) (by first | (unfold inR; omega) | assumption | exact hr2 _ | exact hr3 _ | exact hr4 _) (fun c9 => by exfalso; omega) (fun c12 => ?_)
    refine wq_iconst (pc := 664) dL_law_664 ?_
    refine wq_goto (pc := 665) (tgt := 669) dL_law_665 (by decide) ?_
    refine wq_istore (pc := 669) (L' := [(7, _), (22, _), (21, _), (0, _), (1, _), (2, _), (3, _), (4, _), (5, _), (6, _), (8, _), (10, _), (11, _), (12, _), (13, _), (14, _), (15, _), (16, _), (17, _), (18, _), (19, _), (20, _), (23, _), (24, _)]) dL_law_669 rfl (by decide) ?_
    refine wq_iload (pc := 671) dL_law_671 rfl ?_
    refine wq_if_eq (pc := 673) (tgt := 720) dL_law_673 (by decide) (by first | (unfold inR; omega) | assumption | exact hr2 _ | exact hr3 _ | exact hr4 _) (fun c => absurd c (by decide)) (fun _ => ?_)
    refine wq_iload (pc := 676) dL_law_676 rfl ?_
    refine wq_iconst (pc := 678) dL_law_678 ?_
    refine wq_icmp_le (pc := 679) (tgt := 720) dL_law_679 (by decide) (by first | (unfold inR; omega) | assumption | exact hr2 _ | exact hr3 _ | exact hr4 _) (by first | (unfold inR; omega) | assumption | exact hr2 _ | exact hr3 _ | exact hr4 _) (fun _ => ?_) (fun c9 => by exfalso; omega)
    refine wq_goto (pc := 720) (tgt := 2040) dL_law_720 (by decide) ?_
    refine wq_sub1 (L' := [(0, _), (1, _), (2, _), (3, _), (4, _), (5, _), (6, _), (7, _), (8, _), (11, _), (22, _)]) ⟨rfl, rfl, rfl, rfl, rfl, rfl, rfl, rfl, rfl, rfl, rfl, trivial⟩ ?_
    exact H _ _ _ _ _ hE
  · skip
    show wpL 561 _ _ _ _ _
    refine wq_goto (pc := 561) (tgt := 566) dL_law_561 (by decide) ?_
    refine wq_istore (pc := 566) (L' := [(21, _), (0, _), (1, _), (2, _), (3, _), (4, _), (5, _), (6, _), (7, _), (8, _), (10, _), (11, _), (12, _), (13, _), (14, _), (15, _), (16, _), (17, _), (18, _), (19, _), (20, _), (22, _), (23, _), (24, _)]) dL_law_566 rfl (by decide) ?_
    refine wq_iload (pc := 568) dL_law_568 rfl ?_
    refine wq_bipush (pc := 570) dL_law_570 (by decide) (by decide) ?_
    refine wq_icmp_ne (pc := 572) (tgt := 579) dL_law_572 (by decide) (by first | (unfold inR; omega) | assumption | exact hr2 _ | exact hr3 _ | exact hr4 _) (by first | (unfold inR; omega) | assumption | exact hr2 _ | exact hr3 _ | exact hr4 _) (fun c9 => by exfalso; omega) (fun _ => ?_)
    refine wq_iconst (pc := 575) dL_law_575 ?_
    refine wq_goto (pc := 576) (tgt := 580) dL_law_576 (by decide) ?_
    refine wq_istore (pc := 580) (L' := [(22, _), (21, _), (0, _), (1, _), (2, _), (3, _), (4, _), (5, _), (6, _), (7, _), (8, _), (10, _), (11, _), (12, _), (13, _), (14, _), (15, _), (16, _), (17, _), (18, _), (19, _), (20, _), (23, _), (24, _)]) dL_law_580 rfl (by decide) ?_
    refine wq_iload (pc := 582) dL_law_582 rfl ?_
    refine wq_if_ne (pc := 584) (tgt := 622) dL_law_584 (by decide) (by first | (unfold inR; omega) | assumption | exact hr2 _ | exact hr3 _ | exact hr4 _) (fun _ => ?_) (fun c => absurd c (by decide))
    refine wq_iload (pc := 622) dL_law_622 rfl ?_
    refine wq_iconst (pc := 624) dL_law_624 ?_
    refine wq_icmp_le (pc := 625) (tgt := 646) dL_law_625 (by decide) (by first | (unfold inR; omega) | assumption | exact hr2 _ | exact hr3 _ | exact hr4 _) (by first | (unfold inR; omega) | assumption | exact hr2 _ | exact hr3 _ | exact hr4 _) (fun _ => ?_) (fun c9 => by exfalso; omega)
    refine wq_iload (pc := 646) dL_law_646 rfl ?_
    refine wq_if_ne (pc := 648) (tgt := 664) dL_law_648 (by decide) (by first | (unfold inR; omega) | assumption | exact hr2 _ | exact hr3 _ | exact hr4 _) (fun _ => ?_) (fun c => absurd c (by decide))
    refine wq_iconst (pc := 664) dL_law_664 ?_
    refine wq_goto (pc := 665) (tgt := 669) dL_law_665 (by decide) ?_
    refine wq_istore (pc := 669) (L' := [(7, _), (22, _), (21, _), (0, _), (1, _), (2, _), (3, _), (4, _), (5, _), (6, _), (8, _), (10, _), (11, _), (12, _), (13, _), (14, _), (15, _), (16, _), (17, _), (18, _), (19, _), (20, _), (23, _), (24, _)]) dL_law_669 rfl (by decide) ?_
    refine wq_iload (pc := 671) dL_law_671 rfl ?_
    refine wq_if_eq (pc := 673) (tgt := 720) dL_law_673 (by decide) (by first | (unfold inR; omega) | assumption | exact hr2 _ | exact hr3 _ | exact hr4 _) (fun c => absurd c (by decide)) (fun _ => ?_)
    refine wq_iload (pc := 676) dL_law_676 rfl ?_
    refine wq_iconst (pc := 678) dL_law_678 ?_
    refine wq_icmp_le (pc := 679) (tgt := 720) dL_law_679 (by decide) (by first | (unfold inR; omega) | assumption | exact hr2 _ | exact hr3 _ | exact hr4 _) (by first | (unfold inR; omega) | assumption | exact hr2 _ | exact hr3 _ | exact hr4 _) (fun _ => ?_) (fun c9 => by exfalso; omega)
    refine wq_goto (pc := 720) (tgt := 2040) dL_law_720 (by decide) ?_
    refine wq_sub1 (L' := [(0, _), (1, _), (2, _), (3, _), (4, _), (5, _), (6, _), (7, _), (8, _), (11, _), (22, _)]) ⟨rfl, rfl, rfl, rfl, rfl, rfl, rfl, rfl, rfl, rfl, rfl, trivial⟩ ?_
    exact H _ _ _ _ _ hE
  · skip
    show wpL 561 _ _ _ _ _
    refine wq_goto (pc := 561) (tgt := 566) dL_law_561 (by decide) ?_
    refine wq_istore (pc := 566) (L' := [(21, _), (0, _), (1, _), (2, _), (3, _), (4, _), (5, _), (6, _), (7, _), (8, _), (10, _), (11, _), (12, _), (13, _), (14, _), (15, _), (16, _), (17, _), (18, _), (19, _), (20, _), (22, _), (23, _), (24, _)]) dL_law_566 rfl (by decide) ?_
    refine wq_iload (pc := 568) dL_law_568 rfl ?_
    refine wq_bipush (pc := 570) dL_law_570 (by decide) (by decide) ?_
    refine wq_icmp_ne (pc := 572) (tgt := 579) dL_law_572 (by decide) (by first | (unfold inR; omega) | assumption | exact hr2 _ | exact hr3 _ | exact hr4 _) (by first | (unfold inR; omega) | assumption | exact hr2 _ | exact hr3 _ | exact hr4 _) (fun c21 => ?_) (fun c9 => by exfalso; omega)
    refine wq_iconst (pc := 579) dL_law_579 ?_
    refine wq_istore (pc := 580) (L' := [(22, _), (21, _), (0, _), (1, _), (2, _), (3, _), (4, _), (5, _), (6, _), (7, _), (8, _), (10, _), (11, _), (12, _), (13, _), (14, _), (15, _), (16, _), (17, _), (18, _), (19, _), (20, _), (23, _), (24, _)]) dL_law_580 rfl (by decide) ?_
    refine wq_iload (pc := 582) dL_law_582 rfl ?_
    refine wq_if_ne (pc := 584) (tgt := 622) dL_law_584 (by decide) (by first | (unfold inR; omega) | assumption | exact hr2 _ | exact hr3 _ | exact hr4 _) (fun _ => ?_) (fun c => absurd c (by decide))
    refine wq_iload (pc := 622) dL_law_622 rfl ?_
    refine wq_iconst (pc := 624) dL_law_624 ?_
    refine wq_icmp_le (pc := 625) (tgt := 646) dL_law_625 (by decide) (by first | (unfold inR; omega) | assumption | exact hr2 _ | exact hr3 _ | exact hr4 _) (by first | (unfold inR; omega) | assumption | exact hr2 _ | exact hr3 _ | exact hr4 _) (fun c9 => by exfalso; omega) (fun c23 => ?_)
    refine wq_iload (pc := 628) dL_law_628 rfl ?_
    refine wq_sipush (pc := 630) dL_law_630 (by decide) (by decide) ?_
    refine wq_icmp_eq (pc := 633) (tgt := 646) dL_law_633 (by decide) (by first | (unfold inR; omega) | assumption | exact hr2 _ | exact hr3 _ | exact hr4 _) (by first | (unfold inR; omega) | assumption | exact hr2 _ | exact hr3 _ | exact hr4 _) (fun c9 => by exfalso; omega) (fun c24 => ?_)
    refine wq_aload_n (pc := 636) dL_law_636 rfl rfl ?_
    refine wq_aload_n (pc := 637) dL_law_637 rfl rfl ?_
    refine wq_iload (pc := 638) dL_law_638 rfl ?_
    refine lS_3 (pc := 640) dL_law_640 (cw_L_13 _ rfl) ⟨by decide, by decide⟩ (Nat.le_of_ble_eq_true rfl) (sW_links W hX.1 (by unfold inR; omega) ?_)
    show wpL 643 _ _ _ _ _
    refine wq_if_eq (pc := 643) (tgt := 664) dL_law_643 (by decide) (by first | (unfold inR; omega) | assumption | exact hr2 _ | exact hr3 _ | exact hr4 _) (fun c25 => ?_) (fun c9 => by exfalso; omega)
    refine wq_iconst (pc := 664) dL_law_664 ?_
    refine wq_goto (pc := 665) (tgt := 669) dL_law_665 (by decide) ?_
    refine wq_istore (pc := 669) (L' := [(7, _), (22, _), (21, _), (0, _), (1, _), (2, _), (3, _), (4, _), (5, _), (6, _), (8, _), (10, _), (11, _), (12, _), (13, _), (14, _), (15, _), (16, _), (17, _), (18, _), (19, _), (20, _), (23, _), (24, _)]) dL_law_669 rfl (by decide) ?_
    refine wq_iload (pc := 671) dL_law_671 rfl ?_
    refine wq_if_eq (pc := 673) (tgt := 720) dL_law_673 (by decide) (by first | (unfold inR; omega) | assumption | exact hr2 _ | exact hr3 _ | exact hr4 _) (fun c => absurd c (by decide)) (fun _ => ?_)
    refine wq_iload (pc := 676) dL_law_676 rfl ?_
    refine wq_iconst (pc := 678) dL_law_678 ?_
    refine wq_icmp_le (pc := 679) (tgt := 720) dL_law_679 (by decide) (by first | (unfold inR; omega) | assumption | exact hr2 _ | exact hr3 _ | exact hr4 _) (by first | (unfold inR; omega) | assumption | exact hr2 _ | exact hr3 _ | exact hr4 _) (fun c9 => by exfalso; omega) (fun c27 => ?_)
    refine wq_aload_n (pc := 682) dL_law_682 rfl rfl ?_
    refine wq_aload_n (pc := 683) dL_law_683 rfl rfl ?_
    refine wq_iload (pc := 684) dL_law_684 rfl ?_
    refine wq_iload (pc := 686) dL_law_686 rfl ?_
    refine wq_iload (pc := 688) dL_law_688 rfl ?_
    refine wq_iload (pc := 690) dL_law_690 rfl ?_
    refine wq_if_eq (pc := 692) (tgt := 699) dL_law_692 (by decide) (by first | (unfold inR; omega) | assumption | exact hr2 _ | exact hr3 _ | exact hr4 _) (fun c => absurd c (by decide)) (fun _ => ?_)
    refine wq_iconst (pc := 695) dL_law_695 ?_
    refine wq_goto (pc := 696) (tgt := 700) dL_law_696 (by decide) ?_
    refine lS_6 (pc := 700) dL_law_700 (cw_L_123 _ rfl) ⟨by decide, by decide⟩ (Nat.le_of_ble_eq_true rfl) (sW_adds W (by omega) (by omega) (fun X1 W1 ad im1 => ?_))
    show wpL 703 _ _ _ _ _
    obtain ⟨ad1, ad2, ad3, ad4⟩ := id ad
    refine wq_iload (pc := 703) dL_law_703 rfl ?_
    refine wq_if_eq (pc := 705) (tgt := 720) dL_law_705 (by decide) (by first | (unfold inR; omega) | assumption | exact hr2 _ | exact hr3 _ | exact hr4 _) (fun c => absurd c (by decide)) (fun _ => ?_)
    refine wq_aload_n (pc := 708) dL_law_708 rfl rfl ?_
    refine wq_aload (pc := 709) dL_law_709 rfl ?_
    refine wq_aload (pc := 711) dL_law_711 rfl ?_
    refine wq_aload (pc := 713) dL_law_713 rfl ?_
    refine wq_iload (pc := 715) dL_law_715 rfl ?_
    refine lS_5 (pc := 717) dL_law_717 (cw_L_127 _ rfl) ⟨by decide, by decide⟩ (Nat.le_of_ble_eq_true rfl) (sW_opens W1 (by omega) (by omega) (fun X2 W2 op im2 => ?_))
    show wpL 720 _ _ _ _ _
    obtain ⟨op1, op2, op3, op4⟩ := id op
    have hE := ST_i W2 (hJA _ _ ad op) ⟨LX_op op (LX_ad ad hX.1 (by omega) (by unfold inR; omega) (by unfold inR; omega) (by unfold inR; omega) (by unfold inR; omega)) (by omega) (by unfold inR; omega), by omega, by omega⟩ hz.1 hz.2 (fun j => by rw [im2, im1]; exact hi j)
    refine wq_goto (pc := 720) (tgt := 2040) dL_law_720 (by decide) ?_
    refine wq_sub1 (L' := [(0, _), (1, _), (2, _), (3, _), (4, _), (5, _), (6, _), (7, _), (8, _), (11, _), (22, _)]) ⟨rfl, rfl, rfl, rfl, rfl, rfl, rfl, rfl, rfl, rfl, rfl, trivial⟩ ?_
    exact H _ _ _ _ _ hE
theorem lw_cn1 {μ : nMem} {ε : nEnv} {Q : nOut → nMem → nEnv → Prop} {N : Int} {A : AS} {nb vb : Int} {t : Nat} {X : nMem} {turn kd y d d2 nm nm2 f s b a fr : Int} (hS : ST N A nb vb (t + 1) X μ ε 0) (hnb : nb + 1 ≤ 490) (hvb : vb + 2 ≤ 4000) (hvb0 : 0 ≤ vb) (hn2 : 2 ≤ nb) (ry : 0 ≤ y ∧ y ≤ 2147483647) (ht : 0 ≤ turn ∧ turn < 120) (hF : LF A X d d2 nm nm2 f s b a fr) (H : ∀ A1 X1 m e w, ST N A1 (nb + 1) (vb + 2) t X1 m e w → wpL 2040 [(0, vR (-1)), (1, vR 1), (2, vR 21), (3, vR 22), (4, vR 23), (5, vR 24), (6, vR 25), (7, vI 1), (8, vI turn), (11, vI y), (22, vI w)] [] m e Q) (hc : ¬ (b = 1 ∧ 0 < nm ∧ a < 0 ∧ X 21 0 < 14)) : wpL 519 [(0, vR (-1)), (1, vR 1), (2, vR 21), (3, vR 22), (4, vR 23), (5, vR 24), (6, vR 25), (7, vI 1), (8, vI turn), (10, vI kd), (11, vI y), (12, vI d), (13, vI d2), (14, vI nm), (15, vI nm2), (16, vI f), (17, vI s), (18, vI b), (19, vI a), (20, vI fr), (21, vI 0), (22, vI 0), (23, vI 1), (24, vI 0)] [] μ ε Q := by
  obtain ⟨⟨hW, hG, hX, hi⟩, ⟨hD, hJ, hV, hZ⟩, fl, SS, hP, hTS⟩ := ST_0 hS
  obtain ⟨f1, f2, f3, f4, f5, f6, f7, f8, f9⟩ := id hF
  obtain ⟨⟨⟨hn0, hn15⟩, ⟨hm0, hm8⟩, hr2, hr3, hr4⟩, hn14, hm7⟩ := id hX
  have hs9 := GA_slot hG f
  have ha9 := GA_find hG d nm
  rw [← f7] at hs9
  rw [← f8] at ha9
  have hfr9 := (frN_le A).2
  rw [← f9] at hfr9
  clear f7 f8 f9
  have cut1 : (¬ (b = 1 ∧ 0 < nm ∧ a < 0)) → wpL 542 [(0, vR (-1)), (1, vR 1), (2, vR 21), (3, vR 22), (4, vR 23), (5, vR 24), (6, vR 25), (7, vI 1), (8, vI turn), (10, vI kd), (11, vI y), (12, vI d), (13, vI d2), (14, vI nm), (15, vI nm2), (16, vI f), (17, vI s), (18, vI b), (19, vI a), (20, vI fr), (21, vI 0), (22, vI 0), (23, vI 1), (24, vI 0)] [] μ ε Q := by
    intro e0
    refine wq_aload_n (pc := 542) dL_law_542 rfl rfl ?_
    refine wq_iload (pc := 543) dL_law_543 rfl ?_
    refine wq_if_eq (pc := 545) (tgt := 552) dL_law_545 (by decide) (by first | (unfold inR; omega) | assumption | exact hr2 _ | exact hr3 _ | exact hr4 _) (fun c => absurd c (by decide)) (fun _ => ?_)
    refine wq_iconst (pc := 548) dL_law_548 ?_
    refine wq_goto (pc := 549) (tgt := 553) dL_law_549 (by decide) ?_
    refine wq_iload (pc := 553) dL_law_553 rfl ?_
    refine wq_iload (pc := 555) dL_law_555 rfl ?_
    refine wq_iconst (pc := 557) dL_law_557 ?_
    refine cW_5 (pc := 558) dL_law_558 (cw_L_85 _ rfl) ⟨by decide, by decide⟩ (Nat.le_of_ble_eq_true rfl) (qc_create hS hnb hvb hF (fun r mm ee hE hr => ?_) (fun mm ee hE hr => ?_) (fun A1 mm ee hE hr => ?_) (fun A1 r mm ee W hr hl hJA hz => ?_))
    · skip
      show wpL 561 _ _ _ _ _
      refine wq_goto (pc := 561) (tgt := 566) dL_law_561 (by decide) ?_
      skip
      refine wq_istore (pc := 566) (L' := [(21, _), (0, _), (1, _), (2, _), (3, _), (4, _), (5, _), (6, _), (7, _), (8, _), (10, _), (11, _), (12, _), (13, _), (14, _), (15, _), (16, _), (17, _), (18, _), (19, _), (20, _), (22, _), (23, _), (24, _)]) dL_law_566 rfl (by decide) ?_
      refine wq_iload (pc := 568) dL_law_568 rfl ?_
      refine wq_bipush (pc := 570) dL_law_570 (by decide) (by decide) ?_
      refine wq_icmp_ne (pc := 572) (tgt := 579) dL_law_572 (by decide) (by first | (unfold inR; omega) | assumption | exact hr2 _ | exact hr3 _ | exact hr4 _) (by first | (unfold inR; omega) | assumption | exact hr2 _ | exact hr3 _ | exact hr4 _) (fun c7 => ?_) (fun c9 => by exfalso; omega)
      refine wq_iconst (pc := 579) dL_law_579 ?_
      refine wq_istore (pc := 580) (L' := [(22, _), (21, _), (0, _), (1, _), (2, _), (3, _), (4, _), (5, _), (6, _), (7, _), (8, _), (10, _), (11, _), (12, _), (13, _), (14, _), (15, _), (16, _), (17, _), (18, _), (19, _), (20, _), (23, _), (24, _)]) dL_law_580 rfl (by decide) ?_
      refine wq_iload (pc := 582) dL_law_582 rfl ?_
      refine wq_if_ne (pc := 584) (tgt := 622) dL_law_584 (by decide) (by first | (unfold inR; omega) | assumption | exact hr2 _ | exact hr3 _ | exact hr4 _) (fun c => absurd c (by decide)) (fun _ => ?_)
      refine wq_iload (pc := 587) dL_law_587 rfl ?_
      refine wq_iload (pc := 589) dL_law_589 rfl ?_
      refine wq_if_ne (pc := 591) (tgt := 599) dL_law_591 (by decide) (by first | (unfold inR; omega) | assumption | exact hr2 _ | exact hr3 _ | exact hr4 _) (fun c9 => ?_) (fun c9 => ?_)
      · skip
        refine wq_iload (pc := 599) dL_law_599 rfl ?_
        refine wq_if_ne (pc := 601) (tgt := 609) dL_law_601 (by decide) (by first | (unfold inR; omega) | assumption | exact hr2 _ | exact hr3 _ | exact hr4 _) (fun c10 => ?_) (fun c10 => ?_)
        · skip
          refine wq_bipush (pc := 609) dL_law_609 (by decide) (by decide) ?_
          refine wq_icmp_ne (pc := 611) (tgt := 618) dL_law_611 (by decide) (by first | (unfold inR; omega) | assumption | exact hr2 _ | exact hr3 _ | exact hr4 _) (by first | (unfold inR; omega) | assumption | exact hr2 _ | exact hr3 _ | exact hr4 _) (fun c9 => by exfalso; omega) (fun c11 => ?_)
          refine wq_iconst (pc := 614) dL_law_614 ?_
          refine wq_goto (pc := 615) (tgt := 669) dL_law_615 (by decide) ?_
          refine wq_istore (pc := 669) (L' := [(7, _), (22, _), (21, _), (0, _), (1, _), (2, _), (3, _), (4, _), (5, _), (6, _), (8, _), (10, _), (11, _), (12, _), (13, _), (14, _), (15, _), (16, _), (17, _), (18, _), (19, _), (20, _), (23, _), (24, _)]) dL_law_669 rfl (by decide) ?_
          refine wq_iload (pc := 671) dL_law_671 rfl ?_
          refine wq_if_eq (pc := 673) (tgt := 720) dL_law_673 (by decide) (by first | (unfold inR; omega) | assumption | exact hr2 _ | exact hr3 _ | exact hr4 _) (fun _ => ?_) (fun c => absurd c (by decide))
          refine wq_goto (pc := 720) (tgt := 2040) dL_law_720 (by decide) ?_
          refine wq_sub1 (L' := [(0, _), (1, _), (2, _), (3, _), (4, _), (5, _), (6, _), (7, _), (8, _), (11, _), (22, _)]) ⟨rfl, rfl, rfl, rfl, rfl, rfl, rfl, rfl, rfl, rfl, rfl, trivial⟩ ?_
          exact H _ _ _ _ _ hE
        · skip
          refine wq_bipush (pc := 604) dL_law_604 (by decide) (by decide) ?_
          refine wq_goto (pc := 606) (tgt := 611) dL_law_606 (by decide) ?_
          refine wq_icmp_ne (pc := 611) (tgt := 618) dL_law_611 (by decide) (by first | (unfold inR; omega) | assumption | exact hr2 _ | exact hr3 _ | exact hr4 _) (by first | (unfold inR; omega) | assumption | exact hr2 _ | exact hr3 _ | exact hr4 _) (fun c9 => by exfalso; omega) (fun c13 => ?_)
          refine wq_iconst (pc := 614) dL_law_614 ?_
          refine wq_goto (pc := 615) (tgt := 669) dL_law_615 (by decide) ?_
          refine wq_istore (pc := 669) (L' := [(7, _), (22, _), (21, _), (0, _), (1, _), (2, _), (3, _), (4, _), (5, _), (6, _), (8, _), (10, _), (11, _), (12, _), (13, _), (14, _), (15, _), (16, _), (17, _), (18, _), (19, _), (20, _), (23, _), (24, _)]) dL_law_669 rfl (by decide) ?_
          refine wq_iload (pc := 671) dL_law_671 rfl ?_
          refine wq_if_eq (pc := 673) (tgt := 720) dL_law_673 (by decide) (by first | (unfold inR; omega) | assumption | exact hr2 _ | exact hr3 _ | exact hr4 _) (fun _ => ?_) (fun c => absurd c (by decide))
          refine wq_goto (pc := 720) (tgt := 2040) dL_law_720 (by decide) ?_
          refine wq_sub1 (L' := [(0, _), (1, _), (2, _), (3, _), (4, _), (5, _), (6, _), (7, _), (8, _), (11, _), (22, _)]) ⟨rfl, rfl, rfl, rfl, rfl, rfl, rfl, rfl, rfl, rfl, rfl, trivial⟩ ?_
          exact H _ _ _ _ _ hE
      · skip
        refine wq_bipush (pc := 594) dL_law_594 (by decide) (by decide) ?_
        refine wq_goto (pc := 596) (tgt := 611) dL_law_596 (by decide) ?_
        refine wq_icmp_ne (pc := 611) (tgt := 618) dL_law_611 (by decide) (by first | (unfold inR; omega) | assumption | exact hr2 _ | exact hr3 _ | exact hr4 _) (by first | (unfold inR; omega) | assumption | exact hr2 _ | exact hr3 _ | exact hr4 _) (fun c9 => by exfalso; omega) (fun c15 => ?_)
        refine wq_iconst (pc := 614) dL_law_614 ?_
        refine wq_goto (pc := 615) (tgt := 669) dL_law_615 (by decide) ?_
        refine wq_istore (pc := 669) (L' := [(7, _), (22, _), (21, _), (0, _), (1, _), (2, _), (3, _), (4, _), (5, _), (6, _), (8, _), (10, _), (11, _), (12, _), (13, _), (14, _), (15, _), (16, _), (17, _), (18, _), (19, _), (20, _), (23, _), (24, _)]) dL_law_669 rfl (by decide) ?_
        refine wq_iload (pc := 671) dL_law_671 rfl ?_
        refine wq_if_eq (pc := 673) (tgt := 720) dL_law_673 (by decide) (by first | (unfold inR; omega) | assumption | exact hr2 _ | exact hr3 _ | exact hr4 _) (fun _ => ?_) (fun c => absurd c (by decide))
        refine wq_goto (pc := 720) (tgt := 2040) dL_law_720 (by decide) ?_
        refine wq_sub1 (L' := [(0, _), (1, _), (2, _), (3, _), (4, _), (5, _), (6, _), (7, _), (8, _), (11, _), (22, _)]) ⟨rfl, rfl, rfl, rfl, rfl, rfl, rfl, rfl, rfl, rfl, rfl, trivial⟩ ?_
        exact H _ _ _ _ _ hE
    · skip
      exfalso; omega
    · skip
      exfalso; omega
    · skip
      exfalso; omega
  refine wq_aload_n (pc := 519) dL_law_519 rfl rfl ?_
  refine wq_iconst (pc := 520) dL_law_520 ?_
  refine wq_ialdX (pc := 521) dL_law_521 (by with_reducible assumption) rfl (by omega) (by omega) ?_
  refine wq_bipush (pc := 522) dL_law_522 (by decide) (by decide) ?_
  refine wq_icmp_lt (pc := 524) (tgt := 542) dL_law_524 (by decide) (by first | (unfold inR; omega) | assumption | exact hr2 _ | exact hr3 _ | exact hr4 _) (by first | (unfold inR; omega) | assumption | exact hr2 _ | exact hr3 _ | exact hr4 _) (fun c17 => ?_) (fun c17 => ?_)
  · skip
    refine wq_sub1 (L' := [(0, _), (1, _), (2, _), (3, _), (4, _), (5, _), (6, _), (7, _), (8, _), (10, _), (11, _), (12, _), (13, _), (14, _), (15, _), (16, _), (17, _), (18, _), (19, _), (20, _), (21, _), (22, _), (23, _), (24, _)]) ⟨rfl, rfl, rfl, rfl, rfl, rfl, rfl, rfl, rfl, rfl, rfl, rfl, rfl, rfl, rfl, rfl, rfl, rfl, rfl, rfl, rfl, rfl, rfl, rfl, trivial⟩ ?_
    exact cut1 (by omega)
  · skip
    refine wq_iload (pc := 527) dL_law_527 rfl ?_
    refine wq_if_eq (pc := 529) (tgt := 542) dL_law_529 (by decide) (by first | (unfold inR; omega) | assumption | exact hr2 _ | exact hr3 _ | exact hr4 _) (fun c18 => ?_) (fun c18 => ?_)
    · skip
      refine wq_sub1 (L' := [(0, _), (1, _), (2, _), (3, _), (4, _), (5, _), (6, _), (7, _), (8, _), (10, _), (11, _), (12, _), (13, _), (14, _), (15, _), (16, _), (17, _), (18, _), (19, _), (20, _), (21, _), (22, _), (23, _), (24, _)]) ⟨rfl, rfl, rfl, rfl, rfl, rfl, rfl, rfl, rfl, rfl, rfl, rfl, rfl, rfl, rfl, rfl, rfl, rfl, rfl, rfl, rfl, rfl, rfl, rfl, trivial⟩ ?_
      exact cut1 (by omega)
    · skip
      refine wq_iload (pc := 532) dL_law_532 rfl ?_
      refine wq_if_eq (pc := 534) (tgt := 542) dL_law_534 (by decide) (by first | (unfold inR; omega) | assumption | exact hr2 _ | exact hr3 _ | exact hr4 _) (fun c19 => ?_) (fun c19 => ?_)
      · skip
        refine wq_sub1 (L' := [(0, _), (1, _), (2, _), (3, _), (4, _), (5, _), (6, _), (7, _), (8, _), (10, _), (11, _), (12, _), (13, _), (14, _), (15, _), (16, _), (17, _), (18, _), (19, _), (20, _), (21, _), (22, _), (23, _), (24, _)]) ⟨rfl, rfl, rfl, rfl, rfl, rfl, rfl, rfl, rfl, rfl, rfl, rfl, rfl, rfl, rfl, rfl, rfl, rfl, rfl, rfl, rfl, rfl, rfl, rfl, trivial⟩ ?_
        exact cut1 (by omega)
      · skip
        refine wq_iload (pc := 537) dL_law_537 rfl ?_
        refine wq_if_lt (pc := 539) (tgt := 564) dL_law_539 (by decide) (by first | (unfold inR; omega) | assumption | exact hr2 _ | exact hr3 _ | exact hr4 _) (fun c20 => ?_) (fun c20 => ?_)
        · skip
          have hE := ST_t (s := t) (nb' := nb + 1) (vb' := vb + 2) hS (by omega) (by omega) (by omega) (by omega)
          refine wq_bipush (pc := 564) dL_law_564 (by decide) (by decide) ?_
          skip
          refine wq_istore (pc := 566) (L' := [(21, _), (0, _), (1, _), (2, _), (3, _), (4, _), (5, _), (6, _), (7, _), (8, _), (10, _), (11, _), (12, _), (13, _), (14, _), (15, _), (16, _), (17, _), (18, _), (19, _), (20, _), (22, _), (23, _), (24, _)]) dL_law_566 rfl (by decide) ?_
          refine wq_iload (pc := 568) dL_law_568 rfl ?_
          refine wq_bipush (pc := 570) dL_law_570 (by decide) (by decide) ?_
          refine wq_icmp_ne (pc := 572) (tgt := 579) dL_law_572 (by decide) (by first | (unfold inR; omega) | assumption | exact hr2 _ | exact hr3 _ | exact hr4 _) (by first | (unfold inR; omega) | assumption | exact hr2 _ | exact hr3 _ | exact hr4 _) (fun c21 => ?_) (fun c9 => by exfalso; omega)
          refine wq_iconst (pc := 579) dL_law_579 ?_
          refine wq_istore (pc := 580) (L' := [(22, _), (21, _), (0, _), (1, _), (2, _), (3, _), (4, _), (5, _), (6, _), (7, _), (8, _), (10, _), (11, _), (12, _), (13, _), (14, _), (15, _), (16, _), (17, _), (18, _), (19, _), (20, _), (23, _), (24, _)]) dL_law_580 rfl (by decide) ?_
          refine wq_iload (pc := 582) dL_law_582 rfl ?_
          refine wq_if_ne (pc := 584) (tgt := 622) dL_law_584 (by decide) (by first | (unfold inR; omega) | assumption | exact hr2 _ | exact hr3 _ | exact hr4 _) (fun c => absurd c (by decide)) (fun _ => ?_)
          refine wq_iload (pc := 587) dL_law_587 rfl ?_
          refine wq_iload (pc := 589) dL_law_589 rfl ?_
          refine wq_if_ne (pc := 591) (tgt := 599) dL_law_591 (by decide) (by first | (unfold inR; omega) | assumption | exact hr2 _ | exact hr3 _ | exact hr4 _) (fun c23 => ?_) (fun c23 => ?_)
          · skip
            refine wq_iload (pc := 599) dL_law_599 rfl ?_
            refine wq_if_ne (pc := 601) (tgt := 609) dL_law_601 (by decide) (by first | (unfold inR; omega) | assumption | exact hr2 _ | exact hr3 _ | exact hr4 _) (fun c24 => ?_) (fun c24 => ?_)
            · skip
              refine wq_bipush (pc := 609) dL_law_609 (by decide) (by decide) ?_
              refine wq_icmp_ne (pc := 611) (tgt := 618) dL_law_611 (by decide) (by first | (unfold inR; omega) | assumption | exact hr2 _ | exact hr3 _ | exact hr4 _) (by first | (unfold inR; omega) | assumption | exact hr2 _ | exact hr3 _ | exact hr4 _) (fun c9 => by exfalso; omega) (fun c25 => ?_)
              refine wq_iconst (pc := 614) dL_law_614 ?_
              refine wq_goto (pc := 615) (tgt := 669) dL_law_615 (by decide) ?_
              refine wq_istore (pc := 669) (L' := [(7, _), (22, _), (21, _), (0, _), (1, _), (2, _), (3, _), (4, _), (5, _), (6, _), (8, _), (10, _), (11, _), (12, _), (13, _), (14, _), (15, _), (16, _), (17, _), (18, _), (19, _), (20, _), (23, _), (24, _)]) dL_law_669 rfl (by decide) ?_
              refine wq_iload (pc := 671) dL_law_671 rfl ?_
              refine wq_if_eq (pc := 673) (tgt := 720) dL_law_673 (by decide) (by first | (unfold inR; omega) | assumption | exact hr2 _ | exact hr3 _ | exact hr4 _) (fun _ => ?_) (fun c => absurd c (by decide))
              refine wq_goto (pc := 720) (tgt := 2040) dL_law_720 (by decide) ?_
              refine wq_sub1 (L' := [(0, _), (1, _), (2, _), (3, _), (4, _), (5, _), (6, _), (7, _), (8, _), (11, _), (22, _)]) ⟨rfl, rfl, rfl, rfl, rfl, rfl, rfl, rfl, rfl, rfl, rfl, trivial⟩ ?_
              exact H _ _ _ _ _ hE
            · skip
              refine wq_bipush (pc := 604) dL_law_604 (by decide) (by decide) ?_
              refine wq_goto (pc := 606) (tgt := 611) dL_law_606 (by decide) ?_
              refine wq_icmp_ne (pc := 611) (tgt := 618) dL_law_611 (by decide) (by first | (unfold inR; omega) | assumption | exact hr2 _ | exact hr3 _ | exact hr4 _) (by first | (unfold inR; omega) | assumption | exact hr2 _ | exact hr3 _ | exact hr4 _) (fun c9 => by exfalso; omega) (fun c27 => ?_)
              refine wq_iconst (pc := 614) dL_law_614 ?_
              refine wq_goto (pc := 615) (tgt := 669) dL_law_615 (by decide) ?_
              refine wq_istore (pc := 669) (L' := [(7, _), (22, _), (21, _), (0, _), (1, _), (2, _), (3, _), (4, _), (5, _), (6, _), (8, _), (10, _), (11, _), (12, _), (13, _), (14, _), (15, _), (16, _), (17, _), (18, _), (19, _), (20, _), (23, _), (24, _)]) dL_law_669 rfl (by decide) ?_
              refine wq_iload (pc := 671) dL_law_671 rfl ?_
              refine wq_if_eq (pc := 673) (tgt := 720) dL_law_673 (by decide) (by first | (unfold inR; omega) | assumption | exact hr2 _ | exact hr3 _ | exact hr4 _) (fun _ => ?_) (fun c => absurd c (by decide))
              refine wq_goto (pc := 720) (tgt := 2040) dL_law_720 (by decide) ?_
              refine wq_sub1 (L' := [(0, _), (1, _), (2, _), (3, _), (4, _), (5, _), (6, _), (7, _), (8, _), (11, _), (22, _)]) ⟨rfl, rfl, rfl, rfl, rfl, rfl, rfl, rfl, rfl, rfl, rfl, trivial⟩ ?_
              exact H _ _ _ _ _ hE
          · skip
            refine wq_bipush (pc := 594) dL_law_594 (by decide) (by decide) ?_
            refine wq_goto (pc := 596) (tgt := 611) dL_law_596 (by decide) ?_
            refine wq_icmp_ne (pc := 611) (tgt := 618) dL_law_611 (by decide) (by first | (unfold inR; omega) | assumption | exact hr2 _ | exact hr3 _ | exact hr4 _) (by first | (unfold inR; omega) | assumption | exact hr2 _ | exact hr3 _ | exact hr4 _) (fun c9 => by exfalso; omega) (fun c29 => ?_)
            refine wq_iconst (pc := 614) dL_law_614 ?_
            refine wq_goto (pc := 615) (tgt := 669) dL_law_615 (by decide) ?_
            refine wq_istore (pc := 669) (L' := [(7, _), (22, _), (21, _), (0, _), (1, _), (2, _), (3, _), (4, _), (5, _), (6, _), (8, _), (10, _), (11, _), (12, _), (13, _), (14, _), (15, _), (16, _), (17, _), (18, _), (19, _), (20, _), (23, _), (24, _)]) dL_law_669 rfl (by decide) ?_
            refine wq_iload (pc := 671) dL_law_671 rfl ?_
            refine wq_if_eq (pc := 673) (tgt := 720) dL_law_673 (by decide) (by first | (unfold inR; omega) | assumption | exact hr2 _ | exact hr3 _ | exact hr4 _) (fun _ => ?_) (fun c => absurd c (by decide))
            refine wq_goto (pc := 720) (tgt := 2040) dL_law_720 (by decide) ?_
            refine wq_sub1 (L' := [(0, _), (1, _), (2, _), (3, _), (4, _), (5, _), (6, _), (7, _), (8, _), (11, _), (22, _)]) ⟨rfl, rfl, rfl, rfl, rfl, rfl, rfl, rfl, rfl, rfl, rfl, trivial⟩ ?_
            exact H _ _ _ _ _ hE
        · skip
          refine wq_sub1 (L' := [(0, _), (1, _), (2, _), (3, _), (4, _), (5, _), (6, _), (7, _), (8, _), (10, _), (11, _), (12, _), (13, _), (14, _), (15, _), (16, _), (17, _), (18, _), (19, _), (20, _), (21, _), (22, _), (23, _), (24, _)]) ⟨rfl, rfl, rfl, rfl, rfl, rfl, rfl, rfl, rfl, rfl, rfl, rfl, rfl, rfl, rfl, rfl, rfl, rfl, rfl, rfl, rfl, rfl, rfl, rfl, trivial⟩ ?_
          exact cut1 (by omega)
theorem lw_cy0 {μ : nMem} {ε : nEnv} {Q : nOut → nMem → nEnv → Prop} {N : Int} {A : AS} {nb vb : Int} {t : Nat} {X : nMem} {turn kd y d d2 nm nm2 f s b a fr : Int} (hS : ST N A nb vb (t + 1) X μ ε 0) (hnb : nb + 1 ≤ 490) (hvb : vb + 2 ≤ 4000) (hvb0 : 0 ≤ vb) (hn2 : 2 ≤ nb) (ry : 0 ≤ y ∧ y ≤ 2147483647) (ht : 0 ≤ turn ∧ turn < 120) (hF : LF A X d d2 nm nm2 f s b a fr) (H : ∀ A1 X1 m e w, ST N A1 (nb + 1) (vb + 2) t X1 m e w → wpL 2040 [(0, vR (-1)), (1, vR 1), (2, vR 21), (3, vR 22), (4, vR 23), (5, vR 24), (6, vR 25), (7, vI 1), (8, vI turn), (11, vI y), (22, vI w)] [] m e Q) (hc : b = 1 ∧ 0 < nm ∧ a < 0 ∧ X 21 0 < 14) : wpL 519 [(0, vR (-1)), (1, vR 1), (2, vR 21), (3, vR 22), (4, vR 23), (5, vR 24), (6, vR 25), (7, vI 1), (8, vI turn), (10, vI kd), (11, vI y), (12, vI d), (13, vI d2), (14, vI nm), (15, vI nm2), (16, vI f), (17, vI s), (18, vI b), (19, vI a), (20, vI fr), (21, vI 0), (22, vI 0), (23, vI 0), (24, vI 1)] [] μ ε Q := by
  obtain ⟨⟨hW, hG, hX, hi⟩, ⟨hD, hJ, hV, hZ⟩, fl, SS, hP, hTS⟩ := ST_0 hS
  obtain ⟨f1, f2, f3, f4, f5, f6, f7, f8, f9⟩ := id hF
  obtain ⟨⟨⟨hn0, hn15⟩, ⟨hm0, hm8⟩, hr2, hr3, hr4⟩, hn14, hm7⟩ := id hX
  have hs9 := GA_slot hG f
  have ha9 := GA_find hG d nm
  rw [← f7] at hs9
  rw [← f8] at ha9
  have hfr9 := (frN_le A).2
  rw [← f9] at hfr9
  clear f7 f8 f9
  refine wq_aload_n (pc := 519) dL_law_519 rfl rfl ?_
  refine wq_iconst (pc := 520) dL_law_520 ?_
  refine wq_ialdX (pc := 521) dL_law_521 (by with_reducible assumption) rfl (by omega) (by omega) ?_
  refine wq_bipush (pc := 522) dL_law_522 (by decide) (by decide) ?_
  refine wq_icmp_lt (pc := 524) (tgt := 542) dL_law_524 (by decide) (by first | (unfold inR; omega) | assumption | exact hr2 _ | exact hr3 _ | exact hr4 _) (by first | (unfold inR; omega) | assumption | exact hr2 _ | exact hr3 _ | exact hr4 _) (fun c1 => ?_) (fun c9 => by exfalso; omega)
  refine wq_aload_n (pc := 542) dL_law_542 rfl rfl ?_
  refine wq_iload (pc := 543) dL_law_543 rfl ?_
  refine wq_if_eq (pc := 545) (tgt := 552) dL_law_545 (by decide) (by first | (unfold inR; omega) | assumption | exact hr2 _ | exact hr3 _ | exact hr4 _) (fun _ => ?_) (fun c => absurd c (by decide))
  refine wq_iconst (pc := 552) dL_law_552 ?_
  refine wq_iload (pc := 553) dL_law_553 rfl ?_
  refine wq_iload (pc := 555) dL_law_555 rfl ?_
  refine wq_iconst (pc := 557) dL_law_557 ?_
  refine cW_5 (pc := 558) dL_law_558 (cw_L_85 _ rfl) ⟨by decide, by decide⟩ (Nat.le_of_ble_eq_true rfl) (qc_makeDirectory hS hnb hvb hF (fun r mm ee hE hr => ?_) (fun mm ee hE hr => ?_) (fun A1 mm ee hE hr => ?_) (fun A1 r mm ee W hr hl hJA hz => ?_))
  · skip
    exfalso; omega
  · skip
    show wpL 561 _ _ _ _ _
    refine wq_goto (pc := 561) (tgt := 566) dL_law_561 (by decide) ?_
    refine wq_istore (pc := 566) (L' := [(21, _), (0, _), (1, _), (2, _), (3, _), (4, _), (5, _), (6, _), (7, _), (8, _), (10, _), (11, _), (12, _), (13, _), (14, _), (15, _), (16, _), (17, _), (18, _), (19, _), (20, _), (22, _), (23, _), (24, _)]) dL_law_566 rfl (by decide) ?_
    refine wq_iload (pc := 568) dL_law_568 rfl ?_
    refine wq_bipush (pc := 570) dL_law_570 (by decide) (by decide) ?_
    refine wq_icmp_ne (pc := 572) (tgt := 579) dL_law_572 (by decide) (by first | (unfold inR; omega) | assumption | exact hr2 _ | exact hr3 _ | exact hr4 _) (by first | (unfold inR; omega) | assumption | exact hr2 _ | exact hr3 _ | exact hr4 _) (fun _ => ?_) (fun c9 => by exfalso; omega)
    refine wq_iconst (pc := 579) dL_law_579 ?_
    refine wq_istore (pc := 580) (L' := [(22, _), (21, _), (0, _), (1, _), (2, _), (3, _), (4, _), (5, _), (6, _), (7, _), (8, _), (10, _), (11, _), (12, _), (13, _), (14, _), (15, _), (16, _), (17, _), (18, _), (19, _), (20, _), (23, _), (24, _)]) dL_law_580 rfl (by decide) ?_
    refine wq_iload (pc := 582) dL_law_582 rfl ?_
    refine wq_if_ne (pc := 584) (tgt := 622) dL_law_584 (by decide) (by first | (unfold inR; omega) | assumption | exact hr2 _ | exact hr3 _ | exact hr4 _) (fun _ => ?_) (fun c => absurd c (by decide))
    refine wq_iload (pc := 622) dL_law_622 rfl ?_
    refine wq_iconst (pc := 624) dL_law_624 ?_
    refine wq_icmp_le (pc := 625) (tgt := 646) dL_law_625 (by decide) (by first | (unfold inR; omega) | assumption | exact hr2 _ | exact hr3 _ | exact hr4 _) (by first | (unfold inR; omega) | assumption | exact hr2 _ | exact hr3 _ | exact hr4 _) (fun _ => ?_) (fun c9 => by exfalso; omega)
    refine wq_iload (pc := 646) dL_law_646 rfl ?_
    refine wq_if_ne (pc := 648) (tgt := 664) dL_law_648 (by decide) (by first | (unfold inR; omega) | assumption | exact hr2 _ | exact hr3 _ | exact hr4 _) (fun c => absurd c (by decide)) (fun _ => ?_)
    refine wq_iload (pc := 651) dL_law_651 rfl ?_
    refine wq_bipush (pc := 653) dL_law_653 (by decide) (by decide) ?_
    refine wq_icmp_ne (pc := 655) (tgt := 668) dL_law_655 (by decide) (by first | (unfold inR; omega) | assumption | exact hr2 _ | exact hr3 _ | exact hr4 _) (by first | (unfold inR; omega) | assumption | exact hr2 _ | exact hr3 _ | exact hr4 _) (fun c9 => by exfalso; omega) (fun _ => ?_)
    refine wq_iload (pc := 658) dL_law_658 rfl ?_
    refine wq_iconst (pc := 660) dL_law_660 ?_
    refine wq_icmp_ge (pc := 661) (tgt := 668) dL_law_661 (by decide) (by first | (unfold inR; omega) | assumption | exact hr2 _ | exact hr3 _ | exact hr4 _) (by first | (unfold inR; omega) | assumption | exact hr2 _ | exact hr3 _ | exact hr4 _) (fun c9 => by exfalso; omega) (fun c12 => ?_)
    refine wq_iconst (pc := 664) dL_law_664 ?_
    refine wq_goto (pc := 665) (tgt := 669) dL_law_665 (by decide) ?_
    refine wq_istore (pc := 669) (L' := [(7, _), (22, _), (21, _), (0, _), (1, _), (2, _), (3, _), (4, _), (5, _), (6, _), (8, _), (10, _), (11, _), (12, _), (13, _), (14, _), (15, _), (16, _), (17, _), (18, _), (19, _), (20, _), (23, _), (24, _)]) dL_law_669 rfl (by decide) ?_
    refine wq_iload (pc := 671) dL_law_671 rfl ?_
    refine wq_if_eq (pc := 673) (tgt := 720) dL_law_673 (by decide) (by first | (unfold inR; omega) | assumption | exact hr2 _ | exact hr3 _ | exact hr4 _) (fun c => absurd c (by decide)) (fun _ => ?_)
    refine wq_iload (pc := 676) dL_law_676 rfl ?_
    refine wq_iconst (pc := 678) dL_law_678 ?_
    refine wq_icmp_le (pc := 679) (tgt := 720) dL_law_679 (by decide) (by first | (unfold inR; omega) | assumption | exact hr2 _ | exact hr3 _ | exact hr4 _) (by first | (unfold inR; omega) | assumption | exact hr2 _ | exact hr3 _ | exact hr4 _) (fun _ => ?_) (fun c9 => by exfalso; omega)
    refine wq_goto (pc := 720) (tgt := 2040) dL_law_720 (by decide) ?_
    refine wq_sub1 (L' := [(0, _), (1, _), (2, _), (3, _), (4, _), (5, _), (6, _), (7, _), (8, _), (11, _), (22, _)]) ⟨rfl, rfl, rfl, rfl, rfl, rfl, rfl, rfl, rfl, rfl, rfl, trivial⟩ ?_
    exact H _ _ _ _ _ hE
  · skip
    show wpL 561 _ _ _ _ _
    refine wq_goto (pc := 561) (tgt := 566) dL_law_561 (by decide) ?_
    refine wq_istore (pc := 566) (L' := [(21, _), (0, _), (1, _), (2, _), (3, _), (4, _), (5, _), (6, _), (7, _), (8, _), (10, _), (11, _), (12, _), (13, _), (14, _), (15, _), (16, _), (17, _), (18, _), (19, _), (20, _), (22, _), (23, _), (24, _)]) dL_law_566 rfl (by decide) ?_
    refine wq_iload (pc := 568) dL_law_568 rfl ?_
    refine wq_bipush (pc := 570) dL_law_570 (by decide) (by decide) ?_
    refine wq_icmp_ne (pc := 572) (tgt := 579) dL_law_572 (by decide) (by first | (unfold inR; omega) | assumption | exact hr2 _ | exact hr3 _ | exact hr4 _) (by first | (unfold inR; omega) | assumption | exact hr2 _ | exact hr3 _ | exact hr4 _) (fun c9 => by exfalso; omega) (fun _ => ?_)
    refine wq_iconst (pc := 575) dL_law_575 ?_
    refine wq_goto (pc := 576) (tgt := 580) dL_law_576 (by decide) ?_
    refine wq_istore (pc := 580) (L' := [(22, _), (21, _), (0, _), (1, _), (2, _), (3, _), (4, _), (5, _), (6, _), (7, _), (8, _), (10, _), (11, _), (12, _), (13, _), (14, _), (15, _), (16, _), (17, _), (18, _), (19, _), (20, _), (23, _), (24, _)]) dL_law_580 rfl (by decide) ?_
    refine wq_iload (pc := 582) dL_law_582 rfl ?_
    refine wq_if_ne (pc := 584) (tgt := 622) dL_law_584 (by decide) (by first | (unfold inR; omega) | assumption | exact hr2 _ | exact hr3 _ | exact hr4 _) (fun _ => ?_) (fun c => absurd c (by decide))
    refine wq_iload (pc := 622) dL_law_622 rfl ?_
    refine wq_iconst (pc := 624) dL_law_624 ?_
    refine wq_icmp_le (pc := 625) (tgt := 646) dL_law_625 (by decide) (by first | (unfold inR; omega) | assumption | exact hr2 _ | exact hr3 _ | exact hr4 _) (by first | (unfold inR; omega) | assumption | exact hr2 _ | exact hr3 _ | exact hr4 _) (fun _ => ?_) (fun c9 => by exfalso; omega)
    refine wq_iload (pc := 646) dL_law_646 rfl ?_
    refine wq_if_ne (pc := 648) (tgt := 664) dL_law_648 (by decide) (by first | (unfold inR; omega) | assumption | exact hr2 _ | exact hr3 _ | exact hr4 _) (fun _ => ?_) (fun c => absurd c (by decide))
    refine wq_iconst (pc := 664) dL_law_664 ?_
    refine wq_goto (pc := 665) (tgt := 669) dL_law_665 (by decide) ?_
    refine wq_istore (pc := 669) (L' := [(7, _), (22, _), (21, _), (0, _), (1, _), (2, _), (3, _), (4, _), (5, _), (6, _), (8, _), (10, _), (11, _), (12, _), (13, _), (14, _), (15, _), (16, _), (17, _), (18, _), (19, _), (20, _), (23, _), (24, _)]) dL_law_669 rfl (by decide) ?_
    refine wq_iload (pc := 671) dL_law_671 rfl ?_
    refine wq_if_eq (pc := 673) (tgt := 720) dL_law_673 (by decide) (by first | (unfold inR; omega) | assumption | exact hr2 _ | exact hr3 _ | exact hr4 _) (fun c => absurd c (by decide)) (fun _ => ?_)
    refine wq_iload (pc := 676) dL_law_676 rfl ?_
    refine wq_iconst (pc := 678) dL_law_678 ?_
    refine wq_icmp_le (pc := 679) (tgt := 720) dL_law_679 (by decide) (by first | (unfold inR; omega) | assumption | exact hr2 _ | exact hr3 _ | exact hr4 _) (by first | (unfold inR; omega) | assumption | exact hr2 _ | exact hr3 _ | exact hr4 _) (fun _ => ?_) (fun c9 => by exfalso; omega)
    refine wq_goto (pc := 720) (tgt := 2040) dL_law_720 (by decide) ?_
    refine wq_sub1 (L' := [(0, _), (1, _), (2, _), (3, _), (4, _), (5, _), (6, _), (7, _), (8, _), (11, _), (22, _)]) ⟨rfl, rfl, rfl, rfl, rfl, rfl, rfl, rfl, rfl, rfl, rfl, trivial⟩ ?_
    exact H _ _ _ _ _ hE
  · skip
    show wpL 561 _ _ _ _ _
    refine wq_goto (pc := 561) (tgt := 566) dL_law_561 (by decide) ?_
    refine wq_istore (pc := 566) (L' := [(21, _), (0, _), (1, _), (2, _), (3, _), (4, _), (5, _), (6, _), (7, _), (8, _), (10, _), (11, _), (12, _), (13, _), (14, _), (15, _), (16, _), (17, _), (18, _), (19, _), (20, _), (22, _), (23, _), (24, _)]) dL_law_566 rfl (by decide) ?_
    refine wq_iload (pc := 568) dL_law_568 rfl ?_
    refine wq_bipush (pc := 570) dL_law_570 (by decide) (by decide) ?_
    refine wq_icmp_ne (pc := 572) (tgt := 579) dL_law_572 (by decide) (by first | (unfold inR; omega) | assumption | exact hr2 _ | exact hr3 _ | exact hr4 _) (by first | (unfold inR; omega) | assumption | exact hr2 _ | exact hr3 _ | exact hr4 _) (fun c21 => ?_) (fun c9 => by exfalso; omega)
    refine wq_iconst (pc := 579) dL_law_579 ?_
    refine wq_istore (pc := 580) (L' := [(22, _), (21, _), (0, _), (1, _), (2, _), (3, _), (4, _), (5, _), (6, _), (7, _), (8, _), (10, _), (11, _), (12, _), (13, _), (14, _), (15, _), (16, _), (17, _), (18, _), (19, _), (20, _), (23, _), (24, _)]) dL_law_580 rfl (by decide) ?_
    refine wq_iload (pc := 582) dL_law_582 rfl ?_
    refine wq_if_ne (pc := 584) (tgt := 622) dL_law_584 (by decide) (by first | (unfold inR; omega) | assumption | exact hr2 _ | exact hr3 _ | exact hr4 _) (fun _ => ?_) (fun c => absurd c (by decide))
    refine wq_iload (pc := 622) dL_law_622 rfl ?_
    refine wq_iconst (pc := 624) dL_law_624 ?_
    refine wq_icmp_le (pc := 625) (tgt := 646) dL_law_625 (by decide) (by first | (unfold inR; omega) | assumption | exact hr2 _ | exact hr3 _ | exact hr4 _) (by first | (unfold inR; omega) | assumption | exact hr2 _ | exact hr3 _ | exact hr4 _) (fun c9 => by exfalso; omega) (fun c23 => ?_)
    refine wq_iload (pc := 628) dL_law_628 rfl ?_
    refine wq_sipush (pc := 630) dL_law_630 (by decide) (by decide) ?_
    refine wq_icmp_eq (pc := 633) (tgt := 646) dL_law_633 (by decide) (by first | (unfold inR; omega) | assumption | exact hr2 _ | exact hr3 _ | exact hr4 _) (by first | (unfold inR; omega) | assumption | exact hr2 _ | exact hr3 _ | exact hr4 _) (fun c9 => by exfalso; omega) (fun c24 => ?_)
    refine wq_aload_n (pc := 636) dL_law_636 rfl rfl ?_
    refine wq_aload_n (pc := 637) dL_law_637 rfl rfl ?_
    refine wq_iload (pc := 638) dL_law_638 rfl ?_
    refine lS_3 (pc := 640) dL_law_640 (cw_L_13 _ rfl) ⟨by decide, by decide⟩ (Nat.le_of_ble_eq_true rfl) (sW_links W hX.1 (by unfold inR; omega) ?_)
    show wpL 643 _ _ _ _ _
    refine wq_if_eq (pc := 643) (tgt := 664) dL_law_643 (by decide) (by first | (unfold inR; omega) | assumption | exact hr2 _ | exact hr3 _ | exact hr4 _) (fun c25 => ?_) (fun c9 => by exfalso; omega)
    refine wq_iconst (pc := 664) dL_law_664 ?_
    refine wq_goto (pc := 665) (tgt := 669) dL_law_665 (by decide) ?_
    refine wq_istore (pc := 669) (L' := [(7, _), (22, _), (21, _), (0, _), (1, _), (2, _), (3, _), (4, _), (5, _), (6, _), (8, _), (10, _), (11, _), (12, _), (13, _), (14, _), (15, _), (16, _), (17, _), (18, _), (19, _), (20, _), (23, _), (24, _)]) dL_law_669 rfl (by decide) ?_
    refine wq_iload (pc := 671) dL_law_671 rfl ?_
    refine wq_if_eq (pc := 673) (tgt := 720) dL_law_673 (by decide) (by first | (unfold inR; omega) | assumption | exact hr2 _ | exact hr3 _ | exact hr4 _) (fun c => absurd c (by decide)) (fun _ => ?_)
    refine wq_iload (pc := 676) dL_law_676 rfl ?_
    refine wq_iconst (pc := 678) dL_law_678 ?_
    refine wq_icmp_le (pc := 679) (tgt := 720) dL_law_679 (by decide) (by first | (unfold inR; omega) | assumption | exact hr2 _ | exact hr3 _ | exact hr4 _) (by first | (unfold inR; omega) | assumption | exact hr2 _ | exact hr3 _ | exact hr4 _) (fun c9 => by exfalso; omega) (fun c27 => ?_)
    refine wq_aload_n (pc := 682) dL_law_682 rfl rfl ?_
    refine wq_aload_n (pc := 683) dL_law_683 rfl rfl ?_
    refine wq_iload (pc := 684) dL_law_684 rfl ?_
    refine wq_iload (pc := 686) dL_law_686 rfl ?_
    refine wq_iload (pc := 688) dL_law_688 rfl ?_
    refine wq_iload (pc := 690) dL_law_690 rfl ?_
    refine wq_if_eq (pc := 692) (tgt := 699) dL_law_692 (by decide) (by first | (unfold inR; omega) | assumption | exact hr2 _ | exact hr3 _ | exact hr4 _) (fun _ => ?_) (fun c => absurd c (by decide))
    refine wq_iconst (pc := 699) dL_law_699 ?_
    refine lS_6 (pc := 700) dL_law_700 (cw_L_123 _ rfl) ⟨by decide, by decide⟩ (Nat.le_of_ble_eq_true rfl) (sW_adds W (by omega) (by omega) (fun X1 W1 ad im1 => ?_))
    show wpL 703 _ _ _ _ _
    obtain ⟨ad1, ad2, ad3, ad4⟩ := id ad
    have hE := ST_i W1 (hJA _ ad) ⟨LX_ad ad hX.1 (by omega) (by unfold inR; omega) (by unfold inR; omega) (by unfold inR; omega) (by unfold inR; omega), by omega, by omega⟩ hz.1 hz.2 (fun j => by rw [im1]; exact hi j)
    refine wq_iload (pc := 703) dL_law_703 rfl ?_
    refine wq_if_eq (pc := 705) (tgt := 720) dL_law_705 (by decide) (by first | (unfold inR; omega) | assumption | exact hr2 _ | exact hr3 _ | exact hr4 _) (fun _ => ?_) (fun c => absurd c (by decide))
    refine wq_goto (pc := 720) (tgt := 2040) dL_law_720 (by decide) ?_
    refine wq_sub1 (L' := [(0, _), (1, _), (2, _), (3, _), (4, _), (5, _), (6, _), (7, _), (8, _), (11, _), (22, _)]) ⟨rfl, rfl, rfl, rfl, rfl, rfl, rfl, rfl, rfl, rfl, rfl, trivial⟩ ?_
    exact H _ _ _ _ _ hE
theorem lw_cn0 {μ : nMem} {ε : nEnv} {Q : nOut → nMem → nEnv → Prop} {N : Int} {A : AS} {nb vb : Int} {t : Nat} {X : nMem} {turn kd y d d2 nm nm2 f s b a fr : Int} (hS : ST N A nb vb (t + 1) X μ ε 0) (hnb : nb + 1 ≤ 490) (hvb : vb + 2 ≤ 4000) (hvb0 : 0 ≤ vb) (hn2 : 2 ≤ nb) (ry : 0 ≤ y ∧ y ≤ 2147483647) (ht : 0 ≤ turn ∧ turn < 120) (hF : LF A X d d2 nm nm2 f s b a fr) (H : ∀ A1 X1 m e w, ST N A1 (nb + 1) (vb + 2) t X1 m e w → wpL 2040 [(0, vR (-1)), (1, vR 1), (2, vR 21), (3, vR 22), (4, vR 23), (5, vR 24), (6, vR 25), (7, vI 1), (8, vI turn), (11, vI y), (22, vI w)] [] m e Q) (hc : ¬ (b = 1 ∧ 0 < nm ∧ a < 0 ∧ X 21 0 < 14)) : wpL 519 [(0, vR (-1)), (1, vR 1), (2, vR 21), (3, vR 22), (4, vR 23), (5, vR 24), (6, vR 25), (7, vI 1), (8, vI turn), (10, vI kd), (11, vI y), (12, vI d), (13, vI d2), (14, vI nm), (15, vI nm2), (16, vI f), (17, vI s), (18, vI b), (19, vI a), (20, vI fr), (21, vI 0), (22, vI 0), (23, vI 0), (24, vI 0)] [] μ ε Q := by
  obtain ⟨⟨hW, hG, hX, hi⟩, ⟨hD, hJ, hV, hZ⟩, fl, SS, hP, hTS⟩ := ST_0 hS
  obtain ⟨f1, f2, f3, f4, f5, f6, f7, f8, f9⟩ := id hF
  obtain ⟨⟨⟨hn0, hn15⟩, ⟨hm0, hm8⟩, hr2, hr3, hr4⟩, hn14, hm7⟩ := id hX
  have hs9 := GA_slot hG f
  have ha9 := GA_find hG d nm
  rw [← f7] at hs9
  rw [← f8] at ha9
  have hfr9 := (frN_le A).2
  rw [← f9] at hfr9
  clear f7 f8 f9
  have cut1 : (¬ (b = 1 ∧ 0 < nm ∧ a < 0)) → wpL 542 [(0, vR (-1)), (1, vR 1), (2, vR 21), (3, vR 22), (4, vR 23), (5, vR 24), (6, vR 25), (7, vI 1), (8, vI turn), (10, vI kd), (11, vI y), (12, vI d), (13, vI d2), (14, vI nm), (15, vI nm2), (16, vI f), (17, vI s), (18, vI b), (19, vI a), (20, vI fr), (21, vI 0), (22, vI 0), (23, vI 0), (24, vI 0)] [] μ ε Q := by
    intro e0
    refine wq_aload_n (pc := 542) dL_law_542 rfl rfl ?_
    refine wq_iload (pc := 543) dL_law_543 rfl ?_
    refine wq_if_eq (pc := 545) (tgt := 552) dL_law_545 (by decide) (by first | (unfold inR; omega) | assumption | exact hr2 _ | exact hr3 _ | exact hr4 _) (fun _ => ?_) (fun c => absurd c (by decide))
    refine wq_iconst (pc := 552) dL_law_552 ?_
    refine wq_iload (pc := 553) dL_law_553 rfl ?_
    refine wq_iload (pc := 555) dL_law_555 rfl ?_
    refine wq_iconst (pc := 557) dL_law_557 ?_
    refine cW_5 (pc := 558) dL_law_558 (cw_L_85 _ rfl) ⟨by decide, by decide⟩ (Nat.le_of_ble_eq_true rfl) (qc_makeDirectory hS hnb hvb hF (fun r mm ee hE hr => ?_) (fun mm ee hE hr => ?_) (fun A1 mm ee hE hr => ?_) (fun A1 r mm ee W hr hl hJA hz => ?_))
    · skip
      show wpL 561 _ _ _ _ _
      refine wq_goto (pc := 561) (tgt := 566) dL_law_561 (by decide) ?_
      skip
      refine wq_istore (pc := 566) (L' := [(21, _), (0, _), (1, _), (2, _), (3, _), (4, _), (5, _), (6, _), (7, _), (8, _), (10, _), (11, _), (12, _), (13, _), (14, _), (15, _), (16, _), (17, _), (18, _), (19, _), (20, _), (22, _), (23, _), (24, _)]) dL_law_566 rfl (by decide) ?_
      refine wq_iload (pc := 568) dL_law_568 rfl ?_
      refine wq_bipush (pc := 570) dL_law_570 (by decide) (by decide) ?_
      refine wq_icmp_ne (pc := 572) (tgt := 579) dL_law_572 (by decide) (by first | (unfold inR; omega) | assumption | exact hr2 _ | exact hr3 _ | exact hr4 _) (by first | (unfold inR; omega) | assumption | exact hr2 _ | exact hr3 _ | exact hr4 _) (fun c7 => ?_) (fun c9 => by exfalso; omega)
      refine wq_iconst (pc := 579) dL_law_579 ?_
      refine wq_istore (pc := 580) (L' := [(22, _), (21, _), (0, _), (1, _), (2, _), (3, _), (4, _), (5, _), (6, _), (7, _), (8, _), (10, _), (11, _), (12, _), (13, _), (14, _), (15, _), (16, _), (17, _), (18, _), (19, _), (20, _), (23, _), (24, _)]) dL_law_580 rfl (by decide) ?_
      refine wq_iload (pc := 582) dL_law_582 rfl ?_
      refine wq_if_ne (pc := 584) (tgt := 622) dL_law_584 (by decide) (by first | (unfold inR; omega) | assumption | exact hr2 _ | exact hr3 _ | exact hr4 _) (fun c => absurd c (by decide)) (fun _ => ?_)
      refine wq_iload (pc := 587) dL_law_587 rfl ?_
      refine wq_iload (pc := 589) dL_law_589 rfl ?_
      refine wq_if_ne (pc := 591) (tgt := 599) dL_law_591 (by decide) (by first | (unfold inR; omega) | assumption | exact hr2 _ | exact hr3 _ | exact hr4 _) (fun c9 => ?_) (fun c9 => ?_)
      · skip
        refine wq_iload (pc := 599) dL_law_599 rfl ?_
        refine wq_if_ne (pc := 601) (tgt := 609) dL_law_601 (by decide) (by first | (unfold inR; omega) | assumption | exact hr2 _ | exact hr3 _ | exact hr4 _) (fun c10 => ?_) (fun c10 => ?_)
        · skip
          refine wq_bipush (pc := 609) dL_law_609 (by decide) (by decide) ?_
          refine wq_icmp_ne (pc := 611) (tgt := 618) dL_law_611 (by decide) (by first | (unfold inR; omega) | assumption | exact hr2 _ | exact hr3 _ | exact hr4 _) (by first | (unfold inR; omega) | assumption | exact hr2 _ | exact hr3 _ | exact hr4 _) (fun c9 => by exfalso; omega) (fun c11 => ?_)
          refine wq_iconst (pc := 614) dL_law_614 ?_
          refine wq_goto (pc := 615) (tgt := 669) dL_law_615 (by decide) ?_
          refine wq_istore (pc := 669) (L' := [(7, _), (22, _), (21, _), (0, _), (1, _), (2, _), (3, _), (4, _), (5, _), (6, _), (8, _), (10, _), (11, _), (12, _), (13, _), (14, _), (15, _), (16, _), (17, _), (18, _), (19, _), (20, _), (23, _), (24, _)]) dL_law_669 rfl (by decide) ?_
          refine wq_iload (pc := 671) dL_law_671 rfl ?_
          refine wq_if_eq (pc := 673) (tgt := 720) dL_law_673 (by decide) (by first | (unfold inR; omega) | assumption | exact hr2 _ | exact hr3 _ | exact hr4 _) (fun _ => ?_) (fun c => absurd c (by decide))
          refine wq_goto (pc := 720) (tgt := 2040) dL_law_720 (by decide) ?_
          refine wq_sub1 (L' := [(0, _), (1, _), (2, _), (3, _), (4, _), (5, _), (6, _), (7, _), (8, _), (11, _), (22, _)]) ⟨rfl, rfl, rfl, rfl, rfl, rfl, rfl, rfl, rfl, rfl, rfl, trivial⟩ ?_
          exact H _ _ _ _ _ hE
        · skip
          refine wq_bipush (pc := 604) dL_law_604 (by decide) (by decide) ?_
          refine wq_goto (pc := 606) (tgt := 611) dL_law_606 (by decide) ?_
          refine wq_icmp_ne (pc := 611) (tgt := 618) dL_law_611 (by decide) (by first | (unfold inR; omega) | assumption | exact hr2 _ | exact hr3 _ | exact hr4 _) (by first | (unfold inR; omega) | assumption | exact hr2 _ | exact hr3 _ | exact hr4 _) (fun c9 => by exfalso; omega) (fun c13 => ?_)
          refine wq_iconst (pc := 614) dL_law_614 ?_
          refine wq_goto (pc := 615) (tgt := 669) dL_law_615 (by decide) ?_
          refine wq_istore (pc := 669) (L' := [(7, _), (22, _), (21, _), (0, _), (1, _), (2, _), (3, _), (4, _), (5, _), (6, _), (8, _), (10, _), (11, _), (12, _), (13, _), (14, _), (15, _), (16, _), (17, _), (18, _), (19, _), (20, _), (23, _), (24, _)]) dL_law_669 rfl (by decide) ?_
          refine wq_iload (pc := 671) dL_law_671 rfl ?_
          refine wq_if_eq (pc := 673) (tgt := 720) dL_law_673 (by decide) (by first | (unfold inR; omega) | assumption | exact hr2 _ | exact hr3 _ | exact hr4 _) (fun _ => ?_) (fun c => absurd c (by decide))
          refine wq_goto (pc := 720) (tgt := 2040) dL_law_720 (by decide) ?_
          refine wq_sub1 (L' := [(0, _), (1, _), (2, _), (3, _), (4, _), (5, _), (6, _), (7, _), (8, _), (11, _), (22, _)]) ⟨rfl, rfl, rfl, rfl, rfl, rfl, rfl, rfl, rfl, rfl, rfl, trivial⟩ ?_
          exact H _ _ _ _ _ hE
      · skip
        refine wq_bipush (pc := 594) dL_law_594 (by decide) (by decide) ?_
        refine wq_goto (pc := 596) (tgt := 611) dL_law_596 (by decide) ?_
        refine wq_icmp_ne (pc := 611) (tgt := 618) dL_law_611 (by decide) (by first | (unfold inR; omega) | assumption | exact hr2 _ | exact hr3 _ | exact hr4 _) (by first | (unfold inR; omega) | assumption | exact hr2 _ | exact hr3 _ | exact hr4 _) (fun c9 => by exfalso; omega) (fun c15 => ?_)
        refine wq_iconst (pc := 614) dL_law_614 ?_
        refine wq_goto (pc := 615) (tgt := 669) dL_law_615 (by decide) ?_
        refine wq_istore (pc := 669) (L' := [(7, _), (22, _), (21, _), (0, _), (1, _), (2, _), (3, _), (4, _), (5, _), (6, _), (8, _), (10, _), (11, _), (12, _), (13, _), (14, _), (15, _), (16, _), (17, _), (18, _), (19, _), (20, _), (23, _), (24, _)]) dL_law_669 rfl (by decide) ?_
        refine wq_iload (pc := 671) dL_law_671 rfl ?_
        refine wq_if_eq (pc := 673) (tgt := 720) dL_law_673 (by decide) (by first | (unfold inR; omega) | assumption | exact hr2 _ | exact hr3 _ | exact hr4 _) (fun _ => ?_) (fun c => absurd c (by decide))
        refine wq_goto (pc := 720) (tgt := 2040) dL_law_720 (by decide) ?_
        refine wq_sub1 (L' := [(0, _), (1, _), (2, _), (3, _), (4, _), (5, _), (6, _), (7, _), (8, _), (11, _), (22, _)]) ⟨rfl, rfl, rfl, rfl, rfl, rfl, rfl, rfl, rfl, rfl, rfl, trivial⟩ ?_
        exact H _ _ _ _ _ hE
    · skip
      exfalso; omega
    · skip
      exfalso; omega
    · skip
      exfalso; omega
  refine wq_aload_n (pc := 519) dL_law_519 rfl rfl ?_
  refine wq_iconst (pc := 520) dL_law_520 ?_
  refine wq_ialdX (pc := 521) dL_law_521 (by with_reducible assumption) rfl (by omega) (by omega) ?_
  refine wq_bipush (pc := 522) dL_law_522 (by decide) (by decide) ?_
  refine wq_icmp_lt (pc := 524) (tgt := 542) dL_law_524 (by decide) (by first | (unfold inR; omega) | assumption | exact hr2 _ | exact hr3 _ | exact hr4 _) (by first | (unfold inR; omega) | assumption | exact hr2 _ | exact hr3 _ | exact hr4 _) (fun c17 => ?_) (fun c17 => ?_)
  · skip
    refine wq_sub1 (L' := [(0, _), (1, _), (2, _), (3, _), (4, _), (5, _), (6, _), (7, _), (8, _), (10, _), (11, _), (12, _), (13, _), (14, _), (15, _), (16, _), (17, _), (18, _), (19, _), (20, _), (21, _), (22, _), (23, _), (24, _)]) ⟨rfl, rfl, rfl, rfl, rfl, rfl, rfl, rfl, rfl, rfl, rfl, rfl, rfl, rfl, rfl, rfl, rfl, rfl, rfl, rfl, rfl, rfl, rfl, rfl, trivial⟩ ?_
    exact cut1 (by omega)
  · skip
    refine wq_iload (pc := 527) dL_law_527 rfl ?_
    refine wq_if_eq (pc := 529) (tgt := 542) dL_law_529 (by decide) (by first | (unfold inR; omega) | assumption | exact hr2 _ | exact hr3 _ | exact hr4 _) (fun c18 => ?_) (fun c18 => ?_)
    · skip
      refine wq_sub1 (L' := [(0, _), (1, _), (2, _), (3, _), (4, _), (5, _), (6, _), (7, _), (8, _), (10, _), (11, _), (12, _), (13, _), (14, _), (15, _), (16, _), (17, _), (18, _), (19, _), (20, _), (21, _), (22, _), (23, _), (24, _)]) ⟨rfl, rfl, rfl, rfl, rfl, rfl, rfl, rfl, rfl, rfl, rfl, rfl, rfl, rfl, rfl, rfl, rfl, rfl, rfl, rfl, rfl, rfl, rfl, rfl, trivial⟩ ?_
      exact cut1 (by omega)
    · skip
      refine wq_iload (pc := 532) dL_law_532 rfl ?_
      refine wq_if_eq (pc := 534) (tgt := 542) dL_law_534 (by decide) (by first | (unfold inR; omega) | assumption | exact hr2 _ | exact hr3 _ | exact hr4 _) (fun c19 => ?_) (fun c19 => ?_)
      · skip
        refine wq_sub1 (L' := [(0, _), (1, _), (2, _), (3, _), (4, _), (5, _), (6, _), (7, _), (8, _), (10, _), (11, _), (12, _), (13, _), (14, _), (15, _), (16, _), (17, _), (18, _), (19, _), (20, _), (21, _), (22, _), (23, _), (24, _)]) ⟨rfl, rfl, rfl, rfl, rfl, rfl, rfl, rfl, rfl, rfl, rfl, rfl, rfl, rfl, rfl, rfl, rfl, rfl, rfl, rfl, rfl, rfl, rfl, rfl, trivial⟩ ?_
        exact cut1 (by omega)
      · skip
        refine wq_iload (pc := 537) dL_law_537 rfl ?_
        refine wq_if_lt (pc := 539) (tgt := 564) dL_law_539 (by decide) (by first | (unfold inR; omega) | assumption | exact hr2 _ | exact hr3 _ | exact hr4 _) (fun c20 => ?_) (fun c20 => ?_)
        · skip
          have hE := ST_t (s := t) (nb' := nb + 1) (vb' := vb + 2) hS (by omega) (by omega) (by omega) (by omega)
          refine wq_bipush (pc := 564) dL_law_564 (by decide) (by decide) ?_
          skip
          refine wq_istore (pc := 566) (L' := [(21, _), (0, _), (1, _), (2, _), (3, _), (4, _), (5, _), (6, _), (7, _), (8, _), (10, _), (11, _), (12, _), (13, _), (14, _), (15, _), (16, _), (17, _), (18, _), (19, _), (20, _), (22, _), (23, _), (24, _)]) dL_law_566 rfl (by decide) ?_
          refine wq_iload (pc := 568) dL_law_568 rfl ?_
          refine wq_bipush (pc := 570) dL_law_570 (by decide) (by decide) ?_
          refine wq_icmp_ne (pc := 572) (tgt := 579) dL_law_572 (by decide) (by first | (unfold inR; omega) | assumption | exact hr2 _ | exact hr3 _ | exact hr4 _) (by first | (unfold inR; omega) | assumption | exact hr2 _ | exact hr3 _ | exact hr4 _) (fun c21 => ?_) (fun c9 => by exfalso; omega)
          refine wq_iconst (pc := 579) dL_law_579 ?_
          refine wq_istore (pc := 580) (L' := [(22, _), (21, _), (0, _), (1, _), (2, _), (3, _), (4, _), (5, _), (6, _), (7, _), (8, _), (10, _), (11, _), (12, _), (13, _), (14, _), (15, _), (16, _), (17, _), (18, _), (19, _), (20, _), (23, _), (24, _)]) dL_law_580 rfl (by decide) ?_
          refine wq_iload (pc := 582) dL_law_582 rfl ?_
          refine wq_if_ne (pc := 584) (tgt := 622) dL_law_584 (by decide) (by first | (unfold inR; omega) | assumption | exact hr2 _ | exact hr3 _ | exact hr4 _) (fun c => absurd c (by decide)) (fun _ => ?_)
          refine wq_iload (pc := 587) dL_law_587 rfl ?_
          refine wq_iload (pc := 589) dL_law_589 rfl ?_
          refine wq_if_ne (pc := 591) (tgt := 599) dL_law_591 (by decide) (by first | (unfold inR; omega) | assumption | exact hr2 _ | exact hr3 _ | exact hr4 _) (fun c23 => ?_) (fun c23 => ?_)
          · skip
            refine wq_iload (pc := 599) dL_law_599 rfl ?_
            refine wq_if_ne (pc := 601) (tgt := 609) dL_law_601 (by decide) (by first | (unfold inR; omega) | assumption | exact hr2 _ | exact hr3 _ | exact hr4 _) (fun c24 => ?_) (fun c24 => ?_)
            · skip
              refine wq_bipush (pc := 609) dL_law_609 (by decide) (by decide) ?_
              refine wq_icmp_ne (pc := 611) (tgt := 618) dL_law_611 (by decide) (by first | (unfold inR; omega) | assumption | exact hr2 _ | exact hr3 _ | exact hr4 _) (by first | (unfold inR; omega) | assumption | exact hr2 _ | exact hr3 _ | exact hr4 _) (fun c9 => by exfalso; omega) (fun c25 => ?_)
              refine wq_iconst (pc := 614) dL_law_614 ?_
              refine wq_goto (pc := 615) (tgt := 669) dL_law_615 (by decide) ?_
              refine wq_istore (pc := 669) (L' := [(7, _), (22, _), (21, _), (0, _), (1, _), (2, _), (3, _), (4, _), (5, _), (6, _), (8, _), (10, _), (11, _), (12, _), (13, _), (14, _), (15, _), (16, _), (17, _), (18, _), (19, _), (20, _), (23, _), (24, _)]) dL_law_669 rfl (by decide) ?_
              refine wq_iload (pc := 671) dL_law_671 rfl ?_
              refine wq_if_eq (pc := 673) (tgt := 720) dL_law_673 (by decide) (by first | (unfold inR; omega) | assumption | exact hr2 _ | exact hr3 _ | exact hr4 _) (fun _ => ?_) (fun c => absurd c (by decide))
              refine wq_goto (pc := 720) (tgt := 2040) dL_law_720 (by decide) ?_
              refine wq_sub1 (L' := [(0, _), (1, _), (2, _), (3, _), (4, _), (5, _), (6, _), (7, _), (8, _), (11, _), (22, _)]) ⟨rfl, rfl, rfl, rfl, rfl, rfl, rfl, rfl, rfl, rfl, rfl, trivial⟩ ?_
              exact H _ _ _ _ _ hE
            · skip
              refine wq_bipush (pc := 604) dL_law_604 (by decide) (by decide) ?_
              refine wq_goto (pc := 606) (tgt := 611) dL_law_606 (by decide) ?_
              refine wq_icmp_ne (pc := 611) (tgt := 618) dL_law_611 (by decide) (by first | (unfold inR; omega) | assumption | exact hr2 _ | exact hr3 _ | exact hr4 _) (by first | (unfold inR; omega) | assumption | exact hr2 _ | exact hr3 _ | exact hr4 _) (fun c9 => by exfalso; omega) (fun c27 => ?_)
              refine wq_iconst (pc := 614) dL_law_614 ?_
              refine wq_goto (pc := 615) (tgt := 669) dL_law_615 (by decide) ?_
              refine wq_istore (pc := 669) (L' := [(7, _), (22, _), (21, _), (0, _), (1, _), (2, _), (3, _), (4, _), (5, _), (6, _), (8, _), (10, _), (11, _), (12, _), (13, _), (14, _), (15, _), (16, _), (17, _), (18, _), (19, _), (20, _), (23, _), (24, _)]) dL_law_669 rfl (by decide) ?_
              refine wq_iload (pc := 671) dL_law_671 rfl ?_
              refine wq_if_eq (pc := 673) (tgt := 720) dL_law_673 (by decide) (by first | (unfold inR; omega) | assumption | exact hr2 _ | exact hr3 _ | exact hr4 _) (fun _ => ?_) (fun c => absurd c (by decide))
              refine wq_goto (pc := 720) (tgt := 2040) dL_law_720 (by decide) ?_
              refine wq_sub1 (L' := [(0, _), (1, _), (2, _), (3, _), (4, _), (5, _), (6, _), (7, _), (8, _), (11, _), (22, _)]) ⟨rfl, rfl, rfl, rfl, rfl, rfl, rfl, rfl, rfl, rfl, rfl, trivial⟩ ?_
              exact H _ _ _ _ _ hE
          · skip
            refine wq_bipush (pc := 594) dL_law_594 (by decide) (by decide) ?_
            refine wq_goto (pc := 596) (tgt := 611) dL_law_596 (by decide) ?_
            refine wq_icmp_ne (pc := 611) (tgt := 618) dL_law_611 (by decide) (by first | (unfold inR; omega) | assumption | exact hr2 _ | exact hr3 _ | exact hr4 _) (by first | (unfold inR; omega) | assumption | exact hr2 _ | exact hr3 _ | exact hr4 _) (fun c9 => by exfalso; omega) (fun c29 => ?_)
            refine wq_iconst (pc := 614) dL_law_614 ?_
            refine wq_goto (pc := 615) (tgt := 669) dL_law_615 (by decide) ?_
            refine wq_istore (pc := 669) (L' := [(7, _), (22, _), (21, _), (0, _), (1, _), (2, _), (3, _), (4, _), (5, _), (6, _), (8, _), (10, _), (11, _), (12, _), (13, _), (14, _), (15, _), (16, _), (17, _), (18, _), (19, _), (20, _), (23, _), (24, _)]) dL_law_669 rfl (by decide) ?_
            refine wq_iload (pc := 671) dL_law_671 rfl ?_
            refine wq_if_eq (pc := 673) (tgt := 720) dL_law_673 (by decide) (by first | (unfold inR; omega) | assumption | exact hr2 _ | exact hr3 _ | exact hr4 _) (fun _ => ?_) (fun c => absurd c (by decide))
            refine wq_goto (pc := 720) (tgt := 2040) dL_law_720 (by decide) ?_
            refine wq_sub1 (L' := [(0, _), (1, _), (2, _), (3, _), (4, _), (5, _), (6, _), (7, _), (8, _), (11, _), (22, _)]) ⟨rfl, rfl, rfl, rfl, rfl, rfl, rfl, rfl, rfl, rfl, rfl, trivial⟩ ?_
            exact H _ _ _ _ _ hE
        · skip
          refine wq_sub1 (L' := [(0, _), (1, _), (2, _), (3, _), (4, _), (5, _), (6, _), (7, _), (8, _), (10, _), (11, _), (12, _), (13, _), (14, _), (15, _), (16, _), (17, _), (18, _), (19, _), (20, _), (21, _), (22, _), (23, _), (24, _)]) ⟨rfl, rfl, rfl, rfl, rfl, rfl, rfl, rfl, rfl, rfl, rfl, rfl, rfl, rfl, rfl, rfl, rfl, rfl, rfl, rfl, rfl, rfl, rfl, rfl, trivial⟩ ?_
          exact cut1 (by omega)
theorem lw_create {μ : nMem} {ε : nEnv} {Q : nOut → nMem → nEnv → Prop} {N : Int} {A : AS} {nb vb : Int} {t : Nat} {X : nMem} {turn kd y d d2 nm nm2 f s b a fr : Int} (hS : ST N A nb vb (t + 1) X μ ε 0) (hnb : nb + 1 ≤ 490) (hvb : vb + 2 ≤ 4000) (hvb0 : 0 ≤ vb) (hn2 : 2 ≤ nb) (ry : 0 ≤ y ∧ y ≤ 2147483647) (ht : 0 ≤ turn ∧ turn < 120) (hF : LF A X d d2 nm nm2 f s b a fr) (H : ∀ A1 X1 m e w, ST N A1 (nb + 1) (vb + 2) t X1 m e w → wpL 2040 [(0, vR (-1)), (1, vR 1), (2, vR 21), (3, vR 22), (4, vR 23), (5, vR 24), (6, vR 25), (7, vI 1), (8, vI turn), (11, vI y), (22, vI w)] [] m e Q) (hk : 0 ≤ kd ∧ kd < 3) : wpL 468 [(0, vR (-1)), (1, vR 1), (2, vR 21), (3, vR 22), (4, vR 23), (5, vR 24), (6, vR 25), (7, vI 1), (8, vI turn), (10, vI kd), (11, vI y), (12, vI d), (13, vI d2), (14, vI nm), (15, vI nm2), (16, vI f), (17, vI s), (18, vI b), (19, vI a), (20, vI fr), (21, vI 0), (22, vI 0)] [] μ ε Q := by
  obtain ⟨⟨hW, hG, hX, hi⟩, ⟨hD, hJ, hV, hZ⟩, fl, SS, hP, hTS⟩ := ST_0 hS
  obtain ⟨f1, f2, f3, f4, f5, f6, f7, f8, f9⟩ := id hF
  obtain ⟨⟨⟨hn0, hn15⟩, ⟨hm0, hm8⟩, hr2, hr3, hr4⟩, hn14, hm7⟩ := id hX
  have hs9 := GA_slot hG f
  have ha9 := GA_find hG d nm
  rw [← f7] at hs9
  rw [← f8] at ha9
  have hfr9 := (frN_le A).2
  rw [← f9] at hfr9
  clear f7 f8 f9
  refine wq_iload (pc := 468) dL_law_468 rfl ?_
  refine wq_iconst (pc := 470) dL_law_470 ?_
  refine wq_icmp_ge (pc := 471) (tgt := 486) dL_law_471 (by decide) (by first | (unfold inR; omega) | assumption | exact hr2 _ | exact hr3 _ | exact hr4 _) (by first | (unfold inR; omega) | assumption | exact hr2 _ | exact hr3 _ | exact hr4 _) (fun c1 => ?_) (fun c1 => ?_)
  · skip
    refine wq_iconst (pc := 486) dL_law_486 ?_
    refine wq_istore (pc := 487) (L' := [(23, _), (0, _), (1, _), (2, _), (3, _), (4, _), (5, _), (6, _), (7, _), (8, _), (10, _), (11, _), (12, _), (13, _), (14, _), (15, _), (16, _), (17, _), (18, _), (19, _), (20, _), (21, _), (22, _)]) dL_law_487 rfl (by decide) ?_
    refine wq_iload (pc := 489) dL_law_489 rfl ?_
    refine wq_if_eq (pc := 491) (tgt := 516) dL_law_491 (by decide) (by first | (unfold inR; omega) | assumption | exact hr2 _ | exact hr3 _ | exact hr4 _) (fun c2 => ?_) (fun c2 => ?_)
    · skip
      refine wq_iconst (pc := 516) dL_law_516 ?_
      refine wq_istore (pc := 517) (L' := [(24, _), (23, _), (0, _), (1, _), (2, _), (3, _), (4, _), (5, _), (6, _), (7, _), (8, _), (10, _), (11, _), (12, _), (13, _), (14, _), (15, _), (16, _), (17, _), (18, _), (19, _), (20, _), (21, _), (22, _)]) dL_law_517 rfl (by decide) ?_
      refine wq_sub1 (L' := [(0, _), (1, _), (2, _), (3, _), (4, _), (5, _), (6, _), (7, _), (8, _), (10, _), (11, _), (12, _), (13, _), (14, _), (15, _), (16, _), (17, _), (18, _), (19, _), (20, _), (21, _), (22, _), (23, _), (24, _)]) ⟨rfl, rfl, rfl, rfl, rfl, rfl, rfl, rfl, rfl, rfl, rfl, rfl, rfl, rfl, rfl, rfl, rfl, rfl, rfl, rfl, rfl, rfl, rfl, rfl, trivial⟩ ?_
      exact lw_cn0 hS hnb hvb hvb0 hn2 ry ht hF H (by omega)
    · skip
      refine wq_iload (pc := 494) dL_law_494 rfl ?_
      refine wq_if_le (pc := 496) (tgt := 516) dL_law_496 (by decide) (by first | (unfold inR; omega) | assumption | exact hr2 _ | exact hr3 _ | exact hr4 _) (fun c3 => ?_) (fun c3 => ?_)
      · skip
        refine wq_iconst (pc := 516) dL_law_516 ?_
        refine wq_istore (pc := 517) (L' := [(24, _), (23, _), (0, _), (1, _), (2, _), (3, _), (4, _), (5, _), (6, _), (7, _), (8, _), (10, _), (11, _), (12, _), (13, _), (14, _), (15, _), (16, _), (17, _), (18, _), (19, _), (20, _), (21, _), (22, _)]) dL_law_517 rfl (by decide) ?_
        refine wq_sub1 (L' := [(0, _), (1, _), (2, _), (3, _), (4, _), (5, _), (6, _), (7, _), (8, _), (10, _), (11, _), (12, _), (13, _), (14, _), (15, _), (16, _), (17, _), (18, _), (19, _), (20, _), (21, _), (22, _), (23, _), (24, _)]) ⟨rfl, rfl, rfl, rfl, rfl, rfl, rfl, rfl, rfl, rfl, rfl, rfl, rfl, rfl, rfl, rfl, rfl, rfl, rfl, rfl, rfl, rfl, rfl, rfl, trivial⟩ ?_
        exact lw_cn0 hS hnb hvb hvb0 hn2 ry ht hF H (by omega)
      · skip
        refine wq_iload (pc := 499) dL_law_499 rfl ?_
        refine wq_if_ge (pc := 501) (tgt := 516) dL_law_501 (by decide) (by first | (unfold inR; omega) | assumption | exact hr2 _ | exact hr3 _ | exact hr4 _) (fun c4 => ?_) (fun c4 => ?_)
        · skip
          refine wq_iconst (pc := 516) dL_law_516 ?_
          refine wq_istore (pc := 517) (L' := [(24, _), (23, _), (0, _), (1, _), (2, _), (3, _), (4, _), (5, _), (6, _), (7, _), (8, _), (10, _), (11, _), (12, _), (13, _), (14, _), (15, _), (16, _), (17, _), (18, _), (19, _), (20, _), (21, _), (22, _)]) dL_law_517 rfl (by decide) ?_
          refine wq_sub1 (L' := [(0, _), (1, _), (2, _), (3, _), (4, _), (5, _), (6, _), (7, _), (8, _), (10, _), (11, _), (12, _), (13, _), (14, _), (15, _), (16, _), (17, _), (18, _), (19, _), (20, _), (21, _), (22, _), (23, _), (24, _)]) ⟨rfl, rfl, rfl, rfl, rfl, rfl, rfl, rfl, rfl, rfl, rfl, rfl, rfl, rfl, rfl, rfl, rfl, rfl, rfl, rfl, rfl, rfl, rfl, rfl, trivial⟩ ?_
          exact lw_cn0 hS hnb hvb hvb0 hn2 ry ht hF H (by omega)
        · skip
          refine wq_aload_n (pc := 504) dL_law_504 rfl rfl ?_
          refine wq_iconst (pc := 505) dL_law_505 ?_
          refine wq_ialdX (pc := 506) dL_law_506 (by with_reducible assumption) rfl (by omega) (by omega) ?_
          refine wq_bipush (pc := 507) dL_law_507 (by decide) (by decide) ?_
          refine wq_icmp_ge (pc := 509) (tgt := 516) dL_law_509 (by decide) (by first | (unfold inR; omega) | assumption | exact hr2 _ | exact hr3 _ | exact hr4 _) (by first | (unfold inR; omega) | assumption | exact hr2 _ | exact hr3 _ | exact hr4 _) (fun c5 => ?_) (fun c5 => ?_)
          · skip
            refine wq_iconst (pc := 516) dL_law_516 ?_
            refine wq_istore (pc := 517) (L' := [(24, _), (23, _), (0, _), (1, _), (2, _), (3, _), (4, _), (5, _), (6, _), (7, _), (8, _), (10, _), (11, _), (12, _), (13, _), (14, _), (15, _), (16, _), (17, _), (18, _), (19, _), (20, _), (21, _), (22, _)]) dL_law_517 rfl (by decide) ?_
            refine wq_sub1 (L' := [(0, _), (1, _), (2, _), (3, _), (4, _), (5, _), (6, _), (7, _), (8, _), (10, _), (11, _), (12, _), (13, _), (14, _), (15, _), (16, _), (17, _), (18, _), (19, _), (20, _), (21, _), (22, _), (23, _), (24, _)]) ⟨rfl, rfl, rfl, rfl, rfl, rfl, rfl, rfl, rfl, rfl, rfl, rfl, rfl, rfl, rfl, rfl, rfl, rfl, rfl, rfl, rfl, rfl, rfl, rfl, trivial⟩ ?_
            exact lw_cn0 hS hnb hvb hvb0 hn2 ry ht hF H (by omega)
          · skip
            refine wq_iconst (pc := 512) dL_law_512 ?_
            refine wq_goto (pc := 513) (tgt := 517) dL_law_513 (by decide) ?_
            refine wq_istore (pc := 517) (L' := [(24, _), (23, _), (0, _), (1, _), (2, _), (3, _), (4, _), (5, _), (6, _), (7, _), (8, _), (10, _), (11, _), (12, _), (13, _), (14, _), (15, _), (16, _), (17, _), (18, _), (19, _), (20, _), (21, _), (22, _)]) dL_law_517 rfl (by decide) ?_
            refine wq_sub1 (L' := [(0, _), (1, _), (2, _), (3, _), (4, _), (5, _), (6, _), (7, _), (8, _), (10, _), (11, _), (12, _), (13, _), (14, _), (15, _), (16, _), (17, _), (18, _), (19, _), (20, _), (21, _), (22, _), (23, _), (24, _)]) ⟨rfl, rfl, rfl, rfl, rfl, rfl, rfl, rfl, rfl, rfl, rfl, rfl, rfl, rfl, rfl, rfl, rfl, rfl, rfl, rfl, rfl, rfl, rfl, rfl, trivial⟩ ?_
            exact lw_cy0 hS hnb hvb hvb0 hn2 ry ht hF H (by omega)
  · skip
    refine wq_aload_n (pc := 474) dL_law_474 rfl rfl ?_
    refine wq_iconst (pc := 475) dL_law_475 ?_
    refine wq_ialdX (pc := 476) dL_law_476 (by with_reducible assumption) rfl (by omega) (by omega) ?_
    refine wq_bipush (pc := 477) dL_law_477 (by decide) (by decide) ?_
    refine wq_icmp_ge (pc := 479) (tgt := 486) dL_law_479 (by decide) (by first | (unfold inR; omega) | assumption | exact hr2 _ | exact hr3 _ | exact hr4 _) (by first | (unfold inR; omega) | assumption | exact hr2 _ | exact hr3 _ | exact hr4 _) (fun c6 => ?_) (fun c6 => ?_)
    · skip
      refine wq_iconst (pc := 486) dL_law_486 ?_
      refine wq_istore (pc := 487) (L' := [(23, _), (0, _), (1, _), (2, _), (3, _), (4, _), (5, _), (6, _), (7, _), (8, _), (10, _), (11, _), (12, _), (13, _), (14, _), (15, _), (16, _), (17, _), (18, _), (19, _), (20, _), (21, _), (22, _)]) dL_law_487 rfl (by decide) ?_
      refine wq_iload (pc := 489) dL_law_489 rfl ?_
      refine wq_if_eq (pc := 491) (tgt := 516) dL_law_491 (by decide) (by first | (unfold inR; omega) | assumption | exact hr2 _ | exact hr3 _ | exact hr4 _) (fun c7 => ?_) (fun c7 => ?_)
      · skip
        refine wq_iconst (pc := 516) dL_law_516 ?_
        refine wq_istore (pc := 517) (L' := [(24, _), (23, _), (0, _), (1, _), (2, _), (3, _), (4, _), (5, _), (6, _), (7, _), (8, _), (10, _), (11, _), (12, _), (13, _), (14, _), (15, _), (16, _), (17, _), (18, _), (19, _), (20, _), (21, _), (22, _)]) dL_law_517 rfl (by decide) ?_
        refine wq_sub1 (L' := [(0, _), (1, _), (2, _), (3, _), (4, _), (5, _), (6, _), (7, _), (8, _), (10, _), (11, _), (12, _), (13, _), (14, _), (15, _), (16, _), (17, _), (18, _), (19, _), (20, _), (21, _), (22, _), (23, _), (24, _)]) ⟨rfl, rfl, rfl, rfl, rfl, rfl, rfl, rfl, rfl, rfl, rfl, rfl, rfl, rfl, rfl, rfl, rfl, rfl, rfl, rfl, rfl, rfl, rfl, rfl, trivial⟩ ?_
        exact lw_cn0 hS hnb hvb hvb0 hn2 ry ht hF H (by omega)
      · skip
        refine wq_iload (pc := 494) dL_law_494 rfl ?_
        refine wq_if_le (pc := 496) (tgt := 516) dL_law_496 (by decide) (by first | (unfold inR; omega) | assumption | exact hr2 _ | exact hr3 _ | exact hr4 _) (fun c8 => ?_) (fun c8 => ?_)
        · skip
          refine wq_iconst (pc := 516) dL_law_516 ?_
          refine wq_istore (pc := 517) (L' := [(24, _), (23, _), (0, _), (1, _), (2, _), (3, _), (4, _), (5, _), (6, _), (7, _), (8, _), (10, _), (11, _), (12, _), (13, _), (14, _), (15, _), (16, _), (17, _), (18, _), (19, _), (20, _), (21, _), (22, _)]) dL_law_517 rfl (by decide) ?_
          refine wq_sub1 (L' := [(0, _), (1, _), (2, _), (3, _), (4, _), (5, _), (6, _), (7, _), (8, _), (10, _), (11, _), (12, _), (13, _), (14, _), (15, _), (16, _), (17, _), (18, _), (19, _), (20, _), (21, _), (22, _), (23, _), (24, _)]) ⟨rfl, rfl, rfl, rfl, rfl, rfl, rfl, rfl, rfl, rfl, rfl, rfl, rfl, rfl, rfl, rfl, rfl, rfl, rfl, rfl, rfl, rfl, rfl, rfl, trivial⟩ ?_
          exact lw_cn0 hS hnb hvb hvb0 hn2 ry ht hF H (by omega)
        · skip
          refine wq_iload (pc := 499) dL_law_499 rfl ?_
          refine wq_if_ge (pc := 501) (tgt := 516) dL_law_501 (by decide) (by first | (unfold inR; omega) | assumption | exact hr2 _ | exact hr3 _ | exact hr4 _) (fun c9 => ?_) (fun c9 => ?_)
          · skip
            refine wq_iconst (pc := 516) dL_law_516 ?_
            refine wq_istore (pc := 517) (L' := [(24, _), (23, _), (0, _), (1, _), (2, _), (3, _), (4, _), (5, _), (6, _), (7, _), (8, _), (10, _), (11, _), (12, _), (13, _), (14, _), (15, _), (16, _), (17, _), (18, _), (19, _), (20, _), (21, _), (22, _)]) dL_law_517 rfl (by decide) ?_
            refine wq_sub1 (L' := [(0, _), (1, _), (2, _), (3, _), (4, _), (5, _), (6, _), (7, _), (8, _), (10, _), (11, _), (12, _), (13, _), (14, _), (15, _), (16, _), (17, _), (18, _), (19, _), (20, _), (21, _), (22, _), (23, _), (24, _)]) ⟨rfl, rfl, rfl, rfl, rfl, rfl, rfl, rfl, rfl, rfl, rfl, rfl, rfl, rfl, rfl, rfl, rfl, rfl, rfl, rfl, rfl, rfl, rfl, rfl, trivial⟩ ?_
            exact lw_cn0 hS hnb hvb hvb0 hn2 ry ht hF H (by omega)
          · skip
            refine wq_aload_n (pc := 504) dL_law_504 rfl rfl ?_
            refine wq_iconst (pc := 505) dL_law_505 ?_
            refine wq_ialdX (pc := 506) dL_law_506 (by with_reducible assumption) rfl (by omega) (by omega) ?_
            refine wq_bipush (pc := 507) dL_law_507 (by decide) (by decide) ?_
            refine wq_icmp_ge (pc := 509) (tgt := 516) dL_law_509 (by decide) (by first | (unfold inR; omega) | assumption | exact hr2 _ | exact hr3 _ | exact hr4 _) (by first | (unfold inR; omega) | assumption | exact hr2 _ | exact hr3 _ | exact hr4 _) (fun c10 => ?_) (fun c10 => ?_)
            · skip
              refine wq_iconst (pc := 516) dL_law_516 ?_
              refine wq_istore (pc := 517) (L' := [(24, _), (23, _), (0, _), (1, _), (2, _), (3, _), (4, _), (5, _), (6, _), (7, _), (8, _), (10, _), (11, _), (12, _), (13, _), (14, _), (15, _), (16, _), (17, _), (18, _), (19, _), (20, _), (21, _), (22, _)]) dL_law_517 rfl (by decide) ?_
              refine wq_sub1 (L' := [(0, _), (1, _), (2, _), (3, _), (4, _), (5, _), (6, _), (7, _), (8, _), (10, _), (11, _), (12, _), (13, _), (14, _), (15, _), (16, _), (17, _), (18, _), (19, _), (20, _), (21, _), (22, _), (23, _), (24, _)]) ⟨rfl, rfl, rfl, rfl, rfl, rfl, rfl, rfl, rfl, rfl, rfl, rfl, rfl, rfl, rfl, rfl, rfl, rfl, rfl, rfl, rfl, rfl, rfl, rfl, trivial⟩ ?_
              exact lw_cn0 hS hnb hvb hvb0 hn2 ry ht hF H (by omega)
            · skip
              refine wq_iconst (pc := 512) dL_law_512 ?_
              refine wq_goto (pc := 513) (tgt := 517) dL_law_513 (by decide) ?_
              refine wq_istore (pc := 517) (L' := [(24, _), (23, _), (0, _), (1, _), (2, _), (3, _), (4, _), (5, _), (6, _), (7, _), (8, _), (10, _), (11, _), (12, _), (13, _), (14, _), (15, _), (16, _), (17, _), (18, _), (19, _), (20, _), (21, _), (22, _)]) dL_law_517 rfl (by decide) ?_
              refine wq_sub1 (L' := [(0, _), (1, _), (2, _), (3, _), (4, _), (5, _), (6, _), (7, _), (8, _), (10, _), (11, _), (12, _), (13, _), (14, _), (15, _), (16, _), (17, _), (18, _), (19, _), (20, _), (21, _), (22, _), (23, _), (24, _)]) ⟨rfl, rfl, rfl, rfl, rfl, rfl, rfl, rfl, rfl, rfl, rfl, rfl, rfl, rfl, rfl, rfl, rfl, rfl, rfl, rfl, rfl, rfl, rfl, rfl, trivial⟩ ?_
              exact lw_cy0 hS hnb hvb hvb0 hn2 ry ht hF H (by omega)
    · skip
      refine wq_iconst (pc := 482) dL_law_482 ?_
      refine wq_goto (pc := 483) (tgt := 487) dL_law_483 (by decide) ?_
      refine wq_istore (pc := 487) (L' := [(23, _), (0, _), (1, _), (2, _), (3, _), (4, _), (5, _), (6, _), (7, _), (8, _), (10, _), (11, _), (12, _), (13, _), (14, _), (15, _), (16, _), (17, _), (18, _), (19, _), (20, _), (21, _), (22, _)]) dL_law_487 rfl (by decide) ?_
      refine wq_iload (pc := 489) dL_law_489 rfl ?_
      refine wq_if_eq (pc := 491) (tgt := 516) dL_law_491 (by decide) (by first | (unfold inR; omega) | assumption | exact hr2 _ | exact hr3 _ | exact hr4 _) (fun c11 => ?_) (fun c11 => ?_)
      · skip
        refine wq_iconst (pc := 516) dL_law_516 ?_
        refine wq_istore (pc := 517) (L' := [(24, _), (23, _), (0, _), (1, _), (2, _), (3, _), (4, _), (5, _), (6, _), (7, _), (8, _), (10, _), (11, _), (12, _), (13, _), (14, _), (15, _), (16, _), (17, _), (18, _), (19, _), (20, _), (21, _), (22, _)]) dL_law_517 rfl (by decide) ?_
        refine wq_sub1 (L' := [(0, _), (1, _), (2, _), (3, _), (4, _), (5, _), (6, _), (7, _), (8, _), (10, _), (11, _), (12, _), (13, _), (14, _), (15, _), (16, _), (17, _), (18, _), (19, _), (20, _), (21, _), (22, _), (23, _), (24, _)]) ⟨rfl, rfl, rfl, rfl, rfl, rfl, rfl, rfl, rfl, rfl, rfl, rfl, rfl, rfl, rfl, rfl, rfl, rfl, rfl, rfl, rfl, rfl, rfl, rfl, trivial⟩ ?_
        exact lw_cn1 hS hnb hvb hvb0 hn2 ry ht hF H (by omega)
      · skip
        refine wq_iload (pc := 494) dL_law_494 rfl ?_
        refine wq_if_le (pc := 496) (tgt := 516) dL_law_496 (by decide) (by first | (unfold inR; omega) | assumption | exact hr2 _ | exact hr3 _ | exact hr4 _) (fun c12 => ?_) (fun c12 => ?_)
        · skip
          refine wq_iconst (pc := 516) dL_law_516 ?_
          refine wq_istore (pc := 517) (L' := [(24, _), (23, _), (0, _), (1, _), (2, _), (3, _), (4, _), (5, _), (6, _), (7, _), (8, _), (10, _), (11, _), (12, _), (13, _), (14, _), (15, _), (16, _), (17, _), (18, _), (19, _), (20, _), (21, _), (22, _)]) dL_law_517 rfl (by decide) ?_
          refine wq_sub1 (L' := [(0, _), (1, _), (2, _), (3, _), (4, _), (5, _), (6, _), (7, _), (8, _), (10, _), (11, _), (12, _), (13, _), (14, _), (15, _), (16, _), (17, _), (18, _), (19, _), (20, _), (21, _), (22, _), (23, _), (24, _)]) ⟨rfl, rfl, rfl, rfl, rfl, rfl, rfl, rfl, rfl, rfl, rfl, rfl, rfl, rfl, rfl, rfl, rfl, rfl, rfl, rfl, rfl, rfl, rfl, rfl, trivial⟩ ?_
          exact lw_cn1 hS hnb hvb hvb0 hn2 ry ht hF H (by omega)
        · skip
          refine wq_iload (pc := 499) dL_law_499 rfl ?_
          refine wq_if_ge (pc := 501) (tgt := 516) dL_law_501 (by decide) (by first | (unfold inR; omega) | assumption | exact hr2 _ | exact hr3 _ | exact hr4 _) (fun c13 => ?_) (fun c13 => ?_)
          · skip
            refine wq_iconst (pc := 516) dL_law_516 ?_
            refine wq_istore (pc := 517) (L' := [(24, _), (23, _), (0, _), (1, _), (2, _), (3, _), (4, _), (5, _), (6, _), (7, _), (8, _), (10, _), (11, _), (12, _), (13, _), (14, _), (15, _), (16, _), (17, _), (18, _), (19, _), (20, _), (21, _), (22, _)]) dL_law_517 rfl (by decide) ?_
            refine wq_sub1 (L' := [(0, _), (1, _), (2, _), (3, _), (4, _), (5, _), (6, _), (7, _), (8, _), (10, _), (11, _), (12, _), (13, _), (14, _), (15, _), (16, _), (17, _), (18, _), (19, _), (20, _), (21, _), (22, _), (23, _), (24, _)]) ⟨rfl, rfl, rfl, rfl, rfl, rfl, rfl, rfl, rfl, rfl, rfl, rfl, rfl, rfl, rfl, rfl, rfl, rfl, rfl, rfl, rfl, rfl, rfl, rfl, trivial⟩ ?_
            exact lw_cn1 hS hnb hvb hvb0 hn2 ry ht hF H (by omega)
          · skip
            refine wq_aload_n (pc := 504) dL_law_504 rfl rfl ?_
            refine wq_iconst (pc := 505) dL_law_505 ?_
            refine wq_ialdX (pc := 506) dL_law_506 (by with_reducible assumption) rfl (by omega) (by omega) ?_
            refine wq_bipush (pc := 507) dL_law_507 (by decide) (by decide) ?_
            refine wq_icmp_ge (pc := 509) (tgt := 516) dL_law_509 (by decide) (by first | (unfold inR; omega) | assumption | exact hr2 _ | exact hr3 _ | exact hr4 _) (by first | (unfold inR; omega) | assumption | exact hr2 _ | exact hr3 _ | exact hr4 _) (fun c14 => ?_) (fun c14 => ?_)
            · skip
              refine wq_iconst (pc := 516) dL_law_516 ?_
              refine wq_istore (pc := 517) (L' := [(24, _), (23, _), (0, _), (1, _), (2, _), (3, _), (4, _), (5, _), (6, _), (7, _), (8, _), (10, _), (11, _), (12, _), (13, _), (14, _), (15, _), (16, _), (17, _), (18, _), (19, _), (20, _), (21, _), (22, _)]) dL_law_517 rfl (by decide) ?_
              refine wq_sub1 (L' := [(0, _), (1, _), (2, _), (3, _), (4, _), (5, _), (6, _), (7, _), (8, _), (10, _), (11, _), (12, _), (13, _), (14, _), (15, _), (16, _), (17, _), (18, _), (19, _), (20, _), (21, _), (22, _), (23, _), (24, _)]) ⟨rfl, rfl, rfl, rfl, rfl, rfl, rfl, rfl, rfl, rfl, rfl, rfl, rfl, rfl, rfl, rfl, rfl, rfl, rfl, rfl, rfl, rfl, rfl, rfl, trivial⟩ ?_
              exact lw_cn1 hS hnb hvb hvb0 hn2 ry ht hF H (by omega)
            · skip
              refine wq_iconst (pc := 512) dL_law_512 ?_
              refine wq_goto (pc := 513) (tgt := 517) dL_law_513 (by decide) ?_
              refine wq_istore (pc := 517) (L' := [(24, _), (23, _), (0, _), (1, _), (2, _), (3, _), (4, _), (5, _), (6, _), (7, _), (8, _), (10, _), (11, _), (12, _), (13, _), (14, _), (15, _), (16, _), (17, _), (18, _), (19, _), (20, _), (21, _), (22, _)]) dL_law_517 rfl (by decide) ?_
              refine wq_sub1 (L' := [(0, _), (1, _), (2, _), (3, _), (4, _), (5, _), (6, _), (7, _), (8, _), (10, _), (11, _), (12, _), (13, _), (14, _), (15, _), (16, _), (17, _), (18, _), (19, _), (20, _), (21, _), (22, _), (23, _), (24, _)]) ⟨rfl, rfl, rfl, rfl, rfl, rfl, rfl, rfl, rfl, rfl, rfl, rfl, rfl, rfl, rfl, rfl, rfl, rfl, rfl, rfl, rfl, rfl, rfl, rfl, trivial⟩ ?_
              exact lw_cy1 hS hnb hvb hvb0 hn2 ry ht hF H (by omega)
