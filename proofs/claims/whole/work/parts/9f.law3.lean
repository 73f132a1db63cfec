/-! ### the law's last two calls, a step, the loop -/
theorem lc_isDark {μ0 : nMem} {N : Int} {c : Nat} {A : AS} {μ : nMem} {ε : nEnv} (hs0 : ∀ j, inR (μ0 (-1) j)) (hN : 0 ≤ N ∧ N ≤ 3072) (hc : 6 * (c : Int) + 6 ≤ N) (hLS : nLS μ0 N c A μ ε) (END : ∀ A2 m e, nLS μ0 N (c + 1) A2 m e → wpL 1800 [(4, vI (6 * (c : Int))), (3, vR 56), (2, vR 21), (1, vR 1), (0, vR (-1))] [] m e Qlaw) : wpL 881 [(4, vI (6 * (c : Int))), (3, vR 56), (2, vR 21), (1, vR 1), (0, vR (-1))] [] μ ε Qlaw := by
  obtain ⟨⟨hM, hCM, hcap⟩, ⟨h4, h5, h6, h7, h8⟩, hfe⟩ := id hLS
  have hO := MC_AOK hM
  have hnb : 2 + (c : Int) + 1 ≤ 2000 := by omega
  have hvb : 2 * (c : Int) + 2 ≤ 4000 := by omega
  have hcc : 600000 - (c + 1) + 1 = 600000 - c := by omega
  have hcap2 : Cap μ ε (600000 - (c + 1) + 1) := by rw [hcc]; exact hcap
  have hfE : ∀ b, 0 ≤ b → b < 8 → 0 ≤ fE (aF A) b ∧ fE (aF A) b ≤ 190000 := fun b b0 b1 => by have := hfe b b0 b1; omega
  have hD := hO.2.1
  refine wq_aload_n (pc := 881) dL_law_881 rfl rfl ?_
  refine wl_callV0 (ci := 6) (pc := 882) dL_law_882 (cw_L_143 _ rfl) (by decide) h6 ⟨by decide, by decide⟩ (Nat.le_of_ble_eq_true rfl) (sp_X6_isDark (t := 600000 - (c + 1)) hM hcap2 hnb hvb (fun m1 e1 hM9 hc9 hF9 => ?_))
  show wpL 885 _ [vI (fD (aF A))] _ _ _
  have hL1 : nL1 μ0 N c A A m1 e1 := nL1_of hLS hM9 hc9 hF9
  obtain ⟨⟨gM, gC, gcap⟩, gR, g5, g6, g7, g8⟩ := id hL1
  refine wq_aload_n (pc := 885) dL_law_885 rfl rfl ?_
  refine wl_callV0 (ci := 7) (pc := 886) dL_law_886 (cw_L_147 _ rfl) (by decide) gR.1.1 ⟨by decide, by decide⟩ (Nat.le_of_ble_eq_true rfl) (sq_X7_isDark gC hO (fun m2 hC2 hF2 => ?_))
  show wpL 889 _ [vI (fD (aF A)), vI (fD (aF A))] _ _ _
  refine wq_icmp_eq (pc := 889) (tgt := 1800) dL_law_889 (by decide) (by unfold inR; omega) (by unfold inR; omega) (fun _ => ?_) (fun c1 => absurd rfl c1)
  exact END _ _ _ (nLS_of hLS hL1 hC2 hF2 (fEok_r A))
theorem lc_mount0 {μ0 : nMem} {N : Int} {c : Nat} {A : AS} {μ : nMem} {ε : nEnv} (hs0 : ∀ j, inR (μ0 (-1) j)) (hN : 0 ≤ N ∧ N ≤ 3072) (hc : 6 * (c : Int) + 6 ≤ N) (hLS : nLS μ0 N c A μ ε) (END : ∀ A2 m e, nLS μ0 N (c + 1) A2 m e → wpL 1800 [(4, vI (6 * (c : Int))), (3, vR 56), (2, vR 21), (1, vR 1), (0, vR (-1))] [] m e Qlaw) (hz : μ0 (-1) (6 * (c : Int) + 1) = 0) : wpL 840 [(4, vI (6 * (c : Int))), (3, vR 56), (2, vR 21), (1, vR 1), (0, vR (-1))] [] μ ε Qlaw := by
  obtain ⟨⟨hM, hCM, hcap⟩, ⟨h4, h5, h6, h7, h8⟩, hfe⟩ := id hLS
  have hO := MC_AOK hM
  have hnb : 2 + (c : Int) + 1 ≤ 2000 := by omega
  have hvb : 2 * (c : Int) + 2 ≤ 4000 := by omega
  have hcc : 600000 - (c + 1) + 1 = 600000 - c := by omega
  have hcap2 : Cap μ ε (600000 - (c + 1) + 1) := by rw [hcc]; exact hcap
  have hfE : ∀ b, 0 ≤ b → b < 8 → 0 ≤ fE (aF A) b ∧ fE (aF A) b ≤ 190000 := fun b b0 b1 => by have := hfe b b0 b1; omega
  have hs01 : (0 : Int) = 0 ∨ (0 : Int) = 1 := by omega
  refine wq_aload_n (pc := 840) dL_law_840 rfl rfl ?_
  refine wq_aload_n (pc := 841) dL_law_841 rfl rfl ?_
  refine wq_iload (pc := 842) dL_law_842 rfl ?_
  refine wq_iconst (pc := 844) dL_law_844 ?_
  refine wq_iadd (pc := 845) dL_law_845 ?_
  refine wq_sld (pc := 846) dL_law_846 (by omega) (by rw [h8]; omega) ?_
  rw [h7]
  refine wq_if_eq (pc := 847) (tgt := 854) dL_law_847 (by decide) (hs0 _) (fun _ => ?_) (fun q => absurd hz q)
  refine wq_iconst (pc := 854) dL_law_854 ?_
  refine wl_callV (as := [vI 0]) (rest := []) (ci := 6) (pc := 855) dL_law_855 (cw_L_138 _ rfl) (by decide) h6 ⟨by decide, by decide⟩ (Nat.le_of_ble_eq_true rfl) (sp_X6_mount (s := 0) (t := 600000 - (c + 1)) hM hcap2 hnb hvb (by omega) hs01 (fun m1 e1 hM9 hc9 hF9 => ?_))
  obtain ⟨V, hV, hVi⟩ : ∃ V, (actMount A 0).1 = .inl V ∧ oc (actMount A 0).1 = .inl (some (vI V)) := ⟨_, rfl, rfl⟩
  rw [hVi]
  show wpL 858 _ [vI V] _ _ _
  have hL1 := nL1_of hLS hM9 hc9 hF9
  obtain ⟨⟨gM, gC, gcap⟩, gR, g5, g6, g7, g8⟩ := id hL1
  refine wq_aload_n (pc := 858) dL_law_858 rfl rfl ?_
  refine wq_aload_n (pc := 859) dL_law_859 rfl rfl ?_
  refine wq_iload (pc := 860) dL_law_860 rfl ?_
  refine wq_iconst (pc := 862) dL_law_862 ?_
  refine wq_iadd (pc := 863) dL_law_863 ?_
  refine wq_sld (pc := 864) dL_law_864 (by omega) (by rw [g8]; omega) ?_
  rw [g7]
  refine wq_if_eq (pc := 865) (tgt := 872) dL_law_865 (by decide) (hs0 _) (fun _ => ?_) (fun q => absurd hz q)
  refine wq_iconst (pc := 872) dL_law_872 ?_
  refine wl_callV (as := [vI 0]) (rest := [vI V]) (ci := 7) (pc := 873) dL_law_873 (cw_L_142 _ rfl) (by decide) gR.1.1 ⟨by decide, by decide⟩ (Nat.le_of_ble_eq_true rfl) (sp_X7_mount (s := 0) gC hO hs01 hfE (fun m2 v hC2 hF2 hv hvb2 => ?_))
  show wpL 876 _ [vI v, vI V] _ _ _
  have hvV : V = v := by rw [hV] at hv; injection hv
  refine wq_icmp_eq (pc := 876) (tgt := 1800) dL_law_876 (by decide) (by unfold inR; omega) (by unfold inR; omega) (fun _ => ?_) (fun c1 => absurd hvV c1)
  exact END _ _ _ (nLS_of hLS hL1 hC2 hF2 (fe_mount A 0))
theorem lc_mount1 {μ0 : nMem} {N : Int} {c : Nat} {A : AS} {μ : nMem} {ε : nEnv} (hs0 : ∀ j, inR (μ0 (-1) j)) (hN : 0 ≤ N ∧ N ≤ 3072) (hc : 6 * (c : Int) + 6 ≤ N) (hLS : nLS μ0 N c A μ ε) (END : ∀ A2 m e, nLS μ0 N (c + 1) A2 m e → wpL 1800 [(4, vI (6 * (c : Int))), (3, vR 56), (2, vR 21), (1, vR 1), (0, vR (-1))] [] m e Qlaw) (hz : ¬ μ0 (-1) (6 * (c : Int) + 1) = 0) : wpL 840 [(4, vI (6 * (c : Int))), (3, vR 56), (2, vR 21), (1, vR 1), (0, vR (-1))] [] μ ε Qlaw := by
  obtain ⟨⟨hM, hCM, hcap⟩, ⟨h4, h5, h6, h7, h8⟩, hfe⟩ := id hLS
  have hO := MC_AOK hM
  have hnb : 2 + (c : Int) + 1 ≤ 2000 := by omega
  have hvb : 2 * (c : Int) + 2 ≤ 4000 := by omega
  have hcc : 600000 - (c + 1) + 1 = 600000 - c := by omega
  have hcap2 : Cap μ ε (600000 - (c + 1) + 1) := by rw [hcc]; exact hcap
  have hfE : ∀ b, 0 ≤ b → b < 8 → 0 ≤ fE (aF A) b ∧ fE (aF A) b ≤ 190000 := fun b b0 b1 => by have := hfe b b0 b1; omega
  have hs01 : (1 : Int) = 0 ∨ (1 : Int) = 1 := by omega
  refine wq_aload_n (pc := 840) dL_law_840 rfl rfl ?_
  refine wq_aload_n (pc := 841) dL_law_841 rfl rfl ?_
  refine wq_iload (pc := 842) dL_law_842 rfl ?_
  refine wq_iconst (pc := 844) dL_law_844 ?_
  refine wq_iadd (pc := 845) dL_law_845 ?_
  refine wq_sld (pc := 846) dL_law_846 (by omega) (by rw [h8]; omega) ?_
  rw [h7]
  refine wq_if_eq (pc := 847) (tgt := 854) dL_law_847 (by decide) (hs0 _) (fun q => absurd q hz) (fun _ => ?_)
  refine wq_iconst (pc := 850) dL_law_850 ?_
  refine wq_goto (pc := 851) (tgt := 855) dL_law_851 (by decide) ?_
  refine wl_callV (as := [vI 1]) (rest := []) (ci := 6) (pc := 855) dL_law_855 (cw_L_138 _ rfl) (by decide) h6 ⟨by decide, by decide⟩ (Nat.le_of_ble_eq_true rfl) (sp_X6_mount (s := 1) (t := 600000 - (c + 1)) hM hcap2 hnb hvb (by omega) hs01 (fun m1 e1 hM9 hc9 hF9 => ?_))
  obtain ⟨V, hV, hVi⟩ : ∃ V, (actMount A 1).1 = .inl V ∧ oc (actMount A 1).1 = .inl (some (vI V)) := ⟨_, rfl, rfl⟩
  rw [hVi]
  show wpL 858 _ [vI V] _ _ _
  have hL1 := nL1_of hLS hM9 hc9 hF9
  obtain ⟨⟨gM, gC, gcap⟩, gR, g5, g6, g7, g8⟩ := id hL1
  refine wq_aload_n (pc := 858) dL_law_858 rfl rfl ?_
  refine wq_aload_n (pc := 859) dL_law_859 rfl rfl ?_
  refine wq_iload (pc := 860) dL_law_860 rfl ?_
  refine wq_iconst (pc := 862) dL_law_862 ?_
  refine wq_iadd (pc := 863) dL_law_863 ?_
  refine wq_sld (pc := 864) dL_law_864 (by omega) (by rw [g8]; omega) ?_
  rw [g7]
  refine wq_if_eq (pc := 865) (tgt := 872) dL_law_865 (by decide) (hs0 _) (fun q => absurd q hz) (fun _ => ?_)
  refine wq_iconst (pc := 868) dL_law_868 ?_
  refine wq_goto (pc := 869) (tgt := 873) dL_law_869 (by decide) ?_
  refine wl_callV (as := [vI 1]) (rest := [vI V]) (ci := 7) (pc := 873) dL_law_873 (cw_L_142 _ rfl) (by decide) gR.1.1 ⟨by decide, by decide⟩ (Nat.le_of_ble_eq_true rfl) (sp_X7_mount (s := 1) gC hO hs01 hfE (fun m2 v hC2 hF2 hv hvb2 => ?_))
  show wpL 876 _ [vI v, vI V] _ _ _
  have hvV : V = v := by rw [hV] at hv; injection hv
  refine wq_icmp_eq (pc := 876) (tgt := 1800) dL_law_876 (by decide) (by unfold inR; omega) (by unfold inR; omega) (fun _ => ?_) (fun c1 => absurd hvV c1)
  exact END _ _ _ (nLS_of hLS hL1 hC2 hF2 (fe_mount A 1))
theorem lc_mount {μ0 : nMem} {N : Int} {c : Nat} {A : AS} {μ : nMem} {ε : nEnv} (hs0 : ∀ j, inR (μ0 (-1) j)) (hN : 0 ≤ N ∧ N ≤ 3072) (hc : 6 * (c : Int) + 6 ≤ N) (hLS : nLS μ0 N c A μ ε) (END : ∀ A2 m e, nLS μ0 N (c + 1) A2 m e → wpL 1800 [(4, vI (6 * (c : Int))), (3, vR 56), (2, vR 21), (1, vR 1), (0, vR (-1))] [] m e Qlaw) : wpL 840 [(4, vI (6 * (c : Int))), (3, vR 56), (2, vR 21), (1, vR 1), (0, vR (-1))] [] μ ε Qlaw := by
  by_cases hz : μ0 (-1) (6 * (c : Int) + 1) = 0
  · exact lc_mount0 hs0 hN hc hLS END hz
  · exact lc_mount1 hs0 hN hc hLS END hz
theorem nAnd31 (x : Int) : 0 ≤ iAnd x 31 ∧ iAnd x 31 ≤ 31 := by
  have h : ∀ b : BitVec 32, (b &&& 31#32).toInt = ((b.setWidth 5).toNat : Int) := fun b => by
    have h : (b &&& 31#32).toNat = (b.setWidth 5).toNat := by
      rw [BitVec.toNat_and, BitVec.toNat_setWidth]
      exact Nat.and_two_pow_sub_one_eq_mod b.toNat 5
    rw [BitVec.toInt_eq_toNat_of_lt, h]
    have := (b.setWidth 5).isLt
    omega
  have e : iAnd x 31 = (((Int32.ofInt x).toBitVec.setWidth 5).toNat : Int) := h (Int32.ofInt x).toBitVec
  have := ((Int32.ofInt x).toBitVec.setWidth 5).isLt
  omega
theorem nLS_up {μ0 : nMem} {N : Int} {c : Nat} {A : AS} {μ : nMem} {ε : nEnv} (h : nLS μ0 N c A μ ε) (hc : 6 * (c : Int) ≤ 3072) : nLS μ0 N (c + 1) A μ ε := by
  obtain ⟨⟨hM, hCM, hcap⟩, hw, hfe⟩ := h
  refine ⟨⟨?_, hCM, Cap_mono hcap (by omega)⟩, hw, fun b b0 b1 => by have := hfe b b0 b1; omega⟩
  obtain ⟨S, a1, a2, a3, a4, a5, a6⟩ := hM
  exact MC_mono a1 a2 a3 a4 a5 a6 (by omega) (by omega) (by omega)
theorem law_step {μ0 : nMem} {N : Int} {c : Nat} {A : AS} {μ : nMem} {ε : nEnv} (hs0 : ∀ j, inR (μ0 (-1) j)) (hN : 0 ≤ N ∧ N ≤ 3072) (hcN : 6 * (c : Int) ≤ N) (hLS : nLS μ0 N c A μ ε) (NX : 6 * (c : Int) + 6 ≤ N → ∀ A2 m e, nLS μ0 N (c + 1) A2 m e → wpL 23 [(4, vI (6 * ((c + 1 : Nat) : Int))), (3, vR 56), (2, vR 21), (1, vR 1), (0, vR (-1))] [] m e Qlaw) : wpL 23 [(4, vI (6 * (c : Int))), (3, vR 56), (2, vR 21), (1, vR 1), (0, vR (-1))] [] μ ε Qlaw := by
  obtain ⟨⟨hM, hCM, hcap⟩, ⟨h4, h5, h6, h7, h8⟩, hfe⟩ := id hLS
  refine wq_iload (pc := 23) dL_law_23 rfl ?_
  refine wq_aload_n (pc := 25) dL_law_25 rfl rfl ?_
  refine wq_slen (pc := 26) dL_law_26 ?_
  rw [h8]
  refine wq_bipush (pc := 27) dL_law_27 (by decide) (by decide) ?_
  refine wq_isub (pc := 29) dL_law_29 ?_
  refine wq_icmp_gt (pc := 30) (tgt := 1806) dL_law_30 (by decide) (by unfold inR; omega) (by unfold inR; omega) (fun _ => ?_) (fun c1 => ?_)
  · refine wq_iconst (pc := 1806) dL_law_1806 ?_
    exact wl_zret (pc := 1807) dL_law_1807 (Or.inr rfl) rfl
  · have hc : 6 * (c : Int) + 6 ≤ N := by omega
    have END : ∀ A2 m e, nLS μ0 N (c + 1) A2 m e → wpL 1800 [(4, vI (6 * (c : Int))), (3, vR 56), (2, vR 21), (1, vR 1), (0, vR (-1))] [] m e Qlaw := fun A2 m e h2 => by
      refine wq_iinc (pc := 1800) (L' := [(4, vI (6 * (c : Int) + 6)), (3, vR 56), (2, vR 21), (1, vR 1), (0, vR (-1))]) dL_law_1800 rfl rfl (by decide) ?_
      refine wq_goto (pc := 1803) (tgt := 23) dL_law_1803 (by decide) ?_
      rw [show 6 * (c : Int) + 6 = 6 * ((c + 1 : Nat) : Int) by omega]
      exact NX hc A2 m e h2
    refine wq_aload_n (pc := 33) dL_law_33 rfl rfl ?_
    refine wq_iload (pc := 34) dL_law_34 rfl ?_
    refine wq_sld (pc := 36) dL_law_36 (by omega) (by rw [h8]; omega) ?_
    rw [h7]
    refine wq_bipush (pc := 37) dL_law_37 (by decide) (by decide) ?_
    refine wq_iand (pc := 39) dL_law_39 ?_
    obtain ⟨x0, x1⟩ := nAnd31 (μ0 (-1) (6 * (c : Int)))
    generalize iAnd (μ0 (-1) (6 * (c : Int))) 31 = x at x0 x1 ⊢
    have hx : inR x := by unfold inR; omega
    by_cases e0 : x = 0
    · subst e0
      exact wq_tabIn (pc := 40) (tgt := 160) dL_law_40 hx (by decide) (by decide) rfl (by decide) (lc_create hs0 hN hc hLS END)
    by_cases e1 : x = 1
    · subst e1
      exact wq_tabIn (pc := 40) (tgt := 228) dL_law_40 hx (by decide) (by decide) rfl (by decide) (lc_makeDirectory hs0 hN hc hLS END)
    by_cases e2 : x = 2
    · subst e2
      exact wq_tabIn (pc := 40) (tgt := 296) dL_law_40 hx (by decide) (by decide) rfl (by decide) (lc_link hs0 hN hc hLS END)
    by_cases e3 : x = 3
    · subst e3
      exact wq_tabIn (pc := 40) (tgt := 376) dL_law_40 hx (by decide) (by decide) rfl (by decide) (lc_unlink hs0 hN hc hLS END)
    by_cases e4 : x = 4
    · subst e4
      exact wq_tabIn (pc := 40) (tgt := 444) dL_law_40 hx (by decide) (by decide) rfl (by decide) (lc_rename hs0 hN hc hLS END)
    by_cases e5 : x = 5
    · subst e5
      exact wq_tabIn (pc := 40) (tgt := 536) dL_law_40 hx (by decide) (by decide) rfl (by decide) (lc_write hs0 hN hc hLS END)
    by_cases e6 : x = 6
    · subst e6
      exact wq_tabIn (pc := 40) (tgt := 660) dL_law_40 hx (by decide) (by decide) rfl (by decide) (lc_truncate hs0 hN hc hLS END)
    by_cases e7 : x = 7
    · subst e7
      exact wq_tabIn (pc := 40) (tgt := 728) dL_law_40 hx (by decide) (by decide) rfl (by decide) (lc_collect hs0 hN hc hLS END)
    by_cases e8 : x = 8
    · subst e8
      exact wq_tabIn (pc := 40) (tgt := 784) dL_law_40 hx (by decide) (by decide) rfl (by decide) (lc_cut hs0 hN hc hLS END)
    by_cases e9 : x = 9
    · subst e9
      exact wq_tabIn (pc := 40) (tgt := 840) dL_law_40 hx (by decide) (by decide) rfl (by decide) (lc_mount hs0 hN hc hLS END)
    by_cases e10 : x = 10
    · subst e10
      exact wq_tabIn (pc := 40) (tgt := 881) dL_law_40 hx (by decide) (by decide) rfl (by decide) (lc_isDark hs0 hN hc hLS END)
    by_cases e11 : x = 11
    · subst e11
      exact wq_tabIn (pc := 40) (tgt := 894) dL_law_40 hx (by decide) (by decide) rfl (by decide) (lc_lookUp hs0 hN hc hLS END)
    by_cases e12 : x = 12
    · subst e12
      exact wq_tabIn (pc := 40) (tgt := 962) dL_law_40 hx (by decide) (by decide) rfl (by decide) (lc_names hs0 hN hc hLS END)
    by_cases e13 : x = 13
    · subst e13
      exact wq_tabIn (pc := 40) (tgt := 1018) dL_law_40 hx (by decide) (by decide) rfl (by decide) (lc_nameAt hs0 hN hc hLS END)
    by_cases e14 : x = 14
    · subst e14
      exact wq_tabIn (pc := 40) (tgt := 1086) dL_law_40 hx (by decide) (by decide) rfl (by decide) (lc_isDirectory hs0 hN hc hLS END)
    by_cases e15 : x = 15
    · subst e15
      exact wq_tabIn (pc := 40) (tgt := 1149) dL_law_40 hx (by decide) (by decide) rfl (by decide) (lc_links hs0 hN hc hLS END)
    by_cases e16 : x = 16
    · subst e16
      exact wq_tabIn (pc := 40) (tgt := 1205) dL_law_40 hx (by decide) (by decide) rfl (by decide) (lc_length hs0 hN hc hLS END)
    by_cases e17 : x = 17
    · subst e17
      exact wq_tabIn (pc := 40) (tgt := 1261) dL_law_40 hx (by decide) (by decide) rfl (by decide) (lc_byteAt hs0 hN hc hLS END)
    by_cases e18 : x = 18
    · subst e18
      exact wq_tabIn (pc := 40) (tgt := 1329) dL_law_40 hx (by decide) (by decide) rfl (by decide) (lc_byteByNodes hs0 hN hc hLS END)
    by_cases e19 : x = 19
    · subst e19
      exact wq_tabIn (pc := 40) (tgt := 1397) dL_law_40 hx (by decide) (by decide) rfl (by decide) (lc_state hs0 hN hc hLS END)
    by_cases e20 : x = 20
    · subst e20
      exact wq_tabIn (pc := 40) (tgt := 1453) dL_law_40 hx (by decide) (by decide) rfl (by decide) (lc_dead hs0 hN hc hLS END)
    by_cases e21 : x = 21
    · subst e21
      exact wq_tabIn (pc := 40) (tgt := 1509) dL_law_40 hx (by decide) (by decide) rfl (by decide) (lc_toCopy hs0 hN hc hLS END)
    by_cases e22 : x = 22
    · subst e22
      exact wq_tabIn (pc := 40) (tgt := 1565) dL_law_40 hx (by decide) (by decide) rfl (by decide) (lc_written hs0 hN hc hLS END)
    by_cases e23 : x = 23
    · subst e23
      exact wq_tabIn (pc := 40) (tgt := 1621) dL_law_40 hx (by decide) (by decide) rfl (by decide) (lc_nodes hs0 hN hc hLS END)
    by_cases e24 : x = 24
    · subst e24
      exact wq_tabIn (pc := 40) (tgt := 1677) dL_law_40 hx (by decide) (by decide) rfl (by decide) (lc_node hs0 hN hc hLS END)
    by_cases e25 : x = 25
    · subst e25
      exact wq_tabIn (pc := 40) (tgt := 1744) dL_law_40 hx (by decide) (by decide) rfl (by decide) (lc_erased hs0 hN hc hLS END)
    refine wq_tabOut (pc := 40) (tgt := 1800) dL_law_40 hx (by omega) (by decide) ?_
    exact END _ _ _ (nLS_up hLS (by omega))
theorem law_loop {μ0 : nMem} {N : Int} (hs0 : ∀ j, inR (μ0 (-1) j)) (hN : 0 ≤ N ∧ N ≤ 3072) : ∀ (n c : Nat) (A : AS) (μ : nMem) (ε : nEnv), N < 6 * ((c + n : Nat) : Int) → 6 * (c : Int) ≤ N → nLS μ0 N c A μ ε → wpL 23 [(4, vI (6 * (c : Int))), (3, vR 56), (2, vR 21), (1, vR 1), (0, vR (-1))] [] μ ε Qlaw
  | 0, c, A, μ, ε, h, hc, hLS => by exfalso; omega
  | n + 1, c, A, μ, ε, h, hc, hLS => law_step hs0 hN hc hLS (fun h6 A2 m e h2 => law_loop hs0 hN n (c + 1) A2 m e (by omega) (by omega) h2)
theorem nLS_0 {μ0 : nMem} {N : Int} {μ : nMem} {ε : nEnv} (h : St1 μ0 N μ ε) : nLS μ0 N 0 nA0 μ ε := by
  obtain ⟨hM, hR, h5, h7, h8, hcap, z, r35, ⟨f16, f17, f20, f22⟩, fz, rz⟩ := h
  have hz : ∀ x, 22 ≤ x → x ≤ 55 → ∀ j, ¬ (0 ≤ j ∧ j < 8) → μ x j = 0 := fun x x0 x1 j hj => by
    by_cases q : x = 35
    · rw [q]; exact (rz j hj).1
    · by_cases q2 : x = 37
      · rw [q2]; exact (rz j hj).2
      · exact z x x0 x1 q q2 j
  have hk1 : eKind ε 1 = 7 := by
    obtain ⟨S, ⟨⟨hs, -⟩, -⟩, -⟩ := id hM
    exact (hs 1 _ _ _ rfl (by decide)).1
  refine ⟨⟨hM, ⟨⟨skM_of hR, fun x j x0 x1 x2 => ?_, ⟨fun b b0 b1 => ⟨z 34 (by decide) (by decide) (by decide) (by decide) b, (r35 b b0 b1).1, z 36 (by decide) (by decide) (by decide) (by decide) b⟩, fun i i0 i1 q => ?_⟩, Or.inl (fz 27 (by decide) (by decide) (by decide) (by decide))⟩, ⟨f20, fz 21 (by decide) (by decide) (by decide) (by decide)⟩, fun _ => ⟨⟨f17, f16, fun i hi => ?_, fz 19 (by decide) (by decide) (by decide) (by decide), fun i hi => absurd hi (Nat.not_lt_zero i)⟩, f22, fun n n0 n1 => ⟨z 39 (by decide) (by decide) (by decide) (by decide) n, z 40 (by decide) (by decide) (by decide) (by decide) n⟩⟩⟩, hcap⟩, ⟨hR, h5, hk1, h7, h8⟩, fun b b0 b1 => ?_⟩
  · by_cases hj : 0 ≤ j ∧ j < 8
    · have r := r35 j hj.1 hj.2
      by_cases q : x = 35
      · subst q; rw [r.1]; decide
      · by_cases q2 : x = 37
        · subst q2; rw [r.2]
          have : hiM 37 = 7 := by decide
          omega
        · rw [z x x0 x1 q q2 j]; have := hiM_r x; omega
    · rw [hz x x0 x1 j hj]; have := hiM_r x; omega
  · exfalso
    have : i % 16 < 0 := q
    omega
  · have hi8 : i < 8 := hi
    rw [(r35 i (by omega) (by omega)).2]
    match i, hi8 with
    | 0, _ => rfl
    | 1, _ => rfl
    | 2, _ => rfl
    | 3, _ => rfl
    | 4, _ => rfl
    | 5, _ => rfl
    | 6, _ => rfl
    | 7, _ => rfl
  · show (0 : Int) ≤ 0 ∧ (0 : Int) ≤ 8 * ((0 : Nat) : Int); omega
theorem law_all {L : Nat} (hL : L ≤ 3072) (μ : nMem) (hs : ∀ j, inR (μ (-1) j)) : wpL 0 [(0, vR (-1))] [] μ (ε0 L) Qlaw :=
  law_start1 (N := L) (fun m e h => law_loop hs (by omega) (L + 1) 0 nA0 m e (by omega) (by omega) (nLS_0 h))
