theorem sp_X5_drop {μ : nMem} {ε : nEnv} {Q : nOut → nMem → nEnv → Prop} {S : Tr} {g nn : Int} (hT : CT S μ ε) (hA : tAt S μ g nn) (h : ∀ μ9 l, tDr (tNl S) nn l → CT (tNx S, l, tFd S, tCl S) μ9 ε → FrT μ ε μ9 ε → (∀ b n, n ≠ nn → tAt S μ b n → tAt (tNx S, l, tFd S, tCl S) μ9 b n) → Q (.inl none) μ9 ε) : Sp mX5_drop [vR 12, vR g] μ ε Q := by
  refine Sp_of (L := [(0, vR 12), (1, vR g)]) (by decide) rfl rfl (Nat.le_of_ble_eq_true rfl) ?_
  have hs := hT.1
  have hl := hT.2.2.2.1
  have hc := hT.2.2.2.2.1
  obtain ⟨p0, hp, en, hg⟩ := hA
  obtain ⟨i0, hi0⟩ : ∃ i0 : Int, i0 = p0 := ⟨_, rfl⟩
  obtain ⟨N, hN⟩ : ∃ N : Nat, (tNl S).length = N + 1 := ⟨(tNl S).length - 1, by omega⟩
  have hsh : ∀ k : Nat, k ≤ N → μ 13 k ≠ 0 ∧ isItm ε (μ 13 k) ∧ (μ 13 k = 15 ∨ 25 < μ 13 k) ∧ (eFin ε (μ 13 k) 0 = 16 ∨ 25 < eFin ε (μ 13 k) 0) := fun k hk => tAt_sh hT (CT_it hT (i := k) (by omega))
  have hinj : ∀ k : Nat, k ≤ N → μ 13 k = g → (k : Int) = p0 := fun k hk e => hT.2.1.2.1 k p0 (by omega) (by omega) (by omega) (by omega) (hsh k hk).1 (by rw [e, hg])
  obtain ⟨gg0, ⟨hkg, -, -⟩, gg2, -⟩ := hsh p0 (by omega)
  obtain ⟨-, ⟨hkN, -, -⟩, -, -⟩ := hsh N (by omega)
  rw [hg] at gg0 hkg gg2
  rw [← hi0] at hg
  have hkN : eKind ε (μ 13 (μ 12 2 - 1)) = 2 := by rw [show μ 12 2 - 1 = (N : Int) by omega]; exact hkN
  refine wq_aload_n (pc := 0) dX5_drop_0 rfl rfl ?_
  refine wq_getIK (pc := 1) (kk := 2) dX5_drop_1 hs (gf_X5_23 _ rfl) rfl rfl rfl rfl ?_
  refine wq_iconst (pc := 4) dX5_drop_4 ?_
  refine wq_isub (pc := 5) dX5_drop_5 ?_
  refine wq_istore_n (pc := 6) (L' := [(2, _), (0, _), (1, _)]) dX5_drop_6 rfl rfl (by decide) ?_
  refine wq_iconst (pc := 7) dX5_drop_7 ?_
  refine wq_istore_n (pc := 8) (L' := [(3, _), (2, _), (0, _), (1, _)]) dX5_drop_8 rfl rfl (by decide) ?_
  have loop1 : ∀ (n k : Nat), ∀ (m : nMem) (i : Int), k ≤ N → N < k + n → i = (k : Int) → (∀ x j, x ≠ 13 → m x j = μ x j) → (∀ j, m 13 j = if (k : Int) ≤ i0 then μ 13 j else μ 13 (sw i0 N j)) → wp mX5_drop 9 [(0, vR 12), (1, vR g), (2, vI (μ 12 2 - 1)), (3, vI i)] [] m ε Q := by
    intro n
    induction n with
    | zero => intro k m i hk1 hk2 e0 e1 e2; exact absurd hk2 (by omega)
    | succ n ih =>
      intro k m i hk1 hk2 e0 e1 e2
      subst e0
      have mk : (k : Int) < N → m 13 k = μ 13 k := fun q => by
        rw [e2]; split
        · rfl
        · unfold sw; rw [if_neg (by omega), if_neg (by omega)]
      have mN : (k : Int) ≤ i0 → m 13 (μ 12 2 - 1) = μ 13 (μ 12 2 - 1) := fun q => by rw [e2, if_pos q]
      obtain ⟨sk0, sk1, sk2, -⟩ := hsh k (by omega)
      have hq := hinj k (by omega)
      refine wq_iload_n (pc := 9) dX5_drop_9 rfl rfl ?_
      refine wq_iload_n (pc := 10) dX5_drop_10 rfl rfl ?_
      refine wq_icmp_ge (pc := 11) (tgt := 56) dX5_drop_11 (by decide) (by first | (unfold inR; omega) | assumption) (by first | (unfold inR; omega) | assumption) (fun c2 => ?_) (fun c2 => ?_)
      · skip
        refine wq_aload_n (pc := 56) dX5_drop_56 rfl rfl ?_
        refine wq_iload_n (pc := 57) dX5_drop_57 rfl rfl ?_
        refine wq_iconst (pc := 58) dX5_drop_58 ?_
        refine cS_2 (pc := 59) dX5_drop_59 (cw_X5_53 _ rfl) ⟨by decide, by decide⟩ (Nat.le_of_ble_eq_true rfl) (sp_J9_max (by unfold inR; omega) (by unfold inR; omega) ?_)
        refine kr_s ?_
        refine wq_putIK (pc := 62) (kk := 2) dX5_drop_62 hs (gf_X5_23 _ rfl) rfl rfl rfl rfl rfl ?_
        refine wq_vret (pc := 65) dX5_drop_65 rfl ?_
        have hm : ∀ j, m 13 j = μ 13 (sw p0 (((tNl S).length : Int) - 1) j) := fun j => by
          rw [e2, ← hi0, show ((tNl S).length : Int) - 1 = N by omega]
          split
          · have e9 : i0 = N := by omega
            rw [e9, show sw (N : Int) N j = j by unfold sw; (repeat' split) <;> omega]
          · rfl
        obtain ⟨r1, r2, r3⟩ := CT_drop (m := wr m 12 2 (max (μ 12 2 - 1) 0)) hT hp (fun j => by rw [wr_n _ _ (by omega)]; exact hm j) ⟨by rw [wr_s]; omega, by rw [wr_n _ _ (by omega)]; exact e1 12 3 (by omega)⟩ (fun x j x1 x2 => by rw [wr_n _ _ (by omega)]; exact e1 x j x2)
        rw [en] at r3
        exact h _ _ (en ▸ dropL_ok hT.2.2.1 hp) r1 r2 r3
      · skip
        refine wq_iload_n (pc := 14) dX5_drop_14 rfl rfl ?_
        refine wq_sipush (pc := 15) dX5_drop_15 (by decide) (by decide) ?_
        refine wq_icmp_ge (pc := 18) (tgt := 56) dX5_drop_18 (by decide) (by first | (unfold inR; omega) | assumption) (by first | (unfold inR; omega) | assumption) (fun c3 => ?_) (fun c3 => ?_)
        · skip
          refine wq_aload_n (pc := 56) dX5_drop_56 rfl rfl ?_
          refine wq_iload_n (pc := 57) dX5_drop_57 rfl rfl ?_
          refine wq_iconst (pc := 58) dX5_drop_58 ?_
          refine cS_2 (pc := 59) dX5_drop_59 (cw_X5_53 _ rfl) ⟨by decide, by decide⟩ (Nat.le_of_ble_eq_true rfl) (sp_J9_max (by unfold inR; omega) (by unfold inR; omega) ?_)
          refine kr_s ?_
          refine wq_putIK (pc := 62) (kk := 2) dX5_drop_62 hs (gf_X5_23 _ rfl) rfl rfl rfl rfl rfl ?_
          refine wq_vret (pc := 65) dX5_drop_65 rfl ?_
          have hm : ∀ j, m 13 j = μ 13 (sw p0 (((tNl S).length : Int) - 1) j) := fun j => by
            rw [e2, ← hi0, show ((tNl S).length : Int) - 1 = N by omega]
            split
            · have e9 : i0 = N := by omega
              rw [e9, show sw (N : Int) N j = j by unfold sw; (repeat' split) <;> omega]
            · rfl
          obtain ⟨r1, r2, r3⟩ := CT_drop (m := wr m 12 2 (max (μ 12 2 - 1) 0)) hT hp (fun j => by rw [wr_n _ _ (by omega)]; exact hm j) ⟨by rw [wr_s]; omega, by rw [wr_n _ _ (by omega)]; exact e1 12 3 (by omega)⟩ (fun x j x1 x2 => by rw [wr_n _ _ (by omega)]; exact e1 x j x2)
          rw [en] at r3
          exact h _ _ (en ▸ dropL_ok hT.2.2.1 hp) r1 r2 r3
        · skip
          refine wq_aload_n (pc := 21) dX5_drop_21 rfl rfl ?_
          refine wq_getS (pc := 22) dX5_drop_22 hs (gf_X5_13 _ rfl) rfl rfl rfl rfl rfl ?_
          refine wq_iload_n (pc := 25) dX5_drop_25 rfl rfl ?_
          refine wq_aaldIK (pc := 26) dX5_drop_26 hs rfl (by omega) (by omega) ?_
          refine wq_aload_n (pc := 27) dX5_drop_27 rfl rfl ?_
          refine wq_acmp_ne (pc := 28) (tgt := 50) dX5_drop_28 (by decide) (by omega) (by omega) (fun c4 => ?_) (fun c4 => ?_)
          · skip
            refine wq_iinc (pc := 50) (L' := [(3, _), (0, _), (1, _), (2, _)]) dX5_drop_50 rfl rfl (by decide) ?_
            refine wq_goto (pc := 53) (tgt := 9) dX5_drop_53 (by decide) ?_
            refine wq_sub1 (L' := [(0, _), (1, _), (2, _), (3, _)]) ⟨rfl, rfl, rfl, rfl, trivial⟩ ?_
            first
              | (refine ih (k + 1) _ _ (by omega) (by omega) (by omega) (fun x j hx => by rw [wr_n _ _ (fun q => hx q.1), wr_n _ _ (fun q => hx q.1)]; exact e1 x j hx) (fun j => ?_)
                 rw [if_neg (by omega)]
                 by_cases ea : j = N
                 · subst ea; rw [show μ 12 2 - 1 = (N : Int) by omega, wr_s]; unfold sw; rw [if_neg (by omega), if_pos rfl]; exact hg.symm
                 · rw [wr_n _ _ (by omega)]
                   by_cases eb : j = k
                   · subst eb; rw [wr_s, mN (by omega)]; unfold sw; rw [if_pos (by omega)]; congr 1; omega
                   · rw [wr_n _ _ (fun q => eb q.2), e2, if_pos (by omega)]; unfold sw; rw [if_neg (by omega), if_neg (by omega)])
              | (refine ih (k + 1) _ _ (by omega) (by omega) (by omega) e1 (fun j => ?_)
                 have hki : (k : Int) ≠ i0 := fun q => by (have z : m 13 k = g := by rw [mk (by omega), q]; exact hg); first | contradiction | omega
                 rw [e2]
                 by_cases ea : (k : Int) ≤ i0
                 · rw [if_pos ea, if_pos (by omega)]
                 · rw [if_neg ea, if_neg (by omega)])
          · skip
            have hki : (k : Int) = i0 := by have := hq (by omega); omega
            refine wq_aload_n (pc := 31) dX5_drop_31 rfl rfl ?_
            refine wq_getS (pc := 32) dX5_drop_32 hs (gf_X5_13 _ rfl) rfl rfl rfl rfl rfl ?_
            refine wq_iload_n (pc := 35) dX5_drop_35 rfl rfl ?_
            refine wq_aload_n (pc := 36) dX5_drop_36 rfl rfl ?_
            refine wq_getS (pc := 37) dX5_drop_37 hs (gf_X5_13 _ rfl) rfl rfl rfl rfl rfl ?_
            refine wq_iload_n (pc := 40) dX5_drop_40 rfl rfl ?_
            refine wq_aaldIK (pc := 41) dX5_drop_41 hs rfl (by omega) (by omega) ?_
            refine wq_aastIK (pc := 42) dX5_drop_42 hs rfl (by omega) (by omega) (by first | with_reducible assumption | (rw [mN (by omega)]; with_reducible assumption)) ?_
            refine wq_aload_n (pc := 43) dX5_drop_43 rfl rfl ?_
            refine wq_getS (pc := 44) dX5_drop_44 hs (gf_X5_13 _ rfl) rfl rfl rfl rfl rfl ?_
            refine wq_iload_n (pc := 47) dX5_drop_47 rfl rfl ?_
            refine wq_aload_n (pc := 48) dX5_drop_48 rfl rfl ?_
            refine wq_aastIK (pc := 49) dX5_drop_49 hs rfl (by omega) (by omega) (by first | with_reducible assumption | (rw [mN (by omega)]; with_reducible assumption)) ?_
            refine wq_iinc (pc := 50) (L' := [(3, _), (0, _), (1, _), (2, _)]) dX5_drop_50 rfl rfl (by decide) ?_
            refine wq_goto (pc := 53) (tgt := 9) dX5_drop_53 (by decide) ?_
            refine wq_sub1 (L' := [(0, _), (1, _), (2, _), (3, _)]) ⟨rfl, rfl, rfl, rfl, trivial⟩ ?_
            first
              | (refine ih (k + 1) _ _ (by omega) (by omega) (by omega) (fun x j hx => by rw [wr_n _ _ (fun q => hx q.1), wr_n _ _ (fun q => hx q.1)]; exact e1 x j hx) (fun j => ?_)
                 rw [if_neg (by omega)]
                 by_cases ea : j = N
                 · subst ea; rw [show μ 12 2 - 1 = (N : Int) by omega, wr_s]; unfold sw; rw [if_neg (by omega), if_pos rfl]; exact hg.symm
                 · rw [wr_n _ _ (by omega)]
                   by_cases eb : j = k
                   · subst eb; rw [wr_s, mN (by omega)]; unfold sw; rw [if_pos (by omega)]; congr 1; omega
                   · rw [wr_n _ _ (fun q => eb q.2), e2, if_pos (by omega)]; unfold sw; rw [if_neg (by omega), if_neg (by omega)])
              | (refine ih (k + 1) _ _ (by omega) (by omega) (by omega) e1 (fun j => ?_)
                 have hki : (k : Int) ≠ i0 := fun q => by (have z : m 13 k = g := by rw [mk (by omega), q]; exact hg); first | contradiction | omega
                 rw [e2]
                 by_cases ea : (k : Int) ≤ i0
                 · rw [if_pos ea, if_pos (by omega)]
                 · rw [if_neg ea, if_neg (by omega)])
  refine wq_sub1 (L' := [(0, _), (1, _), (2, _), (3, _)]) ⟨rfl, rfl, rfl, rfl, trivial⟩ ?_
  exact loop1 (N + 1) 0 μ _ (by omega) (by omega) (by omega) (fun _ _ _ => rfl) (fun j => by rw [if_pos (by omega)])
