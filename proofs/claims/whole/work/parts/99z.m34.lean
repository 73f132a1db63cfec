theorem sp_X7_mount {μ : nMem} {ε : nEnv} {Q : nOut → nMem → nEnv → Prop} {A : AS} {nb vb s : Int} (hC : CM A μ ε) (hO : AOK A nb vb) (hs01 : s = 0 ∨ s = 1) (hfE0 : ∀ b, 0 ≤ b → b < 8 → 0 ≤ fE (aF A) b ∧ fE (aF A) b ≤ 190000) (h : ∀ m v, CM (actMount A s).2 m ε → FrM μ m → (actMount A s).1 = .inl v → -9 ≤ v ∧ v ≤ 800 → Q (.inl (some (vI v))) m ε) : Sp mX7_mount [vR 21, vI s] μ ε Q := by
  refine Sp_of (L := [(0, vR 21), (1, vI s)]) (by decide) rfl rfl (Nat.le_of_ble_eq_true rfl) ?_
  have hs := hC.1.1
  have hb := hC.1.2.1
  have hR := hC.1.2.2.1
  have hA := (AOK_KP hO).1
  have hp := hC.2.1.1
  have hlf : -1 ≤ fL (fSetD (aF A) 0) ∧ fL (fSetD (aF A) 0) ≤ 1000 := hO.1.2.2.2.1
  have hfE : ∀ b, 0 ≤ b → b < 8 → 0 ≤ fE (fSetD (aF A) 0) b ∧ fE (fSetD (aF A) 0) b ≤ 190000 := hfE0
  unfold actMount actMount2 at h
  generalize aF A = F at hR hA hp hlf hfE h
  have cut1 : ∀ (m : nMem), (mB m) → (∀ x j, ¬ (x = 21 ∧ (j = 16 ∨ j = 17 ∨ j = 19 ∨ j = 21 ∨ j = 25 ∨ j = 27)) → m x j = μ x j) → (m 21 17 = (gCur F 8) ∧ m 21 16 = 0 ∧ m 21 19 = 0 ∧ m 21 21 = 0 ∧ m 21 25 = 0 ∧ m 21 27 = 0) → (0 ≤ rdS F s 8 ∧ rdS F s 8 ≤ 800) → wp mX7_mount 149 [(0, vR 21), (1, vI s), (2, vI (rdS F s 8))] [] m ε Q := by
    intro m e0 e1 e2 e3
    have hrd := e3
    refine wq_iconst (pc := 149) dX7_mount_149 ?_
    refine wq_istore_n (pc := 150) (L' := [(3, _), (0, _), (1, _), (2, _)]) dX7_mount_150 rfl rfl (by decide) ?_
    have loop2 : ∀ (n k : Nat), ∀ (m : nMem) (j : Int), k ≤ 8 → 8 < k + n → j = (k : Int) → mB m → (∀ x j, x ≠ 37 → x ≠ 38 → ¬ (x = 21 ∧ (j = 16 ∨ j = 17 ∨ j = 19 ∨ j = 21 ∨ j = 25 ∨ j = 27)) → m x j = μ x j) → m 21 17 = (gCur F 8) ∧ m 21 21 = 0 ∧ m 21 25 = 0 ∧ m 21 27 = 0 → m 21 16 = ((gFree F k).length : Nat) ∧ m 21 19 = ((gClosed F (gCur F 8) k).length : Nat) → (∀ i : Nat, i < (gFree F k).length → m 37 i = (gFree F k).getD i 0) → (∀ i : Nat, i < (gClosed F (gCur F 8) k).length → m 38 i = (gClosed F (gCur F 8) k).getD i 0) → wp mX7_mount 151 [(0, vR 21), (1, vI s), (2, vI (rdS F s 8)), (3, vI j)] [] m ε Q := by
      intro n
      induction n with
      | zero => intro k m j hk1 hk2 e0 e1 e2 e3 e4 e5 e6; exact absurd hk2 (by omega)
      | succ n ih =>
        intro k m j hk1 hk2 e0 e1 e2 e3 e4 e5 e6
        subst e0
        have rk : inR (k : Int) := by unfold inR; omega
        have hRm := RM_cg hR (m := m) (fun x j x0 x1 => e2 x j (by omega) (by omega) (by omega))
        have hbk : (k : Int) < 8 → _ := fun z => hRm.1 k (by omega) z
        have hpb : (k : Int) < 8 → _ := fun z => hA k (by omega) z
        have gr := gCur_r F 8
        have r17 : inR (m 21 17) := by unfold inR; omega
        have gf := gFree_n F k
        have gl := gClosed_len F (gCur F 8) k
        have gfs := gFree_s F k
        have gcs := gClosed_s F (gCur F 8) k
        have g35 := b35 e1 (k : Int)
        have g34 := b34 e1 (k : Int)
        have r34 : inR (m 34 (k : Int)) := by unfold inR; omega
        have r35 : inR (m 35 (k : Int)) := by unfold inR; omega
        refine wq_iload_n (pc := 151) dX7_mount_151 rfl rfl ?_
        refine wq_bipush (pc := 152) dX7_mount_152 (by decide) (by decide) ?_
        refine wq_icmp_ge (pc := 154) (tgt := 233) dX7_mount_154 (by decide) (by first | (unfold inR; omega) | assumption) (by first | (unfold inR; omega) | assumption) (fun c3 => ?_) (fun c3 => ?_)
        · skip
          have hk9 : k = 8 := by omega
          subst hk9
          have hR0 : RM (fSetD F 0) m := RM_D1 (RM_cg hR (m := m) (fun x j x0 x1 => e2 x j (by omega) (by omega) (by omega))) 0
          have hA0 : PA (fSetD F 0) := PB_D hA
          have hG0 : GM (gOf (fSetD F 0)) m := by
            rw [gOf_D]
            exact ⟨e3.1, e4.1, e5, e4.2, e6⟩
          have hp0 : pw (fSetD F 0) m := ⟨(e2 21 20 (by omega) (by omega) (by omega)).trans hp, e3.2.1⟩
          have ht0 := e3.2.2.1
          have hl0 := e3.2.2.2
          have hZ := gOf_ok hA0 hlf
          have hFm : FrM μ m := fun x j hx => e2 x j (by omega) (by omega) (by omega)
          refine wq_aload_n (pc := 233) dX7_mount_233 rfl rfl ?_
          refine cVK_0 (pc := 234) dX7_mount_234 hs (cw_X7_286 _ rfl) (by decide) rfl ⟨by decide, by decide⟩ (Nat.le_of_ble_eq_true rfl) (sp_X7_layVersions hs e1 hR0 hA0 (fun mv hbv fv nxv vv => ?_))
          refine kr_v ?_
          refine wq_iconst (pc := 237) dX7_mount_237 ?_
          refine wq_istore_n (pc := 238) (L' := [(3, _), (0, _), (1, _), (2, _)]) dX7_mount_238 rfl rfl (by decide) ?_
          have loop5 : ∀ (n k : Nat), ∀ (m5 : nMem) (j : Int), k ≤ 8 → 8 < k + n → j = (k : Int) → mB m5 → RM (lBrk (fSetD F 0) (gOf (fSetD F 0)) k).1 m5 → pw (lBrk (fSetD F 0) (gOf (fSetD F 0)) k).1 m5 → GM (lBrk (fSetD F 0) (gOf (fSetD F 0)) k).2.1 m5 → (lBrk (fSetD F 0) (gOf (fSetD F 0)) k).2.2 = true → m5 21 27 = 0 ∧ m5 21 25 = 0 ∧ m5 21 22 = nxF (fSetD F 0) → (∀ n : Int, 0 ≤ n → n < 2048 → m5 39 n = vD (fSetD F 0) n ∧ m5 40 n = vN (fSetD F 0) n) → FrM μ m5 → wp mX7_mount 239 [(0, vR 21), (1, vI s), (2, vI (rdS F s 8)), (3, vI j)] [] m5 ε Q := by
            intro n
            induction n with
            | zero => intro k m5 j hk1 hk2 e0 e1 e2 e3 e4 e5 e6 e7 e8; exact absurd hk2 (by omega)
            | succ n ih =>
              intro k m5 j hk1 hk2 e0 e1 e2 e3 e4 e5 e6 e7 e8
              subst e0
              have rk : inR (k : Int) := by unfold inR; omega
              have hok := lBrk_ok hA0 hZ k hk1
              have hLk := lBrk_L (F := fSetD F 0) (g := gOf (fSetD F 0)) hlf k
              have hEk := lBrk_E (fSetD F 0) (gOf (fSetD F 0)) k k (Int.le_refl _)
              have hhn := fun z => lBrk_hn hA0 hZ k z e5
              have hb35 := fun z1 z2 => (e2.1 (k : Int) z1 z2).2.1
              have g35 := b35 e1 (k : Int)
              have r35 : inR (m5 35 (k : Int)) := by unfold inR; omega
              have ls := lBrk_s (fSetD F 0) (gOf (fSetD F 0)) k
              have q16 := e4.2.1
              refine wq_iload_n (pc := 239) dX7_mount_239 rfl rfl ?_
              refine wq_bipush (pc := 240) dX7_mount_240 (by decide) (by decide) ?_
              refine wq_icmp_ge (pc := 242) (tgt := 271) dX7_mount_242 (by decide) (by first | (unfold inR; omega) | assumption) (by first | (unfold inR; omega) | assumption) (fun c6 => ?_) (fun c6 => ?_)
              · skip
                refine wq_iload_n (pc := 271) dX7_mount_271 rfl rfl ?_
                refine wq_iret (pc := 272) dX7_mount_272 rfl ?_
                first
                  | (have hz : fU (lBrk (fSetD F 0) (gOf (fSetD F 0)) k).1 k = 0 := by have := hb35 (by omega) (by omega); omega
                     have hb9 : ¬ (fErR (lBrk (fSetD F 0) (gOf (fSetD F 0)) k).1 k).2 = true := by rw [her9]; decide
                     rw [if_neg (by rw [e5]; decide), if_pos hz, if_neg hb9, her9] at ls
                     have l8 := lBrk_false (F := fSetD F 0) (g := gOf (fSetD F 0)) (k := k + 1) (by rw [ls]) (7 - k)
                     rw [show k + 1 + (7 - k) = 8 by omega, ls] at l8
                     rw [l8, if_pos rfl] at h
                     refine h _ _ ⟨⟨hs, hb6, R6, Or.inl t6⟩, p6, fun z => ?_⟩ (FrM_t e8 (fun x j hx => f6 x j (by omega) (by omega) (by omega) (by omega) (by omega))) rfl ⟨by decide, by decide⟩
                     have z : fD (fErR (lBrk (fSetD F 0) (gOf (fSetD F 0)) k).1 k).1 = 0 := z
                     have := (erR_rows (F := (lBrk (fSetD F 0) (gOf (fSetD F 0)) k).1) (b := (k : Int))).2 her9
                     omega)
                  | (have hk9 : k = 8 := by omega
                     subst hk9
                     rw [if_neg (by rw [e5]; decide)] at h
                     exact h _ _ ⟨⟨hs, e1, e2, Or.inl e6.1⟩, e3, fun _ => ⟨e4, e6.2.2, e7⟩⟩ e8 rfl (by omega))
              · skip
                refine wq_aload_n (pc := 245) dX7_mount_245 rfl rfl ?_
                refine wq_getS (pc := 246) dX7_mount_246 hs (gf_X7_51 _ rfl) rfl rfl rfl rfl rfl ?_
                refine wq_iload_n (pc := 249) dX7_mount_249 rfl rfl ?_
                refine wq_ialdK (pc := 250) dX7_mount_250 hs rfl (by omega) (by omega) ?_
                refine wq_if_ne (pc := 251) (tgt := 265) dX7_mount_251 (by decide) (by first | (unfold inR; omega) | assumption) (fun c7 => ?_) (fun c7 => ?_)
                · skip
                  refine wq_iinc (pc := 265) (L' := [(3, _), (0, _), (1, _), (2, _)]) dX7_mount_265 rfl rfl (by decide) ?_
                  refine wq_goto (pc := 268) (tgt := 239) dX7_mount_268 (by decide) ?_
                  refine wq_sub1 (L' := [(0, _), (1, _), (2, _), (3, _)]) ⟨rfl, rfl, rfl, rfl, trivial⟩ ?_
                  first
                    | (have hz : ¬ fU (lBrk (fSetD F 0) (gOf (fSetD F 0)) k).1 k = 0 := by have := hb35 (by omega) (by omega); omega
                       rw [if_neg (by rw [e5]; decide), if_neg hz] at ls
                       exact ih (k + 1) _ _ (by omega) (by omega) (by omega) e1 (by rw [ls]; exact e2) (by rw [ls]; exact e3) (by rw [ls]; exact e4) (by rw [ls]; exact e5) e6 e7 e8)
                    | (have hz : fU (lBrk (fSetD F 0) (gOf (fSetD F 0)) k).1 k = 0 := by have := hb35 (by omega) (by omega); omega
                       rw [if_neg (by rw [e5]; decide), if_pos hz, if_pos her9, her9] at ls
                       have G6 : GM ((lBrk (fSetD F 0) (gOf (fSetD F 0)) k).2.1.1, (lBrk (fSetD F 0) (gOf (fSetD F 0)) k).2.1.2.1 ++ [(k : Int)], (lBrk (fSetD F 0) (gOf (fSetD F 0)) k).2.1.2.2) m6 := by
                         obtain ⟨g1, g2, g3, g4, g5⟩ := e4
                         refine ⟨by rw [f6 21 17 (by omega) (by omega) (by omega) (by omega) (by omega)]; exact g1, by rw [v16, g2]; show _ = (((lBrk (fSetD F 0) (gOf (fSetD F 0)) k).2.1.2.1 ++ [(k : Int)]).length : Int); rw [List.length_append]; rfl, fun i hi => ?_, by rw [f6 21 19 (by omega) (by omega) (by omega) (by omega) (by omega)]; exact g4, fun i hi => by rw [f6 38 i (by omega) (by omega) (by omega) (by omega) (by omega)]; exact g5 i hi⟩
                         have hi2 : i < (lBrk (fSetD F 0) (gOf (fSetD F 0)) k).2.1.2.1.length + 1 := by
                           have hi : i < ((lBrk (fSetD F 0) (gOf (fSetD F 0)) k).2.1.2.1 ++ [(k : Int)]).length := hi
                           rw [List.length_append] at hi; exact hi
                         show m6 37 i = ((lBrk (fSetD F 0) (gOf (fSetD F 0)) k).2.1.2.1 ++ [(k : Int)]).getD i 0
                         rw [getD_app]
                         by_cases ci : i < (lBrk (fSetD F 0) (gOf (fSetD F 0)) k).2.1.2.1.length
                         · rw [if_pos ci, f6 37 i (by omega) (by omega) (by omega) (by omega) (by omega)]; exact g3 i ci
                         · rw [if_neg ci, if_pos (by omega), show (i : Int) = m5 21 16 by omega]; exact v37
                       exact ih (k + 1) _ _ (by omega) (by omega) (by omega) hb6 (by rw [ls]; exact R6) (by rw [ls]; exact p6) (by rw [ls]; exact G6) (by rw [ls]) ⟨t6, by rw [f6 21 25 (by omega) (by omega) (by omega) (by omega) (by omega)]; exact e6.2.1, by rw [f6 21 22 (by omega) (by omega) (by omega) (by omega) (by omega)]; exact e6.2.2⟩ (fun n n0 n1 => by rw [f6 39 n (by omega) (by omega) (by omega) (by omega) (by omega), f6 40 n (by omega) (by omega) (by omega) (by omega) (by omega)]; exact e7 n n0 n1) (FrM_t e8 (fun x j hx => f6 x j (by omega) (by omega) (by omega) (by omega) (by omega))))
                · skip
                  refine wq_aload_n (pc := 254) dX7_mount_254 rfl rfl ?_
                  refine wq_iload_n (pc := 255) dX7_mount_255 rfl rfl ?_
                  refine cVK_1 (pc := 256) dX7_mount_256 hs (cw_X7_273 _ rfl) (by decide) rfl ⟨by decide, by decide⟩ (Nat.le_of_ble_eq_true rfl) (sp_X7_erases (F := (lBrk (fSetD F 0) (gOf (fSetD F 0)) k).1) hs e1 e2 e3 e6.1 (by have q := hhn (by have := hb35 (by omega) (by omega); omega); omega) (by omega) hLk (by rw [hEk]; exact hfE k (by omega) (by omega)) (fun her m6 hb6 R6 p6 t6 f6 => ?_) (fun her m6 hb6 R6 p6 t6 f6 v16 v37 => ?_))
                  · skip
                    refine kr_s ?_
                    have her9 := her
                    refine wq_if_ne (pc := 259) (tgt := 265) dX7_mount_259 (by decide) (by first | (unfold inR; omega) | assumption) (fun c => absurd c (by decide)) (fun _ => ?_)
                    refine wq_bipush (pc := 262) dX7_mount_262 (by decide) (by decide) ?_
                    refine wq_iret (pc := 264) dX7_mount_264 rfl ?_
                    first
                      | (have hz : fU (lBrk (fSetD F 0) (gOf (fSetD F 0)) k).1 k = 0 := by have := hb35 (by omega) (by omega); omega
                         have hb9 : ¬ (fErR (lBrk (fSetD F 0) (gOf (fSetD F 0)) k).1 k).2 = true := by rw [her9]; decide
                         rw [if_neg (by rw [e5]; decide), if_pos hz, if_neg hb9, her9] at ls
                         have l8 := lBrk_false (F := fSetD F 0) (g := gOf (fSetD F 0)) (k := k + 1) (by rw [ls]) (7 - k)
                         rw [show k + 1 + (7 - k) = 8 by omega, ls] at l8
                         rw [l8, if_pos rfl] at h
                         refine h _ _ ⟨⟨hs, hb6, R6, Or.inl t6⟩, p6, fun z => ?_⟩ (FrM_t e8 (fun x j hx => f6 x j (by omega) (by omega) (by omega) (by omega) (by omega))) rfl ⟨by decide, by decide⟩
                         have z : fD (fErR (lBrk (fSetD F 0) (gOf (fSetD F 0)) k).1 k).1 = 0 := z
                         have := (erR_rows (F := (lBrk (fSetD F 0) (gOf (fSetD F 0)) k).1) (b := (k : Int))).2 her9
                         omega)
                      | (have hk9 : k = 8 := by omega
                         subst hk9
                         rw [if_neg (by rw [e5]; decide)] at h
                         exact h _ _ ⟨⟨hs, e1, e2, Or.inl e6.1⟩, e3, fun _ => ⟨e4, e6.2.2, e7⟩⟩ e8 rfl (by omega))
                  · skip
                    refine kr_s ?_
                    have her9 := her
                    refine wq_if_ne (pc := 259) (tgt := 265) dX7_mount_259 (by decide) (by first | (unfold inR; omega) | assumption) (fun _ => ?_) (fun c => absurd c (by decide))
                    refine wq_iinc (pc := 265) (L' := [(3, _), (0, _), (1, _), (2, _)]) dX7_mount_265 rfl rfl (by decide) ?_
                    refine wq_goto (pc := 268) (tgt := 239) dX7_mount_268 (by decide) ?_
                    refine wq_sub1 (L' := [(0, _), (1, _), (2, _), (3, _)]) ⟨rfl, rfl, rfl, rfl, trivial⟩ ?_
                    first
                      | (have hz : ¬ fU (lBrk (fSetD F 0) (gOf (fSetD F 0)) k).1 k = 0 := by have := hb35 (by omega) (by omega); omega
                         rw [if_neg (by rw [e5]; decide), if_neg hz] at ls
                         exact ih (k + 1) _ _ (by omega) (by omega) (by omega) e1 (by rw [ls]; exact e2) (by rw [ls]; exact e3) (by rw [ls]; exact e4) (by rw [ls]; exact e5) e6 e7 e8)
                      | (have hz : fU (lBrk (fSetD F 0) (gOf (fSetD F 0)) k).1 k = 0 := by have := hb35 (by omega) (by omega); omega
                         rw [if_neg (by rw [e5]; decide), if_pos hz, if_pos her9, her9] at ls
                         have G6 : GM ((lBrk (fSetD F 0) (gOf (fSetD F 0)) k).2.1.1, (lBrk (fSetD F 0) (gOf (fSetD F 0)) k).2.1.2.1 ++ [(k : Int)], (lBrk (fSetD F 0) (gOf (fSetD F 0)) k).2.1.2.2) m6 := by
                           obtain ⟨g1, g2, g3, g4, g5⟩ := e4
                           refine ⟨by rw [f6 21 17 (by omega) (by omega) (by omega) (by omega) (by omega)]; exact g1, by rw [v16, g2]; show _ = (((lBrk (fSetD F 0) (gOf (fSetD F 0)) k).2.1.2.1 ++ [(k : Int)]).length : Int); rw [List.length_append]; rfl, fun i hi => ?_, by rw [f6 21 19 (by omega) (by omega) (by omega) (by omega) (by omega)]; exact g4, fun i hi => by rw [f6 38 i (by omega) (by omega) (by omega) (by omega) (by omega)]; exact g5 i hi⟩
                           have hi2 : i < (lBrk (fSetD F 0) (gOf (fSetD F 0)) k).2.1.2.1.length + 1 := by
                             have hi : i < ((lBrk (fSetD F 0) (gOf (fSetD F 0)) k).2.1.2.1 ++ [(k : Int)]).length := hi
                             rw [List.length_append] at hi; exact hi
                           show m6 37 i = ((lBrk (fSetD F 0) (gOf (fSetD F 0)) k).2.1.2.1 ++ [(k : Int)]).getD i 0
                           rw [getD_app]
                           by_cases ci : i < (lBrk (fSetD F 0) (gOf (fSetD F 0)) k).2.1.2.1.length
                           · rw [if_pos ci, f6 37 i (by omega) (by omega) (by omega) (by omega) (by omega)]; exact g3 i ci
                           · rw [if_neg ci, if_pos (by omega), show (i : Int) = m5 21 16 by omega]; exact v37
                         exact ih (k + 1) _ _ (by omega) (by omega) (by omega) hb6 (by rw [ls]; exact R6) (by rw [ls]; exact p6) (by rw [ls]; exact G6) (by rw [ls]) ⟨t6, by rw [f6 21 25 (by omega) (by omega) (by omega) (by omega) (by omega)]; exact e6.2.1, by rw [f6 21 22 (by omega) (by omega) (by omega) (by omega) (by omega)]; exact e6.2.2⟩ (fun n n0 n1 => by rw [f6 39 n (by omega) (by omega) (by omega) (by omega) (by omega), f6 40 n (by omega) (by omega) (by omega) (by omega) (by omega)]; exact e7 n n0 n1) (FrM_t e8 (fun x j hx => f6 x j (by omega) (by omega) (by omega) (by omega) (by omega))))
          refine wq_sub1 (L' := [(0, _), (1, _), (2, _), (3, _)]) ⟨rfl, rfl, rfl, rfl, trivial⟩ ?_
          exact loop5 9 0 _ _ (by omega) (by omega) (by omega) hbv (RM_cg hR0 (fun x j x0 x1 => fv x j (by omega) (by omega) (by omega))) ⟨by rw [fv 21 20 (by omega) (by omega) (by omega)]; exact hp0.1, by rw [fv 21 21 (by omega) (by omega) (by omega)]; exact hp0.2⟩ (GM_cg hG0 (fun x j hx => fv x j (by omega) (by omega) (by omega))) rfl ⟨by rw [fv 21 27 (by omega) (by omega) (by omega)]; exact hl0, by rw [fv 21 25 (by omega) (by omega) (by omega)]; exact ht0, nxv⟩ vv (FrM_t hFm (fun x j hx => fv x j (by omega) (by omega) (by omega)))
        · skip
          refine wq_aload_n (pc := 157) dX7_mount_157 rfl rfl ?_
          refine wq_getS (pc := 158) dX7_mount_158 hs (gf_X7_51 _ rfl) rfl rfl rfl rfl rfl ?_
          refine wq_iload_n (pc := 161) dX7_mount_161 rfl rfl ?_
          refine wq_ialdK (pc := 162) dX7_mount_162 hs rfl (by omega) (by omega) ?_
          refine wq_iconst (pc := 163) dX7_mount_163 ?_
          refine wq_icmp_ne (pc := 164) (tgt := 190) dX7_mount_164 (by decide) (by first | (unfold inR; omega) | assumption) (by first | (unfold inR; omega) | assumption) (fun c12 => ?_) (fun c12 => ?_)
          · skip
            refine wq_aload_n (pc := 190) dX7_mount_190 rfl rfl ?_
            refine wq_getS (pc := 191) dX7_mount_191 hs (gf_X7_48 _ rfl) rfl rfl rfl rfl rfl ?_
            refine wq_iload_n (pc := 194) dX7_mount_194 rfl rfl ?_
            refine wq_ialdK (pc := 195) dX7_mount_195 hs rfl (by omega) (by omega) ?_
            refine wq_if_le (pc := 196) (tgt := 227) dX7_mount_196 (by decide) (by first | (unfold inR; omega) | assumption) (fun c13 => ?_) (fun c13 => ?_)
            · skip
              refine wq_iinc (pc := 227) (L' := [(3, _), (0, _), (1, _), (2, _)]) dX7_mount_227 rfl rfl (by decide) ?_
              refine wq_goto (pc := 230) (tgt := 151) dX7_mount_230 (by decide) ?_
              refine wq_sub1 (L' := [(0, _), (1, _), (2, _), (3, _)]) ⟨rfl, rfl, rfl, rfl, trivial⟩ ?_
              obtain ⟨s34, s35, -⟩ := hbk (by omega)
              have pb2 := (hpb (by omega)).2.1
              first
                | (have h1 : fU F k = 1 := by omega
                   rw [if_pos h1] at gfs
                   rw [if_neg (fun z => z.1 h1)] at gcs
                   refine ih (k + 1) _ _ (by omega) (by omega) (by omega) (mB_wr (mB_wr e1 (Or.inr (Or.inr (by show 0 ≤ (k : Int) ∧ (k : Int) ≤ 7; omega)))) (Or.inr (Or.inl rfl))) (fun x j c1 c2 c3 => by rw [wr_n _ _ (by omega), wr_n _ _ (by omega)]; exact e2 x j c1 c2 c3) ⟨by rw [wr_n _ _ (by omega), wr_n _ _ (by omega)]; exact e3.1, by rw [wr_n _ _ (by omega), wr_n _ _ (by omega)]; exact e3.2.1, by rw [wr_n _ _ (by omega), wr_n _ _ (by omega)]; exact e3.2.2.1, by rw [wr_n _ _ (by omega), wr_n _ _ (by omega)]; exact e3.2.2.2⟩ ⟨by rw [wr_s, wr_n _ _ (by omega), e4.1, gfs, List.length_append]; rfl, by rw [wr_n _ _ (by omega), wr_n _ _ (by omega), gcs]; exact e4.2⟩ (fun i hi => ?_) (fun i hi => by rw [gcs] at hi ⊢; rw [wr_n _ _ (by omega), wr_n _ _ (by omega)]; exact e6 i hi)
                   rw [gfs, List.length_append] at hi
                   have hi : i < (gFree F k).length + 1 := hi
                   rw [gfs, getD_app, wr_n _ _ (by omega), e4.1]
                   by_cases ci : i < (gFree F k).length
                   · rw [if_pos ci, wr_n _ _ (by omega)]; exact e5 i ci
                   · rw [if_neg ci, if_pos (by omega), show i = (gFree F k).length by omega, wr_s])
                | (have h1 : ¬ fU F k = 1 := by omega
                   have h2 : fU F k ≠ 1 ∧ 1 < fU F k ∧ (k : Int) ≠ (gCur F 8) := ⟨h1, by omega, by omega⟩
                   rw [if_neg h1] at gfs
                   rw [if_pos h2] at gcs
                   refine ih (k + 1) _ _ (by omega) (by omega) (by omega) (mB_wr (mB_wr e1 (Or.inr (Or.inr (by show 0 ≤ (k : Int) ∧ (k : Int) ≤ 7; omega)))) (Or.inr (Or.inl rfl))) (fun x j c1 c2 c3 => by rw [wr_n _ _ (by omega), wr_n _ _ (by omega)]; exact e2 x j c1 c2 c3) ⟨by rw [wr_n _ _ (by omega), wr_n _ _ (by omega)]; exact e3.1, by rw [wr_n _ _ (by omega), wr_n _ _ (by omega)]; exact e3.2.1, by rw [wr_n _ _ (by omega), wr_n _ _ (by omega)]; exact e3.2.2.1, by rw [wr_n _ _ (by omega), wr_n _ _ (by omega)]; exact e3.2.2.2⟩ ⟨by rw [wr_n _ _ (by omega), wr_n _ _ (by omega), gfs]; exact e4.1, by rw [wr_s, wr_n _ _ (by omega), e4.2, gcs, List.length_append]; rfl⟩ (fun i hi => by rw [gfs] at hi ⊢; rw [wr_n _ _ (by omega), wr_n _ _ (by omega)]; exact e5 i hi) (fun i hi => ?_)
                   rw [gcs, List.length_append] at hi
                   have hi : i < (gClosed F (gCur F 8) k).length + 1 := hi
                   rw [gcs, getD_app, wr_n _ _ (by omega), e4.2]
                   by_cases ci : i < (gClosed F (gCur F 8) k).length
                   · rw [if_pos ci, wr_n _ _ (by omega)]; exact e6 i ci
                   · rw [if_neg ci, if_pos (by omega), show i = (gClosed F (gCur F 8) k).length by omega, wr_s])
                | (have h1 : ¬ fU F k = 1 := by omega
                   have h2 : ¬ (fU F k ≠ 1 ∧ 1 < fU F k ∧ (k : Int) ≠ (gCur F 8)) := by omega
                   rw [if_neg h1] at gfs
                   rw [if_neg h2] at gcs
                   exact ih (k + 1) _ _ (by omega) (by omega) (by omega) e1 e2 e3 (by rw [gfs, gcs]; exact e4) (by rw [gfs]; exact e5) (by rw [gcs]; exact e6))
            · skip
              refine wq_iload_n (pc := 199) dX7_mount_199 rfl rfl ?_
              refine wq_aload_n (pc := 200) dX7_mount_200 rfl rfl ?_
              refine wq_getIK (pc := 201) (kk := 17) dX7_mount_201 hs (gf_X7_118 _ rfl) rfl rfl rfl rfl ?_
              refine wq_icmp_eq (pc := 204) (tgt := 227) dX7_mount_204 (by decide) (by first | (unfold inR; omega) | assumption) (by first | (unfold inR; omega) | assumption) (fun c14 => ?_) (fun c14 => ?_)
              · skip
                refine wq_iinc (pc := 227) (L' := [(3, _), (0, _), (1, _), (2, _)]) dX7_mount_227 rfl rfl (by decide) ?_
                refine wq_goto (pc := 230) (tgt := 151) dX7_mount_230 (by decide) ?_
                refine wq_sub1 (L' := [(0, _), (1, _), (2, _), (3, _)]) ⟨rfl, rfl, rfl, rfl, trivial⟩ ?_
                obtain ⟨s34, s35, -⟩ := hbk (by omega)
                have pb2 := (hpb (by omega)).2.1
                first
                  | (have h1 : fU F k = 1 := by omega
                     rw [if_pos h1] at gfs
                     rw [if_neg (fun z => z.1 h1)] at gcs
                     refine ih (k + 1) _ _ (by omega) (by omega) (by omega) (mB_wr (mB_wr e1 (Or.inr (Or.inr (by show 0 ≤ (k : Int) ∧ (k : Int) ≤ 7; omega)))) (Or.inr (Or.inl rfl))) (fun x j c1 c2 c3 => by rw [wr_n _ _ (by omega), wr_n _ _ (by omega)]; exact e2 x j c1 c2 c3) ⟨by rw [wr_n _ _ (by omega), wr_n _ _ (by omega)]; exact e3.1, by rw [wr_n _ _ (by omega), wr_n _ _ (by omega)]; exact e3.2.1, by rw [wr_n _ _ (by omega), wr_n _ _ (by omega)]; exact e3.2.2.1, by rw [wr_n _ _ (by omega), wr_n _ _ (by omega)]; exact e3.2.2.2⟩ ⟨by rw [wr_s, wr_n _ _ (by omega), e4.1, gfs, List.length_append]; rfl, by rw [wr_n _ _ (by omega), wr_n _ _ (by omega), gcs]; exact e4.2⟩ (fun i hi => ?_) (fun i hi => by rw [gcs] at hi ⊢; rw [wr_n _ _ (by omega), wr_n _ _ (by omega)]; exact e6 i hi)
                     rw [gfs, List.length_append] at hi
                     have hi : i < (gFree F k).length + 1 := hi
                     rw [gfs, getD_app, wr_n _ _ (by omega), e4.1]
                     by_cases ci : i < (gFree F k).length
                     · rw [if_pos ci, wr_n _ _ (by omega)]; exact e5 i ci
                     · rw [if_neg ci, if_pos (by omega), show i = (gFree F k).length by omega, wr_s])
                  | (have h1 : ¬ fU F k = 1 := by omega
                     have h2 : fU F k ≠ 1 ∧ 1 < fU F k ∧ (k : Int) ≠ (gCur F 8) := ⟨h1, by omega, by omega⟩
                     rw [if_neg h1] at gfs
                     rw [if_pos h2] at gcs
                     refine ih (k + 1) _ _ (by omega) (by omega) (by omega) (mB_wr (mB_wr e1 (Or.inr (Or.inr (by show 0 ≤ (k : Int) ∧ (k : Int) ≤ 7; omega)))) (Or.inr (Or.inl rfl))) (fun x j c1 c2 c3 => by rw [wr_n _ _ (by omega), wr_n _ _ (by omega)]; exact e2 x j c1 c2 c3) ⟨by rw [wr_n _ _ (by omega), wr_n _ _ (by omega)]; exact e3.1, by rw [wr_n _ _ (by omega), wr_n _ _ (by omega)]; exact e3.2.1, by rw [wr_n _ _ (by omega), wr_n _ _ (by omega)]; exact e3.2.2.1, by rw [wr_n _ _ (by omega), wr_n _ _ (by omega)]; exact e3.2.2.2⟩ ⟨by rw [wr_n _ _ (by omega), wr_n _ _ (by omega), gfs]; exact e4.1, by rw [wr_s, wr_n _ _ (by omega), e4.2, gcs, List.length_append]; rfl⟩ (fun i hi => by rw [gfs] at hi ⊢; rw [wr_n _ _ (by omega), wr_n _ _ (by omega)]; exact e5 i hi) (fun i hi => ?_)
                     rw [gcs, List.length_append] at hi
                     have hi : i < (gClosed F (gCur F 8) k).length + 1 := hi
                     rw [gcs, getD_app, wr_n _ _ (by omega), e4.2]
                     by_cases ci : i < (gClosed F (gCur F 8) k).length
                     · rw [if_pos ci, wr_n _ _ (by omega)]; exact e6 i ci
                     · rw [if_neg ci, if_pos (by omega), show i = (gClosed F (gCur F 8) k).length by omega, wr_s])
                  | (have h1 : ¬ fU F k = 1 := by omega
                     have h2 : ¬ (fU F k ≠ 1 ∧ 1 < fU F k ∧ (k : Int) ≠ (gCur F 8)) := by omega
                     rw [if_neg h1] at gfs
                     rw [if_neg h2] at gcs
                     exact ih (k + 1) _ _ (by omega) (by omega) (by omega) e1 e2 e3 (by rw [gfs, gcs]; exact e4) (by rw [gfs]; exact e5) (by rw [gcs]; exact e6))
              · skip
                refine wq_aload_n (pc := 207) dX7_mount_207 rfl rfl ?_
                refine wq_getS (pc := 208) dX7_mount_208 hs (gf_X7_60 _ rfl) rfl rfl rfl rfl rfl ?_
                refine wq_aload_n (pc := 211) dX7_mount_211 rfl rfl ?_
                refine wq_getIK (pc := 212) (kk := 19) dX7_mount_212 hs (gf_X7_192 _ rfl) rfl rfl rfl rfl ?_
                refine wq_iload_n (pc := 215) dX7_mount_215 rfl rfl ?_
                refine wq_iastK (pc := 216) dX7_mount_216 hs rfl (by omega) (by omega) ?_
                refine wq_aload_n (pc := 217) dX7_mount_217 rfl rfl ?_
                refine wq_dup (pc := 218) dX7_mount_218 rfl ?_
                refine wq_getIK (pc := 219) (kk := 19) dX7_mount_219 hs (gf_X7_192 _ rfl) rfl rfl rfl rfl ?_
                refine wq_iconst (pc := 222) dX7_mount_222 ?_
                refine wq_iadd (pc := 223) dX7_mount_223 ?_
                refine wq_putIK (pc := 224) (kk := 19) dX7_mount_224 hs (gf_X7_192 _ rfl) rfl rfl rfl rfl rfl ?_
                refine wq_iinc (pc := 227) (L' := [(3, _), (0, _), (1, _), (2, _)]) dX7_mount_227 rfl rfl (by decide) ?_
                refine wq_goto (pc := 230) (tgt := 151) dX7_mount_230 (by decide) ?_
                refine wq_sub1 (L' := [(0, _), (1, _), (2, _), (3, _)]) ⟨rfl, rfl, rfl, rfl, trivial⟩ ?_
                obtain ⟨s34, s35, -⟩ := hbk (by omega)
                have pb2 := (hpb (by omega)).2.1
                first
                  | (have h1 : fU F k = 1 := by omega
                     rw [if_pos h1] at gfs
                     rw [if_neg (fun z => z.1 h1)] at gcs
                     refine ih (k + 1) _ _ (by omega) (by omega) (by omega) (mB_wr (mB_wr e1 (Or.inr (Or.inr (by show 0 ≤ (k : Int) ∧ (k : Int) ≤ 7; omega)))) (Or.inr (Or.inl rfl))) (fun x j c1 c2 c3 => by rw [wr_n _ _ (by omega), wr_n _ _ (by omega)]; exact e2 x j c1 c2 c3) ⟨by rw [wr_n _ _ (by omega), wr_n _ _ (by omega)]; exact e3.1, by rw [wr_n _ _ (by omega), wr_n _ _ (by omega)]; exact e3.2.1, by rw [wr_n _ _ (by omega), wr_n _ _ (by omega)]; exact e3.2.2.1, by rw [wr_n _ _ (by omega), wr_n _ _ (by omega)]; exact e3.2.2.2⟩ ⟨by rw [wr_s, wr_n _ _ (by omega), e4.1, gfs, List.length_append]; rfl, by rw [wr_n _ _ (by omega), wr_n _ _ (by omega), gcs]; exact e4.2⟩ (fun i hi => ?_) (fun i hi => by rw [gcs] at hi ⊢; rw [wr_n _ _ (by omega), wr_n _ _ (by omega)]; exact e6 i hi)
                     rw [gfs, List.length_append] at hi
                     have hi : i < (gFree F k).length + 1 := hi
                     rw [gfs, getD_app, wr_n _ _ (by omega), e4.1]
                     by_cases ci : i < (gFree F k).length
                     · rw [if_pos ci, wr_n _ _ (by omega)]; exact e5 i ci
                     · rw [if_neg ci, if_pos (by omega), show i = (gFree F k).length by omega, wr_s])
                  | (have h1 : ¬ fU F k = 1 := by omega
                     have h2 : fU F k ≠ 1 ∧ 1 < fU F k ∧ (k : Int) ≠ (gCur F 8) := ⟨h1, by omega, by omega⟩
                     rw [if_neg h1] at gfs
                     rw [if_pos h2] at gcs
                     refine ih (k + 1) _ _ (by omega) (by omega) (by omega) (mB_wr (mB_wr e1 (Or.inr (Or.inr (by show 0 ≤ (k : Int) ∧ (k : Int) ≤ 7; omega)))) (Or.inr (Or.inl rfl))) (fun x j c1 c2 c3 => by rw [wr_n _ _ (by omega), wr_n _ _ (by omega)]; exact e2 x j c1 c2 c3) ⟨by rw [wr_n _ _ (by omega), wr_n _ _ (by omega)]; exact e3.1, by rw [wr_n _ _ (by omega), wr_n _ _ (by omega)]; exact e3.2.1, by rw [wr_n _ _ (by omega), wr_n _ _ (by omega)]; exact e3.2.2.1, by rw [wr_n _ _ (by omega), wr_n _ _ (by omega)]; exact e3.2.2.2⟩ ⟨by rw [wr_n _ _ (by omega), wr_n _ _ (by omega), gfs]; exact e4.1, by rw [wr_s, wr_n _ _ (by omega), e4.2, gcs, List.length_append]; rfl⟩ (fun i hi => by rw [gfs] at hi ⊢; rw [wr_n _ _ (by omega), wr_n _ _ (by omega)]; exact e5 i hi) (fun i hi => ?_)
                     rw [gcs, List.length_append] at hi
                     have hi : i < (gClosed F (gCur F 8) k).length + 1 := hi
                     rw [gcs, getD_app, wr_n _ _ (by omega), e4.2]
                     by_cases ci : i < (gClosed F (gCur F 8) k).length
                     · rw [if_pos ci, wr_n _ _ (by omega)]; exact e6 i ci
                     · rw [if_neg ci, if_pos (by omega), show i = (gClosed F (gCur F 8) k).length by omega, wr_s])
                  | (have h1 : ¬ fU F k = 1 := by omega
                     have h2 : ¬ (fU F k ≠ 1 ∧ 1 < fU F k ∧ (k : Int) ≠ (gCur F 8)) := by omega
                     rw [if_neg h1] at gfs
                     rw [if_neg h2] at gcs
                     exact ih (k + 1) _ _ (by omega) (by omega) (by omega) e1 e2 e3 (by rw [gfs, gcs]; exact e4) (by rw [gfs]; exact e5) (by rw [gcs]; exact e6))
          · skip
            refine wq_aload_n (pc := 167) dX7_mount_167 rfl rfl ?_
            refine wq_getS (pc := 168) dX7_mount_168 hs (gf_X7_57 _ rfl) rfl rfl rfl rfl rfl ?_
            refine wq_aload_n (pc := 171) dX7_mount_171 rfl rfl ?_
            refine wq_getIK (pc := 172) (kk := 16) dX7_mount_172 hs (gf_X7_114 _ rfl) rfl rfl rfl rfl ?_
            refine wq_iload_n (pc := 175) dX7_mount_175 rfl rfl ?_
            refine wq_iastK (pc := 176) dX7_mount_176 hs rfl (by omega) (by omega) ?_
            refine wq_aload_n (pc := 177) dX7_mount_177 rfl rfl ?_
            refine wq_dup (pc := 178) dX7_mount_178 rfl ?_
            refine wq_getIK (pc := 179) (kk := 16) dX7_mount_179 hs (gf_X7_114 _ rfl) rfl rfl rfl rfl ?_
            refine wq_iconst (pc := 182) dX7_mount_182 ?_
            refine wq_iadd (pc := 183) dX7_mount_183 ?_
            refine wq_putIK (pc := 184) (kk := 16) dX7_mount_184 hs (gf_X7_114 _ rfl) rfl rfl rfl rfl rfl ?_
            refine wq_goto (pc := 187) (tgt := 227) dX7_mount_187 (by decide) ?_
            refine wq_iinc (pc := 227) (L' := [(3, _), (0, _), (1, _), (2, _)]) dX7_mount_227 rfl rfl (by decide) ?_
            refine wq_goto (pc := 230) (tgt := 151) dX7_mount_230 (by decide) ?_
            refine wq_sub1 (L' := [(0, _), (1, _), (2, _), (3, _)]) ⟨rfl, rfl, rfl, rfl, trivial⟩ ?_
            obtain ⟨s34, s35, -⟩ := hbk (by omega)
            have pb2 := (hpb (by omega)).2.1
            first
              | (have h1 : fU F k = 1 := by omega
                 rw [if_pos h1] at gfs
                 rw [if_neg (fun z => z.1 h1)] at gcs
                 refine ih (k + 1) _ _ (by omega) (by omega) (by omega) (mB_wr (mB_wr e1 (Or.inr (Or.inr (by show 0 ≤ (k : Int) ∧ (k : Int) ≤ 7; omega)))) (Or.inr (Or.inl rfl))) (fun x j c1 c2 c3 => by rw [wr_n _ _ (by omega), wr_n _ _ (by omega)]; exact e2 x j c1 c2 c3) ⟨by rw [wr_n _ _ (by omega), wr_n _ _ (by omega)]; exact e3.1, by rw [wr_n _ _ (by omega), wr_n _ _ (by omega)]; exact e3.2.1, by rw [wr_n _ _ (by omega), wr_n _ _ (by omega)]; exact e3.2.2.1, by rw [wr_n _ _ (by omega), wr_n _ _ (by omega)]; exact e3.2.2.2⟩ ⟨by rw [wr_s, wr_n _ _ (by omega), e4.1, gfs, List.length_append]; rfl, by rw [wr_n _ _ (by omega), wr_n _ _ (by omega), gcs]; exact e4.2⟩ (fun i hi => ?_) (fun i hi => by rw [gcs] at hi ⊢; rw [wr_n _ _ (by omega), wr_n _ _ (by omega)]; exact e6 i hi)
                 rw [gfs, List.length_append] at hi
                 have hi : i < (gFree F k).length + 1 := hi
                 rw [gfs, getD_app, wr_n _ _ (by omega), e4.1]
                 by_cases ci : i < (gFree F k).length
                 · rw [if_pos ci, wr_n _ _ (by omega)]; exact e5 i ci
                 · rw [if_neg ci, if_pos (by omega), show i = (gFree F k).length by omega, wr_s])
              | (have h1 : ¬ fU F k = 1 := by omega
                 have h2 : fU F k ≠ 1 ∧ 1 < fU F k ∧ (k : Int) ≠ (gCur F 8) := ⟨h1, by omega, by omega⟩
                 rw [if_neg h1] at gfs
                 rw [if_pos h2] at gcs
                 refine ih (k + 1) _ _ (by omega) (by omega) (by omega) (mB_wr (mB_wr e1 (Or.inr (Or.inr (by show 0 ≤ (k : Int) ∧ (k : Int) ≤ 7; omega)))) (Or.inr (Or.inl rfl))) (fun x j c1 c2 c3 => by rw [wr_n _ _ (by omega), wr_n _ _ (by omega)]; exact e2 x j c1 c2 c3) ⟨by rw [wr_n _ _ (by omega), wr_n _ _ (by omega)]; exact e3.1, by rw [wr_n _ _ (by omega), wr_n _ _ (by omega)]; exact e3.2.1, by rw [wr_n _ _ (by omega), wr_n _ _ (by omega)]; exact e3.2.2.1, by rw [wr_n _ _ (by omega), wr_n _ _ (by omega)]; exact e3.2.2.2⟩ ⟨by rw [wr_n _ _ (by omega), wr_n _ _ (by omega), gfs]; exact e4.1, by rw [wr_s, wr_n _ _ (by omega), e4.2, gcs, List.length_append]; rfl⟩ (fun i hi => by rw [gfs] at hi ⊢; rw [wr_n _ _ (by omega), wr_n _ _ (by omega)]; exact e5 i hi) (fun i hi => ?_)
                 rw [gcs, List.length_append] at hi
                 have hi : i < (gClosed F (gCur F 8) k).length + 1 := hi
                 rw [gcs, getD_app, wr_n _ _ (by omega), e4.2]
                 by_cases ci : i < (gClosed F (gCur F 8) k).length
                 · rw [if_pos ci, wr_n _ _ (by omega)]; exact e6 i ci
                 · rw [if_neg ci, if_pos (by omega), show i = (gClosed F (gCur F 8) k).length by omega, wr_s])
              | (have h1 : ¬ fU F k = 1 := by omega
                 have h2 : ¬ (fU F k ≠ 1 ∧ 1 < fU F k ∧ (k : Int) ≠ (gCur F 8)) := by omega
                 rw [if_neg h1] at gfs
                 rw [if_neg h2] at gcs
                 exact ih (k + 1) _ _ (by omega) (by omega) (by omega) e1 e2 e3 (by rw [gfs, gcs]; exact e4) (by rw [gfs]; exact e5) (by rw [gcs]; exact e6))
    refine wq_sub1 (L' := [(0, _), (1, _), (2, _), (3, _)]) ⟨rfl, rfl, rfl, rfl, trivial⟩ ?_
    exact loop2 9 0 _ _ (by omega) (by omega) (by omega) e0 (fun x j _ _ c3 => e1 x j c3) ⟨e2.1, e2.2.2.2.1, e2.2.2.2.2.1, e2.2.2.2.2.2⟩ ⟨e2.2.1, e2.2.2.1⟩ (fun i hi => absurd hi (Nat.not_lt_zero i)) (fun i hi => absurd hi (Nat.not_lt_zero i))
  refine wq_aload_n (pc := 0) dX7_mount_0 rfl rfl ?_
  refine wq_iconst (pc := 1) dX7_mount_1 ?_
  refine wq_putIK (pc := 2) (kk := 25) dX7_mount_2 hs (gf_X7_127 _ rfl) rfl rfl rfl rfl rfl ?_
  refine wq_iconst (pc := 5) dX7_mount_5 ?_
  refine wq_istore_n (pc := 6) (L' := [(2, _), (0, _), (1, _)]) dX7_mount_6 rfl rfl (by decide) ?_
  refine wq_aload_n (pc := 7) dX7_mount_7 rfl rfl ?_
  refine wq_iconst (pc := 8) dX7_mount_8 ?_
  refine wq_putZK (pc := 9) (kk := 21) dX7_mount_9 hs (gf_X7_174 _ rfl) rfl rfl rfl rfl rfl (by first | omega | (simp; done) | assumption) ?_
  refine wq_aload_n (pc := 12) dX7_mount_12 rfl rfl ?_
  refine wq_iconst (pc := 13) dX7_mount_13 ?_
  refine wq_putZK (pc := 14) (kk := 27) dX7_mount_14 hs (gf_X7_158 _ rfl) rfl rfl rfl rfl rfl (by first | omega | (simp; done) | assumption) ?_
  refine wq_aload_n (pc := 17) dX7_mount_17 rfl rfl ?_
  refine wq_iconst (pc := 18) dX7_mount_18 ?_
  refine wq_putIK (pc := 19) (kk := 16) dX7_mount_19 hs (gf_X7_114 _ rfl) rfl rfl rfl rfl rfl ?_
  refine wq_aload_n (pc := 22) dX7_mount_22 rfl rfl ?_
  refine wq_iconst (pc := 23) dX7_mount_23 ?_
  refine wq_putIK (pc := 24) (kk := 19) dX7_mount_24 hs (gf_X7_192 _ rfl) rfl rfl rfl rfl rfl ?_
  refine wq_aload_n (pc := 27) dX7_mount_27 rfl rfl ?_
  refine wq_iconst (pc := 28) dX7_mount_28 ?_
  refine wq_putIK (pc := 29) (kk := 17) dX7_mount_29 hs (gf_X7_118 _ rfl) rfl rfl rfl rfl rfl ?_
  refine wq_iconst (pc := 32) dX7_mount_32 ?_
  refine wq_istore_n (pc := 33) (L' := [(3, _), (2, _), (0, _), (1, _)]) dX7_mount_33 rfl rfl (by decide) ?_
  have loop15 : ∀ (n k : Nat), ∀ (m : nMem) (r j : Int), k ≤ 8 → 8 < k + n → j = (k : Int) → mB m → (∀ x j, ¬ (x = 21 ∧ (j = 16 ∨ j = 17 ∨ j = 19 ∨ j = 21 ∨ j = 25 ∨ j = 27)) → m x j = μ x j) → r = rdS F s k ∧ 0 ≤ r ∧ r ≤ 100 * (k : Int) → m 21 17 = gCur F k ∧ m 21 16 = 0 ∧ m 21 19 = 0 ∧ m 21 21 = 0 ∧ m 21 25 = 0 ∧ m 21 27 = 0 → wp mX7_mount 34 [(0, vR 21), (1, vI s), (2, vI r), (3, vI j)] [] m ε Q := by
    intro n
    induction n with
    | zero => intro k m r j hk1 hk2 e0 e1 e2 e3 e4; exact absurd hk2 (by omega)
    | succ n ih =>
      intro k m r j hk1 hk2 e0 e1 e2 e3 e4
      subst e0
      have rk : inR (k : Int) := by unfold inR; omega
      have gr := gCur_r F k
      have q17 := e4.1
      have r17 : inR (m 21 17) := by unfold inR; omega
      have hRm := RM_cg hR (m := m) (fun x j x0 x1 => e2 x j (by omega))
      have hbk : (k : Int) < 8 → _ := fun z => hRm.1 k (by omega) z
      have hpb : (k : Int) < 8 → _ := fun z => hA k (by omega) z
      have hsi9 : (k : Int) < 8 → _ := fun z => sum_iff hA hRm (b := (k : Int)) ⟨by omega, z⟩
      have gs := gCur_s F k
      have rds := rdS_s F s k
      have g35 := b35 e1 (k : Int)
      have g34 := b34 e1 (k : Int)
      have g35c := b35 e1 (m 21 17)
      have g32 := b32 e1 (16 * (k : Int) + m 34 (k : Int) - 1)
      have r34 : inR (m 34 (k : Int)) := by unfold inR; omega
      have r35 : inR (m 35 (k : Int)) := by unfold inR; omega
      have r35c : inR (m 35 (m 21 17)) := by unfold inR; omega
      have q35 : m 35 (m 21 17) = m 35 (gCur F k) := by rw [q17]
      have hcu : gCur F k ≠ -1 → m 35 (gCur F k) = fU F (gCur F k) := fun z => (hRm.1 (gCur F k) (by omega) (by omega)).2.1
      have ihB := ih
      refine wq_iload_n (pc := 34) dX7_mount_34 rfl rfl ?_
      refine wq_bipush (pc := 35) dX7_mount_35 (by decide) (by decide) ?_
      refine wq_icmp_ge (pc := 37) (tgt := 149) dX7_mount_37 (by decide) (by first | (unfold inR; omega) | assumption) (by first | (unfold inR; omega) | assumption) (fun c16 => ?_) (fun c16 => ?_)
      · skip
        refine wq_sub1 (L' := [(0, _), (1, _), (2, _)]) ⟨rfl, rfl, rfl, trivial⟩ ?_
        have hk9 : k = 8 := by omega
        subst hk9
        rw [e3.1]
        refine cut1 _ e1 e2 e4 ?_
        have a := e3.2.1
        have b := e3.2.2
        rw [e3.1] at a b
        exact ⟨a, by omega⟩
      · skip
        obtain ⟨s34, s35, s36⟩ := hbk (by omega)
        have pb := hpb (by omega)
        have pbc := pb.1
        have hsi := hsi9 (by omega)
        have s32 : 0 < fC F k → m 32 (16 * (k : Int) + fC F k - 1) = fN F ((k : Int) * 16 + (fC F k - 1)) 1 := fun z => by
          have := (hRm.2 (16 * (k : Int) + fC F k - 1) (by omega) (by omega) (by rw [show (16 * (k : Int) + fC F k - 1) / 16 = (k : Int) by omega]; omega)).1.2.2.2.1
          rw [this, show 16 * (k : Int) + fC F k - 1 = (k : Int) * 16 + (fC F k - 1) by omega]
        have l1 := e1
        have l2 := e2
        have l4 := e4
        have cut17 : ∀ (m5 : nMem) (r2 : Int), (mB m5) → (∀ x j, ¬ (x = 21 ∧ (j = 16 ∨ j = 17 ∨ j = 19 ∨ j = 21 ∨ j = 25 ∨ j = 27)) → m5 x j = μ x j) → (r2 = rdS F s (k + 1) ∧ 0 ≤ r2 ∧ r2 ≤ 100 * ((k : Int) + 1)) → (m5 21 17 = gCur F (k + 1) ∧ m5 21 16 = 0 ∧ m5 21 19 = 0 ∧ m5 21 21 = 0 ∧ m5 21 25 = 0 ∧ m5 21 27 = 0) → wp mX7_mount 143 [(0, vR 21), (1, vI s), (2, vI r2), (3, vI (k : Int))] [] m5 ε Q := by
          intro m5 r2 e0 e1 e2 e3
          refine wq_iinc (pc := 143) (L' := [(3, _), (0, _), (1, _), (2, _)]) dX7_mount_143 rfl rfl (by decide) ?_
          refine wq_goto (pc := 146) (tgt := 34) dX7_mount_146 (by decide) ?_
          refine wq_sub1 (L' := [(0, _), (1, _), (2, _), (3, _)]) ⟨rfl, rfl, rfl, rfl, trivial⟩ ?_
          exact ihB (k + 1) _ _ _ (by omega) (by omega) (by omega) e0 e1 (by rw [show (((k + 1 : Nat)) : Int) = (k : Int) + 1 by omega]; exact e2) e3
        have cut18 : ∀ (r2 : Int), (r2 = rdS F s (k + 1) ∧ 0 ≤ r2 ∧ r2 ≤ 100 * ((k : Int) + 1)) → wp mX7_mount 49 [(0, vR 21), (1, vI s), (2, vI r2), (3, vI (k : Int))] [] m ε Q := by
          intro r2 e0
          have hr2 := e0
          have cut19 : ∀ (w : Int), (w = 0 ∨ w = 1) → (w = 1 → gCan F k) → (gCan F k → w = 1) → wp mX7_mount 100 [(0, vR 21), (1, vI s), (2, vI r2), (3, vI (k : Int)), (4, vI w)] [] m ε Q := by
            intro w e0 e1 e2
            have hcan := e1
            have hncan := e2
            have rw1 : inR w := by unfold inR; omega
            have hw01 := e0
            refine wq_aload_n (pc := 100) dX7_mount_100 rfl rfl ?_
            refine wq_iload (pc := 101) dX7_mount_101 rfl ?_
            refine wq_if_eq (pc := 103) (tgt := 136) dX7_mount_103 (by decide) (by first | (unfold inR; omega) | assumption) (fun c20 => ?_) (fun c20 => ?_)
            · skip
              refine wq_aload_n (pc := 136) dX7_mount_136 rfl rfl ?_
              refine wq_getIK (pc := 137) (kk := 17) dX7_mount_137 hs (gf_X7_118 _ rfl) rfl rfl rfl rfl ?_
              refine wq_putIK (pc := 140) (kk := 17) dX7_mount_140 hs (gf_X7_118 _ rfl) rfl rfl rfl rfl rfl ?_
              refine wq_sub1 (L' := [(0, _), (1, _), (2, _), (3, _)]) ⟨rfl, rfl, rfl, rfl, trivial⟩ ?_
              have hset : ∀ v : Int, v = gCur F (k + 1) → wp mX7_mount 143 [(0, vR 21), (1, vI s), (2, vI r2), (3, vI (k : Int))] [] (wr m 21 17 v) ε Q := fun v hv => cut17 _ _ (mB_wr l1 (Or.inr (Or.inl rfl))) (fun x j hx => by rw [wr_n _ _ (by omega)]; exact l2 x j hx) hr2 ⟨by rw [wr_s]; exact hv, by rw [wr_n _ _ (by omega)]; exact l4.2.1, by rw [wr_n _ _ (by omega)]; exact l4.2.2.1, by rw [wr_n _ _ (by omega)]; exact l4.2.2.2.1, by rw [wr_n _ _ (by omega)]; exact l4.2.2.2.2.1, by rw [wr_n _ _ (by omega)]; exact l4.2.2.2.2.2⟩
              refine hset _ ?_
              rw [gs]
              first
                | rw [if_pos ⟨Or.inl (by omega), hcan (by omega)⟩]
                | rw [if_pos ⟨Or.inr (by have q9 := hcu (by omega); omega), hcan (by omega)⟩]
                | (rw [if_neg (fun z => absurd (hncan z.2) (by omega))]; exact q17)
                | (rw [if_neg (fun z => by have q9 := hcu (by omega); have y := z.1; clear z; omega)]; exact q17)
            · skip
              refine wq_aload_n (pc := 106) dX7_mount_106 rfl rfl ?_
              refine wq_getIK (pc := 107) (kk := 17) dX7_mount_107 hs (gf_X7_118 _ rfl) rfl rfl rfl rfl ?_
              refine wq_iconst (pc := 110) dX7_mount_110 ?_
              refine wq_icmp_eq (pc := 111) (tgt := 132) dX7_mount_111 (by decide) (by first | (unfold inR; omega) | assumption) (by first | (unfold inR; omega) | assumption) (fun c21 => ?_) (fun c21 => ?_)
              · skip
                refine wq_iload_n (pc := 132) dX7_mount_132 rfl rfl ?_
                refine wq_goto (pc := 133) (tgt := 140) dX7_mount_133 (by decide) ?_
                refine wq_putIK (pc := 140) (kk := 17) dX7_mount_140 hs (gf_X7_118 _ rfl) rfl rfl rfl rfl rfl ?_
                refine wq_sub1 (L' := [(0, _), (1, _), (2, _), (3, _)]) ⟨rfl, rfl, rfl, rfl, trivial⟩ ?_
                have hset : ∀ v : Int, v = gCur F (k + 1) → wp mX7_mount 143 [(0, vR 21), (1, vI s), (2, vI r2), (3, vI (k : Int))] [] (wr m 21 17 v) ε Q := fun v hv => cut17 _ _ (mB_wr l1 (Or.inr (Or.inl rfl))) (fun x j hx => by rw [wr_n _ _ (by omega)]; exact l2 x j hx) hr2 ⟨by rw [wr_s]; exact hv, by rw [wr_n _ _ (by omega)]; exact l4.2.1, by rw [wr_n _ _ (by omega)]; exact l4.2.2.1, by rw [wr_n _ _ (by omega)]; exact l4.2.2.2.1, by rw [wr_n _ _ (by omega)]; exact l4.2.2.2.2.1, by rw [wr_n _ _ (by omega)]; exact l4.2.2.2.2.2⟩
                refine hset _ ?_
                rw [gs]
                first
                  | rw [if_pos ⟨Or.inl (by omega), hcan (by omega)⟩]
                  | rw [if_pos ⟨Or.inr (by have q9 := hcu (by omega); omega), hcan (by omega)⟩]
                  | (rw [if_neg (fun z => absurd (hncan z.2) (by omega))]; exact q17)
                  | (rw [if_neg (fun z => by have q9 := hcu (by omega); have y := z.1; clear z; omega)]; exact q17)
              · skip
                refine wq_aload_n (pc := 114) dX7_mount_114 rfl rfl ?_
                refine wq_getS (pc := 115) dX7_mount_115 hs (gf_X7_51 _ rfl) rfl rfl rfl rfl rfl ?_
                refine wq_iload_n (pc := 118) dX7_mount_118 rfl rfl ?_
                refine wq_ialdK (pc := 119) dX7_mount_119 hs rfl (by omega) (by omega) ?_
                refine wq_aload_n (pc := 120) dX7_mount_120 rfl rfl ?_
                refine wq_getS (pc := 121) dX7_mount_121 hs (gf_X7_51 _ rfl) rfl rfl rfl rfl rfl ?_
                refine wq_aload_n (pc := 124) dX7_mount_124 rfl rfl ?_
                refine wq_getIK (pc := 125) (kk := 17) dX7_mount_125 hs (gf_X7_118 _ rfl) rfl rfl rfl rfl ?_
                refine wq_ialdK (pc := 128) dX7_mount_128 hs rfl (by omega) (by omega) ?_
                refine wq_icmp_ge (pc := 129) (tgt := 136) dX7_mount_129 (by decide) (by first | (unfold inR; omega) | assumption) (by first | (unfold inR; omega) | assumption) (fun c22 => ?_) (fun c22 => ?_)
                · skip
                  refine wq_aload_n (pc := 136) dX7_mount_136 rfl rfl ?_
                  refine wq_getIK (pc := 137) (kk := 17) dX7_mount_137 hs (gf_X7_118 _ rfl) rfl rfl rfl rfl ?_
                  refine wq_putIK (pc := 140) (kk := 17) dX7_mount_140 hs (gf_X7_118 _ rfl) rfl rfl rfl rfl rfl ?_
                  refine wq_sub1 (L' := [(0, _), (1, _), (2, _), (3, _)]) ⟨rfl, rfl, rfl, rfl, trivial⟩ ?_
                  have hset : ∀ v : Int, v = gCur F (k + 1) → wp mX7_mount 143 [(0, vR 21), (1, vI s), (2, vI r2), (3, vI (k : Int))] [] (wr m 21 17 v) ε Q := fun v hv => cut17 _ _ (mB_wr l1 (Or.inr (Or.inl rfl))) (fun x j hx => by rw [wr_n _ _ (by omega)]; exact l2 x j hx) hr2 ⟨by rw [wr_s]; exact hv, by rw [wr_n _ _ (by omega)]; exact l4.2.1, by rw [wr_n _ _ (by omega)]; exact l4.2.2.1, by rw [wr_n _ _ (by omega)]; exact l4.2.2.2.1, by rw [wr_n _ _ (by omega)]; exact l4.2.2.2.2.1, by rw [wr_n _ _ (by omega)]; exact l4.2.2.2.2.2⟩
                  refine hset _ ?_
                  rw [gs]
                  first
                    | rw [if_pos ⟨Or.inl (by omega), hcan (by omega)⟩]
                    | rw [if_pos ⟨Or.inr (by have q9 := hcu (by omega); omega), hcan (by omega)⟩]
                    | (rw [if_neg (fun z => absurd (hncan z.2) (by omega))]; exact q17)
                    | (rw [if_neg (fun z => by have q9 := hcu (by omega); have y := z.1; clear z; omega)]; exact q17)
                · skip
                  refine wq_iload_n (pc := 132) dX7_mount_132 rfl rfl ?_
                  refine wq_goto (pc := 133) (tgt := 140) dX7_mount_133 (by decide) ?_
                  refine wq_putIK (pc := 140) (kk := 17) dX7_mount_140 hs (gf_X7_118 _ rfl) rfl rfl rfl rfl rfl ?_
                  refine wq_sub1 (L' := [(0, _), (1, _), (2, _), (3, _)]) ⟨rfl, rfl, rfl, rfl, trivial⟩ ?_
                  have hset : ∀ v : Int, v = gCur F (k + 1) → wp mX7_mount 143 [(0, vR 21), (1, vI s), (2, vI r2), (3, vI (k : Int))] [] (wr m 21 17 v) ε Q := fun v hv => cut17 _ _ (mB_wr l1 (Or.inr (Or.inl rfl))) (fun x j hx => by rw [wr_n _ _ (by omega)]; exact l2 x j hx) hr2 ⟨by rw [wr_s]; exact hv, by rw [wr_n _ _ (by omega)]; exact l4.2.1, by rw [wr_n _ _ (by omega)]; exact l4.2.2.1, by rw [wr_n _ _ (by omega)]; exact l4.2.2.2.1, by rw [wr_n _ _ (by omega)]; exact l4.2.2.2.2.1, by rw [wr_n _ _ (by omega)]; exact l4.2.2.2.2.2⟩
                  refine hset _ ?_
                  rw [gs]
                  first
                    | rw [if_pos ⟨Or.inl (by omega), hcan (by omega)⟩]
                    | rw [if_pos ⟨Or.inr (by have q9 := hcu (by omega); omega), hcan (by omega)⟩]
                    | (rw [if_neg (fun z => absurd (hncan z.2) (by omega))]; exact q17)
                    | (rw [if_neg (fun z => by have q9 := hcu (by omega); have y := z.1; clear z; omega)]; exact q17)
          refine wq_aload_n (pc := 49) dX7_mount_49 rfl rfl ?_
          refine wq_getS (pc := 50) dX7_mount_50 hs (gf_X7_48 _ rfl) rfl rfl rfl rfl rfl ?_
          refine wq_iload_n (pc := 53) dX7_mount_53 rfl rfl ?_
          refine wq_ialdK (pc := 54) dX7_mount_54 hs rfl (by omega) (by omega) ?_
          refine wq_if_le (pc := 55) (tgt := 97) dX7_mount_55 (by decide) (by first | (unfold inR; omega) | assumption) (fun c23 => ?_) (fun c23 => ?_)
          · skip
            refine wq_iconst (pc := 97) dX7_mount_97 ?_
            refine wq_istore (pc := 98) (L' := [(4, _), (0, _), (1, _), (2, _), (3, _)]) dX7_mount_98 rfl (by decide) ?_
            refine wq_sub1 (L' := [(0, _), (1, _), (2, _), (3, _), (4, _)]) ⟨rfl, rfl, rfl, rfl, rfl, trivial⟩ ?_
            first
              | exact cut19 1 (Or.inr rfl) (fun _ => ⟨hsi.2.mp ⟨hsm9, htn9⟩, by omega, by omega⟩) (fun _ => rfl)
              | exact cut19 0 (Or.inl rfl) (fun z => absurd z (by decide)) (fun z => by have z1 := z.2.1; have z2 := z.2.2; clear z; omega)
              | exact cut19 0 (Or.inl rfl) (fun z => absurd z (by decide)) (fun z => absurd htn9 (hsi.2.mpr z.1).2)
              | exact cut19 0 (Or.inl rfl) (fun z => absurd z (by decide)) (fun z => absurd hsm9 (hsi.2.mpr z.1).1)
          · skip
            refine wq_aload_n (pc := 58) dX7_mount_58 rfl rfl ?_
            refine wq_iload_n (pc := 59) dX7_mount_59 rfl rfl ?_
            refine cVK_1 (pc := 60) dX7_mount_60 hs (cw_X7_276 _ rfl) (by decide) rfl ⟨by decide, by decide⟩ (Nat.le_of_ble_eq_true rfl) (sp_X7_hasSummary hs (mR_of e1) (by omega) (by omega) (by omega) (by omega) (fun hsm => ?_) (fun hsm => ?_))
            · skip
              refine kr_s ?_
              have hsm9 := hsm
              refine wq_if_ne (pc := 63) (tgt := 97) dX7_mount_63 (by decide) (by first | (unfold inR; omega) | assumption) (fun _ => ?_) (fun c => absurd c (by decide))
              refine wq_iconst (pc := 97) dX7_mount_97 ?_
              refine wq_istore (pc := 98) (L' := [(4, _), (0, _), (1, _), (2, _), (3, _)]) dX7_mount_98 rfl (by decide) ?_
              refine wq_sub1 (L' := [(0, _), (1, _), (2, _), (3, _), (4, _)]) ⟨rfl, rfl, rfl, rfl, rfl, trivial⟩ ?_
              first
                | exact cut19 1 (Or.inr rfl) (fun _ => ⟨hsi.2.mp ⟨hsm9, htn9⟩, by omega, by omega⟩) (fun _ => rfl)
                | exact cut19 0 (Or.inl rfl) (fun z => absurd z (by decide)) (fun z => by have z1 := z.2.1; have z2 := z.2.2; clear z; omega)
                | exact cut19 0 (Or.inl rfl) (fun z => absurd z (by decide)) (fun z => absurd htn9 (hsi.2.mpr z.1).2)
                | exact cut19 0 (Or.inl rfl) (fun z => absurd z (by decide)) (fun z => absurd hsm9 (hsi.2.mpr z.1).1)
            · skip
              refine kr_s ?_
              have hsm9 := hsm
              refine wq_if_ne (pc := 63) (tgt := 97) dX7_mount_63 (by decide) (by first | (unfold inR; omega) | assumption) (fun c => absurd c (by decide)) (fun _ => ?_)
              refine wq_aload_n (pc := 66) dX7_mount_66 rfl rfl ?_
              refine wq_iload_n (pc := 67) dX7_mount_67 rfl rfl ?_
              refine cVK_1 (pc := 68) dX7_mount_68 hs (cw_X7_279 _ rfl) (by decide) rfl ⟨by decide, by decide⟩ (Nat.le_of_ble_eq_true rfl) (sp_X7_hasTorn hs (mR_of e1) (by omega) (by omega) (by omega) (by omega) (fun htn => ?_) (fun htn => ?_))
              · skip
                refine kr_s ?_
                have htn9 := htn
                refine wq_if_ne (pc := 71) (tgt := 97) dX7_mount_71 (by decide) (by first | (unfold inR; omega) | assumption) (fun _ => ?_) (fun c => absurd c (by decide))
                refine wq_iconst (pc := 97) dX7_mount_97 ?_
                refine wq_istore (pc := 98) (L' := [(4, _), (0, _), (1, _), (2, _), (3, _)]) dX7_mount_98 rfl (by decide) ?_
                refine wq_sub1 (L' := [(0, _), (1, _), (2, _), (3, _), (4, _)]) ⟨rfl, rfl, rfl, rfl, rfl, trivial⟩ ?_
                first
                  | exact cut19 1 (Or.inr rfl) (fun _ => ⟨hsi.2.mp ⟨hsm9, htn9⟩, by omega, by omega⟩) (fun _ => rfl)
                  | exact cut19 0 (Or.inl rfl) (fun z => absurd z (by decide)) (fun z => by have z1 := z.2.1; have z2 := z.2.2; clear z; omega)
                  | exact cut19 0 (Or.inl rfl) (fun z => absurd z (by decide)) (fun z => absurd htn9 (hsi.2.mpr z.1).2)
                  | exact cut19 0 (Or.inl rfl) (fun z => absurd z (by decide)) (fun z => absurd hsm9 (hsi.2.mpr z.1).1)
              · skip
                refine kr_s ?_
                have htn9 := htn
                refine wq_if_ne (pc := 71) (tgt := 97) dX7_mount_71 (by decide) (by first | (unfold inR; omega) | assumption) (fun c => absurd c (by decide)) (fun _ => ?_)
                refine wq_aload_n (pc := 74) dX7_mount_74 rfl rfl ?_
                refine wq_getS (pc := 75) dX7_mount_75 hs (gf_X7_51 _ rfl) rfl rfl rfl rfl rfl ?_
                refine wq_iload_n (pc := 78) dX7_mount_78 rfl rfl ?_
                refine wq_ialdK (pc := 79) dX7_mount_79 hs rfl (by omega) (by omega) ?_
                refine wq_aload_n (pc := 80) dX7_mount_80 rfl rfl ?_
                refine wq_getS (pc := 81) dX7_mount_81 hs (gf_X7_48 _ rfl) rfl rfl rfl rfl rfl ?_
                refine wq_iload_n (pc := 84) dX7_mount_84 rfl rfl ?_
                refine wq_ialdK (pc := 85) dX7_mount_85 hs rfl (by omega) (by omega) ?_
                refine wq_iconst (pc := 86) dX7_mount_86 ?_
                refine cS_3 (pc := 87) dX7_mount_87 (cw_X7_181 _ rfl) ⟨by decide, by decide⟩ (Nat.le_of_ble_eq_true rfl) (sp_X7_fits (by omega) (by omega) (by omega) (by omega) (by omega) (by omega) (fun hft => ?_) (fun hft => ?_))
                · skip
                  refine kr_s ?_
                  refine wq_if_eq (pc := 90) (tgt := 97) dX7_mount_90 (by decide) (by first | (unfold inR; omega) | assumption) (fun c => absurd c (by decide)) (fun _ => ?_)
                  refine wq_iconst (pc := 93) dX7_mount_93 ?_
                  refine wq_goto (pc := 94) (tgt := 98) dX7_mount_94 (by decide) ?_
                  refine wq_istore (pc := 98) (L' := [(4, _), (0, _), (1, _), (2, _), (3, _)]) dX7_mount_98 rfl (by decide) ?_
                  refine wq_sub1 (L' := [(0, _), (1, _), (2, _), (3, _), (4, _)]) ⟨rfl, rfl, rfl, rfl, rfl, trivial⟩ ?_
                  first
                    | exact cut19 1 (Or.inr rfl) (fun _ => ⟨hsi.2.mp ⟨hsm9, htn9⟩, by omega, by omega⟩) (fun _ => rfl)
                    | exact cut19 0 (Or.inl rfl) (fun z => absurd z (by decide)) (fun z => by have z1 := z.2.1; have z2 := z.2.2; clear z; omega)
                    | exact cut19 0 (Or.inl rfl) (fun z => absurd z (by decide)) (fun z => absurd htn9 (hsi.2.mpr z.1).2)
                    | exact cut19 0 (Or.inl rfl) (fun z => absurd z (by decide)) (fun z => absurd hsm9 (hsi.2.mpr z.1).1)
                · skip
                  refine kr_s ?_
                  refine wq_if_eq (pc := 90) (tgt := 97) dX7_mount_90 (by decide) (by first | (unfold inR; omega) | assumption) (fun _ => ?_) (fun c => absurd c (by decide))
                  refine wq_iconst (pc := 97) dX7_mount_97 ?_
                  refine wq_istore (pc := 98) (L' := [(4, _), (0, _), (1, _), (2, _), (3, _)]) dX7_mount_98 rfl (by decide) ?_
                  refine wq_sub1 (L' := [(0, _), (1, _), (2, _), (3, _), (4, _)]) ⟨rfl, rfl, rfl, rfl, rfl, trivial⟩ ?_
                  first
                    | exact cut19 1 (Or.inr rfl) (fun _ => ⟨hsi.2.mp ⟨hsm9, htn9⟩, by omega, by omega⟩) (fun _ => rfl)
                    | exact cut19 0 (Or.inl rfl) (fun z => absurd z (by decide)) (fun z => by have z1 := z.2.1; have z2 := z.2.2; clear z; omega)
                    | exact cut19 0 (Or.inl rfl) (fun z => absurd z (by decide)) (fun z => absurd htn9 (hsi.2.mpr z.1).2)
                    | exact cut19 0 (Or.inl rfl) (fun z => absurd z (by decide)) (fun z => absurd hsm9 (hsi.2.mpr z.1).1)
        refine wq_iload_n (pc := 40) dX7_mount_40 rfl rfl ?_
        refine wq_aload_n (pc := 41) dX7_mount_41 rfl rfl ?_
        refine wq_iload_n (pc := 42) dX7_mount_42 rfl rfl ?_
        refine wq_iload_n (pc := 43) dX7_mount_43 rfl rfl ?_
        refine cVK_2 (pc := 44) dX7_mount_44 hs (cw_X7_282 _ rfl) (by decide) rfl ⟨by decide, by decide⟩ (Nat.le_of_ble_eq_true rfl) (sp_X7_readOf hs (mR_of e1) (by omega) (by omega) (by rw [s34]; omega) (by rw [s34]; omega) hs01 (fun i => by have := b32 e1 i; omega) (fun z1 z2 z3 => ?_) (fun z1 => ?_))
        · skip
          refine kr_s ?_
          have hu9 : uRd F k s = 1 + m 32 (16 * (k : Int) + m 34 (k : Int) - 1) := by
            have q := hsi.1.mp ⟨z2, z3⟩
            rw [uRd_1 ⟨z1, q⟩, s34, s32 (by omega)]; omega
          refine wq_iadd (pc := 47) dX7_mount_47 ?_
          refine wq_istore_n (pc := 48) (L' := [(2, _), (0, _), (1, _), (3, _)]) dX7_mount_48 rfl rfl (by decide) ?_
          refine wq_sub1 (L' := [(0, _), (1, _), (2, _), (3, _)]) ⟨rfl, rfl, rfl, rfl, trivial⟩ ?_
          exact cut18 _ (by rw [rds]; omega)
        · skip
          refine kr_s ?_
          have hu9 : uRd F k s = m 35 (k : Int) := by
            rw [uRd_0 (fun y => z1 ⟨y.1, hsi.1.mpr y.2⟩), s35]
          refine wq_iadd (pc := 47) dX7_mount_47 ?_
          refine wq_istore_n (pc := 48) (L' := [(2, _), (0, _), (1, _), (3, _)]) dX7_mount_48 rfl rfl (by decide) ?_
          refine wq_sub1 (L' := [(0, _), (1, _), (2, _), (3, _)]) ⟨rfl, rfl, rfl, rfl, trivial⟩ ?_
          exact cut18 _ (by rw [rds]; omega)
  refine wq_sub1 (L' := [(0, _), (1, _), (2, _), (3, _)]) ⟨rfl, rfl, rfl, rfl, trivial⟩ ?_
  refine loop15 9 0 _ _ _ (by omega) (by omega) (by omega) ?_ ?_ ⟨rfl, by decide, by decide⟩ ⟨?_, ?_, ?_, ?_, ?_, ?_⟩
  · refine mB_wr (mB_wr (mB_wr (mB_wr (mB_wr (mB_wr hb ?_) ?_) ?_) ?_) ?_) ?_
    all_goals exact Or.inr (Or.inl rfl)
  · intro x j hx
    repeat rw [wr_n _ _ (by omega)]
  · (repeat (first | rw [wr_s] | rw [wr_n _ _ (by omega)])); rfl
  · (repeat (first | rw [wr_s] | rw [wr_n _ _ (by omega)]))
  · (repeat (first | rw [wr_s] | rw [wr_n _ _ (by omega)]))
  · (repeat (first | rw [wr_s] | rw [wr_n _ _ (by omega)]))
  · (repeat (first | rw [wr_s] | rw [wr_n _ _ (by omega)]))
  · (repeat (first | rw [wr_s] | rw [wr_n _ _ (by omega)]))
