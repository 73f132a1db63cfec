def tE (S : Tr) (x y : Int) : Prop := y ∈ tNl S ∧ tFd S y 2 = 1 ∧ ∃ j : Int, 1 ≤ j ∧ j ≤ 99 ∧ tCl S x j = y ∧ y ≠ 0
/-- to be come to from a directory by names: in each set that holds it and what its members name -/
def tReach (S : Tr) (h x : Int) : Prop := ∀ P : Int → Prop, P h → (∀ u v, P u → tE S u v → P v) → P x
theorem tReach_s {S : Tr} {h u v : Int} (hu : tReach S h u) (e : tE S u v) : tReach S h v := fun P p0 p1 => p1 u v (hu P p0 p1) e
theorem CT_clr {S : Tr} {m : nMem} {ε : nEnv} {b q : Int} (hT : CT S m ε) (hA : tAt S m b q) : CT S (wr m b 7 0) ε ∧ FrT m ε (wr m b 7 0) ε ∧ (∀ c x, tAt S m c x → tAt S (wr m b 7 0) c x) ∧ (∀ j, wr m b 7 0 13 j = m 13 j) := by
  obtain ⟨a0, s1, s2, s3⟩ := tAt_sh hT hA
  have m13 : ∀ j, wr m b 7 0 13 j = m 13 j := fun j => wr_n _ _ (by omega)
  obtain ⟨T1, K1, K2⟩ := CT_off (m' := wr m b 7 0) hT (fun x j x1 x2 => wr_n _ _ (fun r => x2 r.2)) (fun x j hx => wr_n _ _ (fun r => by rw [r.1, s1.1] at hx; cases hx)) m13
  have hti : isTI m ε b := by
    obtain ⟨i, i0, i1, i2⟩ := hA
    have hl := hT.2.2.2.1
    exact ⟨i, by omega, by omega, by rw [i2]; exact a0, Or.inl i2.symm⟩
  exact ⟨T1, ⟨fun y _ _ _ y3 y4 k => wr_n _ _ (fun r => y4 (by rw [r.1]; exact hti)), fun _ _ => ⟨rfl, rfl, fun _ => rfl⟩, fun y ⟨i, i0, i1, i2, i3⟩ => Or.inl ⟨i, i0, i1, by rw [m13] at i2; exact i2, by rw [m13] at i3; exact i3⟩, rfl, fun t ht => Cap_congr ht (fun i => wr_n _ _ (by omega)) m13 rfl rfl⟩, K1, m13⟩
theorem sp_X5_reach0 {μ : nMem} {ε : nEnv} {Q : nOut → nMem → nEnv → Prop} {ff : Int} (hs : SkP skT ε) (h : Q (.inl (some (vI ff))) μ ε) : Sp mX5_reach [vR 12, vR 0, vI ff] μ ε Q := by
  refine Sp_of (L := [(0, vR 12), (1, vR 0), (2, vI ff)]) (by decide) rfl rfl (Nat.le_of_ble_eq_true rfl) ?_
  refine wq_aload_n (pc := 0) dX5_reach_0 rfl rfl ?_
  refine wq_ifnull (pc := 1) (tgt := 29) dX5_reach_1 (by decide) (fun _ => ?_) (fun c => absurd rfl c)
  refine wq_iload_n (pc := 29) dX5_reach_29 rfl rfl ?_
  refine wq_iret (pc := 30) dX5_reach_30 rfl ?_
  first | exact h | exact h rfl | exact h (by omega) | exact h1 (by omega) | exact h2 (by omega) | exact h3 (by omega) | exact h4 (by omega)
theorem sq_X5_reach {S : Tr} {μ : nMem} {ε : nEnv} {Q : nOut → nMem → nEnv → Prop} {b q ff : Int} {ws : List Int} (hW : BS S ws μ ε) (hB : tB S) (hA : tAt S μ b q) (hf : ff = ws.length) (hd : tFd S q 2 = 1) (hq : q ∉ ws) (h2 : ∀ μ9, BS S (ws ++ [q]) μ9 ε → FrT μ ε μ9 ε → (∀ c x, tAt S μ c x → tAt S μ9 c x) → Q (.inl (some (vI (ff + 1)))) μ9 ε) : Sp mX5_reach [vR 12, vR b, vI ff] μ ε Q :=
  sp_X5_reach hW hB hA hf (fun d => by rcases d with d | d; omega; exact absurd d hq) (fun _ _ => h2)
theorem sp_X5_leadsTo {μ : nMem} {ε : nEnv} {Q : nOut → nMem → nEnv → Prop} {S : Tr} {hh ll nh nlo : Int} (hT : CT S μ ε) (hB : tB S) (hA : tAt S μ hh nh) (hAl : tAt S μ ll nlo) (hdir : tFd S nh 2 = 1) (h1 : tReach S nh nlo → ∀ μ9, CT S μ9 ε → FrT μ ε μ9 ε → (∀ c x, tAt S μ c x → tAt S μ9 c x) → Q (.inl (some (vI 1))) μ9 ε) (h0 : ¬ tReach S nh nlo → ∀ μ9, CT S μ9 ε → FrT μ ε μ9 ε → (∀ c x, tAt S μ c x → tAt S μ9 c x) → Q (.inl (some (vI 0))) μ9 ε) : Sp mX5_leadsTo [vR 12, vR hh, vR ll] μ ε Q := by
  refine Sp_of (L := [(0, vR 12), (1, vR hh), (2, vR ll)]) (by decide) rfl rfl (Nat.le_of_ble_eq_true rfl) ?_
  have hs := hT.1
  have hl := hT.2.2.2.1
  have hc := hT.2.2.2.2.1
  obtain ⟨ll0, lI, lw, -⟩ := tAt_sh hT hAl
  obtain ⟨kl, -, -⟩ := id lI
  refine wq_iconst (pc := 0) dX5_leadsTo_0 ?_
  refine wq_istore_n (pc := 1) (L' := [(3, _), (0, _), (1, _), (2, _)]) dX5_leadsTo_1 rfl rfl (by decide) ?_
  have loop1 : ∀ (n k : Nat), ∀ (m : nMem) (i v : Int), k ≤ 130 → 130 < k + n → i = (k : Int) → CT S m ε → FrT μ ε m ε → (∀ c x, tAt S μ c x → tAt S m c x) → (∀ p : Nat, p < k → p < (tNl S).length → m (m 13 p) 7 = 0) → wp mX5_leadsTo 2 [(0, vR 12), (1, vR hh), (2, vR ll), (3, vI i)] [] m ε Q := by
    intro n
    induction n with
    | zero => intro k m i v hk1 hk2 e0 e1 e2 e3 e4; exact absurd hk2 (by omega)
    | succ n ih =>
      intro k m i v hk1 hk2 e0 e1 e2 e3 e4
      subst e0
      have hs := e1.1
      have hc := e1.2.2.2.2.1
      have hit : k < (tNl S).length → tAt S m (m 13 k) ((tNl S).getD k 0) := fun q => CT_it e1 q
      have hat : k < (tNl S).length → m 13 k ≠ 0 ∧ eKind ε (m 13 k) = 2 := fun q => ⟨(tAt_sh e1 (hit q)).1, (tAt_sh e1 (hit q)).2.1.1⟩
      refine wq_iload_n (pc := 2) dX5_leadsTo_2 rfl rfl ?_
      refine wq_aload_n (pc := 3) dX5_leadsTo_3 rfl rfl ?_
      refine wq_getIK (pc := 4) (kk := 2) dX5_leadsTo_4 hs (gf_X5_23 _ rfl) rfl rfl rfl rfl ?_
      refine wq_icmp_ge (pc := 7) (tgt := 34) dX5_leadsTo_7 (by decide) (by first | (unfold inR; omega) | assumption) (by first | (unfold inR; omega) | assumption) (fun c2 => ?_) (fun c2 => ?_)
      · skip
        have W0 : BS S [] m ε := ⟨e1, List.nodup_nil, (fun q hq => by cases hq), fun i hi => absurd hi (Nat.not_lt_zero _), fun b q ⟨i, i0, i1, i2⟩ => by rw [if_neg (by simp), ← i2]; exact e4 i (by omega) i0⟩
        have hA3 := e3 _ _ hA
        refine wq_aload_n (pc := 34) dX5_leadsTo_34 rfl rfl ?_
        refine wq_aload_n (pc := 35) dX5_leadsTo_35 rfl rfl ?_
        refine wq_iconst (pc := 36) dX5_leadsTo_36 ?_
        refine cVK_2 (pc := 37) dX5_leadsTo_37 hs (cw_X5_80 _ rfl) (by decide) rfl ⟨by decide, by decide⟩ (Nat.le_of_ble_eq_true rfl) (sq_X5_reach W0 hB hA3 rfl hdir (by simp) (fun m4 W4 F4 K4 => ?_))
        refine kr_s ?_
        refine wq_istore_n (pc := 40) (L' := [(3, _), (0, _), (1, _), (2, _)]) dX5_leadsTo_40 rfl rfl (by decide) ?_
        refine wq_iconst (pc := 41) dX5_leadsTo_41 ?_
        refine wq_istore (pc := 42) (L' := [(4, _), (3, _), (0, _), (1, _), (2, _)]) dX5_leadsTo_42 rfl (by decide) ?_
        have loop4 : ∀ (n k : Nat), ∀ (m : nMem) (i f : Int) (ws : List Int), k ≤ 130 → 130 < k + n → i = (k : Int) → f = (ws.length : Int) → BS S ws m ε → FrT μ ε m ε → (∀ c x, tAt S μ c x → tAt S m c x) → (∀ x ∈ ws, tReach S nh x) → nh ∈ ws → (∀ p : Nat, p < k → p < ws.length → ∀ y, tE S (ws.getD p 0) y → y ∈ ws) → wp mX5_leadsTo 44 [(0, vR 12), (1, vR hh), (2, vR ll), (3, vI f), (4, vI i)] [] m ε Q := by
          intro n
          induction n with
          | zero => intro k m i f ws hk1 hk2 e0 e1 e2 e3 e4 e5 e6 e7; exact absurd hk2 (by omega)
          | succ n ih =>
            intro k m i f ws hk1 hk2 e0 e1 e2 e3 e4 e5 e6 e7
            subst e0
            have ihO := ih
            obtain ⟨i9, hi9⟩ : ∃ i9 : Nat, i9 = k := ⟨_, rfl⟩
            subst hi9
            have hs := e2.1.1
            have hlen : ws.length ≤ 129 := by
              have := sub_len e2.2.1 e2.2.2.1
              have := e2.1.2.2.2.1
              omega
            have hwt : i9 < ws.length → tAt S m (m 14 i9) (ws.getD i9 0) := fun q => e2.2.2.2.1 i9 q
            have l7 := e2.2.2.2.2 _ _ (e4 _ _ hAl)
            have l7r : m ll 7 = 0 ∨ m ll 7 = 1 := by rw [l7]; split <;> omega
            refine wq_iload (pc := 44) dX5_leadsTo_44 rfl ?_
            refine wq_iload_n (pc := 46) dX5_leadsTo_46 rfl rfl ?_
            refine wq_icmp_ge (pc := 47) (tgt := 121) dX5_leadsTo_47 (by decide) (by first | (unfold inR; omega) | assumption) (by first | (unfold inR; omega) | assumption) (fun c5 => ?_) (fun c5 => ?_)
            · skip
              refine wq_aload_n (pc := 121) dX5_leadsTo_121 rfl rfl ?_
              refine wq_getI (pc := 122) (kk := 7) dX5_leadsTo_122 (gf_X5_77 _ rfl) (by with_reducible assumption) rfl rfl rfl ?_
              refine wq_zret (pc := 125) dX5_leadsTo_125 rfl (by first | omega | (simp; done) | assumption) ?_
              by_cases hm : nlo ∈ ws
              · rw [l7, if_pos hm]; exact h1 (e5 _ hm) _ e2.1 e3 e4
              · rw [l7, if_neg hm]; exact h0 (fun r => hm (r (fun x => x ∈ ws) e6 (fun u v hu hv => by
                  obtain ⟨p, hp, e⟩ := mem_getD hu
                  rw [← e] at hv
                  exact e7 p (by omega) hp v hv))) _ e2.1 e3 e4
            · skip
              refine wq_iload (pc := 50) dX5_leadsTo_50 rfl ?_
              refine wq_sipush (pc := 52) dX5_leadsTo_52 (by decide) (by decide) ?_
              refine wq_icmp_ge (pc := 55) (tgt := 121) dX5_leadsTo_55 (by decide) (by first | (unfold inR; omega) | assumption) (by first | (unfold inR; omega) | assumption) (fun c6 => ?_) (fun c6 => ?_)
              · skip
                exfalso; omega
              · skip
                refine wq_aload_n (pc := 58) dX5_leadsTo_58 rfl rfl ?_
                refine wq_getS (pc := 59) dX5_leadsTo_59 hs (gf_X5_17 _ rfl) rfl rfl rfl rfl rfl ?_
                refine wq_iload (pc := 62) dX5_leadsTo_62 rfl ?_
                refine wq_aaldIK (pc := 64) dX5_leadsTo_64 hs rfl (by omega) (by omega) ?_
                refine wq_astore (pc := 65) (L' := [(5, _), (0, _), (1, _), (2, _), (3, _), (4, _)]) dX5_leadsTo_65 rfl (by decide) ?_
                have hw9 := hwt (by omega)
                obtain ⟨u9, hu9⟩ : ∃ u9, u9 = ws.getD i9 0 := ⟨_, rfl⟩
                rw [← hu9] at hw9
                generalize m 14 (i9 : Int) = w9 at hw9 ⊢
                refine wq_iconst (pc := 67) dX5_leadsTo_67 ?_
                refine wq_istore (pc := 68) (L' := [(6, _), (5, _), (0, _), (1, _), (2, _), (3, _), (4, _)]) dX5_leadsTo_68 rfl (by decide) ?_
                have loop7 : ∀ (n k : Nat), ∀ (m : nMem) (f j : Int) (ws : List Int), k ≤ 100 → 100 < k + n → j = (k : Int) → 1 ≤ k → f = (ws.length : Int) → BS S ws m ε → FrT μ ε m ε → (∀ c x, tAt S μ c x → tAt S m c x) → (∀ x ∈ ws, tReach S nh x) → nh ∈ ws → i9 < ws.length ∧ ws.getD i9 0 = u9 → tAt S m w9 u9 → (∀ p : Nat, p < i9 → p < ws.length → ∀ y, tE S (ws.getD p 0) y → y ∈ ws) → (∀ (y q : Int), 1 ≤ q → q < k → tCl S u9 q = y → y ≠ 0 → y ∈ tNl S → tFd S y 2 = 1 → y ∈ ws) → wp mX5_leadsTo 70 [(0, vR 12), (1, vR hh), (2, vR ll), (3, vI f), (4, vI i9), (5, vR w9), (6, vI j)] [] m ε Q := by
                  intro n
                  induction n with
                  | zero => intro k m f j ws hk1 hk2 e0 e1 e2 e3 e4 e5 e6 e7 e8 e9 e10 e11; exact absurd hk2 (by omega)
                  | succ n ih =>
                    intro k m f j ws hk1 hk2 e0 e1 e2 e3 e4 e5 e6 e7 e8 e9 e10 e11
                    subst e0
                    have hs := e3.1.1
                    obtain ⟨w0, wI, ww, -⟩ := tAt_sh e3.1 e9
                    obtain ⟨kw, -, -⟩ := id wI
                    have hcell : k ≤ 99 → nCell m ε w9 k = tCl S u9 k := fun q => tAt_cell e3.1 e9 (by omega) (by omega)
                    have bcl : k ≤ 99 → 0 ≤ tCl S u9 k ∧ tCl S u9 k ≤ 100000 := fun q => (hB.2 _ (tAt_mem e9)).2.2.2 k (by omega) (by omega)
                    have hmu : u9 ∈ ws := by rw [← e8.2]; exact getD_mem e8.1
                    have hlen : ws.length ≤ 129 := by
                      have := sub_len e3.2.1 e3.2.2.1
                      have := e3.1.2.2.2.1
                      omega
                    refine wq_aload (pc := 70) dX5_leadsTo_70 rfl ?_
                    refine wq_ifnull (pc := 72) (tgt := 115) dX5_leadsTo_72 (by decide)  (fun c8 => ?_) (fun c8 => ?_)
                    · skip
                      exfalso; omega
                    · skip
                      refine wq_iload (pc := 75) dX5_leadsTo_75 rfl ?_
                      refine wq_bipush (pc := 77) dX5_leadsTo_77 (by decide) (by decide) ?_
                      refine wq_icmp_gt (pc := 79) (tgt := 115) dX5_leadsTo_79 (by decide) (by first | (unfold inR; omega) | assumption) (by first | (unfold inR; omega) | assumption) (fun c9 => ?_) (fun c9 => ?_)
                      · skip
                        refine wq_iinc (pc := 115) (L' := [(4, _), (0, _), (1, _), (2, _), (3, _), (5, _), (6, _)]) dX5_leadsTo_115 rfl rfl (by decide) ?_
                        refine wq_goto (pc := 118) (tgt := 44) dX5_leadsTo_118 (by decide) ?_
                        refine wq_sub1 (L' := [(0, _), (1, _), (2, _), (3, _), (4, _)]) ⟨rfl, rfl, rfl, rfl, rfl, trivial⟩ ?_
                        exact ihO (i9 + 1) m _ _ ws (by omega) (by omega) (by omega) e2 e3 e4 e5 e6 e7 (fun p p0 p1 y hy => by
                          by_cases e : p < i9
                          · exact e10 p e p1 y hy
                          · rw [show p = i9 by omega, e8.2] at hy
                            obtain ⟨y1, y2, q, q0, q1, hy, y0⟩ := hy
                            exact e11 y q q0 (by omega) hy y0 y1 y2)
                      · skip
                        have hcl := hcell (by omega)
                        have hbc := bcl (by omega)
                        refine wq_aload (pc := 82) dX5_leadsTo_82 rfl ?_
                        refine wq_iload (pc := 84) dX5_leadsTo_84 rfl ?_
                        refine cV_1 (pc := 86) dX5_leadsTo_86 (cw_X5_59 _ rfl) (by decide) (by with_reducible assumption) ⟨by decide, by decide⟩ (Nat.le_of_ble_eq_true rfl) (sp_X1_cell wI (by unfold inR; omega) ?_)
                        refine kr_s ?_
                        rw [hcl]
                        refine wq_if_eq (pc := 89) (tgt := 109) dX5_leadsTo_89 (by decide) (by first | (unfold inR; omega) | assumption) (fun c10 => ?_) (fun c10 => ?_)
                        · skip
                          refine wq_iinc (pc := 109) (L' := [(6, _), (0, _), (1, _), (2, _), (3, _), (4, _), (5, _)]) dX5_leadsTo_109 rfl rfl (by decide) ?_
                          refine wq_goto (pc := 112) (tgt := 70) dX5_leadsTo_112 (by decide) ?_
                          refine wq_sub1 (L' := [(0, _), (1, _), (2, _), (3, _), (4, _), (5, _), (6, _)]) ⟨rfl, rfl, rfl, rfl, rfl, rfl, rfl, trivial⟩ ?_
                          first
                            | exact ih (k + 1) m4 _ _ (ws ++ [tCl S u9 k]) (by omega) (by omega) (by omega) (by omega) (by rw [List.length_append]; simp; omega) W4 (FrT_trans e4 F4) (fun c x q => K4 _ _ (e5 c x q)) (fun x hx => by
                                rcases List.mem_append.mp hx with r | r
                                · exact e6 x r
                                · rw [List.mem_singleton.mp r]; exact tReach_s (e6 u9 hmu) ⟨tAt_mem hp, d1, k, by omega, by omega, rfl, by omega⟩) (List.mem_append_left _ e7) ⟨by rw [List.length_append]; simp; omega, by rw [getD_app1 e8.1]; exact e8.2⟩ (K4 _ _ e9) (fun p p0 p1 y hy => by rw [getD_app1 (by omega)] at hy; exact List.mem_append_left _ (e10 p p0 (by omega) y hy)) (fun y q q0 q1 hy y0 y1 y2 => by
                                by_cases e : q = k
                                · subst e; rw [hy]; exact List.mem_append_right _ (by simp)
                                · exact List.mem_append_left _ (e11 y q q0 (by omega) hy y0 y1 y2))
                            | exact ih (k + 1) m _ _ ws (by omega) (by omega) (by omega) (by omega) e2 e3 e4 e5 e6 e7 e8 e9 e10 (fun y q q0 q1 hy y0 y1 y2 => by
                                by_cases e : q = k
                                · subst e
                                  first
                                    | (exfalso; omega)
                                    | (rw [← hy] at y1; exact absurd y1 hn)
                                    | (rcases d1 with d1 | d1
                                       · rw [hy] at d1; omega
                                       · rw [hy] at d1; exact d1)
                                · exact e11 y q q0 (by omega) hy y0 y1 y2)
                        · skip
                          refine wq_aload_n (pc := 92) dX5_leadsTo_92 rfl rfl ?_
                          refine wq_aload_n (pc := 93) dX5_leadsTo_93 rfl rfl ?_
                          refine wq_aload (pc := 94) dX5_leadsTo_94 rfl ?_
                          refine wq_iload (pc := 96) dX5_leadsTo_96 rfl ?_
                          refine cV_1 (pc := 98) dX5_leadsTo_98 (cw_X5_59 _ rfl) (by decide) (by with_reducible assumption) ⟨by decide, by decide⟩ (Nat.le_of_ble_eq_true rfl) (sp_X1_cell wI (by unfold inR; omega) ?_)
                          refine kr_s ?_
                          rw [hcl]
                          refine cVK_1 (pc := 101) dX5_leadsTo_101 hs (cw_X5_41 _ rfl) (by decide) rfl ⟨by decide, by decide⟩ (Nat.le_of_ble_eq_true rfl) (sp_X5_find e3.1 hB (by unfold inR; omega) (fun p hp => ?_) (fun hn => ?_))
                          · skip
                            refine kr_s ?_
                            obtain ⟨p0, pI, pw, -⟩ := tAt_sh e3.1 hp
                            refine wq_iload_n (pc := 104) dX5_leadsTo_104 rfl rfl ?_
                            refine cVK_2 (pc := 105) dX5_leadsTo_105 hs (cw_X5_80 _ rfl) (by decide) rfl ⟨by decide, by decide⟩ (Nat.le_of_ble_eq_true rfl) (sp_X5_reach e3 hB hp e2 (fun d1 => ?_) (fun d1 d2 m4 W4 F4 K4 => ?_))
                            · skip
                              refine kr_s ?_
                              refine wq_istore_n (pc := 108) (L' := [(3, _), (0, _), (1, _), (2, _), (4, _), (5, _), (6, _)]) dX5_leadsTo_108 rfl rfl (by decide) ?_
                              refine wq_iinc (pc := 109) (L' := [(6, _), (3, _), (0, _), (1, _), (2, _), (4, _), (5, _)]) dX5_leadsTo_109 rfl rfl (by decide) ?_
                              refine wq_goto (pc := 112) (tgt := 70) dX5_leadsTo_112 (by decide) ?_
                              refine wq_sub1 (L' := [(0, _), (1, _), (2, _), (3, _), (4, _), (5, _), (6, _)]) ⟨rfl, rfl, rfl, rfl, rfl, rfl, rfl, trivial⟩ ?_
                              first
                                | exact ih (k + 1) m4 _ _ (ws ++ [tCl S u9 k]) (by omega) (by omega) (by omega) (by omega) (by rw [List.length_append]; simp; omega) W4 (FrT_trans e4 F4) (fun c x q => K4 _ _ (e5 c x q)) (fun x hx => by
                                    rcases List.mem_append.mp hx with r | r
                                    · exact e6 x r
                                    · rw [List.mem_singleton.mp r]; exact tReach_s (e6 u9 hmu) ⟨tAt_mem hp, d1, k, by omega, by omega, rfl, by omega⟩) (List.mem_append_left _ e7) ⟨by rw [List.length_append]; simp; omega, by rw [getD_app1 e8.1]; exact e8.2⟩ (K4 _ _ e9) (fun p p0 p1 y hy => by rw [getD_app1 (by omega)] at hy; exact List.mem_append_left _ (e10 p p0 (by omega) y hy)) (fun y q q0 q1 hy y0 y1 y2 => by
                                    by_cases e : q = k
                                    · subst e; rw [hy]; exact List.mem_append_right _ (by simp)
                                    · exact List.mem_append_left _ (e11 y q q0 (by omega) hy y0 y1 y2))
                                | exact ih (k + 1) m _ _ ws (by omega) (by omega) (by omega) (by omega) e2 e3 e4 e5 e6 e7 e8 e9 e10 (fun y q q0 q1 hy y0 y1 y2 => by
                                    by_cases e : q = k
                                    · subst e
                                      first
                                        | (exfalso; omega)
                                        | (rw [← hy] at y1; exact absurd y1 hn)
                                        | (rcases d1 with d1 | d1
                                           · rw [hy] at d1; omega
                                           · rw [hy] at d1; exact d1)
                                    · exact e11 y q q0 (by omega) hy y0 y1 y2)
                            · skip
                              refine kr_s ?_
                              refine wq_istore_n (pc := 108) (L' := [(3, _), (0, _), (1, _), (2, _), (4, _), (5, _), (6, _)]) dX5_leadsTo_108 rfl rfl (by decide) ?_
                              refine wq_iinc (pc := 109) (L' := [(6, _), (3, _), (0, _), (1, _), (2, _), (4, _), (5, _)]) dX5_leadsTo_109 rfl rfl (by decide) ?_
                              refine wq_goto (pc := 112) (tgt := 70) dX5_leadsTo_112 (by decide) ?_
                              refine wq_sub1 (L' := [(0, _), (1, _), (2, _), (3, _), (4, _), (5, _), (6, _)]) ⟨rfl, rfl, rfl, rfl, rfl, rfl, rfl, trivial⟩ ?_
                              first
                                | exact ih (k + 1) m4 _ _ (ws ++ [tCl S u9 k]) (by omega) (by omega) (by omega) (by omega) (by rw [List.length_append]; simp; omega) W4 (FrT_trans e4 F4) (fun c x q => K4 _ _ (e5 c x q)) (fun x hx => by
                                    rcases List.mem_append.mp hx with r | r
                                    · exact e6 x r
                                    · rw [List.mem_singleton.mp r]; exact tReach_s (e6 u9 hmu) ⟨tAt_mem hp, d1, k, by omega, by omega, rfl, by omega⟩) (List.mem_append_left _ e7) ⟨by rw [List.length_append]; simp; omega, by rw [getD_app1 e8.1]; exact e8.2⟩ (K4 _ _ e9) (fun p p0 p1 y hy => by rw [getD_app1 (by omega)] at hy; exact List.mem_append_left _ (e10 p p0 (by omega) y hy)) (fun y q q0 q1 hy y0 y1 y2 => by
                                    by_cases e : q = k
                                    · subst e; rw [hy]; exact List.mem_append_right _ (by simp)
                                    · exact List.mem_append_left _ (e11 y q q0 (by omega) hy y0 y1 y2))
                                | exact ih (k + 1) m _ _ ws (by omega) (by omega) (by omega) (by omega) e2 e3 e4 e5 e6 e7 e8 e9 e10 (fun y q q0 q1 hy y0 y1 y2 => by
                                    by_cases e : q = k
                                    · subst e
                                      first
                                        | (exfalso; omega)
                                        | (rw [← hy] at y1; exact absurd y1 hn)
                                        | (rcases d1 with d1 | d1
                                           · rw [hy] at d1; omega
                                           · rw [hy] at d1; exact d1)
                                    · exact e11 y q q0 (by omega) hy y0 y1 y2)
                          · skip
                            refine kr_s ?_
                            refine wq_iload_n (pc := 104) dX5_leadsTo_104 rfl rfl ?_
                            refine cVK_2 (pc := 105) dX5_leadsTo_105 hs (cw_X5_80 _ rfl) (by decide) rfl ⟨by decide, by decide⟩ (Nat.le_of_ble_eq_true rfl) (sp_X5_reach0 hs ?_)
                            refine kr_s ?_
                            refine wq_istore_n (pc := 108) (L' := [(3, _), (0, _), (1, _), (2, _), (4, _), (5, _), (6, _)]) dX5_leadsTo_108 rfl rfl (by decide) ?_
                            refine wq_iinc (pc := 109) (L' := [(6, _), (3, _), (0, _), (1, _), (2, _), (4, _), (5, _)]) dX5_leadsTo_109 rfl rfl (by decide) ?_
                            refine wq_goto (pc := 112) (tgt := 70) dX5_leadsTo_112 (by decide) ?_
                            refine wq_sub1 (L' := [(0, _), (1, _), (2, _), (3, _), (4, _), (5, _), (6, _)]) ⟨rfl, rfl, rfl, rfl, rfl, rfl, rfl, trivial⟩ ?_
                            first
                              | exact ih (k + 1) m4 _ _ (ws ++ [tCl S u9 k]) (by omega) (by omega) (by omega) (by omega) (by rw [List.length_append]; simp; omega) W4 (FrT_trans e4 F4) (fun c x q => K4 _ _ (e5 c x q)) (fun x hx => by
                                  rcases List.mem_append.mp hx with r | r
                                  · exact e6 x r
                                  · rw [List.mem_singleton.mp r]; exact tReach_s (e6 u9 hmu) ⟨tAt_mem hp, d1, k, by omega, by omega, rfl, by omega⟩) (List.mem_append_left _ e7) ⟨by rw [List.length_append]; simp; omega, by rw [getD_app1 e8.1]; exact e8.2⟩ (K4 _ _ e9) (fun p p0 p1 y hy => by rw [getD_app1 (by omega)] at hy; exact List.mem_append_left _ (e10 p p0 (by omega) y hy)) (fun y q q0 q1 hy y0 y1 y2 => by
                                  by_cases e : q = k
                                  · subst e; rw [hy]; exact List.mem_append_right _ (by simp)
                                  · exact List.mem_append_left _ (e11 y q q0 (by omega) hy y0 y1 y2))
                              | exact ih (k + 1) m _ _ ws (by omega) (by omega) (by omega) (by omega) e2 e3 e4 e5 e6 e7 e8 e9 e10 (fun y q q0 q1 hy y0 y1 y2 => by
                                  by_cases e : q = k
                                  · subst e
                                    first
                                      | (exfalso; omega)
                                      | (rw [← hy] at y1; exact absurd y1 hn)
                                      | (rcases d1 with d1 | d1
                                         · rw [hy] at d1; omega
                                         · rw [hy] at d1; exact d1)
                                  · exact e11 y q q0 (by omega) hy y0 y1 y2)
                refine wq_sub1 (L' := [(0, _), (1, _), (2, _), (3, _), (4, _), (5, _), (6, _)]) ⟨rfl, rfl, rfl, rfl, rfl, rfl, rfl, trivial⟩ ?_
                exact loop7 101 1 m _ _ ws (by omega) (by omega) (by omega) (by omega) e1 e2 e3 e4 e5 e6 ⟨by omega, hu9.symm⟩ hw9 e7 (fun y q q0 q1 => absurd q1 (by omega))
        refine wq_sub1 (L' := [(0, _), (1, _), (2, _), (3, _), (4, _)]) ⟨rfl, rfl, rfl, rfl, rfl, trivial⟩ ?_
        exact loop4 131 0 m4 _ _ ([] ++ [nh]) (by omega) (by omega) (by omega) rfl W4 (FrT_trans e2 F4) (fun c x q => K4 _ _ (e3 c x q)) (fun x hx => by
          have : x = nh := by simpa using hx
          rw [this]; exact fun P p0 _ => p0) (by simp) (fun p p0 => absurd p0 (by omega))
      · skip
        obtain ⟨t0, t1⟩ := hat (by omega)
        refine wq_aload_n (pc := 10) dX5_leadsTo_10 rfl rfl ?_
        refine wq_iload_n (pc := 11) dX5_leadsTo_11 rfl rfl ?_
        refine cVK_1 (pc := 12) dX5_leadsTo_12 hs (cw_X5_34 _ rfl) (by decide) rfl ⟨by decide, by decide⟩ (Nat.le_of_ble_eq_true rfl) (sq_X5_item e1 hB (by omega) ?_)
        refine kr_s ?_
        refine wq_astore (pc := 15) (L' := [(4, _), (0, _), (1, _), (2, _), (3, _)]) dX5_leadsTo_15 rfl (by decide) ?_
        refine wq_aload (pc := 17) dX5_leadsTo_17 rfl ?_
        refine wq_ifnull (pc := 19) (tgt := 28) dX5_leadsTo_19 (by decide)  (fun c15 => ?_) (fun c15 => ?_)
        · skip
          exfalso; omega
        · skip
          refine wq_aload (pc := 22) dX5_leadsTo_22 rfl ?_
          refine wq_iconst (pc := 24) dX5_leadsTo_24 ?_
          refine wq_putZ (pc := 25) (kk := 7) dX5_leadsTo_25 (gf_X5_77 _ rfl) (by with_reducible assumption) rfl rfl rfl rfl (by first | assumption | omega | (simp; done)) ?_
          refine wq_iinc (pc := 28) (L' := [(3, _), (4, _), (0, _), (1, _), (2, _)]) dX5_leadsTo_28 rfl rfl (by decide) ?_
          refine wq_goto (pc := 31) (tgt := 2) dX5_leadsTo_31 (by decide) ?_
          refine wq_sub1 (L' := [(0, _), (1, _), (2, _), (3, _)]) ⟨rfl, rfl, rfl, rfl, trivial⟩ ?_
          obtain ⟨r1, r2, r3, r4⟩ := CT_clr e1 (hit (by omega))
          refine ih (k + 1) _ _ 0 (by omega) (by omega) (by omega) r1 (FrT_trans e2 r2) (fun c x q => r3 _ _ (e3 c x q)) (fun p p0 p1 => ?_)
          rw [r4]
          by_cases e : m 13 p = m 13 k
          · rw [e, wr_s]
          · rw [wr_n _ _ (fun q => e q.1)]
            have : p ≠ k := fun q => e (by rw [q])
            exact e4 p (by omega) p1
  refine wq_sub1 (L' := [(0, _), (1, _), (2, _), (3, _)]) ⟨rfl, rfl, rfl, rfl, trivial⟩ ?_
  exact loop1 131 0 μ _ 0 (by omega) (by omega) (by omega) hT (FrT_refl _ _) (fun _ _ q => q) (fun p p0 => absurd p0 (by omega))
