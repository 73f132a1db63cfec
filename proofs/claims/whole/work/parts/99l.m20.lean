/-! ### below a directory -/
noncomputable def uB (m : nMem) (el : LE2) : Int := cntL (fun x => m 53 (x.2 / 2) = 0 ∧ x.2 % 2 = 1) el
def cB1 (m : nMem) (x : Int × Int) : Prop := m 53 (x.1 / 100) ≠ 0 → x.2 % 2 = 1 → m 53 (x.2 / 2) ≠ 0
def clB (m : nMem) (el : LE2) : Prop := ∀ i, i < el.length → cB1 m (el.getD i PZ2)
theorem cntL_le {α : Type} {P P' : α → Prop} : ∀ l : List α, (∀ x, x ∈ l → P' x → P x) → cntL P' l ≤ cntL P l
  | [], _ => Int.le_refl _
  | x :: r, h => by
    have ih := cntL_le r (fun y hy => h y (List.mem_cons_of_mem _ hy))
    have hx := h x List.mem_cons_self
    show cntL P' r + pI (P' x) 1 0 ≤ cntL P r + pI (P x) 1 0
    by_cases c : P' x
    · rw [pI_1 c, pI_1 (hx c)]; omega
    · rw [pI_0 c]
      by_cases d : P x
      · rw [pI_1 d]; omega
      · rw [pI_0 d]; omega
theorem cntL_lt {α : Type} {P P' : α → Prop} {a : α} (ha : P a) (hn : ¬ P' a) : ∀ l : List α, a ∈ l → (∀ x, x ∈ l → P' x → P x) → cntL P' l + 1 ≤ cntL P l
  | [], h, _ => absurd h List.not_mem_nil
  | x :: r, hm, h => by
    have hx := h x List.mem_cons_self
    show cntL P' r + pI (P' x) 1 0 + 1 ≤ cntL P r + pI (P x) 1 0
    rcases List.mem_cons.mp hm with e | e
    · have ih := cntL_le r (fun y hy => h y (List.mem_cons_of_mem _ hy))
      rw [← e, pI_0 hn, pI_1 ha]; omega
    · have ih := cntL_lt ha hn r e (fun y hy => h y (List.mem_cons_of_mem _ hy))
      by_cases c : P' x
      · rw [pI_1 c, pI_1 (hx c)]; omega
      · rw [pI_0 c]
        by_cases d : P x
        · rw [pI_1 d]; omega
        · rw [pI_0 d]; omega
theorem uB_cg {m m' : nMem} {el : LE2} (h : ∀ n, m' 53 n = m 53 n) : uB m' el = uB m el := by unfold uB; simp only [h]
theorem clB_cg {m m' : nMem} {el : LE2} (h : ∀ n, m' 53 n = m 53 n) (c : clB m el) : clB m' el := fun i hi => by
  have := c i hi
  unfold cB1 at this ⊢
  rw [h, h]; exact this
theorem uB_lt {m : nMem} {el : LE2} {i : Nat} (hi : i < el.length) (h0 : m 53 ((el.getD i PZ2).2 / 2) = 0) (h1 : (el.getD i PZ2).2 % 2 = 1) : uB (wr m 53 ((el.getD i PZ2).2 / 2) 1) el + 1 ≤ uB m el := by
  unfold uB
  refine cntL_lt (a := el.getD i PZ2) ⟨h0, h1⟩ (fun z => ?_) el (lget_mem PZ2 hi) (fun x hx z => ?_)
  · have := z.1
    rw [wr_s] at this
    exact absurd this (by decide)
  · refine ⟨?_, z.2⟩
    have z1 := z.1
    by_cases c : x.2 / 2 = (el.getD i PZ2).2 / 2
    · rw [c, wr_s] at z1; exact absurd z1 (by decide)
    · rw [wr_n _ _ (by omega)] at z1; exact z1
theorem uB_0 {m : nMem} {el : LE2} (h : uB m el ≤ 0) : clB m el := fun i hi => by
  unfold cB1
  intro _ h2 h3
  have := (cntL_pos (P := fun x : Int × Int => m 53 (x.2 / 2) = 0 ∧ x.2 % 2 = 1) PZ2 el).mpr ⟨i, hi, h3, h2⟩
  unfold uB at h
  omega
theorem uB_len (m : nMem) (el : LE2) : uB m el ≤ el.length := (cntL_nn _ el).2
/-- a closed set holds all that lies below -/
theorem thB_all {F : Fl} {el : LE2} {m : nMem} {hh : Int} (hS : NS F) (h : ∀ P, cntL P el = cR (fun r => ctR F r ∧ P (eP F r)) 128) (hd : thDf F hh) (h0 : m 53 hh ≠ 0) (hc : clB m el) {x : Int} (hx : thB (TG F) (TD F) hh x) : m 53 x ≠ 0 := by
  refine (hx (fun n => thDf F n ∧ m 53 n ≠ 0) ⟨hd, h0⟩ (fun d nm hp hm ht hD => ?_)).2
  obtain ⟨r, hr, hcr, r3, r5, r10, r11⟩ := ct_of hp.1 ht
  obtain ⟨i, hi, e⟩ := mem_lget PZ2 ((el_mem h (eP F r)).mpr ⟨r, hr, hcr, rfl⟩)
  have b := asgR_b hS hr.1 hr.2 hcr.1
  have q := hc i hi
  rw [e] at q
  unfold cB1 eP at q
  have q : m 53 ((100 * fN F r 3 + fN F r 5) / 100) ≠ 0 → (2 * fN F r 10 + fN F r 11) % 2 = 1 → m 53 ((2 * fN F r 10 + fN F r 11) / 2) ≠ 0 := q
  rw [show (100 * fN F r 3 + fN F r 5) / 100 = d by omega, show (2 * fN F r 10 + fN F r 11) / 2 = TG F d nm by omega] at q
  exact ⟨thD_s hp.1 hm ht hD, q hp.2 (by omega)⟩
/-- an entry of a directory leads below -/
theorem thB_el {F : Fl} {el : LE2} {hh : Int} (hS : NS F) (h : ∀ P, cntL P el = cR (fun r => ctR F r ∧ P (eP F r)) 128) {i : Nat} (hi : i < el.length) (hb : thB (TG F) (TD F) hh ((el.getD i PZ2).1 / 100)) (ho : (el.getD i PZ2).2 % 2 = 1) : thB (TG F) (TD F) hh ((el.getD i PZ2).2 / 2) ∧ 0 ≤ (el.getD i PZ2).2 / 2 ∧ (el.getD i PZ2).2 / 2 < 2048 := by
  obtain ⟨r, hr, hc, er⟩ := (el_mem h _).mp (lget_mem PZ2 hi)
  have b := asgR_b hS hr.1 hr.2 hc.1
  rw [← er] at hb ho ⊢
  unfold eP at hb ho ⊢
  have hb : thB (TG F) (TD F) hh ((100 * fN F r 3 + fN F r 5) / 100) := hb
  have ho : (2 * fN F r 10 + fN F r 11) % 2 = 1 := ho
  show thB (TG F) (TD F) hh ((2 * fN F r 10 + fN F r 11) / 2) ∧ 0 ≤ (2 * fN F r 10 + fN F r 11) / 2 ∧ (2 * fN F r 10 + fN F r 11) / 2 < 2048
  rw [show (100 * fN F r 3 + fN F r 5) / 100 = fN F r 3 by omega] at hb
  rw [show (2 * fN F r 10 + fN F r 11) / 2 = fN F r 10 by omega]
  have t := ct_TG hr.1 hc
  rw [← t.1]
  refine ⟨thB_s hb b.2.1 (by rw [t.1]; omega) (by rw [t.2]; omega), by rw [t.1]; omega, by rw [t.1]; omega⟩
theorem CM_53 {A : AS} {μ m : nMem} {ε : nEnv} (h : CM A μ ε) (hb : mB m) (e : ∀ x j, x ≠ 53 → m x j = μ x j) : CM A m ε := by
  obtain ⟨a, b, c⟩ := h
  refine ⟨KM_cg a hb (fun y i c => e y i (by omega)), ⟨by rw [e 21 20 (by omega)]; exact b.1, by rw [e 21 21 (by omega)]; exact b.2⟩, fun q => ?_⟩
  obtain ⟨c1, c2, c3⟩ := c q
  refine ⟨GM_cg c1 (fun y i hy => e y i (by omega)), by rw [e 21 22 (by omega)]; exact c2, fun n n0 n1 => ?_⟩
  rw [e 39 n (by omega), e 40 n (by omega)]; exact c3 n n0 n1
theorem sp_X7_isInside {μ : nMem} {ε : nEnv} {Q : nOut → nMem → nEnv → Prop} {A : AS} {d2 hh : Int} (hC : CM A μ ε) (hA : KP (aF A)) (hd2 : 0 ≤ d2 ∧ d2 < 2048) (hd : thDf (aF A) hh) (h1 : thB (TG (aF A)) (TD (aF A)) hh d2 → ∀ m, CM A m ε → FrM μ m → m 21 25 = μ 21 25 → Q (.inl (some (vI 1))) m ε) (h2 : ¬ thB (TG (aF A)) (TD (aF A)) hh d2 → ∀ m, CM A m ε → FrM μ m → m 21 25 = μ 21 25 → Q (.inl (some (vI 0))) m ε) : Sp mX7_isInside [vR 21, vI d2, vI hh] μ ε Q := by
  refine Sp_of (L := [(0, vR 21), (1, vI d2), (2, vI hh)]) (by decide) rfl rfl (Nat.le_of_ble_eq_true rfl) ?_
  have hs := hC.1.1
  have hdb := thD_b (PA_NS hA.1) hd
  refine wq_aload_n (pc := 0) dX7_isInside_0 rfl rfl ?_
  refine cVK_0 (pc := 1) dX7_isInside_1 hs (cw_X7_168 _ rfl) (by decide) rfl ⟨by decide, by decide⟩ (Nat.le_of_ble_eq_true rfl) (sp_X7_layNow hC.1 hA (fun m1 K1 Y1 => ?_))
  refine kr_v ?_
  obtain ⟨⟨hs, hb, hR, hL⟩, h27, hLE, hPr⟩ := id K1
  obtain ⟨el, fl, ⟨hE1, hE2⟩, ⟨hF1, hF2⟩, ⟨hl1, hl2⟩, hcn, hfm, hco, hsrt⟩ := LE_0 hLE
  have r45 : inR (m1 45 0) := by unfold inR; omega
  have hS := PA_NS hA.1
  have C1 := CM_Y hC K1.1 Y1
  refine wq_iconst (pc := 4) dX7_isInside_4 ?_
  refine wq_istore_n (pc := 5) (L' := [(3, _), (0, _), (1, _), (2, _)]) dX7_isInside_5 rfl rfl (by decide) ?_
  have loop2 : ∀ (n k : Nat), ∀ (m : nMem) (j : Int), k ≤ 2048 → 2048 < k + n → j = (k : Int) → mB m → (∀ x i, x ≠ 53 → m x i = m1 x i) → (∀ i : Int, 0 ≤ i → i < (k : Int) → (m 53 i ≠ 0 ↔ i = hh)) → wp mX7_isInside 6 [(0, vR 21), (1, vI d2), (2, vI hh), (3, vI j)] [] m ε Q := by
    intro n
    induction n with
    | zero => intro k m j hk1 hk2 e0 e1 e2 e3; exact absurd hk2 (by omega)
    | succ n ih =>
      intro k m j hk1 hk2 e0 e1 e2 e3
      subst e0
      have rk : inR (k : Int) := by unfold inR; omega
      have rh : inR hh := by unfold inR; omega
      
      refine wq_iload_n (pc := 6) dX7_isInside_6 rfl rfl ?_
      refine wq_sipush (pc := 7) dX7_isInside_7 (by decide) (by decide) ?_
      refine wq_icmp_ge (pc := 10) (tgt := 35) dX7_isInside_10 (by decide) (by first | (unfold inR; omega) | assumption) (by first | (unfold inR; omega) | assumption) (fun c3 => ?_) (fun c3 => ?_)
      · skip
        refine wq_iconst (pc := 35) dX7_isInside_35 ?_
        refine wq_istore_n (pc := 36) (L' := [(3, _), (0, _), (1, _), (2, _)]) dX7_isInside_36 rfl rfl (by decide) ?_
        have lpo4 : ∀ (n k : Nat), ∀ (m : nMem) (j : Int), k ≤ 128 → 128 < k + n → j = (k : Int) → (k : Int) ≤ el.length → mB m → (∀ x i, x ≠ 53 → m x i = m1 x i) → m 53 hh ≠ 0 → (∀ i : Int, 0 ≤ i → i < 2048 → m 53 i ≠ 0 → thB (TG (aF A)) (TD (aF A)) hh i) → clB m el ∨ uB m el ≤ (el.length : Int) - k → wp mX7_isInside 37 [(0, vR 21), (1, vI d2), (2, vI hh), (3, vI j)] [] m ε Q := by
          intro n
          induction n with
          | zero => intro k m j hk1 hk2 e0 e1 e2 e3 e4 e5 e6; exact absurd hk2 (by omega)
          | succ n ih =>
            intro k m j hk1 hk2 e0 e1 e2 e3 e4 e5 e6
            subst e0
            have rk : inR (k : Int) := by unfold inR; omega
            have t45 : m 45 0 = m1 45 0 := e3 45 0 (by omega)
            have r45m : inR (m 45 0) := by unfold inR; omega
            have ihO := ih
            have e6o := e6
            have hk2o := hk2
            have e1o := e1
            obtain ⟨K, hK⟩ : ∃ K : Nat, K = k := ⟨k, rfl⟩
            rw [← hK]
            refine wq_iload_n (pc := 37) dX7_isInside_37 rfl rfl ?_
            refine wq_aload_n (pc := 38) dX7_isInside_38 rfl rfl ?_
            refine wq_getS (pc := 39) dX7_isInside_39 hs (gf_X7_81 _ rfl) rfl rfl rfl rfl rfl ?_
            refine wq_iconst (pc := 42) dX7_isInside_42 ?_
            refine wq_ialdK (pc := 43) dX7_isInside_43 hs rfl (by omega) (by omega) ?_
            refine wq_icmp_ge (pc := 44) (tgt := 119) dX7_isInside_44 (by decide) (by first | (unfold inR; omega) | assumption) (by first | (unfold inR; omega) | assumption) (fun c5 => ?_) (fun c5 => ?_)
            · skip
              refine wq_aload_n (pc := 119) dX7_isInside_119 rfl rfl ?_
              refine wq_getS (pc := 120) dX7_isInside_120 hs (gf_X7_105 _ rfl) rfl rfl rfl rfl rfl ?_
              refine wq_iload_n (pc := 123) dX7_isInside_123 rfl rfl ?_
              refine wq_zaldK (pc := 124) dX7_isInside_124 hs rfl (by omega) (by omega) ?_
              have g9 := b53 e2 d2
              refine wq_zret (pc := 125) dX7_isInside_125 rfl (by first | omega | (simp; done) | assumption) ?_
              have hcl : clB m el := e6.elim id (fun z => uB_0 (by omega))
              have fin : CM A m ε := CM_53 C1 e2 e3
              have ffr : FrM μ m := fun x j hx => by rw [e3 x j (by omega)]; exact Y1 x j (by omega) (by omega)
              have f25 : m 21 25 = μ 21 25 := by rw [e3 21 25 (by omega)]; exact Y1 21 25 (by omega) (by omega)
              by_cases cz : m 53 d2 = 0
              · rw [cz]
                exact h2 (fun z => thB_all hS hcn hd e4 hcl z cz) m fin ffr f25
              · have g1 := b53 e2 d2
                rw [show m 53 d2 = 1 by omega]
                exact h1 (e5 d2 hd2.1 hd2.2 cz) m fin ffr f25
            · skip
              refine wq_iconst (pc := 47) dX7_isInside_47 ?_
              refine wq_istore (pc := 48) (L' := [(4, _), (0, _), (1, _), (2, _), (3, _)]) dX7_isInside_48 rfl (by decide) ?_
              have lpn6 : ∀ (n k : Nat), ∀ (mi : nMem) (j : Int), k ≤ 128 → 128 < k + n → j = (k : Int) → (k : Int) ≤ el.length → mB mi → (∀ x i, x ≠ 53 → mi x i = m1 x i) → mi 53 hh ≠ 0 → (∀ i : Int, 0 ≤ i → i < 2048 → mi 53 i ≠ 0 → thB (TG (aF A)) (TD (aF A)) hh i) → ((∀ n, mi 53 n = m 53 n) ∧ ∀ i, i < k → i < el.length → cB1 mi (el.getD i PZ2)) ∨ (¬ clB m el ∧ uB mi el + 1 ≤ uB m el) → wp mX7_isInside 50 [(0, vR 21), (1, vI d2), (2, vI hh), (3, vI (K : Int)), (4, vI j)] [] mi ε Q := by
                intro n
                induction n with
                | zero => intro k mi j hk1 hk2 e0 e1 e2 e3 e4 e5 e6; exact absurd hk2 (by omega)
                | succ n ih =>
                  intro k mi j hk1 hk2 e0 e1 e2 e3 e4 e5 e6
                  subst e0
                  have rk : inR (k : Int) := by unfold inR; omega
                  have t45 : mi 45 0 = m1 45 0 := e3 45 0 (by omega)
                  have r45m : inR (mi 45 0) := by unfold inR; omega
                  have t43 : mi 43 (k : Int) = m1 43 (k : Int) := e3 43 _ (by omega)
                  have t44 : mi 44 (k : Int) = m1 44 (k : Int) := e3 44 _ (by omega)
                  have g43 := b43 hb (k : Int)
                  have g44 := b44 hb (k : Int)
                  have hE2k := fun z => hE2 k z
                  have g53 := b53 e2 (mi 43 (k : Int) / 100)
                  have r53 : inR (mi 53 (mi 43 (k : Int) / 100)) := by unfold inR; omega
                  have r44 : inR (mi 44 (k : Int) % 2) := by unfold inR; omega
                  have hrow : k < el.length → (0 ≤ (el.getD k PZ2).1 / 100 ∧ (el.getD k PZ2).1 / 100 < 2048) ∧ 0 ≤ (el.getD k PZ2).2 / 2 ∧ (el.getD k PZ2).2 / 2 < 2048 := fun z => by
                    obtain ⟨r, hr, hc, er⟩ := (el_mem hcn _).mp (lget_mem PZ2 z)
                    have b := asgR_b hS hr.1 hr.2 hc.1
                    rw [← er]
                    show (0 ≤ (100 * fN (aF A) r 3 + fN (aF A) r 5) / 100 ∧ (100 * fN (aF A) r 3 + fN (aF A) r 5) / 100 < 2048) ∧ 0 ≤ (2 * fN (aF A) r 10 + fN (aF A) r 11) / 2 ∧ (2 * fN (aF A) r 10 + fN (aF A) r 11) / 2 < 2048
                    omega
                  refine wq_iload (pc := 50) dX7_isInside_50 rfl ?_
                  refine wq_aload_n (pc := 52) dX7_isInside_52 rfl rfl ?_
                  refine wq_getS (pc := 53) dX7_isInside_53 hs (gf_X7_81 _ rfl) rfl rfl rfl rfl rfl ?_
                  refine wq_iconst (pc := 56) dX7_isInside_56 ?_
                  refine wq_ialdK (pc := 57) dX7_isInside_57 hs rfl (by omega) (by omega) ?_
                  refine wq_icmp_ge (pc := 58) (tgt := 113) dX7_isInside_58 (by decide) (by first | (unfold inR; omega) | assumption) (by first | (unfold inR; omega) | assumption) (fun c7 => ?_) (fun c7 => ?_)
                  · skip
                    refine wq_iinc (pc := 113) (L' := [(3, _), (0, _), (1, _), (2, _), (4, _)]) dX7_isInside_113 rfl rfl (by decide) ?_
                    refine wq_goto (pc := 116) (tgt := 37) dX7_isInside_116 (by decide) ?_
                    refine wq_sub1 (L' := [(0, _), (1, _), (2, _), (3, _)]) ⟨rfl, rfl, rfl, rfl, trivial⟩ ?_
                    have hcl : clB mi el ∨ uB mi el ≤ (el.length : Int) - (K + 1) := by
                      rcases e6 with ⟨q1, q2⟩ | ⟨q1, q2⟩
                      · exact Or.inl (fun i hi => q2 i (by omega) hi)
                      · rcases e6o with z | z
                        · exact absurd z q1
                        · right; omega
                    exact ihO (K + 1) _ _ (by omega) (by omega) (by omega) (by omega) e2 e3 e4 e5 (by rw [show (((K + 1 : Nat)) : Int) = (K : Int) + 1 by omega]; exact hcl)
                  · skip
                    refine wq_aload_n (pc := 61) dX7_isInside_61 rfl rfl ?_
                    refine wq_getS (pc := 62) dX7_isInside_62 hs (gf_X7_105 _ rfl) rfl rfl rfl rfl rfl ?_
                    refine wq_aload_n (pc := 65) dX7_isInside_65 rfl rfl ?_
                    refine wq_getS (pc := 66) dX7_isInside_66 hs (gf_X7_75 _ rfl) rfl rfl rfl rfl rfl ?_
                    refine wq_iload (pc := 69) dX7_isInside_69 rfl ?_
                    refine wq_ialdK (pc := 71) dX7_isInside_71 hs rfl (by omega) (by omega) ?_
                    refine wq_bipush (pc := 72) dX7_isInside_72 (by decide) (by decide) ?_
                    refine wq_idiv (pc := 74) dX7_isInside_74 (by omega) (by omega) ?_
                    refine wq_zaldK (pc := 75) dX7_isInside_75 hs rfl (by omega) (by omega) ?_
                    refine wq_if_eq (pc := 76) (tgt := 107) dX7_isInside_76 (by decide) (by first | (unfold inR; omega) | assumption) (fun c8 => ?_) (fun c8 => ?_)
                    · skip
                      refine wq_iinc (pc := 107) (L' := [(4, _), (0, _), (1, _), (2, _), (3, _)]) dX7_isInside_107 rfl rfl (by decide) ?_
                      refine wq_goto (pc := 110) (tgt := 50) dX7_isInside_110 (by decide) ?_
                      refine wq_sub1 (L' := [(0, _), (1, _), (2, _), (3, _), (4, _)]) ⟨rfl, rfl, rfl, rfl, rfl, trivial⟩ ?_
                      obtain ⟨q43, q44⟩ := hE2k (by omega)
                      have hrk := hrow (by omega)
                      first
                        | (have key : cB1 mi (el.getD k PZ2) := by
                             unfold cB1
                             rw [← q43, ← q44, ← t43, ← t44]
                             intro z1 z2
                             omega
                           exact ih (k + 1) _ _ (by omega) (by omega) (by omega) (by omega) e2 e3 e4 e5 (e6.elim (fun q => Or.inl ⟨q.1, fun i hi hi2 => by
                             by_cases c9 : i = k
                             · rw [c9]; exact key
                             · exact q.2 i (by omega) hi2⟩) Or.inr))
                        | (have hb1 : thB (TG (aF A)) (TD (aF A)) hh ((el.getD k PZ2).1 / 100) := e5 _ (by omega) (by omega) (by rw [← q43, ← t43]; omega)
                           have ho1 : (el.getD k PZ2).2 % 2 = 1 := by omega
                           obtain ⟨tb, tb0, tb1⟩ := thB_el hS hcn (by omega) hb1 ho1
                           have et : mi 44 (k : Int) / 2 = (el.getD k PZ2).2 / 2 := by rw [t44, q44]
                           rw [et]
                           by_cases cz : mi 53 ((el.getD k PZ2).2 / 2) = 0
                           · refine ih (k + 1) _ _ (by omega) (by omega) (by omega) (by omega) (mB_wr e2 (Or.inr (Or.inr (by decide)))) (fun x i hx => by rw [wr_n _ _ (by omega)]; exact e3 x i hx) ?_ (fun i i0 i1 z => ?_) (Or.inr ?_)
                             · by_cases c9 : hh = (el.getD k PZ2).2 / 2
                               · rw [← c9, wr_s]; decide
                               · rw [wr_n _ _ (by omega)]; exact e4
                             · by_cases c9 : i = (el.getD k PZ2).2 / 2
                               · rw [c9]; exact tb
                               · rw [wr_n _ _ (by omega)] at z; exact e5 i i0 i1 z
                             · have ul := uB_lt (m := mi) (i := k) (by omega) cz ho1
                               rcases e6 with ⟨q1, q2⟩ | ⟨q1, q2⟩
                               · rw [uB_cg q1] at ul
                                 refine ⟨fun z => ?_, ul⟩
                                 have := z k (by omega)
                                 unfold cB1 at this
                                 rw [← q1, ← q1] at this
                                 exact this (by rw [← q43, ← t43]; omega) ho1 cz
                               · exact ⟨q1, by omega⟩
                           · have g1 := b53 e2 ((el.getD k PZ2).2 / 2)
                             have same : ∀ n, wr mi 53 ((el.getD k PZ2).2 / 2) 1 53 n = mi 53 n := fun n => by
                               by_cases c9 : n = (el.getD k PZ2).2 / 2
                               · rw [c9, wr_s]; omega
                               · rw [wr_n _ _ (by omega)]
                             refine ih (k + 1) _ _ (by omega) (by omega) (by omega) (by omega) (mB_wr e2 (Or.inr (Or.inr (by decide)))) (fun x i hx => by rw [wr_n _ _ (by omega)]; exact e3 x i hx) (by rw [same]; exact e4) (fun i i0 i1 z => by rw [same] at z; exact e5 i i0 i1 z) ?_
                             rcases e6 with ⟨q1, q2⟩ | ⟨q1, q2⟩
                             · refine Or.inl ⟨fun n => by rw [same]; exact q1 n, fun i hi hi2 => ?_⟩
                               unfold cB1
                               rw [same, same]
                               by_cases c9 : i = k
                               · rw [c9]; exact fun _ _ => cz
                               · exact q2 i (by omega) hi2
                             · exact Or.inr ⟨q1, by rw [uB_cg same]; exact q2⟩)
                    · skip
                      refine wq_aload_n (pc := 79) dX7_isInside_79 rfl rfl ?_
                      refine wq_getS (pc := 80) dX7_isInside_80 hs (gf_X7_78 _ rfl) rfl rfl rfl rfl rfl ?_
                      refine wq_iload (pc := 83) dX7_isInside_83 rfl ?_
                      refine wq_ialdK (pc := 85) dX7_isInside_85 hs rfl (by omega) (by omega) ?_
                      refine wq_iconst (pc := 86) dX7_isInside_86 ?_
                      refine wq_irem (pc := 87) dX7_isInside_87 (by omega) (by omega) ?_
                      refine wq_iconst (pc := 88) dX7_isInside_88 ?_
                      refine wq_icmp_ne (pc := 89) (tgt := 107) dX7_isInside_89 (by decide) (by first | (unfold inR; omega) | assumption) (by first | (unfold inR; omega) | assumption) (fun c9 => ?_) (fun c9 => ?_)
                      · skip
                        refine wq_iinc (pc := 107) (L' := [(4, _), (0, _), (1, _), (2, _), (3, _)]) dX7_isInside_107 rfl rfl (by decide) ?_
                        refine wq_goto (pc := 110) (tgt := 50) dX7_isInside_110 (by decide) ?_
                        refine wq_sub1 (L' := [(0, _), (1, _), (2, _), (3, _), (4, _)]) ⟨rfl, rfl, rfl, rfl, rfl, trivial⟩ ?_
                        obtain ⟨q43, q44⟩ := hE2k (by omega)
                        have hrk := hrow (by omega)
                        first
                          | (have key : cB1 mi (el.getD k PZ2) := by
                               unfold cB1
                               rw [← q43, ← q44, ← t43, ← t44]
                               intro z1 z2
                               omega
                             exact ih (k + 1) _ _ (by omega) (by omega) (by omega) (by omega) e2 e3 e4 e5 (e6.elim (fun q => Or.inl ⟨q.1, fun i hi hi2 => by
                               by_cases c9 : i = k
                               · rw [c9]; exact key
                               · exact q.2 i (by omega) hi2⟩) Or.inr))
                          | (have hb1 : thB (TG (aF A)) (TD (aF A)) hh ((el.getD k PZ2).1 / 100) := e5 _ (by omega) (by omega) (by rw [← q43, ← t43]; omega)
                             have ho1 : (el.getD k PZ2).2 % 2 = 1 := by omega
                             obtain ⟨tb, tb0, tb1⟩ := thB_el hS hcn (by omega) hb1 ho1
                             have et : mi 44 (k : Int) / 2 = (el.getD k PZ2).2 / 2 := by rw [t44, q44]
                             rw [et]
                             by_cases cz : mi 53 ((el.getD k PZ2).2 / 2) = 0
                             · refine ih (k + 1) _ _ (by omega) (by omega) (by omega) (by omega) (mB_wr e2 (Or.inr (Or.inr (by decide)))) (fun x i hx => by rw [wr_n _ _ (by omega)]; exact e3 x i hx) ?_ (fun i i0 i1 z => ?_) (Or.inr ?_)
                               · by_cases c9 : hh = (el.getD k PZ2).2 / 2
                                 · rw [← c9, wr_s]; decide
                                 · rw [wr_n _ _ (by omega)]; exact e4
                               · by_cases c9 : i = (el.getD k PZ2).2 / 2
                                 · rw [c9]; exact tb
                                 · rw [wr_n _ _ (by omega)] at z; exact e5 i i0 i1 z
                               · have ul := uB_lt (m := mi) (i := k) (by omega) cz ho1
                                 rcases e6 with ⟨q1, q2⟩ | ⟨q1, q2⟩
                                 · rw [uB_cg q1] at ul
                                   refine ⟨fun z => ?_, ul⟩
                                   have := z k (by omega)
                                   unfold cB1 at this
                                   rw [← q1, ← q1] at this
                                   exact this (by rw [← q43, ← t43]; omega) ho1 cz
                                 · exact ⟨q1, by omega⟩
                             · have g1 := b53 e2 ((el.getD k PZ2).2 / 2)
                               have same : ∀ n, wr mi 53 ((el.getD k PZ2).2 / 2) 1 53 n = mi 53 n := fun n => by
                                 by_cases c9 : n = (el.getD k PZ2).2 / 2
                                 · rw [c9, wr_s]; omega
                                 · rw [wr_n _ _ (by omega)]
                               refine ih (k + 1) _ _ (by omega) (by omega) (by omega) (by omega) (mB_wr e2 (Or.inr (Or.inr (by decide)))) (fun x i hx => by rw [wr_n _ _ (by omega)]; exact e3 x i hx) (by rw [same]; exact e4) (fun i i0 i1 z => by rw [same] at z; exact e5 i i0 i1 z) ?_
                               rcases e6 with ⟨q1, q2⟩ | ⟨q1, q2⟩
                               · refine Or.inl ⟨fun n => by rw [same]; exact q1 n, fun i hi hi2 => ?_⟩
                                 unfold cB1
                                 rw [same, same]
                                 by_cases c9 : i = k
                                 · rw [c9]; exact fun _ _ => cz
                                 · exact q2 i (by omega) hi2
                               · exact Or.inr ⟨q1, by rw [uB_cg same]; exact q2⟩)
                      · skip
                        refine wq_aload_n (pc := 92) dX7_isInside_92 rfl rfl ?_
                        refine wq_getS (pc := 93) dX7_isInside_93 hs (gf_X7_105 _ rfl) rfl rfl rfl rfl rfl ?_
                        refine wq_aload_n (pc := 96) dX7_isInside_96 rfl rfl ?_
                        refine wq_getS (pc := 97) dX7_isInside_97 hs (gf_X7_78 _ rfl) rfl rfl rfl rfl rfl ?_
                        refine wq_iload (pc := 100) dX7_isInside_100 rfl ?_
                        refine wq_ialdK (pc := 102) dX7_isInside_102 hs rfl (by omega) (by omega) ?_
                        refine wq_iconst (pc := 103) dX7_isInside_103 ?_
                        refine wq_idiv (pc := 104) dX7_isInside_104 (by omega) (by omega) ?_
                        refine wq_iconst (pc := 105) dX7_isInside_105 ?_
                        refine wq_zastK (pc := 106) dX7_isInside_106 hs rfl (by omega) (by omega) (by first | omega | (have g9 := b53 e2 d2; omega)) ?_
                        refine wq_iinc (pc := 107) (L' := [(4, _), (0, _), (1, _), (2, _), (3, _)]) dX7_isInside_107 rfl rfl (by decide) ?_
                        refine wq_goto (pc := 110) (tgt := 50) dX7_isInside_110 (by decide) ?_
                        refine wq_sub1 (L' := [(0, _), (1, _), (2, _), (3, _), (4, _)]) ⟨rfl, rfl, rfl, rfl, rfl, trivial⟩ ?_
                        obtain ⟨q43, q44⟩ := hE2k (by omega)
                        have hrk := hrow (by omega)
                        first
                          | (have key : cB1 mi (el.getD k PZ2) := by
                               unfold cB1
                               rw [← q43, ← q44, ← t43, ← t44]
                               intro z1 z2
                               omega
                             exact ih (k + 1) _ _ (by omega) (by omega) (by omega) (by omega) e2 e3 e4 e5 (e6.elim (fun q => Or.inl ⟨q.1, fun i hi hi2 => by
                               by_cases c9 : i = k
                               · rw [c9]; exact key
                               · exact q.2 i (by omega) hi2⟩) Or.inr))
                          | (have hb1 : thB (TG (aF A)) (TD (aF A)) hh ((el.getD k PZ2).1 / 100) := e5 _ (by omega) (by omega) (by rw [← q43, ← t43]; omega)
                             have ho1 : (el.getD k PZ2).2 % 2 = 1 := by omega
                             obtain ⟨tb, tb0, tb1⟩ := thB_el hS hcn (by omega) hb1 ho1
                             have et : mi 44 (k : Int) / 2 = (el.getD k PZ2).2 / 2 := by rw [t44, q44]
                             rw [et]
                             by_cases cz : mi 53 ((el.getD k PZ2).2 / 2) = 0
                             · refine ih (k + 1) _ _ (by omega) (by omega) (by omega) (by omega) (mB_wr e2 (Or.inr (Or.inr (by decide)))) (fun x i hx => by rw [wr_n _ _ (by omega)]; exact e3 x i hx) ?_ (fun i i0 i1 z => ?_) (Or.inr ?_)
                               · by_cases c9 : hh = (el.getD k PZ2).2 / 2
                                 · rw [← c9, wr_s]; decide
                                 · rw [wr_n _ _ (by omega)]; exact e4
                               · by_cases c9 : i = (el.getD k PZ2).2 / 2
                                 · rw [c9]; exact tb
                                 · rw [wr_n _ _ (by omega)] at z; exact e5 i i0 i1 z
                               · have ul := uB_lt (m := mi) (i := k) (by omega) cz ho1
                                 rcases e6 with ⟨q1, q2⟩ | ⟨q1, q2⟩
                                 · rw [uB_cg q1] at ul
                                   refine ⟨fun z => ?_, ul⟩
                                   have := z k (by omega)
                                   unfold cB1 at this
                                   rw [← q1, ← q1] at this
                                   exact this (by rw [← q43, ← t43]; omega) ho1 cz
                                 · exact ⟨q1, by omega⟩
                             · have g1 := b53 e2 ((el.getD k PZ2).2 / 2)
                               have same : ∀ n, wr mi 53 ((el.getD k PZ2).2 / 2) 1 53 n = mi 53 n := fun n => by
                                 by_cases c9 : n = (el.getD k PZ2).2 / 2
                                 · rw [c9, wr_s]; omega
                                 · rw [wr_n _ _ (by omega)]
                               refine ih (k + 1) _ _ (by omega) (by omega) (by omega) (by omega) (mB_wr e2 (Or.inr (Or.inr (by decide)))) (fun x i hx => by rw [wr_n _ _ (by omega)]; exact e3 x i hx) (by rw [same]; exact e4) (fun i i0 i1 z => by rw [same] at z; exact e5 i i0 i1 z) ?_
                               rcases e6 with ⟨q1, q2⟩ | ⟨q1, q2⟩
                               · refine Or.inl ⟨fun n => by rw [same]; exact q1 n, fun i hi hi2 => ?_⟩
                                 unfold cB1
                                 rw [same, same]
                                 by_cases c9 : i = k
                                 · rw [c9]; exact fun _ _ => cz
                                 · exact q2 i (by omega) hi2
                               · exact Or.inr ⟨q1, by rw [uB_cg same]; exact q2⟩)
              refine wq_sub1 (L' := [(0, _), (1, _), (2, _), (3, _), (4, _)]) ⟨rfl, rfl, rfl, rfl, rfl, trivial⟩ ?_
              exact lpn6 129 0 _ _ (by omega) (by omega) (by omega) (by omega) e2 e3 e4 e5 (Or.inl ⟨fun _ => rfl, fun i hi _ => absurd hi (Nat.not_lt_zero i)⟩)
        refine wq_sub1 (L' := [(0, _), (1, _), (2, _), (3, _)]) ⟨rfl, rfl, rfl, rfl, trivial⟩ ?_
        exact lpo4 129 0 _ _ (by omega) (by omega) (by omega) (by omega) e1 e2 ((e3 hh (by omega) (by omega)).mpr rfl) (fun i i0 i1 z => by rw [(e3 i i0 (by omega)).mp z]; exact thB_0 _ _ _) (Or.inr (by have := uB_len m el; omega))
      · skip
        refine wq_aload_n (pc := 13) dX7_isInside_13 rfl rfl ?_
        refine wq_getS (pc := 14) dX7_isInside_14 hs (gf_X7_105 _ rfl) rfl rfl rfl rfl rfl ?_
        refine wq_iload_n (pc := 17) dX7_isInside_17 rfl rfl ?_
        refine wq_iload_n (pc := 18) dX7_isInside_18 rfl rfl ?_
        refine wq_iload_n (pc := 19) dX7_isInside_19 rfl rfl ?_
        refine wq_icmp_ne (pc := 20) (tgt := 27) dX7_isInside_20 (by decide) (by first | (unfold inR; omega) | assumption) (by first | (unfold inR; omega) | assumption) (fun c10 => ?_) (fun c10 => ?_)
        · skip
          refine wq_iconst (pc := 27) dX7_isInside_27 ?_
          refine wq_zastK (pc := 28) dX7_isInside_28 hs rfl (by omega) (by omega) (by first | omega | (have g9 := b53 e2 d2; omega)) ?_
          refine wq_iinc (pc := 29) (L' := [(3, _), (0, _), (1, _), (2, _)]) dX7_isInside_29 rfl rfl (by decide) ?_
          refine wq_goto (pc := 32) (tgt := 6) dX7_isInside_32 (by decide) ?_
          refine wq_sub1 (L' := [(0, _), (1, _), (2, _), (3, _)]) ⟨rfl, rfl, rfl, rfl, trivial⟩ ?_
          refine ih (k + 1) _ _ (by omega) (by omega) (by omega) (mB_wr e1 (Or.inr (Or.inr (by decide)))) (fun x i hx => by rw [wr_n _ _ (by omega)]; exact e2 x i hx) (fun i i0 i1 => ?_)
          by_cases c9 : i = (k : Int)
          · subst c9; rw [wr_s]; omega
          · rw [wr_n _ _ (by omega)]; exact e3 i i0 (by omega)
        · skip
          refine wq_iconst (pc := 23) dX7_isInside_23 ?_
          refine wq_goto (pc := 24) (tgt := 28) dX7_isInside_24 (by decide) ?_
          refine wq_zastK (pc := 28) dX7_isInside_28 hs rfl (by omega) (by omega) (by first | omega | (have g9 := b53 e2 d2; omega)) ?_
          refine wq_iinc (pc := 29) (L' := [(3, _), (0, _), (1, _), (2, _)]) dX7_isInside_29 rfl rfl (by decide) ?_
          refine wq_goto (pc := 32) (tgt := 6) dX7_isInside_32 (by decide) ?_
          refine wq_sub1 (L' := [(0, _), (1, _), (2, _), (3, _)]) ⟨rfl, rfl, rfl, rfl, trivial⟩ ?_
          refine ih (k + 1) _ _ (by omega) (by omega) (by omega) (mB_wr e1 (Or.inr (Or.inr (by decide)))) (fun x i hx => by rw [wr_n _ _ (by omega)]; exact e2 x i hx) (fun i i0 i1 => ?_)
          by_cases c9 : i = (k : Int)
          · subst c9; rw [wr_s]; omega
          · rw [wr_n _ _ (by omega)]; exact e3 i i0 (by omega)
  refine wq_sub1 (L' := [(0, _), (1, _), (2, _), (3, _)]) ⟨rfl, rfl, rfl, rfl, trivial⟩ ?_
  exact loop2 2049 0 _ _ (by omega) (by omega) (by omega) hb (fun _ _ _ => rfl) (fun i i0 i1 => by omega)
