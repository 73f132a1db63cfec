/-! ### the reference's calls that write -/
theorem isDr_b {A : AS} {fl : Int → Int} {nb vb d : Int} (hP : IP A fl nb vb) (h : isDr A d) : 1 ≤ d ∧ d < aX A := by
  have hS := PA_NS hP.2.1
  have hV := hP.2.2.2.2.1
  have hx := hP.2.2.2.2.2.2.2.1
  refine thD_all (P := fun n => 1 ≤ n ∧ n < aX A) hS (by omega) (fun r r0 r1 ha h11 hz => ?_) h
  have b := asgR_b hS r0 r1 ha
  have := (hV r r0 r1 (asgR_rW ha).1).2.1
  omega
theorem isFl_b {A : AS} {fl : Int → Int} {nb vb f : Int} (hP : IP A fl nb vb) (h : isFl A f) : 2 ≤ f ∧ f < aX A := by
  have hS := PA_NS hP.2.1
  have hV := hP.2.2.2.2.1
  obtain ⟨r, hr, hc, h11, h10⟩ := (thF_row hS f).mp h
  have b := asgR_b hS hr.1 hr.2 hc.1
  have := (hV r hr.1 hr.2 (asgR_rW hc.1).1).2.1
  omega
theorem bump_wr {μ : nMem} {V : Int → Int} {x d : Int} (h : ∀ n, 0 ≤ n → n < 2048 → μ x n = V n) : ∀ n, 0 ≤ n → n < 2048 → wr μ x d (V d + 1) x n = bump V d n := fun n n0 n1 => by
  by_cases c : n = d
  · rw [c, wr_s, bump_s]
  · rw [wr_n _ _ (by omega), bump_n V c]; exact h n n0 n1
theorem CM_WM {A : AS} {μ : nMem} {ε : nEnv} (h : CM A μ ε) (hd : fD (aF A) = 0) : WM (aF A) (aG A) μ ε := ⟨h.1.1, h.1.2.1, h.1.2.2.1, (h.2.2 hd).1, h.2.1⟩
theorem WM_w {F : Fl} {g : Lg} {μ : nMem} {ε : nEnv} {x j v : Int} (h : WM F g μ ε) (hx : (x = 21 ∧ j = 22) ∨ (39 ≤ x ∧ x ≤ 40 ∧ 0 ≤ v ∧ v ≤ 5000)) : WM F g (wr μ x j v) ε := by
  obtain ⟨a, b, c, d, e⟩ := h
  have hv : x = 27 ∨ x = 21 ∨ (0 ≤ v ∧ v ≤ hiM x) := by
    rcases hx with q | ⟨q0, q1, q2, q3⟩
    · omega
    · have : x = 39 ∨ x = 40 := by omega
      rcases this with z | z <;> subst z <;> exact Or.inr (Or.inr ⟨q2, q3⟩)
  exact ⟨a, mB_wr b hv, RM_cg c (fun y i y0 y1 => wr_n _ _ (by omega)), GM_cg d (fun y i hy => wr_n _ _ (by omega)), by rw [wr_n _ _ (by omega)]; exact e.1, by rw [wr_n _ _ (by omega)]; exact e.2⟩
theorem PO_WM {R : Fl × Lg × Bool} {μ m : nMem} {ε : nEnv} (hs : SkP skM ε) (h : PO R μ m) (hr : R.2.2 = true) : WM R.1 R.2.1 m ε := ⟨hs, h.1, h.2.1, h.2.2.2.2.2 hr, h.2.2.1⟩
/-- the refusals that a name's call tells first -/
abbrev rfN (A : AS) (d nm : Int) (m : nMem) : Prop := (dk A ∧ m 21 25 = 3) ∨ (¬ dk A ∧ ¬ isDr A d ∧ m 21 25 = 1) ∨ (¬ dk A ∧ isDr A d ∧ ¬ nmR nm ∧ m 21 25 = 2)
theorem rfN_r {A : AS} {d nm : Int} {m : nMem} (h : rfN A d nm m) : 1 ≤ m 21 25 ∧ m 21 25 ≤ 3 := by
  rcases h with ⟨-, h⟩ | ⟨-, -, h⟩ | ⟨-, -, -, h⟩ <;> rw [h] <;> exact ⟨by decide, by decide⟩
theorem rfN_an {A : AS} {d nm : Int} {m : nMem} {X : Ans × AS} {v : Int} (h : rfN A d nm m) : ∃ (a : Ans), pI (dk A) (.inr xS, A) (pI (¬ isDr A d) (.inr xI, A) (pI (¬ nmR nm) (.inr xA, A) X)) = (a, A) ∧ anM a [xI, xA, xS] v m := by
  rcases h with ⟨q, t⟩ | ⟨q, q2, t⟩ | ⟨q, q2, q3, t⟩
  · exact ⟨_, by rw [pI_1 q], anM_x 2 rfl (by rw [t]; rfl)⟩
  · exact ⟨_, by rw [pI_0 q, pI_1 q2], anM_x 0 rfl (by rw [t]; rfl)⟩
  · exact ⟨_, by rw [pI_0 q, pI_0 (fun z => z q2), pI_1 q3], anM_x 1 rfl (by rw [t]; rfl)⟩
theorem pI_on {A : AS} {X Y : Ans × AS} (h : fD (aF A) = 0) : pI (dk A) X Y = Y := pI_0 (fun z => by have z : fD (aF A) = 1 := z; omega)
theorem sp_X7_create {μ : nMem} {ε : nEnv} {Q : nOut → nMem → nEnv → Prop} {A : AS} {nb vb d nm : Int} (hC : CM A μ ε) (hO : AOK A nb vb) (hnb : nb + 1 ≤ 2000) (hvb : vb + 2 ≤ 4000) (r1 : inR d) (r2 : inR nm) (h : ∀ m v, CM (actCreate A d nm).2 m ε → FrM μ m → anM (actCreate A d nm).1 [xI, xA, xS] v m → Q (.inl (some (vI v))) m ε) : Sp mX7_create [vR 21, vI d, vI nm] μ ε Q := by
  refine Sp_of (L := [(0, vR 21), (1, vI d), (2, vI nm)]) (by decide) rfl rfl (Nat.le_of_ble_eq_true rfl) ?_
  have hs := hC.1.1
  unfold actCreate at h
  have cut1 : ∀ (m : nMem), (CM A m ε) → (FrM μ m) → (m 21 25 = 0) → (fD (aF A) = 0) → (isDr A d) → (nmR nm) → (TG (aF A) d nm = 0) → (rmA A [2, 3] 1) → wp mX7_create 46 [(0, vR 21), (1, vI d), (2, vI nm)] [] m ε Q := by
    intro m e0 e1 e2 e3 e4 e5 e6 e7
    obtain ⟨fl0, S0, hP0, hT0⟩ := hO.2.2 e3
    have hdb := isDr_b hP0 e4
    obtain ⟨hG, h22, h39⟩ := e0.2.2 e3
    have hx := hP0.2.2.2.2.2.2.2.1
    have hvr := hP0.2.2.2.2.2.2.2.2.1
    have hs := e0.1.1
    rw [pI_on e3, pI_0 (fun z => z e4), pI_0 (fun z => z e5), pI_0 (fun z => z e6), pI_0 (fun z => z e7)] at h
    refine wq_aload_n (pc := 46) dX7_create_46 rfl rfl ?_
    refine wq_getIK (pc := 47) (kk := 22) dX7_create_47 hs (gf_X7_124 _ rfl) rfl rfl rfl rfl ?_
    rw [h22]
    obtain ⟨gl, hgl, hP, hT, hxn, -⟩ := IP_fl hP0 hT0 (v := 0) (Or.inl rfl)
    have hva := hvr (aX A)
    have hvd := hvr d
    obtain ⟨⟨s1, hs1, hus⟩, hfr1⟩ := tr_fr (by omega) (by omega) e7
    have D := IP_data (nb := nb + 1) (nx' := aX A + 1) (f := aX A) (o := 0) (z := 0) (b := 0) (n := 0) (IP_mono hP (by omega) (Int.le_refl vb)) (by omega) (by omega) (by omega) (by omega) (by omega) (by omega) (by omega) hfr1 rfl
    have rx : inR (aX A) := by unfold inR; omega
    refine wq_istore_n (pc := 50) (L' := [(3, _), (0, _), (1, _), (2, _)]) dX7_create_50 rfl rfl (by decide) ?_
    refine wq_aload_n (pc := 51) dX7_create_51 rfl rfl ?_
    refine wq_dup (pc := 52) dX7_create_52 rfl ?_
    refine wq_getIK (pc := 53) (kk := 22) dX7_create_53 hs (gf_X7_124 _ rfl) rfl rfl rfl rfl ?_
    refine wq_iconst (pc := 56) dX7_create_56 ?_
    rw [h22]
    refine wq_iadd (pc := 57) dX7_create_57 ?_
    refine wq_putIK (pc := 58) (kk := 22) dX7_create_58 hs (gf_X7_124 _ rfl) rfl rfl rfl rfl rfl ?_
    refine wq_aload_n (pc := 61) dX7_create_61 rfl rfl ?_
    refine wq_iload_n (pc := 62) dX7_create_62 rfl rfl ?_
    refine wq_iconst (pc := 63) dX7_create_63 ?_
    refine wq_lconst (pc := 64) (v := 0) dX7_create_64 rfl ?_
    refine wq_iconst (pc := 65) dX7_create_65 ?_
    refine wq_iconst (pc := 66) dX7_create_66 ?_
    refine cVK_5 (pc := 67) dX7_create_67 hs (cw_X7_225 _ rfl) (by decide) rfl ⟨by decide, by decide⟩ (Nat.le_of_ble_eq_true rfl) (sp_X7_writeData (F := aF A) (g := aG A) (v0 := aD A (aX A)) (WM_w (CM_WM e0 e3) (Or.inl ⟨rfl, rfl⟩)) hP.2.1 hP.2.2.2.1 (by omega) (by omega) (by rw [wr_n _ _ (by omega)]; exact (h39 (aX A) (by omega) (by omega)).1) (dbSrc_ok (by omega) (by omega) (by omega) (by omega) (by omega)) hfr1 (fun hr4 m4 P4 => ?_) (fun hr4 m4 P4 => ?_))
    · skip
      refine kr_s ?_
      have hr4b := hr4
      refine wq_if_eq (pc := 70) (tgt := 88) dX7_create_70 (by decide) (by first | (unfold inR; omega) | assumption) (fun _ => ?_) (fun c => absurd c (by decide))
      refine wq_iconst (pc := 88) dX7_create_88 ?_
      refine wq_istore (pc := 89) (L' := [(4, _), (3, _), (0, _), (1, _), (2, _)]) dX7_create_89 rfl (by decide) ?_
      refine wq_iload (pc := 91) dX7_create_91 rfl ?_
      refine wq_if_eq (pc := 93) (tgt := 100) dX7_create_93 (by decide) (by first | (unfold inR; omega) | assumption) (fun _ => ?_) (fun c => absurd c (by decide))
      refine wq_bipush (pc := 100) dX7_create_100 (by decide) (by decide) ?_
      refine wq_iret (pc := 102) dX7_create_102 rfl ?_
      first
        | (unfold actCreate1 at h
           rw [if_neg (by rw [hr4]; decide), if_neg (by rw [hr5]; decide)] at h
           obtain ⟨-, -, -, -, y5, -⟩ := id P5
           refine h _ _ (CM_put hs P5 (fun _ => ⟨?_, fun n n0 n1 => ⟨?_, ?_⟩⟩) (fun z => absurd z (by rw [hr5]; decide))) (FrM_t e1 (FrM_t (FrM_t (FrM_w (by omega)) (FrM_t (FrM_w (by omega)) (FrM_P y4))) (FrM_t (FrM_w (by omega)) (FrM_P y5)))) (anM_v ?_)
           · rw [wr_n _ _ (by omega), y4 21 22 (by omega) (by omega), wr_n _ _ (by omega), wr_s]
           · rw [wr_n _ _ (by omega), y4 39 n (by omega) (by omega)]
             exact bump_wr (μ := wr m 21 22 (aX A + 1)) (V := aD A) (fun n n0 n1 => by rw [wr_n _ _ (by omega)]; exact (h39 n n0 n1).1) n n0 n1
           · exact bump_wr (V := aN A) (fun n n0 n1 => by rw [y4 40 n (by omega) (by omega), wr_n _ _ (by omega), wr_n _ _ (by omega)]; exact (h39 n n0 n1).2) n n0 n1
           · rw [y5 21 25 (by omega) (by omega), wr_n _ _ (by omega), y4 21 25 (by omega) (by omega), wr_n _ _ (by omega), wr_n _ _ (by omega)]; exact e2)
        | (unfold actCreate1 at h
           rw [if_neg (by rw [hr4]; decide), if_pos hr5] at h
           obtain ⟨-, -, -, -, y5, -⟩ := id P5
           refine h _ _ (CM_put hs P5 (fun z => absurd z (by rw [hr5]; decide)) (fun _ => (N.2 hr5).1)) (FrM_t e1 (FrM_t (FrM_t (FrM_w (by omega)) (FrM_t (FrM_w (by omega)) (FrM_P y4))) (FrM_t (FrM_w (by omega)) (FrM_P y5)))) (anM_v ?_)
           rw [y5 21 25 (by omega) (by omega), wr_n _ _ (by omega), y4 21 25 (by omega) (by omega), wr_n _ _ (by omega), wr_n _ _ (by omega)]; exact e2)
        | (unfold actCreate1 at h
           rw [if_pos hr4] at h
           obtain ⟨-, -, -, -, y4, -⟩ := id P4
           refine h _ _ (CM_put hs P4 (fun z => absurd z (by rw [hr4]; decide)) (fun _ => (D.2 hr4).1)) (FrM_t e1 (FrM_t (FrM_w (by omega)) (FrM_t (FrM_w (by omega)) (FrM_P y4)))) (anM_v ?_)
           rw [y4 21 25 (by omega) (by omega), wr_n _ _ (by omega), wr_n _ _ (by omega)]; exact e2)
        | (exfalso; omega)
        | (obtain ⟨a9, ea, an⟩ := rfN_an (X := _) (v := 0) t1
           rw [ea] at h
           exact h _ _ C1 F1 an)
        | (rw [pI_on hd, pI_0 (fun z => z hdir), pI_0 (fun z => z hnm), pI_1 (show TG (aF A) d nm ≠ 0 by omega)] at h
           exact h _ _ (CM_25 C2) (FrM_t F2 (FrM_w (by omega))) (anM_x 2 rfl (wr_s _ _ _ _)))
        | (rw [pI_on hd, pI_0 (fun z => z hdir), pI_0 (fun z => z hnm), pI_0 (fun z => z (by omega)), pI_1 (by rw [if_pos (by decide)] at hrm; exact hrm)] at h
           exact h _ _ (CM_25 C3) (FrM_t F3b (FrM_w (by omega))) (anM_x 2 rfl (wr_s _ _ _ _)))
    · skip
      refine kr_s ?_
      obtain ⟨D1, D2, D3, D4, D5⟩ := D.1 hr4
      have hus2 := (D5 3 [] 1 s1 hs1).mp hus
      obtain ⟨-, hfr2⟩ := tr_fr (by omega) (by omega) hus2
      have N := IP_name (A := ((lPut (aF A) (aG A) (dbSrc (aX A) (aD A (aX A) + 1) 0 0 0 0)).1, (lPut (aF A) (aG A) (dbSrc (aX A) (aD A (aX A) + 1) 0 0 0 0)).2.1, aX A + 1, bump (aD A) (aX A), aN A)) (d := d) (nm := nm) (t := aX A) (nx' := aX A + 1) D1 (by omega) (by omega) (by show 1 ≤ d ∧ d < aX A + 1; omega) e5 (by omega) (by show aX A + 1 ≤ aX A + 1 ∧ aX A + 1 ≤ nb + 1; omega) hfr2 rfl
      rw [if_neg (show ¬ aX A = 0 by omega), hgl] at N
      obtain ⟨-, -, -, -, y4, -⟩ := id P4
      have z40 : m4 40 d = aN A d := by rw [y4 40 d (by omega) (by omega), wr_n _ _ (by omega), wr_n _ _ (by omega)]; exact (h39 d (by omega) (by omega)).2
      have D1P := D1.2.1
      have D1L := D1.2.2.2.1
      refine wq_if_eq (pc := 70) (tgt := 88) dX7_create_70 (by decide) (by first | (unfold inR; omega) | assumption) (fun c => absurd c (by decide)) (fun _ => ?_)
      refine wq_aload_n (pc := 73) dX7_create_73 rfl rfl ?_
      refine wq_iload_n (pc := 74) dX7_create_74 rfl rfl ?_
      refine wq_iload_n (pc := 75) dX7_create_75 rfl rfl ?_
      refine wq_iload_n (pc := 76) dX7_create_76 rfl rfl ?_
      refine wq_iconst (pc := 77) dX7_create_77 ?_
      refine cVK_4 (pc := 78) dX7_create_78 hs (cw_X7_229 _ rfl) (by decide) rfl ⟨by decide, by decide⟩ (Nat.le_of_ble_eq_true rfl) (sp_X7_writeName (F := (lPut (aF A) (aG A) (dbSrc (aX A) (aD A (aX A) + 1) 0 0 0 0)).1) (g := (lPut (aF A) (aG A) (dbSrc (aX A) (aD A (aX A) + 1) 0 0 0 0)).2.1) (v0 := aN A d) (PO_WM hs P4 hr4) D1P D1L (by omega) (by omega) z40 (nmSrc_ok (by omega) (by omega) e5 (by omega) (Or.inl rfl) (fun _ => rfl)) hfr2 (fun hr5 m5 P5 => ?_) (fun hr5 m5 P5 => ?_))
      · skip
        refine kr_s ?_
        have hr5b := hr5
        refine wq_if_eq (pc := 81) (tgt := 88) dX7_create_81 (by decide) (by first | (unfold inR; omega) | assumption) (fun _ => ?_) (fun c => absurd c (by decide))
        refine wq_iconst (pc := 88) dX7_create_88 ?_
        refine wq_istore (pc := 89) (L' := [(4, _), (3, _), (0, _), (1, _), (2, _)]) dX7_create_89 rfl (by decide) ?_
        refine wq_iload (pc := 91) dX7_create_91 rfl ?_
        refine wq_if_eq (pc := 93) (tgt := 100) dX7_create_93 (by decide) (by first | (unfold inR; omega) | assumption) (fun _ => ?_) (fun c => absurd c (by decide))
        refine wq_bipush (pc := 100) dX7_create_100 (by decide) (by decide) ?_
        refine wq_iret (pc := 102) dX7_create_102 rfl ?_
        first
          | (unfold actCreate1 at h
             rw [if_neg (by rw [hr4]; decide), if_neg (by rw [hr5]; decide)] at h
             obtain ⟨-, -, -, -, y5, -⟩ := id P5
             refine h _ _ (CM_put hs P5 (fun _ => ⟨?_, fun n n0 n1 => ⟨?_, ?_⟩⟩) (fun z => absurd z (by rw [hr5]; decide))) (FrM_t e1 (FrM_t (FrM_t (FrM_w (by omega)) (FrM_t (FrM_w (by omega)) (FrM_P y4))) (FrM_t (FrM_w (by omega)) (FrM_P y5)))) (anM_v ?_)
             · rw [wr_n _ _ (by omega), y4 21 22 (by omega) (by omega), wr_n _ _ (by omega), wr_s]
             · rw [wr_n _ _ (by omega), y4 39 n (by omega) (by omega)]
               exact bump_wr (μ := wr m 21 22 (aX A + 1)) (V := aD A) (fun n n0 n1 => by rw [wr_n _ _ (by omega)]; exact (h39 n n0 n1).1) n n0 n1
             · exact bump_wr (V := aN A) (fun n n0 n1 => by rw [y4 40 n (by omega) (by omega), wr_n _ _ (by omega), wr_n _ _ (by omega)]; exact (h39 n n0 n1).2) n n0 n1
             · rw [y5 21 25 (by omega) (by omega), wr_n _ _ (by omega), y4 21 25 (by omega) (by omega), wr_n _ _ (by omega), wr_n _ _ (by omega)]; exact e2)
          | (unfold actCreate1 at h
             rw [if_neg (by rw [hr4]; decide), if_pos hr5] at h
             obtain ⟨-, -, -, -, y5, -⟩ := id P5
             refine h _ _ (CM_put hs P5 (fun z => absurd z (by rw [hr5]; decide)) (fun _ => (N.2 hr5).1)) (FrM_t e1 (FrM_t (FrM_t (FrM_w (by omega)) (FrM_t (FrM_w (by omega)) (FrM_P y4))) (FrM_t (FrM_w (by omega)) (FrM_P y5)))) (anM_v ?_)
             rw [y5 21 25 (by omega) (by omega), wr_n _ _ (by omega), y4 21 25 (by omega) (by omega), wr_n _ _ (by omega), wr_n _ _ (by omega)]; exact e2)
          | (unfold actCreate1 at h
             rw [if_pos hr4] at h
             obtain ⟨-, -, -, -, y4, -⟩ := id P4
             refine h _ _ (CM_put hs P4 (fun z => absurd z (by rw [hr4]; decide)) (fun _ => (D.2 hr4).1)) (FrM_t e1 (FrM_t (FrM_w (by omega)) (FrM_t (FrM_w (by omega)) (FrM_P y4)))) (anM_v ?_)
             rw [y4 21 25 (by omega) (by omega), wr_n _ _ (by omega), wr_n _ _ (by omega)]; exact e2)
          | (exfalso; omega)
          | (obtain ⟨a9, ea, an⟩ := rfN_an (X := _) (v := 0) t1
             rw [ea] at h
             exact h _ _ C1 F1 an)
          | (rw [pI_on hd, pI_0 (fun z => z hdir), pI_0 (fun z => z hnm), pI_1 (show TG (aF A) d nm ≠ 0 by omega)] at h
             exact h _ _ (CM_25 C2) (FrM_t F2 (FrM_w (by omega))) (anM_x 2 rfl (wr_s _ _ _ _)))
          | (rw [pI_on hd, pI_0 (fun z => z hdir), pI_0 (fun z => z hnm), pI_0 (fun z => z (by omega)), pI_1 (by rw [if_pos (by decide)] at hrm; exact hrm)] at h
             exact h _ _ (CM_25 C3) (FrM_t F3b (FrM_w (by omega))) (anM_x 2 rfl (wr_s _ _ _ _)))
      · skip
        refine kr_s ?_
        have hr5b := hr5
        refine wq_if_eq (pc := 81) (tgt := 88) dX7_create_81 (by decide) (by first | (unfold inR; omega) | assumption) (fun c => absurd c (by decide)) (fun _ => ?_)
        refine wq_iconst (pc := 84) dX7_create_84 ?_
        refine wq_goto (pc := 85) (tgt := 89) dX7_create_85 (by decide) ?_
        refine wq_istore (pc := 89) (L' := [(4, _), (3, _), (0, _), (1, _), (2, _)]) dX7_create_89 rfl (by decide) ?_
        refine wq_iload (pc := 91) dX7_create_91 rfl ?_
        refine wq_if_eq (pc := 93) (tgt := 100) dX7_create_93 (by decide) (by first | (unfold inR; omega) | assumption) (fun c => absurd c (by decide)) (fun _ => ?_)
        refine wq_iload_n (pc := 96) dX7_create_96 rfl rfl ?_
        refine wq_goto (pc := 97) (tgt := 102) dX7_create_97 (by decide) ?_
        refine wq_iret (pc := 102) dX7_create_102 rfl ?_
        first
          | (unfold actCreate1 at h
             rw [if_neg (by rw [hr4]; decide), if_neg (by rw [hr5]; decide)] at h
             obtain ⟨-, -, -, -, y5, -⟩ := id P5
             refine h _ _ (CM_put hs P5 (fun _ => ⟨?_, fun n n0 n1 => ⟨?_, ?_⟩⟩) (fun z => absurd z (by rw [hr5]; decide))) (FrM_t e1 (FrM_t (FrM_t (FrM_w (by omega)) (FrM_t (FrM_w (by omega)) (FrM_P y4))) (FrM_t (FrM_w (by omega)) (FrM_P y5)))) (anM_v ?_)
             · rw [wr_n _ _ (by omega), y4 21 22 (by omega) (by omega), wr_n _ _ (by omega), wr_s]
             · rw [wr_n _ _ (by omega), y4 39 n (by omega) (by omega)]
               exact bump_wr (μ := wr m 21 22 (aX A + 1)) (V := aD A) (fun n n0 n1 => by rw [wr_n _ _ (by omega)]; exact (h39 n n0 n1).1) n n0 n1
             · exact bump_wr (V := aN A) (fun n n0 n1 => by rw [y4 40 n (by omega) (by omega), wr_n _ _ (by omega), wr_n _ _ (by omega)]; exact (h39 n n0 n1).2) n n0 n1
             · rw [y5 21 25 (by omega) (by omega), wr_n _ _ (by omega), y4 21 25 (by omega) (by omega), wr_n _ _ (by omega), wr_n _ _ (by omega)]; exact e2)
          | (unfold actCreate1 at h
             rw [if_neg (by rw [hr4]; decide), if_pos hr5] at h
             obtain ⟨-, -, -, -, y5, -⟩ := id P5
             refine h _ _ (CM_put hs P5 (fun z => absurd z (by rw [hr5]; decide)) (fun _ => (N.2 hr5).1)) (FrM_t e1 (FrM_t (FrM_t (FrM_w (by omega)) (FrM_t (FrM_w (by omega)) (FrM_P y4))) (FrM_t (FrM_w (by omega)) (FrM_P y5)))) (anM_v ?_)
             rw [y5 21 25 (by omega) (by omega), wr_n _ _ (by omega), y4 21 25 (by omega) (by omega), wr_n _ _ (by omega), wr_n _ _ (by omega)]; exact e2)
          | (unfold actCreate1 at h
             rw [if_pos hr4] at h
             obtain ⟨-, -, -, -, y4, -⟩ := id P4
             refine h _ _ (CM_put hs P4 (fun z => absurd z (by rw [hr4]; decide)) (fun _ => (D.2 hr4).1)) (FrM_t e1 (FrM_t (FrM_w (by omega)) (FrM_t (FrM_w (by omega)) (FrM_P y4)))) (anM_v ?_)
             rw [y4 21 25 (by omega) (by omega), wr_n _ _ (by omega), wr_n _ _ (by omega)]; exact e2)
          | (exfalso; omega)
          | (obtain ⟨a9, ea, an⟩ := rfN_an (X := _) (v := 0) t1
             rw [ea] at h
             exact h _ _ C1 F1 an)
          | (rw [pI_on hd, pI_0 (fun z => z hdir), pI_0 (fun z => z hnm), pI_1 (show TG (aF A) d nm ≠ 0 by omega)] at h
             exact h _ _ (CM_25 C2) (FrM_t F2 (FrM_w (by omega))) (anM_x 2 rfl (wr_s _ _ _ _)))
          | (rw [pI_on hd, pI_0 (fun z => z hdir), pI_0 (fun z => z hnm), pI_0 (fun z => z (by omega)), pI_1 (by rw [if_pos (by decide)] at hrm; exact hrm)] at h
             exact h _ _ (CM_25 C3) (FrM_t F3b (FrM_w (by omega))) (anM_x 2 rfl (wr_s _ _ _ _)))
  refine wq_aload_n (pc := 0) dX7_create_0 rfl rfl ?_
  refine wq_iload_n (pc := 1) dX7_create_1 rfl rfl ?_
  refine wq_iload_n (pc := 2) dX7_create_2 rfl rfl ?_
  refine cVK_2 (pc := 3) dX7_create_3 hs (cw_X7_219 _ rfl) (by decide) rfl ⟨by decide, by decide⟩ (Nat.le_of_ble_eq_true rfl) (sp_X7_canName hC hO r1 r2 (fun hd hdir hnm m1 C1 F1 t1 => ?_) (fun m1 C1 F1 t1 => ?_))
  · skip
    refine kr_s ?_
    have hnm9 := hnm
    have hPL := (hO.2.2 hd)
    refine wq_if_eq (pc := 6) (tgt := 37) dX7_create_6 (by decide) (by first | (unfold inR; omega) | assumption) (fun c => absurd c (by decide)) (fun _ => ?_)
    refine wq_aload_n (pc := 9) dX7_create_9 rfl rfl ?_
    refine wq_aload_n (pc := 10) dX7_create_10 rfl rfl ?_
    refine wq_iload_n (pc := 11) dX7_create_11 rfl rfl ?_
    refine wq_iload_n (pc := 12) dX7_create_12 rfl rfl ?_
    refine cVK_2 (pc := 13) dX7_create_13 hs (cw_X7_171 _ rfl) (by decide) rfl ⟨by decide, by decide⟩ (Nat.le_of_ble_eq_true rfl) (sp_X7_entry C1.1 (AOK_KP hO) hdir hnm (fun m2 v K2 Y2 ev => ?_))
    refine kr_s ?_
    have C2 := CM_Y C1 K2.1 Y2
    have F2 := FrM_t F1 (FrM_Y Y2)
    have t2 : m2 21 25 = m1 21 25 := Y2 21 25 (by omega) (by omega)
    have rv : inR v := by unfold inR; omega
    obtain ⟨fl0, S0, hP0, hT0⟩ := hO.2.2 hd
    refine wq_iconst (pc := 16) dX7_create_16 ?_
    refine wq_icmp_ne (pc := 17) (tgt := 29) dX7_create_17 (by decide) (by first | (unfold inR; omega) | assumption) (by first | (unfold inR; omega) | assumption) (fun c17 => ?_) (fun c17 => ?_)
    · skip
      refine wq_iconst (pc := 29) dX7_create_29 ?_
      refine wq_goto (pc := 30) (tgt := 34) dX7_create_30 (by decide) ?_
      refine wq_putIK (pc := 34) (kk := 25) dX7_create_34 hs (gf_X7_127 _ rfl) rfl rfl rfl rfl rfl ?_
      refine wq_aload_n (pc := 37) dX7_create_37 rfl rfl ?_
      refine wq_getIK (pc := 38) (kk := 25) dX7_create_38 hs (gf_X7_127 _ rfl) rfl rfl rfl rfl ?_
      try rw [wr_s]
      refine wq_if_le (pc := 41) (tgt := 46) dX7_create_41 (by decide) (by first | (unfold inR; omega) | assumption) (fun c18 => ?_) (fun c18 => ?_)
      · skip
        refine wq_sub1 (L' := [(0, _), (1, _), (2, _)]) ⟨rfl, rfl, rfl, trivial⟩ ?_
        first
          | (exfalso; omega)
          | exact cut1 _ (CM_25 C3) (FrM_t F3b (FrM_w (by omega))) (wr_s _ _ _ _) hd hdir hnm (by omega) (by rw [if_pos (by decide)] at hrm; exact hrm)
      · skip
        refine wq_iconst (pc := 44) dX7_create_44 ?_
        refine wq_iret (pc := 45) dX7_create_45 rfl ?_
        first
          | (unfold actCreate1 at h
             rw [if_neg (by rw [hr4]; decide), if_neg (by rw [hr5]; decide)] at h
             obtain ⟨-, -, -, -, y5, -⟩ := id P5
             refine h _ _ (CM_put hs P5 (fun _ => ⟨?_, fun n n0 n1 => ⟨?_, ?_⟩⟩) (fun z => absurd z (by rw [hr5]; decide))) (FrM_t e1 (FrM_t (FrM_t (FrM_w (by omega)) (FrM_t (FrM_w (by omega)) (FrM_P y4))) (FrM_t (FrM_w (by omega)) (FrM_P y5)))) (anM_v ?_)
             · rw [wr_n _ _ (by omega), y4 21 22 (by omega) (by omega), wr_n _ _ (by omega), wr_s]
             · rw [wr_n _ _ (by omega), y4 39 n (by omega) (by omega)]
               exact bump_wr (μ := wr m 21 22 (aX A + 1)) (V := aD A) (fun n n0 n1 => by rw [wr_n _ _ (by omega)]; exact (h39 n n0 n1).1) n n0 n1
             · exact bump_wr (V := aN A) (fun n n0 n1 => by rw [y4 40 n (by omega) (by omega), wr_n _ _ (by omega), wr_n _ _ (by omega)]; exact (h39 n n0 n1).2) n n0 n1
             · rw [y5 21 25 (by omega) (by omega), wr_n _ _ (by omega), y4 21 25 (by omega) (by omega), wr_n _ _ (by omega), wr_n _ _ (by omega)]; exact e2)
          | (unfold actCreate1 at h
             rw [if_neg (by rw [hr4]; decide), if_pos hr5] at h
             obtain ⟨-, -, -, -, y5, -⟩ := id P5
             refine h _ _ (CM_put hs P5 (fun z => absurd z (by rw [hr5]; decide)) (fun _ => (N.2 hr5).1)) (FrM_t e1 (FrM_t (FrM_t (FrM_w (by omega)) (FrM_t (FrM_w (by omega)) (FrM_P y4))) (FrM_t (FrM_w (by omega)) (FrM_P y5)))) (anM_v ?_)
             rw [y5 21 25 (by omega) (by omega), wr_n _ _ (by omega), y4 21 25 (by omega) (by omega), wr_n _ _ (by omega), wr_n _ _ (by omega)]; exact e2)
          | (unfold actCreate1 at h
             rw [if_pos hr4] at h
             obtain ⟨-, -, -, -, y4, -⟩ := id P4
             refine h _ _ (CM_put hs P4 (fun z => absurd z (by rw [hr4]; decide)) (fun _ => (D.2 hr4).1)) (FrM_t e1 (FrM_t (FrM_w (by omega)) (FrM_t (FrM_w (by omega)) (FrM_P y4)))) (anM_v ?_)
             rw [y4 21 25 (by omega) (by omega), wr_n _ _ (by omega), wr_n _ _ (by omega)]; exact e2)
          | (exfalso; omega)
          | (obtain ⟨a9, ea, an⟩ := rfN_an (X := _) (v := 0) t1
             rw [ea] at h
             exact h _ _ C1 F1 an)
          | (rw [pI_on hd, pI_0 (fun z => z hdir), pI_0 (fun z => z hnm), pI_1 (show TG (aF A) d nm ≠ 0 by omega)] at h
             exact h _ _ (CM_25 C2) (FrM_t F2 (FrM_w (by omega))) (anM_x 2 rfl (wr_s _ _ _ _)))
          | (rw [pI_on hd, pI_0 (fun z => z hdir), pI_0 (fun z => z hnm), pI_0 (fun z => z (by omega)), pI_1 (by rw [if_pos (by decide)] at hrm; exact hrm)] at h
             exact h _ _ (CM_25 C3) (FrM_t F3b (FrM_w (by omega))) (anM_x 2 rfl (wr_s _ _ _ _)))
    · skip
      refine wq_aload_n (pc := 20) dX7_create_20 rfl rfl ?_
      refine wq_iconst (pc := 21) dX7_create_21 ?_
      refine wq_iconst (pc := 22) dX7_create_22 ?_
      refine cVK_2 (pc := 23) dX7_create_23 hs (cw_X7_222 _ rfl) (by decide) rfl ⟨by decide, by decide⟩ (Nat.le_of_ble_eq_true rfl) (sp_X7_canWrite C2 hd hP0.2.2.2.1 (by omega) (by omega) (fun hrm m3 C3 F3 t3 => ?_) (fun hrm m3 C3 F3 t3 => ?_))
      · skip
        refine kr_s ?_
        have hrm9 := hrm
        have F3b := FrM_t F2 F3
        refine wq_if_ne (pc := 26) (tgt := 33) dX7_create_26 (by decide) (by first | (unfold inR; omega) | assumption) (fun _ => ?_) (fun c => absurd c (by decide))
        refine wq_iconst (pc := 33) dX7_create_33 ?_
        refine wq_putIK (pc := 34) (kk := 25) dX7_create_34 hs (gf_X7_127 _ rfl) rfl rfl rfl rfl rfl ?_
        refine wq_aload_n (pc := 37) dX7_create_37 rfl rfl ?_
        refine wq_getIK (pc := 38) (kk := 25) dX7_create_38 hs (gf_X7_127 _ rfl) rfl rfl rfl rfl ?_
        try rw [wr_s]
        refine wq_if_le (pc := 41) (tgt := 46) dX7_create_41 (by decide) (by first | (unfold inR; omega) | assumption) (fun c22 => ?_) (fun c22 => ?_)
        · skip
          refine wq_sub1 (L' := [(0, _), (1, _), (2, _)]) ⟨rfl, rfl, rfl, trivial⟩ ?_
          first
            | (exfalso; omega)
            | exact cut1 _ (CM_25 C3) (FrM_t F3b (FrM_w (by omega))) (wr_s _ _ _ _) hd hdir hnm (by omega) (by rw [if_pos (by decide)] at hrm; exact hrm)
        · skip
          refine wq_iconst (pc := 44) dX7_create_44 ?_
          refine wq_iret (pc := 45) dX7_create_45 rfl ?_
          first
            | (unfold actCreate1 at h
               rw [if_neg (by rw [hr4]; decide), if_neg (by rw [hr5]; decide)] at h
               obtain ⟨-, -, -, -, y5, -⟩ := id P5
               refine h _ _ (CM_put hs P5 (fun _ => ⟨?_, fun n n0 n1 => ⟨?_, ?_⟩⟩) (fun z => absurd z (by rw [hr5]; decide))) (FrM_t e1 (FrM_t (FrM_t (FrM_w (by omega)) (FrM_t (FrM_w (by omega)) (FrM_P y4))) (FrM_t (FrM_w (by omega)) (FrM_P y5)))) (anM_v ?_)
               · rw [wr_n _ _ (by omega), y4 21 22 (by omega) (by omega), wr_n _ _ (by omega), wr_s]
               · rw [wr_n _ _ (by omega), y4 39 n (by omega) (by omega)]
                 exact bump_wr (μ := wr m 21 22 (aX A + 1)) (V := aD A) (fun n n0 n1 => by rw [wr_n _ _ (by omega)]; exact (h39 n n0 n1).1) n n0 n1
               · exact bump_wr (V := aN A) (fun n n0 n1 => by rw [y4 40 n (by omega) (by omega), wr_n _ _ (by omega), wr_n _ _ (by omega)]; exact (h39 n n0 n1).2) n n0 n1
               · rw [y5 21 25 (by omega) (by omega), wr_n _ _ (by omega), y4 21 25 (by omega) (by omega), wr_n _ _ (by omega), wr_n _ _ (by omega)]; exact e2)
            | (unfold actCreate1 at h
               rw [if_neg (by rw [hr4]; decide), if_pos hr5] at h
               obtain ⟨-, -, -, -, y5, -⟩ := id P5
               refine h _ _ (CM_put hs P5 (fun z => absurd z (by rw [hr5]; decide)) (fun _ => (N.2 hr5).1)) (FrM_t e1 (FrM_t (FrM_t (FrM_w (by omega)) (FrM_t (FrM_w (by omega)) (FrM_P y4))) (FrM_t (FrM_w (by omega)) (FrM_P y5)))) (anM_v ?_)
               rw [y5 21 25 (by omega) (by omega), wr_n _ _ (by omega), y4 21 25 (by omega) (by omega), wr_n _ _ (by omega), wr_n _ _ (by omega)]; exact e2)
            | (unfold actCreate1 at h
               rw [if_pos hr4] at h
               obtain ⟨-, -, -, -, y4, -⟩ := id P4
               refine h _ _ (CM_put hs P4 (fun z => absurd z (by rw [hr4]; decide)) (fun _ => (D.2 hr4).1)) (FrM_t e1 (FrM_t (FrM_w (by omega)) (FrM_t (FrM_w (by omega)) (FrM_P y4)))) (anM_v ?_)
               rw [y4 21 25 (by omega) (by omega), wr_n _ _ (by omega), wr_n _ _ (by omega)]; exact e2)
            | (exfalso; omega)
            | (obtain ⟨a9, ea, an⟩ := rfN_an (X := _) (v := 0) t1
               rw [ea] at h
               exact h _ _ C1 F1 an)
            | (rw [pI_on hd, pI_0 (fun z => z hdir), pI_0 (fun z => z hnm), pI_1 (show TG (aF A) d nm ≠ 0 by omega)] at h
               exact h _ _ (CM_25 C2) (FrM_t F2 (FrM_w (by omega))) (anM_x 2 rfl (wr_s _ _ _ _)))
            | (rw [pI_on hd, pI_0 (fun z => z hdir), pI_0 (fun z => z hnm), pI_0 (fun z => z (by omega)), pI_1 (by rw [if_pos (by decide)] at hrm; exact hrm)] at h
               exact h _ _ (CM_25 C3) (FrM_t F3b (FrM_w (by omega))) (anM_x 2 rfl (wr_s _ _ _ _)))
      · skip
        refine kr_s ?_
        have hrm9 := hrm
        have F3b := FrM_t F2 F3
        refine wq_if_ne (pc := 26) (tgt := 33) dX7_create_26 (by decide) (by first | (unfold inR; omega) | assumption) (fun c => absurd c (by decide)) (fun _ => ?_)
        refine wq_iconst (pc := 29) dX7_create_29 ?_
        refine wq_goto (pc := 30) (tgt := 34) dX7_create_30 (by decide) ?_
        refine wq_putIK (pc := 34) (kk := 25) dX7_create_34 hs (gf_X7_127 _ rfl) rfl rfl rfl rfl rfl ?_
        refine wq_aload_n (pc := 37) dX7_create_37 rfl rfl ?_
        refine wq_getIK (pc := 38) (kk := 25) dX7_create_38 hs (gf_X7_127 _ rfl) rfl rfl rfl rfl ?_
        try rw [wr_s]
        refine wq_if_le (pc := 41) (tgt := 46) dX7_create_41 (by decide) (by first | (unfold inR; omega) | assumption) (fun c24 => ?_) (fun c24 => ?_)
        · skip
          refine wq_sub1 (L' := [(0, _), (1, _), (2, _)]) ⟨rfl, rfl, rfl, trivial⟩ ?_
          first
            | (exfalso; omega)
            | exact cut1 _ (CM_25 C3) (FrM_t F3b (FrM_w (by omega))) (wr_s _ _ _ _) hd hdir hnm (by omega) (by rw [if_pos (by decide)] at hrm; exact hrm)
        · skip
          refine wq_iconst (pc := 44) dX7_create_44 ?_
          refine wq_iret (pc := 45) dX7_create_45 rfl ?_
          first
            | (unfold actCreate1 at h
               rw [if_neg (by rw [hr4]; decide), if_neg (by rw [hr5]; decide)] at h
               obtain ⟨-, -, -, -, y5, -⟩ := id P5
               refine h _ _ (CM_put hs P5 (fun _ => ⟨?_, fun n n0 n1 => ⟨?_, ?_⟩⟩) (fun z => absurd z (by rw [hr5]; decide))) (FrM_t e1 (FrM_t (FrM_t (FrM_w (by omega)) (FrM_t (FrM_w (by omega)) (FrM_P y4))) (FrM_t (FrM_w (by omega)) (FrM_P y5)))) (anM_v ?_)
               · rw [wr_n _ _ (by omega), y4 21 22 (by omega) (by omega), wr_n _ _ (by omega), wr_s]
               · rw [wr_n _ _ (by omega), y4 39 n (by omega) (by omega)]
                 exact bump_wr (μ := wr m 21 22 (aX A + 1)) (V := aD A) (fun n n0 n1 => by rw [wr_n _ _ (by omega)]; exact (h39 n n0 n1).1) n n0 n1
               · exact bump_wr (V := aN A) (fun n n0 n1 => by rw [y4 40 n (by omega) (by omega), wr_n _ _ (by omega), wr_n _ _ (by omega)]; exact (h39 n n0 n1).2) n n0 n1
               · rw [y5 21 25 (by omega) (by omega), wr_n _ _ (by omega), y4 21 25 (by omega) (by omega), wr_n _ _ (by omega), wr_n _ _ (by omega)]; exact e2)
            | (unfold actCreate1 at h
               rw [if_neg (by rw [hr4]; decide), if_pos hr5] at h
               obtain ⟨-, -, -, -, y5, -⟩ := id P5
               refine h _ _ (CM_put hs P5 (fun z => absurd z (by rw [hr5]; decide)) (fun _ => (N.2 hr5).1)) (FrM_t e1 (FrM_t (FrM_t (FrM_w (by omega)) (FrM_t (FrM_w (by omega)) (FrM_P y4))) (FrM_t (FrM_w (by omega)) (FrM_P y5)))) (anM_v ?_)
               rw [y5 21 25 (by omega) (by omega), wr_n _ _ (by omega), y4 21 25 (by omega) (by omega), wr_n _ _ (by omega), wr_n _ _ (by omega)]; exact e2)
            | (unfold actCreate1 at h
               rw [if_pos hr4] at h
               obtain ⟨-, -, -, -, y4, -⟩ := id P4
               refine h _ _ (CM_put hs P4 (fun z => absurd z (by rw [hr4]; decide)) (fun _ => (D.2 hr4).1)) (FrM_t e1 (FrM_t (FrM_w (by omega)) (FrM_t (FrM_w (by omega)) (FrM_P y4)))) (anM_v ?_)
               rw [y4 21 25 (by omega) (by omega), wr_n _ _ (by omega), wr_n _ _ (by omega)]; exact e2)
            | (exfalso; omega)
            | (obtain ⟨a9, ea, an⟩ := rfN_an (X := _) (v := 0) t1
               rw [ea] at h
               exact h _ _ C1 F1 an)
            | (rw [pI_on hd, pI_0 (fun z => z hdir), pI_0 (fun z => z hnm), pI_1 (show TG (aF A) d nm ≠ 0 by omega)] at h
               exact h _ _ (CM_25 C2) (FrM_t F2 (FrM_w (by omega))) (anM_x 2 rfl (wr_s _ _ _ _)))
            | (rw [pI_on hd, pI_0 (fun z => z hdir), pI_0 (fun z => z hnm), pI_0 (fun z => z (by omega)), pI_1 (by rw [if_pos (by decide)] at hrm; exact hrm)] at h
               exact h _ _ (CM_25 C3) (FrM_t F3b (FrM_w (by omega))) (anM_x 2 rfl (wr_s _ _ _ _)))
  · skip
    refine kr_s ?_
    have ht1 := rfN_r (A := A) (d := d) (nm := nm) t1
    have r25 : inR (m1 21 25) := by unfold inR; omega
    refine wq_if_eq (pc := 6) (tgt := 37) dX7_create_6 (by decide) (by first | (unfold inR; omega) | assumption) (fun _ => ?_) (fun c => absurd c (by decide))
    refine wq_aload_n (pc := 37) dX7_create_37 rfl rfl ?_
    refine wq_getIK (pc := 38) (kk := 25) dX7_create_38 hs (gf_X7_127 _ rfl) rfl rfl rfl rfl ?_
    try rw [wr_s]
    refine wq_if_le (pc := 41) (tgt := 46) dX7_create_41 (by decide) (by first | (unfold inR; omega) | assumption) (fun c26 => ?_) (fun c26 => ?_)
    · skip
      refine wq_sub1 (L' := [(0, _), (1, _), (2, _)]) ⟨rfl, rfl, rfl, trivial⟩ ?_
      first
        | (exfalso; omega)
        | exact cut1 _ (CM_25 C3) (FrM_t F3b (FrM_w (by omega))) (wr_s _ _ _ _) hd hdir hnm (by omega) (by rw [if_pos (by decide)] at hrm; exact hrm)
    · skip
      refine wq_iconst (pc := 44) dX7_create_44 ?_
      refine wq_iret (pc := 45) dX7_create_45 rfl ?_
      first
        | (unfold actCreate1 at h
           rw [if_neg (by rw [hr4]; decide), if_neg (by rw [hr5]; decide)] at h
           obtain ⟨-, -, -, -, y5, -⟩ := id P5
           refine h _ _ (CM_put hs P5 (fun _ => ⟨?_, fun n n0 n1 => ⟨?_, ?_⟩⟩) (fun z => absurd z (by rw [hr5]; decide))) (FrM_t e1 (FrM_t (FrM_t (FrM_w (by omega)) (FrM_t (FrM_w (by omega)) (FrM_P y4))) (FrM_t (FrM_w (by omega)) (FrM_P y5)))) (anM_v ?_)
           · rw [wr_n _ _ (by omega), y4 21 22 (by omega) (by omega), wr_n _ _ (by omega), wr_s]
           · rw [wr_n _ _ (by omega), y4 39 n (by omega) (by omega)]
             exact bump_wr (μ := wr m 21 22 (aX A + 1)) (V := aD A) (fun n n0 n1 => by rw [wr_n _ _ (by omega)]; exact (h39 n n0 n1).1) n n0 n1
           · exact bump_wr (V := aN A) (fun n n0 n1 => by rw [y4 40 n (by omega) (by omega), wr_n _ _ (by omega), wr_n _ _ (by omega)]; exact (h39 n n0 n1).2) n n0 n1
           · rw [y5 21 25 (by omega) (by omega), wr_n _ _ (by omega), y4 21 25 (by omega) (by omega), wr_n _ _ (by omega), wr_n _ _ (by omega)]; exact e2)
        | (unfold actCreate1 at h
           rw [if_neg (by rw [hr4]; decide), if_pos hr5] at h
           obtain ⟨-, -, -, -, y5, -⟩ := id P5
           refine h _ _ (CM_put hs P5 (fun z => absurd z (by rw [hr5]; decide)) (fun _ => (N.2 hr5).1)) (FrM_t e1 (FrM_t (FrM_t (FrM_w (by omega)) (FrM_t (FrM_w (by omega)) (FrM_P y4))) (FrM_t (FrM_w (by omega)) (FrM_P y5)))) (anM_v ?_)
           rw [y5 21 25 (by omega) (by omega), wr_n _ _ (by omega), y4 21 25 (by omega) (by omega), wr_n _ _ (by omega), wr_n _ _ (by omega)]; exact e2)
        | (unfold actCreate1 at h
           rw [if_pos hr4] at h
           obtain ⟨-, -, -, -, y4, -⟩ := id P4
           refine h _ _ (CM_put hs P4 (fun z => absurd z (by rw [hr4]; decide)) (fun _ => (D.2 hr4).1)) (FrM_t e1 (FrM_t (FrM_w (by omega)) (FrM_t (FrM_w (by omega)) (FrM_P y4)))) (anM_v ?_)
           rw [y4 21 25 (by omega) (by omega), wr_n _ _ (by omega), wr_n _ _ (by omega)]; exact e2)
        | (exfalso; omega)
        | (obtain ⟨a9, ea, an⟩ := rfN_an (X := _) (v := 0) t1
           rw [ea] at h
           exact h _ _ C1 F1 an)
        | (rw [pI_on hd, pI_0 (fun z => z hdir), pI_0 (fun z => z hnm), pI_1 (show TG (aF A) d nm ≠ 0 by omega)] at h
           exact h _ _ (CM_25 C2) (FrM_t F2 (FrM_w (by omega))) (anM_x 2 rfl (wr_s _ _ _ _)))
        | (rw [pI_on hd, pI_0 (fun z => z hdir), pI_0 (fun z => z hnm), pI_0 (fun z => z (by omega)), pI_1 (by rw [if_pos (by decide)] at hrm; exact hrm)] at h
           exact h _ _ (CM_25 C3) (FrM_t F3b (FrM_w (by omega))) (anM_x 2 rfl (wr_s _ _ _ _)))
