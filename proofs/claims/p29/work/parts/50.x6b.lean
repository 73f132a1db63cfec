abbrev sSet (s : Int → Int) (key : Int) : Prop := (s 0 = 2 ∧ s 5 = key) ∨ (s 0 ≠ 2 ∧ (s 9 ≤ key ∨ (s 5 ≤ key ∧ key - s 5 < s 6)))
def sByt (s : Int → Int) (p : Int) : Int := if s 5 ≤ p ∧ p - s 5 < s 6 then iAnd (jUshr (s 7) (8 * (p - s 5))) 255 else 0
theorem sSet_of {s : Int → Int} {μ : nMem} {o : Int} (ra : ∀ k, 0 ≤ k → k ≤ 11 → μ o k = s k) (p : Int) : nSettles μ o p ↔ sSet s p := by
  unfold nSettles sSet
  rw [ra 0 (by omega) (by omega), ra 5 (by omega) (by omega), ra 6 (by omega) (by omega), ra 9 (by omega) (by omega)]
theorem sByt_of {s : Int → Int} {μ : nMem} {o : Int} (ra : ∀ k, 0 ≤ k → k ≤ 11 → μ o k = s k) (p : Int) : nByteFor μ o p = sByt s p := by
  unfold nByteFor nByte sByt
  rw [ra 5 (by omega) (by omega), ra 6 (by omega) (by omega), ra 7 (by omega) (by omega)]
/-- a file with a node laid on it -/
def tLayS (s : Int → Int) (q : Int) (S : Tr) : Tr := (tNx S, tNl S, fun x k => if x = q ∧ k = 6 then s 9 else if x = q ∧ k = 3 then s 4 else tFd S x k, fun x p => if x = q ∧ p < 64 ∧ sSet s p then sByt s p else tCl S x p)
theorem CT_layS {S : Tr} {s : Int → Int} {μ m : nMem} {ε : nEnv} {a q o : Int} (hT : CT S μ ε) (hA : tAt S μ a q) (ra : ∀ k, 0 ≤ k → k ≤ 11 → μ o k = s k)
    (h6 : m a 6 = μ o 9) (h3 : m a 3 = μ o 4) (hx : ∀ x j, x ≠ eFin ε a 0 → ¬ (x = a ∧ j = 6) → ¬ (x = a ∧ j = 3) → m x j = μ x j)
    (hc : ∀ p, 0 ≤ p → p < 100 → m (eFin ε a 0) p = if p < 64 ∧ nSettles μ o p then nByteFor μ o p else μ (eFin ε a 0) p) :
    CT (tLayS s q S) m ε ∧ FrT μ ε m ε ∧ (∀ b x, tAt S μ b x → tAt (tLayS s q S) m b x) := by
  obtain ⟨c1, c2, c3, c4, c5, c6, c7⟩ := id hT
  obtain ⟨a0, s1, s2, s3⟩ := tAt_sh hT hA
  have m13 : ∀ j, m 13 j = μ 13 j := fun j => hx 13 j (by omega) (by omega) (by omega)
  have hti : isTI μ ε a ∧ isTI μ ε (eFin ε a 0) := by
    obtain ⟨i, i0, i1, i2⟩ := hA
    exact ⟨⟨i, by omega, by omega, by rw [i2]; exact a0, Or.inl i2.symm⟩, ⟨i, by omega, by omega, by rw [i2]; exact a0, Or.inr (by rw [i2])⟩⟩
  refine ⟨⟨c1, ?_, c3, c4, by rw [hx 12 2 (by omega) (by omega) (by omega)]; exact c5, by rw [hx 12 3 (by omega) (by omega) (by omega)]; exact c6, fun k hk => ?_⟩, ⟨fun y _ _ _ _ y4 j => ?_, fun _ _ => ⟨rfl, rfl, fun _ => rfl⟩, fun y ⟨k, k0, k1, k2, k3⟩ => Or.inl ⟨k, k0, k1, by rw [m13] at k2; exact k2, by rw [m13] at k3; exact k3⟩, rfl, fun t ht => Cap_congr ht (fun j => hx 3 j (by omega) (by omega) (by omega)) m13 rfl rfl⟩, fun b x ⟨k, k0, k1, k2⟩ => ⟨k, k0, k1, by rw [m13]; exact k2⟩⟩
  · unfold nItems; simp only [m13]; exact c2
  · have hb := CT_it hT hk
    rw [m13]
    generalize μ 13 k = b at hb ⊢
    have hk : k < (tNl S).length := hk
    show b ≠ 0 ∧ itIs (tLayS s q S) m ε b ((tNl S).getD k 0)
    generalize (tNl S).getD k 0 = x at hb ⊢
    obtain ⟨b0, t1, t2, t3⟩ := tAt_sh hT hb
    obtain ⟨d1, d2, d3⟩ := tAt_is hT hb
    have hbc : b ≠ eFin ε a 0 := fun e => by have := s1.2.1; rw [← e, t1.1] at this; cases this
    by_cases e : b = a
    · subst e
      have eq : x = q := tAt_n hT hb hA
      subst eq
      refine ⟨b0, by rw [hx _ _ hbc (by omega) (by omega)]; exact d1, fun j j0 j1 => ?_, fun p p0 p1 => ?_⟩
      · show _ = if x = x ∧ j = 6 then _ else if x = x ∧ j = 3 then _ else _
        by_cases j6 : j = 6
        · rw [if_pos ⟨rfl, j6⟩, j6, h6]; exact ra 9 (by omega) (by omega)
        · rw [if_neg (fun r => j6 r.2)]
          by_cases j3 : j = 3
          · rw [if_pos ⟨rfl, j3⟩, j3, h3]; exact ra 4 (by omega) (by omega)
          · rw [if_neg (fun r => j3 r.2), hx _ _ hbc (fun r => j6 r.2) (fun r => j3 r.2)]; exact d2 j j0 j1
      · show _ = if x = x ∧ p < 64 ∧ sSet s p then _ else _
        rw [hc p p0 p1]
        have hs := sSet_of ra p
        by_cases c : p < 64 ∧ sSet s p
        · rw [if_pos ⟨c.1, hs.mpr c.2⟩, if_pos ⟨rfl, c⟩]; exact sByt_of ra p
        · rw [if_neg (fun r => c ⟨r.1, hs.mp r.2⟩), if_neg (fun r => c r.2)]; exact d3 p p0 p1
    · have eq : x ≠ q := fun r => e (by rw [r] at hb; exact tAt_a hT hb hA)
      have hcc : eFin ε b 0 ≠ eFin ε a 0 := fun r => eq (tAt_c hT hb hA r)
      have hca : eFin ε b 0 ≠ a := fun r => by have := t1.2.1; rw [r, s1.1] at this; cases this
      refine ⟨b0, by rw [hx _ _ hbc (fun r => e r.1) (fun r => e r.1)]; exact d1, fun j j0 j1 => ?_, fun p p0 p1 => ?_⟩
      · show _ = if x = q ∧ j = 6 then _ else if x = q ∧ j = 3 then _ else _
        rw [if_neg (fun r => eq r.1), if_neg (fun r => eq r.1), hx _ _ hbc (fun r => e r.1) (fun r => e r.1)]; exact d2 j j0 j1
      · show _ = if x = q ∧ p < 64 ∧ sSet s p then _ else _
        rw [if_neg (fun r => eq r.1), hx _ _ hcc (fun r => hca r.1) (fun r => hca r.1)]; exact d3 p p0 p1
  · exact hx y j (fun r => y4 (by rw [r]; exact hti.2)) (fun r => y4 (by rw [r.1]; exact hti.1)) (fun r => y4 (by rw [r.1]; exact hti.1))

/-- what a node says that names a target -/
def nmSrc (d v nm t td : Int) : Int → Int := fun k => if k = 0 then 2 else if k = 1 then 3 else if k = 3 then d else if k = 4 then v else if k = 5 then nm else if k = 10 then t else if k = 11 then td else 0
theorem nmSrc_of (m : nMem) (d v nm t td : Int) : nSrc (mName m 20 d v nm t td 20) = nmSrc d v nm t td := by
  funext k
  unfold nSrc nmSrc
  by_cases h : 0 ≤ k ∧ k ≤ 11
  · rw [if_pos h, mName_v, if_pos ⟨rfl, h.1, by omega⟩]
  · rw [if_neg h, if_neg (by omega), if_neg (by omega), if_neg (by omega), if_neg (by omega), if_neg (by omega), if_neg (by omega), if_neg (by omega)]
theorem CT_mem20 {S : Tr} {μ μ1 : nMem} {ε : nEnv} (hT : CT S μ ε) (h : ∀ x j, x ≠ 20 → μ1 x j = μ x j) : CT S μ1 ε ∧ (∀ b q, tAt S μ b q → tAt S μ1 b q) := by
  obtain ⟨c1, c2, c3, c4, c5, c6, c7⟩ := id hT
  have m12 : ∀ j, μ1 12 j = μ 12 j := fun j => h 12 j (by omega)
  have m13 : ∀ j, μ1 13 j = μ 13 j := fun j => h 13 j (by omega)
  refine ⟨⟨c1, by unfold nItems; simp only [m13]; exact c2, c3, c4, by rw [m12]; exact c5, by rw [m12]; exact c6, fun i hi => ?_⟩, fun b q ⟨i, i0, i1, i2⟩ => ⟨i, i0, i1, by rw [m13]; exact i2⟩⟩
  obtain ⟨d0, d1, d2, d3⟩ := c7 i hi
  obtain ⟨s1, s2, s3⟩ := c2.1 i (by omega) (by omega) d0
  rw [m13]
  have u : ∀ j, μ1 (μ 13 i) j = μ (μ 13 i) j := fun j => h _ _ (by omega)
  have v : ∀ j, μ1 (eFin ε (μ 13 i) 0) j = μ (eFin ε (μ 13 i) 0) j := fun j => h _ _ (by omega)
  exact ⟨d0, by rw [u]; exact d1, fun k k0 k1 => by rw [u]; exact d2 k k0 k1, fun j j0 j1 => by rw [v]; exact d3 j j0 j1⟩
theorem C6_20 {F : Fl} {g : Lg} {S : Tr} {μ m : nMem} {ε : nEnv} (h : C6 F g S μ ε) (ht : ∀ x j, x ≠ 20 → m x j = μ x j) : C6 F g S m ε ∧ (∀ b q, tAt S μ b q → tAt S m b q) ∧ Fr6 μ ε m ε := by
  obtain ⟨a, b, c⟩ := h
  have x := CT_mem20 c ht
  exact ⟨⟨CF_mem2 a (fun x x0 hx j => ht x j (by
      rcases hx with e | e | e | e | e | e | e
      all_goals first | omega | skip
      intro z
      exact not_row a.2.1 (by omega) (Or.inr (by omega)) e)), CL_mem b ⟨ht 8 _ (by omega), ht 8 _ (by omega), ht 8 _ (by omega)⟩ (fun j => ht 10 j (by omega)) (fun j => ht 11 j (by omega)), x.1⟩, x.2, ⟨fun x hx j => ht x j (by omega), fun _ _ => ⟨rfl, rfl, fun _ => rfl⟩, rfl, fun t ht2 => Cap_congr ht2 (fun j => ht 3 j (by omega)) (fun j => ht 13 j (by omega)) rfl rfl⟩⟩
theorem C6_T {F : Fl} {g : Lg} {S S' : Tr} {μ m : nMem} {ε e : nEnv} (h : C6 F g S μ ε) (hT : CT S' m e) (hF : FrT μ ε m e) : C6 F g S' m e ∧ Fr6 μ ε m e :=
  ⟨⟨CF_FrT h.1 h.2.2.2.1 hF, CL_FrT h.1.1 h.2.1 h.2.2.2.1 hF, hT⟩, Fr6_T h.2.2.2.1 hF⟩
theorem C6_X {F F' : Fl} {g g' : Lg} {S : Tr} {μ m : nMem} {ε e : nEnv} (h : C6 F g S μ ε) (hC : CF F' m e) (hL : CL g' m) (hF : FrX XP μ ε m e) : C6 F' g' S m e ∧ (∀ b q, tAt S μ b q → tAt S m b q) ∧ Fr6 μ ε m e := by
  have x := CT_FrX (X := XP) (fun x hx => by unfold XP at hx; omega) h.2.2 h.1.2.1 hF
  exact ⟨⟨hC, hL, x.1⟩, x.2, Fr6_X (fun x hx => by unfold XP at hx; omega) h.1.2.1 hF⟩
/-- a move that is refused -/
def badMv (S : Tr) (mv to tn : Int) : Prop := (tn ∈ tNl S ∧ (tn = mv ∨ tFd S tn 2 = 1 ∨ tFd S mv 2 = 1)) ∨ (tFd S mv 2 = 1 ∧ tReach S mv to)
theorem tAt_ne {S : Tr} {μ : nMem} {ε : nEnv} {a b n q : Int} (hT : CT S μ ε) (h : tAt S μ a n) (k : tAt S μ b q) : a = b ↔ n = q := by
  constructor
  · intro e; subst e; exact tAt_n hT h k
  · intro e; subst e; exact tAt_a hT h k
/-- the victim of a collection, and its rank -/
noncomputable def vcS (F : Fl) (S : Tr) (w b : Int) (s : Int × Int) : Int × Int := if (4 - jDirt F S b - w) % 3 < s.2 then (b, (4 - jDirt F S b - w) % 3) else s
noncomputable def vc (F : Fl) (S : Tr) (g : Lg) (w : Int) : Nat → Int × Int
  | 0 => (-1, 3)
  | n + 1 => vcS F S w (g.2.2.getD n 0) (vc F S g w n)
theorem vc_s (F : Fl) (S : Tr) (g : Lg) (w : Int) (n : Nat) : vc F S g w (n + 1) = vcS F S w (g.2.2.getD n 0) (vc F S g w n) := rfl
theorem jDirt_r (F : Fl) (S : Tr) (b : Int) : 2 ≤ jDirt F S b ∧ jDirt F S b ≤ 4 := by
  unfold jDirt; split
  · omega
  · split <;> omega
def wantOf (draw : Int) : Int := if draw < 64 then 0 else if draw < 120 then 1 else 2
/-- how many units of a block are read -/
def uRd (F : Fl) (b s : Int) : Int := if s ≠ 0 ∧ 0 < fC F b ∧ jSm F (b * 16 + (fC F b - 1)) then fN F (b * 16 + (fC F b - 1)) 1 + 1 else fU F b
theorem sp_X6_refuseWrongMove {μ : nMem} {ε : nEnv} {Q : nOut → nMem → nEnv → Prop} {S : Tr} {mv to tk nmv nto ntk : Int} {t : Nat} (hcap : Cap μ ε (t + 1)) (hT : CT S μ ε) (hB : tB S) (hs : SkP skC ε) (hM : tAt S μ mv nmv) (hTo : tAt S μ to nto) (hTk : (tk = 0 ∧ ntk ∉ tNl S) ∨ tAt S μ tk ntk) (h : ¬ badMv S nmv nto ntk → ∀ μ9, CT S μ9 ε → FrT μ ε μ9 ε → (∀ b q, tAt S μ b q → tAt S μ9 b q) → Q (.inl none) μ9 ε) (hx : badMv S nmv nto ntk → ∀ μ9, CT S μ9 ε → FrT μ ε μ9 ε → (∀ b q, tAt S μ b q → tAt S μ9 b q) → ∀ ε', thr ε ε' → Q (.inr xS) μ9 ε') : Sp mX6_refuseWrongMove [vR 1, vR mv, vR to, vR tk] μ ε Q := by
  refine Sp_of (L := [(0, vR 1), (1, vR mv), (2, vR to), (3, vR tk)]) (by decide) rfl rfl (Nat.le_of_ble_eq_true rfl) ?_
  have hroom := Cap_room hcap
  have hsT := hT.1
  obtain ⟨m0, mI, mw, -⟩ := tAt_sh hT hM
  obtain ⟨km, -, -⟩ := id mI
  have mf := (tAt_is hT hM).2.1 2 (by omega) (by omega)
  have mb := (hB.2 _ (tAt_mem hM)).2.1
  have tkb : tk = 0 ∨ (tk ≠ 0 ∧ eKind ε tk = 2 ∧ 0 ≤ tk ∧ tAt S μ tk ntk ∧ μ tk 2 = tFd S ntk 2 ∧ (tFd S ntk 2 = 0 ∨ tFd S ntk 2 = 1) ∧ (tk = mv ↔ ntk = nmv)) := by
    rcases hTk with q | q
    · exact Or.inl q.1
    · obtain ⟨k0, kI, kw, -⟩ := tAt_sh hT q
      exact Or.inr ⟨k0, kI.1, by omega, q, (tAt_is hT q).2.1 2 (by omega) (by omega), (hB.2 _ (tAt_mem q)).2.1, tAt_ne hT q hM⟩
  have tkn : tk = 0 → ntk ∉ tNl S := fun z => by
    rcases hTk with q | q
    · exact q.2
    · exact absurd z (tAt_sh hT q).1
  refine wq_aload_n (pc := 0) dX6_refuseWrongMove_0 rfl rfl ?_
  refine wq_aload_n (pc := 1) dX6_refuseWrongMove_1 rfl rfl ?_
  refine wq_acmp_ne (pc := 2) (tgt := 16) dX6_refuseWrongMove_2 (by decide) (by omega) (by omega) (fun c1 => ?_) (fun c1 => ?_)
  · skip
    refine wq_aload_n (pc := 16) dX6_refuseWrongMove_16 rfl rfl ?_
    refine wq_ifnull (pc := 17) (tgt := 45) dX6_refuseWrongMove_17 (by decide)  (fun c2 => ?_) (fun c2 => ?_)
    · skip
      refine wq_aload_n (pc := 45) dX6_refuseWrongMove_45 rfl rfl ?_
      refine wq_getI (pc := 46) (kk := 2) dX6_refuseWrongMove_46 (gf_X6_127 _ rfl) (by first | with_reducible assumption | exact (tkb.resolve_left (by assumption)).2.1) rfl rfl rfl ?_
      refine wq_if_eq (pc := 49) (tgt := 75) dX6_refuseWrongMove_49 (by decide) (by first | (unfold inR; omega) | assumption) (fun c3 => ?_) (fun c3 => ?_)
      · skip
        refine wq_vret (pc := 75) dX6_refuseWrongMove_75 rfl ?_
        first
          | (rcases tkb with z | ⟨k0, kk, k1, kA, kf, kb, ke⟩
             · exfalso; omega
             · first
               | exact hx (Or.inl ⟨tAt_mem kA, Or.inl (ke.mp (by assumption))⟩) _ hT (FrT_refl _ _) (fun _ _ q => q) _ ht
               | exact hx (Or.inl ⟨tAt_mem kA, by omega⟩) _ hT (FrT_refl _ _) (fun _ _ q => q) _ ht)
          | exact hx (Or.inr ⟨by omega, hre⟩) _ T1 F1 K1 _ ht
          | (have hg : ¬ badMv S nmv nto ntk := fun z => by
               rcases z with ⟨z1, z2⟩ | ⟨z1, z2⟩
               · rcases tkb with q | ⟨k0, kk, k1, kA, kf, kb, ke⟩
                 · exact tkn q z1
                 · omega
               · first
                 | exact hre z2
                 | omega
             first
               | exact h hg _ T1 F1 K1
               | exact h hg _ hT (FrT_refl _ _) (fun _ _ q => q))
      · skip
        refine wq_aload_n (pc := 52) dX6_refuseWrongMove_52 rfl rfl ?_
        refine wq_getS (pc := 53) dX6_refuseWrongMove_53 hs (gf_X6_28 _ rfl) rfl rfl rfl rfl rfl ?_
        refine wq_aload_n (pc := 56) dX6_refuseWrongMove_56 rfl rfl ?_
        refine wq_aload_n (pc := 57) dX6_refuseWrongMove_57 rfl rfl ?_
        refine cVK_2 (pc := 58) dX6_refuseWrongMove_58 hsT (cw_X6_291 _ rfl) (by decide) rfl ⟨by decide, by decide⟩ (Nat.le_of_ble_eq_true rfl) (sp_X5_leadsTo hT hB hM hTo (by omega) (fun hre m1 T1 F1 K1 => ?_) (fun hre m1 T1 F1 K1 => ?_))
        · skip
          refine kr_s ?_
          refine wq_if_eq (pc := 61) (tgt := 75) dX6_refuseWrongMove_61 (by decide) (by first | (unfold inR; omega) | assumption) (fun c => absurd c (by decide)) (fun _ => ?_)
          refine wq_throwW (pc := 64) dX6_refuseWrongMove_64 dX6_refuseWrongMove_67 dX6_refuseWrongMove_68 dX6_refuseWrongMove_71 dX6_refuseWrongMove_74 rfl th_S ks_X6_295 (by decide) (by decide) (Nat.le_of_ble_eq_true rfl) hroom (fun ε' ht => ?_)
          first
            | (rcases tkb with z | ⟨k0, kk, k1, kA, kf, kb, ke⟩
               · exfalso; omega
               · first
                 | exact hx (Or.inl ⟨tAt_mem kA, Or.inl (ke.mp (by assumption))⟩) _ hT (FrT_refl _ _) (fun _ _ q => q) _ ht
                 | exact hx (Or.inl ⟨tAt_mem kA, by omega⟩) _ hT (FrT_refl _ _) (fun _ _ q => q) _ ht)
            | exact hx (Or.inr ⟨by omega, hre⟩) _ T1 F1 K1 _ ht
            | (have hg : ¬ badMv S nmv nto ntk := fun z => by
                 rcases z with ⟨z1, z2⟩ | ⟨z1, z2⟩
                 · rcases tkb with q | ⟨k0, kk, k1, kA, kf, kb, ke⟩
                   · exact tkn q z1
                   · omega
                 · first
                   | exact hre z2
                   | omega
               first
                 | exact h hg _ T1 F1 K1
                 | exact h hg _ hT (FrT_refl _ _) (fun _ _ q => q))
        · skip
          refine kr_s ?_
          refine wq_if_eq (pc := 61) (tgt := 75) dX6_refuseWrongMove_61 (by decide) (by first | (unfold inR; omega) | assumption) (fun _ => ?_) (fun c => absurd c (by decide))
          refine wq_vret (pc := 75) dX6_refuseWrongMove_75 rfl ?_
          first
            | (rcases tkb with z | ⟨k0, kk, k1, kA, kf, kb, ke⟩
               · exfalso; omega
               · first
                 | exact hx (Or.inl ⟨tAt_mem kA, Or.inl (ke.mp (by assumption))⟩) _ hT (FrT_refl _ _) (fun _ _ q => q) _ ht
                 | exact hx (Or.inl ⟨tAt_mem kA, by omega⟩) _ hT (FrT_refl _ _) (fun _ _ q => q) _ ht)
            | exact hx (Or.inr ⟨by omega, hre⟩) _ T1 F1 K1 _ ht
            | (have hg : ¬ badMv S nmv nto ntk := fun z => by
                 rcases z with ⟨z1, z2⟩ | ⟨z1, z2⟩
                 · rcases tkb with q | ⟨k0, kk, k1, kA, kf, kb, ke⟩
                   · exact tkn q z1
                   · omega
                 · first
                   | exact hre z2
                   | omega
               first
                 | exact h hg _ T1 F1 K1
                 | exact h hg _ hT (FrT_refl _ _) (fun _ _ q => q))
    · skip
      obtain ⟨k0, kk, k1, kA, kf, kb, ke⟩ := tkb.resolve_left c2
      refine wq_aload_n (pc := 20) dX6_refuseWrongMove_20 rfl rfl ?_
      refine wq_getI (pc := 21) (kk := 2) dX6_refuseWrongMove_21 (gf_X6_127 _ rfl) (by first | with_reducible assumption | exact (tkb.resolve_left (by assumption)).2.1) rfl rfl rfl ?_
      refine wq_if_ne (pc := 24) (tgt := 34) dX6_refuseWrongMove_24 (by decide) (by first | (unfold inR; omega) | assumption) (fun c8 => ?_) (fun c8 => ?_)
      · skip
        refine wq_throwW (pc := 34) dX6_refuseWrongMove_34 dX6_refuseWrongMove_37 dX6_refuseWrongMove_38 dX6_refuseWrongMove_41 dX6_refuseWrongMove_44 rfl th_S ks_X6_289 (by decide) (by decide) (Nat.le_of_ble_eq_true rfl) hroom (fun ε' ht => ?_)
        first
          | (rcases tkb with z | ⟨k0, kk, k1, kA, kf, kb, ke⟩
             · exfalso; omega
             · first
               | exact hx (Or.inl ⟨tAt_mem kA, Or.inl (ke.mp (by assumption))⟩) _ hT (FrT_refl _ _) (fun _ _ q => q) _ ht
               | exact hx (Or.inl ⟨tAt_mem kA, by omega⟩) _ hT (FrT_refl _ _) (fun _ _ q => q) _ ht)
          | exact hx (Or.inr ⟨by omega, hre⟩) _ T1 F1 K1 _ ht
          | (have hg : ¬ badMv S nmv nto ntk := fun z => by
               rcases z with ⟨z1, z2⟩ | ⟨z1, z2⟩
               · rcases tkb with q | ⟨k0, kk, k1, kA, kf, kb, ke⟩
                 · exact tkn q z1
                 · omega
               · first
                 | exact hre z2
                 | omega
             first
               | exact h hg _ T1 F1 K1
               | exact h hg _ hT (FrT_refl _ _) (fun _ _ q => q))
      · skip
        refine wq_aload_n (pc := 27) dX6_refuseWrongMove_27 rfl rfl ?_
        refine wq_getI (pc := 28) (kk := 2) dX6_refuseWrongMove_28 (gf_X6_127 _ rfl) (by first | with_reducible assumption | exact (tkb.resolve_left (by assumption)).2.1) rfl rfl rfl ?_
        refine wq_if_eq (pc := 31) (tgt := 45) dX6_refuseWrongMove_31 (by decide) (by first | (unfold inR; omega) | assumption) (fun c9 => ?_) (fun c9 => ?_)
        · skip
          refine wq_aload_n (pc := 45) dX6_refuseWrongMove_45 rfl rfl ?_
          refine wq_getI (pc := 46) (kk := 2) dX6_refuseWrongMove_46 (gf_X6_127 _ rfl) (by first | with_reducible assumption | exact (tkb.resolve_left (by assumption)).2.1) rfl rfl rfl ?_
          refine wq_if_eq (pc := 49) (tgt := 75) dX6_refuseWrongMove_49 (by decide) (by first | (unfold inR; omega) | assumption) (fun c10 => ?_) (fun c10 => ?_)
          · skip
            refine wq_vret (pc := 75) dX6_refuseWrongMove_75 rfl ?_
            first
              | (rcases tkb with z | ⟨k0, kk, k1, kA, kf, kb, ke⟩
                 · exfalso; omega
                 · first
                   | exact hx (Or.inl ⟨tAt_mem kA, Or.inl (ke.mp (by assumption))⟩) _ hT (FrT_refl _ _) (fun _ _ q => q) _ ht
                   | exact hx (Or.inl ⟨tAt_mem kA, by omega⟩) _ hT (FrT_refl _ _) (fun _ _ q => q) _ ht)
              | exact hx (Or.inr ⟨by omega, hre⟩) _ T1 F1 K1 _ ht
              | (have hg : ¬ badMv S nmv nto ntk := fun z => by
                   rcases z with ⟨z1, z2⟩ | ⟨z1, z2⟩
                   · rcases tkb with q | ⟨k0, kk, k1, kA, kf, kb, ke⟩
                     · exact tkn q z1
                     · omega
                   · first
                     | exact hre z2
                     | omega
                 first
                   | exact h hg _ T1 F1 K1
                   | exact h hg _ hT (FrT_refl _ _) (fun _ _ q => q))
          · skip
            refine wq_aload_n (pc := 52) dX6_refuseWrongMove_52 rfl rfl ?_
            refine wq_getS (pc := 53) dX6_refuseWrongMove_53 hs (gf_X6_28 _ rfl) rfl rfl rfl rfl rfl ?_
            refine wq_aload_n (pc := 56) dX6_refuseWrongMove_56 rfl rfl ?_
            refine wq_aload_n (pc := 57) dX6_refuseWrongMove_57 rfl rfl ?_
            refine cVK_2 (pc := 58) dX6_refuseWrongMove_58 hsT (cw_X6_291 _ rfl) (by decide) rfl ⟨by decide, by decide⟩ (Nat.le_of_ble_eq_true rfl) (sp_X5_leadsTo hT hB hM hTo (by omega) (fun hre m1 T1 F1 K1 => ?_) (fun hre m1 T1 F1 K1 => ?_))
            · skip
              refine kr_s ?_
              refine wq_if_eq (pc := 61) (tgt := 75) dX6_refuseWrongMove_61 (by decide) (by first | (unfold inR; omega) | assumption) (fun c => absurd c (by decide)) (fun _ => ?_)
              refine wq_throwW (pc := 64) dX6_refuseWrongMove_64 dX6_refuseWrongMove_67 dX6_refuseWrongMove_68 dX6_refuseWrongMove_71 dX6_refuseWrongMove_74 rfl th_S ks_X6_295 (by decide) (by decide) (Nat.le_of_ble_eq_true rfl) hroom (fun ε' ht => ?_)
              first
                | (rcases tkb with z | ⟨k0, kk, k1, kA, kf, kb, ke⟩
                   · exfalso; omega
                   · first
                     | exact hx (Or.inl ⟨tAt_mem kA, Or.inl (ke.mp (by assumption))⟩) _ hT (FrT_refl _ _) (fun _ _ q => q) _ ht
                     | exact hx (Or.inl ⟨tAt_mem kA, by omega⟩) _ hT (FrT_refl _ _) (fun _ _ q => q) _ ht)
                | exact hx (Or.inr ⟨by omega, hre⟩) _ T1 F1 K1 _ ht
                | (have hg : ¬ badMv S nmv nto ntk := fun z => by
                     rcases z with ⟨z1, z2⟩ | ⟨z1, z2⟩
                     · rcases tkb with q | ⟨k0, kk, k1, kA, kf, kb, ke⟩
                       · exact tkn q z1
                       · omega
                     · first
                       | exact hre z2
                       | omega
                   first
                     | exact h hg _ T1 F1 K1
                     | exact h hg _ hT (FrT_refl _ _) (fun _ _ q => q))
            · skip
              refine kr_s ?_
              refine wq_if_eq (pc := 61) (tgt := 75) dX6_refuseWrongMove_61 (by decide) (by first | (unfold inR; omega) | assumption) (fun _ => ?_) (fun c => absurd c (by decide))
              refine wq_vret (pc := 75) dX6_refuseWrongMove_75 rfl ?_
              first
                | (rcases tkb with z | ⟨k0, kk, k1, kA, kf, kb, ke⟩
                   · exfalso; omega
                   · first
                     | exact hx (Or.inl ⟨tAt_mem kA, Or.inl (ke.mp (by assumption))⟩) _ hT (FrT_refl _ _) (fun _ _ q => q) _ ht
                     | exact hx (Or.inl ⟨tAt_mem kA, by omega⟩) _ hT (FrT_refl _ _) (fun _ _ q => q) _ ht)
                | exact hx (Or.inr ⟨by omega, hre⟩) _ T1 F1 K1 _ ht
                | (have hg : ¬ badMv S nmv nto ntk := fun z => by
                     rcases z with ⟨z1, z2⟩ | ⟨z1, z2⟩
                     · rcases tkb with q | ⟨k0, kk, k1, kA, kf, kb, ke⟩
                       · exact tkn q z1
                       · omega
                     · first
                       | exact hre z2
                       | omega
                   first
                     | exact h hg _ T1 F1 K1
                     | exact h hg _ hT (FrT_refl _ _) (fun _ _ q => q))
        · skip
          refine wq_throwW (pc := 34) dX6_refuseWrongMove_34 dX6_refuseWrongMove_37 dX6_refuseWrongMove_38 dX6_refuseWrongMove_41 dX6_refuseWrongMove_44 rfl th_S ks_X6_289 (by decide) (by decide) (Nat.le_of_ble_eq_true rfl) hroom (fun ε' ht => ?_)
          first
            | (rcases tkb with z | ⟨k0, kk, k1, kA, kf, kb, ke⟩
               · exfalso; omega
               · first
                 | exact hx (Or.inl ⟨tAt_mem kA, Or.inl (ke.mp (by assumption))⟩) _ hT (FrT_refl _ _) (fun _ _ q => q) _ ht
                 | exact hx (Or.inl ⟨tAt_mem kA, by omega⟩) _ hT (FrT_refl _ _) (fun _ _ q => q) _ ht)
            | exact hx (Or.inr ⟨by omega, hre⟩) _ T1 F1 K1 _ ht
            | (have hg : ¬ badMv S nmv nto ntk := fun z => by
                 rcases z with ⟨z1, z2⟩ | ⟨z1, z2⟩
                 · rcases tkb with q | ⟨k0, kk, k1, kA, kf, kb, ke⟩
                   · exact tkn q z1
                   · omega
                 · first
                   | exact hre z2
                   | omega
               first
                 | exact h hg _ T1 F1 K1
                 | exact h hg _ hT (FrT_refl _ _) (fun _ _ q => q))
  · skip
    refine wq_throwW (pc := 5) dX6_refuseWrongMove_5 dX6_refuseWrongMove_8 dX6_refuseWrongMove_9 dX6_refuseWrongMove_12 dX6_refuseWrongMove_15 rfl th_S ks_X6_287 (by decide) (by decide) (Nat.le_of_ble_eq_true rfl) hroom (fun ε' ht => ?_)
    first
      | (rcases tkb with z | ⟨k0, kk, k1, kA, kf, kb, ke⟩
         · exfalso; omega
         · first
           | exact hx (Or.inl ⟨tAt_mem kA, Or.inl (ke.mp (by assumption))⟩) _ hT (FrT_refl _ _) (fun _ _ q => q) _ ht
           | exact hx (Or.inl ⟨tAt_mem kA, by omega⟩) _ hT (FrT_refl _ _) (fun _ _ q => q) _ ht)
      | exact hx (Or.inr ⟨by omega, hre⟩) _ T1 F1 K1 _ ht
      | (have hg : ¬ badMv S nmv nto ntk := fun z => by
           rcases z with ⟨z1, z2⟩ | ⟨z1, z2⟩
           · rcases tkb with q | ⟨k0, kk, k1, kA, kf, kb, ke⟩
             · exact tkn q z1
             · omega
           · first
             | exact hre z2
             | omega
         first
           | exact h hg _ T1 F1 K1
           | exact h hg _ hT (FrT_refl _ _) (fun _ _ q => q))
theorem sp_X6_refuseWithoutRoom {μ : nMem} {ε : nEnv} {Q : nOut → nMem → nEnv → Prop} {F : Fl} {g : Lg} {u w : Int} {t : Nat} (hC : CF F μ ε) (hL : CL g μ) (hg : g.1 = -1 ∨ (0 ≤ g.1 ∧ g.1 < 8)) (hbd : fBd F) (hcap : Cap μ ε (t + 1)) (r1 : 1 ≤ u ∧ u ≤ 20) (r2 : 0 ≤ w ∧ w ≤ 20) (h : trL (if w = 0 then [u] else [u, w]) (tr0 F g ((g.2.1.length : Int) - 1)) → ∀ μ9, TrM μ μ9 → Q (.inl none) μ9 ε) (hx : ¬ trL (if w = 0 then [u] else [u, w]) (tr0 F g ((g.2.1.length : Int) - 1)) → ∀ μ9, TrM μ μ9 → ∀ ε', thr ε ε' → Q (.inr xS) μ9 ε') : Sp mX6_refuseWithoutRoom [vR 1, vI u, vI w] μ ε Q := by
  refine Sp_of (L := [(0, vR 1), (1, vI u), (2, vI w)]) (by decide) rfl rfl (Nat.le_of_ble_eq_true rfl) ?_
  have hs := hC.1
  have hroom := Cap_room hcap
  have hfl := hL.2.1
  have hfl8 := hL.2.2.2.2.2.1
  have hbg : g.1 ≠ -1 → 0 ≤ fU F g.1 ∧ fU F g.1 ≤ 40 ∧ 0 ≤ fC F g.1 ∧ fC F g.1 ≤ 16 := fun q => hbd g.1 (by omega) (by omega)
  refine wq_aload_n (pc := 0) dX6_refuseWithoutRoom_0 rfl rfl ?_
  refine wq_getS (pc := 1) dX6_refuseWithoutRoom_1 hs (gf_X6_21 _ rfl) rfl rfl rfl rfl rfl ?_
  refine wq_aload_n (pc := 4) dX6_refuseWithoutRoom_4 rfl rfl ?_
  refine wq_getS (pc := 5) dX6_refuseWithoutRoom_5 hs (gf_X6_21 _ rfl) rfl rfl rfl rfl rfl ?_
  refine wq_getIK (pc := 8) (kk := 5) dX6_refuseWithoutRoom_8 hs (gf_X6_301 _ rfl) rfl rfl rfl rfl ?_
  refine wq_iconst (pc := 11) dX6_refuseWithoutRoom_11 ?_
  refine wq_isub (pc := 12) dX6_refuseWithoutRoom_12 ?_
  refine cVK_1 (pc := 13) dX6_refuseWithoutRoom_13 hs (cw_X6_304 _ rfl) (by decide) rfl ⟨by decide, by decide⟩ (Nat.le_of_ble_eq_true rfl) (sp_X3_beginTrial hC hL hg (fun m1 t1 a7 a8 a9 => ?_))
  refine kr_v ?_
  have s0r : 0 ≤ (tr0 F g ((g.2.1.length : Int) - 1)).1 ∧ (tr0 F g ((g.2.1.length : Int) - 1)).1 ≤ 40 := by unfold tr0; split <;> omega
  have s1r : 0 ≤ (tr0 F g ((g.2.1.length : Int) - 1)).2.1 ∧ (tr0 F g ((g.2.1.length : Int) - 1)).2.1 ≤ 16 := by show 0 ≤ (if g.1 = -1 then 0 else fC F g.1) ∧ (if g.1 = -1 then 0 else fC F g.1) ≤ 16; split <;> omega
  have s2r : (tr0 F g ((g.2.1.length : Int) - 1)).2.2 = ((g.2.1.length : Int) - 1) := rfl
  refine wq_aload_n (pc := 16) dX6_refuseWithoutRoom_16 rfl rfl ?_
  refine wq_getS (pc := 17) dX6_refuseWithoutRoom_17 hs (gf_X6_21 _ rfl) rfl rfl rfl rfl rfl ?_
  refine wq_iload_n (pc := 20) dX6_refuseWithoutRoom_20 rfl rfl ?_
  refine cVK_1 (pc := 21) dX6_refuseWithoutRoom_21 hs (cw_X6_307 _ rfl) (by decide) rfl ⟨by decide, by decide⟩ (Nat.le_of_ble_eq_true rfl) (sr_X3_takesInTrial (s := tr0 F g ((g.2.1.length : Int) - 1)) hs a7 a8 (by rw [a9, hfl]; rfl) (by omega) (by omega) (by omega) (by rw [s2r]; omega) (fun s2 hs2 m2 t2 b7 b8 b9 q1 q2 q3 => ?_) (fun hno => ?_))
  · skip
    refine kr_s ?_
    refine wq_if_eq (pc := 24) (tgt := 42) dX6_refuseWithoutRoom_24 (by decide) (by first | (unfold inR; omega) | assumption) (fun c => absurd c (by decide)) (fun _ => ?_)
    refine wq_iload_n (pc := 27) dX6_refuseWithoutRoom_27 rfl rfl ?_
    refine wq_if_eq (pc := 28) (tgt := 53) dX6_refuseWithoutRoom_28 (by decide) (by first | (unfold inR; omega) | assumption) (fun c5 => ?_) (fun c5 => ?_)
    · skip
      refine wq_vret (pc := 53) dX6_refuseWithoutRoom_53 rfl ?_
      first
        | exact hx (by split <;> exact trL_0 hno) _ t1 _ ht
        | exact h (by rw [if_pos (by omega), trL_1 hs2]; trivial) _ (TrM_trans t1 t2)
        | exact hx (by rw [if_neg (by omega), trL_1 hs2]; exact trL_0 hno2) _ (TrM_trans t1 t2) _ ht
        | exact h (by rw [if_neg (by omega), trL_1 hs2, trL_1 hs3]; trivial) _ (TrM_trans t1 (TrM_trans t2 t3))
    · skip
      refine wq_aload_n (pc := 31) dX6_refuseWithoutRoom_31 rfl rfl ?_
      refine wq_getS (pc := 32) dX6_refuseWithoutRoom_32 hs (gf_X6_21 _ rfl) rfl rfl rfl rfl rfl ?_
      refine wq_iload_n (pc := 35) dX6_refuseWithoutRoom_35 rfl rfl ?_
      refine cVK_1 (pc := 36) dX6_refuseWithoutRoom_36 hs (cw_X6_307 _ rfl) (by decide) rfl ⟨by decide, by decide⟩ (Nat.le_of_ble_eq_true rfl) (sr_X3_takesInTrial (s := s2) hs b7 b8 b9 (by omega) (by omega) (by omega) (by omega) (fun s3 hs3 m3 t3 c7 c8 c9 q4 q5 q6 => ?_) (fun hno2 => ?_))
      · skip
        refine kr_s ?_
        refine wq_if_ne (pc := 39) (tgt := 53) dX6_refuseWithoutRoom_39 (by decide) (by first | (unfold inR; omega) | assumption) (fun _ => ?_) (fun c => absurd c (by decide))
        refine wq_vret (pc := 53) dX6_refuseWithoutRoom_53 rfl ?_
        first
          | exact hx (by split <;> exact trL_0 hno) _ t1 _ ht
          | exact h (by rw [if_pos (by omega), trL_1 hs2]; trivial) _ (TrM_trans t1 t2)
          | exact hx (by rw [if_neg (by omega), trL_1 hs2]; exact trL_0 hno2) _ (TrM_trans t1 t2) _ ht
          | exact h (by rw [if_neg (by omega), trL_1 hs2, trL_1 hs3]; trivial) _ (TrM_trans t1 (TrM_trans t2 t3))
      · skip
        refine kr_s ?_
        refine wq_if_ne (pc := 39) (tgt := 53) dX6_refuseWithoutRoom_39 (by decide) (by first | (unfold inR; omega) | assumption) (fun c => absurd c (by decide)) (fun _ => ?_)
        refine wq_throwW (pc := 42) dX6_refuseWithoutRoom_42 dX6_refuseWithoutRoom_45 dX6_refuseWithoutRoom_46 dX6_refuseWithoutRoom_49 dX6_refuseWithoutRoom_52 rfl th_S ks_X6_310 (by decide) (by decide) (Nat.le_of_ble_eq_true rfl) hroom (fun ε' ht => ?_)
        first
          | exact hx (by split <;> exact trL_0 hno) _ t1 _ ht
          | exact h (by rw [if_pos (by omega), trL_1 hs2]; trivial) _ (TrM_trans t1 t2)
          | exact hx (by rw [if_neg (by omega), trL_1 hs2]; exact trL_0 hno2) _ (TrM_trans t1 t2) _ ht
          | exact h (by rw [if_neg (by omega), trL_1 hs2, trL_1 hs3]; trivial) _ (TrM_trans t1 (TrM_trans t2 t3))
  · skip
    refine kr_s ?_
    refine wq_if_eq (pc := 24) (tgt := 42) dX6_refuseWithoutRoom_24 (by decide) (by first | (unfold inR; omega) | assumption) (fun _ => ?_) (fun c => absurd c (by decide))
    refine wq_throwW (pc := 42) dX6_refuseWithoutRoom_42 dX6_refuseWithoutRoom_45 dX6_refuseWithoutRoom_46 dX6_refuseWithoutRoom_49 dX6_refuseWithoutRoom_52 rfl th_S ks_X6_310 (by decide) (by decide) (Nat.le_of_ble_eq_true rfl) hroom (fun ε' ht => ?_)
    first
      | exact hx (by split <;> exact trL_0 hno) _ t1 _ ht
      | exact h (by rw [if_pos (by omega), trL_1 hs2]; trivial) _ (TrM_trans t1 t2)
      | exact hx (by rw [if_neg (by omega), trL_1 hs2]; exact trL_0 hno2) _ (TrM_trans t1 t2) _ ht
      | exact h (by rw [if_neg (by omega), trL_1 hs2, trL_1 hs3]; trivial) _ (TrM_trans t1 (TrM_trans t2 t3))
