theorem md_del {A : AS} {X2 : nMem} {fl : Int → Int} {nb vb d d2 nm nm2 u k : Int} {Fm F1 : Fl} (hP : IP A fl nb vb) (hJ : JA Fm X2) (hX : LX X2) (hr : RK (TG Fm) (TD Fm)) (hd : thDf Fm d) (hd2 : thDf Fm d2) (hm : nmR nm) (hm2 : nmR nm2) (tn : tN (aF A) Fm d2 nm2 u k) (tn2 : tN Fm F1 d nm 0 0) (h0 : TG (aF A) d nm ≠ 0) (hu : TG (aF A) d nm = u) (hk : TD (aF A) d nm = k) (hne : ¬ (d = d2 ∧ nm = nm2)) : (0 ≤ lsP (pF (X2 22) d nm) (X2 21 0).toNat ∧ lsP (pF (X2 22) d nm) (X2 21 0).toNat < X2 21 0) ∧ ∀ X3, tkX X2 X3 (lsP (pF (X2 22) d nm) (X2 21 0).toNat) → JA F1 X3 := by
  obtain ⟨t1, t2, -, -⟩ := tn
  have e1 : TG Fm d nm = TG (aF A) d nm := by rw [t1, gup_n _ _ hne]
  have e2 : TD Fm d nm = TD (aF A) d nm := by rw [t2, gup_n _ _ hne]
  have e3 : TG Fm d2 nm2 = u := by rw [t1, gup_e]
  have e4 : TD Fm d2 nm2 = k := by rw [t2, gup_e]
  have hn0 := hX.1
  obtain ⟨i, i1, i2, i3⟩ := hJ.1.2.1 d nm hd hm (by rw [e1]; exact h0)
  have hl := lsP_b (pF (X2 22) d nm) (X2 21 0).toNat
  generalize lsP (pF (X2 22) d nm) (X2 21 0).toNat = a9 at hl ⊢
  obtain ⟨l1, l2, l3⟩ := hl.resolve_left (fun z => z.2 i i1.1 (by omega) ⟨i2, i3⟩)
  refine ⟨by omega, fun X3 tk => ?_⟩
  obtain ⟨fl0, hf⟩ := fl_of hP
  refine JA_del hJ hX (by omega) l2 l3 hr ⟨fl0, fun x y q => ?_⟩ (by rw [e1]; exact T1_of hP _ _) tn2 (fun q => Or.inr ⟨d2, nm2, hd2, hm2, fun z => hne ⟨z.1.symm, z.2.symm⟩, by rw [e3, e1, hu], by rw [e4, ← hk, ← e2]; exact q⟩) tk
  by_cases c : x = d2 ∧ y = nm2
  · rw [c.1, c.2, e3, e4, ← hu, ← hk]; exact hf d nm h0
  · rw [t1, gup_n _ _ c] at q
    rw [t1, t2, gup_n _ _ c, gup_n _ _ c]; exact hf x y q
/-- what a removal leaves of the rows, freely -/
theorem tk_ex (X : nMem) (o : Int) : ∃ X1 : nMem, tkX X X1 o := by
  let E : Int → Int := fun j => if 4 * o ≤ j ∧ j < 4 * (X 21 0 - 1) then X 22 (j + 4) else X 22 j
  by_cases c : 0 ≤ txS X o ∧ cR (pT E (X 22 (4 * o + 2))) (X 21 0 - 1).toNat = 0
  · refine ⟨fun x j => if x = 21 then (if j = 0 then X 21 0 - 1 else if j = 1 then X 21 1 - 1 else X 21 j) else if x = 22 then E j else if x = 23 then (if txS X o ≤ j ∧ j < X 21 1 - 1 then X 23 (j + 1) else X 23 j) else if x = 24 then (if txS X o ≤ j ∧ j < X 21 1 - 1 then X 24 (j + 1) else X 24 j) else if x = 25 then (if 8 * txS X o ≤ j ∧ j < 8 * (X 21 1 - 1) then X 25 (j + 8) else X 25 j) else X x j, rfl, fun j => rfl, fun _ => ⟨rfl, fun j => ⟨rfl, rfl⟩, fun j => rfl⟩, fun h => absurd c h⟩
  · refine ⟨fun x j => if x = 21 then (if j = 0 then X 21 0 - 1 else X 21 j) else if x = 22 then E j else X x j, rfl, fun j => rfl, fun h => absurd h c, fun _ => ⟨rfl, fun j => ⟨rfl, rfl, rfl⟩⟩⟩
theorem add_keep {A : AS} {X : nMem} {fl : Int → Int} {nb vb d d2 nm nm2 a o : Int} {Fm : Fl} (hG : GA A X) (hP : IP A fl nb vb) (hd : isDr A d) (hd2 : isDr A d2) (hm : nmR nm) (hm2 : nmR nm2)
    (ho : o = lsP (pF (X 22) d2 nm2) (X 21 0).toNat) (hae : a = lsP (pF (X 22) d nm) (X 21 0).toNat) (ha : 0 ≤ a) (hc : o < 0 ∨ (X 22 (4 * a + 2) ≠ X 22 (4 * o + 2) ∧ X 22 (4 * a + 3) + X 22 (4 * o + 3) = 0))
    (tn : tN (aF A) Fm d2 nm2 (X 22 (4 * a + 2)) (X 22 (4 * a + 3))) : thDf Fm d2 := by
  by_cases q : o < 0
  · exact (md_add hG hP hd hd2 hm hm2 ho hae ha hc tn (Or.inl ⟨q, rfl⟩) (lwA_X _ _ _ _ _)).2.2
  · obtain ⟨X1, h1⟩ := tk_ex X o
    exact (md_add hG hP hd hd2 hm hm2 ho hae ha hc tn (Or.inr ⟨by omega, h1⟩) (lwA_X _ _ _ _ _)).2.2
section
variable {N : Int} {A : AS} {nb vb : Int} {t : Nat} {X μ : nMem} {ε : nEnv} {Qw : Int → nMem → nEnv → Prop} {d d2 nm nm2 f s b a fr o : Int}
theorem qc_rename (hS : ST N A nb vb (t + 1) X μ ε 0) (hnb : nb + 1 ≤ 490) (hvb : vb + 2 ≤ 4000) (hF : LF A X d d2 nm nm2 f s b a fr) (ho : o = lsP (pF (X 22) d2 nm2) (X 21 0).toNat)
    (h1 : ∀ r m e, ST N A (nb + 1) (vb + 2) t X m e 0 → ¬ (b = 1 ∧ 0 ≤ a ∧ (o < 0 ∨ (X 22 (4 * a + 2) ≠ X 22 (4 * o + 2) ∧ X 22 (4 * a + 3) + X 22 (4 * o + 3) = 0)) ∧ (X 22 (4 * a + 3) = 0 ∨ ¬ rB (X 22) (X 21 0) (X 22 (4 * a + 2)) d2)) → ((b = 0 ∧ r = -11) ∨ (b = 1 ∧ nm = 0 ∧ r = -12) ∨ (b = 1 ∧ nm ≠ 0 ∧ r = -13)) → Qw r m e)
    (h2 : ∀ m e, ST N A (nb + 1) (vb + 2) t X m e 0 → (b = 1 ∧ 0 ≤ a ∧ (o < 0 ∨ (X 22 (4 * a + 2) ≠ X 22 (4 * o + 2) ∧ X 22 (4 * a + 3) + X 22 (4 * o + 3) = 0)) ∧ (X 22 (4 * a + 3) = 0 ∨ ¬ rB (X 22) (X 21 0) (X 22 (4 * a + 2)) d2)) → fr < 2 → Qw (-13) m e)
    (h3 : ∀ A1 Fm m e, Wd N A1 (nb + 1) (vb + 2) t X m e → (b = 1 ∧ 0 ≤ a ∧ (o < 0 ∨ (X 22 (4 * a + 2) ≠ X 22 (4 * o + 2) ∧ X 22 (4 * a + 3) + X 22 (4 * o + 3) = 0)) ∧ (X 22 (4 * a + 3) = 0 ∨ ¬ rB (X 22) (X 21 0) (X 22 (4 * a + 2)) d2)) → (drk Fm (aF A1) ∧ VI (aF A1) ∧ BI (aF A1) ∧ thDf Fm d2 ∧ 0 ≤ TG Fm d2 nm2 ∧ TG Fm d2 nm2 < 2000) → ((JA Fm X ∧ TG Fm d2 nm2 ≠ X 22 (4 * a + 2)) ∨ (TG Fm d2 nm2 = X 22 (4 * a + 2) ∧ ∀ X1 X2, ((o < 0 ∧ X1 = X) ∨ (0 ≤ o ∧ tkX X X1 o)) → adX X1 X2 d2 nm2 (X 22 (4 * a + 2)) (X 22 (4 * a + 3)) → JA Fm X2)) → Qw (-9) m e)
    (h4 : ∀ A1 r m e, Wd N A1 (nb + 1) (vb + 2) t X m e → (b = 1 ∧ 0 ≤ a ∧ (o < 0 ∨ (X 22 (4 * a + 2) ≠ X 22 (4 * o + 2) ∧ X 22 (4 * a + 3) + X 22 (4 * o + 3) = 0)) ∧ (X 22 (4 * a + 3) = 0 ∨ ¬ rB (X 22) (X 21 0) (X 22 (4 * a + 2)) d2)) → (r = X 22 (4 * a + 2) ∧ 2 ≤ r) → (∀ X1 X2, ((o < 0 ∧ X1 = X) ∨ (0 ≤ o ∧ tkX X X1 o)) → adX X1 X2 d2 nm2 (X 22 (4 * a + 2)) (X 22 (4 * a + 3)) → LX X2 → (0 ≤ lsP (pF (X2 22) d nm) (X2 21 0).toNat ∧ lsP (pF (X2 22) d nm) (X2 21 0).toNat < X2 21 0) ∧ ∀ X3, tkX X2 X3 (lsP (pF (X2 22) d nm) (X2 21 0).toNat) → JA (aF A1) X3) → (fD (aF A1) = 0 ∧ VZ (aF A1)) → Qw r m e) : SpH mL_renames [(0, 9, 10, 55), (0, 9, 15, 57), (0, 9, 20, 59)] [vR 1, vI d, vI nm, vI d2, vI nm2] μ ε (oD Qw) := by
  obtain ⟨⟨hW, hG, hX, hi⟩, ⟨hD, hJ, hV, hZ⟩, fl, S, hP, hTS⟩ := ST_0 hS
  obtain ⟨f1, f2, f3, f4, f5, f6, f7, f8, f9⟩ := hF
  have hn0 := hX.1.1
  have hx := hP.2.2.2.2.2.2.2.1
  refine sd_rename hW (by omega) hvb (by unfold inR; omega) (by unfold inR; omega) (by unfold inR; omega) (by unfold inR; omega) (fun m e W => ?_)
  by_cases c1 : isDr A d
  · have b1 : b = 1 := by
      rcases f2 with q | q
      · exact q.1
      · exact absurd c1 q.2
    by_cases c2 : nm = 0
    · have a9 : a < 0 := by
        have hg := GA_find hG d nm
        rw [← f8] at hg
        rcases hg with q | q
        · omega
        · obtain ⟨⟨e1, e2, e3, e4⟩, e5, -⟩ := GA_e hG q.1.1 q.1.2
          omega
      have e9 : actRename A d nm d2 nm2 = (.inr xA, A) := by unfold actRename; rw [pI_0 (nDk hP), pI_0 (fun z => z c1), pI_0 (fun z => z f3.1), pI_1 (by omega)]
      rw [e9] at W ⊢
      rw [show ansI (Prod.fst (Sum.inr xA, A)) = -12 from an_A]
      exact h1 _ m e (ST_i W hJ hX hD ⟨hV, hZ⟩ hi) (fun q => by have := q.2.1; omega) (by omega)
    · have hm : nmR nm := by omega
      have hm2 : nmR nm2 := by omega
      have hfa := fa_i hG c1 hm
      rw [← f8] at hfa
      have hfo := fa_i hG f3.1 hm2
      rw [← ho] at hfo
      by_cases c3 : TG (aF A) d nm = 0
      · have a9 : a < 0 := by omega
        have e9 : actRename A d nm d2 nm2 = (.inr xS, A) := by unfold actRename; rw [pI_0 (nDk hP), pI_0 (fun z => z c1), pI_0 (fun z => z f3.1), pI_0 (fun z => z hm), pI_0 (fun z => z hm2), pI_1 c3]
        rw [e9] at W ⊢
        rw [show ansI (Prod.fst (Sum.inr xS, A)) = -13 from an_S]
        exact h1 _ m e (ST_i W hJ hX hD ⟨hV, hZ⟩ hi) (fun q => by have := q.2.1; omega) (by omega)
      · obtain ⟨-, ⟨a0, a1⟩, ⟨g1, g2⟩, g3, g4⟩ := hfa.resolve_left (fun z => c3 z.1)
        obtain ⟨⟨e1, e2, e3, e4⟩, e5, e6, e7⟩ := GA_e hG a0 a1
        have hrB : X 22 (4 * a + 3) = 1 → (rB (X 22) (X 21 0) (X 22 (4 * a + 2)) d2 ↔ thB (TG (aF A)) (TD (aF A)) (TG (aF A) d nm) d2) := fun z => by
          rw [g3]; exact rB_thB hG (e7.resolve_right (fun y => by have := y.1; omega)).2
        have hko : 0 ≤ o → X 22 (4 * o + 3) = 0 ∨ X 22 (4 * o + 3) = 1 := fun z => by
          obtain ⟨-, -, -, w⟩ := GA_e hG z (hfo.resolve_left (fun y => by have := y.2; omega)).2.1.2
          rcases w with w | w
          · exact Or.inr w.1
          · exact Or.inl w.1
        have hka : X 22 (4 * a + 3) = 0 ∨ X 22 (4 * a + 3) = 1 := by
          rcases e7 with w | w
          · exact Or.inr w.1
          · exact Or.inl w.1
        have hbad : badR A d nm d2 nm2 ↔ ¬ (b = 1 ∧ 0 ≤ a ∧ (o < 0 ∨ (X 22 (4 * a + 2) ≠ X 22 (4 * o + 2) ∧ X 22 (4 * a + 3) + X 22 (4 * o + 3) = 0)) ∧ (X 22 (4 * a + 3) = 0 ∨ ¬ rB (X 22) (X 21 0) (X 22 (4 * a + 2)) d2)) := by
          unfold badR
          rw [g3, g4]
          constructor
          · rintro (⟨z1, z2⟩ | ⟨z1, z2⟩) ⟨q1, q2, q3, q4⟩
            · obtain ⟨-, ⟨o0, o1⟩, -, o4, o5⟩ := hfo.resolve_left (fun y => z1 y.1)
              rw [o4, o5] at z2
              have := hko o0
              omega
            · rcases q4 with w | w
              · omega
              · have hr := hrB z1
                rw [g3] at hr
                exact w (hr.mpr z2)
          · intro q
            refine Classical.byContradiction (fun z => q ⟨b1, a0, ?_, ?_⟩)
            · rcases hfo with w | w
              · left; omega
              · right
                obtain ⟨w1, ⟨o0, o1⟩, -, o4, o5⟩ := w
                have := hko o0
                have z9 := fun y => z (Or.inl ⟨w1, y⟩)
                rw [o4, o5] at z9
                refine ⟨fun y => z9 (Or.inl y.symm), ?_⟩
                have y1 : X 22 (4 * o + 3) ≠ 1 := fun y => z9 (Or.inr (Or.inl y))
                have y2 : X 22 (4 * a + 3) ≠ 1 := fun y => z9 (Or.inr (Or.inr y))
                omega
            · rcases hka with w | w
              · exact Or.inl w
              · refine Or.inr (fun y => z (Or.inr ⟨w, ?_⟩))
                have hr := hrB w
                rw [g3] at hr
                exact hr.mp y
        by_cases c5 : badR A d nm d2 nm2
        · have e9 : actRename A d nm d2 nm2 = (.inr xS, A) := by unfold actRename; rw [pI_0 (nDk hP), pI_0 (fun z => z c1), pI_0 (fun z => z f3.1), pI_0 (fun z => z hm), pI_0 (fun z => z hm2), pI_0 c3, pI_1 c5]
          rw [e9] at W ⊢
          rw [show ansI (Prod.fst (Sum.inr xS, A)) = -13 from an_S]
          exact h1 _ m e (ST_i W hJ hX hD ⟨hV, hZ⟩ hi) (hbad.mp c5) (by omega)
        · have hC : (b = 1 ∧ 0 ≤ a ∧ (o < 0 ∨ (X 22 (4 * a + 2) ≠ X 22 (4 * o + 2) ∧ X 22 (4 * a + 3) + X 22 (4 * o + 3) = 0)) ∧ (X 22 (4 * a + 3) = 0 ∨ ¬ rB (X 22) (X 21 0) (X 22 (4 * a + 2)) d2)) := Classical.byContradiction (fun z => c5 (hbad.mpr z))
          have hne : ¬ (d = d2 ∧ nm = nm2) := fun z => by
            obtain ⟨z1, z2⟩ := z
            subst z1; subst z2
            rw [← f8] at ho
            have := hC.2.2.1
            omega
          have mid : ∀ Fm, tN (aF A) Fm d2 nm2 (TG (aF A) d nm) (TD (aF A) d nm) → ∀ X1 X2, ((o < 0 ∧ X1 = X) ∨ (0 ≤ o ∧ tkX X X1 o)) → adX X1 X2 d2 nm2 (X 22 (4 * a + 2)) (X 22 (4 * a + 3)) → JA Fm X2 ∧ thDf Fm d ∧ thDf Fm d2 := fun Fm tn X1 X2 hk ad => by
            rw [g3, g4] at tn
            exact md_add hG hP c1 f3.1 hm hm2 ho f8 a0 hC.2.2.1 tn hk ad
          have P := pa_rename hP hTS hV c1 f3.1 hm hm2 c3 c5 (by omega) hvb
          rcases P with ⟨p1, p2, p3⟩ | ⟨p1, p2, p3⟩ | ⟨p1, p2, p3, Fm, p4, p5, p6⟩
          · rw [p2] at W
            rw [p1, an_S]
            have := few_fr p3
            exact h2 m e (ST_i W hJ hX hD ⟨hV, hZ⟩ hi) hC (by omega)
          · rw [p1]
            show Qw (-9) m e
            rcases p3 with p3 | ⟨Fm, p4, p5, p6⟩
            · refine h3 _ (aF A) m e W hC ⟨p3, p2.1, ZI_BI p2.2, f3.1, ?_⟩ (Or.inl ⟨hJ, ?_⟩)
              · have := hG.2.2.1 d2 nm2
                omega
              · rcases hfo with z | ⟨z1, ⟨o0, o1⟩, -, o4, o5⟩
                · omega
                · have := hC.2.2.1
                  omega
            · have e5' : TG Fm d2 nm2 = X 22 (4 * a + 2) := by rw [p5.1, gup_e, g3]
              have md2 : thDf Fm d2 := by
                have key := add_keep hG hP c1 f3.1 hm hm2 ho f8 a0 hC.2.2.1 (Fm := Fm) (by rw [← g3, ← g4]; exact p5)
                exact key
              refine h3 _ Fm m e W hC ⟨p6, p2.1, ZI_BI p2.2, md2, by omega⟩ (Or.inr ⟨e5', fun X1 X2 hk ad => (mid Fm p5 X1 X2 hk ad).1⟩)
          · rw [p1]
            show Qw (TG (aF A) d nm) m e
            refine h4 _ _ m e W hC (by omega) (fun X1 X2 hk ad hL => ?_) ⟨p2, p3⟩
            obtain ⟨m1, m2, m3⟩ := mid Fm p5 X1 X2 hk ad
            exact md_del hP m1 hL p4 m2 m3 hm hm2 p5 p6 c3 rfl rfl hne
  · have b1 : b = 0 := by
      rcases f2 with q | q
      · exact absurd q.2 c1
      · exact q.1
    have e9 : actRename A d nm d2 nm2 = (.inr xI, A) := by unfold actRename; rw [pI_0 (nDk hP), pI_1 c1]
    rw [e9] at W ⊢
    rw [show ansI (Prod.fst (Sum.inr xI, A)) = -11 from an_I]
    exact h1 _ m e (ST_i W hJ hX hD ⟨hV, hZ⟩ hi) (fun q => by have := q.1; omega) (by omega)
end
