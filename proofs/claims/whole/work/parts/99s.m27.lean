/-! ### what a collection copies, by the reference -/
theorem EQ_2 {F F1 F2 : Fl} (h : EQ F F1) (k : EQ F F2) : EQ F1 F2 := by
  refine ⟨fun d hd nm hn => ?_, fun f hf => ?_⟩
  · have hd' := (EQ_D h d).mp hd
    have a := h.1 d hd' nm hn
    have b := k.1 d hd' nm hn
    exact ⟨b.1.trans a.1.symm, b.2.trans a.2.symm⟩
  · have hf' := (EQ_F h f).mp hf
    have a := h.2 f hf'
    have b := k.2 f hf'
    exact ⟨b.1.trans a.1.symm, fun p p0 p1 => (b.2 p p0 p1).trans (a.2 p p0 p1).symm⟩
theorem miss_EQ {A : AS} {fl : Int → Int} {nb vb : Int} {S : Tr} (hP : IP A fl nb vb) (hT : TSA A fl S) {Z : Int → Int} {i : Int} (i0 : 0 ≤ i) (i1 : i < 128) (hZ : Z i = 0) (hw : rW (aF A) i) (hE : EQ (aF A) (fHid (aF A) Z)) (hm : jMiss (aF A) S Z i) : ¬ EQ (fHid (aF A) Z) (fHid (aF A) (zSet Z i 1)) := fun hQ => by
  have hS := PA_NS hP.2.1
  have hU := hP.2.2.1
  have hsk := hS i i0 i1 hw
  have hs := sOK_k hsk
  obtain ⟨hh, hmm⟩ := hm
  rcases hw.1 with k | k
  · have k2 : ¬ fN (aF A) i 0 = 2 := by omega
    rw [if_neg k2] at hh hmm
    have hf : thFf (aF A) (fN (aF A) i 3) := (isFl_iff hP hT _).mpr hh
    obtain ⟨hc, p, p0, p1, hp1, hp2⟩ := hmm
    have hpn : p = ((p.toNat : Nat) : Int) := by omega
    rw [hpn] at hp1
    rw [bt_ask (by omega), shown_bit (hid_NS hS) hS i0 i1 hw k (by omega), ← hpn] at hp1
    obtain ⟨hr, hnl⟩ := hp1
    have q := (hQ.2 _ ((EQ_F hE _).mpr hf)).2 p p0 p1
    have hT1 : rT (aF A) i 1 (fN (aF A) i 3) := (rT_W (Or.inl rfl)).mpr ⟨hw, k, rfl⟩
    have hTz : rT (fHid (aF A) Z) i 1 (fN (aF A) i 3) := by
      unfold rT
      rw [fHid_z _ _ _ hZ, fHid_z _ _ _ hZ, fHid_z _ _ _ hZ, fHid_z _ _ _ hZ]; exact hT1
    have hrz : rS (fHid (aF A) Z) i p := by
      unfold rS
      rw [fHid_z _ _ _ hZ, fHid_z _ _ _ hZ, fHid_z _ _ _ hZ, fHid_z _ _ _ hZ]; exact hr
    have hqi : qC (fHid (aF A) Z) 1 (fN (aF A) i 3) p 2147483647 i := ⟨hTz, by rw [fHid_z _ _ _ hZ]; omega, hrz⟩
    have hver : ∀ j, 0 ≤ j → j < 128 → qC (fHid (aF A) Z) 1 (fN (aF A) i 3) p 2147483647 j → fN (fHid (aF A) Z) j 4 ≤ fN (aF A) i 4 := fun j j0 j1 hj => by
      by_cases c : fN (aF A) i 4 < fN (fHid (aF A) Z) j 4
      · exact absurd ⟨j, ⟨j0, j1⟩, hj.1, c, hj.2.2⟩ hnl
      · omega
    have eZ : BY (fHid (aF A) Z) (fN (aF A) i 3) p = fByteFor (aF A) i p := by
      unfold BY
      rw [hid_BY]
      unfold qByt
      rcases qNew_sp (fHid (aF A) Z) 1 (fN (aF A) i 3) p 2147483647 128 with ⟨-, z⟩ | ⟨z0, z1, z2⟩
      · exact absurd hqi (z i i0 (by omega))
      · rw [if_neg (by omega)]
        have gi := (z2 i i0 (by omega) hqi).1
        generalize qNew (fHid (aF A) Z) 1 (fN (aF A) i 3) p 2147483647 128 = x at z0 z1 gi
        have gx := hver x z0.1 (by omega) z1
        rw [fHid_z _ _ _ hZ] at gi
        obtain ⟨w', k', n3⟩ := (rT_W (Or.inl rfl)).mp z1.1
        obtain ⟨wx, zx⟩ := hid_rW.mp w'
        rw [fHid_z _ _ _ zx] at k' n3 gi gx
        have e := hU x i z0.1 (by omega) i0 i1 wx hw (by omega) n3 (by omega)
        unfold fByteFor
        rw [e 5 (by omega) (by omega), e 6 (by omega) (by omega), e 7 (by omega) (by omega)]
    have e1 : qNew (fHid (aF A) (zSet Z i 1)) 1 (fN (aF A) i 3) p 2147483647 128 = qNew (fHid (aF A) (zSet Z i 1)) 1 (fN (aF A) i 3) p (fN (aF A) i 4) 128 := qNew_cb (fun j j0 j1 => by
      constructor
      · intro hj
        have hj2 := (hid_qC (Or.inl rfl)).mp hj
        have hv := hver j j0 j1 hj2.1
        rw [← hid_ne hj2.2 4] at hv
        refine ⟨hj.1, ?_, hj.2.2⟩
        by_cases c : fN (fHid (aF A) (zSet Z i 1)) j 4 = fN (aF A) i 4
        · rcases qCpy_sp (fHid (aF A) (zSet Z i 1)) 1 (fN (aF A) i 3) (fN (aF A) i 4) 128 (Nat.le_refl _) with ⟨-, y⟩ | ⟨y, -⟩
          · exact absurd ⟨hj.1, c⟩ (y j (by omega) j1)
          · omega
        · omega
      · intro hj
        exact ⟨hj.1, by have := hj.2.1; omega, hj.2.2⟩)
    have e2 : qNew (fHid (aF A) (zSet Z i 1)) 1 (fN (aF A) i 3) p (fN (aF A) i 4) 128 = qNew (fHid (aF A) Z) 1 (fN (aF A) i 3) p (fN (aF A) i 4) 128 := hid_skip (Or.inl rfl) (fun z => by
      rcases qNew_sp (fHid (aF A) Z) 1 (fN (aF A) i 3) p (fN (aF A) i 4) 128 with ⟨y, -⟩ | ⟨y0, y1, -⟩
      · omega
      · rw [z] at y1
        have := y1.2.1
        rw [fHid_z _ _ _ hZ] at this
        omega)
    have eY : BY (fHid (aF A) (zSet Z i 1)) (fN (aF A) i 3) p = qByt (aF A) (qNew (fHid (aF A) Z) 1 (fN (aF A) i 3) p (fN (aF A) i 4) 128) p := by
      unfold BY
      rw [hid_BY, e1, e2]
    rw [eZ, eY] at q
    exact hp2 q
  · rw [if_pos k] at hh hmm
    have hd : thDf (aF A) (fN (aF A) i 3) := (isDr_iff hP hT _).mpr hh
    have hn : nmR (fN (aF A) i 5) := by
      rcases hsk with z | z
      · omega
      · exact z.2.2.2.2.1
    have q := (hQ.1 _ ((EQ_D hE _).mpr hd) _ hn).1
    rw [hid_TG, hid_TG] at q
    exact hmm q.symm
theorem over_iff {A : AS} {fl : Int → Int} {nb vb : Int} {S : Tr} (hP : IP A fl nb vb) (hT : TSA A fl S) {Z : Int → Int} {i : Int} (i0 : 0 ≤ i) (i1 : i < 128) (hZ : Z i = 0) (hw : rW (aF A) i) (hdd : jDead (aF A) (aF A) S i) (hE : EQ (aF A) (fHid (aF A) Z)) (hZd : ∀ j, 0 ≤ j → j < 128 → Z j ≠ 0 → jDead (aF A) (aF A) S j) : EQ (fHid (aF A) Z) (fHid (aF A) (zSet Z i 1)) ↔ ¬ jMiss (aF A) S Z i :=
  ⟨fun h z => miss_EQ hP hT i0 i1 hZ hw hE z h, fun h => EQ_2 hE (pass_EQ hP hT i0 i1 hZ hw hdd h hE hZd)⟩
theorem NU_hid {F : Fl} (hU : NU F) (Z : Int → Int) : NU (fHid F Z) := NU_cover hU (hid_cov Z)
theorem PrM_0 {F : Fl} {μ : nMem} (h : PrM F μ) : PrM (fHid F (fun _ => 0)) μ := by
  rw [fHid_0]; exact h
/-- one node more is hidden -/
theorem PrM_h {F : Fl} {Z : Int → Int} {μ : nMem} {i : Int} (h : PrM (fHid F Z) μ) : PrM (fHid F (zSet Z i 1)) (wr μ 41 i 0) := fun j j0 j1 => by
  obtain ⟨a, b⟩ := h j j0 j1
  have e : ∀ x, x ≠ 41 → wr μ 41 i 0 x j = μ x j := fun x hx => wr_n _ _ (by omega)
  by_cases c : j = i
  · have hz : zSet Z i 1 j ≠ 0 := by unfold zSet; rw [if_pos c]; decide
    refine ⟨⟨fun z => ?_, fun w => absurd (hid_rW.mp w).2 hz⟩, fun w => absurd (hid_rW.mp w).2 hz⟩
    rw [c, wr_s] at z
    exact absurd rfl z
  · have hz : zSet Z i 1 j = Z j := by unfold zSet; rw [if_neg c]
    have er : rW (fHid F (zSet Z i 1)) j ↔ rW (fHid F Z) j := by rw [hid_rW, hid_rW, hz]
    have ef : ∀ k, fN (fHid F (zSet Z i 1)) j k = fN (fHid F Z) j k := fun k => hid_ne c k
    rw [er, wr_n _ _ (by omega)]
    refine ⟨a, fun w => ?_⟩
    rw [e 22 (by decide), e 23 (by decide), e 24 (by decide), e 25 (by decide), e 26 (by decide), e 27 (by decide), e 28 (by decide), e 29 (by decide), e 30 (by decide), e 31 (by decide)]
    simp only [ef]
    exact b w
/-- and shown again -/
theorem PrM_s {F : Fl} {Z : Int → Int} {μ m : nMem} {i : Int} (h : PrM (fHid F Z) μ) (e : ∀ x j, 22 ≤ x → x ≤ 41 → ¬ (x = 41 ∧ j = i) → m x j = μ x j) (hi : μ 41 i ≠ 0) : PrM (fHid F Z) (wr m 41 i 1) := fun j j0 j1 => by
  obtain ⟨a, b⟩ := h j j0 j1
  have e2 : ∀ x, 22 ≤ x → x ≤ 41 → x ≠ 41 → wr m 41 i 1 x j = μ x j := fun x x0 x1 hx => by rw [wr_n _ _ (by omega)]; exact e x j x0 x1 (by omega)
  have e41 : wr m 41 i 1 41 j ≠ 0 ↔ μ 41 j ≠ 0 := by
    by_cases c : j = i
    · rw [c, wr_s]; exact ⟨fun _ => hi, fun _ => by decide⟩
    · rw [wr_n _ _ (by omega), e 41 j (by decide) (by decide) (by omega)]
  rw [e41]
  refine ⟨a, fun w => ?_⟩
  rw [e2 22 (by decide) (by decide) (by decide), e2 23 (by decide) (by decide) (by decide), e2 24 (by decide) (by decide) (by decide), e2 25 (by decide) (by decide) (by decide), e2 26 (by decide) (by decide) (by decide), e2 27 (by decide) (by decide) (by decide), e2 28 (by decide) (by decide) (by decide), e2 29 (by decide) (by decide) (by decide), e2 30 (by decide) (by decide) (by decide), e2 31 (by decide) (by decide) (by decide)]
  exact b w
theorem jNo_rW {F : Fl} (hA : PA F) {i : Int} (i0 : 0 ≤ i) (i1 : i < 128) (hin : i % 16 < fC F (i / 16)) : ¬ jNo F i ↔ rW F i := by
  have hn := (PA_in hA i0 i1 hin).1
  unfold jNo rW
  constructor
  · intro h
    have h1 : fN F i 0 ≠ 0 ∧ fN F i 2 = fN F i 1 := Classical.byContradiction (fun z => h (Or.inl z))
    have h2 : ¬ fN F i 0 = 3 := fun z => h (Or.inr z)
    refine ⟨?_, h1.2⟩
    rcases hn with q | q
    · have := sOK_k q; omega
    · have := q.1; omega
  · rintro ⟨a, b⟩ h
    rcases h with z | z
    · exact z ⟨by omega, b⟩
    · omega
theorem ck_len (F : Fl) (S : Tr) (b : Int) : ∀ n : Nat, (ck F S b n).2.length ≤ n
  | 0 => Nat.le_refl _
  | n + 1 => by
    have ih := ck_len F S b n
    rw [ck_s]
    by_cases c : jNo F (b * 16 + n)
    · rw [ckS_0 c]; omega
    · by_cases d : jDead F F S (b * 16 + n) ∧ ¬ jMiss F S (ck F S b n).1 (b * 16 + n)
      · rw [ckS_1 c d]; show (ck F S b n).2.length ≤ n + 1; omega
      · rw [ckS_2 c d]
        show ((ck F S b n).2 ++ [b * 16 + (n : Int)]).length ≤ n + 1
        rw [List.length_append]
        show (ck F S b n).2.length + 1 ≤ n + 1
        omega
