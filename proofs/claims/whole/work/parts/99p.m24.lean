/-! ### live nodes, as the reference tells them -/
def owB (F : Fl) (i : Int) : Prop := ∃ k, (0 ≤ k ∧ k < LN F (fN F i 3)) ∧ OW F (fN F i 3) k = fN F i 4
def cpB (F : Fl) (i j : Int) : Prop := rW F j ∧ fN F j 0 = fN F i 0 ∧ fN F j 3 = fN F i 3 ∧ fN F j 4 = fN F i 4
def rvB (F : Fl) (i j : Int) : Prop := rW F j ∧ fN F j 0 = 2 ∧ fN F j 3 = fN F i 3 ∧ fN F j 5 = fN F i 5 ∧ fN F i 4 < fN F j 4
def rLN (F : Fl) (i : Int) : Prop := thDf F (fN F i 3) ∧ TG F (fN F i 3) (fN F i 5) ≠ 0 ∧ 0 < fN F i 10 ∧ ∀ j, 0 ≤ j → j < 128 → ¬ rvB F i j
def rLD (F : Fl) (i : Int) : Prop := thFf F (fN F i 3) ∧ (qNxt F (fN F i 3) (fN F i 4) 128 = -1 ∨ owB F i)
def rLive (F : Fl) (i : Int) : Prop := (∀ j, 0 ≤ j → j < i → ¬ cpB F i j) ∧ (fN F i 0 = 2 → rLN F i) ∧ (fN F i 0 = 1 → rLD F i)
theorem thF_nD {F : Fl} {fl : Int → Int} {n : Int} (hS : NS F) (hf : flOK F fl) (h : thFf F n) : ¬ thDf F n := fun hd => by
  obtain ⟨r, hr, hc, h11, h10⟩ := (thF_row hS n).mp h
  have w := asgR_rW hc.1
  have e := hf r hr.1 hr.2 w.1 w.2 hc.1.2.1
  have b := asgR_b hS hr.1 hr.2 hc.1
  rcases thD_c hd with z | ⟨d, nm, hd', hm, ht, h0, hD⟩
  · omega
  · obtain ⟨s, hs, hcs, s3, s5, s10, s11⟩ := ct_of (F := F) hd' (nm := nm) (by rw [ht]; exact h0)
    have ws := asgR_rW hcs.1
    have es := hf s hs.1 hs.2 ws.1 ws.2 hcs.1.2.1
    rw [s10, ht] at es
    rw [h10] at e
    omega
theorem hold_1 {F : Fl} {n : Int} (hS : NS F) : jHolds (tS F) n 1 ↔ thDf F n := by
  rw [tS_holds]
  constructor
  · rintro ⟨-, z⟩
    by_cases c : thD (TG F) (TD F) n
    · exact c
    · rw [pI_0 c] at z; omega
  · intro h
    have b := thD_b hS h
    exact ⟨⟨by omega, Or.inl h⟩, pI_1 h⟩
theorem hold_0 {F : Fl} {fl : Int → Int} {n : Int} (hS : NS F) (hf : flOK F fl) : jHolds (tS F) n 0 ↔ thFf F n := by
  rw [tS_holds]
  constructor
  · rintro ⟨⟨-, z⟩, z2⟩
    rcases z with z | z
    · rw [pI_1 z] at z2; omega
    · exact z
  · intro h
    obtain ⟨r, hr, hc, h11, h10⟩ := (thF_row hS n).mp h
    have b := asgR_b hS hr.1 hr.2 hc.1
    exact ⟨⟨by omega, Or.inr h⟩, pI_0 (thF_nD hS hf h)⟩
theorem cp_eq {F : Fl} {i j : Int} (hU : NU F) (i0 : 0 ≤ i) (i1 : i < 128) (j0 : 0 ≤ j) (j1 : j < 128) (hw : rW F i) (h : cpB F i j) : ∀ k, 0 ≤ k → k ≤ 11 → fN F j k = fN F i k := hU j i j0 j1 i0 i1 h.1 hw h.2.1 h.2.2.1 h.2.2.2
theorem rLN_iff {F : Fl} {i : Int} (hS : NS F) (hU : NU F) (i0 : 0 ≤ i) (i1 : i < 128) (hw : rW F i) (hk : fN F i 0 = 2) : ((∀ j, 0 ≤ j → j < i → ¬ cpB F i j) ∧ rLN F i) ↔ thDf F (fN F i 3) ∧ fN F i 10 ≠ 0 ∧ qNew F 2 (fN F i 3) (fN F i 5) 2147483647 128 = i := by
  have hs := sOK_k (hS i i0 i1 hw)
  have hT : rT F i 2 (fN F i 3) := (rT_W (Or.inr rfl)).mpr ⟨hw, hk, rfl⟩
  constructor
  · rintro ⟨hc, hd, ht, h10, hr⟩
    refine ⟨hd, by omega, qNew_is i0 i1 ⟨hT, by omega, Or.inl ⟨hk, rfl⟩⟩ (fun j j0 j1 hq => ?_)⟩
    obtain ⟨q1, q2, q3⟩ := hq
    obtain ⟨w', k2', n3⟩ := (rT_W (Or.inr rfl)).mp q1
    have n5 : fN F j 5 = fN F i 5 := by rcases q3 with q | q; exact q.2; omega
    have a : ¬ fN F i 4 < fN F j 4 := fun z => hr j j0 j1 ⟨w', k2', n3, n5, z⟩
    have b : j < i → fN F j 4 ≠ fN F i 4 := fun z e => hc j j0 z ⟨w', by omega, n3, e⟩
    exact ⟨by omega, fun z => by have := b z; omega⟩
  · rintro ⟨hd, h10, hq⟩
    have hA : asgR F i := ⟨hT, h10, hq⟩
    have sp := qNew_sp F 2 (fN F i 3) (fN F i 5) 2147483647 128
    rcases sp with ⟨z, -⟩ | ⟨z0, z1, z2⟩
    · omega
    · rw [hq] at z2
      refine ⟨fun j j0 j1 hc => ?_, hd, by rw [asgR_TG i0 hA]; exact h10, by omega, fun j j0 j1 hr => ?_⟩
      · have e := cp_eq hU i0 i1 j0 (by omega) hw hc
        have e5 := e 5 (by omega) (by omega)
        have hc3 := hc.2.2.1
        have hc4 := hc.2.2.2
        have hc0 := hc.2.1
        have := (z2 j j0 (by omega) ⟨(rT_W (Or.inr rfl)).mpr ⟨hc.1, by omega, hc3⟩, by omega, Or.inl ⟨by omega, e5⟩⟩).2 j1
        omega
      · obtain ⟨r1, r2, r3, r4, r5⟩ := hr
        have hsj := sOK_k (hS j j0 j1 r1)
        have := (z2 j j0 (by omega) ⟨(rT_W (Or.inr rfl)).mpr ⟨r1, r2, r3⟩, by omega, Or.inl ⟨r2, r4⟩⟩).1
        omega
theorem qCpy_i {F : Fl} {i : Int} (i0 : 0 ≤ i) (i1 : i < 128) (hw : rW F i) (hk : fN F i 0 = 1) : (∀ j, 0 ≤ j → j < i → ¬ cpB F i j) ↔ qCpy F 1 (fN F i 3) (fN F i 4) 128 = i := by
  have hT : rT F i 1 (fN F i 3) := (rT_W (Or.inl rfl)).mpr ⟨hw, hk, rfl⟩
  rcases qCpy_sp F 1 (fN F i 3) (fN F i 4) 128 (Nat.le_refl _) with ⟨-, z⟩ | ⟨z0, z1, z2⟩
  · exact absurd ⟨hT, rfl⟩ (z i (by omega) i1)
  · generalize qCpy F 1 (fN F i 3) (fN F i 4) 128 = q at z0 z1 z2
    obtain ⟨w', k', n3⟩ := (rT_W (Or.inl rfl)).mp z1.1
    constructor
    · intro h
      by_cases c : q < i
      · exact absurd ⟨w', by omega, n3, z1.2⟩ (h q (by omega) c)
      · by_cases d : i < q
        · exact absurd ⟨hT, rfl⟩ (z2 i (by omega) d)
        · omega
    · intro e j j0 j1 hc
      obtain ⟨c1, c2, c3, c4⟩ := hc
      exact z2 j (by omega) (by omega) ⟨(rT_W (Or.inl rfl)).mpr ⟨c1, by omega, c3⟩, c4⟩
theorem rLD_iff {F : Fl} {i : Int} (hS : NS F) (hU : NU F) (i0 : 0 ≤ i) (i1 : i < 128) (hw : rW F i) (hk : fN F i 0 = 1) (hc : ∀ j, 0 ≤ j → j < i → ¬ cpB F i j) : (qNxt F (fN F i 3) (fN F i 4) 128 = -1 ∨ owB F i) ↔ (qNew F 1 (fN F i 3) 64 2147483647 128 = i ∨ jAnd (fN F i 8) (jXor (qSet F (fN F i 3) (fN F i 4) 128) (-1)) ≠ 0) := by
  have hs := sOK_k (hS i i0 i1 hw)
  have hsk := hS i i0 i1 hw
  have hsz : fN F i 5 + fN F i 6 ≤ fN F i 9 := by
    rcases hsk with q | q
    · omega
    · omega
  have hT : rT F i 1 (fN F i 3) := (rT_W (Or.inl rfl)).mpr ⟨hw, hk, rfl⟩
  have copy : ∀ j, 0 ≤ j → j < 128 → rT F j 1 (fN F i 3) → fN F j 4 = fN F i 4 → ∀ k, 0 ≤ k → k ≤ 11 → fN F j k = fN F i k := fun j j0 j1 hj e => by
    obtain ⟨w', k', n3⟩ := (rT_W (Or.inl rfl)).mp hj
    exact hU j i j0 j1 i0 i1 w' hw (by omega) n3 e
  have r64 : ∀ j, 0 ≤ j → j < 128 → rT F j 1 (fN F i 3) → qC F 1 (fN F i 3) 64 2147483647 j := fun j j0 j1 hj => by
    obtain ⟨w', k', n3⟩ := (rT_W (Or.inl rfl)).mp hj
    have hj2 := sOK_k (hS j j0 j1 w')
    exact ⟨hj, by omega, Or.inr ⟨by omega, Or.inl (by omega)⟩⟩
  have A1 : qNxt F (fN F i 3) (fN F i 4) 128 = -1 ↔ qNew F 1 (fN F i 3) 64 2147483647 128 = i := by
    constructor
    · intro h
      refine qNew_is i0 i1 (r64 i i0 i1 hT) (fun j j0 j1 hq => ?_)
      have nl : ¬ fN F i 4 < fN F j 4 := fun z => by
        rcases qNxt_sp F (fN F i 3) (fN F i 4) 128 with ⟨-, y⟩ | ⟨y, -⟩
        · exact y j j0 (by omega) ⟨hq.1, z⟩
        · omega
      obtain ⟨w', k', n3⟩ := (rT_W (Or.inl rfl)).mp hq.1
      have b : j < i → fN F j 4 ≠ fN F i 4 := fun z e => hc j j0 z ⟨w', by omega, n3, e⟩
      exact ⟨by omega, fun z => by have := b z; omega⟩
    · intro h
      rcases qNxt_sp F (fN F i 3) (fN F i 4) 128 with ⟨y, -⟩ | ⟨y, ⟨y2, y3⟩, -⟩
      · exact y
      · rcases qNew_sp F 1 (fN F i 3) 64 2147483647 128 with ⟨z, -⟩ | ⟨-, -, z⟩
        · omega
        · have := (z _ y.1 y.2 (r64 _ y.1 (by omega) y2)).1
          rw [h] at this
          omega
  have A2 : jAnd (fN F i 8) (jXor (qSet F (fN F i 3) (fN F i 4) 128) (-1)) ≠ 0 ↔ ∃ p : Nat, p < 64 ∧ (fN F i 5 ≤ p ∧ (p : Int) < fN F i 5 + fN F i 6) ∧ ¬ ∃ j : Int, (0 ≤ j ∧ j < ((128 : Nat) : Int)) ∧ rT F j 1 (fN F i 3) ∧ fN F i 4 < fN F j 4 ∧ rS F j p := by
    rw [j_nz (jAnd_r _ _)]
    refine exists_congr (fun p => and_congr_right (fun hp => ?_))
    rw [bt_and, bt_not hp, Bool.and_eq_true, laid_bit hsk hk hp, ← qSet_bit hS hp 128 (Nat.le_refl _)]
    constructor
    · rintro ⟨a, b⟩; exact ⟨a, fun z => by rw [z] at b; exact absurd b (by decide)⟩
    · rintro ⟨a, b⟩
      refine ⟨a, ?_⟩
      cases hb : bt (qSet F (fN F i 3) (fN F i 4) 128) p
      · rfl
      · exact absurd hb b
  rw [A1, A2]
  constructor
  · rintro (h | ⟨k, ⟨k0, k1⟩, ho⟩)
    · exact Or.inl h
    · right
      have lb := LN_b hS (fN F i 3)
      unfold OW qOw at ho
      rcases qNew_sp F 1 (fN F i 3) k 2147483647 128 with ⟨z, -⟩ | ⟨z0, z1, z2⟩
      · rw [if_pos z] at ho; omega
      · generalize qNew F 1 (fN F i 3) k 2147483647 128 = q at ho z0 z1 z2
        rw [if_neg (by omega)] at ho
        by_cases c : fN F q 5 ≤ k ∧ k - fN F q 5 < fN F q 6
        · rw [if_pos c] at ho
          have e := copy q z0.1 (by omega) z1.1 ho
          rw [e 5 (by omega) (by omega), e 6 (by omega) (by omega)] at c
          refine ⟨k.toNat, by omega, by omega, ?_⟩
          rintro ⟨j, j01, jT, jv, jS⟩
          rw [show ((k.toNat : Nat) : Int) = k by omega] at jS
          have hj2 := sOK_k (hS j j01.1 (by omega) ((rT_W (Or.inl rfl)).mp jT).1)
          have := (z2 j j01.1 (by omega) ⟨jT, by omega, jS⟩).1
          omega
        · rw [if_neg c] at ho; omega
  · rintro (h | ⟨p, hp, hr, hn⟩)
    · exact Or.inl h
    · right
      have hqi : qC F 1 (fN F i 3) p 2147483647 i := ⟨hT, by omega, Or.inr ⟨by omega, Or.inr ⟨hr.1, by omega⟩⟩⟩
      have hver : ∀ q, 0 ≤ q → q < 128 → qC F 1 (fN F i 3) p 2147483647 q → fN F q 4 ≤ fN F i 4 := fun q q0 q1 hq => by
        by_cases c : fN F i 4 < fN F q 4
        · exact absurd ⟨q, ⟨q0, by omega⟩, hq.1, c, hq.2.2⟩ hn
        · omega
      refine ⟨p, ⟨by omega, ?_⟩, ?_⟩
      · unfold LN
        rcases qNew_sp F 1 (fN F i 3) 64 2147483647 128 with ⟨-, z⟩ | ⟨z0, z1, z2⟩
        · exact absurd (r64 i i0 i1 hT) (z i i0 (by omega))
        · rw [if_neg (by omega)]
          have gi := (z2 i i0 (by omega) (r64 i i0 i1 hT)).1
          generalize qNew F 1 (fN F i 3) 64 2147483647 128 = q at z0 z1 gi
          by_cases c : fN F q 4 = fN F i 4
          · rw [copy q z0.1 (by omega) z1.1 c 9 (by omega) (by omega)]; omega
          · by_cases d : fN F q 9 ≤ p
            · obtain ⟨w', k', n3⟩ := (rT_W (Or.inl rfl)).mp z1.1
              have hq2 := sOK_k (hS q z0.1 (by omega) w')
              have := hver q z0.1 (by omega) ⟨z1.1, by omega, Or.inr ⟨by omega, Or.inl d⟩⟩
              omega
            · omega
      · unfold OW qOw
        rcases qNew_sp F 1 (fN F i 3) p 2147483647 128 with ⟨-, z⟩ | ⟨z0, z1, z2⟩
        · exact absurd hqi (z i i0 (by omega))
        · rw [if_neg (by omega)]
          have gi := (z2 i i0 (by omega) hqi).1
          generalize qNew F 1 (fN F i 3) p 2147483647 128 = q at z0 z1 gi
          have e4 : fN F q 4 = fN F i 4 := by have := hver q z0.1 (by omega) z1; omega
          have e := copy q z0.1 (by omega) z1.1 e4
          rw [e 5 (by omega) (by omega), e 6 (by omega) (by omega), if_pos ⟨hr.1, by omega⟩, e4]
/-- live is live -/
theorem rLive_iff {F : Fl} {fl : Int → Int} {i : Int} (hS : NS F) (hU : NU F) (hf : flOK F fl) (i0 : 0 ≤ i) (i1 : i < 128) (hw : rW F i) : rLive F i ↔ jLive F F (tS F) i := by
  unfold rLive jLive
  rcases hw.1 with k | k
  · have k2 : ¬ fN F i 0 = 2 := by omega
    rw [if_neg k2, if_neg k2, hold_0 hS hf, ← qCpy_i i0 i1 hw k]
    constructor
    · rintro ⟨a, -, b⟩
      obtain ⟨b1, b2⟩ := b k
      exact ⟨b1, a, (rLD_iff hS hU i0 i1 hw k a).mp b2⟩
    · rintro ⟨a, b, c⟩
      exact ⟨b, fun z => absurd z k2, fun _ => ⟨a, (rLD_iff hS hU i0 i1 hw k b).mpr c⟩⟩
  · rw [if_pos k, if_pos k, hold_1 hS]
    have key := rLN_iff hS hU i0 i1 hw k
    constructor
    · rintro ⟨a, b, -⟩; exact key.mp ⟨a, b k⟩
    · intro h
      obtain ⟨a, b⟩ := key.mpr h
      exact ⟨a, fun _ => b, fun z => by omega⟩
