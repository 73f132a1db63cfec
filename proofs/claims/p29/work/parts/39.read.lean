def fByteFor (F : Fl) (i p : Int) : Int := if fN F i 5 ≤ p ∧ p - fN F i 5 < fN F i 6 then iAnd (jUshr (fN F i 7) (8 * (p - fN F i 5))) 255 else 0
theorem fByteFor_of {F : Fl} {μ : nMem} {ε : nEnv} (hC : CF F μ ε) {i : Int} (h0 : 0 ≤ i) (h1 : i < 128) (p : Int) : nByteFor μ (nRow μ i) p = fByteFor F i p := by
  obtain ⟨a, -⟩ := CF_row hC h0 h1
  unfold nByteFor nByte fByteFor
  rw [a 5 (by omega) (by omega), a 6 (by omega) (by omega), a 7 (by omega) (by omega)]
/-- a file with a DATA node of a row laid on it -/
def tLay (F : Fl) (i q : Int) (S : Tr) : Tr := (tNx S, tNl S, fun x k => if x = q ∧ k = 6 then fN F i 9 else if x = q ∧ k = 3 then fN F i 4 else tFd S x k, fun x p => if x = q ∧ p < 64 ∧ rS F i p then fByteFor F i p else tCl S x p)
theorem CT_lay {S : Tr} {F : Fl} {μ m : nMem} {ε : nEnv} {a q i : Int} (hC : CF F μ ε) (hT : CT S μ ε) (hA : tAt S μ a q) (i0 : 0 ≤ i) (i1 : i < 128)
    (h6 : m a 6 = μ (nRow μ i) 9) (h3 : m a 3 = μ (nRow μ i) 4) (hx : ∀ x j, x ≠ eFin ε a 0 → ¬ (x = a ∧ j = 6) → ¬ (x = a ∧ j = 3) → m x j = μ x j)
    (hc : ∀ p, 0 ≤ p → p < 100 → m (eFin ε a 0) p = if p < 64 ∧ nSettles μ (nRow μ i) p then nByteFor μ (nRow μ i) p else μ (eFin ε a 0) p) :
    CT (tLay F i q S) m ε ∧ FrT μ ε m ε ∧ (∀ b x, tAt S μ b x → tAt (tLay F i q S) m b x) := by
  obtain ⟨c1, c2, c3, c4, c5, c6, c7⟩ := id hT
  obtain ⟨a0, s1, s2, s3⟩ := tAt_sh hT hA
  obtain ⟨ra, -⟩ := CF_row hC i0 i1
  have m13 : ∀ j, m 13 j = μ 13 j := fun j => hx 13 j (by omega) (by omega) (by omega)
  have hti : isTI μ ε a ∧ isTI μ ε (eFin ε a 0) := by
    obtain ⟨i, i0, i1, i2⟩ := hA
    exact ⟨⟨i, by omega, by omega, by rw [i2]; exact a0, Or.inl i2.symm⟩, ⟨i, by omega, by omega, by rw [i2]; exact a0, Or.inr (by rw [i2])⟩⟩
  refine ⟨⟨c1, ?_, c3, c4, by rw [hx 12 2 (by omega) (by omega) (by omega)]; exact c5, by rw [hx 12 3 (by omega) (by omega) (by omega)]; exact c6, fun k hk => ?_⟩, ⟨fun y _ _ _ _ y4 j => ?_, fun _ _ => ⟨rfl, rfl, fun _ => rfl⟩, fun y ⟨k, k0, k1, k2, k3⟩ => Or.inl ⟨k, k0, k1, by rw [m13] at k2; exact k2, by rw [m13] at k3; exact k3⟩, rfl, fun t ht => Cap_congr ht (fun j => hx 3 j (by omega) (by omega) (by omega)) m13 rfl rfl⟩, fun b x ⟨k, k0, k1, k2⟩ => ⟨k, k0, k1, by rw [m13]; exact k2⟩⟩
  · unfold nItems; simp only [m13]; exact c2
  · have hb := CT_it hT hk
    rw [m13]
    generalize μ 13 k = b at hb ⊢
    have hk : k < (tNl S).length := hk
    show b ≠ 0 ∧ itIs (tLay F i q S) m ε b ((tNl S).getD k 0)
    generalize (tNl S).getD k 0 = x at hb ⊢
    obtain ⟨b0, t1, t2, t3⟩ := tAt_sh hT hb
    obtain ⟨d1, d2, d3⟩ := tAt_is hT hb
    have hbc : b ≠ eFin ε a 0 := fun e => by have := s1.2.1; rw [← e, t1.1] at this; cases this
    by_cases e : b = a
    · subst e
      have eq : x = q := tAt_n hT hb hA
      subst eq
      refine ⟨b0, by rw [hx _ _ hbc (by omega) (by omega)]; exact d1, fun j j0 j1 => ?_, fun p p0 p1 => ?_⟩
      · show _ = if x = x ∧ j = 6 then _ else if x = x ∧ j = 3 then _ else _
        by_cases j6 : j = 6
        · rw [if_pos ⟨rfl, j6⟩, j6, h6]; exact ra 9 (by omega) (by omega)
        · rw [if_neg (fun r => j6 r.2)]
          by_cases j3 : j = 3
          · rw [if_pos ⟨rfl, j3⟩, j3, h3]; exact ra 4 (by omega) (by omega)
          · rw [if_neg (fun r => j3 r.2), hx _ _ hbc (fun r => j6 r.2) (fun r => j3 r.2)]; exact d2 j j0 j1
      · show _ = if x = x ∧ p < 64 ∧ rS F i p then _ else _
        rw [hc p p0 p1]
        have hs := rS_of hC i0 i1 p
        by_cases c : p < 64 ∧ rS F i p
        · rw [if_pos ⟨c.1, hs.mpr c.2⟩, if_pos ⟨rfl, c⟩]; exact fByteFor_of hC i0 i1 p
        · rw [if_neg (fun r => c ⟨r.1, hs.mp r.2⟩), if_neg (fun r => c r.2)]; exact d3 p p0 p1
    · have eq : x ≠ q := fun r => e (by rw [r] at hb; exact tAt_a hT hb hA)
      have hcc : eFin ε b 0 ≠ eFin ε a 0 := fun r => eq (tAt_c hT hb hA r)
      have hca : eFin ε b 0 ≠ a := fun r => by have := t1.2.1; rw [r, s1.1] at this; cases this
      refine ⟨b0, by rw [hx _ _ hbc (fun r => e r.1) (fun r => e r.1)]; exact d1, fun j j0 j1 => ?_, fun p p0 p1 => ?_⟩
      · show _ = if x = q ∧ j = 6 then _ else if x = q ∧ j = 3 then _ else _
        rw [if_neg (fun r => eq r.1), if_neg (fun r => eq r.1), hx _ _ hbc (fun r => e r.1) (fun r => e r.1)]; exact d2 j j0 j1
      · show _ = if x = q ∧ p < 64 ∧ rS F i p then _ else _
        rw [if_neg (fun r => eq r.1), hx _ _ hcc (fun r => hca r.1) (fun r => hca r.1)]; exact d3 p p0 p1
  · exact hx y j (fun r => y4 (by rw [r]; exact hti.2)) (fun r => y4 (by rw [r.1]; exact hti.1)) (fun r => y4 (by rw [r.1]; exact hti.1))
/-- the content of a file as its DATA nodes tell it, oldest first -/
def rcStep (F : Fl) (q : Int) (s : Int × Tr) : Int × Tr := if qNxt F q s.1 128 = -1 then s else (fN F (qNxt F q s.1 128) 4, tLay F (qNxt F q s.1 128) q s.2)
def rc (F : Fl) (q : Int) (S : Tr) : Nat → Int × Tr
  | 0 => (0, S)
  | n + 1 => rcStep F q (rc F q S n)
theorem rc_s (F : Fl) (q : Int) (S : Tr) (n : Nat) : rc F q S (n + 1) = rcStep F q (rc F q S n) := rfl
theorem rc_end {F : Fl} {q : Int} {S : Tr} {n : Nat} (h : qNxt F q (rc F q S n).1 128 = -1) : ∀ k, rc F q S (n + k) = rc F q S n := by
  intro k
  induction k with
  | zero => rfl
  | succ k ih => rw [Nat.add_succ, rc_s, ih]; unfold rcStep; rw [if_pos h]
