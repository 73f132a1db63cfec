def tSetF (S : Tr) (n k v : Int) : Tr := (tNx S, tNl S, fun x y => if x = n ∧ y = k then v else tFd S x y, tCl S)
def tSetC (S : Tr) (n j v : Int) : Tr := (tNx S, tNl S, tFd S, fun x y => if x = n ∧ y = j then v else tCl S x y)
/-- a change of one item's place alone -/
theorem CT_upd {S S' : Tr} {μ : nMem} {ε : nEnv} {a n x j v : Int} (hT : CT S μ ε) (hA : tAt S μ a n) (hx : (x = a ∧ 2 ≤ j ∧ j ≤ 6) ∨ x = eFin ε a 0) (h1 : tNx S' = tNx S) (h2 : tNl S' = tNl S)
    (hi : ∀ c q, tAt S μ c q → itIs S' (wr μ x j v) ε c q) : CT S' (wr μ x j v) ε ∧ FrT μ ε (wr μ x j v) ε ∧ (∀ b q, tAt S μ b q → tAt S' (wr μ x j v) b q) := by
  obtain ⟨a0, hI, a15, a16⟩ := tAt_sh hT hA
  obtain ⟨c1, c2, c3, c4, c5, c6, c7⟩ := id hT
  have x12 : x ≠ 12 ∧ x ≠ 13 ∧ x ≠ 3 := by omega
  have m13 : ∀ i, wr μ x j v 13 i = μ 13 i := fun i => wr_n _ _ (by omega)
  have hti : isTI μ ε x := by
    obtain ⟨i, i0, i1, i2⟩ := hA
    exact ⟨i, by omega, by omega, by rw [i2]; exact a0, by rw [i2]; omega⟩
  refine ⟨⟨c1, ?_, by rw [h2]; exact c3, by rw [h2]; exact c4, by rw [wr_n _ _ (by omega), h2]; exact c5, by rw [wr_n _ _ (by omega), h1]; exact c6, fun i hi9 => ?_⟩, ⟨fun y _ _ _ _ y4 k => wr_n _ _ (fun q => y4 (q.1 ▸ hti)), fun _ _ => ⟨rfl, rfl, fun _ => rfl⟩, fun y ⟨i, i0, i1, i2, i3⟩ => Or.inl ⟨i, i0, i1, by rw [m13] at i2; exact i2, by rw [m13] at i3; exact i3⟩, rfl, fun t ht => Cap_congr ht (fun i => wr_n _ _ (by omega)) m13 rfl rfl⟩, fun b q ⟨i, i0, i1, i2⟩ => ⟨i, by rw [h2]; exact i0, by rw [h2]; exact i1, by rw [m13]; exact i2⟩⟩
  · unfold nItems; simp only [m13]; exact c2
  · rw [h2] at hi9 ⊢
    rw [m13]
    exact ⟨(c7 i hi9).1, hi _ _ (CT_it hT hi9)⟩
theorem tAt_c {S : Tr} {μ : nMem} {ε : nEnv} {a b n q : Int} (hT : CT S μ ε) (h : tAt S μ a n) (k : tAt S μ b q) (e : eFin ε a 0 = eFin ε b 0) : n = q := by
  obtain ⟨i, hi, e1, e2⟩ := h
  obtain ⟨j, hj, f1, f2⟩ := k
  have hl := hT.2.2.2.1
  have := hT.2.1.2.2 i j (by omega) (by omega) (by omega) (by omega) (hT.2.2.2.2.2.2 i hi).1 (hT.2.2.2.2.2.2 j hj).1 (by rw [e2, f2]; exact e)
  rw [← e1, ← f1, show i = j by omega]
theorem CT_setF {S : Tr} {μ : nMem} {ε : nEnv} {a n k v : Int} (hT : CT S μ ε) (hA : tAt S μ a n) (hk : 2 ≤ k ∧ k ≤ 6) : CT (tSetF S n k v) (wr μ a k v) ε ∧ FrT μ ε (wr μ a k v) ε ∧ (∀ b q, tAt S μ b q → tAt (tSetF S n k v) (wr μ a k v) b q) := by
  refine CT_upd hT hA (Or.inl ⟨rfl, hk⟩) rfl rfl (fun c q hq => ?_)
  obtain ⟨d1, d2, d3⟩ := tAt_is hT hq
  obtain ⟨s0, s1, s2, s3⟩ := tAt_sh hT hq
  obtain ⟨z0, z1, -⟩ := tAt_sh hT hA
  have hac : a ≠ eFin ε c 0 := fun e => by have := s1.2.1; rw [← e, z1.1] at this; cases this
  refine ⟨by rw [wr_n _ _ (by omega)]; exact d1, fun y y0 y1 => ?_, fun y y0 y1 => by rw [wr_n _ _ (fun r => hac r.1.symm)]; exact d3 y y0 y1⟩
  show _ = if q = n ∧ y = k then v else tFd S q y
  by_cases e : c = a
  · have eq : q = n := by rw [e] at hq; exact tAt_n hT hq hA
    by_cases f : y = k
    · rw [if_pos ⟨eq, f⟩, e, f, wr_s]
    · rw [if_neg (fun r => f r.2), wr_n _ _ (fun r => f r.2)]; exact d2 y y0 y1
  · have eq : q ≠ n := fun r => e (by rw [r] at hq; exact tAt_a hT hq hA)
    rw [if_neg (fun r => eq r.1), wr_n _ _ (fun r => e r.1)]; exact d2 y y0 y1
theorem CT_addF {S : Tr} {μ : nMem} {ε : nEnv} {a n k d : Int} (hT : CT S μ ε) (hA : tAt S μ a n) (hk : 2 ≤ k ∧ k ≤ 6) : CT (tSetF S n k (tFd S n k + d)) (wr μ a k (μ a k + d)) ε ∧ FrT μ ε (wr μ a k (μ a k + d)) ε ∧ (∀ b q, tAt S μ b q → tAt (tSetF S n k (tFd S n k + d)) (wr μ a k (μ a k + d)) b q) := by
  rw [show μ a k = tFd S n k from (tAt_is hT hA).2.1 k hk.1 hk.2]
  exact CT_setF hT hA hk
theorem CT_setC {S : Tr} {μ : nMem} {ε : nEnv} {a n j v : Int} (hT : CT S μ ε) (hA : tAt S μ a n) (hj : 0 ≤ j ∧ j < 100) : CT (tSetC S n j v) (mCell μ ε a j v) ε ∧ FrT μ ε (mCell μ ε a j v) ε ∧ (∀ b q, tAt S μ b q → tAt (tSetC S n j v) (mCell μ ε a j v) b q) := by
  unfold mCell; rw [if_pos hj]
  refine CT_upd hT hA (Or.inr rfl) rfl rfl (fun c q hq => ?_)
  obtain ⟨d1, d2, d3⟩ := tAt_is hT hq
  obtain ⟨s0, s1, s2, s3⟩ := tAt_sh hT hq
  obtain ⟨z0, z1, -⟩ := tAt_sh hT hA
  have hac : c ≠ eFin ε a 0 := fun e => by have := z1.2.1; rw [← e, s1.1] at this; cases this
  refine ⟨by rw [wr_n _ _ (fun r => hac r.1)]; exact d1, fun y y0 y1 => by rw [wr_n _ _ (fun r => hac r.1)]; exact d2 y y0 y1, fun y y0 y1 => ?_⟩
  show _ = if q = n ∧ y = j then v else tCl S q y
  by_cases e : q = n
  · have ea : c = a := by rw [e] at hq; exact tAt_a hT hq hA
    by_cases f : y = j
    · rw [if_pos ⟨e, f⟩, ea, f, wr_s]
    · rw [if_neg (fun r => f r.2), wr_n _ _ (fun r => f r.2)]; exact d3 y y0 y1
  · rw [if_neg (fun r => e r.1), wr_n _ _ (fun r => e (tAt_c hT hq hA r.1))]; exact d3 y y0 y1
def tInc (S : Tr) (n q : Int) : Tr := tSetF (tSetF S q 4 (tFd S q 4 + 1)) n 5 (tFd (tSetF S q 4 (tFd S q 4 + 1)) n 5 + 1)
def tDec (S : Tr) (n p : Int) : Tr := tSetF (tSetF S p 4 (tFd S p 4 + -1)) n 5 (tFd (tSetF S p 4 (tFd S p 4 + -1)) n 5 + -1)
theorem CT_inc {S : Tr} {μ : nMem} {ε : nEnv} {a n b q : Int} (hT : CT S μ ε) (hA : tAt S μ a n) (hB : tAt S μ b q) : CT (tInc S n q) (wr (wr μ b 4 (μ b 4 + 1)) a 5 (wr μ b 4 (μ b 4 + 1) a 5 + 1)) ε ∧ FrT μ ε (wr (wr μ b 4 (μ b 4 + 1)) a 5 (wr μ b 4 (μ b 4 + 1) a 5 + 1)) ε ∧ (∀ c x, tAt S μ c x → tAt (tInc S n q) (wr (wr μ b 4 (μ b 4 + 1)) a 5 (wr μ b 4 (μ b 4 + 1) a 5 + 1)) c x) := by
  obtain ⟨t1, f1, k1⟩ := CT_addF (k := 4) (d := 1) hT hB (by omega)
  obtain ⟨t2, f2, k2⟩ := CT_addF (k := 5) (d := 1) t1 (k1 _ _ hA) (by omega)
  exact ⟨t2, FrT_trans f1 f2, fun c x h => k2 _ _ (k1 _ _ h)⟩
theorem CT_dec {S : Tr} {μ : nMem} {ε : nEnv} {a n b q : Int} (hT : CT S μ ε) (hA : tAt S μ a n) (hB : tAt S μ b q) : CT (tDec S n q) (wr (wr μ b 4 (μ b 4 - 1)) a 5 (wr μ b 4 (μ b 4 - 1) a 5 - 1)) ε ∧ FrT μ ε (wr (wr μ b 4 (μ b 4 - 1)) a 5 (wr μ b 4 (μ b 4 - 1) a 5 - 1)) ε ∧ (∀ c x, tAt S μ c x → tAt (tDec S n q) (wr (wr μ b 4 (μ b 4 - 1)) a 5 (wr μ b 4 (μ b 4 - 1) a 5 - 1)) c x) := by
  obtain ⟨t1, f1, k1⟩ := CT_addF (k := 4) (d := -1) hT hB (by omega)
  obtain ⟨t2, f2, k2⟩ := CT_addF (k := 5) (d := -1) t1 (k1 _ _ hA) (by omega)
  exact ⟨t2, FrT_trans f1 f2, fun c x h => k2 _ _ (k1 _ _ h)⟩
theorem tDec_4 {S : Tr} {n p : Int} : tFd (tDec S n p) p 4 = tFd S p 4 - 1 := by
  show (if p = n ∧ (4 : Int) = 5 then _ else if p = p ∧ (4 : Int) = 4 then tFd S p 4 + -1 else tFd S p 4) = _
  rw [if_neg (by omega), if_pos ⟨rfl, rfl⟩]; omega
theorem tInc_4 {S : Tr} {n q p : Int} : tFd (tInc S n q) p 4 = if p = q then tFd S q 4 + 1 else tFd S p 4 := by
  show (if p = n ∧ (4 : Int) = 5 then _ else if p = q ∧ (4 : Int) = 4 then tFd S q 4 + 1 else tFd S p 4) = _
  rw [if_neg (by omega)]
  by_cases e : p = q
  · rw [if_pos ⟨e, rfl⟩, if_pos e]
  · rw [if_neg (fun r => e r.1), if_neg e]
