noncomputable def actCut (A : AS) (u : Int) : Ans × AS := pI (¬ (-1 ≤ u ∧ u ≤ 1000)) (.inr xA, A) (.inl (fL (aF A)), (fSetL (aF A) u, aG A, aX A, aD A, aN A))
noncomputable def actDark (A : AS) : Ans × AS := (.inl (fD (aF A)), A)
noncomputable def qD (A : AS) (d : Int) (v : Ans) : Ans × AS := pI (dk A) (.inr xS, A) (pI (¬ isDr A d) (.inr xI, A) (v, A))
noncomputable def qF (A : AS) (f : Int) (v : Ans) : Ans × AS := pI (dk A) (.inr xS, A) (pI (¬ isFl A f) (.inr xI, A) (v, A))
noncomputable def qB (A : AS) (b : Int) (v : Ans) : Ans × AS := pI (dk A) (.inr xS, A) (pI (¬ (0 ≤ b ∧ b < 8)) (.inr xI, A) (v, A))
noncomputable def qb (A : AS) (b : Int) (v : Ans) : Ans × AS := pI (¬ (0 ≤ b ∧ b < 8)) (.inr xI, A) (v, A)
noncomputable def actLookUp (A : AS) (d nm : Int) : Ans × AS := qD A d (pI (¬ nmR nm) (.inr xA) (.inl (if TG (aF A) d nm = 0 then -1 else TG (aF A) d nm)))
noncomputable def actNames (A : AS) (d : Int) : Ans × AS := qD A d (.inl (cntN (TG (aF A) d) 99))
/-- the name that has so many lower ones ahead of it -/
def nmAt (f : Int → Int) (p : Int) : Nat → Int
  | 0 => 0
  | k + 1 => if nmAt f p k ≠ 0 then nmAt f p k else if f ((k : Int) + 1) ≠ 0 ∧ cntN f k = p then (k : Int) + 1 else 0
theorem nmAt_s (f : Int → Int) (p : Int) (k : Nat) : nmAt f p (k + 1) = if nmAt f p k ≠ 0 then nmAt f p k else if f ((k : Int) + 1) ≠ 0 ∧ cntN f k = p then (k : Int) + 1 else 0 := rfl
theorem cntN_mn (f : Int → Int) : ∀ (m k : Nat), m ≤ k → cntN f m ≤ cntN f k := fun m k h => by
  induction k with
  | zero => rw [show m = 0 by omega]; exact Int.le_refl _
  | succ k ih =>
    by_cases e : m = k + 1
    · rw [e]; exact Int.le_refl _
    · rw [cntN_s]; have := ih (by omega); split <;> omega
theorem nmAt_is {f : Int → Int} {p : Int} {q : Nat} (h1 : 1 ≤ q) (h2 : f q ≠ 0) (h3 : cntN f (q - 1) = p) : ∀ k : Nat, q ≤ k → nmAt f p k = q := by
  have low : ∀ k : Nat, k < q → nmAt f p k = 0 := fun k => by
    induction k with
    | zero => intro _; rfl
    | succ k ih =>
      intro hk
      rw [nmAt_s, if_neg (by rw [ih (by omega)]; decide), if_neg]
      rintro ⟨a, b⟩
      have c1 := cntN_mn f (k + 1) (q - 1) (by omega)
      rw [cntN_s, if_pos a] at c1
      omega
  intro k
  induction k with
  | zero => intro h; omega
  | succ k ih =>
    intro hk
    rw [nmAt_s]
    by_cases e : q = k + 1
    · rw [if_neg (by rw [low k (by omega)]; decide), if_pos ⟨by rw [show (k : Int) + 1 = (q : Int) by omega]; exact h2, by rw [← h3, e]; rfl⟩]; omega
    · rw [ih (by omega), if_pos (by omega)]
theorem cntN_get {f : Int → Int} {p : Int} (h0 : 0 ≤ p) : ∀ k : Nat, p < cntN f k → ∃ q : Nat, 1 ≤ q ∧ q ≤ k ∧ f q ≠ 0 ∧ cntN f (q - 1) = p
  | 0, h => absurd h (by show ¬ p < 0; omega)
  | k + 1, h => by
    by_cases c : p < cntN f k
    · obtain ⟨q, a, b, d, e⟩ := cntN_get h0 k c
      exact ⟨q, a, by omega, d, e⟩
    · rw [cntN_s] at h
      by_cases z : f ((k : Int) + 1) ≠ 0
      · rw [if_pos z] at h
        exact ⟨k + 1, by omega, by omega, by rw [show ((k + 1 : Nat) : Int) = (k : Int) + 1 by omega]; exact z, by show cntN f k = p; omega⟩
      · rw [if_neg z] at h; omega
noncomputable def actNameAt (A : AS) (d p : Int) : Ans × AS := qD A d (pI (¬ (0 ≤ p ∧ p < cntN (TG (aF A) d) 99)) (.inr xI) (.inl (nmAt (TG (aF A) d) p 99)))
noncomputable def actIsDir (A : AS) (n : Int) : Ans × AS := pI (dk A) (.inr xS, A) (pI (¬ (isDr A n ∨ isFl A n)) (.inr xI, A) (.inl (pI (isDr A n) 1 0), A))
noncomputable def actLinks (A : AS) (n : Int) : Ans × AS := pI (dk A) (.inr xS, A) (pI (¬ (isDr A n ∨ isFl A n)) (.inr xI, A) (.inl (lkA A n), A))
noncomputable def actLength (A : AS) (f : Int) : Ans × AS := qF A f (.inl (LN (aF A) f))
noncomputable def actByteAt (A : AS) (f p : Int) : Ans × AS := qF A f (pI (¬ (0 ≤ p ∧ p < LN (aF A) f)) (.inr xI) (.inl (BY (aF A) f p)))
/-- what holds, as the nodes tell it: a tree for the words that ask for one -/
noncomputable def tSN (F : Fl) (N : Nat) : Tr := (0, ((List.range N).map (fun k : Nat => (k : Int))).filter (fun n => @decide (thD (TG F) (TD F) n ∨ thF (TG F) (TD F) n) (Classical.propDecidable _)), fun n _ => pI (thD (TG F) (TD F) n) 1 0, fun _ _ => 0)
theorem tSN_holds (F : Fl) (N : Nat) (n d : Int) : jHolds (tSN F N) n d ↔ ((0 ≤ n ∧ n < N) ∧ (thD (TG F) (TD F) n ∨ thF (TG F) (TD F) n)) ∧ pI (thD (TG F) (TD F) n) 1 0 = d := by
  have hm : n ∈ tNl (tSN F N) ↔ (0 ≤ n ∧ n < N) ∧ (thD (TG F) (TD F) n ∨ thF (TG F) (TD F) n) := by
    show n ∈ ((List.range N).map (fun k : Nat => (k : Int))).filter _ ↔ _
    rw [List.mem_filter, List.mem_map]
    constructor
    · rintro ⟨⟨k, k0, k1⟩, h⟩
      have := List.mem_range.mp k0
      exact ⟨by omega, by simpa using h⟩
    · rintro ⟨h1, h2⟩
      exact ⟨⟨n.toNat, List.mem_range.mpr (by omega), by omega⟩, by simpa using h2⟩
  unfold jHolds
  rw [hm]; exact Iff.rfl
noncomputable def tS (F : Fl) : Tr := tSN F 2048
theorem tS_holds (F : Fl) (n d : Int) : jHolds (tS F) n d ↔ ((0 ≤ n ∧ n < 2048) ∧ (thD (TG F) (TD F) n ∨ thF (TG F) (TD F) n)) ∧ pI (thD (TG F) (TD F) n) 1 0 = d := tSN_holds F 2048 n d
theorem tS_S {A : AS} {fl : Int → Int} {nb vb : Int} {S : Tr} (hP : IP A fl nb vb) (hS : TSA A fl S) (n d : Int) : jHolds S n d ↔ jHolds (tS (aF A)) n d := by
  have h1 : thD (TG (aF A)) (TD (aF A)) n ↔ n ∈ tNl S ∧ tFd S n 2 = 1 := isDr_iff hP hS n
  have h2 : thF (TG (aF A)) (TD (aF A)) n ↔ n ∈ tNl S ∧ tFd S n 2 = 0 := isFl_iff hP hS n
  have hW := hP.2.2.2.2.2.2.1
  rw [tS_holds, h1, h2]
  unfold jHolds
  constructor
  · rintro ⟨a, b⟩
    have hb : 0 ≤ n ∧ n < 2048 := by
      rcases (hS.1 n).mp a with e | ⟨-, x, y, -, -, e⟩
      · omega
      · have := hW.2.2.1 x y; omega
    have hf := hS.2.1 n a
    rcases hW.2.1 n with q | q
    · exact ⟨⟨hb, Or.inr ⟨a, by omega⟩⟩, by rw [pI_0 (fun z => by have := z.2; omega)]; omega⟩
    · exact ⟨⟨hb, Or.inl ⟨a, by omega⟩⟩, by rw [pI_1 ⟨a, by omega⟩]; omega⟩
  · rintro ⟨⟨-, h3⟩, h4⟩
    rcases h3 with q | q
    · rw [pI_1 q] at h4; exact ⟨q.1, by omega⟩
    · rw [pI_0 (fun z => by have := z.2; have := q.2; omega)] at h4; exact ⟨q.1, by omega⟩
theorem jLive_cg {H F : Fl} {S S' : Tr} (h : ∀ n d, jHolds S n d ↔ jHolds S' n d) (i : Int) : jLive H F S i ↔ jLive H F S' i := by
  unfold jLive; rw [h]
theorem jDead_cg {H F : Fl} {S S' : Tr} (h : ∀ n d, jHolds S n d ↔ jHolds S' n d) (i : Int) : jDead H F S i ↔ jDead H F S' i := by
  unfold jDead; rw [jLive_cg h]
theorem jMiss_cg {F : Fl} {S S' : Tr} (h : ∀ n d, jHolds S n d ↔ jHolds S' n d) (Z : Int → Int) (i : Int) : jMiss F S Z i ↔ jMiss F S' Z i := by
  unfold jMiss; rw [h]
theorem jDd_cg {F : Fl} {S S' : Tr} (h : ∀ n d, jHolds S n d ↔ jHolds S' n d) (i : Int) : jDd F S i = jDd F S' i := by
  by_cases c : jDead F F S i
  · rw [jDd_1 c, jDd_1 ((jDead_cg h i).mp c)]
  · rw [jDd_0 c, jDd_0 (fun z => c ((jDead_cg h i).mpr z))]
theorem jSum_cg {F : Fl} {S S' : Tr} (h : ∀ n d, jHolds S n d ↔ jHolds S' n d) (b : Int) : ∀ n : Nat, jSum F S b n = jSum F S' b n
  | 0 => rfl
  | n + 1 => by rw [jSum_s, jSum_s, jSum_cg h b n, jDd_cg h]
theorem jDo_cg {F : Fl} {S S' : Tr} (h : ∀ n d, jHolds S n d ↔ jHolds S' n d) (b : Int) : ∀ n : Nat, jDo F S b n = jDo F S' b n
  | 0 => rfl
  | n + 1 => by rw [jDo_s, jDo_s, jDo_cg h b n, jDd_cg h]
theorem jDirt_cg {F : Fl} {S S' : Tr} (h : ∀ n d, jHolds S n d ↔ jHolds S' n d) (b : Int) : jDirt F S b = jDirt F S' b := by
  unfold jDirt; rw [jDo_cg h]
theorem ck_cg {F : Fl} {S S' : Tr} (h : ∀ n d, jHolds S n d ↔ jHolds S' n d) (b : Int) : ∀ n : Nat, ck F S b n = ck F S' b n
  | 0 => rfl
  | n + 1 => by
    rw [ck_s, ck_s, ck_cg h b n]
    generalize ck F S' b n = s
    by_cases c : jNo F (b * 16 + n)
    · rw [ckS_0 c, ckS_0 c]
    · by_cases c2 : jDead F F S (b * 16 + n) ∧ ¬ jMiss F S s.1 (b * 16 + n)
      · have c3 : jDead F F S' (b * 16 + n) ∧ ¬ jMiss F S' s.1 (b * 16 + n) := ⟨(jDead_cg h _).mp c2.1, fun z => c2.2 ((jMiss_cg h _ _).mpr z)⟩
        rw [ckS_1 c c2, ckS_1 c c3]
      · have c3 : ¬ (jDead F F S' (b * 16 + n) ∧ ¬ jMiss F S' s.1 (b * 16 + n)) := fun z => c2 ⟨(jDead_cg h _).mpr z.1, fun w => z.2 ((jMiss_cg h _ _).mp w)⟩
        rw [ckS_2 c c2, ckS_2 c c3]
theorem vc_cg {F : Fl} {S S' : Tr} (h : ∀ n d, jHolds S n d ↔ jHolds S' n d) (g : Lg) (w : Int) : ∀ n : Nat, vc F S g w n = vc F S' g w n
  | 0 => rfl
  | n + 1 => by rw [vc_s, vc_s, vc_cg h g w n]; unfold vcS; rw [jDirt_cg h]
noncomputable def actState (A : AS) (b : Int) : Ans × AS := qB A b (.inl (if b ∈ (aG A).2.1 then 0 else if b = (aG A).1 then 1 else jDirt (aF A) (tS (aF A)) b))
noncomputable def actDead (A : AS) (b : Int) : Ans × AS := qB A b (.inl (jSum (aF A) (tS (aF A)) b (fC (aF A) b).toNat))
noncomputable def actToCopy (A : AS) (b : Int) : Ans × AS := qB A b (.inl (((ck (aF A) (tS (aF A)) b (fC (aF A) b).toNat).2.length : Nat) : Int))
noncomputable def actWritten (A : AS) (b : Int) : Ans × AS := qb A b (.inl (fU (aF A) b))
noncomputable def actNodes (A : AS) (b : Int) : Ans × AS := qb A b (.inl (fC (aF A) b))
noncomputable def actErased (A : AS) (b : Int) : Ans × AS := qb A b (.inl (fE (aF A) b))
noncomputable def actNode (A : AS) (b p : Int) : Ans × AS := qb A b (pI (¬ (0 ≤ p ∧ p < fC (aF A) b)) (.inr xI) (.inl (if fN (aF A) (b * 16 + p) 2 = fN (aF A) (b * 16 + p) 1 then fN (aF A) (b * 16 + p) 0 + 10 * fN (aF A) (b * 16 + p) 2 + 1000 * fN (aF A) (b * 16 + p) 3 + 1000000 * fN (aF A) (b * 16 + p) 4 else 4 + 10 * fN (aF A) (b * 16 + p) 2)))
def ocJ (a : Ans) : nOut := match a with
  | .inl v => .inl (some (vJ v))
  | .inr e => .inr e
/-- a question: nothing changes -/
theorem MC_q {A : AS} {nb vb : Int} {m : nMem} {ε : nEnv} {S : Tr} (hC : C6 (aF A) (aG A) S m ε) (hB : tB S) (hI : IB (aF A) nb vb) (hD : fD (aF A) = 0 ∨ fD (aF A) = 1) (h56 : eKind ε 25 ≠ 0) (hon : fD (aF A) = 0 → ∃ fl, IP A fl nb vb ∧ TSW (TG (aF A)) fl (LN (aF A)) (BY (aF A)) (aD A) (aN A) (aX A) S) (hn : nb + 1 ≤ 2000) : MC A (nb + 1) (vb + 2) m ε := MC_mono hC hB hI hD h56 hon (by omega) (by omega) (by omega)
theorem IB_same2 {F F' : Fl} {nb vb : Int} (hs : sameR F F') (hA : PA F') (hl : -1 ≤ fL F' ∧ fL F' ≤ 1000) (h : IB F nb vb) : IB F' nb vb := by
  obtain ⟨a, b, c, d, fl, e, f⟩ := h
  obtain ⟨n1, n2, n3, n4⟩ := same_N hs
  refine ⟨hA, n1 b, n3 _ _ _ c, hl, fl, flOK_same hs e, ?_⟩
  rw [(TG_fun (same_told hs).1).1]; exact f
/-- the same nodes, the same lists -/
theorem IP_same {A A' : AS} {fl : Int → Int} {nb vb : Int} (hs : sameR (aF A) (aF A')) (hd : fD (aF A') = 0) (hA : PA (aF A')) (hL : PL (aF A') (aG A')) (h1 : aX A' = aX A) (h2 : aD A' = aD A) (h3 : aN A' = aN A) (h : IP A fl nb vb) : IP A' fl nb vb := by
  obtain ⟨a1, a2, a3, a4, a5, a6, a7, a8, a9, a10⟩ := h
  obtain ⟨n1, n2, n3, n4⟩ := same_N hs
  refine ⟨hd, hA, n1 a3, hL, by rw [h1, h2, h3]; exact n3 _ _ _ a5, flOK_same hs a6, ?_, by rw [h1]; exact a8, by rw [h2, h3]; exact a9, by rw [h1, h2, h3]; exact a10⟩
  rw [(TG_fun (same_told hs).1).1, h1]; exact a7
theorem TSA_same {A A' : AS} {fl : Int → Int} {S : Tr} (hs : sameR (aF A) (aF A')) (h1 : aX A' = aX A) (h2 : aD A' = aD A) (h3 : aN A' = aN A) (h : TSA A fl S) : TSA A' fl S := by
  obtain ⟨t1, t2, t3⟩ := same_told hs
  show TSW (TG (aF A')) fl (LN (aF A')) (BY (aF A')) (aD A') (aN A') (aX A') S
  rw [(TG_fun t1).1, funext t2, show BY (aF A') = BY (aF A) from funext (fun f => funext (fun p => t3 f p)), h1, h2, h3]
  exact h
/-- another cut -/
theorem MC_cut {A : AS} {nb vb u : Int} {m : nMem} {ε : nEnv} {S : Tr} (hC : C6 (aF A) (aG A) S m ε) (hB : tB S) (hI : IB (aF A) nb vb) (hD : fD (aF A) = 0 ∨ fD (aF A) = 1) (h56 : eKind ε 25 ≠ 0) (hon : fD (aF A) = 0 → ∃ fl, IP A fl nb vb ∧ TSW (TG (aF A)) fl (LN (aF A)) (BY (aF A)) (aD A) (aN A) (aX A) S) (hn : nb + 1 ≤ 2000) (hu : -1 ≤ u ∧ u ≤ 1000) : MC (fSetL (aF A) u, aG A, aX A, aD A, aN A) (nb + 1) (vb + 2) (wr m 2 5 u) ε ∧ Fr6 m ε (wr m 2 5 u) ε := by
  have hf : FrX (fun x => x = 2) m ε (wr m 2 5 u) ε := FrX_wr rfl (by decide) (by decide)
  have h8 : ∀ x j, x ≠ 2 → wr m 2 5 u x j = m x j := fun x j q => wr_n _ _ (fun z => q z.1)
  refine ⟨⟨S, ⟨CF_L hC.1, CL_mem hC.2.1 ⟨h8 8 _ (by omega), h8 8 _ (by omega), h8 8 _ (by omega)⟩ (fun j => h8 10 j (by omega)) (fun j => h8 11 j (by omega)), (CT_FrX (X := fun x => x = 2) (fun x hx => by omega) hC.2.2 hC.1.2.1 hf).1⟩, hB, ?_, hD, h56, fun q => ?_⟩, Fr6_X (fun x hx => by omega) hC.1.2.1 hf⟩
  · exact IB_same2 (F := aF A) (F' := fSetL (aF A) u) (fun _ _ _ => ⟨Iff.rfl, fun _ _ => rfl⟩) hI.1 hu (IB_mono hI (show nb ≤ nb + 1 by omega) (show vb ≤ vb + 2 by omega) hn)
  · obtain ⟨fl, hP, hS⟩ := hon q
    have hP' := IP_mono hP (show nb ≤ nb + 1 by omega) (show vb ≤ vb + 2 by omega)
    obtain ⟨b1, b2, b3, b4, b5, b6, b7⟩ := hP.2.2.2.1
    exact ⟨fl, IP_same (A := A) (A' := (fSetL (aF A) u, aG A, aX A, aD A, aN A)) (fun _ _ _ => ⟨Iff.rfl, fun _ _ => rfl⟩) q hI.1 ⟨b1, b2, b3, b4, b5, b6, hu⟩ rfl rfl rfl hP', TSA_same (A := A) (A' := (fSetL (aF A) u, aG A, aX A, aD A, aN A)) (fun _ _ _ => ⟨Iff.rfl, fun _ _ => rfl⟩) rfl rfl rfl hS⟩
theorem sp_X6_cut {μ : nMem} {ε : nEnv} {Q : nOut → nMem → nEnv → Prop} {A : AS} {nb vb u : Int} {t : Nat} (hM : MC A nb vb μ ε) (hcap : Cap μ ε (t + 1)) (hnb : nb + 1 ≤ 2000) (hvb : vb + 2 ≤ 4000) (r1 : inR u) (h : ∀ μ9 ε9, MC (actCut A u).2 (nb + 1) (vb + 2) μ9 ε9 → Cap μ9 ε9 t → FrN μ ε μ9 ε9 → Q (oc (actCut A u).1) μ9 ε9) : Sp mX6_cut [vR 1, vI u] μ ε Q := by
  refine Sp_of (L := [(0, vR 1), (1, vI u)]) (by decide) rfl rfl (Nat.le_of_ble_eq_true rfl) ?_
  obtain ⟨S, hC6, hB, hIB, hDD, h56, hon⟩ := hM
  obtain ⟨hC, hL, hT⟩ := id hC6
  have hs := hC.1
  have hsT := hT.1
  have h20 := (hs 20 5 0 [] rfl (by decide)).1
  have hroom := Cap_room hcap
  have hF6 := Fr6_refl μ ε
  have hC6c := hC6
  unfold actCut at h
  have hfl := hC.2.2.2.2.2.1
  refine wq_iload_n (pc := 0) dX6_cut_0 rfl rfl ?_
  refine wq_iconst (pc := 1) dX6_cut_1 ?_
  refine wq_icmp_eq (pc := 2) (tgt := 26) dX6_cut_2 (by decide) (by first | (unfold inR; omega) | assumption) (by first | (unfold inR; omega) | assumption) (fun c1 => ?_) (fun c1 => ?_)
  · skip
    have hu : -1 ≤ u ∧ u ≤ 1000 := by omega
    rw [pI_0 (fun q => q hu)] at h
    obtain ⟨fin, F9⟩ := MC_cut (u := u) hC6 hB hIB hDD h56 hon hnb hu
    refine wq_aload_n (pc := 26) dX6_cut_26 rfl rfl ?_
    refine wq_getS (pc := 27) dX6_cut_27 hs (gf_X6_10 _ rfl) rfl rfl rfl rfl rfl ?_
    refine wq_getIK (pc := 30) (kk := 5) dX6_cut_30 hs (gf_X6_183 _ rfl) rfl rfl rfl rfl ?_
    rw [hfl]
    refine wq_istore_n (pc := 33) (L' := [(2, _), (0, _), (1, _)]) dX6_cut_33 rfl rfl (by decide) ?_
    refine wq_aload_n (pc := 34) dX6_cut_34 rfl rfl ?_
    refine wq_getS (pc := 35) dX6_cut_35 hs (gf_X6_10 _ rfl) rfl rfl rfl rfl rfl ?_
    refine wq_iload_n (pc := 38) dX6_cut_38 rfl rfl ?_
    refine wq_putIK (pc := 39) (kk := 5) dX6_cut_39 hs (gf_X6_183 _ rfl) rfl rfl rfl rfl rfl ?_
    refine wq_iload_n (pc := 42) dX6_cut_42 rfl rfl ?_
    refine wq_iret (pc := 43) dX6_cut_43 rfl ?_
    first | (obtain ⟨m9, c9, f9⟩ := MC_x hC6c hB hIB hDD h56 hon hnb hcap hF6 ht; exact h _ _ m9 c9 f9) | exact h _ _ fin (Cap_mono (F9.2.2.2 _ hcap) (Nat.le_succ t)) (FrN_6 F9)
  · skip
    refine wq_iload_n (pc := 5) dX6_cut_5 rfl rfl ?_
    refine wq_if_lt (pc := 6) (tgt := 16) dX6_cut_6 (by decide) (by first | (unfold inR; omega) | assumption) (fun c2 => ?_) (fun c2 => ?_)
    · skip
      rw [pI_1 (show ¬ (-1 ≤ u ∧ u ≤ 1000) by omega)] at h
      refine wq_throw (pc := 16) dX6_cut_16 dX6_cut_19 dX6_cut_20 dX6_cut_22 dX6_cut_25 rfl th_A ks_X6_181 (by decide) (by decide) (Nat.le_of_ble_eq_true rfl) hroom (fun ε' ht => ?_)
      first | (obtain ⟨m9, c9, f9⟩ := MC_x hC6c hB hIB hDD h56 hon hnb hcap hF6 ht; exact h _ _ m9 c9 f9) | exact h _ _ fin (Cap_mono (F9.2.2.2 _ hcap) (Nat.le_succ t)) (FrN_6 F9)
    · skip
      refine wq_iload_n (pc := 9) dX6_cut_9 rfl rfl ?_
      refine wq_sipush (pc := 10) dX6_cut_10 (by decide) (by decide) ?_
      refine wq_icmp_le (pc := 13) (tgt := 26) dX6_cut_13 (by decide) (by first | (unfold inR; omega) | assumption) (by first | (unfold inR; omega) | assumption) (fun c3 => ?_) (fun c3 => ?_)
      · skip
        have hu : -1 ≤ u ∧ u ≤ 1000 := by omega
        rw [pI_0 (fun q => q hu)] at h
        obtain ⟨fin, F9⟩ := MC_cut (u := u) hC6 hB hIB hDD h56 hon hnb hu
        refine wq_aload_n (pc := 26) dX6_cut_26 rfl rfl ?_
        refine wq_getS (pc := 27) dX6_cut_27 hs (gf_X6_10 _ rfl) rfl rfl rfl rfl rfl ?_
        refine wq_getIK (pc := 30) (kk := 5) dX6_cut_30 hs (gf_X6_183 _ rfl) rfl rfl rfl rfl ?_
        rw [hfl]
        refine wq_istore_n (pc := 33) (L' := [(2, _), (0, _), (1, _)]) dX6_cut_33 rfl rfl (by decide) ?_
        refine wq_aload_n (pc := 34) dX6_cut_34 rfl rfl ?_
        refine wq_getS (pc := 35) dX6_cut_35 hs (gf_X6_10 _ rfl) rfl rfl rfl rfl rfl ?_
        refine wq_iload_n (pc := 38) dX6_cut_38 rfl rfl ?_
        refine wq_putIK (pc := 39) (kk := 5) dX6_cut_39 hs (gf_X6_183 _ rfl) rfl rfl rfl rfl rfl ?_
        refine wq_iload_n (pc := 42) dX6_cut_42 rfl rfl ?_
        refine wq_iret (pc := 43) dX6_cut_43 rfl ?_
        first | (obtain ⟨m9, c9, f9⟩ := MC_x hC6c hB hIB hDD h56 hon hnb hcap hF6 ht; exact h _ _ m9 c9 f9) | exact h _ _ fin (Cap_mono (F9.2.2.2 _ hcap) (Nat.le_succ t)) (FrN_6 F9)
      · skip
        rw [pI_1 (show ¬ (-1 ≤ u ∧ u ≤ 1000) by omega)] at h
        refine wq_throw (pc := 16) dX6_cut_16 dX6_cut_19 dX6_cut_20 dX6_cut_22 dX6_cut_25 rfl th_A ks_X6_181 (by decide) (by decide) (Nat.le_of_ble_eq_true rfl) hroom (fun ε' ht => ?_)
        first | (obtain ⟨m9, c9, f9⟩ := MC_x hC6c hB hIB hDD h56 hon hnb hcap hF6 ht; exact h _ _ m9 c9 f9) | exact h _ _ fin (Cap_mono (F9.2.2.2 _ hcap) (Nat.le_succ t)) (FrN_6 F9)
theorem sp_X6_isDark {μ : nMem} {ε : nEnv} {Q : nOut → nMem → nEnv → Prop} {A : AS} {nb vb : Int} {t : Nat} (hM : MC A nb vb μ ε) (hcap : Cap μ ε (t + 1)) (hnb : nb + 1 ≤ 2000) (hvb : vb + 2 ≤ 4000) (h : ∀ μ9 ε9, MC (actDark A).2 (nb + 1) (vb + 2) μ9 ε9 → Cap μ9 ε9 t → FrN μ ε μ9 ε9 → Q (oc (actDark A).1) μ9 ε9) : Sp mX6_isDark [vR 1] μ ε Q := by
  refine Sp_of (L := [(0, vR 1)]) (by decide) rfl rfl (Nat.le_of_ble_eq_true rfl) ?_
  obtain ⟨S, hC6, hB, hIB, hDD, h56, hon⟩ := hM
  obtain ⟨hC, hL, hT⟩ := id hC6
  have hs := hC.1
  have hsT := hT.1
  have h20 := (hs 20 5 0 [] rfl (by decide)).1
  have hroom := Cap_room hcap
  have hF6 := Fr6_refl μ ε
  have hC6c := hC6
  unfold actDark at h
  have hfd := hC.2.2.2.2.2.2.1
  refine wq_aload_n (pc := 0) dX6_isDark_0 rfl rfl ?_
  refine wq_getS (pc := 1) dX6_isDark_1 hs (gf_X6_10 _ rfl) rfl rfl rfl rfl rfl ?_
  refine wq_getIK (pc := 4) (kk := 6) dX6_isDark_4 hs (gf_X6_190 _ rfl) rfl rfl rfl rfl ?_
  rw [hfd]
  refine wq_zret (pc := 7) dX6_isDark_7 rfl (by first | omega | (simp; done) | assumption) ?_
  first
    | (have fin := MC_q hC6 hB hIB hDD h56 hon hnb
       have fcap := Cap_mono hcap (Nat.le_succ t)
       have ffr := FrN_6 (Fr6_refl μ ε)
       exact h _ _ fin fcap ffr)
    | (obtain ⟨m9, c9, f9⟩ := MC_x hC6c hB hIB hDD h56 hon hnb hcap hF6 ht; exact h _ _ m9 c9 f9)
theorem sp_X6_lookUp {μ : nMem} {ε : nEnv} {Q : nOut → nMem → nEnv → Prop} {A : AS} {nb vb d nm : Int} {t : Nat} (hM : MC A nb vb μ ε) (hcap : Cap μ ε (t + 1)) (hnb : nb + 1 ≤ 2000) (hvb : vb + 2 ≤ 4000) (r1 : inR d) (r2 : inR nm) (h : ∀ μ9 ε9, MC (actLookUp A d nm).2 (nb + 1) (vb + 2) μ9 ε9 → Cap μ9 ε9 t → FrN μ ε μ9 ε9 → Q (oc (actLookUp A d nm).1) μ9 ε9) : Sp mX6_lookUp [vR 1, vI d, vI nm] μ ε Q := by
  refine Sp_of (L := [(0, vR 1), (1, vI d), (2, vI nm)]) (by decide) rfl rfl (Nat.le_of_ble_eq_true rfl) ?_
  obtain ⟨S, hC6, hB, hIB, hDD, h56, hon⟩ := hM
  obtain ⟨hC, hL, hT⟩ := id hC6
  have hs := hC.1
  have hsT := hT.1
  have h20 := (hs 20 5 0 [] rfl (by decide)).1
  have hroom := Cap_room hcap
  have hF6 := Fr6_refl μ ε
  have hC6c := hC6
  unfold actLookUp at h
  unfold qD at h
  refine wq_aload_n (pc := 0) dX6_lookUp_0 rfl rfl ?_
  refine wq_iload_n (pc := 1) dX6_lookUp_1 rfl rfl ?_
  refine cVK_1 (pc := 2) dX6_lookUp_2 hs (cw_X6_48 _ rfl) (by decide) rfl ⟨by decide, by decide⟩ (Nat.le_of_ble_eq_true rfl) (sp_X6_directoryThere hC hDD hcap hT hB (by assumption) (fun hd hm hdr a ha => ?_) (fun hd e9 ht => ?_) (fun hd hn e9 ht => ?_))
  · skip
    refine kr_s ?_
    obtain ⟨fl, hP, hS⟩ := hon hd
    have ndk : ¬ dk A := fun z => by have z : fD (aF A) = 1 := z; omega
    have hdir : isDr A d := (isDr_iff hP hS d).mpr ⟨hm, hdr⟩
    rw [pI_0 ndk, pI_0 (fun z => z hdir)] at h
    have hfd : fl d = 1 := by rw [← hS.2.1 d hm]; exact hdr
    obtain ⟨gc, g5, g6, g3⟩ := hS.2.2.1 d hm hfd
    have e5 := (tAt_is hT ha).2.1 5 (by omega) (by omega)
    have b5 := (hB.2 _ hm).2.2.1 5 (by omega) (by omega)
    obtain ⟨az0, azI, azw, -⟩ := tAt_sh hT ha
    obtain ⟨hka, -, -⟩ := id azI
    refine wq_astore_n (pc := 5) (L' := [(3, _), (0, _), (1, _), (2, _)]) dX6_lookUp_5 rfl rfl (by decide) ?_
    refine wq_aload_n (pc := 6) dX6_lookUp_6 rfl rfl ?_
    refine wq_iload_n (pc := 7) dX6_lookUp_7 rfl rfl ?_
    refine cVK_1 (pc := 8) dX6_lookUp_8 hs (cw_X6_52 _ rfl) (by decide) rfl ⟨by decide, by decide⟩ (Nat.le_of_ble_eq_true rfl) (sp_X6_refuseWrongName hcap (by assumption) (fun hnm => ?_) (fun hnm e9 ht => ?_))
    · skip
      refine kr_v ?_
      rw [pI_0 (fun z => z hnm)] at h
      refine wq_aload_n (pc := 11) dX6_lookUp_11 rfl rfl ?_
      refine wq_iload_n (pc := 12) dX6_lookUp_12 rfl rfl ?_
      refine cV_1 (pc := 13) dX6_lookUp_13 (cw_X6_116 _ rfl) (by decide) (by with_reducible assumption) ⟨by decide, by decide⟩ (Nat.le_of_ble_eq_true rfl) (sp_X1_cell azI (by unfold inR; omega) ?_)
      refine kr_s ?_
      have hTb := (hB.2 _ hm).2.2.2 nm (by omega) (by omega)
      rw [tAt_cell hT ha (by omega) (by omega)]
      rw [gc nm hnm] at hTb ⊢
      refine wq_istore (pc := 16) (L' := [(4, _), (3, _), (0, _), (1, _), (2, _)]) dX6_lookUp_16 rfl (by decide) ?_
      refine wq_iload (pc := 18) dX6_lookUp_18 rfl ?_
      refine wq_if_ne (pc := 20) (tgt := 27) dX6_lookUp_20 (by decide) (by first | (unfold inR; omega) | assumption) (fun c6 => ?_) (fun c6 => ?_)
      · skip
        refine wq_iload (pc := 27) dX6_lookUp_27 rfl ?_
        refine wq_iret (pc := 29) dX6_lookUp_29 rfl ?_
        first
          | (have fin := MC_q hC6 hB hIB hDD h56 hon hnb
             have fcap := Cap_mono hcap (Nat.le_succ t)
             have ffr := FrN_6 (Fr6_refl μ ε)
             rw [if_pos (by assumption)] at h
             exact h _ _ fin fcap ffr)
          | (have fin := MC_q hC6 hB hIB hDD h56 hon hnb
             have fcap := Cap_mono hcap (Nat.le_succ t)
             have ffr := FrN_6 (Fr6_refl μ ε)
             rw [if_neg (by assumption)] at h
             exact h _ _ fin fcap ffr)
          | (obtain ⟨m9, c9, f9⟩ := MC_x hC6c hB hIB hDD h56 hon hnb hcap hF6 ht; exact h _ _ m9 c9 f9)
      · skip
        refine wq_iconst (pc := 23) dX6_lookUp_23 ?_
        refine wq_goto (pc := 24) (tgt := 29) dX6_lookUp_24 (by decide) ?_
        refine wq_iret (pc := 29) dX6_lookUp_29 rfl ?_
        first
          | (have fin := MC_q hC6 hB hIB hDD h56 hon hnb
             have fcap := Cap_mono hcap (Nat.le_succ t)
             have ffr := FrN_6 (Fr6_refl μ ε)
             rw [if_pos (by assumption)] at h
             exact h _ _ fin fcap ffr)
          | (have fin := MC_q hC6 hB hIB hDD h56 hon hnb
             have fcap := Cap_mono hcap (Nat.le_succ t)
             have ffr := FrN_6 (Fr6_refl μ ε)
             rw [if_neg (by assumption)] at h
             exact h _ _ fin fcap ffr)
          | (obtain ⟨m9, c9, f9⟩ := MC_x hC6c hB hIB hDD h56 hon hnb hcap hF6 ht; exact h _ _ m9 c9 f9)
    · skip
      refine kr_x ?_
      rw [pI_1 hnm] at h
      first
        | (have fin := MC_q hC6 hB hIB hDD h56 hon hnb
           have fcap := Cap_mono hcap (Nat.le_succ t)
           have ffr := FrN_6 (Fr6_refl μ ε)
           rw [if_pos (by assumption)] at h
           exact h _ _ fin fcap ffr)
        | (have fin := MC_q hC6 hB hIB hDD h56 hon hnb
           have fcap := Cap_mono hcap (Nat.le_succ t)
           have ffr := FrN_6 (Fr6_refl μ ε)
           rw [if_neg (by assumption)] at h
           exact h _ _ fin fcap ffr)
        | (obtain ⟨m9, c9, f9⟩ := MC_x hC6c hB hIB hDD h56 hon hnb hcap hF6 ht; exact h _ _ m9 c9 f9)
  · skip
    refine kr_x ?_
    rw [pI_1 (show dk A from hd)] at h
    first
      | (have fin := MC_q hC6 hB hIB hDD h56 hon hnb
         have fcap := Cap_mono hcap (Nat.le_succ t)
         have ffr := FrN_6 (Fr6_refl μ ε)
         rw [if_pos (by assumption)] at h
         exact h _ _ fin fcap ffr)
      | (have fin := MC_q hC6 hB hIB hDD h56 hon hnb
         have fcap := Cap_mono hcap (Nat.le_succ t)
         have ffr := FrN_6 (Fr6_refl μ ε)
         rw [if_neg (by assumption)] at h
         exact h _ _ fin fcap ffr)
      | (obtain ⟨m9, c9, f9⟩ := MC_x hC6c hB hIB hDD h56 hon hnb hcap hF6 ht; exact h _ _ m9 c9 f9)
  · skip
    refine kr_x ?_
    obtain ⟨fl, hP, hS⟩ := hon hd
    have ndk : ¬ dk A := fun z => by have z : fD (aF A) = 1 := z; omega
    have hndir : ¬ isDr A d := fun z => by have z := (isDr_iff hP hS d).mp z; rcases hn with q | q; exact q z.1; exact q z.2
    rw [pI_0 ndk, pI_1 hndir] at h
    first
      | (have fin := MC_q hC6 hB hIB hDD h56 hon hnb
         have fcap := Cap_mono hcap (Nat.le_succ t)
         have ffr := FrN_6 (Fr6_refl μ ε)
         rw [if_pos (by assumption)] at h
         exact h _ _ fin fcap ffr)
      | (have fin := MC_q hC6 hB hIB hDD h56 hon hnb
         have fcap := Cap_mono hcap (Nat.le_succ t)
         have ffr := FrN_6 (Fr6_refl μ ε)
         rw [if_neg (by assumption)] at h
         exact h _ _ fin fcap ffr)
      | (obtain ⟨m9, c9, f9⟩ := MC_x hC6c hB hIB hDD h56 hon hnb hcap hF6 ht; exact h _ _ m9 c9 f9)
theorem sp_X6_names {μ : nMem} {ε : nEnv} {Q : nOut → nMem → nEnv → Prop} {A : AS} {nb vb d : Int} {t : Nat} (hM : MC A nb vb μ ε) (hcap : Cap μ ε (t + 1)) (hnb : nb + 1 ≤ 2000) (hvb : vb + 2 ≤ 4000) (r1 : inR d) (h : ∀ μ9 ε9, MC (actNames A d).2 (nb + 1) (vb + 2) μ9 ε9 → Cap μ9 ε9 t → FrN μ ε μ9 ε9 → Q (oc (actNames A d).1) μ9 ε9) : Sp mX6_names [vR 1, vI d] μ ε Q := by
  refine Sp_of (L := [(0, vR 1), (1, vI d)]) (by decide) rfl rfl (Nat.le_of_ble_eq_true rfl) ?_
  obtain ⟨S, hC6, hB, hIB, hDD, h56, hon⟩ := hM
  obtain ⟨hC, hL, hT⟩ := id hC6
  have hs := hC.1
  have hsT := hT.1
  have h20 := (hs 20 5 0 [] rfl (by decide)).1
  have hroom := Cap_room hcap
  have hF6 := Fr6_refl μ ε
  have hC6c := hC6
  unfold actNames at h
  unfold qD at h
  refine wq_aload_n (pc := 0) dX6_names_0 rfl rfl ?_
  refine wq_iload_n (pc := 1) dX6_names_1 rfl rfl ?_
  refine cVK_1 (pc := 2) dX6_names_2 hs (cw_X6_48 _ rfl) (by decide) rfl ⟨by decide, by decide⟩ (Nat.le_of_ble_eq_true rfl) (sp_X6_directoryThere hC hDD hcap hT hB (by assumption) (fun hd hm hdr a ha => ?_) (fun hd e9 ht => ?_) (fun hd hn e9 ht => ?_))
  · skip
    refine kr_s ?_
    obtain ⟨fl, hP, hS⟩ := hon hd
    have ndk : ¬ dk A := fun z => by have z : fD (aF A) = 1 := z; omega
    have hdir : isDr A d := (isDr_iff hP hS d).mpr ⟨hm, hdr⟩
    rw [pI_0 ndk, pI_0 (fun z => z hdir)] at h
    have hfd : fl d = 1 := by rw [← hS.2.1 d hm]; exact hdr
    obtain ⟨gc, g5, g6, g3⟩ := hS.2.2.1 d hm hfd
    have e5 := (tAt_is hT ha).2.1 5 (by omega) (by omega)
    have b5 := (hB.2 _ hm).2.2.1 5 (by omega) (by omega)
    obtain ⟨az0, azI, azw, -⟩ := tAt_sh hT ha
    obtain ⟨hka, -, -⟩ := id azI
    refine wq_getI (pc := 5) (kk := 5) dX6_names_5 (gf_X6_103 _ rfl) (by with_reducible assumption) rfl rfl rfl ?_
    refine wq_iret (pc := 8) dX6_names_8 rfl ?_
    first
      | (have fin := MC_q hC6 hB hIB hDD h56 hon hnb
         have fcap := Cap_mono hcap (Nat.le_succ t)
         have ffr := FrN_6 (Fr6_refl μ ε)
         rw [e5, g5]
         exact h _ _ fin fcap ffr)
      | (obtain ⟨m9, c9, f9⟩ := MC_x hC6c hB hIB hDD h56 hon hnb hcap hF6 ht; exact h _ _ m9 c9 f9)
  · skip
    refine kr_x ?_
    rw [pI_1 (show dk A from hd)] at h
    first
      | (have fin := MC_q hC6 hB hIB hDD h56 hon hnb
         have fcap := Cap_mono hcap (Nat.le_succ t)
         have ffr := FrN_6 (Fr6_refl μ ε)
         rw [e5, g5]
         exact h _ _ fin fcap ffr)
      | (obtain ⟨m9, c9, f9⟩ := MC_x hC6c hB hIB hDD h56 hon hnb hcap hF6 ht; exact h _ _ m9 c9 f9)
  · skip
    refine kr_x ?_
    obtain ⟨fl, hP, hS⟩ := hon hd
    have ndk : ¬ dk A := fun z => by have z : fD (aF A) = 1 := z; omega
    have hndir : ¬ isDr A d := fun z => by have z := (isDr_iff hP hS d).mp z; rcases hn with q | q; exact q z.1; exact q z.2
    rw [pI_0 ndk, pI_1 hndir] at h
    first
      | (have fin := MC_q hC6 hB hIB hDD h56 hon hnb
         have fcap := Cap_mono hcap (Nat.le_succ t)
         have ffr := FrN_6 (Fr6_refl μ ε)
         rw [e5, g5]
         exact h _ _ fin fcap ffr)
      | (obtain ⟨m9, c9, f9⟩ := MC_x hC6c hB hIB hDD h56 hon hnb hcap hF6 ht; exact h _ _ m9 c9 f9)
theorem nCell_r {S : Tr} {μ : nMem} {ε : nEnv} {a n : Int} (hB : tB S) (hT : CT S μ ε) (hA : tAt S μ a n) (i : Int) : 0 ≤ nCell μ ε a i ∧ nCell μ ε a i ≤ 100000 := by
  by_cases c : 0 ≤ i ∧ i < 100
  · rw [tAt_cell hT hA c.1 c.2]; exact (hB.2 _ (tAt_mem hA)).2.2.2 i c.1 c.2
  · unfold nCell; rw [if_neg c]; omega
theorem cntN_cg {f g : Int → Int} : ∀ k : Nat, (∀ i : Int, 1 ≤ i → i ≤ k → f i = g i) → cntN f k = cntN g k
  | 0, _ => rfl
  | k + 1, h => by rw [cntN_s, cntN_s, cntN_cg k (fun i i0 i1 => h i i0 (by omega)), h ((k : Int) + 1) (by omega) (by omega)]
theorem sp_X6_nameAt {μ : nMem} {ε : nEnv} {Q : nOut → nMem → nEnv → Prop} {A : AS} {nb vb d p : Int} {t : Nat} (hM : MC A nb vb μ ε) (hcap : Cap μ ε (t + 1)) (hnb : nb + 1 ≤ 2000) (hvb : vb + 2 ≤ 4000) (r1 : inR d) (r2 : inR p) (h : ∀ μ9 ε9, MC (actNameAt A d p).2 (nb + 1) (vb + 2) μ9 ε9 → Cap μ9 ε9 t → FrN μ ε μ9 ε9 → Q (oc (actNameAt A d p).1) μ9 ε9) : Sp mX6_nameAt [vR 1, vI d, vI p] μ ε Q := by
  refine Sp_of (L := [(0, vR 1), (1, vI d), (2, vI p)]) (by decide) rfl rfl (Nat.le_of_ble_eq_true rfl) ?_
  obtain ⟨S, hC6, hB, hIB, hDD, h56, hon⟩ := hM
  obtain ⟨hC, hL, hT⟩ := id hC6
  have hs := hC.1
  have hsT := hT.1
  have h20 := (hs 20 5 0 [] rfl (by decide)).1
  have hroom := Cap_room hcap
  have hF6 := Fr6_refl μ ε
  have hC6c := hC6
  unfold actNameAt at h
  unfold qD at h
  refine wq_aload_n (pc := 0) dX6_nameAt_0 rfl rfl ?_
  refine wq_iload_n (pc := 1) dX6_nameAt_1 rfl rfl ?_
  refine cVK_1 (pc := 2) dX6_nameAt_2 hs (cw_X6_48 _ rfl) (by decide) rfl ⟨by decide, by decide⟩ (Nat.le_of_ble_eq_true rfl) (sp_X6_directoryThere hC hDD hcap hT hB (by assumption) (fun hd hm hdr a ha => ?_) (fun hd e9 ht => ?_) (fun hd hn e9 ht => ?_))
  · skip
    refine kr_s ?_
    obtain ⟨fl, hP, hS⟩ := hon hd
    have ndk : ¬ dk A := fun z => by have z : fD (aF A) = 1 := z; omega
    have hdir : isDr A d := (isDr_iff hP hS d).mpr ⟨hm, hdr⟩
    rw [pI_0 ndk, pI_0 (fun z => z hdir)] at h
    have hfd : fl d = 1 := by rw [← hS.2.1 d hm]; exact hdr
    obtain ⟨gc, g5, g6, g3⟩ := hS.2.2.1 d hm hfd
    have e5 := (tAt_is hT ha).2.1 5 (by omega) (by omega)
    have b5 := (hB.2 _ hm).2.2.1 5 (by omega) (by omega)
    obtain ⟨az0, azI, azw, -⟩ := tAt_sh hT ha
    obtain ⟨hka, -, -⟩ := id azI
    refine wq_astore_n (pc := 5) (L' := [(3, _), (0, _), (1, _), (2, _)]) dX6_nameAt_5 rfl rfl (by decide) ?_
    refine wq_iload_n (pc := 6) dX6_nameAt_6 rfl rfl ?_
    refine wq_if_lt (pc := 7) (tgt := 18) dX6_nameAt_7 (by decide) (by first | (unfold inR; omega) | assumption) (fun c4 => ?_) (fun c4 => ?_)
    · skip
      rw [pI_1 (show ¬ (0 ≤ p ∧ p < cntN (TG (aF A) d) 99) by omega)] at h
      refine wq_throw (pc := 18) dX6_nameAt_18 dX6_nameAt_21 dX6_nameAt_22 dX6_nameAt_24 dX6_nameAt_27 rfl th_X ks_X6_204 (by decide) (by decide) (Nat.le_of_ble_eq_true rfl) hroom (fun ε' ht => ?_)
      first
        | (have fin := MC_q hC6 hB hIB hDD h56 hon hnb
           have fcap := Cap_mono hcap (Nat.le_succ t)
           have ffr := FrN_6 (Fr6_refl μ ε)
           rw [nmAt_is (q := q) q1 (by rw [← hcell q (by omega) (by omega)]; exact q3) (by rw [← q4]; exact (cntN_cg (q - 1) (fun i i0 i1 => hcell i i0 (by omega))).symm) 99 (by omega)] at h
           exact h _ _ fin fcap ffr)
        | (have fin := MC_q hC6 hB hIB hDD h56 hon hnb
           have fcap := Cap_mono hcap (Nat.le_succ t)
           have ffr := FrN_6 (Fr6_refl μ ε)
           obtain ⟨q, z1, z2, z3, z4⟩ := cntN_get hp9.1 99 hp9.2
           exact absurd ((cntN_cg (q - 1) (fun i i0 i1 => hcell i i0 (by omega))).trans z4) (hno q z1 z2 (by rw [hcell q (by omega) (by omega)]; exact z3)))
        | (obtain ⟨m9, c9, f9⟩ := MC_x hC6c hB hIB hDD h56 hon hnb hcap hF6 ht; exact h _ _ m9 c9 f9)
    · skip
      refine wq_iload_n (pc := 10) dX6_nameAt_10 rfl rfl ?_
      refine wq_aload_n (pc := 11) dX6_nameAt_11 rfl rfl ?_
      refine wq_getI (pc := 12) (kk := 5) dX6_nameAt_12 (gf_X6_103 _ rfl) (by with_reducible assumption) rfl rfl rfl ?_
      refine wq_icmp_lt (pc := 15) (tgt := 28) dX6_nameAt_15 (by decide) (by first | (unfold inR; omega) | assumption) (by first | (unfold inR; omega) | assumption) (fun c5 => ?_) (fun c5 => ?_)
      · skip
        have hp9 : 0 ≤ p ∧ p < cntN (TG (aF A) d) 99 := by omega
        rw [pI_0 (fun q => q hp9)] at h
        have hcell : ∀ i : Int, 1 ≤ i → i ≤ 99 → nCell μ ε a i = TG (aF A) d i := fun i i0 i1 => by rw [tAt_cell hT ha (by omega) (by omega)]; exact gc i ⟨i0, i1⟩
        refine wq_aload_n (pc := 28) dX6_nameAt_28 rfl rfl ?_
        refine wq_iload_n (pc := 29) dX6_nameAt_29 rfl rfl ?_
        refine cV_1 (pc := 30) dX6_nameAt_30 (cw_X6_207 _ rfl) (by decide) (by with_reducible assumption) ⟨by decide, by decide⟩ (Nat.le_of_ble_eq_true rfl) (sp_X1_nameBehind azI (by unfold inR; omega) (fun i => by have := nCell_r hB hT ha i; unfold inR; omega) (fun q q1 q2 q3 q4 => ?_) (fun hno => ?_))
        · skip
          refine kr_s ?_
          refine wq_iret (pc := 33) dX6_nameAt_33 rfl ?_
          first
            | (have fin := MC_q hC6 hB hIB hDD h56 hon hnb
               have fcap := Cap_mono hcap (Nat.le_succ t)
               have ffr := FrN_6 (Fr6_refl μ ε)
               rw [nmAt_is (q := q) q1 (by rw [← hcell q (by omega) (by omega)]; exact q3) (by rw [← q4]; exact (cntN_cg (q - 1) (fun i i0 i1 => hcell i i0 (by omega))).symm) 99 (by omega)] at h
               exact h _ _ fin fcap ffr)
            | (have fin := MC_q hC6 hB hIB hDD h56 hon hnb
               have fcap := Cap_mono hcap (Nat.le_succ t)
               have ffr := FrN_6 (Fr6_refl μ ε)
               obtain ⟨q, z1, z2, z3, z4⟩ := cntN_get hp9.1 99 hp9.2
               exact absurd ((cntN_cg (q - 1) (fun i i0 i1 => hcell i i0 (by omega))).trans z4) (hno q z1 z2 (by rw [hcell q (by omega) (by omega)]; exact z3)))
            | (obtain ⟨m9, c9, f9⟩ := MC_x hC6c hB hIB hDD h56 hon hnb hcap hF6 ht; exact h _ _ m9 c9 f9)
        · skip
          refine kr_s ?_
          refine wq_iret (pc := 33) dX6_nameAt_33 rfl ?_
          first
            | (have fin := MC_q hC6 hB hIB hDD h56 hon hnb
               have fcap := Cap_mono hcap (Nat.le_succ t)
               have ffr := FrN_6 (Fr6_refl μ ε)
               rw [nmAt_is (q := q) q1 (by rw [← hcell q (by omega) (by omega)]; exact q3) (by rw [← q4]; exact (cntN_cg (q - 1) (fun i i0 i1 => hcell i i0 (by omega))).symm) 99 (by omega)] at h
               exact h _ _ fin fcap ffr)
            | (have fin := MC_q hC6 hB hIB hDD h56 hon hnb
               have fcap := Cap_mono hcap (Nat.le_succ t)
               have ffr := FrN_6 (Fr6_refl μ ε)
               obtain ⟨q, z1, z2, z3, z4⟩ := cntN_get hp9.1 99 hp9.2
               exact absurd ((cntN_cg (q - 1) (fun i i0 i1 => hcell i i0 (by omega))).trans z4) (hno q z1 z2 (by rw [hcell q (by omega) (by omega)]; exact z3)))
            | (obtain ⟨m9, c9, f9⟩ := MC_x hC6c hB hIB hDD h56 hon hnb hcap hF6 ht; exact h _ _ m9 c9 f9)
      · skip
        rw [pI_1 (show ¬ (0 ≤ p ∧ p < cntN (TG (aF A) d) 99) by omega)] at h
        refine wq_throw (pc := 18) dX6_nameAt_18 dX6_nameAt_21 dX6_nameAt_22 dX6_nameAt_24 dX6_nameAt_27 rfl th_X ks_X6_204 (by decide) (by decide) (Nat.le_of_ble_eq_true rfl) hroom (fun ε' ht => ?_)
        first
          | (have fin := MC_q hC6 hB hIB hDD h56 hon hnb
             have fcap := Cap_mono hcap (Nat.le_succ t)
             have ffr := FrN_6 (Fr6_refl μ ε)
             rw [nmAt_is (q := q) q1 (by rw [← hcell q (by omega) (by omega)]; exact q3) (by rw [← q4]; exact (cntN_cg (q - 1) (fun i i0 i1 => hcell i i0 (by omega))).symm) 99 (by omega)] at h
             exact h _ _ fin fcap ffr)
          | (have fin := MC_q hC6 hB hIB hDD h56 hon hnb
             have fcap := Cap_mono hcap (Nat.le_succ t)
             have ffr := FrN_6 (Fr6_refl μ ε)
             obtain ⟨q, z1, z2, z3, z4⟩ := cntN_get hp9.1 99 hp9.2
             exact absurd ((cntN_cg (q - 1) (fun i i0 i1 => hcell i i0 (by omega))).trans z4) (hno q z1 z2 (by rw [hcell q (by omega) (by omega)]; exact z3)))
          | (obtain ⟨m9, c9, f9⟩ := MC_x hC6c hB hIB hDD h56 hon hnb hcap hF6 ht; exact h _ _ m9 c9 f9)
  · skip
    refine kr_x ?_
    rw [pI_1 (show dk A from hd)] at h
    first
      | (have fin := MC_q hC6 hB hIB hDD h56 hon hnb
         have fcap := Cap_mono hcap (Nat.le_succ t)
         have ffr := FrN_6 (Fr6_refl μ ε)
         rw [nmAt_is (q := q) q1 (by rw [← hcell q (by omega) (by omega)]; exact q3) (by rw [← q4]; exact (cntN_cg (q - 1) (fun i i0 i1 => hcell i i0 (by omega))).symm) 99 (by omega)] at h
         exact h _ _ fin fcap ffr)
      | (have fin := MC_q hC6 hB hIB hDD h56 hon hnb
         have fcap := Cap_mono hcap (Nat.le_succ t)
         have ffr := FrN_6 (Fr6_refl μ ε)
         obtain ⟨q, z1, z2, z3, z4⟩ := cntN_get hp9.1 99 hp9.2
         exact absurd ((cntN_cg (q - 1) (fun i i0 i1 => hcell i i0 (by omega))).trans z4) (hno q z1 z2 (by rw [hcell q (by omega) (by omega)]; exact z3)))
      | (obtain ⟨m9, c9, f9⟩ := MC_x hC6c hB hIB hDD h56 hon hnb hcap hF6 ht; exact h _ _ m9 c9 f9)
  · skip
    refine kr_x ?_
    obtain ⟨fl, hP, hS⟩ := hon hd
    have ndk : ¬ dk A := fun z => by have z : fD (aF A) = 1 := z; omega
    have hndir : ¬ isDr A d := fun z => by have z := (isDr_iff hP hS d).mp z; rcases hn with q | q; exact q z.1; exact q z.2
    rw [pI_0 ndk, pI_1 hndir] at h
    first
      | (have fin := MC_q hC6 hB hIB hDD h56 hon hnb
         have fcap := Cap_mono hcap (Nat.le_succ t)
         have ffr := FrN_6 (Fr6_refl μ ε)
         rw [nmAt_is (q := q) q1 (by rw [← hcell q (by omega) (by omega)]; exact q3) (by rw [← q4]; exact (cntN_cg (q - 1) (fun i i0 i1 => hcell i i0 (by omega))).symm) 99 (by omega)] at h
         exact h _ _ fin fcap ffr)
      | (have fin := MC_q hC6 hB hIB hDD h56 hon hnb
         have fcap := Cap_mono hcap (Nat.le_succ t)
         have ffr := FrN_6 (Fr6_refl μ ε)
         obtain ⟨q, z1, z2, z3, z4⟩ := cntN_get hp9.1 99 hp9.2
         exact absurd ((cntN_cg (q - 1) (fun i i0 i1 => hcell i i0 (by omega))).trans z4) (hno q z1 z2 (by rw [hcell q (by omega) (by omega)]; exact z3)))
      | (obtain ⟨m9, c9, f9⟩ := MC_x hC6c hB hIB hDD h56 hon hnb hcap hF6 ht; exact h _ _ m9 c9 f9)
theorem sp_X6_isDirectory {μ : nMem} {ε : nEnv} {Q : nOut → nMem → nEnv → Prop} {A : AS} {nb vb n9 : Int} {t : Nat} (hM : MC A nb vb μ ε) (hcap : Cap μ ε (t + 1)) (hnb : nb + 1 ≤ 2000) (hvb : vb + 2 ≤ 4000) (r1 : inR n9) (h : ∀ μ9 ε9, MC (actIsDir A n9).2 (nb + 1) (vb + 2) μ9 ε9 → Cap μ9 ε9 t → FrN μ ε μ9 ε9 → Q (oc (actIsDir A n9).1) μ9 ε9) : Sp mX6_isDirectory [vR 1, vI n9] μ ε Q := by
  refine Sp_of (L := [(0, vR 1), (1, vI n9)]) (by decide) rfl rfl (Nat.le_of_ble_eq_true rfl) ?_
  obtain ⟨S, hC6, hB, hIB, hDD, h56, hon⟩ := hM
  obtain ⟨hC, hL, hT⟩ := id hC6
  have hs := hC.1
  have hsT := hT.1
  have h20 := (hs 20 5 0 [] rfl (by decide)).1
  have hroom := Cap_room hcap
  have hF6 := Fr6_refl μ ε
  have hC6c := hC6
  unfold actIsDir at h
  refine wq_aload_n (pc := 0) dX6_isDirectory_0 rfl rfl ?_
  refine wq_iload_n (pc := 1) dX6_isDirectory_1 rfl rfl ?_
  refine cVK_1 (pc := 2) dX6_isDirectory_2 hs (cw_X6_210 _ rfl) (by decide) rfl ⟨by decide, by decide⟩ (Nat.le_of_ble_eq_true rfl) (sp_X6_itemThere hC hDD hcap hT hB (by assumption) (fun hd hm a ha => ?_) (fun hd e9 ht => ?_) (fun hd hn e9 ht => ?_))
  · skip
    refine kr_s ?_
    obtain ⟨fl, hP, hS⟩ := hon hd
    have ndk : ¬ dk A := fun z => by have z : fD (aF A) = 1 := z; omega
    have h2' := isDr_iff hP hS n9
    have h3' := isFl_iff hP hS n9
    have hf2 := hS.2.1 n9 hm
    have hf01 := hP.2.2.2.2.2.2.1.2.1 n9
    have hany : isDr A n9 ∨ isFl A n9 := by
      rcases hf01 with q | q
      · exact Or.inr (h3'.mpr ⟨hm, by omega⟩)
      · exact Or.inl (h2'.mpr ⟨hm, by omega⟩)
    rw [pI_0 ndk, pI_0 (fun z => z hany)] at h
    have e2 := (tAt_is hT ha).2.1 2 (by omega) (by omega)
    have e4 := (tAt_is hT ha).2.1 4 (by omega) (by omega)
    have e4l := IP_lk hP hS hm
    obtain ⟨az0, azI, azw, -⟩ := tAt_sh hT ha
    obtain ⟨hka, -, -⟩ := id azI
    refine wq_getI (pc := 5) (kk := 2) dX6_isDirectory_5 (gf_X6_127 _ rfl) (by with_reducible assumption) rfl rfl rfl ?_
    refine wq_zret (pc := 8) dX6_isDirectory_8 rfl (by first | omega | (simp; done) | assumption) ?_
    first
      | (have fin := MC_q hC6 hB hIB hDD h56 hon hnb
         have fcap := Cap_mono hcap (Nat.le_succ t)
         have ffr := FrN_6 (Fr6_refl μ ε)
         by_cases c : isDr A n9
         · rw [pI_1 c] at h; rw [e2, (h2'.mp c).2]; exact h _ _ fin fcap ffr
         · rw [pI_0 c] at h; rw [e2, hf2, show fl n9 = 0 by rcases hf01 with q | q; exact q; exact absurd (h2'.mpr ⟨hm, by omega⟩) c]; exact h _ _ fin fcap ffr)
      | (obtain ⟨m9, c9, f9⟩ := MC_x hC6c hB hIB hDD h56 hon hnb hcap hF6 ht; exact h _ _ m9 c9 f9)
  · skip
    refine kr_x ?_
    rw [pI_1 (show dk A from hd)] at h
    first
      | (have fin := MC_q hC6 hB hIB hDD h56 hon hnb
         have fcap := Cap_mono hcap (Nat.le_succ t)
         have ffr := FrN_6 (Fr6_refl μ ε)
         by_cases c : isDr A n9
         · rw [pI_1 c] at h; rw [e2, (h2'.mp c).2]; exact h _ _ fin fcap ffr
         · rw [pI_0 c] at h; rw [e2, hf2, show fl n9 = 0 by rcases hf01 with q | q; exact q; exact absurd (h2'.mpr ⟨hm, by omega⟩) c]; exact h _ _ fin fcap ffr)
      | (obtain ⟨m9, c9, f9⟩ := MC_x hC6c hB hIB hDD h56 hon hnb hcap hF6 ht; exact h _ _ m9 c9 f9)
  · skip
    refine kr_x ?_
    obtain ⟨fl, hP, hS⟩ := hon hd
    have ndk : ¬ dk A := fun z => by have z : fD (aF A) = 1 := z; omega
    have hnany : ¬ (isDr A n9 ∨ isFl A n9) := fun z => by rcases z with z | z; exact hn ((isDr_iff hP hS n9).mp z).1; exact hn ((isFl_iff hP hS n9).mp z).1
    rw [pI_0 ndk, pI_1 hnany] at h
    first
      | (have fin := MC_q hC6 hB hIB hDD h56 hon hnb
         have fcap := Cap_mono hcap (Nat.le_succ t)
         have ffr := FrN_6 (Fr6_refl μ ε)
         by_cases c : isDr A n9
         · rw [pI_1 c] at h; rw [e2, (h2'.mp c).2]; exact h _ _ fin fcap ffr
         · rw [pI_0 c] at h; rw [e2, hf2, show fl n9 = 0 by rcases hf01 with q | q; exact q; exact absurd (h2'.mpr ⟨hm, by omega⟩) c]; exact h _ _ fin fcap ffr)
      | (obtain ⟨m9, c9, f9⟩ := MC_x hC6c hB hIB hDD h56 hon hnb hcap hF6 ht; exact h _ _ m9 c9 f9)
theorem sp_X6_links {μ : nMem} {ε : nEnv} {Q : nOut → nMem → nEnv → Prop} {A : AS} {nb vb n9 : Int} {t : Nat} (hM : MC A nb vb μ ε) (hcap : Cap μ ε (t + 1)) (hnb : nb + 1 ≤ 2000) (hvb : vb + 2 ≤ 4000) (r1 : inR n9) (h : ∀ μ9 ε9, MC (actLinks A n9).2 (nb + 1) (vb + 2) μ9 ε9 → Cap μ9 ε9 t → FrN μ ε μ9 ε9 → Q (oc (actLinks A n9).1) μ9 ε9) : Sp mX6_links [vR 1, vI n9] μ ε Q := by
  refine Sp_of (L := [(0, vR 1), (1, vI n9)]) (by decide) rfl rfl (Nat.le_of_ble_eq_true rfl) ?_
  obtain ⟨S, hC6, hB, hIB, hDD, h56, hon⟩ := hM
  obtain ⟨hC, hL, hT⟩ := id hC6
  have hs := hC.1
  have hsT := hT.1
  have h20 := (hs 20 5 0 [] rfl (by decide)).1
  have hroom := Cap_room hcap
  have hF6 := Fr6_refl μ ε
  have hC6c := hC6
  unfold actLinks at h
  refine wq_aload_n (pc := 0) dX6_links_0 rfl rfl ?_
  refine wq_iload_n (pc := 1) dX6_links_1 rfl rfl ?_
  refine cVK_1 (pc := 2) dX6_links_2 hs (cw_X6_210 _ rfl) (by decide) rfl ⟨by decide, by decide⟩ (Nat.le_of_ble_eq_true rfl) (sp_X6_itemThere hC hDD hcap hT hB (by assumption) (fun hd hm a ha => ?_) (fun hd e9 ht => ?_) (fun hd hn e9 ht => ?_))
  · skip
    refine kr_s ?_
    obtain ⟨fl, hP, hS⟩ := hon hd
    have ndk : ¬ dk A := fun z => by have z : fD (aF A) = 1 := z; omega
    have h2' := isDr_iff hP hS n9
    have h3' := isFl_iff hP hS n9
    have hf2 := hS.2.1 n9 hm
    have hf01 := hP.2.2.2.2.2.2.1.2.1 n9
    have hany : isDr A n9 ∨ isFl A n9 := by
      rcases hf01 with q | q
      · exact Or.inr (h3'.mpr ⟨hm, by omega⟩)
      · exact Or.inl (h2'.mpr ⟨hm, by omega⟩)
    rw [pI_0 ndk, pI_0 (fun z => z hany)] at h
    have e2 := (tAt_is hT ha).2.1 2 (by omega) (by omega)
    have e4 := (tAt_is hT ha).2.1 4 (by omega) (by omega)
    have e4l := IP_lk hP hS hm
    obtain ⟨az0, azI, azw, -⟩ := tAt_sh hT ha
    obtain ⟨hka, -, -⟩ := id azI
    refine wq_getI (pc := 5) (kk := 4) dX6_links_5 (gf_X6_96 _ rfl) (by with_reducible assumption) rfl rfl rfl ?_
    refine wq_iret (pc := 8) dX6_links_8 rfl ?_
    first
      | (have fin := MC_q hC6 hB hIB hDD h56 hon hnb
         have fcap := Cap_mono hcap (Nat.le_succ t)
         have ffr := FrN_6 (Fr6_refl μ ε)
         rw [e4, e4l]
         exact h _ _ fin fcap ffr)
      | (obtain ⟨m9, c9, f9⟩ := MC_x hC6c hB hIB hDD h56 hon hnb hcap hF6 ht; exact h _ _ m9 c9 f9)
  · skip
    refine kr_x ?_
    rw [pI_1 (show dk A from hd)] at h
    first
      | (have fin := MC_q hC6 hB hIB hDD h56 hon hnb
         have fcap := Cap_mono hcap (Nat.le_succ t)
         have ffr := FrN_6 (Fr6_refl μ ε)
         rw [e4, e4l]
         exact h _ _ fin fcap ffr)
      | (obtain ⟨m9, c9, f9⟩ := MC_x hC6c hB hIB hDD h56 hon hnb hcap hF6 ht; exact h _ _ m9 c9 f9)
  · skip
    refine kr_x ?_
    obtain ⟨fl, hP, hS⟩ := hon hd
    have ndk : ¬ dk A := fun z => by have z : fD (aF A) = 1 := z; omega
    have hnany : ¬ (isDr A n9 ∨ isFl A n9) := fun z => by rcases z with z | z; exact hn ((isDr_iff hP hS n9).mp z).1; exact hn ((isFl_iff hP hS n9).mp z).1
    rw [pI_0 ndk, pI_1 hnany] at h
    first
      | (have fin := MC_q hC6 hB hIB hDD h56 hon hnb
         have fcap := Cap_mono hcap (Nat.le_succ t)
         have ffr := FrN_6 (Fr6_refl μ ε)
         rw [e4, e4l]
         exact h _ _ fin fcap ffr)
      | (obtain ⟨m9, c9, f9⟩ := MC_x hC6c hB hIB hDD h56 hon hnb hcap hF6 ht; exact h _ _ m9 c9 f9)
theorem sp_X6_length {μ : nMem} {ε : nEnv} {Q : nOut → nMem → nEnv → Prop} {A : AS} {nb vb f : Int} {t : Nat} (hM : MC A nb vb μ ε) (hcap : Cap μ ε (t + 1)) (hnb : nb + 1 ≤ 2000) (hvb : vb + 2 ≤ 4000) (r1 : inR f) (h : ∀ μ9 ε9, MC (actLength A f).2 (nb + 1) (vb + 2) μ9 ε9 → Cap μ9 ε9 t → FrN μ ε μ9 ε9 → Q (oc (actLength A f).1) μ9 ε9) : Sp mX6_length [vR 1, vI f] μ ε Q := by
  refine Sp_of (L := [(0, vR 1), (1, vI f)]) (by decide) rfl rfl (Nat.le_of_ble_eq_true rfl) ?_
  obtain ⟨S, hC6, hB, hIB, hDD, h56, hon⟩ := hM
  obtain ⟨hC, hL, hT⟩ := id hC6
  have hs := hC.1
  have hsT := hT.1
  have h20 := (hs 20 5 0 [] rfl (by decide)).1
  have hroom := Cap_room hcap
  have hF6 := Fr6_refl μ ε
  have hC6c := hC6
  unfold actLength at h
  unfold qF at h
  refine wq_aload_n (pc := 0) dX6_length_0 rfl rfl ?_
  refine wq_iload_n (pc := 1) dX6_length_1 rfl rfl ?_
  refine cVK_1 (pc := 2) dX6_length_2 hs (cw_X6_93 _ rfl) (by decide) rfl ⟨by decide, by decide⟩ (Nat.le_of_ble_eq_true rfl) (sp_X6_fileThere hC hDD hcap hT hB (by assumption) (fun hd hm hdr a ha => ?_) (fun hd e9 ht => ?_) (fun hd hn e9 ht => ?_))
  · skip
    refine kr_s ?_
    obtain ⟨fl, hP, hS⟩ := hon hd
    have ndk : ¬ dk A := fun z => by have z : fD (aF A) = 1 := z; omega
    have hfil : isFl A f := (isFl_iff hP hS f).mpr ⟨hm, hdr⟩
    rw [pI_0 ndk, pI_0 (fun z => z hfil)] at h
    have hff : fl f = 0 := by rw [← hS.2.1 f hm]; exact hdr
    have fb := IP_f hP hS hm hff
    have hv9 := hP.2.2.2.2.2.2.2.2.1 f
    have hx8 := hP.2.2.2.2.2.2.2.1
    obtain ⟨g6, gc, g5, g3⟩ := hS.2.2.2.1 f hm hff
    have hLb := LN_b (PA_NS hP.2.1) f
    obtain ⟨az0, azI, azw, -⟩ := tAt_sh hT ha
    obtain ⟨hka, -, -⟩ := id azI
    refine wq_getI (pc := 5) (kk := 6) dX6_length_5 (gf_X6_138 _ rfl) (by with_reducible assumption) rfl rfl rfl ?_
    refine wq_iret (pc := 8) dX6_length_8 rfl ?_
    first
      | (have fin := MC_q hC6 hB hIB hDD h56 hon hnb
         have fcap := Cap_mono hcap (Nat.le_succ t)
         have ffr := FrN_6 (Fr6_refl μ ε)
         rw [(tAt_is hT ha).2.1 6 (by omega) (by omega), g6]
         exact h _ _ fin fcap ffr)
      | (obtain ⟨m9, c9, f9⟩ := MC_x hC6c hB hIB hDD h56 hon hnb hcap hF6 ht; exact h _ _ m9 c9 f9)
  · skip
    refine kr_x ?_
    rw [pI_1 (show dk A from hd)] at h
    first
      | (have fin := MC_q hC6 hB hIB hDD h56 hon hnb
         have fcap := Cap_mono hcap (Nat.le_succ t)
         have ffr := FrN_6 (Fr6_refl μ ε)
         rw [(tAt_is hT ha).2.1 6 (by omega) (by omega), g6]
         exact h _ _ fin fcap ffr)
      | (obtain ⟨m9, c9, f9⟩ := MC_x hC6c hB hIB hDD h56 hon hnb hcap hF6 ht; exact h _ _ m9 c9 f9)
  · skip
    refine kr_x ?_
    obtain ⟨fl, hP, hS⟩ := hon hd
    have ndk : ¬ dk A := fun z => by have z : fD (aF A) = 1 := z; omega
    have hnfil : ¬ isFl A f := fun z => by have z := (isFl_iff hP hS f).mp z; rcases hn with q | q; exact q z.1; exact q z.2
    rw [pI_0 ndk, pI_1 hnfil] at h
    first
      | (have fin := MC_q hC6 hB hIB hDD h56 hon hnb
         have fcap := Cap_mono hcap (Nat.le_succ t)
         have ffr := FrN_6 (Fr6_refl μ ε)
         rw [(tAt_is hT ha).2.1 6 (by omega) (by omega), g6]
         exact h _ _ fin fcap ffr)
      | (obtain ⟨m9, c9, f9⟩ := MC_x hC6c hB hIB hDD h56 hon hnb hcap hF6 ht; exact h _ _ m9 c9 f9)
theorem sp_X6_byteAt {μ : nMem} {ε : nEnv} {Q : nOut → nMem → nEnv → Prop} {A : AS} {nb vb f p : Int} {t : Nat} (hM : MC A nb vb μ ε) (hcap : Cap μ ε (t + 1)) (hnb : nb + 1 ≤ 2000) (hvb : vb + 2 ≤ 4000) (r1 : inR f) (r2 : inR p) (h : ∀ μ9 ε9, MC (actByteAt A f p).2 (nb + 1) (vb + 2) μ9 ε9 → Cap μ9 ε9 t → FrN μ ε μ9 ε9 → Q (oc (actByteAt A f p).1) μ9 ε9) : Sp mX6_byteAt [vR 1, vI f, vI p] μ ε Q := by
  refine Sp_of (L := [(0, vR 1), (1, vI f), (2, vI p)]) (by decide) rfl rfl (Nat.le_of_ble_eq_true rfl) ?_
  obtain ⟨S, hC6, hB, hIB, hDD, h56, hon⟩ := hM
  obtain ⟨hC, hL, hT⟩ := id hC6
  have hs := hC.1
  have hsT := hT.1
  have h20 := (hs 20 5 0 [] rfl (by decide)).1
  have hroom := Cap_room hcap
  have hF6 := Fr6_refl μ ε
  have hC6c := hC6
  unfold actByteAt at h
  unfold qF at h
  refine wq_aload_n (pc := 0) dX6_byteAt_0 rfl rfl ?_
  refine wq_iload_n (pc := 1) dX6_byteAt_1 rfl rfl ?_
  refine cVK_1 (pc := 2) dX6_byteAt_2 hs (cw_X6_93 _ rfl) (by decide) rfl ⟨by decide, by decide⟩ (Nat.le_of_ble_eq_true rfl) (sp_X6_fileThere hC hDD hcap hT hB (by assumption) (fun hd hm hdr a ha => ?_) (fun hd e9 ht => ?_) (fun hd hn e9 ht => ?_))
  · skip
    refine kr_s ?_
    obtain ⟨fl, hP, hS⟩ := hon hd
    have ndk : ¬ dk A := fun z => by have z : fD (aF A) = 1 := z; omega
    have hfil : isFl A f := (isFl_iff hP hS f).mpr ⟨hm, hdr⟩
    rw [pI_0 ndk, pI_0 (fun z => z hfil)] at h
    have hff : fl f = 0 := by rw [← hS.2.1 f hm]; exact hdr
    have fb := IP_f hP hS hm hff
    have hv9 := hP.2.2.2.2.2.2.2.2.1 f
    have hx8 := hP.2.2.2.2.2.2.2.1
    obtain ⟨g6, gc, g5, g3⟩ := hS.2.2.2.1 f hm hff
    have hLb := LN_b (PA_NS hP.2.1) f
    obtain ⟨az0, azI, azw, -⟩ := tAt_sh hT ha
    obtain ⟨hka, -, -⟩ := id azI
    refine wq_astore_n (pc := 5) (L' := [(3, _), (0, _), (1, _), (2, _)]) dX6_byteAt_5 rfl rfl (by decide) ?_
    refine wq_aload_n (pc := 6) dX6_byteAt_6 rfl rfl ?_
    refine wq_aload_n (pc := 7) dX6_byteAt_7 rfl rfl ?_
    refine wq_iload_n (pc := 8) dX6_byteAt_8 rfl rfl ?_
    refine cVK_2 (pc := 9) dX6_byteAt_9 hs (cw_X6_213 _ rfl) (by decide) rfl ⟨by decide, by decide⟩ (Nat.le_of_ble_eq_true rfl) (sp_X6_refuseWrongPlace hcap hT hB ha r2 (fun hpl => ?_) (fun hpl e9 ht => ?_))
    · skip
      refine kr_v ?_
      rw [g6] at hpl
      rw [pI_0 (fun q => q hpl)] at h
      refine wq_aload_n (pc := 12) dX6_byteAt_12 rfl rfl ?_
      refine wq_iload_n (pc := 13) dX6_byteAt_13 rfl rfl ?_
      refine cV_1 (pc := 14) dX6_byteAt_14 (cw_X6_116 _ rfl) (by decide) (by with_reducible assumption) ⟨by decide, by decide⟩ (Nat.le_of_ble_eq_true rfl) (sp_X1_cell azI (by unfold inR; omega) ?_)
      refine kr_s ?_
      rw [tAt_cell hT ha (by omega) (by omega), gc p (by omega) (by omega)]
      refine wq_iret (pc := 17) dX6_byteAt_17 rfl ?_
      first
        | (have fin := MC_q hC6 hB hIB hDD h56 hon hnb
           have fcap := Cap_mono hcap (Nat.le_succ t)
           have ffr := FrN_6 (Fr6_refl μ ε)
           exact h _ _ fin fcap ffr)
        | (obtain ⟨m9, c9, f9⟩ := MC_x hC6c hB hIB hDD h56 hon hnb hcap hF6 ht; exact h _ _ m9 c9 f9)
    · skip
      refine kr_x ?_
      rw [g6] at hpl
      rw [pI_1 hpl] at h
      first
        | (have fin := MC_q hC6 hB hIB hDD h56 hon hnb
           have fcap := Cap_mono hcap (Nat.le_succ t)
           have ffr := FrN_6 (Fr6_refl μ ε)
           exact h _ _ fin fcap ffr)
        | (obtain ⟨m9, c9, f9⟩ := MC_x hC6c hB hIB hDD h56 hon hnb hcap hF6 ht; exact h _ _ m9 c9 f9)
  · skip
    refine kr_x ?_
    rw [pI_1 (show dk A from hd)] at h
    first
      | (have fin := MC_q hC6 hB hIB hDD h56 hon hnb
         have fcap := Cap_mono hcap (Nat.le_succ t)
         have ffr := FrN_6 (Fr6_refl μ ε)
         exact h _ _ fin fcap ffr)
      | (obtain ⟨m9, c9, f9⟩ := MC_x hC6c hB hIB hDD h56 hon hnb hcap hF6 ht; exact h _ _ m9 c9 f9)
  · skip
    refine kr_x ?_
    obtain ⟨fl, hP, hS⟩ := hon hd
    have ndk : ¬ dk A := fun z => by have z : fD (aF A) = 1 := z; omega
    have hnfil : ¬ isFl A f := fun z => by have z := (isFl_iff hP hS f).mp z; rcases hn with q | q; exact q z.1; exact q z.2
    rw [pI_0 ndk, pI_1 hnfil] at h
    first
      | (have fin := MC_q hC6 hB hIB hDD h56 hon hnb
         have fcap := Cap_mono hcap (Nat.le_succ t)
         have ffr := FrN_6 (Fr6_refl μ ε)
         exact h _ _ fin fcap ffr)
      | (obtain ⟨m9, c9, f9⟩ := MC_x hC6c hB hIB hDD h56 hon hnb hcap hF6 ht; exact h _ _ m9 c9 f9)
theorem sp_X6_byteByNodes {μ : nMem} {ε : nEnv} {Q : nOut → nMem → nEnv → Prop} {A : AS} {nb vb f p : Int} {t : Nat} (hM : MC A nb vb μ ε) (hcap : Cap μ ε (t + 1)) (hnb : nb + 1 ≤ 2000) (hvb : vb + 2 ≤ 4000) (r1 : inR f) (r2 : inR p) (h : ∀ μ9 ε9, MC (actByteAt A f p).2 (nb + 1) (vb + 2) μ9 ε9 → Cap μ9 ε9 t → FrN μ ε μ9 ε9 → Q (oc (actByteAt A f p).1) μ9 ε9) : Sp mX6_byteByNodes [vR 1, vI f, vI p] μ ε Q := by
  refine Sp_of (L := [(0, vR 1), (1, vI f), (2, vI p)]) (by decide) rfl rfl (Nat.le_of_ble_eq_true rfl) ?_
  obtain ⟨S, hC6, hB, hIB, hDD, h56, hon⟩ := hM
  obtain ⟨hC, hL, hT⟩ := id hC6
  have hs := hC.1
  have hsT := hT.1
  have h20 := (hs 20 5 0 [] rfl (by decide)).1
  have hroom := Cap_room hcap
  have hF6 := Fr6_refl μ ε
  have hC6c := hC6
  unfold actByteAt at h
  unfold qF at h
  refine wq_aload_n (pc := 0) dX6_byteByNodes_0 rfl rfl ?_
  refine wq_aload_n (pc := 1) dX6_byteByNodes_1 rfl rfl ?_
  refine wq_iload_n (pc := 2) dX6_byteByNodes_2 rfl rfl ?_
  refine cVK_1 (pc := 3) dX6_byteByNodes_3 hs (cw_X6_93 _ rfl) (by decide) rfl ⟨by decide, by decide⟩ (Nat.le_of_ble_eq_true rfl) (sp_X6_fileThere hC hDD hcap hT hB (by assumption) (fun hd hm hdr a ha => ?_) (fun hd e9 ht => ?_) (fun hd hn e9 ht => ?_))
  · skip
    refine kr_s ?_
    obtain ⟨fl, hP, hS⟩ := hon hd
    have ndk : ¬ dk A := fun z => by have z : fD (aF A) = 1 := z; omega
    have hfil : isFl A f := (isFl_iff hP hS f).mpr ⟨hm, hdr⟩
    rw [pI_0 ndk, pI_0 (fun z => z hfil)] at h
    have hff : fl f = 0 := by rw [← hS.2.1 f hm]; exact hdr
    have fb := IP_f hP hS hm hff
    have hv9 := hP.2.2.2.2.2.2.2.2.1 f
    have hx8 := hP.2.2.2.2.2.2.2.1
    obtain ⟨g6, gc, g5, g3⟩ := hS.2.2.2.1 f hm hff
    have hLb := LN_b (PA_NS hP.2.1) f
    obtain ⟨az0, azI, azw, -⟩ := tAt_sh hT ha
    obtain ⟨hka, -, -⟩ := id azI
    refine wq_iload_n (pc := 6) dX6_byteByNodes_6 rfl rfl ?_
    refine cVK_2 (pc := 7) dX6_byteByNodes_7 hs (cw_X6_213 _ rfl) (by decide) rfl ⟨by decide, by decide⟩ (Nat.le_of_ble_eq_true rfl) (sp_X6_refuseWrongPlace hcap hT hB ha r2 (fun hpl => ?_) (fun hpl e9 ht => ?_))
    · skip
      refine kr_v ?_
      rw [g6] at hpl
      rw [pI_0 (fun q => q hpl)] at h
      refine wq_aload_n (pc := 10) dX6_byteByNodes_10 rfl rfl ?_
      refine wq_getS (pc := 11) dX6_byteByNodes_11 hs (gf_X6_10 _ rfl) rfl rfl rfl rfl rfl ?_
      refine wq_iconst (pc := 14) dX6_byteByNodes_14 ?_
      refine wq_iload_n (pc := 15) dX6_byteByNodes_15 rfl rfl ?_
      refine wq_iload_n (pc := 16) dX6_byteByNodes_16 rfl rfl ?_
      refine wq_ldc (pc := 17) dX6_byteByNodes_17 (kc_X6_216 _ rfl) ?_
      refine cVK_4 (pc := 19) dX6_byteByNodes_19 hs (cw_X6_217 _ rfl) (by decide) rfl ⟨by decide, by decide⟩ (Nat.le_of_ble_eq_true rfl) (sp_X0_newest hs hC.2.1 (by unfold inR; omega) (by unfold inR; omega) (by omega) (by unfold inR; omega) ?_)
      refine kr_s ?_
      rw [qNew_of hC 1 f p 2147483647 128 (Nat.le_refl _)]
      have hxr := qNew_r (aF A) 1 f p 2147483647 128
      unfold BY at h
      generalize hxe : qNew (aF A) 1 f p 2147483647 128 = x at hxr h ⊢
      have hx0 := qAd_0 (μ := μ) hC.2.1 (i := x)
      refine wq_astore_n (pc := 22) (L' := [(3, _), (0, _), (1, _), (2, _)]) dX6_byteByNodes_22 rfl rfl (by decide) ?_
      refine wq_aload_n (pc := 23) dX6_byteByNodes_23 rfl rfl ?_
      refine wq_ifnonnull (pc := 24) (tgt := 31) dX6_byteByNodes_24 (by decide)  (fun c6 => ?_) (fun c6 => ?_)
      · skip
        have hq9 : x ≠ -1 := fun z => c6 (hx0.mpr z)
        have qe : qAd μ x = nRow μ x := by unfold qAd; rw [if_neg hq9]
        have qk : eKind ε (qAd μ x) = 5 := by rw [qe]; exact nRow_kd hs hC.2.1 x
        have qb2 : nB μ (qAd μ x) := by rw [qe]; exact nRow_nB hC.2.1 x
        have hby : nByteFor μ (qAd μ x) p = fByteFor (aF A) x p := by rw [qe]; exact fByteFor_of hC (by omega) (by omega) p
        unfold qByt at h
        rw [if_neg hq9] at h
        refine wq_aload_n (pc := 31) dX6_byteByNodes_31 rfl rfl ?_
        refine wq_iload_n (pc := 32) dX6_byteByNodes_32 rfl rfl ?_
        refine cV_1 (pc := 33) dX6_byteByNodes_33 (cw_X6_221 _ rfl) (by decide) (by with_reducible assumption) ⟨by decide, by decide⟩ (Nat.le_of_ble_eq_true rfl) (sp_X4_byteFor qk qb2 (by omega) ?_)
        refine kr_s ?_
        rw [hby]
        refine wq_iret (pc := 36) dX6_byteByNodes_36 rfl ?_
        first
          | (have fin := MC_q hC6 hB hIB hDD h56 hon hnb
             have fcap := Cap_mono hcap (Nat.le_succ t)
             have ffr := FrN_6 (Fr6_refl μ ε)
             exact h _ _ fin fcap ffr)
          | (obtain ⟨m9, c9, f9⟩ := MC_x hC6c hB hIB hDD h56 hon hnb hcap hF6 ht; exact h _ _ m9 c9 f9)
      · skip
        have hq9 := hx0.mp c6
        unfold qByt at h
        rw [if_pos hq9] at h
        refine wq_iconst (pc := 27) dX6_byteByNodes_27 ?_
        refine wq_goto (pc := 28) (tgt := 36) dX6_byteByNodes_28 (by decide) ?_
        refine wq_iret (pc := 36) dX6_byteByNodes_36 rfl ?_
        first
          | (have fin := MC_q hC6 hB hIB hDD h56 hon hnb
             have fcap := Cap_mono hcap (Nat.le_succ t)
             have ffr := FrN_6 (Fr6_refl μ ε)
             exact h _ _ fin fcap ffr)
          | (obtain ⟨m9, c9, f9⟩ := MC_x hC6c hB hIB hDD h56 hon hnb hcap hF6 ht; exact h _ _ m9 c9 f9)
    · skip
      refine kr_x ?_
      rw [g6] at hpl
      rw [pI_1 hpl] at h
      first
        | (have fin := MC_q hC6 hB hIB hDD h56 hon hnb
           have fcap := Cap_mono hcap (Nat.le_succ t)
           have ffr := FrN_6 (Fr6_refl μ ε)
           exact h _ _ fin fcap ffr)
        | (obtain ⟨m9, c9, f9⟩ := MC_x hC6c hB hIB hDD h56 hon hnb hcap hF6 ht; exact h _ _ m9 c9 f9)
  · skip
    refine kr_x ?_
    rw [pI_1 (show dk A from hd)] at h
    first
      | (have fin := MC_q hC6 hB hIB hDD h56 hon hnb
         have fcap := Cap_mono hcap (Nat.le_succ t)
         have ffr := FrN_6 (Fr6_refl μ ε)
         exact h _ _ fin fcap ffr)
      | (obtain ⟨m9, c9, f9⟩ := MC_x hC6c hB hIB hDD h56 hon hnb hcap hF6 ht; exact h _ _ m9 c9 f9)
  · skip
    refine kr_x ?_
    obtain ⟨fl, hP, hS⟩ := hon hd
    have ndk : ¬ dk A := fun z => by have z : fD (aF A) = 1 := z; omega
    have hnfil : ¬ isFl A f := fun z => by have z := (isFl_iff hP hS f).mp z; rcases hn with q | q; exact q z.1; exact q z.2
    rw [pI_0 ndk, pI_1 hnfil] at h
    first
      | (have fin := MC_q hC6 hB hIB hDD h56 hon hnb
         have fcap := Cap_mono hcap (Nat.le_succ t)
         have ffr := FrN_6 (Fr6_refl μ ε)
         exact h _ _ fin fcap ffr)
      | (obtain ⟨m9, c9, f9⟩ := MC_x hC6c hB hIB hDD h56 hon hnb hcap hF6 ht; exact h _ _ m9 c9 f9)
