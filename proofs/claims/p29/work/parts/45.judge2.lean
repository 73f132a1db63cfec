theorem jAnd_r (x y : Int) : inL (jAnd x y) := by
  unfold inL jAnd
  have h1 := Int64.le_toInt (Int64.ofInt x &&& Int64.ofInt y)
  have h2 := Int64.toInt_lt (Int64.ofInt x &&& Int64.ofInt y)
  omega
theorem nCmp_0 (x : Int) : nCmp x 0 = 0 ↔ x = 0 := by unfold nCmp; split <;> (try split) <;> omega
theorem nCmp_r (x y : Int) : inR (nCmp x y) := by unfold inR nCmp; split <;> (try split) <;> omega
/-- the flash without the rows that are passed over -/
def fHid (F : Fl) (Z : Int → Int) : Fl := (fun i k => if k = 0 ∧ Z i ≠ 0 then 0 else fN F i k, fU F, fC F, fE F, fL F, fD F)
theorem fHid_k (F : Fl) (Z : Int → Int) (i k : Int) (h : k ≠ 0) : fN (fHid F Z) i k = fN F i k := by
  show (if k = 0 ∧ Z i ≠ 0 then 0 else fN F i k) = _
  rw [if_neg (fun q => h q.1)]
theorem fHid_z (F : Fl) (Z : Int → Int) (i : Int) (h : Z i = 0) (k : Int) : fN (fHid F Z) i k = fN F i k := by
  show (if k = 0 ∧ Z i ≠ 0 then 0 else fN F i k) = _
  rw [if_neg (fun q => q.2 h)]
theorem fHid_n (F : Fl) (Z : Int → Int) (i : Int) (h : Z i ≠ 0) : fN (fHid F Z) i 0 = 0 := by
  show (if (0 : Int) = 0 ∧ Z i ≠ 0 then 0 else fN F i 0) = _
  rw [if_pos ⟨rfl, h⟩]
theorem fHid_0 (F : Fl) : fHid F (fun _ => 0) = F := by
  have : (fun i k => if k = 0 ∧ (fun _ => (0 : Int)) i ≠ 0 then (0 : Int) else fN F i k) = fN F := by
    funext i k; rw [if_neg (fun q => q.2 rfl)]
  show (_, fU F, fC F, fE F, fL F, fD F) = F
  simp only [this]; rfl
/-- the flash while a collection is thought through: the rows passed over are told -/
def CFz (Z : Int → Int) (F : Fl) (μ : nMem) (ε : nEnv) : Prop := SkP skC ε ∧ nRows μ ε ∧ (∀ i, 0 ≤ i → i < 128 → ∀ k, 0 ≤ k → k ≤ 11 → μ (nRow μ i) k = fN F i k) ∧ (∀ i, 0 ≤ i → i < 128 → μ (nRow μ i) 13 = Z i) ∧ (∀ b, 0 ≤ b → b < 8 → μ 4 b = fU F b ∧ μ 5 b = fC F b ∧ μ 6 b = fE F b) ∧ μ 2 5 = fL F ∧ μ 2 6 = fD F ∧ (∀ k, 0 ≤ k → k ≤ 13 → μ 7 k = 0)
theorem CFz_of {F : Fl} {μ : nMem} {ε : nEnv} (h : CF F μ ε) : CFz (fun _ => 0) F μ ε := by
  obtain ⟨c1, c2, c3, c4, c5⟩ := h
  exact ⟨c1, c2, c3, fun i _ _ => c4 i, c5⟩
theorem CF_of {F : Fl} {Z : Int → Int} {μ : nMem} {ε : nEnv} (h : CFz Z F μ ε) (hZ : ∀ i, 0 ≤ i → i < 128 → Z i = 0) : CF F μ ε := by
  obtain ⟨c1, c2, c3, c4, c5, c6, c7, c8⟩ := h
  refine ⟨c1, c2, c3, fun i => ?_, c5, c6, c7, c8⟩
  by_cases r : 0 ≤ i ∧ i < 128
  · rw [c4 i r.1 r.2, hZ i r.1 r.2]
  · rw [show nRow μ i = 7 by unfold nRow; rw [if_neg (fun q => r ⟨q.1, q.2.1⟩)]]
    exact c8 13 (by omega) (by omega)
theorem CFz_row {Z : Int → Int} {F : Fl} {μ : nMem} {ε : nEnv} (hC : CFz Z F μ ε) {i : Int} (h0 : 0 ≤ i) (h1 : i < 128) : (∀ k, 0 ≤ k → k ≤ 11 → μ (nRow μ i) k = fN F i k) ∧ μ (nRow μ i) 13 = Z i := ⟨hC.2.2.1 i h0 h1, hC.2.2.2.1 i h0 h1⟩
theorem rTz_of {Z : Int → Int} {F : Fl} {μ : nMem} {ε : nEnv} (hC : CFz Z F μ ε) {i : Int} (h0 : 0 ≤ i) (h1 : i < 128) (kd nb : Int) (hk : kd ≠ 0) : nTells μ (nRow μ i) kd nb ↔ rT (fHid F Z) i kd nb := by
  obtain ⟨a, b⟩ := CFz_row hC h0 h1
  unfold nTells rT
  rw [a 0 (by omega) (by omega), a 1 (by omega) (by omega), a 2 (by omega) (by omega), a 3 (by omega) (by omega), b, fHid_k _ _ _ 3 (by decide), fHid_k _ _ _ 2 (by decide), fHid_k _ _ _ 1 (by decide)]
  by_cases z : Z i = 0
  · rw [fHid_z _ _ _ z]; simp [z]
  · rw [fHid_n _ _ _ z]
    exact ⟨fun q => absurd q.2.2.2 z, fun q => absurd q.1.symm hk⟩
theorem rSz_of {Z : Int → Int} {F : Fl} {μ : nMem} {ε : nEnv} (hC : CFz Z F μ ε) {i : Int} (h0 : 0 ≤ i) (h1 : i < 128) (key : Int) (z : Z i = 0) : nSettles μ (nRow μ i) key ↔ rS (fHid F Z) i key := by
  obtain ⟨a, b⟩ := CFz_row hC h0 h1
  unfold nSettles rS
  rw [a 0 (by omega) (by omega), a 5 (by omega) (by omega), a 6 (by omega) (by omega), a 9 (by omega) (by omega), fHid_z _ _ _ z, fHid_z _ _ _ z, fHid_z _ _ _ z, fHid_z _ _ _ z]
theorem rT_nz {F : Fl} {Z : Int → Int} {i kd nb : Int} (hk : kd ≠ 0) (h : rT (fHid F Z) i kd nb) : Z i = 0 := by
  by_cases z : Z i = 0
  · exact z
  · have := h.1; rw [fHid_n _ _ _ z] at this; exact absurd this.symm hk
theorem qNewz_of {Z : Int → Int} {F : Fl} {μ : nMem} {ε : nEnv} (hC : CFz Z F μ ε) (kd nb key below : Int) (hk : kd ≠ 0) : ∀ n : Nat, n ≤ 128 → fNewest μ kd nb key below n = qAd μ (qNew (fHid F Z) kd nb key below n) := by
  intro n
  induction n with
  | zero => intro _; rfl
  | succ n ih =>
    intro hn
    have ih := ih (by omega)
    obtain ⟨a, b⟩ := CFz_row hC (i := n) (by omega) (by omega)
    generalize hH : fHid F Z = H at ih ⊢
    have hz := qAd_0 (μ := μ) hC.2.1 (i := qNew H kd nb key below n)
    have hv : qNew H kd nb key below n ≠ -1 → μ (qAd μ (qNew H kd nb key below n)) 4 = fN H (qNew H kd nb key below n) 4 := fun q => by
      have := qNew_r H kd nb key below n
      unfold qAd; rw [if_neg q, ← hH, fHid_k _ _ _ 4 (by decide)]
      rw [hH]
      exact (CFz_row hC (by omega) (by omega)).1 4 (by omega) (by omega)
    rw [fNewest_s, qNew_s, ih]
    have hiff : nNewC μ kd nb key below (qAd μ (qNew H kd nb key below n)) (nRow μ n) ↔ (rT H n kd nb ∧ fN H n 4 < below ∧ rS H n key ∧ (qNew H kd nb key below n = -1 ∨ fN H (qNew H kd nb key below n) 4 < fN H n 4)) := by
      unfold nNewC
      have t := rTz_of hC (i := n) (by omega) (by omega) kd nb hk
      rw [hH] at t
      rw [t, a 4 (by omega) (by omega), hz]
      have e4 : fN H n 4 = fN F n 4 := by rw [← hH, fHid_k _ _ _ 4 (by decide)]
      rw [e4]
      by_cases z : Z n = 0
      · have s := rSz_of hC (i := n) (by omega) (by omega) key z
        rw [hH] at s
        rw [s]
        by_cases q : qNew H kd nb key below n = -1
        · simp [q]
        · rw [hv q]
      · have nt : ¬ rT H n kd nb := fun q => z (rT_nz hk (by rw [hH]; exact q))
        exact ⟨fun q => absurd q.1 nt, fun q => absurd q.1 nt⟩
    by_cases c : nNewC μ kd nb key below (qAd μ (qNew H kd nb key below n)) (nRow μ n)
    · rw [if_pos c, if_pos (hiff.mp c)]; unfold qAd; rw [if_neg (by omega)]
    · rw [if_neg c, if_neg (fun z => c (hiff.mpr z))]
/-- rows that tell anything lie apart -/
theorem rowz_apart {Z : Int → Int} {F : Fl} {μ : nMem} {ε : nEnv} (hC : CFz Z F μ ε) {i j : Int} (h0 : 0 ≤ i) (h1 : i < 128) (j0 : 0 ≤ j) (j1 : j < 128) (hk : fN F i 0 ≠ 0) (e : nRow μ i = nRow μ j) : i = j := by
  obtain ⟨-, hr, -, -, -, -, -, h7⟩ := id hC
  have a := (CFz_row hC h0 h1).1 0 (by omega) (by omega)
  have z : ∀ x, nRow μ x = 7 → nRow μ i = nRow μ x → False := fun x q r => by
    rw [r, q, h7 0 (by omega) (by omega)] at a; exact hk a.symm
  have i3 : μ 3 i ≠ 0 := fun q => z i (by unfold nRow; rw [if_neg (fun r => r.2.2 q)]) rfl
  have j3 : μ 3 j ≠ 0 := fun q => z j (by unfold nRow; rw [if_neg (fun r => r.2.2 q)]) e
  unfold nRow at e
  rw [if_pos ⟨h0, h1, i3⟩, if_pos ⟨j0, j1, j3⟩] at e
  exact hr.2.1 i j h0 h1 j0 j1 i3 e
theorem qAdz_at {Z : Int → Int} {F : Fl} {μ : nMem} {ε : nEnv} (hC : CFz Z F μ ε) {x i : Int} (hq : x = -1 ∨ (0 ≤ x ∧ x < 128)) (h0 : 0 ≤ i) (h1 : i < 128) (hk : fN F i 0 ≠ 0) : qAd μ x = nRow μ i ↔ x = i := by
  unfold qAd
  constructor
  · intro e
    by_cases z : x = -1
    · rw [if_pos z] at e; exact absurd e.symm (nRow_ne hC.2.1 i)
    · rw [if_neg z] at e
      exact (rowz_apart hC h0 h1 (by omega) (by omega) hk e.symm).symm
  · intro e; rw [if_neg (by omega), e]
def fSettled (F : Fl) (i : Int) : Int := if 64 ≤ fN F i 9 then fN F i 8 else jOr (fN F i 8) (jShl (-1) (fN F i 9))
/-- the places that newer nodes settle -/
def qSet (F : Fl) (nb v : Int) : Nat → Int
  | 0 => 0
  | n + 1 => if rT F n 1 nb ∧ v < fN F n 4 then jOr (qSet F nb v n) (fSettled F n) else qSet F nb v n
theorem qSet_s (F : Fl) (nb v : Int) (n : Nat) : qSet F nb v (n + 1) = if rT F n 1 nb ∧ v < fN F n 4 then jOr (qSet F nb v n) (fSettled F n) else qSet F nb v n := rfl
/-- the first copy among the last n rows; -1 -/
def qCpy (F : Fl) (kd nb v : Int) : Nat → Int
  | 0 => -1
  | n + 1 => if rT F (127 - n) kd nb ∧ fN F (127 - n) 4 = v then 127 - n else qCpy F kd nb v n
theorem qCpy_s (F : Fl) (kd nb v : Int) (n : Nat) : qCpy F kd nb v (n + 1) = if rT F (127 - n) kd nb ∧ fN F (127 - n) 4 = v then 127 - (n : Int) else qCpy F kd nb v n := rfl
theorem qCpy_r (F : Fl) (kd nb v : Int) (n : Nat) : n ≤ 128 → qCpy F kd nb v n = -1 ∨ (0 ≤ qCpy F kd nb v n ∧ qCpy F kd nb v n < 128) := by
  induction n with
  | zero => intro _; exact Or.inl rfl
  | succ n ih => intro hn; rw [qCpy_s]; split <;> omega
theorem qSetz_of {Z : Int → Int} {F : Fl} {μ : nMem} {ε : nEnv} (hC : CFz Z F μ ε) (o : Int) : ∀ n : Nat, n ≤ 128 → fSetN μ o n = qSet (fHid F Z) (μ o 3) (μ o 4) n := by
  intro n
  induction n with
  | zero => intro _; rfl
  | succ n ih =>
    intro hn
    obtain ⟨a, b⟩ := CFz_row hC (i := n) (by omega) (by omega)
    rw [fSetN_s, qSet_s, ih (by omega)]
    have t := rTz_of hC (i := n) (by omega) (by omega) 1 (μ o 3) (by decide)
    rw [a 4 (by omega) (by omega), fHid_k _ _ _ 4 (by decide)]
    by_cases c : rT (fHid F Z) n 1 (μ o 3) ∧ μ o 4 < fN F n 4
    · rw [if_pos c, if_pos ⟨t.mpr c.1, c.2⟩]
      unfold nSettled fSettled
      rw [a 9 (by omega) (by omega), a 8 (by omega) (by omega), fHid_k _ _ _ 9 (by decide), fHid_k _ _ _ 8 (by decide)]
    · rw [if_neg c, if_neg (fun q => c ⟨t.mp q.1, q.2⟩)]
theorem qCpyz_of {Z : Int → Int} {F : Fl} {μ : nMem} {ε : nEnv} (hC : CFz Z F μ ε) (o : Int) (hk : μ o 0 ≠ 0) : ∀ n : Nat, n ≤ 128 → fCopy μ o n = qAd μ (qCpy (fHid F Z) (μ o 0) (μ o 3) (μ o 4) n) := by
  intro n
  induction n with
  | zero => intro _; rfl
  | succ n ih =>
    intro hn
    obtain ⟨a, b⟩ := CFz_row hC (i := 127 - n) (by omega) (by omega)
    rw [fCopy_s, qCpy_s, ih (by omega)]
    have t := rTz_of hC (i := 127 - n) (by omega) (by omega) (μ o 0) (μ o 3) hk
    have e4 : fN (fHid F Z) (127 - n) 4 = μ (nRow μ (127 - n)) 4 := by rw [a 4 (by omega) (by omega), fHid_k _ _ _ 4 (by decide)]
    by_cases c : nCopy μ (nRow μ (127 - n)) o
    · rw [if_pos c, if_pos ⟨t.mp c.1, by rw [e4]; exact c.2⟩]; unfold qAd; rw [if_neg (by omega)]
    · rw [if_neg c, if_neg (fun q => c ⟨t.mpr q.1, by rw [← e4]; exact q.2⟩)]
abbrev jHolds (S : Tr) (n d : Int) : Prop := n ∈ tNl S ∧ tFd S n 2 = d
/-- a DATA or NAME node is live -/
def jLive (H F : Fl) (S : Tr) (i : Int) : Prop := jHolds S (fN F i 3) (if fN F i 0 = 2 then 1 else 0) ∧ (if fN F i 0 = 2 then fN F i 10 ≠ 0 ∧ qNew H 2 (fN F i 3) (fN F i 5) 2147483647 128 = i else qCpy H 1 (fN F i 3) (fN F i 4) 128 = i ∧ (qNew H 1 (fN F i 3) 64 2147483647 128 = i ∨ jAnd (fN F i 8) (jXor (qSet H (fN F i 3) (fN F i 4) 128) (-1)) ≠ 0))
def jDead (H F : Fl) (S : Tr) (i : Int) : Prop := ¬ (fN F i 0 ≠ 0 ∧ fN F i 2 = fN F i 1) ∨ (fN F i 0 ≠ 3 ∧ ¬ jLive H F S i)
theorem sp_X2_isLive {μ : nMem} {ε : nEnv} {Q : nOut → nMem → nEnv → Prop} {F : Fl} {Z : Int → Int} {S : Tr} {a i : Int} (hC : CFz Z F μ ε) (hT : CT S μ ε) (hB : tB S) (i0 : 0 ≤ i) (i1 : i < 128) (ha : a = nRow μ i) (hkd : fN F i 0 = 1 ∨ fN F i 0 = 2) (h1 : jLive (fHid F Z) F S i → Q (.inl (some (vI 1))) μ ε) (h2 : ¬ jLive (fHid F Z) F S i → Q (.inl (some (vI 0))) μ ε) : Sp mX2_isLive [vR 17, vR a] μ ε Q := by
  refine Sp_of (L := [(0, vR 17), (1, vR a)]) (by decide) rfl rfl (Nat.le_of_ble_eq_true rfl) ?_
  have hs := hC.1
  have hsT := hT.1
  have hr := hC.2.1
  have hk : eKind ε a = 5 := by rw [ha]; exact nRow_kd hs hr i
  have hb : nB μ a := by rw [ha]; exact nRow_nB hr i
  have hn0 : 0 ≤ a := by rw [ha]; exact nRow_0 hr i
  obtain ⟨b0, b1, b2, b3, b4, b5, b6, b9, b10, b11, b12, b13⟩ := id hb
  obtain ⟨ra, -⟩ := CFz_row hC i0 i1
  rw [← ha] at ra
  have f0 := ra 0 (by omega) (by omega)
  have f1 := ra 1 (by omega) (by omega)
  have f2 := ra 2 (by omega) (by omega)
  have f3 := ra 3 (by omega) (by omega)
  have f4 := ra 4 (by omega) (by omega)
  have f5 := ra 5 (by omega) (by omega)
  have f8 := ra 8 (by omega) (by omega)
  have f10 := ra 10 (by omega) (by omega)
  refine wq_aload_n (pc := 0) dX2_isLive_0 rfl rfl ?_
  refine wq_getS (pc := 1) dX2_isLive_1 hs (gf_X2_26 _ rfl) rfl rfl rfl rfl rfl ?_
  refine wq_aload_n (pc := 4) dX2_isLive_4 rfl rfl ?_
  refine wq_getI (pc := 5) (kk := 3) dX2_isLive_5 (gf_X2_30 _ rfl) (by with_reducible assumption) rfl rfl rfl ?_
  refine wq_aload_n (pc := 8) dX2_isLive_8 rfl rfl ?_
  refine wq_getI (pc := 9) (kk := 0) dX2_isLive_9 (gf_X2_34 _ rfl) (by with_reducible assumption) rfl rfl rfl ?_
  refine wq_iconst (pc := 12) dX2_isLive_12 ?_
  refine wq_icmp_ne (pc := 13) (tgt := 20) dX2_isLive_13 (by decide) (by first | (unfold inR; omega) | assumption) (by first | (unfold inR; omega) | assumption) (fun c1 => ?_) (fun c1 => ?_)
  · skip
    refine wq_iconst (pc := 20) dX2_isLive_20 ?_
    refine cVK_2 (pc := 21) dX2_isLive_21 hsT (cw_X2_37 _ rfl) (by decide) rfl ⟨by decide, by decide⟩ (Nat.le_of_ble_eq_true rfl) (sp_X5_holds hT hB (by unfold inR; omega) (by unfold inR; omega) (fun hin hfd => ?_) (fun hno => ?_))
    · skip
      refine kr_s ?_
      rw [f3] at hin hfd
      refine wq_if_ne (pc := 24) (tgt := 29) dX2_isLive_24 (by decide) (by first | (unfold inR; omega) | assumption) (fun _ => ?_) (fun c => absurd c (by decide))
      refine wq_aload_n (pc := 29) dX2_isLive_29 rfl rfl ?_
      refine wq_getI (pc := 30) (kk := 0) dX2_isLive_30 (gf_X2_34 _ rfl) (by with_reducible assumption) rfl rfl rfl ?_
      refine wq_iconst (pc := 33) dX2_isLive_33 ?_
      refine wq_icmp_ne (pc := 34) (tgt := 72) dX2_isLive_34 (by decide) (by first | (unfold inR; omega) | assumption) (by first | (unfold inR; omega) | assumption) (fun c5 => ?_) (fun c5 => ?_)
      · skip
        refine wq_aload_n (pc := 72) dX2_isLive_72 rfl rfl ?_
        refine wq_getS (pc := 73) dX2_isLive_73 hs (gf_X2_22 _ rfl) rfl rfl rfl rfl rfl ?_
        refine wq_aload_n (pc := 76) dX2_isLive_76 rfl rfl ?_
        refine cVK_1 (pc := 77) dX2_isLive_77 hs (cw_X2_56 _ rfl) (by decide) rfl ⟨by decide, by decide⟩ (Nat.le_of_ble_eq_true rfl) (sp_X0_firstCopy hs hr hk hb ?_)
        refine kr_s ?_
        rw [qCpyz_of hC a (by omega) 128 (Nat.le_refl _), f0, f3, f4]
        have g0 := qAd_r hr (qCpy (fHid F Z) (fN F i 0) (fN F i 3) (fN F i 4) 128)
        have g1 := qCpy_r (fHid F Z) (fN F i 0) (fN F i 3) (fN F i 4) 128 (Nat.le_refl _)
        refine wq_aload_n (pc := 80) dX2_isLive_80 rfl rfl ?_
        refine wq_acmp_eq (pc := 81) (tgt := 86) dX2_isLive_81 (by decide) (by omega) (by omega) (fun c6 => ?_) (fun c6 => ?_)
        · skip
          have hcy := (qAdz_at hC g1 i0 i1 (by omega)).mp (c6 |>.trans ha)
          refine wq_aload_n (pc := 86) dX2_isLive_86 rfl rfl ?_
          refine wq_getS (pc := 87) dX2_isLive_87 hs (gf_X2_22 _ rfl) rfl rfl rfl rfl rfl ?_
          refine wq_iconst (pc := 90) dX2_isLive_90 ?_
          refine wq_aload_n (pc := 91) dX2_isLive_91 rfl rfl ?_
          refine wq_getI (pc := 92) (kk := 3) dX2_isLive_92 (gf_X2_30 _ rfl) (by with_reducible assumption) rfl rfl rfl ?_
          refine wq_bipush (pc := 95) dX2_isLive_95 (by decide) (by decide) ?_
          refine wq_ldc (pc := 97) dX2_isLive_97 (kc_X2_49 _ rfl) ?_
          refine cVK_4 (pc := 99) dX2_isLive_99 hs (cw_X2_50 _ rfl) (by decide) rfl ⟨by decide, by decide⟩ (Nat.le_of_ble_eq_true rfl) (sp_X0_newest hs hr (by unfold inR; omega) (by unfold inR; omega) (by omega) (by unfold inR; omega) ?_)
          refine kr_s ?_
          rw [f3, qNewz_of hC 1 (fN F i 3) 64 2147483647 (by decide) 128 (Nat.le_refl _)]
          have g0 := qAd_r hr (qNew (fHid F Z) 1 (fN F i 3) 64 2147483647 128)
          have g1 := qNew_r (fHid F Z) 1 (fN F i 3) 64 2147483647 128
          refine wq_aload_n (pc := 102) dX2_isLive_102 rfl rfl ?_
          refine wq_acmp_eq (pc := 103) (tgt := 128) dX2_isLive_103 (by decide) (by omega) (by omega) (fun c7 => ?_) (fun c7 => ?_)
          · skip
            have hyw := (qAdz_at hC g1 i0 i1 (by omega)).mp (c7 |>.trans ha)
            refine wq_iconst (pc := 128) dX2_isLive_128 ?_
            refine wq_goto (pc := 129) (tgt := 133) dX2_isLive_129 (by decide) ?_
            refine wq_zret (pc := 133) dX2_isLive_133 rfl (by first | omega | (simp; done) | assumption) ?_
            unfold jLive jHolds at h1 h2
            have hor : fN F i 0 = 1 ∨ fN F i 0 = 2 := hkd
            first
              | (exfalso; omega)
              | (refine h2 (fun q => ?_); have q1 := q.1; (try rw [if_pos (by omega)] at q1); (try rw [if_neg (by omega)] at q1); exact absurd q1 (by assumption))
              | (refine h2 (fun q => ?_); have q2 := q.2; rw [if_pos (by omega)] at q2; exact q2.1 (by omega))
              | (refine h2 (fun q => ?_); have q2 := q.2; rw [if_pos (by omega)] at q2; exact absurd q2.2 (by assumption))
              | (refine h2 (fun q => ?_); have q2 := q.2; rw [if_neg (by omega)] at q2; rw [show fN F i 0 = 1 by omega] at hcp; exact absurd q2.1 (by assumption))
              | (refine h2 (fun q => ?_); have q2 := q.2; rw [if_neg (by omega)] at q2; rcases q2.2 with w | w; exact absurd w (by assumption); exact absurd hz w)
              | (refine h1 ⟨?_, ?_⟩; rw [if_pos (by omega)]; exact ⟨by assumption, by assumption⟩; rw [if_pos (by omega)]; exact ⟨by omega, by assumption⟩)
              | (refine h1 ⟨?_, ?_⟩; rw [if_neg (by omega)]; exact ⟨by assumption, by assumption⟩; rw [if_neg (by omega)]; rw [show fN F i 0 = 1 by omega] at hcy; exact ⟨hcy, Or.inl (by assumption)⟩)
              | (refine h1 ⟨?_, ?_⟩; rw [if_neg (by omega)]; exact ⟨by assumption, by assumption⟩; rw [if_neg (by omega)]; rw [show fN F i 0 = 1 by omega] at hcy; exact ⟨hcy, Or.inr (by assumption)⟩)
          · skip
            have hnw := fun z => c7 ((qAdz_at hC g1 i0 i1 (by omega)).mpr z |>.trans ha.symm)
            refine wq_aload_n (pc := 106) dX2_isLive_106 rfl rfl ?_
            refine wq_getJ (pc := 107) (kk := 8) dX2_isLive_107 (gf_X2_60 _ rfl) (by with_reducible assumption) rfl rfl rfl ?_
            refine wq_aload_n (pc := 110) dX2_isLive_110 rfl rfl ?_
            refine wq_getS (pc := 111) dX2_isLive_111 hs (gf_X2_22 _ rfl) rfl rfl rfl rfl rfl ?_
            refine wq_aload_n (pc := 114) dX2_isLive_114 rfl rfl ?_
            refine cVK_1 (pc := 115) dX2_isLive_115 hs (cw_X2_64 _ rfl) (by decide) rfl ⟨by decide, by decide⟩ (Nat.le_of_ble_eq_true rfl) (sp_X0_settledByNewer hs hr hk hb ?_)
            refine kr_s ?_
            rw [qSetz_of hC a 128 (Nat.le_refl _), f3, f4, f8]
            refine wq_ldc2 (pc := 118) dX2_isLive_118 (kc_X2_68 _ rfl) ?_
            refine wq_lxor (pc := 121) dX2_isLive_121 ?_
            refine wq_land (pc := 122) dX2_isLive_122 ?_
            refine wq_lconst (pc := 123) (v := 0) dX2_isLive_123 rfl ?_
            refine wq_lcmp (pc := 124) dX2_isLive_124 (by first | assumption | exact jAnd_r _ _ | (unfold inL; omega)) (by first | assumption | exact jAnd_r _ _ | (unfold inL; omega)) ?_
            refine wq_if_eq (pc := 125) (tgt := 132) dX2_isLive_125 (by decide) (nCmp_r _ _) (fun c8 => ?_) (fun c8 => ?_)
            · skip
              have hz := (nCmp_0 _).mp c8
              refine wq_iconst (pc := 132) dX2_isLive_132 ?_
              refine wq_zret (pc := 133) dX2_isLive_133 rfl (by first | omega | (simp; done) | assumption) ?_
              unfold jLive jHolds at h1 h2
              have hor : fN F i 0 = 1 ∨ fN F i 0 = 2 := hkd
              first
                | (exfalso; omega)
                | (refine h2 (fun q => ?_); have q1 := q.1; (try rw [if_pos (by omega)] at q1); (try rw [if_neg (by omega)] at q1); exact absurd q1 (by assumption))
                | (refine h2 (fun q => ?_); have q2 := q.2; rw [if_pos (by omega)] at q2; exact q2.1 (by omega))
                | (refine h2 (fun q => ?_); have q2 := q.2; rw [if_pos (by omega)] at q2; exact absurd q2.2 (by assumption))
                | (refine h2 (fun q => ?_); have q2 := q.2; rw [if_neg (by omega)] at q2; rw [show fN F i 0 = 1 by omega] at hcp; exact absurd q2.1 (by assumption))
                | (refine h2 (fun q => ?_); have q2 := q.2; rw [if_neg (by omega)] at q2; rcases q2.2 with w | w; exact absurd w (by assumption); exact absurd hz w)
                | (refine h1 ⟨?_, ?_⟩; rw [if_pos (by omega)]; exact ⟨by assumption, by assumption⟩; rw [if_pos (by omega)]; exact ⟨by omega, by assumption⟩)
                | (refine h1 ⟨?_, ?_⟩; rw [if_neg (by omega)]; exact ⟨by assumption, by assumption⟩; rw [if_neg (by omega)]; rw [show fN F i 0 = 1 by omega] at hcy; exact ⟨hcy, Or.inl (by assumption)⟩)
                | (refine h1 ⟨?_, ?_⟩; rw [if_neg (by omega)]; exact ⟨by assumption, by assumption⟩; rw [if_neg (by omega)]; rw [show fN F i 0 = 1 by omega] at hcy; exact ⟨hcy, Or.inr (by assumption)⟩)
            · skip
              have hz := fun z => c8 ((nCmp_0 _).mpr z)
              refine wq_iconst (pc := 128) dX2_isLive_128 ?_
              refine wq_goto (pc := 129) (tgt := 133) dX2_isLive_129 (by decide) ?_
              refine wq_zret (pc := 133) dX2_isLive_133 rfl (by first | omega | (simp; done) | assumption) ?_
              unfold jLive jHolds at h1 h2
              have hor : fN F i 0 = 1 ∨ fN F i 0 = 2 := hkd
              first
                | (exfalso; omega)
                | (refine h2 (fun q => ?_); have q1 := q.1; (try rw [if_pos (by omega)] at q1); (try rw [if_neg (by omega)] at q1); exact absurd q1 (by assumption))
                | (refine h2 (fun q => ?_); have q2 := q.2; rw [if_pos (by omega)] at q2; exact q2.1 (by omega))
                | (refine h2 (fun q => ?_); have q2 := q.2; rw [if_pos (by omega)] at q2; exact absurd q2.2 (by assumption))
                | (refine h2 (fun q => ?_); have q2 := q.2; rw [if_neg (by omega)] at q2; rw [show fN F i 0 = 1 by omega] at hcp; exact absurd q2.1 (by assumption))
                | (refine h2 (fun q => ?_); have q2 := q.2; rw [if_neg (by omega)] at q2; rcases q2.2 with w | w; exact absurd w (by assumption); exact absurd hz w)
                | (refine h1 ⟨?_, ?_⟩; rw [if_pos (by omega)]; exact ⟨by assumption, by assumption⟩; rw [if_pos (by omega)]; exact ⟨by omega, by assumption⟩)
                | (refine h1 ⟨?_, ?_⟩; rw [if_neg (by omega)]; exact ⟨by assumption, by assumption⟩; rw [if_neg (by omega)]; rw [show fN F i 0 = 1 by omega] at hcy; exact ⟨hcy, Or.inl (by assumption)⟩)
                | (refine h1 ⟨?_, ?_⟩; rw [if_neg (by omega)]; exact ⟨by assumption, by assumption⟩; rw [if_neg (by omega)]; rw [show fN F i 0 = 1 by omega] at hcy; exact ⟨hcy, Or.inr (by assumption)⟩)
        · skip
          have hcp := fun z => c6 ((qAdz_at hC g1 i0 i1 (by omega)).mpr z |>.trans ha.symm)
          refine wq_iconst (pc := 84) dX2_isLive_84 ?_
          refine wq_zret (pc := 85) dX2_isLive_85 rfl (by first | omega | (simp; done) | assumption) ?_
          unfold jLive jHolds at h1 h2
          have hor : fN F i 0 = 1 ∨ fN F i 0 = 2 := hkd
          first
            | (exfalso; omega)
            | (refine h2 (fun q => ?_); have q1 := q.1; (try rw [if_pos (by omega)] at q1); (try rw [if_neg (by omega)] at q1); exact absurd q1 (by assumption))
            | (refine h2 (fun q => ?_); have q2 := q.2; rw [if_pos (by omega)] at q2; exact q2.1 (by omega))
            | (refine h2 (fun q => ?_); have q2 := q.2; rw [if_pos (by omega)] at q2; exact absurd q2.2 (by assumption))
            | (refine h2 (fun q => ?_); have q2 := q.2; rw [if_neg (by omega)] at q2; rw [show fN F i 0 = 1 by omega] at hcp; exact absurd q2.1 (by assumption))
            | (refine h2 (fun q => ?_); have q2 := q.2; rw [if_neg (by omega)] at q2; rcases q2.2 with w | w; exact absurd w (by assumption); exact absurd hz w)
            | (refine h1 ⟨?_, ?_⟩; rw [if_pos (by omega)]; exact ⟨by assumption, by assumption⟩; rw [if_pos (by omega)]; exact ⟨by omega, by assumption⟩)
            | (refine h1 ⟨?_, ?_⟩; rw [if_neg (by omega)]; exact ⟨by assumption, by assumption⟩; rw [if_neg (by omega)]; rw [show fN F i 0 = 1 by omega] at hcy; exact ⟨hcy, Or.inl (by assumption)⟩)
            | (refine h1 ⟨?_, ?_⟩; rw [if_neg (by omega)]; exact ⟨by assumption, by assumption⟩; rw [if_neg (by omega)]; rw [show fN F i 0 = 1 by omega] at hcy; exact ⟨hcy, Or.inr (by assumption)⟩)
      · skip
        refine wq_aload_n (pc := 37) dX2_isLive_37 rfl rfl ?_
        refine wq_getI (pc := 38) (kk := 10) dX2_isLive_38 (gf_X2_43 _ rfl) (by with_reducible assumption) rfl rfl rfl ?_
        refine wq_if_eq (pc := 41) (tgt := 70) dX2_isLive_41 (by decide) (by first | (unfold inR; omega) | assumption) (fun c9 => ?_) (fun c9 => ?_)
        · skip
          refine wq_iconst (pc := 70) dX2_isLive_70 ?_
          refine wq_zret (pc := 71) dX2_isLive_71 rfl (by first | omega | (simp; done) | assumption) ?_
          unfold jLive jHolds at h1 h2
          have hor : fN F i 0 = 1 ∨ fN F i 0 = 2 := hkd
          first
            | (exfalso; omega)
            | (refine h2 (fun q => ?_); have q1 := q.1; (try rw [if_pos (by omega)] at q1); (try rw [if_neg (by omega)] at q1); exact absurd q1 (by assumption))
            | (refine h2 (fun q => ?_); have q2 := q.2; rw [if_pos (by omega)] at q2; exact q2.1 (by omega))
            | (refine h2 (fun q => ?_); have q2 := q.2; rw [if_pos (by omega)] at q2; exact absurd q2.2 (by assumption))
            | (refine h2 (fun q => ?_); have q2 := q.2; rw [if_neg (by omega)] at q2; rw [show fN F i 0 = 1 by omega] at hcp; exact absurd q2.1 (by assumption))
            | (refine h2 (fun q => ?_); have q2 := q.2; rw [if_neg (by omega)] at q2; rcases q2.2 with w | w; exact absurd w (by assumption); exact absurd hz w)
            | (refine h1 ⟨?_, ?_⟩; rw [if_pos (by omega)]; exact ⟨by assumption, by assumption⟩; rw [if_pos (by omega)]; exact ⟨by omega, by assumption⟩)
            | (refine h1 ⟨?_, ?_⟩; rw [if_neg (by omega)]; exact ⟨by assumption, by assumption⟩; rw [if_neg (by omega)]; rw [show fN F i 0 = 1 by omega] at hcy; exact ⟨hcy, Or.inl (by assumption)⟩)
            | (refine h1 ⟨?_, ?_⟩; rw [if_neg (by omega)]; exact ⟨by assumption, by assumption⟩; rw [if_neg (by omega)]; rw [show fN F i 0 = 1 by omega] at hcy; exact ⟨hcy, Or.inr (by assumption)⟩)
        · skip
          refine wq_aload_n (pc := 44) dX2_isLive_44 rfl rfl ?_
          refine wq_getS (pc := 45) dX2_isLive_45 hs (gf_X2_22 _ rfl) rfl rfl rfl rfl rfl ?_
          refine wq_iconst (pc := 48) dX2_isLive_48 ?_
          refine wq_aload_n (pc := 49) dX2_isLive_49 rfl rfl ?_
          refine wq_getI (pc := 50) (kk := 3) dX2_isLive_50 (gf_X2_30 _ rfl) (by with_reducible assumption) rfl rfl rfl ?_
          refine wq_aload_n (pc := 53) dX2_isLive_53 rfl rfl ?_
          refine wq_getI (pc := 54) (kk := 5) dX2_isLive_54 (gf_X2_46 _ rfl) (by with_reducible assumption) rfl rfl rfl ?_
          refine wq_ldc (pc := 57) dX2_isLive_57 (kc_X2_49 _ rfl) ?_
          refine cVK_4 (pc := 59) dX2_isLive_59 hs (cw_X2_50 _ rfl) (by decide) rfl ⟨by decide, by decide⟩ (Nat.le_of_ble_eq_true rfl) (sp_X0_newest hs hr (by unfold inR; omega) (by unfold inR; omega) (by omega) (by unfold inR; omega) ?_)
          refine kr_s ?_
          rw [f3, f5, qNewz_of hC 2 (fN F i 3) (fN F i 5) 2147483647 (by decide) 128 (Nat.le_refl _)]
          have g0 := qAd_r hr (qNew (fHid F Z) 2 (fN F i 3) (fN F i 5) 2147483647 128)
          have g1 := qNew_r (fHid F Z) 2 (fN F i 3) (fN F i 5) 2147483647 128
          refine wq_aload_n (pc := 62) dX2_isLive_62 rfl rfl ?_
          refine wq_acmp_ne (pc := 63) (tgt := 70) dX2_isLive_63 (by decide) (by omega) (by omega) (fun c10 => ?_) (fun c10 => ?_)
          · skip
            have hno := fun z => c10 ((qAdz_at hC g1 i0 i1 (by omega)).mpr z |>.trans ha.symm)
            refine wq_iconst (pc := 70) dX2_isLive_70 ?_
            refine wq_zret (pc := 71) dX2_isLive_71 rfl (by first | omega | (simp; done) | assumption) ?_
            unfold jLive jHolds at h1 h2
            have hor : fN F i 0 = 1 ∨ fN F i 0 = 2 := hkd
            first
              | (exfalso; omega)
              | (refine h2 (fun q => ?_); have q1 := q.1; (try rw [if_pos (by omega)] at q1); (try rw [if_neg (by omega)] at q1); exact absurd q1 (by assumption))
              | (refine h2 (fun q => ?_); have q2 := q.2; rw [if_pos (by omega)] at q2; exact q2.1 (by omega))
              | (refine h2 (fun q => ?_); have q2 := q.2; rw [if_pos (by omega)] at q2; exact absurd q2.2 (by assumption))
              | (refine h2 (fun q => ?_); have q2 := q.2; rw [if_neg (by omega)] at q2; rw [show fN F i 0 = 1 by omega] at hcp; exact absurd q2.1 (by assumption))
              | (refine h2 (fun q => ?_); have q2 := q.2; rw [if_neg (by omega)] at q2; rcases q2.2 with w | w; exact absurd w (by assumption); exact absurd hz w)
              | (refine h1 ⟨?_, ?_⟩; rw [if_pos (by omega)]; exact ⟨by assumption, by assumption⟩; rw [if_pos (by omega)]; exact ⟨by omega, by assumption⟩)
              | (refine h1 ⟨?_, ?_⟩; rw [if_neg (by omega)]; exact ⟨by assumption, by assumption⟩; rw [if_neg (by omega)]; rw [show fN F i 0 = 1 by omega] at hcy; exact ⟨hcy, Or.inl (by assumption)⟩)
              | (refine h1 ⟨?_, ?_⟩; rw [if_neg (by omega)]; exact ⟨by assumption, by assumption⟩; rw [if_neg (by omega)]; rw [show fN F i 0 = 1 by omega] at hcy; exact ⟨hcy, Or.inr (by assumption)⟩)
          · skip
            have hyes := (qAdz_at hC g1 i0 i1 (by omega)).mp (c10 |>.trans ha)
            refine wq_iconst (pc := 66) dX2_isLive_66 ?_
            refine wq_goto (pc := 67) (tgt := 71) dX2_isLive_67 (by decide) ?_
            refine wq_zret (pc := 71) dX2_isLive_71 rfl (by first | omega | (simp; done) | assumption) ?_
            unfold jLive jHolds at h1 h2
            have hor : fN F i 0 = 1 ∨ fN F i 0 = 2 := hkd
            first
              | (exfalso; omega)
              | (refine h2 (fun q => ?_); have q1 := q.1; (try rw [if_pos (by omega)] at q1); (try rw [if_neg (by omega)] at q1); exact absurd q1 (by assumption))
              | (refine h2 (fun q => ?_); have q2 := q.2; rw [if_pos (by omega)] at q2; exact q2.1 (by omega))
              | (refine h2 (fun q => ?_); have q2 := q.2; rw [if_pos (by omega)] at q2; exact absurd q2.2 (by assumption))
              | (refine h2 (fun q => ?_); have q2 := q.2; rw [if_neg (by omega)] at q2; rw [show fN F i 0 = 1 by omega] at hcp; exact absurd q2.1 (by assumption))
              | (refine h2 (fun q => ?_); have q2 := q.2; rw [if_neg (by omega)] at q2; rcases q2.2 with w | w; exact absurd w (by assumption); exact absurd hz w)
              | (refine h1 ⟨?_, ?_⟩; rw [if_pos (by omega)]; exact ⟨by assumption, by assumption⟩; rw [if_pos (by omega)]; exact ⟨by omega, by assumption⟩)
              | (refine h1 ⟨?_, ?_⟩; rw [if_neg (by omega)]; exact ⟨by assumption, by assumption⟩; rw [if_neg (by omega)]; rw [show fN F i 0 = 1 by omega] at hcy; exact ⟨hcy, Or.inl (by assumption)⟩)
              | (refine h1 ⟨?_, ?_⟩; rw [if_neg (by omega)]; exact ⟨by assumption, by assumption⟩; rw [if_neg (by omega)]; rw [show fN F i 0 = 1 by omega] at hcy; exact ⟨hcy, Or.inr (by assumption)⟩)
    · skip
      refine kr_s ?_
      rw [f3] at hno
      refine wq_if_ne (pc := 24) (tgt := 29) dX2_isLive_24 (by decide) (by first | (unfold inR; omega) | assumption) (fun c => absurd c (by decide)) (fun _ => ?_)
      refine wq_iconst (pc := 27) dX2_isLive_27 ?_
      refine wq_zret (pc := 28) dX2_isLive_28 rfl (by first | omega | (simp; done) | assumption) ?_
      unfold jLive jHolds at h1 h2
      have hor : fN F i 0 = 1 ∨ fN F i 0 = 2 := hkd
      first
        | (exfalso; omega)
        | (refine h2 (fun q => ?_); have q1 := q.1; (try rw [if_pos (by omega)] at q1); (try rw [if_neg (by omega)] at q1); exact absurd q1 (by assumption))
        | (refine h2 (fun q => ?_); have q2 := q.2; rw [if_pos (by omega)] at q2; exact q2.1 (by omega))
        | (refine h2 (fun q => ?_); have q2 := q.2; rw [if_pos (by omega)] at q2; exact absurd q2.2 (by assumption))
        | (refine h2 (fun q => ?_); have q2 := q.2; rw [if_neg (by omega)] at q2; rw [show fN F i 0 = 1 by omega] at hcp; exact absurd q2.1 (by assumption))
        | (refine h2 (fun q => ?_); have q2 := q.2; rw [if_neg (by omega)] at q2; rcases q2.2 with w | w; exact absurd w (by assumption); exact absurd hz w)
        | (refine h1 ⟨?_, ?_⟩; rw [if_pos (by omega)]; exact ⟨by assumption, by assumption⟩; rw [if_pos (by omega)]; exact ⟨by omega, by assumption⟩)
        | (refine h1 ⟨?_, ?_⟩; rw [if_neg (by omega)]; exact ⟨by assumption, by assumption⟩; rw [if_neg (by omega)]; rw [show fN F i 0 = 1 by omega] at hcy; exact ⟨hcy, Or.inl (by assumption)⟩)
        | (refine h1 ⟨?_, ?_⟩; rw [if_neg (by omega)]; exact ⟨by assumption, by assumption⟩; rw [if_neg (by omega)]; rw [show fN F i 0 = 1 by omega] at hcy; exact ⟨hcy, Or.inr (by assumption)⟩)
  · skip
    refine wq_iconst (pc := 16) dX2_isLive_16 ?_
    refine wq_goto (pc := 17) (tgt := 21) dX2_isLive_17 (by decide) ?_
    refine cVK_2 (pc := 21) dX2_isLive_21 hsT (cw_X2_37 _ rfl) (by decide) rfl ⟨by decide, by decide⟩ (Nat.le_of_ble_eq_true rfl) (sp_X5_holds hT hB (by unfold inR; omega) (by unfold inR; omega) (fun hin hfd => ?_) (fun hno => ?_))
    · skip
      refine kr_s ?_
      rw [f3] at hin hfd
      refine wq_if_ne (pc := 24) (tgt := 29) dX2_isLive_24 (by decide) (by first | (unfold inR; omega) | assumption) (fun _ => ?_) (fun c => absurd c (by decide))
      refine wq_aload_n (pc := 29) dX2_isLive_29 rfl rfl ?_
      refine wq_getI (pc := 30) (kk := 0) dX2_isLive_30 (gf_X2_34 _ rfl) (by with_reducible assumption) rfl rfl rfl ?_
      refine wq_iconst (pc := 33) dX2_isLive_33 ?_
      refine wq_icmp_ne (pc := 34) (tgt := 72) dX2_isLive_34 (by decide) (by first | (unfold inR; omega) | assumption) (by first | (unfold inR; omega) | assumption) (fun c15 => ?_) (fun c15 => ?_)
      · skip
        refine wq_aload_n (pc := 72) dX2_isLive_72 rfl rfl ?_
        refine wq_getS (pc := 73) dX2_isLive_73 hs (gf_X2_22 _ rfl) rfl rfl rfl rfl rfl ?_
        refine wq_aload_n (pc := 76) dX2_isLive_76 rfl rfl ?_
        refine cVK_1 (pc := 77) dX2_isLive_77 hs (cw_X2_56 _ rfl) (by decide) rfl ⟨by decide, by decide⟩ (Nat.le_of_ble_eq_true rfl) (sp_X0_firstCopy hs hr hk hb ?_)
        refine kr_s ?_
        rw [qCpyz_of hC a (by omega) 128 (Nat.le_refl _), f0, f3, f4]
        have g0 := qAd_r hr (qCpy (fHid F Z) (fN F i 0) (fN F i 3) (fN F i 4) 128)
        have g1 := qCpy_r (fHid F Z) (fN F i 0) (fN F i 3) (fN F i 4) 128 (Nat.le_refl _)
        refine wq_aload_n (pc := 80) dX2_isLive_80 rfl rfl ?_
        refine wq_acmp_eq (pc := 81) (tgt := 86) dX2_isLive_81 (by decide) (by omega) (by omega) (fun c16 => ?_) (fun c16 => ?_)
        · skip
          have hcy := (qAdz_at hC g1 i0 i1 (by omega)).mp (c16 |>.trans ha)
          refine wq_aload_n (pc := 86) dX2_isLive_86 rfl rfl ?_
          refine wq_getS (pc := 87) dX2_isLive_87 hs (gf_X2_22 _ rfl) rfl rfl rfl rfl rfl ?_
          refine wq_iconst (pc := 90) dX2_isLive_90 ?_
          refine wq_aload_n (pc := 91) dX2_isLive_91 rfl rfl ?_
          refine wq_getI (pc := 92) (kk := 3) dX2_isLive_92 (gf_X2_30 _ rfl) (by with_reducible assumption) rfl rfl rfl ?_
          refine wq_bipush (pc := 95) dX2_isLive_95 (by decide) (by decide) ?_
          refine wq_ldc (pc := 97) dX2_isLive_97 (kc_X2_49 _ rfl) ?_
          refine cVK_4 (pc := 99) dX2_isLive_99 hs (cw_X2_50 _ rfl) (by decide) rfl ⟨by decide, by decide⟩ (Nat.le_of_ble_eq_true rfl) (sp_X0_newest hs hr (by unfold inR; omega) (by unfold inR; omega) (by omega) (by unfold inR; omega) ?_)
          refine kr_s ?_
          rw [f3, qNewz_of hC 1 (fN F i 3) 64 2147483647 (by decide) 128 (Nat.le_refl _)]
          have g0 := qAd_r hr (qNew (fHid F Z) 1 (fN F i 3) 64 2147483647 128)
          have g1 := qNew_r (fHid F Z) 1 (fN F i 3) 64 2147483647 128
          refine wq_aload_n (pc := 102) dX2_isLive_102 rfl rfl ?_
          refine wq_acmp_eq (pc := 103) (tgt := 128) dX2_isLive_103 (by decide) (by omega) (by omega) (fun c17 => ?_) (fun c17 => ?_)
          · skip
            have hyw := (qAdz_at hC g1 i0 i1 (by omega)).mp (c17 |>.trans ha)
            refine wq_iconst (pc := 128) dX2_isLive_128 ?_
            refine wq_goto (pc := 129) (tgt := 133) dX2_isLive_129 (by decide) ?_
            refine wq_zret (pc := 133) dX2_isLive_133 rfl (by first | omega | (simp; done) | assumption) ?_
            unfold jLive jHolds at h1 h2
            have hor : fN F i 0 = 1 ∨ fN F i 0 = 2 := hkd
            first
              | (exfalso; omega)
              | (refine h2 (fun q => ?_); have q1 := q.1; (try rw [if_pos (by omega)] at q1); (try rw [if_neg (by omega)] at q1); exact absurd q1 (by assumption))
              | (refine h2 (fun q => ?_); have q2 := q.2; rw [if_pos (by omega)] at q2; exact q2.1 (by omega))
              | (refine h2 (fun q => ?_); have q2 := q.2; rw [if_pos (by omega)] at q2; exact absurd q2.2 (by assumption))
              | (refine h2 (fun q => ?_); have q2 := q.2; rw [if_neg (by omega)] at q2; rw [show fN F i 0 = 1 by omega] at hcp; exact absurd q2.1 (by assumption))
              | (refine h2 (fun q => ?_); have q2 := q.2; rw [if_neg (by omega)] at q2; rcases q2.2 with w | w; exact absurd w (by assumption); exact absurd hz w)
              | (refine h1 ⟨?_, ?_⟩; rw [if_pos (by omega)]; exact ⟨by assumption, by assumption⟩; rw [if_pos (by omega)]; exact ⟨by omega, by assumption⟩)
              | (refine h1 ⟨?_, ?_⟩; rw [if_neg (by omega)]; exact ⟨by assumption, by assumption⟩; rw [if_neg (by omega)]; rw [show fN F i 0 = 1 by omega] at hcy; exact ⟨hcy, Or.inl (by assumption)⟩)
              | (refine h1 ⟨?_, ?_⟩; rw [if_neg (by omega)]; exact ⟨by assumption, by assumption⟩; rw [if_neg (by omega)]; rw [show fN F i 0 = 1 by omega] at hcy; exact ⟨hcy, Or.inr (by assumption)⟩)
          · skip
            have hnw := fun z => c17 ((qAdz_at hC g1 i0 i1 (by omega)).mpr z |>.trans ha.symm)
            refine wq_aload_n (pc := 106) dX2_isLive_106 rfl rfl ?_
            refine wq_getJ (pc := 107) (kk := 8) dX2_isLive_107 (gf_X2_60 _ rfl) (by with_reducible assumption) rfl rfl rfl ?_
            refine wq_aload_n (pc := 110) dX2_isLive_110 rfl rfl ?_
            refine wq_getS (pc := 111) dX2_isLive_111 hs (gf_X2_22 _ rfl) rfl rfl rfl rfl rfl ?_
            refine wq_aload_n (pc := 114) dX2_isLive_114 rfl rfl ?_
            refine cVK_1 (pc := 115) dX2_isLive_115 hs (cw_X2_64 _ rfl) (by decide) rfl ⟨by decide, by decide⟩ (Nat.le_of_ble_eq_true rfl) (sp_X0_settledByNewer hs hr hk hb ?_)
            refine kr_s ?_
            rw [qSetz_of hC a 128 (Nat.le_refl _), f3, f4, f8]
            refine wq_ldc2 (pc := 118) dX2_isLive_118 (kc_X2_68 _ rfl) ?_
            refine wq_lxor (pc := 121) dX2_isLive_121 ?_
            refine wq_land (pc := 122) dX2_isLive_122 ?_
            refine wq_lconst (pc := 123) (v := 0) dX2_isLive_123 rfl ?_
            refine wq_lcmp (pc := 124) dX2_isLive_124 (by first | assumption | exact jAnd_r _ _ | (unfold inL; omega)) (by first | assumption | exact jAnd_r _ _ | (unfold inL; omega)) ?_
            refine wq_if_eq (pc := 125) (tgt := 132) dX2_isLive_125 (by decide) (nCmp_r _ _) (fun c18 => ?_) (fun c18 => ?_)
            · skip
              have hz := (nCmp_0 _).mp c18
              refine wq_iconst (pc := 132) dX2_isLive_132 ?_
              refine wq_zret (pc := 133) dX2_isLive_133 rfl (by first | omega | (simp; done) | assumption) ?_
              unfold jLive jHolds at h1 h2
              have hor : fN F i 0 = 1 ∨ fN F i 0 = 2 := hkd
              first
                | (exfalso; omega)
                | (refine h2 (fun q => ?_); have q1 := q.1; (try rw [if_pos (by omega)] at q1); (try rw [if_neg (by omega)] at q1); exact absurd q1 (by assumption))
                | (refine h2 (fun q => ?_); have q2 := q.2; rw [if_pos (by omega)] at q2; exact q2.1 (by omega))
                | (refine h2 (fun q => ?_); have q2 := q.2; rw [if_pos (by omega)] at q2; exact absurd q2.2 (by assumption))
                | (refine h2 (fun q => ?_); have q2 := q.2; rw [if_neg (by omega)] at q2; rw [show fN F i 0 = 1 by omega] at hcp; exact absurd q2.1 (by assumption))
                | (refine h2 (fun q => ?_); have q2 := q.2; rw [if_neg (by omega)] at q2; rcases q2.2 with w | w; exact absurd w (by assumption); exact absurd hz w)
                | (refine h1 ⟨?_, ?_⟩; rw [if_pos (by omega)]; exact ⟨by assumption, by assumption⟩; rw [if_pos (by omega)]; exact ⟨by omega, by assumption⟩)
                | (refine h1 ⟨?_, ?_⟩; rw [if_neg (by omega)]; exact ⟨by assumption, by assumption⟩; rw [if_neg (by omega)]; rw [show fN F i 0 = 1 by omega] at hcy; exact ⟨hcy, Or.inl (by assumption)⟩)
                | (refine h1 ⟨?_, ?_⟩; rw [if_neg (by omega)]; exact ⟨by assumption, by assumption⟩; rw [if_neg (by omega)]; rw [show fN F i 0 = 1 by omega] at hcy; exact ⟨hcy, Or.inr (by assumption)⟩)
            · skip
              have hz := fun z => c18 ((nCmp_0 _).mpr z)
              refine wq_iconst (pc := 128) dX2_isLive_128 ?_
              refine wq_goto (pc := 129) (tgt := 133) dX2_isLive_129 (by decide) ?_
              refine wq_zret (pc := 133) dX2_isLive_133 rfl (by first | omega | (simp; done) | assumption) ?_
              unfold jLive jHolds at h1 h2
              have hor : fN F i 0 = 1 ∨ fN F i 0 = 2 := hkd
              first
                | (exfalso; omega)
                | (refine h2 (fun q => ?_); have q1 := q.1; (try rw [if_pos (by omega)] at q1); (try rw [if_neg (by omega)] at q1); exact absurd q1 (by assumption))
                | (refine h2 (fun q => ?_); have q2 := q.2; rw [if_pos (by omega)] at q2; exact q2.1 (by omega))
                | (refine h2 (fun q => ?_); have q2 := q.2; rw [if_pos (by omega)] at q2; exact absurd q2.2 (by assumption))
                | (refine h2 (fun q => ?_); have q2 := q.2; rw [if_neg (by omega)] at q2; rw [show fN F i 0 = 1 by omega] at hcp; exact absurd q2.1 (by assumption))
                | (refine h2 (fun q => ?_); have q2 := q.2; rw [if_neg (by omega)] at q2; rcases q2.2 with w | w; exact absurd w (by assumption); exact absurd hz w)
                | (refine h1 ⟨?_, ?_⟩; rw [if_pos (by omega)]; exact ⟨by assumption, by assumption⟩; rw [if_pos (by omega)]; exact ⟨by omega, by assumption⟩)
                | (refine h1 ⟨?_, ?_⟩; rw [if_neg (by omega)]; exact ⟨by assumption, by assumption⟩; rw [if_neg (by omega)]; rw [show fN F i 0 = 1 by omega] at hcy; exact ⟨hcy, Or.inl (by assumption)⟩)
                | (refine h1 ⟨?_, ?_⟩; rw [if_neg (by omega)]; exact ⟨by assumption, by assumption⟩; rw [if_neg (by omega)]; rw [show fN F i 0 = 1 by omega] at hcy; exact ⟨hcy, Or.inr (by assumption)⟩)
        · skip
          have hcp := fun z => c16 ((qAdz_at hC g1 i0 i1 (by omega)).mpr z |>.trans ha.symm)
          refine wq_iconst (pc := 84) dX2_isLive_84 ?_
          refine wq_zret (pc := 85) dX2_isLive_85 rfl (by first | omega | (simp; done) | assumption) ?_
          unfold jLive jHolds at h1 h2
          have hor : fN F i 0 = 1 ∨ fN F i 0 = 2 := hkd
          first
            | (exfalso; omega)
            | (refine h2 (fun q => ?_); have q1 := q.1; (try rw [if_pos (by omega)] at q1); (try rw [if_neg (by omega)] at q1); exact absurd q1 (by assumption))
            | (refine h2 (fun q => ?_); have q2 := q.2; rw [if_pos (by omega)] at q2; exact q2.1 (by omega))
            | (refine h2 (fun q => ?_); have q2 := q.2; rw [if_pos (by omega)] at q2; exact absurd q2.2 (by assumption))
            | (refine h2 (fun q => ?_); have q2 := q.2; rw [if_neg (by omega)] at q2; rw [show fN F i 0 = 1 by omega] at hcp; exact absurd q2.1 (by assumption))
            | (refine h2 (fun q => ?_); have q2 := q.2; rw [if_neg (by omega)] at q2; rcases q2.2 with w | w; exact absurd w (by assumption); exact absurd hz w)
            | (refine h1 ⟨?_, ?_⟩; rw [if_pos (by omega)]; exact ⟨by assumption, by assumption⟩; rw [if_pos (by omega)]; exact ⟨by omega, by assumption⟩)
            | (refine h1 ⟨?_, ?_⟩; rw [if_neg (by omega)]; exact ⟨by assumption, by assumption⟩; rw [if_neg (by omega)]; rw [show fN F i 0 = 1 by omega] at hcy; exact ⟨hcy, Or.inl (by assumption)⟩)
            | (refine h1 ⟨?_, ?_⟩; rw [if_neg (by omega)]; exact ⟨by assumption, by assumption⟩; rw [if_neg (by omega)]; rw [show fN F i 0 = 1 by omega] at hcy; exact ⟨hcy, Or.inr (by assumption)⟩)
      · skip
        refine wq_aload_n (pc := 37) dX2_isLive_37 rfl rfl ?_
        refine wq_getI (pc := 38) (kk := 10) dX2_isLive_38 (gf_X2_43 _ rfl) (by with_reducible assumption) rfl rfl rfl ?_
        refine wq_if_eq (pc := 41) (tgt := 70) dX2_isLive_41 (by decide) (by first | (unfold inR; omega) | assumption) (fun c19 => ?_) (fun c19 => ?_)
        · skip
          refine wq_iconst (pc := 70) dX2_isLive_70 ?_
          refine wq_zret (pc := 71) dX2_isLive_71 rfl (by first | omega | (simp; done) | assumption) ?_
          unfold jLive jHolds at h1 h2
          have hor : fN F i 0 = 1 ∨ fN F i 0 = 2 := hkd
          first
            | (exfalso; omega)
            | (refine h2 (fun q => ?_); have q1 := q.1; (try rw [if_pos (by omega)] at q1); (try rw [if_neg (by omega)] at q1); exact absurd q1 (by assumption))
            | (refine h2 (fun q => ?_); have q2 := q.2; rw [if_pos (by omega)] at q2; exact q2.1 (by omega))
            | (refine h2 (fun q => ?_); have q2 := q.2; rw [if_pos (by omega)] at q2; exact absurd q2.2 (by assumption))
            | (refine h2 (fun q => ?_); have q2 := q.2; rw [if_neg (by omega)] at q2; rw [show fN F i 0 = 1 by omega] at hcp; exact absurd q2.1 (by assumption))
            | (refine h2 (fun q => ?_); have q2 := q.2; rw [if_neg (by omega)] at q2; rcases q2.2 with w | w; exact absurd w (by assumption); exact absurd hz w)
            | (refine h1 ⟨?_, ?_⟩; rw [if_pos (by omega)]; exact ⟨by assumption, by assumption⟩; rw [if_pos (by omega)]; exact ⟨by omega, by assumption⟩)
            | (refine h1 ⟨?_, ?_⟩; rw [if_neg (by omega)]; exact ⟨by assumption, by assumption⟩; rw [if_neg (by omega)]; rw [show fN F i 0 = 1 by omega] at hcy; exact ⟨hcy, Or.inl (by assumption)⟩)
            | (refine h1 ⟨?_, ?_⟩; rw [if_neg (by omega)]; exact ⟨by assumption, by assumption⟩; rw [if_neg (by omega)]; rw [show fN F i 0 = 1 by omega] at hcy; exact ⟨hcy, Or.inr (by assumption)⟩)
        · skip
          refine wq_aload_n (pc := 44) dX2_isLive_44 rfl rfl ?_
          refine wq_getS (pc := 45) dX2_isLive_45 hs (gf_X2_22 _ rfl) rfl rfl rfl rfl rfl ?_
          refine wq_iconst (pc := 48) dX2_isLive_48 ?_
          refine wq_aload_n (pc := 49) dX2_isLive_49 rfl rfl ?_
          refine wq_getI (pc := 50) (kk := 3) dX2_isLive_50 (gf_X2_30 _ rfl) (by with_reducible assumption) rfl rfl rfl ?_
          refine wq_aload_n (pc := 53) dX2_isLive_53 rfl rfl ?_
          refine wq_getI (pc := 54) (kk := 5) dX2_isLive_54 (gf_X2_46 _ rfl) (by with_reducible assumption) rfl rfl rfl ?_
          refine wq_ldc (pc := 57) dX2_isLive_57 (kc_X2_49 _ rfl) ?_
          refine cVK_4 (pc := 59) dX2_isLive_59 hs (cw_X2_50 _ rfl) (by decide) rfl ⟨by decide, by decide⟩ (Nat.le_of_ble_eq_true rfl) (sp_X0_newest hs hr (by unfold inR; omega) (by unfold inR; omega) (by omega) (by unfold inR; omega) ?_)
          refine kr_s ?_
          rw [f3, f5, qNewz_of hC 2 (fN F i 3) (fN F i 5) 2147483647 (by decide) 128 (Nat.le_refl _)]
          have g0 := qAd_r hr (qNew (fHid F Z) 2 (fN F i 3) (fN F i 5) 2147483647 128)
          have g1 := qNew_r (fHid F Z) 2 (fN F i 3) (fN F i 5) 2147483647 128
          refine wq_aload_n (pc := 62) dX2_isLive_62 rfl rfl ?_
          refine wq_acmp_ne (pc := 63) (tgt := 70) dX2_isLive_63 (by decide) (by omega) (by omega) (fun c20 => ?_) (fun c20 => ?_)
          · skip
            have hno := fun z => c20 ((qAdz_at hC g1 i0 i1 (by omega)).mpr z |>.trans ha.symm)
            refine wq_iconst (pc := 70) dX2_isLive_70 ?_
            refine wq_zret (pc := 71) dX2_isLive_71 rfl (by first | omega | (simp; done) | assumption) ?_
            unfold jLive jHolds at h1 h2
            have hor : fN F i 0 = 1 ∨ fN F i 0 = 2 := hkd
            first
              | (exfalso; omega)
              | (refine h2 (fun q => ?_); have q1 := q.1; (try rw [if_pos (by omega)] at q1); (try rw [if_neg (by omega)] at q1); exact absurd q1 (by assumption))
              | (refine h2 (fun q => ?_); have q2 := q.2; rw [if_pos (by omega)] at q2; exact q2.1 (by omega))
              | (refine h2 (fun q => ?_); have q2 := q.2; rw [if_pos (by omega)] at q2; exact absurd q2.2 (by assumption))
              | (refine h2 (fun q => ?_); have q2 := q.2; rw [if_neg (by omega)] at q2; rw [show fN F i 0 = 1 by omega] at hcp; exact absurd q2.1 (by assumption))
              | (refine h2 (fun q => ?_); have q2 := q.2; rw [if_neg (by omega)] at q2; rcases q2.2 with w | w; exact absurd w (by assumption); exact absurd hz w)
              | (refine h1 ⟨?_, ?_⟩; rw [if_pos (by omega)]; exact ⟨by assumption, by assumption⟩; rw [if_pos (by omega)]; exact ⟨by omega, by assumption⟩)
              | (refine h1 ⟨?_, ?_⟩; rw [if_neg (by omega)]; exact ⟨by assumption, by assumption⟩; rw [if_neg (by omega)]; rw [show fN F i 0 = 1 by omega] at hcy; exact ⟨hcy, Or.inl (by assumption)⟩)
              | (refine h1 ⟨?_, ?_⟩; rw [if_neg (by omega)]; exact ⟨by assumption, by assumption⟩; rw [if_neg (by omega)]; rw [show fN F i 0 = 1 by omega] at hcy; exact ⟨hcy, Or.inr (by assumption)⟩)
          · skip
            have hyes := (qAdz_at hC g1 i0 i1 (by omega)).mp (c20 |>.trans ha)
            refine wq_iconst (pc := 66) dX2_isLive_66 ?_
            refine wq_goto (pc := 67) (tgt := 71) dX2_isLive_67 (by decide) ?_
            refine wq_zret (pc := 71) dX2_isLive_71 rfl (by first | omega | (simp; done) | assumption) ?_
            unfold jLive jHolds at h1 h2
            have hor : fN F i 0 = 1 ∨ fN F i 0 = 2 := hkd
            first
              | (exfalso; omega)
              | (refine h2 (fun q => ?_); have q1 := q.1; (try rw [if_pos (by omega)] at q1); (try rw [if_neg (by omega)] at q1); exact absurd q1 (by assumption))
              | (refine h2 (fun q => ?_); have q2 := q.2; rw [if_pos (by omega)] at q2; exact q2.1 (by omega))
              | (refine h2 (fun q => ?_); have q2 := q.2; rw [if_pos (by omega)] at q2; exact absurd q2.2 (by assumption))
              | (refine h2 (fun q => ?_); have q2 := q.2; rw [if_neg (by omega)] at q2; rw [show fN F i 0 = 1 by omega] at hcp; exact absurd q2.1 (by assumption))
              | (refine h2 (fun q => ?_); have q2 := q.2; rw [if_neg (by omega)] at q2; rcases q2.2 with w | w; exact absurd w (by assumption); exact absurd hz w)
              | (refine h1 ⟨?_, ?_⟩; rw [if_pos (by omega)]; exact ⟨by assumption, by assumption⟩; rw [if_pos (by omega)]; exact ⟨by omega, by assumption⟩)
              | (refine h1 ⟨?_, ?_⟩; rw [if_neg (by omega)]; exact ⟨by assumption, by assumption⟩; rw [if_neg (by omega)]; rw [show fN F i 0 = 1 by omega] at hcy; exact ⟨hcy, Or.inl (by assumption)⟩)
              | (refine h1 ⟨?_, ?_⟩; rw [if_neg (by omega)]; exact ⟨by assumption, by assumption⟩; rw [if_neg (by omega)]; rw [show fN F i 0 = 1 by omega] at hcy; exact ⟨hcy, Or.inr (by assumption)⟩)
    · skip
      refine kr_s ?_
      rw [f3] at hno
      refine wq_if_ne (pc := 24) (tgt := 29) dX2_isLive_24 (by decide) (by first | (unfold inR; omega) | assumption) (fun c => absurd c (by decide)) (fun _ => ?_)
      refine wq_iconst (pc := 27) dX2_isLive_27 ?_
      refine wq_zret (pc := 28) dX2_isLive_28 rfl (by first | omega | (simp; done) | assumption) ?_
      unfold jLive jHolds at h1 h2
      have hor : fN F i 0 = 1 ∨ fN F i 0 = 2 := hkd
      first
        | (exfalso; omega)
        | (refine h2 (fun q => ?_); have q1 := q.1; (try rw [if_pos (by omega)] at q1); (try rw [if_neg (by omega)] at q1); exact absurd q1 (by assumption))
        | (refine h2 (fun q => ?_); have q2 := q.2; rw [if_pos (by omega)] at q2; exact q2.1 (by omega))
        | (refine h2 (fun q => ?_); have q2 := q.2; rw [if_pos (by omega)] at q2; exact absurd q2.2 (by assumption))
        | (refine h2 (fun q => ?_); have q2 := q.2; rw [if_neg (by omega)] at q2; rw [show fN F i 0 = 1 by omega] at hcp; exact absurd q2.1 (by assumption))
        | (refine h2 (fun q => ?_); have q2 := q.2; rw [if_neg (by omega)] at q2; rcases q2.2 with w | w; exact absurd w (by assumption); exact absurd hz w)
        | (refine h1 ⟨?_, ?_⟩; rw [if_pos (by omega)]; exact ⟨by assumption, by assumption⟩; rw [if_pos (by omega)]; exact ⟨by omega, by assumption⟩)
        | (refine h1 ⟨?_, ?_⟩; rw [if_neg (by omega)]; exact ⟨by assumption, by assumption⟩; rw [if_neg (by omega)]; rw [show fN F i 0 = 1 by omega] at hcy; exact ⟨hcy, Or.inl (by assumption)⟩)
        | (refine h1 ⟨?_, ?_⟩; rw [if_neg (by omega)]; exact ⟨by assumption, by assumption⟩; rw [if_neg (by omega)]; rw [show fN F i 0 = 1 by omega] at hcy; exact ⟨hcy, Or.inr (by assumption)⟩)
theorem sp_X2_isDead {μ : nMem} {ε : nEnv} {Q : nOut → nMem → nEnv → Prop} {F : Fl} {Z : Int → Int} {S : Tr} {a i : Int} (hC : CFz Z F μ ε) (hT : CT S μ ε) (hB : tB S) (i0 : 0 ≤ i) (i1 : i < 128) (ha : a = nRow μ i) (h1 : jDead (fHid F Z) F S i → Q (.inl (some (vI 1))) μ ε) (h2 : ¬ jDead (fHid F Z) F S i → Q (.inl (some (vI 0))) μ ε) : Sp mX2_isDead [vR 17, vR a] μ ε Q := by
  refine Sp_of (L := [(0, vR 17), (1, vR a)]) (by decide) rfl rfl (Nat.le_of_ble_eq_true rfl) ?_
  have hs := hC.1
  have hsT := hT.1
  have hr := hC.2.1
  have hk : eKind ε a = 5 := by rw [ha]; exact nRow_kd hs hr i
  have hb : nB μ a := by rw [ha]; exact nRow_nB hr i
  have hn0 : 0 ≤ a := by rw [ha]; exact nRow_0 hr i
  obtain ⟨b0, b1, b2, b3, b4, b5, b6, b9, b10, b11, b12, b13⟩ := id hb
  obtain ⟨ra, -⟩ := CFz_row hC i0 i1
  rw [← ha] at ra
  have f0 := ra 0 (by omega) (by omega)
  have f1 := ra 1 (by omega) (by omega)
  have f2 := ra 2 (by omega) (by omega)
  have f3 := ra 3 (by omega) (by omega)
  have f4 := ra 4 (by omega) (by omega)
  have f5 := ra 5 (by omega) (by omega)
  have f8 := ra 8 (by omega) (by omega)
  have f10 := ra 10 (by omega) (by omega)
  refine wq_aload_n (pc := 0) dX2_isDead_0 rfl rfl ?_
  refine cV_0 (pc := 1) dX2_isDead_1 (cw_X2_70 _ rfl) (by decide) (by with_reducible assumption) ⟨by decide, by decide⟩ (Nat.le_of_ble_eq_true rfl) (sp_X4_isWhole hk hb (fun hw => ?_) (fun hw => ?_))
  · skip
    refine kr_s ?_
    refine wq_if_ne (pc := 4) (tgt := 9) dX2_isDead_4 (by decide) (by first | (unfold inR; omega) | assumption) (fun _ => ?_) (fun c => absurd c (by decide))
    refine wq_aload_n (pc := 9) dX2_isDead_9 rfl rfl ?_
    refine wq_getI (pc := 10) (kk := 0) dX2_isDead_10 (gf_X2_34 _ rfl) (by with_reducible assumption) rfl rfl rfl ?_
    refine wq_iconst (pc := 13) dX2_isDead_13 ?_
    refine wq_icmp_eq (pc := 14) (tgt := 29) dX2_isDead_14 (by decide) (by first | (unfold inR; omega) | assumption) (by first | (unfold inR; omega) | assumption) (fun c4 => ?_) (fun c4 => ?_)
    · skip
      refine wq_iconst (pc := 29) dX2_isDead_29 ?_
      refine wq_zret (pc := 30) dX2_isDead_30 rfl (by first | omega | (simp; done) | assumption) ?_
      unfold jDead at h1 h2
      rw [f0, f1, f2] at hw
      first
        | exact h1 (Or.inl hw)
        | exact h1 (Or.inr ⟨by omega, hlv⟩)
        | exact h2 (fun q => q.elim (fun z => z hw) (fun z => by omega))
        | exact h2 (fun q => q.elim (fun z => z hw) (fun z => z.2 hlv))
    · skip
      refine wq_aload_n (pc := 17) dX2_isDead_17 rfl rfl ?_
      refine wq_aload_n (pc := 18) dX2_isDead_18 rfl rfl ?_
      refine cVK_1 (pc := 19) dX2_isDead_19 hs (cw_X2_74 _ rfl) (by decide) rfl ⟨by decide, by decide⟩ (Nat.le_of_ble_eq_true rfl) (sp_X2_isLive hC hT hB i0 i1 ha (by omega) (fun hlv => ?_) (fun hlv => ?_))
      · skip
        refine kr_s ?_
        refine wq_if_ne (pc := 22) (tgt := 29) dX2_isDead_22 (by decide) (by first | (unfold inR; omega) | assumption) (fun _ => ?_) (fun c => absurd c (by decide))
        refine wq_iconst (pc := 29) dX2_isDead_29 ?_
        refine wq_zret (pc := 30) dX2_isDead_30 rfl (by first | omega | (simp; done) | assumption) ?_
        unfold jDead at h1 h2
        rw [f0, f1, f2] at hw
        first
          | exact h1 (Or.inl hw)
          | exact h1 (Or.inr ⟨by omega, hlv⟩)
          | exact h2 (fun q => q.elim (fun z => z hw) (fun z => by omega))
          | exact h2 (fun q => q.elim (fun z => z hw) (fun z => z.2 hlv))
      · skip
        refine kr_s ?_
        refine wq_if_ne (pc := 22) (tgt := 29) dX2_isDead_22 (by decide) (by first | (unfold inR; omega) | assumption) (fun c => absurd c (by decide)) (fun _ => ?_)
        refine wq_iconst (pc := 25) dX2_isDead_25 ?_
        refine wq_goto (pc := 26) (tgt := 30) dX2_isDead_26 (by decide) ?_
        refine wq_zret (pc := 30) dX2_isDead_30 rfl (by first | omega | (simp; done) | assumption) ?_
        unfold jDead at h1 h2
        rw [f0, f1, f2] at hw
        first
          | exact h1 (Or.inl hw)
          | exact h1 (Or.inr ⟨by omega, hlv⟩)
          | exact h2 (fun q => q.elim (fun z => z hw) (fun z => by omega))
          | exact h2 (fun q => q.elim (fun z => z hw) (fun z => z.2 hlv))
  · skip
    refine kr_s ?_
    refine wq_if_ne (pc := 4) (tgt := 9) dX2_isDead_4 (by decide) (by first | (unfold inR; omega) | assumption) (fun c => absurd c (by decide)) (fun _ => ?_)
    refine wq_iconst (pc := 7) dX2_isDead_7 ?_
    refine wq_zret (pc := 8) dX2_isDead_8 rfl (by first | omega | (simp; done) | assumption) ?_
    unfold jDead at h1 h2
    rw [f0, f1, f2] at hw
    first
      | exact h1 (Or.inl hw)
      | exact h1 (Or.inr ⟨by omega, hlv⟩)
      | exact h2 (fun q => q.elim (fun z => z hw) (fun z => by omega))
      | exact h2 (fun q => q.elim (fun z => z hw) (fun z => z.2 hlv))
