def zSet (Z : Int → Int) (i v : Int) : Int → Int := fun j => if j = i then v else Z j
theorem row_nz {Z : Int → Int} {F : Fl} {μ : nMem} {ε : nEnv} (hC : CFz Z F μ ε) {i : Int} (h0 : 0 ≤ i) (h1 : i < 128) (hk : fN F i 0 ≠ 0) : μ 3 i ≠ 0 ∧ nRow μ i = μ 3 i ∧ 20 < nRow μ i := by
  obtain ⟨-, hr, -, -, -, -, -, h7⟩ := id hC
  have a := (CFz_row hC h0 h1).1 0 (by omega) (by omega)
  have n0 : μ 3 i ≠ 0 := fun q => by
    have : nRow μ i = 7 := by unfold nRow; rw [if_neg (fun r => r.2.2 q)]
    rw [this, h7 0 (by omega) (by omega)] at a; exact hk a.symm
  have e : nRow μ i = μ 3 i := by unfold nRow; rw [if_pos ⟨h0, h1, n0⟩]
  exact ⟨n0, e, by rw [e]; exact (hr.1 i h0 h1 n0).1⟩
theorem CFz_upd {Z : Int → Int} {F : Fl} {μ : nMem} {ε : nEnv} (hC : CFz Z F μ ε) {i kk v : Int} (i0 : 0 ≤ i) (i1 : i < 128) (hk : fN F i 0 ≠ 0) (hkk : kk = 12 ∨ kk = 13) (hv : v = 0 ∨ v = 1) : CFz (fun j => if kk = 13 ∧ j = i then v else Z j) F (wr μ (nRow μ i) kk v) ε := by
  obtain ⟨h0, ei, far⟩ := row_nz hC i0 i1 hk
  obtain ⟨c1, c2, c3, c4, c5, c6, c7, c8⟩ := hC
  have h3 : ∀ j, wr μ (nRow μ i) kk v 3 j = μ 3 j := fun j => wr_n _ _ (by omega)
  have hn : ∀ j k, wr μ (nRow μ i) kk v (nRow μ j) k = if j = i ∧ k = kk then v else μ (nRow μ j) k := by
    intro j k
    unfold wr
    by_cases e : nRow μ j = nRow μ i
    · have := nRow_inj c2 ⟨i0, i1⟩ h0 e
      subst this
      simp
    · have : j ≠ i := fun q => e (by rw [q])
      simp [e, this]
  refine ⟨c1, nRows_congr c2 h3 (fun j => ?_), fun j h1 h2 k h4 h5 => ?_, fun j h1 h2 => ?_, fun b h1 h2 => ?_, ?_, ?_, fun k h1 h2 => ?_⟩
  · have hb := c2.2.2 j
    unfold nB at hb ⊢
    simp only [hn]
    rcases hkk with e | e <;> subst e <;> by_cases e : j = i <;> simp [e] at hb ⊢ <;> omega
  · rw [nRow_congr h3, hn, if_neg (by omega)]; exact c3 j h1 h2 k h4 h5
  · rw [nRow_congr h3, hn]
    show _ = if kk = 13 ∧ j = i then v else Z j
    by_cases e : j = i ∧ (13 : Int) = kk
    · rw [if_pos e, if_pos ⟨e.2.symm, e.1⟩]
    · rw [if_neg e, if_neg (fun q => e ⟨q.2, q.1.symm⟩)]; exact c4 j h1 h2
  · rw [wr_n _ _ (by omega), wr_n _ _ (by omega), wr_n _ _ (by omega)]; exact c5 b h1 h2
  · rw [wr_n _ _ (by omega)]; exact c6
  · rw [wr_n _ _ (by omega)]; exact c7
  · rw [wr_n _ _ (by omega)]; exact c8 k h1 h2
theorem CFz_ext {Z Y : Int → Int} {F : Fl} {μ : nMem} {ε : nEnv} (hC : CFz Z F μ ε) (h : ∀ i, 0 ≤ i → i < 128 → Y i = Z i) : CFz Y F μ ε := by
  obtain ⟨c1, c2, c3, c4, c5⟩ := hC
  exact ⟨c1, c2, c3, fun i h0 h1 => by rw [h i h0 h1]; exact c4 i h0 h1, c5⟩
theorem CFz_12 {Z : Int → Int} {F : Fl} {μ : nMem} {ε : nEnv} (hC : CFz Z F μ ε) {i v : Int} (i0 : 0 ≤ i) (i1 : i < 128) (hk : fN F i 0 ≠ 0) (hv : v = 0 ∨ v = 1) : CFz Z F (wr μ (nRow μ i) 12 v) ε :=
  CFz_ext (CFz_upd hC i0 i1 hk (Or.inl rfl) hv) (fun j _ _ => by rw [if_neg (by omega)])
theorem CFz_13 {Z : Int → Int} {F : Fl} {μ : nMem} {ε : nEnv} (hC : CFz Z F μ ε) {i v : Int} (i0 : 0 ≤ i) (i1 : i < 128) (hk : fN F i 0 ≠ 0) (hv : v = 0 ∨ v = 1) : CFz (zSet Z i v) F (wr μ (nRow μ i) 13 v) ε :=
  CFz_ext (CFz_upd hC i0 i1 hk (Or.inr rfl) hv) (fun j _ _ => by unfold zSet; by_cases e : j = i; rw [if_pos e, if_pos ⟨rfl, e⟩]; rw [if_neg e, if_neg (fun q => e q.2)])
/-- what changes while a collection is thought through -/
def FrJ (μ μ' : nMem) : Prop := (∀ i, μ' 3 i = μ 3 i) ∧ ∀ x j, x ≠ 17 → x ≠ 18 → ¬ (isRow μ x ∧ (j = 12 ∨ j = 13)) → μ' x j = μ x j
theorem FrJ_refl (μ : nMem) : FrJ μ μ := ⟨fun _ => rfl, fun _ _ _ _ _ => rfl⟩
theorem FrJ_trans {μ m m1 : nMem} (h : FrJ μ m) (k : FrJ m m1) : FrJ μ m1 :=
  ⟨fun i => (k.1 i).trans (h.1 i), fun x j x1 x2 x3 => (k.2 x j x1 x2 (fun q => x3 ⟨by obtain ⟨i, a, b, c⟩ := q.1; exact ⟨i, a, b, by rw [← h.1]; exact c⟩, q.2⟩)).trans (h.2 x j x1 x2 x3)⟩
theorem FrJ_row {Z : Int → Int} {F : Fl} {μ : nMem} {ε : nEnv} (hC : CFz Z F μ ε) {i k v : Int} (i0 : 0 ≤ i) (i1 : i < 128) (hk : fN F i 0 ≠ 0) (hkk : k = 12 ∨ k = 13) : FrJ μ (wr μ (nRow μ i) k v) := by
  obtain ⟨h0, ei, far⟩ := row_nz hC i0 i1 hk
  exact ⟨fun j => wr_n _ _ (by omega), fun x j x1 x2 x3 => wr_n _ _ (fun q => x3 ⟨⟨i, i0, i1, by rw [← ei]; exact q.1.symm⟩, by rw [q.2]; exact hkk⟩)⟩
theorem FrJ_jd {μ : nMem} {x k v : Int} (hx : x = 17 ∨ x = 18) : FrJ μ (wr μ x k v) :=
  ⟨fun j => wr_n _ _ (by omega), fun y j y1 y2 y3 => wr_n _ _ (fun q => by omega)⟩
theorem CT_FrJ {S : Tr} {μ μ1 : nMem} {ε : nEnv} (hT : CT S μ ε) (hr : nRows μ ε) (hF : FrJ μ μ1) : CT S μ1 ε ∧ (∀ b q, tAt S μ b q → tAt S μ1 b q) := by
  obtain ⟨c1, c2, c3, c4, c5, c6, c7⟩ := id hT
  have k12 := (c1 12 6 0 _ rfl (by decide)).1
  have k13 := (c1 13 14 129 _ rfl (by decide)).1
  have m : ∀ x, 11 < x → x ≠ 17 → x ≠ 18 → eKind ε x ≠ 5 → ∀ j, μ1 x j = μ x j := fun x h0 h1 h2 h3 j => hF.2 x j h1 h2 (fun q => not_row hr (by omega) (Or.inl h3) q.1)
  have m12 := m 12 (by omega) (by omega) (by omega) (by rw [k12]; omega)
  have m13 := m 13 (by omega) (by omega) (by omega) (by rw [k13]; omega)
  refine ⟨⟨c1, by unfold nItems; simp only [m13]; exact c2, c3, c4, by rw [m12]; exact c5, by rw [m12]; exact c6, fun i hi => ?_⟩, fun b q ⟨i, i0, i1, i2⟩ => ⟨i, i0, i1, by rw [m13]; exact i2⟩⟩
  obtain ⟨d0, d1, d2, d3⟩ := c7 i hi
  obtain ⟨s1, s2, s3⟩ := c2.1 i (by omega) (by omega) d0
  rw [m13]
  have u := m (μ 13 i) (by omega) (by omega) (by omega) (by rw [s1.1]; omega)
  have v := m (eFin ε (μ 13 i) 0) (by omega) (by omega) (by omega) (by rw [s1.2.1]; omega)
  exact ⟨d0, by rw [u]; exact d1, fun k k0 k1 => by rw [u]; exact d2 k k0 k1, fun j j0 j1 => by rw [v]; exact d3 j j0 j1⟩
theorem CL_FrJ {g : Lg} {μ μ1 : nMem} {ε : nEnv} (hL : CL g μ) (hr : nRows μ ε) (hF : FrJ μ μ1) : CL g μ1 := by
  have e : ∀ x, x = 8 ∨ x = 10 ∨ x = 11 → ∀ j, μ1 x j = μ x j := fun x hx j => hF.2 x j (by omega) (by omega) (fun q => not_row hr (by omega) (Or.inr (by omega)) q.1)
  exact CL_mem hL ⟨e 8 (by omega) 4, e 8 (by omega) 5, e 8 (by omega) 6⟩ (e 10 (by omega)) (e 11 (by omega))
theorem Cap_FrJ {μ μ1 : nMem} {ε : nEnv} {t : Nat} (h : Cap μ ε t) (hr : nRows μ ε) (hF : FrJ μ μ1) : Cap μ1 ε t :=
  Cap_congr h hF.1 (fun j => hF.2 13 j (by omega) (by omega) (fun q => not_row hr (by omega) (Or.inr (by omega)) q.1)) rfl rfl
/-- what a place names -/
def qTgt (F : Fl) (x : Int) : Int := if x = -1 then 0 else fN F x 10
def qByt (F : Fl) (x p : Int) : Int := if x = -1 then 0 else fByteFor F x p
/-- the places at which a node shows -/
def jShown (H F : Fl) (i : Int) : Int := jAnd (fSettled F i) (jXor (qSet H (fN F i 3) (fN F i 4) 128) (-1))
def jMissN (F : Fl) (Z : Int → Int) (i : Int) : Prop := qTgt F (qNew (fHid F Z) 2 (fN F i 3) (fN F i 5) 2147483647 128) ≠ qTgt F (qNew (fHid F (zSet Z i 1)) 2 (fN F i 3) (fN F i 5) 2147483647 128)
def jMissP (F : Fl) (Z : Int → Int) (i p : Int) : Prop := jAnd (jUshr (jShown (fHid F Z) F i) p) 1 ≠ 0 ∧ qByt F (qNew (fHid F Z) 1 (fN F i 3) p (fN F i 4) 128) p ≠ fByteFor F i p
def jMissD (F : Fl) (Z : Int → Int) (i : Int) : Prop := qCpy (fHid F (zSet Z i 1)) 1 (fN F i 3) (fN F i 4) 128 = -1 ∧ ∃ p, 0 ≤ p ∧ p < 64 ∧ jMissP F Z i p
def jMiss (F : Fl) (S : Tr) (Z : Int → Int) (i : Int) : Prop := jHolds S (fN F i 3) (if fN F i 0 = 2 then 1 else 0) ∧ (if fN F i 0 = 2 then jMissN F Z i else jMissD F Z i)
theorem wr_back {μ : nMem} {a k v w : Int} (h : μ a k = w) : wr (wr μ a k v) a k w = μ := by
  funext x j
  unfold wr
  by_cases c : x = a ∧ j = k
  · rw [if_pos c, c.1, c.2, h]
  · rw [if_neg c, if_neg c]
theorem nRow_13 {Z : Int → Int} {F : Fl} {μ : nMem} {ε : nEnv} (hC : CFz Z F μ ε) {i k v : Int} (i0 : 0 ≤ i) (i1 : i < 128) (hk : fN F i 0 ≠ 0) (j : Int) : nRow (wr μ (nRow μ i) k v) j = nRow μ j := by
  obtain ⟨h0, ei, far⟩ := row_nz hC i0 i1 hk
  exact nRow_congr (fun j => wr_n _ _ (by omega)) j
theorem fByteFor_z {Z : Int → Int} {F : Fl} {μ : nMem} {ε : nEnv} (hC : CFz Z F μ ε) {i : Int} (h0 : 0 ≤ i) (h1 : i < 128) (p : Int) : nByteFor μ (nRow μ i) p = fByteFor F i p := by
  obtain ⟨a, -⟩ := CFz_row hC h0 h1
  unfold nByteFor nByte fByteFor
  rw [a 5 (by omega) (by omega), a 6 (by omega) (by omega), a 7 (by omega) (by omega)]
theorem fSettled_z {Z : Int → Int} {F : Fl} {μ : nMem} {ε : nEnv} (hC : CFz Z F μ ε) {i : Int} (h0 : 0 ≤ i) (h1 : i < 128) : nSettled μ (nRow μ i) = fSettled F i := by
  obtain ⟨a, -⟩ := CFz_row hC h0 h1
  unfold nSettled fSettled
  rw [a 9 (by omega) (by omega), a 8 (by omega) (by omega)]
theorem qTgt_i {Z : Int → Int} {F : Fl} {μ : nMem} {ε : nEnv} (hC : CFz Z F μ ε) {x : Int} (hx : x = -1 ∨ (0 ≤ x ∧ x < 128)) : inR (qTgt F x) := by
  unfold qTgt
  split
  · unfold inR; omega
  · have a := (CFz_row hC (i := x) (by omega) (by omega)).1 10 (by omega) (by omega)
    obtain ⟨b0, b1, b2, b3, b4, b5, b6, b9, b10, b11, b12, b13⟩ := nRow_nB hC.2.1 x
    unfold inR; omega
theorem iAnd_r (x y : Int) : inR (iAnd x y) := by
  unfold inR iAnd
  have h1 := Int32.le_toInt (Int32.ofInt x &&& Int32.ofInt y)
  have h2 := Int32.toInt_lt (Int32.ofInt x &&& Int32.ofInt y)
  omega
theorem fByteFor_r (F : Fl) (i p : Int) : inR (fByteFor F i p) := by
  unfold fByteFor
  split
  · exact iAnd_r _ _
  · unfold inR; omega
theorem sz_X2_targetOf {μ : nMem} {ε : nEnv} {Q : nOut → nMem → nEnv → Prop} {Z : Int → Int} {a : Int} {F : Fl} {i : Int} (hC : CFz Z F μ ε) (hi : i = -1 ∨ (0 ≤ i ∧ i < 128)) (ha : a = qAd μ i) (h : Q (.inl (some (vI (qTgt F i)))) μ ε) : Sp mX2_targetOf [vR 17, vR a] μ ε Q := by
  refine Sp_of (L := [(0, vR 17), (1, vR a)]) (by decide) rfl rfl (Nat.le_of_ble_eq_true rfl) ?_
  have hs := hC.1
  have h0 := qAd_0 (μ := μ) hC.2.1 (i := i)
  rw [← ha] at h0
  have hk : a ≠ 0 → eKind ε a = 5 ∧ i ≠ -1 ∧ μ a 10 = fN F i 10 := fun q => by
    have hi9 : i ≠ -1 := fun z => q (h0.mpr z)
    rw [ha]; unfold qAd; rw [if_neg hi9]
    exact ⟨nRow_kd hs hC.2.1 i, hi9, (CFz_row hC (by omega) (by omega)).1 10 (by omega) (by omega)⟩
  unfold qTgt at h
  refine wq_aload_n (pc := 0) dX2_targetOf_0 rfl rfl ?_
  refine wq_ifnonnull (pc := 1) (tgt := 8) dX2_targetOf_1 (by decide)  (fun c1 => ?_) (fun c1 => ?_)
  · skip
    obtain ⟨kk, ki, kt⟩ := hk c1
    refine wq_aload_n (pc := 8) dX2_targetOf_8 rfl rfl ?_
    refine wq_getI (pc := 9) (kk := 10) dX2_targetOf_9 (gf_X2_43 _ rfl) (by with_reducible assumption) rfl rfl rfl ?_
    refine wq_iret (pc := 12) dX2_targetOf_12 rfl ?_
    first
      | (rw [if_neg ki, ← kt] at h; exact h)
      | (rw [if_pos kn] at h; exact h)
  · skip
    have kn := h0.mp c1
    refine wq_iconst (pc := 4) dX2_targetOf_4 ?_
    refine wq_goto (pc := 5) (tgt := 12) dX2_targetOf_5 (by decide) ?_
    refine wq_iret (pc := 12) dX2_targetOf_12 rfl ?_
    first
      | (rw [if_neg ki, ← kt] at h; exact h)
      | (rw [if_pos kn] at h; exact h)
theorem sp_X2_isMissedAsName {μ : nMem} {ε : nEnv} {Q : nOut → nMem → nEnv → Prop} {F : Fl} {Z : Int → Int} {S : Tr} {a i : Int} (hC : CFz Z F μ ε) (hT : CT S μ ε) (hB : tB S) (i0 : 0 ≤ i) (i1 : i < 128) (ha : a = nRow μ i) (hk0 : fN F i 0 ≠ 0) (hZ : Z i = 0) (h1 : jMissN F Z i → Q (.inl (some (vI 1))) μ ε) (h2 : ¬ jMissN F Z i → Q (.inl (some (vI 0))) μ ε) : Sp mX2_isMissedAsName [vR 17, vR a] μ ε Q := by
  refine Sp_of (L := [(0, vR 17), (1, vR a)]) (by decide) rfl rfl (Nat.le_of_ble_eq_true rfl) ?_
  have hs := hC.1
  have hsT := hT.1
  have hr := hC.2.1
  have hk : eKind ε a = 5 := by rw [ha]; exact nRow_kd hs hr i
  have hb : nB μ a := by rw [ha]; exact nRow_nB hr i
  have hn0 : 0 ≤ a := by rw [ha]; exact nRow_0 hr i
  obtain ⟨b0, b1, b2, b3, b4, b5, b6, b9, b10, b11, b12, b13⟩ := id hb
  obtain ⟨ra, -⟩ := CFz_row hC i0 i1
  rw [← ha] at ra
  have f0 := ra 0 (by omega) (by omega)
  have f1 := ra 1 (by omega) (by omega)
  have f2 := ra 2 (by omega) (by omega)
  have f3 := ra 3 (by omega) (by omega)
  have f4 := ra 4 (by omega) (by omega)
  have f5 := ra 5 (by omega) (by omega)
  have f8 := ra 8 (by omega) (by omega)
  have f10 := ra 10 (by omega) (by omega)
  have hz13 := (CFz_row hC i0 i1).2
  rw [← ha] at hz13
  refine wq_aload_n (pc := 0) dX2_isMissedAsName_0 rfl rfl ?_
  refine wq_getS (pc := 1) dX2_isMissedAsName_1 hs (gf_X2_22 _ rfl) rfl rfl rfl rfl rfl ?_
  refine wq_iconst (pc := 4) dX2_isMissedAsName_4 ?_
  refine wq_aload_n (pc := 5) dX2_isMissedAsName_5 rfl rfl ?_
  refine wq_getI (pc := 6) (kk := 3) dX2_isMissedAsName_6 (gf_X2_30 _ rfl) (by with_reducible assumption) rfl rfl rfl ?_
  refine wq_aload_n (pc := 9) dX2_isMissedAsName_9 rfl rfl ?_
  refine wq_getI (pc := 10) (kk := 5) dX2_isMissedAsName_10 (gf_X2_46 _ rfl) (by with_reducible assumption) rfl rfl rfl ?_
  refine wq_ldc (pc := 13) dX2_isMissedAsName_13 (kc_X2_49 _ rfl) ?_
  refine cVK_4 (pc := 15) dX2_isMissedAsName_15 hs (cw_X2_50 _ rfl) (by decide) rfl ⟨by decide, by decide⟩ (Nat.le_of_ble_eq_true rfl) (sp_X0_newest hs hr (by unfold inR; omega) (by unfold inR; omega) (by omega) (by unfold inR; omega) ?_)
  refine kr_s ?_
  rw [f3, f5, qNewz_of hC 2 (fN F i 3) (fN F i 5) 2147483647 (by decide) 128 (Nat.le_refl _)]
  refine wq_astore_n (pc := 18) (L' := [(2, _), (0, _), (1, _)]) dX2_isMissedAsName_18 rfl rfl (by decide) ?_
  refine wq_aload_n (pc := 19) dX2_isMissedAsName_19 rfl rfl ?_
  refine wq_iconst (pc := 20) dX2_isMissedAsName_20 ?_
  refine wq_putZ (pc := 21) (kk := 13) dX2_isMissedAsName_21 (gf_X2_103 _ rfl) (by with_reducible assumption) rfl rfl rfl rfl (by first | omega | (simp; done) | assumption) ?_
  have C1 := CFz_13 (v := 1) hC i0 i1 hk0 (Or.inr rfl)
  have hnr := nRow_13 (k := 13) (v := 1) hC i0 i1 hk0
  have hbk : wr (wr μ a 13 1) a 13 0 = μ := wr_back (by rw [hz13]; exact hZ)
  rw [← ha] at C1 hnr
  have g3 : wr μ a 13 1 a 3 = fN F i 3 := by rw [wr_n _ _ (by omega)]; exact f3
  have g5 : wr μ a 13 1 a 5 = fN F i 5 := by rw [wr_n _ _ (by omega)]; exact f5
  have r3 : inR (wr μ a 13 1 a 3) := by rw [g3]; unfold inR; omega
  have hqq : qAd (wr μ a 13 1) (qNew (fHid F (zSet Z i 1)) 2 (fN F i 3) (fN F i 5) 2147483647 128) = qAd μ (qNew (fHid F (zSet Z i 1)) 2 (fN F i 3) (fN F i 5) 2147483647 128) := by unfold qAd; rw [hnr]
  refine wq_aload_n (pc := 24) dX2_isMissedAsName_24 rfl rfl ?_
  refine wq_getS (pc := 25) dX2_isMissedAsName_25 hs (gf_X2_22 _ rfl) rfl rfl rfl rfl rfl ?_
  refine wq_iconst (pc := 28) dX2_isMissedAsName_28 ?_
  refine wq_aload_n (pc := 29) dX2_isMissedAsName_29 rfl rfl ?_
  refine wq_getI (pc := 30) (kk := 3) dX2_isMissedAsName_30 (gf_X2_30 _ rfl) (by with_reducible assumption) rfl rfl rfl ?_
  refine wq_aload_n (pc := 33) dX2_isMissedAsName_33 rfl rfl ?_
  refine wq_getI (pc := 34) (kk := 5) dX2_isMissedAsName_34 (gf_X2_46 _ rfl) (by with_reducible assumption) rfl rfl rfl ?_
  refine wq_ldc (pc := 37) dX2_isMissedAsName_37 (kc_X2_49 _ rfl) ?_
  refine cVK_4 (pc := 39) dX2_isMissedAsName_39 hs (cw_X2_50 _ rfl) (by decide) rfl ⟨by decide, by decide⟩ (Nat.le_of_ble_eq_true rfl) (sp_X0_newest hs C1.2.1 (by unfold inR; omega) (by unfold inR; omega) (by omega) (by unfold inR; omega) ?_)
  refine kr_s ?_
  rw [g3, g5, qNewz_of C1 2 (fN F i 3) (fN F i 5) 2147483647 (by decide) 128 (Nat.le_refl _)]
  refine wq_astore_n (pc := 42) (L' := [(3, _), (2, _), (0, _), (1, _)]) dX2_isMissedAsName_42 rfl rfl (by decide) ?_
  refine wq_aload_n (pc := 43) dX2_isMissedAsName_43 rfl rfl ?_
  refine wq_iconst (pc := 44) dX2_isMissedAsName_44 ?_
  refine wq_putZ (pc := 45) (kk := 13) dX2_isMissedAsName_45 (gf_X2_103 _ rfl) (by with_reducible assumption) rfl rfl rfl rfl (by first | omega | (simp; done) | assumption) ?_
  rw [hbk]
  refine wq_aload_n (pc := 48) dX2_isMissedAsName_48 rfl rfl ?_
  refine wq_aload_n (pc := 49) dX2_isMissedAsName_49 rfl rfl ?_
  refine cVK_1 (pc := 50) dX2_isMissedAsName_50 hs (cw_X2_115 _ rfl) (by decide) rfl ⟨by decide, by decide⟩ (Nat.le_of_ble_eq_true rfl) (sz_X2_targetOf hC (qNew_r _ _ _ _ _ 128) (by first | rfl | exact hqq) ?_)
  refine kr_s ?_
  refine wq_aload_n (pc := 53) dX2_isMissedAsName_53 rfl rfl ?_
  refine wq_aload_n (pc := 54) dX2_isMissedAsName_54 rfl rfl ?_
  refine cVK_1 (pc := 55) dX2_isMissedAsName_55 hs (cw_X2_115 _ rfl) (by decide) rfl ⟨by decide, by decide⟩ (Nat.le_of_ble_eq_true rfl) (sz_X2_targetOf hC (qNew_r _ _ _ _ _ 128) (by first | rfl | exact hqq) ?_)
  refine kr_s ?_
  refine wq_icmp_eq (pc := 58) (tgt := 65) dX2_isMissedAsName_58 (by decide) (qTgt_i hC (qNew_r _ _ _ _ _ 128)) (qTgt_i hC (qNew_r _ _ _ _ _ 128)) (fun c1 => ?_) (fun c1 => ?_)
  · skip
    refine wq_iconst (pc := 65) dX2_isMissedAsName_65 ?_
    refine wq_zret (pc := 66) dX2_isMissedAsName_66 rfl (by first | omega | (simp; done) | assumption) ?_
    first
      | exact h1 (by unfold jMissN; assumption)
      | exact h2 (by unfold jMissN; exact fun z => z (by assumption))
  · skip
    refine wq_iconst (pc := 61) dX2_isMissedAsName_61 ?_
    refine wq_goto (pc := 62) (tgt := 66) dX2_isMissedAsName_62 (by decide) ?_
    refine wq_zret (pc := 66) dX2_isMissedAsName_66 rfl (by first | omega | (simp; done) | assumption) ?_
    first
      | exact h1 (by unfold jMissN; assumption)
      | exact h2 (by unfold jMissN; exact fun z => z (by assumption))
theorem sp_X2_isMissedAsData {μ : nMem} {ε : nEnv} {Q : nOut → nMem → nEnv → Prop} {F : Fl} {Z : Int → Int} {S : Tr} {a i : Int} (hC : CFz Z F μ ε) (hT : CT S μ ε) (hB : tB S) (i0 : 0 ≤ i) (i1 : i < 128) (ha : a = nRow μ i) (hk1 : fN F i 0 = 1) (hZ : Z i = 0) (h1 : jMissD F Z i → Q (.inl (some (vI 1))) μ ε) (h2 : ¬ jMissD F Z i → Q (.inl (some (vI 0))) μ ε) : Sp mX2_isMissedAsData [vR 17, vR a] μ ε Q := by
  refine Sp_of (L := [(0, vR 17), (1, vR a)]) (by decide) rfl rfl (Nat.le_of_ble_eq_true rfl) ?_
  have hs := hC.1
  have hsT := hT.1
  have hr := hC.2.1
  have hk : eKind ε a = 5 := by rw [ha]; exact nRow_kd hs hr i
  have hb : nB μ a := by rw [ha]; exact nRow_nB hr i
  have hn0 : 0 ≤ a := by rw [ha]; exact nRow_0 hr i
  obtain ⟨b0, b1, b2, b3, b4, b5, b6, b9, b10, b11, b12, b13⟩ := id hb
  obtain ⟨ra, -⟩ := CFz_row hC i0 i1
  rw [← ha] at ra
  have f0 := ra 0 (by omega) (by omega)
  have f1 := ra 1 (by omega) (by omega)
  have f2 := ra 2 (by omega) (by omega)
  have f3 := ra 3 (by omega) (by omega)
  have f4 := ra 4 (by omega) (by omega)
  have f5 := ra 5 (by omega) (by omega)
  have f8 := ra 8 (by omega) (by omega)
  have f10 := ra 10 (by omega) (by omega)
  have hz13 := (CFz_row hC i0 i1).2
  rw [← ha] at hz13
  have hk0 : fN F i 0 ≠ 0 := by omega
  have hset : nSettled μ a = fSettled F i := by rw [ha]; exact fSettled_z hC i0 i1
  refine wq_aload_n (pc := 0) dX2_isMissedAsData_0 rfl rfl ?_
  refine wq_iconst (pc := 1) dX2_isMissedAsData_1 ?_
  refine wq_putZ (pc := 2) (kk := 13) dX2_isMissedAsData_2 (gf_X2_103 _ rfl) (by with_reducible assumption) rfl rfl rfl rfl (by first | omega | (simp; done) | assumption) ?_
  have C1 := CFz_13 (v := 1) hC i0 i1 hk0 (Or.inr rfl)
  have hnr := nRow_13 (k := 13) (v := 1) hC i0 i1 hk0
  have hbk : wr (wr μ a 13 1) a 13 0 = μ := wr_back (by rw [hz13]; exact hZ)
  rw [← ha] at C1 hnr
  have hnb1 : nB (wr μ a 13 1) a := by have := nRow_nB C1.2.1 i; rw [hnr i, ← ha] at this; exact this
  have g0 : wr μ a 13 1 a 0 = fN F i 0 := by rw [wr_n _ _ (by omega)]; exact f0
  have g3 : wr μ a 13 1 a 3 = fN F i 3 := by rw [wr_n _ _ (by omega)]; exact f3
  have g4 : wr μ a 13 1 a 4 = fN F i 4 := by rw [wr_n _ _ (by omega)]; exact f4
  refine wq_aload_n (pc := 5) dX2_isMissedAsData_5 rfl rfl ?_
  refine wq_getS (pc := 6) dX2_isMissedAsData_6 hs (gf_X2_22 _ rfl) rfl rfl rfl rfl rfl ?_
  refine wq_aload_n (pc := 9) dX2_isMissedAsData_9 rfl rfl ?_
  refine cVK_1 (pc := 10) dX2_isMissedAsData_10 hs (cw_X2_56 _ rfl) (by decide) rfl ⟨by decide, by decide⟩ (Nat.le_of_ble_eq_true rfl) (sp_X0_firstCopy hs C1.2.1 hk hnb1 ?_)
  refine kr_s ?_
  rw [qCpyz_of C1 a (by rw [g0]; omega) 128 (Nat.le_refl _), g0, g3, g4, hk1]
  have hz0 := qAd_0 (μ := wr μ a 13 1) C1.2.1 (i := qCpy (fHid F (zSet Z i 1)) 1 (fN F i 3) (fN F i 4) 128)
  refine wq_ifnull (pc := 13) (tgt := 20) dX2_isMissedAsData_13 (by decide)  (fun c1 => ?_) (fun c1 => ?_)
  · skip
    have hcp := hz0.mp c1
    refine wq_iconst (pc := 20) dX2_isMissedAsData_20 ?_
    refine wq_istore_n (pc := 21) (L' := [(2, _), (0, _), (1, _)]) dX2_isMissedAsData_21 rfl rfl (by decide) ?_
    refine wq_aload_n (pc := 22) dX2_isMissedAsData_22 rfl rfl ?_
    refine wq_iconst (pc := 23) dX2_isMissedAsData_23 ?_
    refine wq_putZ (pc := 24) (kk := 13) dX2_isMissedAsData_24 (gf_X2_103 _ rfl) (by with_reducible assumption) rfl rfl rfl rfl (by first | omega | (simp; done) | assumption) ?_
    rw [hbk]
    refine wq_iload_n (pc := 27) dX2_isMissedAsData_27 rfl rfl ?_
    refine wq_if_eq (pc := 28) (tgt := 33) dX2_isMissedAsData_28 (by decide) (by first | (unfold inR; omega) | assumption) (fun _ => ?_) (fun c => absurd c (by decide))
    refine wq_aload_n (pc := 33) dX2_isMissedAsData_33 rfl rfl ?_
    refine cV_0 (pc := 34) dX2_isMissedAsData_34 (cw_X2_119 _ rfl) (by decide) (by with_reducible assumption) ⟨by decide, by decide⟩ (Nat.le_of_ble_eq_true rfl) (sp_X4_settledPlaces hk hb ?_)
    refine kr_s ?_
    rw [hset]
    refine wq_aload_n (pc := 37) dX2_isMissedAsData_37 rfl rfl ?_
    refine wq_getS (pc := 38) dX2_isMissedAsData_38 hs (gf_X2_22 _ rfl) rfl rfl rfl rfl rfl ?_
    refine wq_aload_n (pc := 41) dX2_isMissedAsData_41 rfl rfl ?_
    refine cVK_1 (pc := 42) dX2_isMissedAsData_42 hs (cw_X2_64 _ rfl) (by decide) rfl ⟨by decide, by decide⟩ (Nat.le_of_ble_eq_true rfl) (sp_X0_settledByNewer hs hr hk hb ?_)
    refine kr_s ?_
    rw [qSetz_of hC a 128 (Nat.le_refl _), f3, f4]
    refine wq_ldc2 (pc := 45) dX2_isMissedAsData_45 (kc_X2_68 _ rfl) ?_
    refine wq_lxor (pc := 48) dX2_isMissedAsData_48 ?_
    refine wq_land (pc := 49) dX2_isMissedAsData_49 ?_
    refine wq_lstore_n (pc := 50) (L' := [(3, _), (2, _), (0, _), (1, _)]) dX2_isMissedAsData_50 rfl rfl (by decide) ?_
    refine wq_iconst (pc := 51) dX2_isMissedAsData_51 ?_
    refine wq_istore (pc := 52) (L' := [(5, _), (3, _), (2, _), (0, _), (1, _)]) dX2_isMissedAsData_52 rfl (by decide) ?_
    have loop3 : ∀ (n k : Nat), ∀ (j : Int), k ≤ 64 → 64 < k + n → j = (k : Int) → (∀ p : Int, 0 ≤ p → p < k → ¬ jMissP F Z i p) → wp mX2_isMissedAsData 54 [(0, vR 17), (1, vR a), (3, vJ (jShown (fHid F Z) F i)), (5, vI j)] [] μ ε Q := by
      intro n
      induction n with
      | zero => intro k j hk1 hk2 e0 e1; exact absurd hk2 (by omega)
      | succ n ih =>
        intro k j hk1 hk2 e0 e1
        subst e0
        have hbi : nByteFor μ a (k : Int) = fByteFor F i (k : Int) := by rw [ha]; exact fByteFor_z hC i0 i1 k
        refine wq_iload (pc := 54) dX2_isMissedAsData_54 rfl ?_
        refine wq_bipush (pc := 56) dX2_isMissedAsData_56 (by decide) (by decide) ?_
        refine wq_icmp_ge (pc := 58) (tgt := 129) dX2_isMissedAsData_58 (by decide) (by first | (unfold inR; omega) | assumption) (by first | (unfold inR; omega) | assumption) (fun c4 => ?_) (fun c4 => ?_)
        · skip
          refine wq_iconst (pc := 129) dX2_isMissedAsData_129 ?_
          refine wq_zret (pc := 130) dX2_isMissedAsData_130 rfl (by first | omega | (simp; done) | assumption) ?_
          first
            | (exfalso; omega)
            | exact h2 (fun q => absurd q.1 hcp)
            | (refine h1 ⟨hcp, (k : Int), by omega, by omega, hzb, ?_⟩; rw [hxe]; unfold qByt; rw [if_neg hq9]; assumption)
            | (refine h1 ⟨hcp, (k : Int), by omega, by omega, hzb, ?_⟩; rw [hxe]; unfold qByt; rw [if_pos hq9]; assumption)
            | exact h2 (fun ⟨_, p, p0, p1, hp⟩ => e1 p p0 (by omega) hp)
        · skip
          refine wq_lload_n (pc := 61) dX2_isMissedAsData_61 rfl rfl ?_
          refine wq_iload (pc := 62) dX2_isMissedAsData_62 rfl ?_
          refine wq_lushr (pc := 64) dX2_isMissedAsData_64 ?_
          refine wq_lconst (pc := 65) (v := 1) dX2_isMissedAsData_65 rfl ?_
          refine wq_land (pc := 66) dX2_isMissedAsData_66 ?_
          refine wq_lconst (pc := 67) (v := 0) dX2_isMissedAsData_67 rfl ?_
          refine wq_lcmp (pc := 68) dX2_isMissedAsData_68 (by first | assumption | exact jAnd_r _ _ | (unfold inL; omega)) (by first | assumption | exact jAnd_r _ _ | (unfold inL; omega)) ?_
          refine wq_if_eq (pc := 69) (tgt := 123) dX2_isMissedAsData_69 (by decide) (nCmp_r _ _) (fun c5 => ?_) (fun c5 => ?_)
          · skip
            have hzb := (nCmp_0 _).mp c5
            refine wq_iinc (pc := 123) (L' := [(5, _), (0, _), (1, _), (3, _)]) dX2_isMissedAsData_123 rfl rfl (by decide) ?_
            refine wq_goto (pc := 126) (tgt := 54) dX2_isMissedAsData_126 (by decide) ?_
            refine wq_sub1 (L' := [(0, _), (1, _), (3, _), (5, _)]) ⟨rfl, rfl, rfl, rfl, trivial⟩ ?_
            refine ih (k + 1) _ (by omega) (by omega) (by omega) (fun p p0 p1 => ?_)
            by_cases ep : p = k
            · subst ep
              first
                | exact fun q => q.1 hzb
                | exact fun q => q.2 (by rw [hxe]; unfold qByt; rw [if_neg hq9]; assumption)
                | exact fun q => q.2 (by rw [hxe]; unfold qByt; rw [if_pos hq9]; assumption)
            · exact e1 p p0 (by omega)
          · skip
            have hzb := fun z => c5 ((nCmp_0 _).mpr z)
            refine wq_aload_n (pc := 72) dX2_isMissedAsData_72 rfl rfl ?_
            refine wq_getS (pc := 73) dX2_isMissedAsData_73 hs (gf_X2_22 _ rfl) rfl rfl rfl rfl rfl ?_
            refine wq_iconst (pc := 76) dX2_isMissedAsData_76 ?_
            refine wq_aload_n (pc := 77) dX2_isMissedAsData_77 rfl rfl ?_
            refine wq_getI (pc := 78) (kk := 3) dX2_isMissedAsData_78 (gf_X2_30 _ rfl) (by with_reducible assumption) rfl rfl rfl ?_
            refine wq_iload (pc := 81) dX2_isMissedAsData_81 rfl ?_
            refine wq_aload_n (pc := 83) dX2_isMissedAsData_83 rfl rfl ?_
            refine wq_getI (pc := 84) (kk := 4) dX2_isMissedAsData_84 (gf_X2_123 _ rfl) (by with_reducible assumption) rfl rfl rfl ?_
            refine cVK_4 (pc := 87) dX2_isMissedAsData_87 hs (cw_X2_50 _ rfl) (by decide) rfl ⟨by decide, by decide⟩ (Nat.le_of_ble_eq_true rfl) (sp_X0_newest hs hr (by unfold inR; omega) (by unfold inR; omega) (by omega) (by unfold inR; omega) ?_)
            refine kr_s ?_
            rw [f3, f4, qNewz_of hC 1 (fN F i 3) (k : Int) (fN F i 4) (by decide) 128 (Nat.le_refl _)]
            have hxr := qNew_r (fHid F Z) 1 (fN F i 3) (k : Int) (fN F i 4) 128
            generalize hxe : qNew (fHid F Z) 1 (fN F i 3) (k : Int) (fN F i 4) 128 = x at hxr ⊢
            have hx0 := qAd_0 (μ := μ) hr (i := x)
            refine wq_astore (pc := 90) (L' := [(6, _), (0, _), (1, _), (3, _), (5, _)]) dX2_isMissedAsData_90 rfl (by decide) ?_
            refine wq_aload (pc := 92) dX2_isMissedAsData_92 rfl ?_
            refine wq_ifnonnull (pc := 94) (tgt := 101) dX2_isMissedAsData_94 (by decide)  (fun c6 => ?_) (fun c6 => ?_)
            · skip
              have hq9 : x ≠ -1 := fun z => c6 (hx0.mpr z)
              have qe : qAd μ x = nRow μ x := by unfold qAd; rw [if_neg hq9]
              have qk : eKind ε (qAd μ x) = 5 := by rw [qe]; exact nRow_kd hs hr x
              have qb : nB μ (qAd μ x) := by rw [qe]; exact nRow_nB hr x
              have hby : nByteFor μ (qAd μ x) (k : Int) = fByteFor F x (k : Int) := by rw [qe]; exact fByteFor_z hC (by omega) (by omega) k
              refine wq_aload (pc := 101) dX2_isMissedAsData_101 rfl ?_
              refine wq_iload (pc := 103) dX2_isMissedAsData_103 rfl ?_
              refine cV_1 (pc := 105) dX2_isMissedAsData_105 (cw_X2_126 _ rfl) (by decide) (by with_reducible assumption) ⟨by decide, by decide⟩ (Nat.le_of_ble_eq_true rfl) (sp_X4_byteFor qk qb (by omega) ?_)
              refine kr_s ?_
              rw [hby]
              refine wq_istore (pc := 108) (L' := [(7, _), (6, _), (0, _), (1, _), (3, _), (5, _)]) dX2_isMissedAsData_108 rfl (by decide) ?_
              refine wq_iload (pc := 110) dX2_isMissedAsData_110 rfl ?_
              refine wq_aload_n (pc := 112) dX2_isMissedAsData_112 rfl rfl ?_
              refine wq_iload (pc := 113) dX2_isMissedAsData_113 rfl ?_
              refine cV_1 (pc := 115) dX2_isMissedAsData_115 (cw_X2_126 _ rfl) (by decide) (by with_reducible assumption) ⟨by decide, by decide⟩ (Nat.le_of_ble_eq_true rfl) (sp_X4_byteFor hk hb (by omega) ?_)
              refine kr_s ?_
              rw [hbi]
              refine wq_icmp_eq (pc := 118) (tgt := 123) dX2_isMissedAsData_118 (by decide) (by first | exact fByteFor_r _ _ _ | (unfold inR; omega)) (fByteFor_r _ _ _) (fun c7 => ?_) (fun c7 => ?_)
              · skip
                refine wq_iinc (pc := 123) (L' := [(5, _), (7, _), (6, _), (0, _), (1, _), (3, _)]) dX2_isMissedAsData_123 rfl rfl (by decide) ?_
                refine wq_goto (pc := 126) (tgt := 54) dX2_isMissedAsData_126 (by decide) ?_
                refine wq_sub1 (L' := [(0, _), (1, _), (3, _), (5, _)]) ⟨rfl, rfl, rfl, rfl, trivial⟩ ?_
                refine ih (k + 1) _ (by omega) (by omega) (by omega) (fun p p0 p1 => ?_)
                by_cases ep : p = k
                · subst ep
                  first
                    | exact fun q => q.1 hzb
                    | exact fun q => q.2 (by rw [hxe]; unfold qByt; rw [if_neg hq9]; assumption)
                    | exact fun q => q.2 (by rw [hxe]; unfold qByt; rw [if_pos hq9]; assumption)
                · exact e1 p p0 (by omega)
              · skip
                refine wq_iconst (pc := 121) dX2_isMissedAsData_121 ?_
                refine wq_zret (pc := 122) dX2_isMissedAsData_122 rfl (by first | omega | (simp; done) | assumption) ?_
                first
                  | (exfalso; omega)
                  | exact h2 (fun q => absurd q.1 hcp)
                  | (refine h1 ⟨hcp, (k : Int), by omega, by omega, hzb, ?_⟩; rw [hxe]; unfold qByt; rw [if_neg hq9]; assumption)
                  | (refine h1 ⟨hcp, (k : Int), by omega, by omega, hzb, ?_⟩; rw [hxe]; unfold qByt; rw [if_pos hq9]; assumption)
                  | exact h2 (fun ⟨_, p, p0, p1, hp⟩ => e1 p p0 (by omega) hp)
            · skip
              have hq9 := hx0.mp c6
              refine wq_iconst (pc := 97) dX2_isMissedAsData_97 ?_
              refine wq_goto (pc := 98) (tgt := 108) dX2_isMissedAsData_98 (by decide) ?_
              refine wq_istore (pc := 108) (L' := [(7, _), (6, _), (0, _), (1, _), (3, _), (5, _)]) dX2_isMissedAsData_108 rfl (by decide) ?_
              refine wq_iload (pc := 110) dX2_isMissedAsData_110 rfl ?_
              refine wq_aload_n (pc := 112) dX2_isMissedAsData_112 rfl rfl ?_
              refine wq_iload (pc := 113) dX2_isMissedAsData_113 rfl ?_
              refine cV_1 (pc := 115) dX2_isMissedAsData_115 (cw_X2_126 _ rfl) (by decide) (by with_reducible assumption) ⟨by decide, by decide⟩ (Nat.le_of_ble_eq_true rfl) (sp_X4_byteFor hk hb (by omega) ?_)
              refine kr_s ?_
              rw [hbi]
              refine wq_icmp_eq (pc := 118) (tgt := 123) dX2_isMissedAsData_118 (by decide) (by first | exact fByteFor_r _ _ _ | (unfold inR; omega)) (fByteFor_r _ _ _) (fun c8 => ?_) (fun c8 => ?_)
              · skip
                refine wq_iinc (pc := 123) (L' := [(5, _), (7, _), (6, _), (0, _), (1, _), (3, _)]) dX2_isMissedAsData_123 rfl rfl (by decide) ?_
                refine wq_goto (pc := 126) (tgt := 54) dX2_isMissedAsData_126 (by decide) ?_
                refine wq_sub1 (L' := [(0, _), (1, _), (3, _), (5, _)]) ⟨rfl, rfl, rfl, rfl, trivial⟩ ?_
                refine ih (k + 1) _ (by omega) (by omega) (by omega) (fun p p0 p1 => ?_)
                by_cases ep : p = k
                · subst ep
                  first
                    | exact fun q => q.1 hzb
                    | exact fun q => q.2 (by rw [hxe]; unfold qByt; rw [if_neg hq9]; assumption)
                    | exact fun q => q.2 (by rw [hxe]; unfold qByt; rw [if_pos hq9]; assumption)
                · exact e1 p p0 (by omega)
              · skip
                refine wq_iconst (pc := 121) dX2_isMissedAsData_121 ?_
                refine wq_zret (pc := 122) dX2_isMissedAsData_122 rfl (by first | omega | (simp; done) | assumption) ?_
                first
                  | (exfalso; omega)
                  | exact h2 (fun q => absurd q.1 hcp)
                  | (refine h1 ⟨hcp, (k : Int), by omega, by omega, hzb, ?_⟩; rw [hxe]; unfold qByt; rw [if_neg hq9]; assumption)
                  | (refine h1 ⟨hcp, (k : Int), by omega, by omega, hzb, ?_⟩; rw [hxe]; unfold qByt; rw [if_pos hq9]; assumption)
                  | exact h2 (fun ⟨_, p, p0, p1, hp⟩ => e1 p p0 (by omega) hp)
    refine wq_sub1 (L' := [(0, _), (1, _), (3, _), (5, _)]) ⟨rfl, rfl, rfl, rfl, trivial⟩ ?_
    exact loop3 65 0 _ (by omega) (by omega) (by omega) (fun p p0 p1 => absurd p1 (by omega))
  · skip
    have hcp : qCpy (fHid F (zSet Z i 1)) 1 (fN F i 3) (fN F i 4) 128 ≠ -1 := fun z => c1 (hz0.mpr z)
    refine wq_iconst (pc := 16) dX2_isMissedAsData_16 ?_
    refine wq_goto (pc := 17) (tgt := 21) dX2_isMissedAsData_17 (by decide) ?_
    refine wq_istore_n (pc := 21) (L' := [(2, _), (0, _), (1, _)]) dX2_isMissedAsData_21 rfl rfl (by decide) ?_
    refine wq_aload_n (pc := 22) dX2_isMissedAsData_22 rfl rfl ?_
    refine wq_iconst (pc := 23) dX2_isMissedAsData_23 ?_
    refine wq_putZ (pc := 24) (kk := 13) dX2_isMissedAsData_24 (gf_X2_103 _ rfl) (by with_reducible assumption) rfl rfl rfl rfl (by first | omega | (simp; done) | assumption) ?_
    rw [hbk]
    refine wq_iload_n (pc := 27) dX2_isMissedAsData_27 rfl rfl ?_
    refine wq_if_eq (pc := 28) (tgt := 33) dX2_isMissedAsData_28 (by decide) (by first | (unfold inR; omega) | assumption) (fun c => absurd c (by decide)) (fun _ => ?_)
    refine wq_iconst (pc := 31) dX2_isMissedAsData_31 ?_
    refine wq_zret (pc := 32) dX2_isMissedAsData_32 rfl (by first | omega | (simp; done) | assumption) ?_
    first
      | (exfalso; omega)
      | exact h2 (fun q => absurd q.1 hcp)
      | (refine h1 ⟨hcp, (k : Int), by omega, by omega, hzb, ?_⟩; rw [hxe]; unfold qByt; rw [if_neg hq9]; assumption)
      | (refine h1 ⟨hcp, (k : Int), by omega, by omega, hzb, ?_⟩; rw [hxe]; unfold qByt; rw [if_pos hq9]; assumption)
      | exact h2 (fun ⟨_, p, p0, p1, hp⟩ => e1 p p0 (by omega) hp)
theorem sp_X2_isMissed {μ : nMem} {ε : nEnv} {Q : nOut → nMem → nEnv → Prop} {F : Fl} {Z : Int → Int} {S : Tr} {a i : Int} (hC : CFz Z F μ ε) (hT : CT S μ ε) (hB : tB S) (i0 : 0 ≤ i) (i1 : i < 128) (ha : a = nRow μ i) (hkd : fN F i 0 = 1 ∨ fN F i 0 = 2) (hZ : Z i = 0) (h1 : jMiss F S Z i → Q (.inl (some (vI 1))) μ ε) (h2 : ¬ jMiss F S Z i → Q (.inl (some (vI 0))) μ ε) : Sp mX2_isMissed [vR 17, vR a] μ ε Q := by
  refine Sp_of (L := [(0, vR 17), (1, vR a)]) (by decide) rfl rfl (Nat.le_of_ble_eq_true rfl) ?_
  have hs := hC.1
  have hsT := hT.1
  have hr := hC.2.1
  have hk : eKind ε a = 5 := by rw [ha]; exact nRow_kd hs hr i
  have hb : nB μ a := by rw [ha]; exact nRow_nB hr i
  have hn0 : 0 ≤ a := by rw [ha]; exact nRow_0 hr i
  obtain ⟨b0, b1, b2, b3, b4, b5, b6, b9, b10, b11, b12, b13⟩ := id hb
  obtain ⟨ra, -⟩ := CFz_row hC i0 i1
  rw [← ha] at ra
  have f0 := ra 0 (by omega) (by omega)
  have f1 := ra 1 (by omega) (by omega)
  have f2 := ra 2 (by omega) (by omega)
  have f3 := ra 3 (by omega) (by omega)
  have f4 := ra 4 (by omega) (by omega)
  have f5 := ra 5 (by omega) (by omega)
  have f8 := ra 8 (by omega) (by omega)
  have f10 := ra 10 (by omega) (by omega)
  have hk0 : fN F i 0 ≠ 0 := by omega
  refine wq_aload_n (pc := 0) dX2_isMissed_0 rfl rfl ?_
  refine wq_getS (pc := 1) dX2_isMissed_1 hs (gf_X2_26 _ rfl) rfl rfl rfl rfl rfl ?_
  refine wq_aload_n (pc := 4) dX2_isMissed_4 rfl rfl ?_
  refine wq_getI (pc := 5) (kk := 3) dX2_isMissed_5 (gf_X2_30 _ rfl) (by with_reducible assumption) rfl rfl rfl ?_
  refine wq_aload_n (pc := 8) dX2_isMissed_8 rfl rfl ?_
  refine wq_getI (pc := 9) (kk := 0) dX2_isMissed_9 (gf_X2_34 _ rfl) (by with_reducible assumption) rfl rfl rfl ?_
  refine wq_iconst (pc := 12) dX2_isMissed_12 ?_
  refine wq_icmp_ne (pc := 13) (tgt := 20) dX2_isMissed_13 (by decide) (by first | (unfold inR; omega) | assumption) (by first | (unfold inR; omega) | assumption) (fun c1 => ?_) (fun c1 => ?_)
  · skip
    refine wq_iconst (pc := 20) dX2_isMissed_20 ?_
    refine cVK_2 (pc := 21) dX2_isMissed_21 hsT (cw_X2_37 _ rfl) (by decide) rfl ⟨by decide, by decide⟩ (Nat.le_of_ble_eq_true rfl) (sp_X5_holds hT hB (by unfold inR; omega) (by unfold inR; omega) (fun hin hfd => ?_) (fun hno => ?_))
    · skip
      refine kr_s ?_
      rw [f3] at hin hfd
      refine wq_if_ne (pc := 24) (tgt := 29) dX2_isMissed_24 (by decide) (by first | (unfold inR; omega) | assumption) (fun _ => ?_) (fun c => absurd c (by decide))
      refine wq_aload_n (pc := 29) dX2_isMissed_29 rfl rfl ?_
      refine wq_getI (pc := 30) (kk := 0) dX2_isMissed_30 (gf_X2_34 _ rfl) (by with_reducible assumption) rfl rfl rfl ?_
      refine wq_iconst (pc := 33) dX2_isMissed_33 ?_
      refine wq_icmp_ne (pc := 34) (tgt := 45) dX2_isMissed_34 (by decide) (by first | (unfold inR; omega) | assumption) (by first | (unfold inR; omega) | assumption) (fun c5 => ?_) (fun c5 => ?_)
      · skip
        refine wq_aload_n (pc := 45) dX2_isMissed_45 rfl rfl ?_
        refine wq_aload_n (pc := 46) dX2_isMissed_46 rfl rfl ?_
        refine cVK_1 (pc := 47) dX2_isMissed_47 hs (cw_X2_112 _ rfl) (by decide) rfl ⟨by decide, by decide⟩ (Nat.le_of_ble_eq_true rfl) (sp_X2_isMissedAsData hC hT hB i0 i1 ha (by omega) hZ (fun hms => ?_) (fun hms => ?_))
        · skip
          refine kr_s ?_
          refine wq_zret (pc := 50) dX2_isMissed_50 rfl (by first | omega | (simp; done) | assumption) ?_
          unfold jMiss jHolds at h1 h2
          have hor : fN F i 0 = 1 ∨ fN F i 0 = 2 := hkd
          first
            | (exfalso; omega)
            | (refine h2 (fun q => ?_); have q1 := q.1; (try rw [if_pos (by omega)] at q1); (try rw [if_neg (by omega)] at q1); exact absurd q1 (by assumption))
            | (refine h2 (fun q => ?_); have q2 := q.2; rw [if_pos (by omega)] at q2; exact absurd q2 (by assumption))
            | (refine h2 (fun q => ?_); have q2 := q.2; rw [if_neg (by omega)] at q2; exact absurd q2 (by assumption))
            | (refine h1 ⟨?_, ?_⟩; rw [if_pos (by omega)]; exact ⟨by assumption, by assumption⟩; rw [if_pos (by omega)]; assumption)
            | (refine h1 ⟨?_, ?_⟩; rw [if_neg (by omega)]; exact ⟨by assumption, by assumption⟩; rw [if_neg (by omega)]; assumption)
        · skip
          refine kr_s ?_
          refine wq_zret (pc := 50) dX2_isMissed_50 rfl (by first | omega | (simp; done) | assumption) ?_
          unfold jMiss jHolds at h1 h2
          have hor : fN F i 0 = 1 ∨ fN F i 0 = 2 := hkd
          first
            | (exfalso; omega)
            | (refine h2 (fun q => ?_); have q1 := q.1; (try rw [if_pos (by omega)] at q1); (try rw [if_neg (by omega)] at q1); exact absurd q1 (by assumption))
            | (refine h2 (fun q => ?_); have q2 := q.2; rw [if_pos (by omega)] at q2; exact absurd q2 (by assumption))
            | (refine h2 (fun q => ?_); have q2 := q.2; rw [if_neg (by omega)] at q2; exact absurd q2 (by assumption))
            | (refine h1 ⟨?_, ?_⟩; rw [if_pos (by omega)]; exact ⟨by assumption, by assumption⟩; rw [if_pos (by omega)]; assumption)
            | (refine h1 ⟨?_, ?_⟩; rw [if_neg (by omega)]; exact ⟨by assumption, by assumption⟩; rw [if_neg (by omega)]; assumption)
      · skip
        refine wq_aload_n (pc := 37) dX2_isMissed_37 rfl rfl ?_
        refine wq_aload_n (pc := 38) dX2_isMissed_38 rfl rfl ?_
        refine cVK_1 (pc := 39) dX2_isMissed_39 hs (cw_X2_109 _ rfl) (by decide) rfl ⟨by decide, by decide⟩ (Nat.le_of_ble_eq_true rfl) (sp_X2_isMissedAsName hC hT hB i0 i1 ha hk0 hZ (fun hms => ?_) (fun hms => ?_))
        · skip
          refine kr_s ?_
          refine wq_goto (pc := 42) (tgt := 50) dX2_isMissed_42 (by decide) ?_
          refine wq_zret (pc := 50) dX2_isMissed_50 rfl (by first | omega | (simp; done) | assumption) ?_
          unfold jMiss jHolds at h1 h2
          have hor : fN F i 0 = 1 ∨ fN F i 0 = 2 := hkd
          first
            | (exfalso; omega)
            | (refine h2 (fun q => ?_); have q1 := q.1; (try rw [if_pos (by omega)] at q1); (try rw [if_neg (by omega)] at q1); exact absurd q1 (by assumption))
            | (refine h2 (fun q => ?_); have q2 := q.2; rw [if_pos (by omega)] at q2; exact absurd q2 (by assumption))
            | (refine h2 (fun q => ?_); have q2 := q.2; rw [if_neg (by omega)] at q2; exact absurd q2 (by assumption))
            | (refine h1 ⟨?_, ?_⟩; rw [if_pos (by omega)]; exact ⟨by assumption, by assumption⟩; rw [if_pos (by omega)]; assumption)
            | (refine h1 ⟨?_, ?_⟩; rw [if_neg (by omega)]; exact ⟨by assumption, by assumption⟩; rw [if_neg (by omega)]; assumption)
        · skip
          refine kr_s ?_
          refine wq_goto (pc := 42) (tgt := 50) dX2_isMissed_42 (by decide) ?_
          refine wq_zret (pc := 50) dX2_isMissed_50 rfl (by first | omega | (simp; done) | assumption) ?_
          unfold jMiss jHolds at h1 h2
          have hor : fN F i 0 = 1 ∨ fN F i 0 = 2 := hkd
          first
            | (exfalso; omega)
            | (refine h2 (fun q => ?_); have q1 := q.1; (try rw [if_pos (by omega)] at q1); (try rw [if_neg (by omega)] at q1); exact absurd q1 (by assumption))
            | (refine h2 (fun q => ?_); have q2 := q.2; rw [if_pos (by omega)] at q2; exact absurd q2 (by assumption))
            | (refine h2 (fun q => ?_); have q2 := q.2; rw [if_neg (by omega)] at q2; exact absurd q2 (by assumption))
            | (refine h1 ⟨?_, ?_⟩; rw [if_pos (by omega)]; exact ⟨by assumption, by assumption⟩; rw [if_pos (by omega)]; assumption)
            | (refine h1 ⟨?_, ?_⟩; rw [if_neg (by omega)]; exact ⟨by assumption, by assumption⟩; rw [if_neg (by omega)]; assumption)
    · skip
      refine kr_s ?_
      rw [f3] at hno
      refine wq_if_ne (pc := 24) (tgt := 29) dX2_isMissed_24 (by decide) (by first | (unfold inR; omega) | assumption) (fun c => absurd c (by decide)) (fun _ => ?_)
      refine wq_iconst (pc := 27) dX2_isMissed_27 ?_
      refine wq_zret (pc := 28) dX2_isMissed_28 rfl (by first | omega | (simp; done) | assumption) ?_
      unfold jMiss jHolds at h1 h2
      have hor : fN F i 0 = 1 ∨ fN F i 0 = 2 := hkd
      first
        | (exfalso; omega)
        | (refine h2 (fun q => ?_); have q1 := q.1; (try rw [if_pos (by omega)] at q1); (try rw [if_neg (by omega)] at q1); exact absurd q1 (by assumption))
        | (refine h2 (fun q => ?_); have q2 := q.2; rw [if_pos (by omega)] at q2; exact absurd q2 (by assumption))
        | (refine h2 (fun q => ?_); have q2 := q.2; rw [if_neg (by omega)] at q2; exact absurd q2 (by assumption))
        | (refine h1 ⟨?_, ?_⟩; rw [if_pos (by omega)]; exact ⟨by assumption, by assumption⟩; rw [if_pos (by omega)]; assumption)
        | (refine h1 ⟨?_, ?_⟩; rw [if_neg (by omega)]; exact ⟨by assumption, by assumption⟩; rw [if_neg (by omega)]; assumption)
  · skip
    refine wq_iconst (pc := 16) dX2_isMissed_16 ?_
    refine wq_goto (pc := 17) (tgt := 21) dX2_isMissed_17 (by decide) ?_
    refine cVK_2 (pc := 21) dX2_isMissed_21 hsT (cw_X2_37 _ rfl) (by decide) rfl ⟨by decide, by decide⟩ (Nat.le_of_ble_eq_true rfl) (sp_X5_holds hT hB (by unfold inR; omega) (by unfold inR; omega) (fun hin hfd => ?_) (fun hno => ?_))
    · skip
      refine kr_s ?_
      rw [f3] at hin hfd
      refine wq_if_ne (pc := 24) (tgt := 29) dX2_isMissed_24 (by decide) (by first | (unfold inR; omega) | assumption) (fun _ => ?_) (fun c => absurd c (by decide))
      refine wq_aload_n (pc := 29) dX2_isMissed_29 rfl rfl ?_
      refine wq_getI (pc := 30) (kk := 0) dX2_isMissed_30 (gf_X2_34 _ rfl) (by with_reducible assumption) rfl rfl rfl ?_
      refine wq_iconst (pc := 33) dX2_isMissed_33 ?_
      refine wq_icmp_ne (pc := 34) (tgt := 45) dX2_isMissed_34 (by decide) (by first | (unfold inR; omega) | assumption) (by first | (unfold inR; omega) | assumption) (fun c14 => ?_) (fun c14 => ?_)
      · skip
        refine wq_aload_n (pc := 45) dX2_isMissed_45 rfl rfl ?_
        refine wq_aload_n (pc := 46) dX2_isMissed_46 rfl rfl ?_
        refine cVK_1 (pc := 47) dX2_isMissed_47 hs (cw_X2_112 _ rfl) (by decide) rfl ⟨by decide, by decide⟩ (Nat.le_of_ble_eq_true rfl) (sp_X2_isMissedAsData hC hT hB i0 i1 ha (by omega) hZ (fun hms => ?_) (fun hms => ?_))
        · skip
          refine kr_s ?_
          refine wq_zret (pc := 50) dX2_isMissed_50 rfl (by first | omega | (simp; done) | assumption) ?_
          unfold jMiss jHolds at h1 h2
          have hor : fN F i 0 = 1 ∨ fN F i 0 = 2 := hkd
          first
            | (exfalso; omega)
            | (refine h2 (fun q => ?_); have q1 := q.1; (try rw [if_pos (by omega)] at q1); (try rw [if_neg (by omega)] at q1); exact absurd q1 (by assumption))
            | (refine h2 (fun q => ?_); have q2 := q.2; rw [if_pos (by omega)] at q2; exact absurd q2 (by assumption))
            | (refine h2 (fun q => ?_); have q2 := q.2; rw [if_neg (by omega)] at q2; exact absurd q2 (by assumption))
            | (refine h1 ⟨?_, ?_⟩; rw [if_pos (by omega)]; exact ⟨by assumption, by assumption⟩; rw [if_pos (by omega)]; assumption)
            | (refine h1 ⟨?_, ?_⟩; rw [if_neg (by omega)]; exact ⟨by assumption, by assumption⟩; rw [if_neg (by omega)]; assumption)
        · skip
          refine kr_s ?_
          refine wq_zret (pc := 50) dX2_isMissed_50 rfl (by first | omega | (simp; done) | assumption) ?_
          unfold jMiss jHolds at h1 h2
          have hor : fN F i 0 = 1 ∨ fN F i 0 = 2 := hkd
          first
            | (exfalso; omega)
            | (refine h2 (fun q => ?_); have q1 := q.1; (try rw [if_pos (by omega)] at q1); (try rw [if_neg (by omega)] at q1); exact absurd q1 (by assumption))
            | (refine h2 (fun q => ?_); have q2 := q.2; rw [if_pos (by omega)] at q2; exact absurd q2 (by assumption))
            | (refine h2 (fun q => ?_); have q2 := q.2; rw [if_neg (by omega)] at q2; exact absurd q2 (by assumption))
            | (refine h1 ⟨?_, ?_⟩; rw [if_pos (by omega)]; exact ⟨by assumption, by assumption⟩; rw [if_pos (by omega)]; assumption)
            | (refine h1 ⟨?_, ?_⟩; rw [if_neg (by omega)]; exact ⟨by assumption, by assumption⟩; rw [if_neg (by omega)]; assumption)
      · skip
        refine wq_aload_n (pc := 37) dX2_isMissed_37 rfl rfl ?_
        refine wq_aload_n (pc := 38) dX2_isMissed_38 rfl rfl ?_
        refine cVK_1 (pc := 39) dX2_isMissed_39 hs (cw_X2_109 _ rfl) (by decide) rfl ⟨by decide, by decide⟩ (Nat.le_of_ble_eq_true rfl) (sp_X2_isMissedAsName hC hT hB i0 i1 ha hk0 hZ (fun hms => ?_) (fun hms => ?_))
        · skip
          refine kr_s ?_
          refine wq_goto (pc := 42) (tgt := 50) dX2_isMissed_42 (by decide) ?_
          refine wq_zret (pc := 50) dX2_isMissed_50 rfl (by first | omega | (simp; done) | assumption) ?_
          unfold jMiss jHolds at h1 h2
          have hor : fN F i 0 = 1 ∨ fN F i 0 = 2 := hkd
          first
            | (exfalso; omega)
            | (refine h2 (fun q => ?_); have q1 := q.1; (try rw [if_pos (by omega)] at q1); (try rw [if_neg (by omega)] at q1); exact absurd q1 (by assumption))
            | (refine h2 (fun q => ?_); have q2 := q.2; rw [if_pos (by omega)] at q2; exact absurd q2 (by assumption))
            | (refine h2 (fun q => ?_); have q2 := q.2; rw [if_neg (by omega)] at q2; exact absurd q2 (by assumption))
            | (refine h1 ⟨?_, ?_⟩; rw [if_pos (by omega)]; exact ⟨by assumption, by assumption⟩; rw [if_pos (by omega)]; assumption)
            | (refine h1 ⟨?_, ?_⟩; rw [if_neg (by omega)]; exact ⟨by assumption, by assumption⟩; rw [if_neg (by omega)]; assumption)
        · skip
          refine kr_s ?_
          refine wq_goto (pc := 42) (tgt := 50) dX2_isMissed_42 (by decide) ?_
          refine wq_zret (pc := 50) dX2_isMissed_50 rfl (by first | omega | (simp; done) | assumption) ?_
          unfold jMiss jHolds at h1 h2
          have hor : fN F i 0 = 1 ∨ fN F i 0 = 2 := hkd
          first
            | (exfalso; omega)
            | (refine h2 (fun q => ?_); have q1 := q.1; (try rw [if_pos (by omega)] at q1); (try rw [if_neg (by omega)] at q1); exact absurd q1 (by assumption))
            | (refine h2 (fun q => ?_); have q2 := q.2; rw [if_pos (by omega)] at q2; exact absurd q2 (by assumption))
            | (refine h2 (fun q => ?_); have q2 := q.2; rw [if_neg (by omega)] at q2; exact absurd q2 (by assumption))
            | (refine h1 ⟨?_, ?_⟩; rw [if_pos (by omega)]; exact ⟨by assumption, by assumption⟩; rw [if_pos (by omega)]; assumption)
            | (refine h1 ⟨?_, ?_⟩; rw [if_neg (by omega)]; exact ⟨by assumption, by assumption⟩; rw [if_neg (by omega)]; assumption)
    · skip
      refine kr_s ?_
      rw [f3] at hno
      refine wq_if_ne (pc := 24) (tgt := 29) dX2_isMissed_24 (by decide) (by first | (unfold inR; omega) | assumption) (fun c => absurd c (by decide)) (fun _ => ?_)
      refine wq_iconst (pc := 27) dX2_isMissed_27 ?_
      refine wq_zret (pc := 28) dX2_isMissed_28 rfl (by first | omega | (simp; done) | assumption) ?_
      unfold jMiss jHolds at h1 h2
      have hor : fN F i 0 = 1 ∨ fN F i 0 = 2 := hkd
      first
        | (exfalso; omega)
        | (refine h2 (fun q => ?_); have q1 := q.1; (try rw [if_pos (by omega)] at q1); (try rw [if_neg (by omega)] at q1); exact absurd q1 (by assumption))
        | (refine h2 (fun q => ?_); have q2 := q.2; rw [if_pos (by omega)] at q2; exact absurd q2 (by assumption))
        | (refine h2 (fun q => ?_); have q2 := q.2; rw [if_neg (by omega)] at q2; exact absurd q2 (by assumption))
        | (refine h1 ⟨?_, ?_⟩; rw [if_pos (by omega)]; exact ⟨by assumption, by assumption⟩; rw [if_pos (by omega)]; assumption)
        | (refine h1 ⟨?_, ?_⟩; rw [if_neg (by omega)]; exact ⟨by assumption, by assumption⟩; rw [if_neg (by omega)]; assumption)
