theorem nSrc_k (f : Int → Int) {k : Int} (h : 0 ≤ k ∧ k ≤ 11) : nSrc f k = f k := if_pos h
theorem sOK_nSrc {f : Int → Int} (h : sOK f) : sOK (nSrc f) := by
  unfold sOK at h ⊢
  rw [nSrc_k f (k := 0) (by omega), nSrc_k f (k := 1) (by omega), nSrc_k f (k := 3) (by omega), nSrc_k f (k := 4) (by omega), nSrc_k f (k := 5) (by omega), nSrc_k f (k := 6) (by omega), nSrc_k f (k := 7) (by omega), nSrc_k f (k := 8) (by omega), nSrc_k f (k := 9) (by omega), nSrc_k f (k := 10) (by omega), nSrc_k f (k := 11) (by omega)]
  exact h
/-- copies put, one after another -/
def cpL : List Int → Fl → Lg → Fl × Lg × Bool
  | [], F, g => (F, g, true)
  | i :: is, F, g => if (lPut F g (nSrc (fN F i))).2.2 = false then lPut F g (nSrc (fN F i)) else cpL is (lPut F g (nSrc (fN F i))).1 (lPut F g (nSrc (fN F i))).2.1
theorem cpL_0 {i : Int} {is : List Int} {F : Fl} {g : Lg} (h : (lPut F g (nSrc (fN F i))).2.2 = false) : cpL (i :: is) F g = lPut F g (nSrc (fN F i)) := if_pos h
theorem cpL_1 {i : Int} {is : List Int} {F : Fl} {g : Lg} (h : (lPut F g (nSrc (fN F i))).2.2 = true) : cpL (i :: is) F g = cpL is (lPut F g (nSrc (fN F i))).1 (lPut F g (nSrc (fN F i))).2.1 := if_neg (by rw [h]; decide)
/-- some of the chosen nodes are copied -/
def CPI (F0 : Fl) (b : Int) (cs : List Int) (k : Nat) (F : Fl) (g : Lg) : Prop :=
  PA F ∧ PL F g ∧ b ∈ g.2.2 ∧ fD F = 0 ∧ cover F0 F ∧ cover F F0 ∧ (∀ j, 0 ≤ j → j < 128 → rW F0 j → rW F j ∧ ∀ q, fN F j q = fN F0 j q) ∧
  (∀ t : Nat, t < k → ∃ j, (0 ≤ j ∧ j < 128) ∧ ¬ (b * 16 ≤ j ∧ j < b * 16 + 16) ∧ rW F j ∧ ∀ q, 0 ≤ q → q ≤ 11 → fN F j q = fN F0 (cs.getD t 0) q) ∧
  (∀ j, 0 ≤ j → j < 128 → rW F j → rW F0 j ∨ ∃ t : Nat, t < k ∧ ∀ q, 0 ≤ q → q ≤ 11 → fN F j q = fN F0 (cs.getD t 0) q) ∧ trL (uOf F0 (cs.drop k)) (tr0 F g (g.2.1.length : Int))
abbrev csOK (F0 : Fl) (b : Int) (cs : List Int) : Prop := ∀ i ∈ cs, (b * 16 ≤ i ∧ i < b * 16 + 16) ∧ rW F0 i
theorem CPI_0 {F0 : Fl} {g : Lg} {b : Int} {cs : List Int} (hA : PA F0) (hL : PL F0 g) (hb : b ∈ g.2.2) (hd : fD F0 = 0) (ht : trL (uOf F0 cs) (tr0 F0 g (g.2.1.length : Int))) : CPI F0 b cs 0 F0 g :=
  ⟨hA, hL, hb, hd, (sameR_cover (sameR_refl F0)).1, (sameR_cover (sameR_refl F0)).2, fun j _ _ w => ⟨w, fun _ => rfl⟩, fun t ht => absurd ht (Nat.not_lt_zero t), fun j _ _ w => Or.inl w, ht⟩
theorem cp_pre {F0 F : Fl} {g : Lg} {b : Int} {cs : List Int} {k : Nat} (h : CPI F0 b cs k F g) (hb : 0 ≤ b ∧ b < 8) (hcs : csOK F0 b cs) (hk : k < cs.length) : (b * 16 ≤ cs.getD k 0 ∧ cs.getD k 0 < b * 16 + 16) ∧ rW F (cs.getD k 0) ∧ (∀ q, fN F (cs.getD k 0) q = fN F0 (cs.getD k 0) q) ∧ sOK (nSrc (fN F (cs.getD k 0))) ∧ ((∃ s', trS (fN F (cs.getD k 0) 1) (tr0 F g ((g.2.1.length : Int) - 0)) = some s' ∧ trL (uOf F0 (cs.drop (k + 1))) s') ∧ (¬ (g.1 ≠ -1 ∧ fU F g.1 + fN F (cs.getD k 0) 1 + fC F g.1 + 2 ≤ 40) → g.2.1 ≠ [])) := by
  obtain ⟨h1, h2, h3, h4, h5, h6, h7, h8, h9, h10⟩ := h
  obtain ⟨c1, c2⟩ := hcs _ (getD_mem hk)
  obtain ⟨w, e⟩ := h7 _ (by omega) (by omega) c2
  have hs := PA_NS h1 _ (by omega) (by omega) w
  have hk2 := sOK_k hs
  rw [uOf_drop F0 hk, ← e 1] at h10
  rw [show ((g.2.1.length : Nat) : Int) = (g.2.1.length : Int) - 0 by omega] at h10
  exact ⟨c1, w, e, sOK_nSrc hs, tr_fr (by omega) (by omega) h10⟩
theorem cp_step {F0 F : Fl} {g : Lg} {b : Int} {cs : List Int} {k : Nat} (h : CPI F0 b cs k F g) (hb : 0 ≤ b ∧ b < 8) (hcs : csOK F0 b cs) (hk : k < cs.length) {R : Fl × Lg × Bool} (hR : R = lPut F g (nSrc (fN F (cs.getD k 0)))) :
    (R.2.2 = true → CPI F0 b cs (k + 1) R.1 R.2.1) ∧ (R.2.2 = false → fD R.1 = 1 ∧ fL R.1 = -1 ∧ PA R.1 ∧ cover F0 R.1 ∧ cover R.1 F0) := by
  obtain ⟨p1, p2, p3, p4, ⟨⟨s', p5, p6⟩, p7⟩⟩ := cp_pre h hb hcs hk
  obtain ⟨h1, h2, h3, h4, h5, h6, h7, h8, h9, h10⟩ := id h
  have e1 : nSrc (fN F (cs.getD k 0)) 1 = fN F (cs.getD k 0) 1 := nSrc_k _ (by omega)
  obtain ⟨q1, q2, q3, q4⟩ := put_ok h1 h2 p4 (by rw [e1]; exact p7)
  rw [← hR] at q1 q2 q3 q4
  refine ⟨fun hr => ?_, fun hr => ?_⟩
  · obtain ⟨r1, r2, r3, ⟨i, i0, i1, r4, r5⟩, r6⟩ := q3 hr
    obtain ⟨c1, c2⟩ := add_copy (j := cs.getD k 0) i0 i1 r4 p4 (by omega) (by omega) p2 (fun q q0 q1 _ => nSrc_k _ ⟨q0, q1⟩)
    obtain ⟨w1, w0⟩ := add_W r4 p4
    have hi : ∀ q, 0 ≤ q → q ≤ 11 → fN R.1 i q = fN F0 (cs.getD k 0) q := fun q q0 q1 => by
      rw [r4.2.1 q]
      by_cases z : q = 2
      · rw [if_pos z, e1, z, ← p3 2]; exact p2.2.symm
      · rw [if_neg z, nSrc_k _ ⟨q0, q1⟩, p3]
    have keep : ∀ j, 0 ≤ j → j < 128 → rW F j → rW R.1 j ∧ ∀ q, fN R.1 j q = fN F j q := fun j j0 j1 w => by
      have ne : j ≠ i := fun z => w0 (by rw [← z]; exact w)
      obtain ⟨a, b⟩ := r4.2.2 j j0 j1 ne
      exact ⟨a.mpr w, b w⟩
    refine ⟨q1, r1, r3 b h3, r2.trans h4, cover_trans h5 c1, cover_trans c2 h6, fun j j0 j1 w => ?_, fun t ht => ?_, fun j j0 j1 w => ?_, ?_⟩
    · obtain ⟨a, b⟩ := h7 j j0 j1 w
      obtain ⟨c, d⟩ := keep j j0 j1 a
      exact ⟨c, fun q => (d q).trans (b q)⟩
    · by_cases e : t = k
      · subst e; exact ⟨i, ⟨i0, i1⟩, r5 b h3, w1, hi⟩
      · obtain ⟨j, j0, j1, j2, j3⟩ := h8 t (by omega)
        obtain ⟨c, d⟩ := keep j j0.1 j0.2 j2
        exact ⟨j, j0, j1, c, fun q q0 q1 => (d q).trans (j3 q q0 q1)⟩
    · by_cases e : j = i
      · subst e; exact Or.inr ⟨k, by omega, hi⟩
      · obtain ⟨a, c⟩ := r4.2.2 j j0 j1 e
        have w' := a.mp w
        rcases h9 j j0 j1 w' with z | ⟨t, t0, t1⟩
        · exact Or.inl z
        · exact Or.inr ⟨t, by omega, fun q q0 q1 => (c w' q).trans (t1 q q0 q1)⟩
    · rw [← e1] at p5
      have := r6 0 s' p5
      rw [show (R.2.1.2.1.length : Int) - 0 = R.2.1.2.1.length by omega] at this
      rw [this]; exact p6
  · obtain ⟨r1, r2, r3⟩ := q4 hr
    obtain ⟨c1, c2⟩ := sameR_cover r3
    exact ⟨r1, r2, q1, cover_trans h5 c1, cover_trans c2 h6⟩
theorem TG_bd {F : Fl} {nx : Int} {Vd Vn : Int → Int} (hS : NS F) (hV : NV F nx Vd Vn) (d nm : Int) : TG F d nm = 0 ∨ ((2 ≤ TG F d nm ∧ TG F d nm < nx) ∧ 1 ≤ d ∧ d < nx) := by
  by_cases c : TG F d nm = 0
  · exact Or.inl c
  · obtain ⟨i, i0, i1, hT, -, h10, -⟩ := TG_row c
    have w := (rT_W (Or.inr rfl)).mp hT
    have s := sOK_k (hS i i0 i1 w.1)
    have s2 : fN F i 10 = 0 ∨ 2 ≤ fN F i 10 := by
      rcases hS i i0 i1 w.1 with q | q
      · omega
      · exact q.2.2.2.2.2.1
    have v := hV i i0 i1 w.1
    rw [← h10] at c ⊢
    rw [← w.2.2]
    exact Or.inr ⟨by omega, by omega⟩
/-- a block erased behind its copies -/
theorem gc_EQ {A : AS} {fl : Int → Int} {nb vb : Int} {S : Tr} {b : Int} {F F2 : Fl} {g : Lg} (hP : IP A fl nb vb) (hS : TSA A fl S) (hb : 0 ≤ b ∧ b < 8) (h : CPI (aF A) b (ck (aF A) S b (fC (aF A) b).toNat).2 (ck (aF A) S b (fC (aF A) b).toNat).2.length F g) (hr : remR F F2 b) :
    EQ (aF A) F2 ∧ cover F2 (aF A) := by
  obtain ⟨h1, h2, h3, h4, h5, h6, h7, h8, h9, h10⟩ := h
  have hfc := (hP.2.1 b hb.1 hb.2).1.1
  obtain ⟨k1, k2, k3, k4⟩ := ck_EQ hP hS hb (fC (aF A) b).toNat (by omega)
  have k0 := ck_z (aF A) S b (fC (aF A) b).toNat
  generalize ck (aF A) S b (fC (aF A) b).toNat = s at h1 h2 h3 h4 h5 h6 h7 h8 h9 h10 k1 k2 k3 k4 k0
  have out : ∀ j, ¬ (b * 16 ≤ j ∧ j < b * 16 + 16) → ∀ q, fN F2 j q = fN F j q := fun j hj q => by rw [hr j q, if_neg hj]
  have inn : ∀ j, b * 16 ≤ j ∧ j < b * 16 + 16 → ¬ rW F2 j := fun j hj q => by have := q.1; rw [hr j 0, if_pos hj] at this; omega
  have hW2 : ∀ j, rW F2 j → ¬ (b * 16 ≤ j ∧ j < b * 16 + 16) ∧ rW F j := fun j w => by
    have hn : ¬ (b * 16 ≤ j ∧ j < b * 16 + 16) := fun z => inn j z w
    refine ⟨hn, ?_⟩
    unfold rW at w ⊢
    rw [out j hn, out j hn, out j hn] at w; exact w
  have c1 : cover (fHid (aF A) s.1) F2 := fun j j0 j1 w => by
    obtain ⟨w1, z⟩ := hid_rW.mp w
    obtain ⟨f1, f2⟩ := h7 j j0 j1 w1
    by_cases hin : b * 16 ≤ j ∧ j < b * 16 + 16
    · have hlt : j < b * 16 + ((fC (aF A) b).toNat : Int) := Classical.byContradiction (fun q => by
        have := (hP.2.1 b hb.1 hb.2).2.2.2.1 (j - b * 16) (by omega) (by omega) 0 (by omega) (by omega)
        rw [show b * 16 + (j - b * 16) = j by omega] at this
        have := w1.1; omega)
      have hm := k4 j hin.1 hlt w1 z
      obtain ⟨t, t0, t1⟩ := mem_getD hm
      obtain ⟨x, x0, x1, x2, x3⟩ := h8 t t0
      refine ⟨x, x0, ?_, fun q q0 q1 => ?_⟩
      · unfold rW; rw [out x x1, out x x1, out x x1]; exact x2
      · rw [out x x1, x3 q q0 q1, t1, fHid_z _ _ _ z]
    · refine ⟨j, ⟨j0, j1⟩, ?_, fun q q0 q1 => by rw [out j hin, f2, fHid_z _ _ _ z]⟩
      unfold rW; rw [out j hin, out j hin, out j hin]; exact f1
  have c2 : cover F2 (fHid (aF A) s.1) := fun j j0 j1 w => by
    obtain ⟨hn, wF⟩ := hW2 j w
    rcases h9 j j0 j1 wF with q | ⟨t, t0, t1⟩
    · have z := k0 j (by omega)
      refine ⟨j, ⟨j0, j1⟩, hid_rW.mpr ⟨q, z⟩, fun x x0 x1 => ?_⟩
      rw [fHid_z _ _ _ z, out j hn, (h7 j j0 j1 q).2]
    · obtain ⟨a1, a2, a3⟩ := k3 _ (getD_mem t0)
      refine ⟨s.2.getD t 0, ⟨by omega, by omega⟩, hid_rW.mpr ⟨a2, a3⟩, fun x x0 x1 => ?_⟩
      rw [fHid_z _ _ _ a3, out j hn, t1 x x0 x1]
  have c3 : cover F2 (aF A) := cover_trans c2 (hid_cov s.1)
  exact ⟨EQ_trans k1 (EQ_of (cover_told (NU_cover hP.2.2.1 c3) c1 c2)), c3⟩
/-- what is told is told by other nodes -/
theorem IP_EQ {A A' : AS} {fl : Int → Int} {nb vb : Int} {S : Tr} (hP : IP A fl nb vb) (hS : TSA A fl S) (hE : EQ (aF A) (aF A')) (hc : cover (aF A') (aF A)) (hA : PA (aF A')) (h1 : aX A' = aX A) (h2 : aD A' = aD A) (h3 : aN A' = aN A) :
    WD (TG (aF A')) fl (aX A) ∧ flOK (aF A') fl ∧ NU (aF A') ∧ NV (aF A') (aX A) (aD A) (aN A) ∧ TSA A' fl S := by
  obtain ⟨a1, a2, a3, a4, a5, a6, a7, a8, a9, a10⟩ := hP
  have hS' := PA_NS hA
  have hV := NV_cover a5 hc
  have hf := flOK_cover hc a6
  obtain ⟨w, z⟩ := TSW_EQ hS a7 (flOK_TD (PA_NS a2) a6) (flOK_TD hS' hf) hE (TG_bd hS' hV)
  refine ⟨w, hf, NU_cover a3 hc, hV, ?_⟩
  show TSW (TG (aF A')) fl (LN (aF A')) (BY (aF A')) (aD A') (aN A') (aX A') S
  rw [h1, h2, h3]; exact z
theorem IB_cov {A : AS} {fl : Int → Int} {nb vb : Int} {S : Tr} {F' : Fl} (hP : IP A fl nb vb) (hS : TSA A fl S) (hE : EQ (aF A) F') (hc : cover F' (aF A)) (hA : PA F') (hl : fL F' = -1) (hn : nb ≤ 2000) : IB F' nb vb := by
  obtain ⟨w, f, u, v, -⟩ := IP_EQ (A' := (F', aG A, aX A, aD A, aN A)) hP hS hE hc hA rfl rfl rfl
  have b := IP_IB hP hn
  exact ⟨hA, u, NV_cover b.2.2.1 hc, by omega, fl, f, WD_mono w hP.2.2.2.2.2.2.2.1.2 hn⟩
theorem vc_m (F : Fl) (S : Tr) (g : Lg) (w : Int) : ∀ n : Nat, n ≤ g.2.2.length → (vc F S g w n).1 = -1 ∨ (vc F S g w n).1 ∈ g.2.2
  | 0, _ => Or.inl rfl
  | n + 1, hn => by
    have ih := vc_m F S g w n (by omega)
    rw [vc_s]; unfold vcS
    split
    · exact Or.inr (getD_mem (by omega))
    · exact ih
noncomputable def actColl2 (A : AS) (b : Int) (R : Fl × Lg × Bool) : Ans × AS := if R.2.2 = false then (.inl (-9), afterX A R) else if (lFree R.1 R.2.1 b).2.2 = false then (.inl (-9), afterX A (lFree R.1 R.2.1 b)) else (.inl b, afterX A (lFree R.1 R.2.1 b))
noncomputable def actColl1 (A : AS) (b : Int) (cs : List Int) : Ans × AS := pI (b = -1) (.inr xS, A) (pI (¬ trL (uOf (aF A) cs) (tr0 (aF A) (aG A) ((aG A).2.1.length : Int))) (.inr xS, A) (actColl2 A b (cpL cs (aF A) (aG A))))
noncomputable def vicA (A : AS) (dr : Int) : Int := (vc (aF A) (tS (aF A)) (aG A) (wantOf dr) (aG A).2.2.length).1
noncomputable def chosenA (A : AS) (b : Int) : List Int := (ck (aF A) (tS (aF A)) b (fC (aF A) b).toNat).2
noncomputable def actCollect (A : AS) (dr : Int) : Ans × AS := pI (dk A) (.inr xS, A) (pI (¬ (0 ≤ dr ∧ dr ≤ 127)) (.inr xA, A) (actColl1 A (vicA A dr) (chosenA A (vicA A dr))))
theorem CJ_X {F : Fl} {cs : List Int} {μ m : nMem} {ε e : nEnv} (hC : CF F μ ε) (hJ : CJ cs μ) (hX : FrX XP μ ε m e) (hk : ∀ i ∈ cs, fN F i 0 ≠ 0) : CJ cs m := by
  have h17 := hX.1 17 (Or.inl (by rw [(hC.1 17 3 0 _ rfl (by decide)).1]; decide)) (by unfold XP; omega) (not_row hC.2.1 (by omega) (Or.inr (by omega)))
  have h18 := hX.1 18 (Or.inl (by rw [(hC.1 18 15 16 _ rfl (by decide)).1]; decide)) (by unfold XP; omega) (not_row hC.2.1 (by omega) (Or.inr (by omega)))
  obtain ⟨a, b, c⟩ := hJ
  refine ⟨by rw [h17]; exact a, b, fun i hi => ⟨(c i hi).1, ?_⟩⟩
  obtain ⟨c1, c2⟩ := c i hi
  obtain ⟨n0, n1, n2⟩ := row_nz (CFz_of hC) c1.1 c1.2 (hk _ (getD_mem hi))
  rw [h18, c2]
  have := hX.2.2.1 (cs.getD i 0) c1.1 c1.2 n0
  unfold nRow
  rw [this]
theorem sp_X6_collect {μ : nMem} {ε : nEnv} {Q : nOut → nMem → nEnv → Prop} {A : AS} {nb vb dr : Int} {t : Nat} (hM : MC A nb vb μ ε) (hcap : Cap μ ε (t + 1)) (hnb : nb + 1 ≤ 2000) (hvb : vb + 2 ≤ 4000) (r1 : inR dr) (h : ∀ μ9 ε9, MC (actCollect A dr).2 (nb + 1) (vb + 2) μ9 ε9 → Cap μ9 ε9 t → FrN μ ε μ9 ε9 → Q (oc (actCollect A dr).1) μ9 ε9) : Sp mX6_collect [vR 1, vI dr] μ ε Q := by
  refine Sp_of (L := [(0, vR 1), (1, vI dr)]) (by decide) rfl rfl (Nat.le_of_ble_eq_true rfl) ?_
  obtain ⟨S, hC6, hB, hIB, hDD, h56, hon⟩ := hM
  obtain ⟨hC, hL, hT⟩ := id hC6
  have hs := hC.1
  have hsT := hT.1
  have h20 := (hs 20 5 0 [] rfl (by decide)).1
  have hroom := Cap_room hcap
  have hF6 := Fr6_refl μ ε
  have hC6c := hC6
  unfold actCollect at h
  refine wq_aload_n (pc := 0) dX6_collect_0 rfl rfl ?_
  refine cVK_0 (pc := 1) dX6_collect_1 hs (cw_X6_157 _ rfl) (by decide) rfl ⟨by decide, by decide⟩ (Nat.le_of_ble_eq_true rfl) (sp_X6_refuseInDark hC hDD hcap (fun hd => ?_) (fun hd e9 ht => ?_))
  · skip
    refine kr_v ?_
    obtain ⟨fl, hP, hS⟩ := hon hd
    have ndk : ¬ dk A := fun z => by have z : fD (aF A) = 1 := z; omega
    rw [pI_0 ndk] at h
    have hbd := PA_bd hP.2.1
    have hSS := tS_S hP hS
    have hr := hC.2.1
    refine wq_iload_n (pc := 4) dX6_collect_4 rfl rfl ?_
    refine wq_if_lt (pc := 5) (tgt := 14) dX6_collect_5 (by decide) (by first | (unfold inR; omega) | assumption) (fun c3 => ?_) (fun c3 => ?_)
    · skip
      rw [pI_1 (show ¬ (0 ≤ dr ∧ dr ≤ 127) by omega)] at h
      refine wq_throw (pc := 14) dX6_collect_14 dX6_collect_17 dX6_collect_18 dX6_collect_20 dX6_collect_23 rfl th_A ks_X6_160 (by decide) (by decide) (Nat.le_of_ble_eq_true rfl) hroom (fun ε' ht => ?_)
      first | (obtain ⟨m9, c9, f9⟩ := MC_x hC6c hB hIB hDD h56 hon hnb hcap hF6 ht; exact h _ _ m9 c9 f9) | exact h _ _ fin fcap ffr
    · skip
      refine wq_iload_n (pc := 8) dX6_collect_8 rfl rfl ?_
      refine wq_bipush (pc := 9) dX6_collect_9 (by decide) (by decide) ?_
      refine wq_icmp_le (pc := 11) (tgt := 24) dX6_collect_11 (by decide) (by first | (unfold inR; omega) | assumption) (by first | (unfold inR; omega) | assumption) (fun c4 => ?_) (fun c4 => ?_)
      · skip
        have hdr9 : 0 ≤ dr ∧ dr ≤ 127 := by omega
        rw [pI_0 (fun q => q hdr9)] at h
        refine wq_aload_n (pc := 24) dX6_collect_24 rfl rfl ?_
        refine wq_iload_n (pc := 25) dX6_collect_25 rfl rfl ?_
        refine cVK_1 (pc := 26) dX6_collect_26 hs (cw_X6_162 _ rfl) (by decide) rfl ⟨by decide, by decide⟩ (Nat.le_of_ble_eq_true rfl) (sp_X6_victim hC hL hT hB hbd (by unfold inR; omega) ?_)
        refine kr_s ?_
        rw [vc_cg hSS]
        have hvm := vc_m (aF A) (tS (aF A)) (aG A) (wantOf dr) (aG A).2.2.length (Nat.le_refl _)
        unfold vicA chosenA at h
        generalize (vc (aF A) (tS (aF A)) (aG A) (wantOf dr) (aG A).2.2.length).1 = b at hvm h ⊢
        have hbr : b = -1 ∨ (0 ≤ b ∧ b < 8) := hvm.imp id (fun q => (hP.2.2.2.1.2.2.2.1 b q).1)
        unfold actColl1 at h
        refine wq_istore_n (pc := 29) (L' := [(2, _), (0, _), (1, _)]) dX6_collect_29 rfl rfl (by decide) ?_
        refine wq_iload_n (pc := 30) dX6_collect_30 rfl rfl ?_
        refine wq_iconst (pc := 31) dX6_collect_31 ?_
        refine wq_icmp_ne (pc := 32) (tgt := 45) dX6_collect_32 (by decide) (by first | (unfold inR; omega) | assumption) (by first | (unfold inR; omega) | assumption) (fun c5 => ?_) (fun c5 => ?_)
        · skip
          have hb1 : b ≠ -1 := by omega
          have hb := hbr.resolve_left hb1
          have hvm2 := hvm.resolve_left hb1
          rw [pI_0 hb1] at h
          refine wq_aload_n (pc := 45) dX6_collect_45 rfl rfl ?_
          refine wq_getS (pc := 46) dX6_collect_46 hs (gf_X6_37 _ rfl) rfl rfl rfl rfl rfl ?_
          refine wq_iload_n (pc := 49) dX6_collect_49 rfl rfl ?_
          refine cVK_1 (pc := 50) dX6_collect_50 hs (cw_X6_167 _ rfl) (by decide) rfl ⟨by decide, by decide⟩ (Nat.le_of_ble_eq_true rfl) (sp_X2_choose hC hT hB hb (hbd b hb.1 hb.2).2.2 (PA_blkK hP.2.1 hb.1 hb.2) (fun m1 C1 T1 J1 F1 => ?_))
          refine kr_s ?_
          have hfc := (hP.2.1 b hb.1 hb.2).1.1
          obtain ⟨kE, kD, kC, kR⟩ := ck_EQ hP hS hb (fC (aF A) b).toNat (by omega)
          have hgc := fun (F F2 : Fl) (g : Lg) => gc_EQ (F := F) (F2 := F2) (g := g) hP hS hb
          rw [← ck_cg hSS] at h
          have hcsOK : csOK (aF A) b (ck (aF A) S b (fC (aF A) b).toNat).2 := fun i hi => by obtain ⟨q1, q2, -⟩ := kC i hi; exact ⟨by omega, q2⟩
          generalize (ck (aF A) S b (fC (aF A) b).toNat).2 = cs at h J1 hcsOK hgc ⊢
          have C61 : C6 (aF A) (aG A) S m1 ε := ⟨C1, CL_FrJ hL hr F1, T1⟩
          have R1 := Fr6_J hr F1
          have hcap1 := R1.2.2.2 _ hcap
          refine wq_istore_n (pc := 53) (L' := [(3, _), (2, _), (0, _), (1, _)]) dX6_collect_53 rfl rfl (by decide) ?_
          refine wq_aload_n (pc := 54) dX6_collect_54 rfl rfl ?_
          refine wq_iload_n (pc := 55) dX6_collect_55 rfl rfl ?_
          refine cVK_1 (pc := 56) dX6_collect_56 hs (cw_X6_170 _ rfl) (by decide) rfl ⟨by decide, by decide⟩ (Nat.le_of_ble_eq_true rfl) (sp_X6_refuseWithoutRoomFor C61.1 C61.2.1 hP.2.2.2.1.1 hbd hcap1 J1 rfl (fun hrm m2 t2 => ?_) (fun hrm m2 t2 e9 ht => ?_))
          · skip
            refine kr_v ?_
            rw [pI_0 (fun z => z hrm)] at h
            obtain ⟨C6b, K2, R2⟩ := C6_TrM C61 t2
            have hcap2 := R2.2.2.2 _ hcap1
            have J2 := CJ_TrM J1 t2
            unfold actColl2 at h
            refine wq_iconst (pc := 59) dX6_collect_59 ?_
            refine wq_istore (pc := 60) (L' := [(4, _), (3, _), (2, _), (0, _), (1, _)]) dX6_collect_60 rfl (by decide) ?_
            have loop9 : ∀ (n k : Nat), ∀ (m : nMem) (e : nEnv) (i : Int) (F : Fl) (g : Lg), k ≤ cs.length → cs.length < k + n → i = (k : Int) → C6 F g S m e → CJ cs m → Cap m e (t + 1) → Fr6 μ ε m e → eKind e 25 ≠ 0 → CPI (aF A) b cs k F g → cpL cs (aF A) (aG A) = cpL (cs.drop k) F g → wp mX6_collect 62 [(0, vR 1), (2, vI b), (3, vI (cs.length : Int)), (4, vI i)] [] m e Q := by
              intro n
              induction n with
              | zero => intro k m e i F g hk1 hk2 e0 e1 e2 e3 e4 e5 e6 e7; exact absurd hk2 (by omega)
              | succ n ih =>
                intro k m e i F g hk1 hk2 e0 e1 e2 e3 e4 e5 e6 e7
                subst e0
                have hs := e1.1.1
                have hsT := e1.2.2.1
                have hJ16 := e2.2.1
                refine wq_iload (pc := 62) dX6_collect_62 rfl ?_
                refine wq_iload_n (pc := 64) dX6_collect_64 rfl rfl ?_
                refine wq_icmp_ge (pc := 65) (tgt := 96) dX6_collect_65 (by decide) (by first | (unfold inR; omega) | assumption) (by first | (unfold inR; omega) | assumption) (fun c10 => ?_) (fun c10 => ?_)
                · skip
                  skip
                  have ek : k = cs.length := by omega
                  have e6' : CPI (aF A) b cs cs.length F g := by rw [← ek]; exact e6
                  have ecf : cpL cs (aF A) (aG A) = (F, g, true) := by rw [e7, ek, List.drop_length]; rfl
                  rw [ecf, if_neg (show ¬ ((F, g, true) : Fl × Lg × Bool).2.2 = false from fun z => by cases z)] at h
                  have hfo := free_ok e6.1 e6.2.1 e6.2.2.1
                  refine wq_aload_n (pc := 96) dX6_collect_96 rfl rfl ?_
                  refine wq_getS (pc := 97) dX6_collect_97 hs (gf_X6_21 _ rfl) rfl rfl rfl rfl rfl ?_
                  refine wq_iload_n (pc := 100) dX6_collect_100 rfl rfl ?_
                  refine cVK_1 (pc := 101) dX6_collect_101 hs (cw_X6_177 _ rfl) (by decide) rfl ⟨by decide, by decide⟩ (Nat.le_of_ble_eq_true rfl) (sp_X3_freeClosed e1.1 e1.2.1 hb e6.2.1.2.2.2.2.2.2 hfo.1 (fun hr9 m4 C4 L4 X4 => ?_) (fun hr9 m4 C4 L4 X4 => ?_))
                  · skip
                    refine kr_s ?_
                    obtain ⟨C6d, K4, R4⟩ := C6_X e1 C4 L4 X4
                    rw [if_pos hr9] at h
                    have hE := hgc F
                    generalize lFree F g b = R at hr9 C4 L4 C6d hfo h
                    obtain ⟨z1, z2, z3⟩ := hfo.2.2.2 hr9
                    have hI9 : IB R.1 nb vb := by
                      rcases z3 with z3 | z3
                      · have sc := sameR_cover (F := F) (F' := R.1) (fun j _ _ => ⟨by unfold rW; rw [z3, z3, z3], fun _ q => z3 j q⟩)
                        have z4 := cover_trans e6.2.2.2.2.1 sc.1
                        have z5 := cover_trans sc.2 e6.2.2.2.2.2.1
                        exact IB_cov hP hS (EQ_of (cover_told (NU_cover hP.2.2.1 z5) z4 z5)) z5 hfo.2.1 z2 (by omega)
                      · obtain ⟨q1, q2⟩ := hE R.1 g e6' z3
                        exact IB_cov hP hS q1 q2 hfo.2.1 z2 (by omega)
                    have fin : MC (afterX A R) (nb + 1) (vb + 2) m4 e := MC_off C6d hB e5 z1 hI9 (by omega) (by omega) (by omega)
                    have fcap := Cap_mono (R4.2.2.2 _ e3) (Nat.le_succ t)
                    have ffr := FrN_6 (Fr6_trans e4 R4)
                    refine wq_if_eq (pc := 104) (tgt := 111) dX6_collect_104 (by decide) (by first | (unfold inR; omega) | assumption) (fun _ => ?_) (fun c => absurd c (by decide))
                    refine wq_bipush (pc := 111) dX6_collect_111 (by decide) (by decide) ?_
                    refine wq_iret (pc := 113) dX6_collect_113 rfl ?_
                    first | (obtain ⟨m9, c9, f9⟩ := MC_x hC6c hB hIB hDD h56 hon hnb hcap hF6 ht; exact h _ _ m9 c9 f9) | exact h _ _ fin fcap ffr
                  · skip
                    refine kr_s ?_
                    obtain ⟨C6d, K4, R4⟩ := C6_X e1 C4 L4 X4
                    rw [if_neg (by rw [hr9]; decide)] at h
                    have hE := hgc F
                    generalize lFree F g b = R at hr9 C4 L4 C6d hfo h
                    obtain ⟨z1, z2, z3⟩ := hfo.2.2.1 hr9
                    obtain ⟨q1, q2⟩ := hE R.1 g e6' z3
                    obtain ⟨w1, w2, w3, w4, w5⟩ := IP_EQ (A' := afterX A R) hP hS q1 q2 hfo.2.1 rfl rfl rfl
                    have hI9 : IP (afterX A R) fl nb vb := ⟨z2.trans e6.2.2.2.1, hfo.2.1, w3, z1, w4, w2, w1, hP.2.2.2.2.2.2.2⟩
                    have fin := MC_on (A := afterX A R) (nb := nb + 1) (vb := vb + 2) C6d e5 (IP_mono hI9 (by omega) (by omega)) w5 (by omega) (by omega)
                    have fcap := Cap_mono (R4.2.2.2 _ e3) (Nat.le_succ t)
                    have ffr := FrN_6 (Fr6_trans e4 R4)
                    refine wq_if_eq (pc := 104) (tgt := 111) dX6_collect_104 (by decide) (by first | (unfold inR; omega) | assumption) (fun c => absurd c (by decide)) (fun _ => ?_)
                    refine wq_iload_n (pc := 107) dX6_collect_107 rfl rfl ?_
                    refine wq_goto (pc := 108) (tgt := 113) dX6_collect_108 (by decide) ?_
                    refine wq_iret (pc := 113) dX6_collect_113 rfl ?_
                    first | (obtain ⟨m9, c9, f9⟩ := MC_x hC6c hB hIB hDD h56 hon hnb hcap hF6 ht; exact h _ _ m9 c9 f9) | exact h _ _ fin fcap ffr
                · skip
                  refine wq_aload_n (pc := 68) dX6_collect_68 rfl rfl ?_
                  refine wq_getS (pc := 69) dX6_collect_69 hs (gf_X6_21 _ rfl) rfl rfl rfl rfl rfl ?_
                  refine wq_aload_n (pc := 72) dX6_collect_72 rfl rfl ?_
                  refine wq_getS (pc := 73) dX6_collect_73 hs (gf_X6_37 _ rfl) rfl rfl rfl rfl rfl ?_
                  refine wq_iload (pc := 76) dX6_collect_76 rfl ?_
                  refine cVK_1 (pc := 78) dX6_collect_78 hs (cw_X6_173 _ rfl) (by decide) rfl ⟨by decide, by decide⟩ (Nat.le_of_ble_eq_true rfl) (sp_X2_chosenAt e1.1 e2 rfl (by omega) ?_)
                  refine kr_s ?_
                  obtain ⟨p1, p2, p3, p4, ⟨⟨s9, p5, p6⟩, p7⟩⟩ := cp_pre e6 hb hcsOK (by omega)
                  have hnz := row_nz (CFz_of e1.1) (i := cs.getD k 0) (by omega) (by omega) (by have := p2.1; omega)
                  obtain ⟨ra, -⟩ := CF_row e1.1 (i := cs.getD k 0) (by omega) (by omega)
                  have hun : m (nRow m (cs.getD k 0)) 1 = fN F (cs.getD k 0) 1 := ra 1 (by omega) (by omega)
                  have hsr : nSrc (m (nRow m (cs.getD k 0))) = nSrc (fN F (cs.getD k 0)) := nSrc_congr (fun q q0 q1 => ra q q0 q1)
                  have hu2 := sOK_k p4
                  rw [nSrc_k _ (k := 1) (by omega)] at hu2
                  have hsp : srcP F m e g (nRow m (cs.getD k 0)) := ⟨nRow_kd e1.1.1 e1.1.2.1 _, nRow_nB e1.1.2.1 _, by omega, by omega, Or.inr ⟨cs.getD k 0, by omega, by omega, hnz.2.1.symm, by omega, fun c hc z => by
                    have hcb : c = b := by omega
                    rw [hcb] at hc
                    obtain ⟨-, -, -, -, ⟨-, -, l7, l8, l9⟩, -, -⟩ := e6.2.1
                    rcases hc with q | q
                    · exact l9 (by rw [← q]; exact e6.2.2.1)
                    · exact l7 b q e6.2.2.1⟩⟩
                  have hkk : ∀ i ∈ cs, fN F i 0 ≠ 0 := fun i hi => by
                    obtain ⟨z1, z2⟩ := hcsOK i hi
                    have := (e6.2.2.2.2.2.2.1 i (by omega) (by omega) z2).1.1; omega
                  have cst := cp_step e6 hb hcsOK (k := k) (by omega) rfl
                  have hdr : cs.drop k = cs.getD k 0 :: cs.drop (k + 1) := drop_get (by omega)
                  refine cVK_1 (pc := 81) dX6_collect_81 hs (cw_X6_72 _ rfl) (by decide) rfl ⟨by decide, by decide⟩ (Nat.le_of_ble_eq_true rfl) (sp_X3_put e1.1 e1.2.1 (PL_wfP e6.1 e6.2.1) (by rw [hun]; exact p7) e3 hsp (by omega) (fun hr9 m4 ee4 C4 L4 X4 => ?_) (fun hr9 m4 ee4 C4 L4 X4 => ?_))
                  · skip
                    refine kr_s ?_
                    rw [hsr] at hr9 C4 L4
                    obtain ⟨C6d, K4, R4⟩ := C6_X e1 C4 L4 X4
                    rw [e7, hdr, cpL_0 hr9, if_pos hr9] at h
                    generalize lPut F g (nSrc (fN F (cs.getD k 0))) = R at hr9 C4 L4 C6d cst h
                    obtain ⟨z1, z2, z3, z4, z5⟩ := cst.2 hr9
                    have fin : MC (afterX A R) (nb + 1) (vb + 2) m4 ee4 := MC_off C6d hB (by rw [(X4.2.1 25 e5).1]; exact e5) z1 (IB_cov hP hS (EQ_of (cover_told (NU_cover hP.2.2.1 z5) z4 z5)) z5 z3 z2 (by omega)) (by omega) (by omega) (by omega)
                    have fcap := Cap_mono (R4.2.2.2 _ e3) (Nat.le_succ t)
                    have ffr := FrN_6 (Fr6_trans e4 R4)
                    refine wq_if_ne (pc := 84) (tgt := 90) dX6_collect_84 (by decide) (by first | (unfold inR; omega) | assumption) (fun c => absurd c (by decide)) (fun _ => ?_)
                    refine wq_bipush (pc := 87) dX6_collect_87 (by decide) (by decide) ?_
                    refine wq_iret (pc := 89) dX6_collect_89 rfl ?_
                    first | (obtain ⟨m9, c9, f9⟩ := MC_x hC6c hB hIB hDD h56 hon hnb hcap hF6 ht; exact h _ _ m9 c9 f9) | exact h _ _ fin fcap ffr
                  · skip
                    refine kr_s ?_
                    rw [hsr] at hr9 C4 L4
                    obtain ⟨C6d, K4, R4⟩ := C6_X e1 C4 L4 X4
                    have J4 := CJ_X e1.1 e2 X4 hkk
                    have st2 := cst.1 hr9
                    have ecp : cpL cs (aF A) (aG A) = cpL (cs.drop (k + 1)) (lPut F g (nSrc (fN F (cs.getD k 0)))).1 (lPut F g (nSrc (fN F (cs.getD k 0)))).2.1 := by rw [e7, hdr, cpL_1 hr9]
                    generalize lPut F g (nSrc (fN F (cs.getD k 0))) = R at hr9 C4 L4 C6d st2 ecp
                    have hs := C6d.1.1
                    have hsT := C6d.2.2.1
                    have h564 : eKind ee4 25 ≠ 0 := by rw [(X4.2.1 25 e5).1]; exact e5
                    refine wq_if_ne (pc := 84) (tgt := 90) dX6_collect_84 (by decide) (by first | (unfold inR; omega) | assumption) (fun _ => ?_) (fun c => absurd c (by decide))
                    refine wq_iinc (pc := 90) (L' := [(4, _), (0, _), (2, _), (3, _)]) dX6_collect_90 rfl rfl (by decide) ?_
                    refine wq_goto (pc := 93) (tgt := 62) dX6_collect_93 (by decide) ?_
                    refine wq_sub1 (L' := [(0, _), (2, _), (3, _), (4, _)]) ⟨rfl, rfl, rfl, rfl, trivial⟩ ?_
                    exact ih (k + 1) m4 ee4 _ R.1 R.2.1 (by omega) (by omega) (by omega) C6d J4 (R4.2.2.2 _ e3) (Fr6_trans e4 R4) h564 st2 ecp
            refine wq_sub1 (L' := [(0, _), (2, _), (3, _), (4, _)]) ⟨rfl, rfl, rfl, rfl, trivial⟩ ?_
            exact loop9 (cs.length + 1) 0 m2 ε _ (aF A) (aG A) (by omega) (by omega) (by omega) C6b J2 hcap2 (Fr6_trans R1 R2) h56 (CPI_0 hP.2.1 hP.2.2.2.1 hvm2 hP.1 hrm) rfl
          · skip
            refine kr_x ?_
            rw [pI_1 hrm] at h
            obtain ⟨hC6c, K2, R2⟩ := C6_TrM C61 t2
            have hF6 := Fr6_trans R1 R2
            first | (obtain ⟨m9, c9, f9⟩ := MC_x hC6c hB hIB hDD h56 hon hnb hcap hF6 ht; exact h _ _ m9 c9 f9) | exact h _ _ fin fcap ffr
        · skip
          rw [pI_1 (show b = -1 by omega)] at h
          refine wq_throw (pc := 35) dX6_collect_35 dX6_collect_38 dX6_collect_39 dX6_collect_41 dX6_collect_44 rfl th_S ks_X6_165 (by decide) (by decide) (Nat.le_of_ble_eq_true rfl) hroom (fun ε' ht => ?_)
          first | (obtain ⟨m9, c9, f9⟩ := MC_x hC6c hB hIB hDD h56 hon hnb hcap hF6 ht; exact h _ _ m9 c9 f9) | exact h _ _ fin fcap ffr
      · skip
        rw [pI_1 (show ¬ (0 ≤ dr ∧ dr ≤ 127) by omega)] at h
        refine wq_throw (pc := 14) dX6_collect_14 dX6_collect_17 dX6_collect_18 dX6_collect_20 dX6_collect_23 rfl th_A ks_X6_160 (by decide) (by decide) (Nat.le_of_ble_eq_true rfl) hroom (fun ε' ht => ?_)
        first | (obtain ⟨m9, c9, f9⟩ := MC_x hC6c hB hIB hDD h56 hon hnb hcap hF6 ht; exact h _ _ m9 c9 f9) | exact h _ _ fin fcap ffr
  · skip
    refine kr_x ?_
    rw [pI_1 (show dk A from hd)] at h
    first | (obtain ⟨m9, c9, f9⟩ := MC_x hC6c hB hIB hDD h56 hon hnb hcap hF6 ht; exact h _ _ m9 c9 f9) | exact h _ _ fin fcap ffr
