/-! ### garbage, cuts, mounts: what is told stays told -/
theorem vc_in (F : Fl) (S : Tr) (g : Lg) (w : Int) : ∀ n : Nat, n < g.2.2.length → (vc F S g w (n + 1)).1 ∈ g.2.2
  | 0, h => by
    rw [vc_s]
    unfold vcS
    have e : (vc F S g w 0).2 = 3 := rfl
    rw [e, if_pos (by omega)]
    exact getD_mem h
  | n + 1, h => by
    rw [vc_s]
    unfold vcS
    split
    · exact getD_mem h
    · exact vc_in F S g w n (by omega)
theorem cp_all {F0 : Fl} {b : Int} {cs : List Int} (hb : 0 ≤ b ∧ b < 8) (hcs : csOK F0 b cs) : ∀ (n k : Nat) (F : Fl) (g : Lg), k + n = cs.length → CPI F0 b cs k F g → VI F →
    ((cpL (cs.drop k) F g).2.2 = true → CPI F0 b cs cs.length (cpL (cs.drop k) F g).1 (cpL (cs.drop k) F g).2.1 ∧ VI (cpL (cs.drop k) F g).1) ∧
    ((cpL (cs.drop k) F g).2.2 = false → (fD (cpL (cs.drop k) F g).1 = 1 ∧ fL (cpL (cs.drop k) F g).1 = -1) ∧ VZ (cpL (cs.drop k) F g).1 ∧ cover F0 (cpL (cs.drop k) F g).1 ∧ cover (cpL (cs.drop k) F g).1 F0)
  | 0, k, F, g, hk, h, hV => by
    have e : cs.drop k = [] := List.drop_eq_nil_of_le (by omega)
    rw [e]
    have hk : k = cs.length := by omega
    subst hk
    exact ⟨fun _ => ⟨h, hV⟩, fun z => by cases z⟩
  | n + 1, k, F, g, hk, h, hV => by
    have hk2 : k < cs.length := by omega
    have e : cs.drop k = cs.getD k 0 :: cs.drop (k + 1) := drop_get hk2
    rw [e]
    obtain ⟨p1, p2, p3, p4, ⟨-, p7⟩⟩ := cp_pre h hb hcs hk2
    have e1 : nSrc (fN F (cs.getD k 0)) 1 = fN F (cs.getD k 0) 1 := nSrc_k _ (by omega)
    have pv := VI_put h.1 h.2.1 p4 (by rw [e1]; exact p7) hV
    obtain ⟨q1, q2⟩ := cp_step h hb hcs hk2 rfl
    by_cases c : (lPut F g (nSrc (fN F (cs.getD k 0)))).2.2 = false
    · rw [cpL_0 c]
      obtain ⟨r1, r2, r3, r4, r5⟩ := q2 c
      exact ⟨fun z => absurd (c.symm.trans z) (by decide), fun _ => ⟨⟨r1, r2⟩, pv, r4, r5⟩⟩
    · have c' : (lPut F g (nSrc (fN F (cs.getD k 0)))).2.2 = true := by simpa using c
      rw [cpL_1 c']
      exact cp_all hb hcs n (k + 1) _ _ (by omega) (q1 c') pv.1
theorem pa_collect {A : AS} {fl : Int → Int} {nb vb dr : Int} {S : Tr} (hP : IP A fl nb vb) (hS : TSA A fl S) (hV : VI (aF A)) (hdr : 0 ≤ dr ∧ dr ≤ 127) :
    ((actCollect A dr).1 = .inr xS ∧ (actCollect A dr).2 = A ∧ ((aG A).2.2 = [] ∨ (aG A).2.1.length < 1)) ∨ ((aG A).2.2 ≠ [] ∧ (actCollect A dr).1 = .inl (-9) ∧ drk (aF A) (aF (actCollect A dr).2) ∧ VI (aF (actCollect A dr).2) ∧ BI (aF (actCollect A dr).2)) ∨ ((aG A).2.2 ≠ [] ∧ ∃ b, (actCollect A dr).1 = .inl b ∧ (0 ≤ b ∧ b < 8) ∧ fD (aF (actCollect A dr).2) = 0 ∧ EQ (aF A) (aF (actCollect A dr).2) ∧ VZ (aF (actCollect A dr).2) ∧ b ∈ (aG (actCollect A dr).2).2.1) := by
  have hSS := tS_S hP hS
  unfold actCollect
  rw [pI_0 (nDk hP), pI_0 (fun z => z hdr)]
  unfold actColl1
  by_cases hz : (aG A).2.2 = []
  · have e : vicA A dr = -1 := by unfold vicA; rw [hz]; rfl
    rw [pI_1 e]; exact Or.inl ⟨rfl, rfl, Or.inl hz⟩
  · obtain ⟨m, hm⟩ : ∃ m, (aG A).2.2.length = m + 1 := by
      cases hc : (aG A).2.2 with
      | nil => exact absurd hc hz
      | cons x xs => exact ⟨xs.length, rfl⟩
    have hin : vicA A dr ∈ (aG A).2.2 := by unfold vicA; rw [hm]; exact vc_in _ _ _ _ m (by omega)
    generalize vicA A dr = b at hin ⊢
    have hb := (hP.2.2.2.1.2.2.2.1 b hin).1
    rw [pI_0 (show ¬ b = -1 by omega)]
    unfold chosenA
    rw [← ck_cg hSS]
    have hfc := (hP.2.1 b hb.1 hb.2).1.1
    obtain ⟨kE, kD, kC, kR⟩ := ck_EQ hP hS hb (fC (aF A) b).toNat (by omega)
    have hgc := fun (F F2 : Fl) (g : Lg) => gc_EQ (F := F) (F2 := F2) (g := g) hP hS hb
    have hroom := gc_room (g := aG A) (S := S) hP.2.1 hb hV
    have hcsOK : csOK (aF A) b (ck (aF A) S b (fC (aF A) b).toNat).2 := fun i hi => by obtain ⟨q1, q2, -⟩ := kC i hi; exact ⟨by omega, q2⟩
    generalize (ck (aF A) S b (fC (aF A) b).toNat).2 = cs at hcsOK hgc hroom ⊢
    by_cases c : trL (uOf (aF A) cs) (tr0 (aF A) (aG A) ((aG A).2.1.length : Int))
    · rw [pI_0 (fun z => z c)]
      have key := cp_all hb hcsOK cs.length 0 (aF A) (aG A) (by omega) (CPI_0 hP.2.1 hP.2.2.2.1 hin hP.1 c) hV
      rw [List.drop_zero] at key
      unfold actColl2
      generalize cpL cs (aF A) (aG A) = R at key ⊢
      by_cases r1 : R.2.2 = false
      · rw [if_pos r1]
        obtain ⟨a1, a2, a3, a4⟩ := key.2 r1
        exact Or.inr (Or.inl ⟨hz, rfl, ⟨a1, EQ_of (cover_told (NU_cover hP.2.2.1 a4) a3 a4)⟩, a2.1, ZI_BI a2.2⟩)
      · rw [if_neg r1]
        obtain ⟨hc1, hv1⟩ := key.1 (by simpa using r1)
        have hc2 := hc1
        obtain ⟨b1, b2, b3, b4, b5, b6, -⟩ := hc2
        obtain ⟨f1, f2, f3, f4⟩ := free_ok b1 b2 b3
        have hz1 := PL_ZI b1 b2
        have hv2 : VI (lFree R.1 R.2.1 b).1 := VI_erR hb hv1
        by_cases r2 : (lFree R.1 R.2.1 b).2.2 = false
        · rw [if_pos r2]
          obtain ⟨g1, g2, g3⟩ := f4 r2
          refine Or.inr (Or.inl ⟨hz, rfl, ⟨⟨g1, g2⟩, ?_⟩, hv2, BI_erR hb (ZI_BI hz1) (Or.inr hz1)⟩)
          rcases g3 with g3 | g3
          · exact EQ_trans (EQ_of (cover_told (NU_cover hP.2.2.1 b6) b5 b6)) (same_EQ (sameN_R g3))
          · exact (hgc _ _ _ hc1 g3).1
        · rw [if_neg r2]
          have r2' : (lFree R.1 R.2.1 b).2.2 = true := by simpa using r2
          obtain ⟨g1, g2, g3⟩ := f3 r2'
          refine Or.inr (Or.inr ⟨hz, b, rfl, hb, g2.trans b4, (hgc _ _ _ hc1 g3).1, ⟨hv2, PL_ZI f2 g1⟩, ?_⟩)
          show b ∈ (lFree R.1 R.2.1 b).2.1.2.1
          have e : (fErR R.1 b).2 = true := r2'
          unfold lFree
          rw [if_pos e]
          exact List.mem_append_right _ List.mem_cons_self
    · rw [pI_1 c]
      refine Or.inl ⟨rfl, rfl, Or.inr ?_⟩
      have := mt hroom c
      omega
theorem pa_cut {A : AS} {u : Int} (hu : -1 ≤ u ∧ u ≤ 1000) : (actCut A u).1 = .inl (fL (aF A)) ∧ fL (aF (actCut A u).2) = u ∧ fD (aF (actCut A u).2) = fD (aF A) ∧ aG (actCut A u).2 = aG A ∧ aX (actCut A u).2 = aX A ∧ EQ (aF A) (aF (actCut A u).2) ∧ (VI (aF A) → VI (aF (actCut A u).2)) ∧ (BI (aF A) → BI (aF (actCut A u).2)) ∧ (ZI (aF A) → ZI (aF (actCut A u).2)) := by
  unfold actCut
  rw [pI_0 (fun z => z hu)]
  exact ⟨rfl, rfl, rfl, rfl, rfl, same_EQ (sameN_R (fun _ _ => rfl)), fun h => VI_cg (fun _ _ => rfl) (fun _ => rfl) (fun _ => rfl) h, fun h => h, fun h => h⟩
theorem lBrk_z {F : Fl} {g : Lg} (h : ZI F) : ∀ k : Nat, k ≤ 8 → lBrk F g k = (F, g, true)
  | 0, _ => rfl
  | k + 1, hk => by
    rw [lBrk_s, lBrk_z h k (by omega)]
    exact (if_neg (fun z => absurd z (by simp))).trans (if_neg (h k (by omega) (by omega)))
theorem fErR_le {F : Fl} {b : Int} (h : -1 ≤ fL F) : fL (fErR F b).1 ≤ fL F ∧ (fL F = -1 → (fErR F b).2 = true ∧ fL (fErR F b).1 = -1) := by
  by_cases c0 : fL F = 0
  · rw [erR_0 c0]; exact ⟨by show -1 ≤ fL F; omega, fun z => by omega⟩
  · by_cases c1 : fL F = 1
    · rw [erR_1 c1]; exact ⟨by show -1 ≤ fL F; omega, fun z => by omega⟩
    · rw [erR_2 c0 c1]
      have e1 : fL (fSetU (fSpd (fEra (fSpd F) b)) b 1) = (if (if fL F < 0 then fL F else fL F - 1) < 0 then (if fL F < 0 then fL F else fL F - 1) else (if fL F < 0 then fL F else fL F - 1) - 1) := rfl
      rw [e1]
      refine ⟨?_, fun z => ⟨rfl, ?_⟩⟩
      · (repeat' split) <;> omega
      · rw [if_pos (show fL F < 0 by omega), if_pos (by omega)]; exact z
theorem lBrk_le {F : Fl} {g : Lg} (h : -1 ≤ fL F ∧ fL F ≤ 1000) : ∀ k : Nat, fL (lBrk F g k).1 ≤ fL F ∧ (fL F = -1 → (lBrk F g k).2.2 = true ∧ fL (lBrk F g k).1 = -1)
  | 0 => ⟨Int.le_refl _, fun z => ⟨rfl, z⟩⟩
  | k + 1 => by
    obtain ⟨h1, h2⟩ := lBrk_le (g := g) h k
    have h3 := (lBrk_L (g := g) h k).1
    obtain ⟨a, b⟩ := fErR_le (b := (k : Int)) h3
    rw [lBrk_s]
    split
    · exact ⟨h1, h2⟩
    · split
      · refine ⟨Int.le_trans a h1, fun z => ?_⟩
        exact b (h2 z).2
      · exact ⟨h1, h2⟩
theorem pa_mount {A : AS} {nb vb s : Int} (hI : IB (aF A) nb vb) (hV : VI (aF A)) (hB : BI (aF A)) (hb2 : 2 ≤ nb) :
    ((actMount A s).1 = .inl (-9) ∧ drk (aF A) (aF (actMount A s).2) ∧ VI (aF (actMount A s).2) ∧ BI (aF (actMount A s).2) ∧ fL (aF A) ≠ -1 ∧ ¬ ZI (aF A)) ∨
    ((actMount A s).1 = .inl (rdS (aF A) s 8) ∧ fD (aF (actMount A s).2) = 0 ∧ EQ (aF A) (aF (actMount A s).2) ∧ VZ (aF (actMount A s).2) ∧ fL (aF (actMount A s).2) ≤ fL (aF A) ∧ (fL (aF A) = -1 → fL (aF (actMount A s).2) = -1)) := by
  have hI1 : IB (fSetD (aF A) 0) nb vb := IB_same2 (F := aF A) (F' := fSetD (aF A) 0) (sameN_R (fun _ _ => rfl)) hI.1 hI.2.2.2.1 hI
  have hV1 : VI (fSetD (aF A) 0) := VI_cg (fun _ _ => rfl) (fun _ => rfl) (fun _ => rfl) hV
  have hB1 : BI (fSetD (aF A) 0) := hB
  have hE1 : EQ (aF A) (fSetD (aF A) 0) := same_EQ (sameN_R (fun _ _ => rfl))
  have hz : ZI (aF A) → lBrk (fSetD (aF A) 0) (gOf (fSetD (aF A) 0)) 8 = (fSetD (aF A) 0, gOf (fSetD (aF A) 0), true) := fun z => lBrk_z (F := fSetD (aF A) 0) z 8 (Nat.le_refl _)
  have hZ := gOf_ok hI1.1 hI1.2.2.2.1
  obtain ⟨b1, b2, b3, b4, b5⟩ := lBrk_ok hI1.1 hZ 8 (Nat.le_refl _)
  obtain ⟨v1, v2⟩ := VI_lBrk (g := gOf (fSetD (aF A) 0)) hV1 hB1 8 (Nat.le_refl _)
  obtain ⟨l1, l2⟩ := lBrk_le (g := gOf (fSetD (aF A) 0)) hI1.2.2.2.1 8
  have eL : fL (fSetD (aF A) 0) = fL (aF A) := rfl
  rw [eL] at l1 l2
  unfold actMount actMount2
  generalize lBrk (fSetD (aF A) 0) (gOf (fSetD (aF A) 0)) 8 = R at hz b1 b2 b3 b4 b5 v1 v2 l1 l2 ⊢
  by_cases r : R.2.2 = false
  · rw [if_pos r]
    obtain ⟨q1, q2⟩ := b5 r
    exact Or.inl ⟨rfl, ⟨⟨q1, q2⟩, EQ_trans hE1 (same_EQ b2)⟩, v1, v2, fun z => absurd ((l2 z).1.symm.trans r) (by decide), fun z => absurd (show (true : Bool) = false by rw [hz z] at r; exact r) (by decide)⟩
  · rw [if_neg r]
    obtain ⟨q1, q2, q3⟩ := b4 (by simpa using r)
    exact Or.inr ⟨rfl, q2, EQ_trans hE1 (same_EQ b2), ⟨v1, fun b b0 b1 => q3 b b0 (by omega)⟩, l1, fun z => (l2 z).2⟩
/-- a mount gives no new number -/
theorem mount_b {A : AS} {nb vb s : Int} (hI : IB (aF A) nb vb) (hV : 0 ≤ vb ∧ vb ≤ 4000) (hnb : nb ≤ 2000) : IB (aF (actMount A s).2) nb vb ∧ (fD (aF (actMount A s).2) = 0 → aX (actMount A s).2 ≤ nb ∧ ∀ n, (0 ≤ aD (actMount A s).2 n ∧ aD (actMount A s).2 n ≤ vb) ∧ 0 ≤ aN (actMount A s).2 n ∧ aN (actMount A s).2 n ≤ vb) := by
  have hI1 : IB (fSetD (aF A) 0) nb vb := IB_same2 (F := aF A) (F' := fSetD (aF A) 0) (sameN_R (fun _ _ => rfl)) hI.1 hI.2.2.2.1 hI
  obtain ⟨m1, m2, m3, m4⟩ := mount_ok (R := lBrk (fSetD (aF A) 0) (gOf (fSetD (aF A) 0)) 8) hI1 rfl hnb hV rfl
  unfold actMount actMount2
  generalize lBrk (fSetD (aF A) 0) (gOf (fSetD (aF A) 0)) 8 = R at m3 m4 ⊢
  by_cases r : R.2.2 = false
  · obtain ⟨q1, q2⟩ := m4 r
    exact ⟨q2, fun z => by have z : fD R.1 = 0 := z; omega⟩
  · obtain ⟨fl, q1, q2⟩ := m3 (by simpa using r)
    exact ⟨IP_IB q1 hnb, fun _ => ⟨q1.2.2.2.2.2.2.2.1.2, q1.2.2.2.2.2.2.2.2.1⟩⟩
