/-- what a reading of a directory's names asks of the tree, row by row -/
def rnOK (F : Fl) (d : Int) (S : Tr) : Prop := ∀ k : Nat, k < 128 → rT F k 2 d → (0 ≤ tFd (rn F d S k) d 3 ∧ tFd (rn F d S k) d 3 ≤ 100000) ∧ tB (rnV F d k (rn F d S k)) ∧ (rnAsg F d k → tCl (rnAdd F k (rnV F d k (rn F d S k))) d (fN F k 5) ∉ tNl (rnAdd F k (rnV F d k (rn F d S k))) ∧ (1 ≤ fN F k 5 ∧ fN F k 5 < 100) ∧ tB (rnAdd F k (rnV F d k (rn F d S k))) ∧ (fN F k 10 ∉ tNl (rn F d S k) → (tNl (rn F d S k)).length < 129))
def rsDs (F : Fl) (i : Nat) (S : Tr) : Tr := if i < (tNl S).length ∧ tFd S ((tNl S).getD i 0) 2 = 1 then rn F ((tNl S).getD i 0) S 128 else S
/-- the directories read, one after another -/
def rsD (F : Fl) : Nat → Tr
  | 0 => tRoot
  | k + 1 => rsDs F k (rsD F k)
theorem rsD_s (F : Fl) (k : Nat) : rsD F (k + 1) = rsDs F k (rsD F k) := rfl
theorem rsDs_1 {F : Fl} {i : Nat} {S : Tr} (h : i < (tNl S).length) (h2 : tFd S ((tNl S).getD i 0) 2 = 1) : rsDs F i S = rn F ((tNl S).getD i 0) S 128 := by unfold rsDs; rw [if_pos ⟨h, h2⟩]
theorem rsDs_0 {F : Fl} {i : Nat} {S : Tr} (h : i < (tNl S).length → tFd S ((tNl S).getD i 0) 2 ≠ 1) : rsDs F i S = S := by unfold rsDs; rw [if_neg (fun q => h q.1 q.2)]
theorem rsD_end {F : Fl} {k : Nat} (h : (tNl (rsD F k)).length ≤ k) : ∀ j, rsD F (k + j) = rsD F k := by
  intro j
  induction j with
  | zero => rfl
  | succ j ih => rw [Nat.add_succ, rsD_s, ih]; exact rsDs_0 (fun q => by omega)
def rsCs (F : Fl) (i : Nat) (S : Tr) : Tr := if i < (tNl S).length ∧ tFd S ((tNl S).getD i 0) 2 ≠ 1 then (rc F ((tNl S).getD i 0) S 128).2 else S
/-- the files read -/
def rsC (F : Fl) (S : Tr) : Nat → Tr
  | 0 => S
  | k + 1 => rsCs F k (rsC F S k)
theorem rsC_s (F : Fl) (S : Tr) (k : Nat) : rsC F S (k + 1) = rsCs F k (rsC F S k) := rfl
theorem rsCs_1 {F : Fl} {i : Nat} {S : Tr} (h : i < (tNl S).length) (h2 : tFd S ((tNl S).getD i 0) 2 ≠ 1) : rsCs F i S = (rc F ((tNl S).getD i 0) S 128).2 := by unfold rsCs; rw [if_pos ⟨h, h2⟩]
theorem rsCs_0 {F : Fl} {i : Nat} {S : Tr} (h : i < (tNl S).length → tFd S ((tNl S).getD i 0) 2 = 1) : rsCs F i S = S := by unfold rsCs; rw [if_neg (fun q => q.2 (h q.1))]
theorem rc_nl (F : Fl) (q : Int) (S : Tr) (n : Nat) : tNl (rc F q S n).2 = tNl S := by
  induction n with
  | zero => rfl
  | succ n ih => rw [rc_s]; unfold rcStep; split <;> exact ih
theorem rsC_nl (F : Fl) (S : Tr) (n : Nat) : tNl (rsC F S n) = tNl S := by
  induction n with
  | zero => rfl
  | succ n ih =>
    rw [rsC_s]; unfold rsCs; split
    · rw [rc_nl]; exact ih
    · exact ih
theorem rsC_end {F : Fl} {S : Tr} {k : Nat} (h : (tNl (rsC F S k)).length ≤ k) : ∀ j, rsC F S (k + j) = rsC F S k := by
  intro j
  induction j with
  | zero => rfl
  | succ j ih => rw [Nat.add_succ, rsC_s, ih]; exact rsCs_0 (fun q => by omega)
/-- the next number, raised above all that the whole nodes name -/
def rsX (F : Fl) (x : Int) : Nat → Int
  | 0 => x
  | k + 1 => if fN F k 0 ≠ 0 ∧ fN F k 2 = fN F k 1 then max (rsX F x k) (max (fN F k 3) (fN F k 10) + 1) else rsX F x k
theorem rsX_s (F : Fl) (x : Int) (k : Nat) : rsX F x (k + 1) = if fN F k 0 ≠ 0 ∧ fN F k 2 = fN F k 1 then max (rsX F x k) (max (fN F k 3) (fN F k 10) + 1) else rsX F x k := rfl
def tNext (S : Tr) (v : Int) : Tr := (v, tNl S, tFd S, tCl S)
theorem tNext_x (F : Fl) (S : Tr) : tNext S (rsX F (tNx S) 0) = S := rfl
theorem tNext_t (S : Tr) (a b : Int) : tNext (tNext S a) b = tNext S b := rfl
def rs (F : Fl) : Tr := tNext (rsC F (rsD F 129) 129) (rsX F (tNx (rsC F (rsD F 129) 129)) 128)
def rsOK (F : Fl) : Prop := (∀ k : Nat, k ≤ 129 → tB (rsD F k) ∧ (k < (tNl (rsD F k)).length → tFd (rsD F k) ((tNl (rsD F k)).getD k 0) 2 = 1 → rnOK F ((tNl (rsD F k)).getD k 0) (rsD F k))) ∧ ∀ k : Nat, k ≤ 129 → tB (rsC F (rsD F 129) k)
theorem CT_nx {S : Tr} {μ : nMem} {ε : nEnv} {v : Int} (hT : CT S μ ε) : CT (tNext S v) (wr μ 12 3 v) ε ∧ FrT μ ε (wr μ 12 3 v) ε ∧ (∀ b q, tAt S μ b q → tAt (tNext S v) (wr μ 12 3 v) b q) := by
  obtain ⟨c1, c2, c3, c4, c5, c6, c7⟩ := id hT
  have w : ∀ y j, y ≠ 12 → wr μ 12 3 v y j = μ y j := fun y j q => wr_n _ _ (fun z => q z.1)
  have w13 : ∀ j, wr μ 12 3 v 13 j = μ 13 j := fun j => w 13 j (by omega)
  refine ⟨⟨c1, ?_, c3, c4, by rw [wr_n _ _ (by omega)]; exact c5, by rw [wr_s]; rfl, fun i hi => ?_⟩, ⟨fun y _ y1 _ _ _ j => w y j y1, fun _ _ => ⟨rfl, rfl, fun _ => rfl⟩, fun y ⟨k, k0, k1, k2, k3⟩ => Or.inl ⟨k, k0, k1, by rw [w13] at k2; exact k2, by rw [w13] at k3; exact k3⟩, rfl, fun t ht => Cap_congr ht (fun j => w 3 j (by omega)) w13 rfl rfl⟩, fun b x ⟨k, k0, k1, k2⟩ => ⟨k, k0, k1, by rw [w13]; exact k2⟩⟩
  · unfold nItems; simp only [w13]; exact c2
  · have hb := CT_it hT (i := i) hi
    rw [w13]
    obtain ⟨b0, t1, t2, t3⟩ := tAt_sh hT hb
    obtain ⟨d1, d2, d3⟩ := tAt_is hT hb
    exact ⟨b0, by rw [w _ _ (by omega)]; exact d1, fun k k0 k1 => by rw [w _ _ (by omega)]; exact d2 k k0 k1, fun j j0 j1 => by rw [w _ _ (by omega)]; exact d3 j j0 j1⟩
theorem sp_X5_restart {μ : nMem} {ε : nEnv} {Q : nOut → nMem → nEnv → Prop} {F : Fl} {t : Nat} (hC : CF F μ ε) (hT0 : SkP skT ε) (hi0 : nItems μ ε) (h56 : eKind ε 25 ≠ 0) (hcap : Cap μ ε t) (hok : rsOK F) (h : ∀ μ9 ε9, CT (rs F) μ9 ε9 → CF F μ9 ε9 → FrT μ ε μ9 ε9 → Q (.inl none) μ9 ε9) : Sp mX5_restart [vR 12, vR 2] μ ε Q := by
  refine Sp_of (L := [(0, vR 12), (1, vR 2)]) (by decide) rfl rfl (Nat.le_of_ble_eq_true rfl) ?_
  have hsT := hT0
  have hs := hC.1
  refine wq_aload_n (pc := 0) dX5_restart_0 rfl rfl ?_
  refine cVK_0 (pc := 1) dX5_restart_1 hsT (cw_X5_20 _ rfl) (by decide) rfl ⟨by decide, by decide⟩ (Nat.le_of_ble_eq_true rfl) (sp_X5_empty hT0 hi0 (Or.inl h56) hcap (fun m1 e1 a1 T1 F1 A1 => ?_))
  refine kr_v ?_
  have C1 := CF_FrT hC hi0 F1
  refine wq_iconst (pc := 4) dX5_restart_4 ?_
  refine wq_istore_n (pc := 5) (L' := [(2, _), (0, _), (1, _)]) dX5_restart_5 rfl rfl (by decide) ?_
  have loop2 : ∀ (n k : Nat), ∀ (m : nMem) (e : nEnv) (i : Int), k ≤ 130 → 130 < k + n → i = (k : Int) → CT (rsD F k) m e → CF F m e → FrT μ ε m e → k ≤ 129 → wp mX5_restart 6 [(0, vR 12), (1, vR 2), (2, vI i)] [] m e Q := by
    intro n
    induction n with
    | zero => intro k m e i hk1 hk2 e0 e1 e2 e3 e4; exact absurd hk2 (by omega)
    | succ n ih =>
      intro k m e i hk1 hk2 e0 e1 e2 e3 e4
      subst e0
      have hs := e2.1
      have hr := e2.2.1
      have hsT := e1.1
      have hc := e1.2.2.2.2.1
      have hl := e1.2.2.2.1
      obtain ⟨hB, hrn⟩ := hok.1 k e4
      have hit0 : k < (tNl (rsD F k)).length → tAt (rsD F k) m (m 13 k) ((tNl (rsD F k)).getD k 0) := fun q => CT_it e1 q
      have hat : k < (tNl (rsD F k)).length → m 13 k ≠ 0 ∧ eKind e (m 13 k) = 2 ∧ m (m 13 k) 2 = tFd (rsD F k) ((tNl (rsD F k)).getD k 0) 2 := fun q => ⟨(tAt_sh e1 (hit0 q)).1, (tAt_sh e1 (hit0 q)).2.1.1, (tAt_is e1 (hit0 q)).2.1 2 (by omega) (by omega)⟩
      have hnm : k < (tNl (rsD F k)).length → 0 ≤ (tNl (rsD F k)).getD k 0 ∧ (tNl (rsD F k)).getD k 0 ≤ 100000 := fun q => (hB.2 _ (getD_mem q)).1
      refine wq_iload_n (pc := 6) dX5_restart_6 rfl rfl ?_
      refine wq_aload_n (pc := 7) dX5_restart_7 rfl rfl ?_
      refine wq_getIK (pc := 8) (kk := 2) dX5_restart_8 hsT (gf_X5_23 _ rfl) rfl rfl rfl rfl ?_
      refine wq_icmp_ge (pc := 11) (tgt := 50) dX5_restart_11 (by decide) (by first | (unfold inR; omega) | assumption) (by first | (unfold inR; omega) | assumption) (fun c3 => ?_) (fun c3 => ?_)
      · skip
        have T9 : CT (rsC F (rsD F 129) 0) m e := by
          have hl1 := e1.2.2.2.1
          have := rsD_end (F := F) (k := k) (by omega) (129 - k)
          rw [show k + (129 - k) = 129 by omega] at this
          show CT (rsD F 129) m e
          rw [this]; exact e1
        refine wq_iconst (pc := 50) dX5_restart_50 ?_
        refine wq_istore_n (pc := 51) (L' := [(2, _), (0, _), (1, _)]) dX5_restart_51 rfl rfl (by decide) ?_
        have loop4 : ∀ (n k : Nat), ∀ (m : nMem) (i : Int), k ≤ 130 → 130 < k + n → i = (k : Int) → CT (rsC F (rsD F 129) k) m e → CF F m e → FrT μ ε m e → k ≤ 129 → wp mX5_restart 52 [(0, vR 12), (1, vR 2), (2, vI i)] [] m e Q := by
          intro n
          induction n with
          | zero => intro k m i hk1 hk2 e0 e1 e2 e3 e4; exact absurd hk2 (by omega)
          | succ n ih =>
            intro k m i hk1 hk2 e0 e1 e2 e3 e4
            subst e0
            have hs := e2.1
            have hr := e2.2.1
            have hsT := e1.1
            have hc := e1.2.2.2.2.1
            have hl := e1.2.2.2.1
            have hB := hok.2 k e4
            have hit0 : k < (tNl (rsC F (rsD F 129) k)).length → tAt (rsC F (rsD F 129) k) m (m 13 k) ((tNl (rsC F (rsD F 129) k)).getD k 0) := fun q => CT_it e1 q
            have hat : k < (tNl (rsC F (rsD F 129) k)).length → m 13 k ≠ 0 ∧ eKind e (m 13 k) = 2 ∧ m (m 13 k) 2 = tFd (rsC F (rsD F 129) k) ((tNl (rsC F (rsD F 129) k)).getD k 0) 2 := fun q => ⟨(tAt_sh e1 (hit0 q)).1, (tAt_sh e1 (hit0 q)).2.1.1, (tAt_is e1 (hit0 q)).2.1 2 (by omega) (by omega)⟩
            have hnm : k < (tNl (rsC F (rsD F 129) k)).length → 0 ≤ (tNl (rsC F (rsD F 129) k)).getD k 0 ∧ (tNl (rsC F (rsD F 129) k)).getD k 0 ≤ 100000 := fun q => (hB.2 _ (getD_mem q)).1
            refine wq_iload_n (pc := 52) dX5_restart_52 rfl rfl ?_
            refine wq_aload_n (pc := 53) dX5_restart_53 rfl rfl ?_
            refine wq_getIK (pc := 54) (kk := 2) dX5_restart_54 hsT (gf_X5_23 _ rfl) rfl rfl rfl rfl ?_
            refine wq_icmp_ge (pc := 57) (tgt := 89) dX5_restart_57 (by decide) (by first | (unfold inR; omega) | assumption) (by first | (unfold inR; omega) | assumption) (fun c5 => ?_) (fun c5 => ?_)
            · skip
              have T9 : CT (tNext (rsC F (rsD F 129) 129) (rsX F (tNx (rsC F (rsD F 129) 129)) 0)) m e := by
                have hl1 := e1.2.2.2.1
                have := rsC_end (F := F) (S := rsD F 129) (k := k) (by omega) (129 - k)
                rw [show k + (129 - k) = 129 by omega] at this
                rw [tNext_x, this]; exact e1
              refine wq_iconst (pc := 89) dX5_restart_89 ?_
              refine wq_istore_n (pc := 90) (L' := [(2, _), (0, _), (1, _)]) dX5_restart_90 rfl rfl (by decide) ?_
              have loop6 : ∀ (n k : Nat), ∀ (m : nMem) (i : Int), k ≤ 128 → 128 < k + n → i = (k : Int) → CT (tNext (rsC F (rsD F 129) 129) (rsX F (tNx (rsC F (rsD F 129) 129)) k)) m e → CF F m e → FrT μ ε m e → 0 ≤ rsX F (tNx (rsC F (rsD F 129) 129)) k ∧ rsX F (tNx (rsC F (rsD F 129) 129)) k ≤ 100000 → wp mX5_restart 91 [(0, vR 12), (1, vR 2), (2, vI i)] [] m e Q := by
                intro n
                induction n with
                | zero => intro k m i hk1 hk2 e0 e1 e2 e3 e4; exact absurd hk2 (by omega)
                | succ n ih =>
                  intro k m i hk1 hk2 e0 e1 e2 e3 e4
                  subst e0
                  have hs := e2.1
                  have hr := e2.2.1
                  have hsT := e1.1
                  have hx : m 12 3 = rsX F (tNx (rsC F (rsD F 129) 129)) k := e1.2.2.2.2.2.1
                  refine wq_iload_n (pc := 91) dX5_restart_91 rfl rfl ?_
                  refine wq_sipush (pc := 92) dX5_restart_92 (by decide) (by decide) ?_
                  refine wq_icmp_ge (pc := 95) (tgt := 141) dX5_restart_95 (by decide) (by first | (unfold inR; omega) | assumption) (by first | (unfold inR; omega) | assumption) (fun c7 => ?_) (fun c7 => ?_)
                  · skip
                    refine wq_vret (pc := 141) dX5_restart_141 rfl ?_
                    have ek : k = 128 := by omega
                    subst ek
                    exact h _ _ e1 e2 e3
                  · skip
                    refine wq_aload_n (pc := 98) dX5_restart_98 rfl rfl ?_
                    refine wq_iload_n (pc := 99) dX5_restart_99 rfl rfl ?_
                    refine cVK_1 (pc := 100) dX5_restart_100 hs (cw_X5_91 _ rfl) (by decide) rfl ⟨by decide, by decide⟩ (Nat.le_of_ble_eq_true rfl) (sp_X0_row hs (by unfold inR; omega) ?_)
                    refine kr_s ?_
                    have hkn := nRow_kd hs hr k
                    have hnb := nRow_nB hr k
                    obtain ⟨ra, -⟩ := CF_row e2 (i := (k : Int)) (by omega) (by omega)
                    refine wq_astore_n (pc := 103) (L' := [(3, _), (0, _), (1, _), (2, _)]) dX5_restart_103 rfl rfl (by decide) ?_
                    refine wq_aload_n (pc := 104) dX5_restart_104 rfl rfl ?_
                    refine cV_0 (pc := 105) dX5_restart_105 (cw_X5_97 _ rfl) (by decide) (by first | with_reducible assumption | exact (hat (by omega)).2.1) ⟨by decide, by decide⟩ (Nat.le_of_ble_eq_true rfl) (sp_X4_isWhole hkn hnb (fun hw => ?_) (fun hw => ?_))
                    · skip
                      refine kr_s ?_
                      rw [ra 0 (by omega) (by omega), ra 1 (by omega) (by omega), ra 2 (by omega) (by omega)] at hw
                      obtain ⟨n0, n1, n2, n3, n4, n5, n6, n9, n10, n11, n12, n13⟩ := id hnb
                      refine wq_if_eq (pc := 108) (tgt := 135) dX5_restart_108 (by decide) (by first | (unfold inR; omega) | assumption) (fun c => absurd c (by decide)) (fun _ => ?_)
                      refine wq_aload_n (pc := 111) dX5_restart_111 rfl rfl ?_
                      refine wq_aload_n (pc := 112) dX5_restart_112 rfl rfl ?_
                      refine wq_getIK (pc := 113) (kk := 3) dX5_restart_113 hsT (gf_X5_27 _ rfl) rfl rfl rfl rfl ?_
                      refine wq_aload_n (pc := 116) dX5_restart_116 rfl rfl ?_
                      refine wq_getI (pc := 117) (kk := 3) dX5_restart_117 (gf_X5_103 _ rfl) (by first | with_reducible assumption | exact (hat (by omega)).2.1) rfl rfl rfl ?_
                      refine wq_aload_n (pc := 120) dX5_restart_120 rfl rfl ?_
                      refine wq_getI (pc := 121) (kk := 10) dX5_restart_121 (gf_X5_104 _ rfl) (by first | with_reducible assumption | exact (hat (by omega)).2.1) rfl rfl rfl ?_
                      refine cS_2 (pc := 124) dX5_restart_124 (cw_X5_53 _ rfl) ⟨by decide, by decide⟩ (Nat.le_of_ble_eq_true rfl) (sp_J9_max (by unfold inR; omega) (by unfold inR; omega) ?_)
                      refine kr_s ?_
                      refine wq_iconst (pc := 127) dX5_restart_127 ?_
                      refine wq_iadd (pc := 128) dX5_restart_128 ?_
                      refine cS_2 (pc := 129) dX5_restart_129 (cw_X5_53 _ rfl) ⟨by decide, by decide⟩ (Nat.le_of_ble_eq_true rfl) (sp_J9_max (by unfold inR; omega) (by unfold inR; omega) ?_)
                      refine kr_s ?_
                      refine wq_putIK (pc := 132) (kk := 3) dX5_restart_132 hsT (gf_X5_27 _ rfl) rfl rfl rfl rfl rfl ?_
                      refine wq_iinc (pc := 135) (L' := [(2, _), (3, _), (0, _), (1, _)]) dX5_restart_135 rfl rfl (by decide) ?_
                      refine wq_goto (pc := 138) (tgt := 91) dX5_restart_138 (by decide) ?_
                      refine wq_sub1 (L' := [(0, _), (1, _), (2, _)]) ⟨rfl, rfl, rfl, trivial⟩ ?_
                      first
                        | (obtain ⟨T3, F3, K3⟩ := CT_nx (v := max (m 12 3) (max (m (nRow m k) 3) (m (nRow m k) 10) + 1)) e1
                           rw [tNext_t] at T3
                           have C3 := CF_FrT e2 e1.2.1 F3
                           have es : rsX F (tNx (rsC F (rsD F 129) 129)) (k + 1) = max (m 12 3) (max (m (nRow m k) 3) (m (nRow m k) 10) + 1) := by rw [rsX_s, if_pos hw, hx, ra 3 (by omega) (by omega), ra 10 (by omega) (by omega)]
                           refine ih (k + 1) _ _ (by omega) (by omega) (by omega) (by rw [es]; exact T3) C3 (FrT_trans e3 F3) (by rw [es]; omega))
                        | (have es : rsX F (tNx (rsC F (rsD F 129) 129)) (k + 1) = rsX F (tNx (rsC F (rsD F 129) 129)) k := by rw [rsX_s, if_neg hw]
                           exact ih (k + 1) m _ (by omega) (by omega) (by omega) (by rw [es]; exact e1) e2 e3 (by rw [es]; exact e4))
                    · skip
                      refine kr_s ?_
                      rw [ra 0 (by omega) (by omega), ra 1 (by omega) (by omega), ra 2 (by omega) (by omega)] at hw
                      refine wq_if_eq (pc := 108) (tgt := 135) dX5_restart_108 (by decide) (by first | (unfold inR; omega) | assumption) (fun _ => ?_) (fun c => absurd c (by decide))
                      refine wq_iinc (pc := 135) (L' := [(2, _), (3, _), (0, _), (1, _)]) dX5_restart_135 rfl rfl (by decide) ?_
                      refine wq_goto (pc := 138) (tgt := 91) dX5_restart_138 (by decide) ?_
                      refine wq_sub1 (L' := [(0, _), (1, _), (2, _)]) ⟨rfl, rfl, rfl, trivial⟩ ?_
                      first
                        | (obtain ⟨T3, F3, K3⟩ := CT_nx (v := max (m 12 3) (max (m (nRow m k) 3) (m (nRow m k) 10) + 1)) e1
                           rw [tNext_t] at T3
                           have C3 := CF_FrT e2 e1.2.1 F3
                           have es : rsX F (tNx (rsC F (rsD F 129) 129)) (k + 1) = max (m 12 3) (max (m (nRow m k) 3) (m (nRow m k) 10) + 1) := by rw [rsX_s, if_pos hw, hx, ra 3 (by omega) (by omega), ra 10 (by omega) (by omega)]
                           refine ih (k + 1) _ _ (by omega) (by omega) (by omega) (by rw [es]; exact T3) C3 (FrT_trans e3 F3) (by rw [es]; omega))
                        | (have es : rsX F (tNx (rsC F (rsD F 129) 129)) (k + 1) = rsX F (tNx (rsC F (rsD F 129) 129)) k := by rw [rsX_s, if_neg hw]
                           exact ih (k + 1) m _ (by omega) (by omega) (by omega) (by rw [es]; exact e1) e2 e3 (by rw [es]; exact e4))
              refine wq_sub1 (L' := [(0, _), (1, _), (2, _)]) ⟨rfl, rfl, rfl, trivial⟩ ?_
              exact loop6 129 0 m _ (by omega) (by omega) (by omega) T9 e2 e3 (by show 0 ≤ tNx _ ∧ tNx _ ≤ 100000; have := (hok.2 129 (by omega)).1; omega)
            · skip
              refine wq_aload_n (pc := 60) dX5_restart_60 rfl rfl ?_
              refine wq_iload_n (pc := 61) dX5_restart_61 rfl rfl ?_
              refine cVK_1 (pc := 62) dX5_restart_62 hsT (cw_X5_34 _ rfl) (by decide) rfl ⟨by decide, by decide⟩ (Nat.le_of_ble_eq_true rfl) (sq_X5_item e1 hB (by omega) ?_)
              refine kr_s ?_
              refine wq_astore_n (pc := 65) (L' := [(3, _), (0, _), (1, _), (2, _)]) dX5_restart_65 rfl rfl (by decide) ?_
              refine wq_aload_n (pc := 66) dX5_restart_66 rfl rfl ?_
              refine wq_ifnull (pc := 67) (tgt := 83) dX5_restart_67 (by decide)  (fun c12 => ?_) (fun c12 => ?_)
              · skip
                exfalso; exact (hat (by omega)).1 c12
              · skip
                refine wq_aload_n (pc := 70) dX5_restart_70 rfl rfl ?_
                refine wq_getI (pc := 71) (kk := 2) dX5_restart_71 (gf_X5_44 _ rfl) (by first | with_reducible assumption | exact (hat (by omega)).2.1) rfl rfl rfl ?_
                refine wq_if_ne (pc := 74) (tgt := 83) dX5_restart_74 (by decide) (by have q1 := (hat (by omega)).2.2; have q2 := (hB.2 _ (getD_mem (i := k) (l := tNl (rsC F (rsD F 129) k)) (by omega))).2.1; unfold inR; omega) (fun c13 => ?_) (fun c13 => ?_)
                · skip
                  have hdir : tFd (rsC F (rsD F 129) k) ((tNl (rsC F (rsD F 129) k)).getD k 0) 2 = 1 := by
                    have q1 := (hat (by omega)).2.2
                    have q2 := (hB.2 _ (getD_mem (i := k) (l := tNl (rsC F (rsD F 129) k)) (by omega))).2.1
                    omega
                  refine wq_iinc (pc := 83) (L' := [(2, _), (3, _), (0, _), (1, _)]) dX5_restart_83 rfl rfl (by decide) ?_
                  refine wq_goto (pc := 86) (tgt := 52) dX5_restart_86 (by decide) ?_
                  refine wq_sub1 (L' := [(0, _), (1, _), (2, _)]) ⟨rfl, rfl, rfl, trivial⟩ ?_
                  first
                    | (have es : rsC F (rsD F 129) (k + 1) = (rc F ((tNl (rsC F (rsD F 129) k)).getD k 0) (rsC F (rsD F 129) k) 128).2 := by rw [rsC_s]; exact rsCs_1 (by omega) hdir
                       exact ih (k + 1) m3 _ (by omega) (by omega) (by omega) (by rw [es]; exact T3) C3 (FrT_trans e3 F3) (by omega))
                    | (have es : rsC F (rsD F 129) (k + 1) = rsC F (rsD F 129) k := by rw [rsC_s]; exact rsCs_0 (fun _ => hdir)
                       exact ih (k + 1) m _ (by omega) (by omega) (by omega) (by rw [es]; exact e1) e2 e3 (by omega))
                · skip
                  have hdir : tFd (rsC F (rsD F 129) k) ((tNl (rsC F (rsD F 129) k)).getD k 0) 2 ≠ 1 := fun z => by have := (hat (by omega)).2.2; omega
                  have hit := hit0 (by omega)
                  have hnb := hnm (by omega)
                  refine wq_aload_n (pc := 77) dX5_restart_77 rfl rfl ?_
                  refine wq_aload_n (pc := 78) dX5_restart_78 rfl rfl ?_
                  refine wq_aload_n (pc := 79) dX5_restart_79 rfl rfl ?_
                  refine cVK_2 (pc := 80) dX5_restart_80 hsT (cw_X5_88 _ rfl) (by decide) rfl ⟨by decide, by decide⟩ (Nat.le_of_ble_eq_true rfl) (sp_X5_readContent e2 e1 hit hnb (fun m3 T3 C3 F3 K3 => ?_))
                  refine kr_v ?_
                  refine wq_iinc (pc := 83) (L' := [(2, _), (3, _), (0, _), (1, _)]) dX5_restart_83 rfl rfl (by decide) ?_
                  refine wq_goto (pc := 86) (tgt := 52) dX5_restart_86 (by decide) ?_
                  refine wq_sub1 (L' := [(0, _), (1, _), (2, _)]) ⟨rfl, rfl, rfl, trivial⟩ ?_
                  first
                    | (have es : rsC F (rsD F 129) (k + 1) = (rc F ((tNl (rsC F (rsD F 129) k)).getD k 0) (rsC F (rsD F 129) k) 128).2 := by rw [rsC_s]; exact rsCs_1 (by omega) hdir
                       exact ih (k + 1) m3 _ (by omega) (by omega) (by omega) (by rw [es]; exact T3) C3 (FrT_trans e3 F3) (by omega))
                    | (have es : rsC F (rsD F 129) (k + 1) = rsC F (rsD F 129) k := by rw [rsC_s]; exact rsCs_0 (fun _ => hdir)
                       exact ih (k + 1) m _ (by omega) (by omega) (by omega) (by rw [es]; exact e1) e2 e3 (by omega))
        refine wq_sub1 (L' := [(0, _), (1, _), (2, _)]) ⟨rfl, rfl, rfl, trivial⟩ ?_
        exact loop4 131 0 m _ (by omega) (by omega) (by omega) T9 e2 e3 (by omega)
      · skip
        refine wq_iload_n (pc := 14) dX5_restart_14 rfl rfl ?_
        refine wq_sipush (pc := 15) dX5_restart_15 (by decide) (by decide) ?_
        refine wq_icmp_ge (pc := 18) (tgt := 50) dX5_restart_18 (by decide) (by first | (unfold inR; omega) | assumption) (by first | (unfold inR; omega) | assumption) (fun c15 => ?_) (fun c15 => ?_)
        · skip
          have T9 : CT (rsC F (rsD F 129) 0) m e := by
            have hl1 := e1.2.2.2.1
            have := rsD_end (F := F) (k := k) (by omega) (129 - k)
            rw [show k + (129 - k) = 129 by omega] at this
            show CT (rsD F 129) m e
            rw [this]; exact e1
          refine wq_iconst (pc := 50) dX5_restart_50 ?_
          refine wq_istore_n (pc := 51) (L' := [(2, _), (0, _), (1, _)]) dX5_restart_51 rfl rfl (by decide) ?_
          have loop16 : ∀ (n k : Nat), ∀ (m : nMem) (i : Int), k ≤ 130 → 130 < k + n → i = (k : Int) → CT (rsC F (rsD F 129) k) m e → CF F m e → FrT μ ε m e → k ≤ 129 → wp mX5_restart 52 [(0, vR 12), (1, vR 2), (2, vI i)] [] m e Q := by
            intro n
            induction n with
            | zero => intro k m i hk1 hk2 e0 e1 e2 e3 e4; exact absurd hk2 (by omega)
            | succ n ih =>
              intro k m i hk1 hk2 e0 e1 e2 e3 e4
              subst e0
              have hs := e2.1
              have hr := e2.2.1
              have hsT := e1.1
              have hc := e1.2.2.2.2.1
              have hl := e1.2.2.2.1
              have hB := hok.2 k e4
              have hit0 : k < (tNl (rsC F (rsD F 129) k)).length → tAt (rsC F (rsD F 129) k) m (m 13 k) ((tNl (rsC F (rsD F 129) k)).getD k 0) := fun q => CT_it e1 q
              have hat : k < (tNl (rsC F (rsD F 129) k)).length → m 13 k ≠ 0 ∧ eKind e (m 13 k) = 2 ∧ m (m 13 k) 2 = tFd (rsC F (rsD F 129) k) ((tNl (rsC F (rsD F 129) k)).getD k 0) 2 := fun q => ⟨(tAt_sh e1 (hit0 q)).1, (tAt_sh e1 (hit0 q)).2.1.1, (tAt_is e1 (hit0 q)).2.1 2 (by omega) (by omega)⟩
              have hnm : k < (tNl (rsC F (rsD F 129) k)).length → 0 ≤ (tNl (rsC F (rsD F 129) k)).getD k 0 ∧ (tNl (rsC F (rsD F 129) k)).getD k 0 ≤ 100000 := fun q => (hB.2 _ (getD_mem q)).1
              refine wq_iload_n (pc := 52) dX5_restart_52 rfl rfl ?_
              refine wq_aload_n (pc := 53) dX5_restart_53 rfl rfl ?_
              refine wq_getIK (pc := 54) (kk := 2) dX5_restart_54 hsT (gf_X5_23 _ rfl) rfl rfl rfl rfl ?_
              refine wq_icmp_ge (pc := 57) (tgt := 89) dX5_restart_57 (by decide) (by first | (unfold inR; omega) | assumption) (by first | (unfold inR; omega) | assumption) (fun c17 => ?_) (fun c17 => ?_)
              · skip
                have T9 : CT (tNext (rsC F (rsD F 129) 129) (rsX F (tNx (rsC F (rsD F 129) 129)) 0)) m e := by
                  have hl1 := e1.2.2.2.1
                  have := rsC_end (F := F) (S := rsD F 129) (k := k) (by omega) (129 - k)
                  rw [show k + (129 - k) = 129 by omega] at this
                  rw [tNext_x, this]; exact e1
                refine wq_iconst (pc := 89) dX5_restart_89 ?_
                refine wq_istore_n (pc := 90) (L' := [(2, _), (0, _), (1, _)]) dX5_restart_90 rfl rfl (by decide) ?_
                have loop18 : ∀ (n k : Nat), ∀ (m : nMem) (i : Int), k ≤ 128 → 128 < k + n → i = (k : Int) → CT (tNext (rsC F (rsD F 129) 129) (rsX F (tNx (rsC F (rsD F 129) 129)) k)) m e → CF F m e → FrT μ ε m e → 0 ≤ rsX F (tNx (rsC F (rsD F 129) 129)) k ∧ rsX F (tNx (rsC F (rsD F 129) 129)) k ≤ 100000 → wp mX5_restart 91 [(0, vR 12), (1, vR 2), (2, vI i)] [] m e Q := by
                  intro n
                  induction n with
                  | zero => intro k m i hk1 hk2 e0 e1 e2 e3 e4; exact absurd hk2 (by omega)
                  | succ n ih =>
                    intro k m i hk1 hk2 e0 e1 e2 e3 e4
                    subst e0
                    have hs := e2.1
                    have hr := e2.2.1
                    have hsT := e1.1
                    have hx : m 12 3 = rsX F (tNx (rsC F (rsD F 129) 129)) k := e1.2.2.2.2.2.1
                    refine wq_iload_n (pc := 91) dX5_restart_91 rfl rfl ?_
                    refine wq_sipush (pc := 92) dX5_restart_92 (by decide) (by decide) ?_
                    refine wq_icmp_ge (pc := 95) (tgt := 141) dX5_restart_95 (by decide) (by first | (unfold inR; omega) | assumption) (by first | (unfold inR; omega) | assumption) (fun c19 => ?_) (fun c19 => ?_)
                    · skip
                      refine wq_vret (pc := 141) dX5_restart_141 rfl ?_
                      have ek : k = 128 := by omega
                      subst ek
                      exact h _ _ e1 e2 e3
                    · skip
                      refine wq_aload_n (pc := 98) dX5_restart_98 rfl rfl ?_
                      refine wq_iload_n (pc := 99) dX5_restart_99 rfl rfl ?_
                      refine cVK_1 (pc := 100) dX5_restart_100 hs (cw_X5_91 _ rfl) (by decide) rfl ⟨by decide, by decide⟩ (Nat.le_of_ble_eq_true rfl) (sp_X0_row hs (by unfold inR; omega) ?_)
                      refine kr_s ?_
                      have hkn := nRow_kd hs hr k
                      have hnb := nRow_nB hr k
                      obtain ⟨ra, -⟩ := CF_row e2 (i := (k : Int)) (by omega) (by omega)
                      refine wq_astore_n (pc := 103) (L' := [(3, _), (0, _), (1, _), (2, _)]) dX5_restart_103 rfl rfl (by decide) ?_
                      refine wq_aload_n (pc := 104) dX5_restart_104 rfl rfl ?_
                      refine cV_0 (pc := 105) dX5_restart_105 (cw_X5_97 _ rfl) (by decide) (by first | with_reducible assumption | exact (hat (by omega)).2.1) ⟨by decide, by decide⟩ (Nat.le_of_ble_eq_true rfl) (sp_X4_isWhole hkn hnb (fun hw => ?_) (fun hw => ?_))
                      · skip
                        refine kr_s ?_
                        rw [ra 0 (by omega) (by omega), ra 1 (by omega) (by omega), ra 2 (by omega) (by omega)] at hw
                        obtain ⟨n0, n1, n2, n3, n4, n5, n6, n9, n10, n11, n12, n13⟩ := id hnb
                        refine wq_if_eq (pc := 108) (tgt := 135) dX5_restart_108 (by decide) (by first | (unfold inR; omega) | assumption) (fun c => absurd c (by decide)) (fun _ => ?_)
                        refine wq_aload_n (pc := 111) dX5_restart_111 rfl rfl ?_
                        refine wq_aload_n (pc := 112) dX5_restart_112 rfl rfl ?_
                        refine wq_getIK (pc := 113) (kk := 3) dX5_restart_113 hsT (gf_X5_27 _ rfl) rfl rfl rfl rfl ?_
                        refine wq_aload_n (pc := 116) dX5_restart_116 rfl rfl ?_
                        refine wq_getI (pc := 117) (kk := 3) dX5_restart_117 (gf_X5_103 _ rfl) (by first | with_reducible assumption | exact (hat (by omega)).2.1) rfl rfl rfl ?_
                        refine wq_aload_n (pc := 120) dX5_restart_120 rfl rfl ?_
                        refine wq_getI (pc := 121) (kk := 10) dX5_restart_121 (gf_X5_104 _ rfl) (by first | with_reducible assumption | exact (hat (by omega)).2.1) rfl rfl rfl ?_
                        refine cS_2 (pc := 124) dX5_restart_124 (cw_X5_53 _ rfl) ⟨by decide, by decide⟩ (Nat.le_of_ble_eq_true rfl) (sp_J9_max (by unfold inR; omega) (by unfold inR; omega) ?_)
                        refine kr_s ?_
                        refine wq_iconst (pc := 127) dX5_restart_127 ?_
                        refine wq_iadd (pc := 128) dX5_restart_128 ?_
                        refine cS_2 (pc := 129) dX5_restart_129 (cw_X5_53 _ rfl) ⟨by decide, by decide⟩ (Nat.le_of_ble_eq_true rfl) (sp_J9_max (by unfold inR; omega) (by unfold inR; omega) ?_)
                        refine kr_s ?_
                        refine wq_putIK (pc := 132) (kk := 3) dX5_restart_132 hsT (gf_X5_27 _ rfl) rfl rfl rfl rfl rfl ?_
                        refine wq_iinc (pc := 135) (L' := [(2, _), (3, _), (0, _), (1, _)]) dX5_restart_135 rfl rfl (by decide) ?_
                        refine wq_goto (pc := 138) (tgt := 91) dX5_restart_138 (by decide) ?_
                        refine wq_sub1 (L' := [(0, _), (1, _), (2, _)]) ⟨rfl, rfl, rfl, trivial⟩ ?_
                        first
                          | (obtain ⟨T3, F3, K3⟩ := CT_nx (v := max (m 12 3) (max (m (nRow m k) 3) (m (nRow m k) 10) + 1)) e1
                             rw [tNext_t] at T3
                             have C3 := CF_FrT e2 e1.2.1 F3
                             have es : rsX F (tNx (rsC F (rsD F 129) 129)) (k + 1) = max (m 12 3) (max (m (nRow m k) 3) (m (nRow m k) 10) + 1) := by rw [rsX_s, if_pos hw, hx, ra 3 (by omega) (by omega), ra 10 (by omega) (by omega)]
                             refine ih (k + 1) _ _ (by omega) (by omega) (by omega) (by rw [es]; exact T3) C3 (FrT_trans e3 F3) (by rw [es]; omega))
                          | (have es : rsX F (tNx (rsC F (rsD F 129) 129)) (k + 1) = rsX F (tNx (rsC F (rsD F 129) 129)) k := by rw [rsX_s, if_neg hw]
                             exact ih (k + 1) m _ (by omega) (by omega) (by omega) (by rw [es]; exact e1) e2 e3 (by rw [es]; exact e4))
                      · skip
                        refine kr_s ?_
                        rw [ra 0 (by omega) (by omega), ra 1 (by omega) (by omega), ra 2 (by omega) (by omega)] at hw
                        refine wq_if_eq (pc := 108) (tgt := 135) dX5_restart_108 (by decide) (by first | (unfold inR; omega) | assumption) (fun _ => ?_) (fun c => absurd c (by decide))
                        refine wq_iinc (pc := 135) (L' := [(2, _), (3, _), (0, _), (1, _)]) dX5_restart_135 rfl rfl (by decide) ?_
                        refine wq_goto (pc := 138) (tgt := 91) dX5_restart_138 (by decide) ?_
                        refine wq_sub1 (L' := [(0, _), (1, _), (2, _)]) ⟨rfl, rfl, rfl, trivial⟩ ?_
                        first
                          | (obtain ⟨T3, F3, K3⟩ := CT_nx (v := max (m 12 3) (max (m (nRow m k) 3) (m (nRow m k) 10) + 1)) e1
                             rw [tNext_t] at T3
                             have C3 := CF_FrT e2 e1.2.1 F3
                             have es : rsX F (tNx (rsC F (rsD F 129) 129)) (k + 1) = max (m 12 3) (max (m (nRow m k) 3) (m (nRow m k) 10) + 1) := by rw [rsX_s, if_pos hw, hx, ra 3 (by omega) (by omega), ra 10 (by omega) (by omega)]
                             refine ih (k + 1) _ _ (by omega) (by omega) (by omega) (by rw [es]; exact T3) C3 (FrT_trans e3 F3) (by rw [es]; omega))
                          | (have es : rsX F (tNx (rsC F (rsD F 129) 129)) (k + 1) = rsX F (tNx (rsC F (rsD F 129) 129)) k := by rw [rsX_s, if_neg hw]
                             exact ih (k + 1) m _ (by omega) (by omega) (by omega) (by rw [es]; exact e1) e2 e3 (by rw [es]; exact e4))
                refine wq_sub1 (L' := [(0, _), (1, _), (2, _)]) ⟨rfl, rfl, rfl, trivial⟩ ?_
                exact loop18 129 0 m _ (by omega) (by omega) (by omega) T9 e2 e3 (by show 0 ≤ tNx _ ∧ tNx _ ≤ 100000; have := (hok.2 129 (by omega)).1; omega)
              · skip
                refine wq_aload_n (pc := 60) dX5_restart_60 rfl rfl ?_
                refine wq_iload_n (pc := 61) dX5_restart_61 rfl rfl ?_
                refine cVK_1 (pc := 62) dX5_restart_62 hsT (cw_X5_34 _ rfl) (by decide) rfl ⟨by decide, by decide⟩ (Nat.le_of_ble_eq_true rfl) (sq_X5_item e1 hB (by omega) ?_)
                refine kr_s ?_
                refine wq_astore_n (pc := 65) (L' := [(3, _), (0, _), (1, _), (2, _)]) dX5_restart_65 rfl rfl (by decide) ?_
                refine wq_aload_n (pc := 66) dX5_restart_66 rfl rfl ?_
                refine wq_ifnull (pc := 67) (tgt := 83) dX5_restart_67 (by decide)  (fun c24 => ?_) (fun c24 => ?_)
                · skip
                  exfalso; exact (hat (by omega)).1 c24
                · skip
                  refine wq_aload_n (pc := 70) dX5_restart_70 rfl rfl ?_
                  refine wq_getI (pc := 71) (kk := 2) dX5_restart_71 (gf_X5_44 _ rfl) (by first | with_reducible assumption | exact (hat (by omega)).2.1) rfl rfl rfl ?_
                  refine wq_if_ne (pc := 74) (tgt := 83) dX5_restart_74 (by decide) (by have q1 := (hat (by omega)).2.2; have q2 := (hB.2 _ (getD_mem (i := k) (l := tNl (rsC F (rsD F 129) k)) (by omega))).2.1; unfold inR; omega) (fun c25 => ?_) (fun c25 => ?_)
                  · skip
                    have hdir : tFd (rsC F (rsD F 129) k) ((tNl (rsC F (rsD F 129) k)).getD k 0) 2 = 1 := by
                      have q1 := (hat (by omega)).2.2
                      have q2 := (hB.2 _ (getD_mem (i := k) (l := tNl (rsC F (rsD F 129) k)) (by omega))).2.1
                      omega
                    refine wq_iinc (pc := 83) (L' := [(2, _), (3, _), (0, _), (1, _)]) dX5_restart_83 rfl rfl (by decide) ?_
                    refine wq_goto (pc := 86) (tgt := 52) dX5_restart_86 (by decide) ?_
                    refine wq_sub1 (L' := [(0, _), (1, _), (2, _)]) ⟨rfl, rfl, rfl, trivial⟩ ?_
                    first
                      | (have es : rsC F (rsD F 129) (k + 1) = (rc F ((tNl (rsC F (rsD F 129) k)).getD k 0) (rsC F (rsD F 129) k) 128).2 := by rw [rsC_s]; exact rsCs_1 (by omega) hdir
                         exact ih (k + 1) m3 _ (by omega) (by omega) (by omega) (by rw [es]; exact T3) C3 (FrT_trans e3 F3) (by omega))
                      | (have es : rsC F (rsD F 129) (k + 1) = rsC F (rsD F 129) k := by rw [rsC_s]; exact rsCs_0 (fun _ => hdir)
                         exact ih (k + 1) m _ (by omega) (by omega) (by omega) (by rw [es]; exact e1) e2 e3 (by omega))
                  · skip
                    have hdir : tFd (rsC F (rsD F 129) k) ((tNl (rsC F (rsD F 129) k)).getD k 0) 2 ≠ 1 := fun z => by have := (hat (by omega)).2.2; omega
                    have hit := hit0 (by omega)
                    have hnb := hnm (by omega)
                    refine wq_aload_n (pc := 77) dX5_restart_77 rfl rfl ?_
                    refine wq_aload_n (pc := 78) dX5_restart_78 rfl rfl ?_
                    refine wq_aload_n (pc := 79) dX5_restart_79 rfl rfl ?_
                    refine cVK_2 (pc := 80) dX5_restart_80 hsT (cw_X5_88 _ rfl) (by decide) rfl ⟨by decide, by decide⟩ (Nat.le_of_ble_eq_true rfl) (sp_X5_readContent e2 e1 hit hnb (fun m3 T3 C3 F3 K3 => ?_))
                    refine kr_v ?_
                    refine wq_iinc (pc := 83) (L' := [(2, _), (3, _), (0, _), (1, _)]) dX5_restart_83 rfl rfl (by decide) ?_
                    refine wq_goto (pc := 86) (tgt := 52) dX5_restart_86 (by decide) ?_
                    refine wq_sub1 (L' := [(0, _), (1, _), (2, _)]) ⟨rfl, rfl, rfl, trivial⟩ ?_
                    first
                      | (have es : rsC F (rsD F 129) (k + 1) = (rc F ((tNl (rsC F (rsD F 129) k)).getD k 0) (rsC F (rsD F 129) k) 128).2 := by rw [rsC_s]; exact rsCs_1 (by omega) hdir
                         exact ih (k + 1) m3 _ (by omega) (by omega) (by omega) (by rw [es]; exact T3) C3 (FrT_trans e3 F3) (by omega))
                      | (have es : rsC F (rsD F 129) (k + 1) = rsC F (rsD F 129) k := by rw [rsC_s]; exact rsCs_0 (fun _ => hdir)
                         exact ih (k + 1) m _ (by omega) (by omega) (by omega) (by rw [es]; exact e1) e2 e3 (by omega))
          refine wq_sub1 (L' := [(0, _), (1, _), (2, _)]) ⟨rfl, rfl, rfl, trivial⟩ ?_
          exact loop16 131 0 m _ (by omega) (by omega) (by omega) T9 e2 e3 (by omega)
        · skip
          refine wq_aload_n (pc := 21) dX5_restart_21 rfl rfl ?_
          refine wq_iload_n (pc := 22) dX5_restart_22 rfl rfl ?_
          refine cVK_1 (pc := 23) dX5_restart_23 hsT (cw_X5_34 _ rfl) (by decide) rfl ⟨by decide, by decide⟩ (Nat.le_of_ble_eq_true rfl) (sq_X5_item e1 hB (by omega) ?_)
          refine kr_s ?_
          refine wq_astore_n (pc := 26) (L' := [(3, _), (0, _), (1, _), (2, _)]) dX5_restart_26 rfl rfl (by decide) ?_
          refine wq_aload_n (pc := 27) dX5_restart_27 rfl rfl ?_
          refine wq_ifnull (pc := 28) (tgt := 44) dX5_restart_28 (by decide)  (fun c27 => ?_) (fun c27 => ?_)
          · skip
            exfalso; exact (hat (by omega)).1 c27
          · skip
            refine wq_aload_n (pc := 31) dX5_restart_31 rfl rfl ?_
            refine wq_getI (pc := 32) (kk := 2) dX5_restart_32 (gf_X5_44 _ rfl) (by first | with_reducible assumption | exact (hat (by omega)).2.1) rfl rfl rfl ?_
            refine wq_if_eq (pc := 35) (tgt := 44) dX5_restart_35 (by decide) (by have q1 := (hat (by omega)).2.2; have q2 := (hB.2 _ (getD_mem (i := k) (l := tNl (rsD F k)) (by omega))).2.1; unfold inR; omega) (fun c28 => ?_) (fun c28 => ?_)
            · skip
              have hdir : tFd (rsD F k) ((tNl (rsD F k)).getD k 0) 2 ≠ 1 := fun z => by have := (hat (by omega)).2.2; omega
              refine wq_iinc (pc := 44) (L' := [(2, _), (3, _), (0, _), (1, _)]) dX5_restart_44 rfl rfl (by decide) ?_
              refine wq_goto (pc := 47) (tgt := 6) dX5_restart_47 (by decide) ?_
              refine wq_sub1 (L' := [(0, _), (1, _), (2, _)]) ⟨rfl, rfl, rfl, trivial⟩ ?_
              first
                | (have es : rsD F (k + 1) = rn F ((tNl (rsD F k)).getD k 0) (rsD F k) 128 := by rw [rsD_s]; exact rsDs_1 (by omega) hdir
                   exact ih (k + 1) m3 ee3 _ (by omega) (by omega) (by omega) (by rw [es]; exact T3) C3 (FrT_trans e3 F3) (by omega))
                | (have es : rsD F (k + 1) = rsD F k := by rw [rsD_s]; exact rsDs_0 (fun _ => hdir)
                   exact ih (k + 1) m e _ (by omega) (by omega) (by omega) (by rw [es]; exact e1) e2 e3 (by omega))
            · skip
              have hdir : tFd (rsD F k) ((tNl (rsD F k)).getD k 0) 2 = 1 := by
                have q1 := (hat (by omega)).2.2
                have q2 := (hB.2 _ (getD_mem (i := k) (l := tNl (rsD F k)) (by omega))).2.1
                omega
              have hit := hit0 (by omega)
              have hnb := hnm (by omega)
              have hro := hrn (by omega) hdir
              refine wq_aload_n (pc := 38) dX5_restart_38 rfl rfl ?_
              refine wq_aload_n (pc := 39) dX5_restart_39 rfl rfl ?_
              refine wq_aload_n (pc := 40) dX5_restart_40 rfl rfl ?_
              refine cVK_2 (pc := 41) dX5_restart_41 hsT (cw_X5_84 _ rfl) (by decide) rfl ⟨by decide, by decide⟩ (Nat.le_of_ble_eq_true rfl) (sp_X5_readNames e2 e1 hit hnb (by rw [(e3.2.1 25 h56).1]; exact h56) (e3.2.2.2.2 t hcap) hro (fun m3 ee3 T3 C3 F3 K3 => ?_))
              refine kr_v ?_
              refine wq_iinc (pc := 44) (L' := [(2, _), (3, _), (0, _), (1, _)]) dX5_restart_44 rfl rfl (by decide) ?_
              refine wq_goto (pc := 47) (tgt := 6) dX5_restart_47 (by decide) ?_
              refine wq_sub1 (L' := [(0, _), (1, _), (2, _)]) ⟨rfl, rfl, rfl, trivial⟩ ?_
              first
                | (have es : rsD F (k + 1) = rn F ((tNl (rsD F k)).getD k 0) (rsD F k) 128 := by rw [rsD_s]; exact rsDs_1 (by omega) hdir
                   exact ih (k + 1) m3 ee3 _ (by omega) (by omega) (by omega) (by rw [es]; exact T3) C3 (FrT_trans e3 F3) (by omega))
                | (have es : rsD F (k + 1) = rsD F k := by rw [rsD_s]; exact rsDs_0 (fun _ => hdir)
                   exact ih (k + 1) m e _ (by omega) (by omega) (by omega) (by rw [es]; exact e1) e2 e3 (by omega))
  refine wq_sub1 (L' := [(0, _), (1, _), (2, _)]) ⟨rfl, rfl, rfl, trivial⟩ ?_
  exact loop2 131 0 m1 e1 _ (by omega) (by omega) (by omega) T1 C1 F1 (by omega)
