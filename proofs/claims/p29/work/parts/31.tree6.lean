/-- what stands when a new number's item is at hand -/
def adF (S : Tr) (μ : nMem) (ε : nEnv) (m0 : nMem) (e0 : nEnv) (a : Int) : Prop :=
  (∀ x, (eKind ε x ≠ 0 ∨ x = -1) → ∀ j, m0 x j = μ x j) ∧ (∀ x, eKind ε x ≠ 0 → eKind e0 x = eKind ε x ∧ eLen e0 x = eLen ε x ∧ ∀ k, eFin e0 x k = eFin ε x k) ∧ eLen e0 (-1) = eLen ε (-1) ∧ isItm e0 a ∧ (a = 15 ∨ 25 < a) ∧ (eFin e0 a 0 = 16 ∨ 25 < eFin e0 a 0) ∧ (a = μ 13 ((tNl S).length : Int) ∨ (eKind ε a = 0 ∧ eKind ε (eFin e0 a 0) = 0)) ∧ (∀ t, Cap μ ε t → Cap (wr m0 13 ((tNl S).length : Int) a) e0 t)
theorem adF_old {S : Tr} {μ : nMem} {ε : nEnv} (hT : CT S μ ε) (hl : (tNl S).length < 129) (h0 : μ 13 ((tNl S).length : Int) ≠ 0) : adF S μ ε μ ε (μ 13 ((tNl S).length : Int)) := by
  obtain ⟨s1, s2, s3⟩ := hT.2.1.1 _ (by omega) (by omega) h0
  refine ⟨fun _ _ _ => rfl, fun _ _ => ⟨rfl, rfl, fun _ => rfl⟩, rfl, s1, s2, s3, Or.inl rfl, fun t ht => Cap_congr ht (fun i => wr_n _ _ (by omega)) (fun i => ?_) rfl rfl⟩
  by_cases e : i = ((tNl S).length : Int)
  · rw [e, wr_s]
  · exact wr_n _ _ (fun q => e q.2)
theorem adF_new {S : Tr} {μ : nMem} {ε : nEnv} (hT : CT S μ ε) (hl : (tNl S).length < 129) (hok : eOK ε) (h56 : eKind ε 25 ≠ 0 ∨ eSz ε = 14) (h0 : μ 13 ((tNl S).length : Int) = 0) :
    adF S μ ε (zr (zr μ ((eSz ε : Int) + 1)) ((eSz (alF ε 2 0 8) : Int) + 1)) (eItm (alF ε 2 0 8) ((eSz ε : Int) + 1)) ((eSz ε : Int) + 1) := by
  have h57 : 25 ≤ eSz ε ∨ eSz ε = 14 := h56.imp (fun h => by have := (hok.1 25 h).2; omega) id
  have e1 : eSz (alF ε 2 0 8) = eSz ε + 1 := rfl
  have k0 : ∀ x, eKind ε x ≠ 0 ∨ x = -1 → x ≠ (eSz ε : Int) + 1 ∧ x ≠ (eSz ε : Int) + 1 + 1 := fun x hx => by
    rcases hx with h | h
    · have := (hok.1 x h).2; omega
    · omega
  have fa : eFin (eItm (alF ε 2 0 8) ((eSz ε : Int) + 1)) ((eSz ε : Int) + 1) 0 = (eSz ε : Int) + 1 + 1 := by
    show wr _ _ _ _ _ _ = _
    rw [wr_s, e1]; omega
  have kz : ∀ x, (eSz ε : Int) < x → eKind ε x = 0 := fun x hx => by
    by_cases h : eKind ε x = 0
    · exact h
    · have := (hok.1 x h).2; omega
  refine ⟨fun x hx j => ?_, fun x hx => ⟨?_, ?_, fun k => ?_⟩, ?_, ⟨?_, ?_, ?_⟩, by omega, by rw [fa]; omega, Or.inr ⟨kz _ (by omega), by rw [fa]; exact kz _ (by omega)⟩, fun t ht => ?_⟩
  · obtain ⟨x1, x2⟩ := k0 x hx
    show (if x = _ then (0 : Int) else if x = _ then 0 else μ x j) = _
    rw [e1, if_neg (by omega), if_neg x1]
  · obtain ⟨x1, x2⟩ := k0 x (Or.inl hx)
    show (if x = (((eSz ε + 1 : Nat)) : Int) + 1 then 11 else if x = (eSz ε : Int) + 1 then 2 else eKind ε x) = _
    rw [if_neg (by omega), if_neg x1]
  · obtain ⟨x1, x2⟩ := k0 x (Or.inl hx)
    show (if x = (((eSz ε + 1 : Nat)) : Int) + 1 then (100 : Int) else if x = (eSz ε : Int) + 1 then 0 else eLen ε x) = _
    rw [if_neg (by omega), if_neg x1]
  · obtain ⟨x1, x2⟩ := k0 x (Or.inl hx)
    show wr (fun a j => if a = (((eSz ε + 1 : Nat)) : Int) + 1 then (0 : Int) else if a = (eSz ε : Int) + 1 then 0 else eFin ε a j) _ _ _ x k = _
    rw [wr_n _ _ (fun q => x1 q.1)]
    show (if x = (((eSz ε + 1 : Nat)) : Int) + 1 then (0 : Int) else if x = (eSz ε : Int) + 1 then 0 else eFin ε x k) = _
    rw [if_neg (by omega), if_neg x1]
  · show (if (-1 : Int) = (((eSz ε + 1 : Nat)) : Int) + 1 then (100 : Int) else if (-1 : Int) = (eSz ε : Int) + 1 then 0 else eLen ε (-1)) = _
    rw [if_neg (by omega), if_neg (by omega)]
  · show (if (eSz ε : Int) + 1 = (((eSz ε + 1 : Nat)) : Int) + 1 then 11 else if (eSz ε : Int) + 1 = (eSz ε : Int) + 1 then 2 else eKind ε _) = 2
    rw [if_neg (by omega), if_pos rfl]
  · rw [fa]
    show (if (eSz ε : Int) + 1 + 1 = (((eSz ε + 1 : Nat)) : Int) + 1 then 11 else if (eSz ε : Int) + 1 + 1 = (eSz ε : Int) + 1 then 2 else eKind ε _) = 11
    rw [if_pos (by omega)]
  · rw [fa]
    show (if (eSz ε : Int) + 1 + 1 = (((eSz ε + 1 : Nat)) : Int) + 1 then (100 : Int) else if (eSz ε : Int) + 1 + 1 = (eSz ε : Int) + 1 then 0 else eLen ε _) = 100
    rw [if_pos (by omega)]
  · have q3 : ∀ i, wr (zr (zr μ ((eSz ε : Int) + 1)) ((eSz (alF ε 2 0 8) : Int) + 1)) 13 ((tNl S).length : Int) ((eSz ε : Int) + 1) 3 i = μ 3 i := fun i => by
      rw [wr_n _ _ (by omega)]
      show (if (3 : Int) = _ then (0 : Int) else if (3 : Int) = _ then 0 else μ 3 i) = _
      rw [e1, if_neg (by omega), if_neg (by omega)]
    have q13 : ∀ i, i ≠ ((tNl S).length : Int) → wr (zr (zr μ ((eSz ε : Int) + 1)) ((eSz (alF ε 2 0 8) : Int) + 1)) 13 ((tNl S).length : Int) ((eSz ε : Int) + 1) 13 i = μ 13 i := fun i hi => by
      rw [wr_n _ _ (fun q => hi q.2)]
      show (if (13 : Int) = _ then (0 : Int) else if (13 : Int) = _ then 0 else μ 13 i) = _
      rw [e1, if_neg (by omega), if_neg (by omega)]
    have hn := nul_set (f := μ 13) (g := wr (zr (zr μ ((eSz ε : Int) + 1)) ((eSz (alF ε 2 0 8) : Int) + 1)) 13 ((tNl S).length : Int) ((eSz ε : Int) + 1) 13) (i := ((tNl S).length : Int)) 129 (by omega) (by omega) h0 (by rw [wr_s]; omega) q13
    unfold Cap at ht ⊢
    rw [nul_congr (f := wr _ _ _ _ 3) (g := μ 3) 128 (fun i _ _ => q3 i)]
    have s1 : eSz (eItm (alF ε 2 0 8) ((eSz ε : Int) + 1)) = eSz ε + 1 + 1 := rfl
    have s2 : eSl (eItm (alF ε 2 0 8) ((eSz ε : Int) + 1)) = eSl ε + 8 + 100 := rfl
    omega
theorem wr_n7 {μ : nMem} {a k v j x : Int} (h : x ≠ a) : wr μ a k v x j = μ x j := wr_n _ _ (fun q => h q.1)
theorem wr_n8 {μ : nMem} {a k v j x : Int} (h : j ≠ k) : wr μ a k v x j = μ x j := wr_n _ _ (fun q => h q.2)
theorem adM {m : nMem} {a n d c l : Int} (ha : a = 15 ∨ 25 < a) : (∀ x j, x ≠ a → x ≠ 12 → x ≠ 13 → mItm (wr (wr m 13 c a) 12 2 l) a n d x j = m x j) ∧ mItm (wr (wr m 13 c a) 12 2 l) a n d 12 2 = l ∧ mItm (wr (wr m 13 c a) 12 2 l) a n d 12 3 = m 12 3 ∧ (∀ j, mItm (wr (wr m 13 c a) 12 2 l) a n d 13 j = if j = c then a else m 13 j) ∧ mItm (wr (wr m 13 c a) 12 2 l) a n d a 1 = n ∧ mItm (wr (wr m 13 c a) 12 2 l) a n d a 2 = d ∧ ∀ k, 3 ≤ k → k ≤ 6 → mItm (wr (wr m 13 c a) 12 2 l) a n d a k = 0 := by
  have h12 : (12 : Int) ≠ a := by omega
  have h13 : (13 : Int) ≠ a := by omega
  unfold mItm
  refine ⟨fun x j x1 x2 x3 => ?_, ?_, ?_, fun j => ?_, ?_, ?_, fun k k0 k1 => ?_⟩
  · simp only [wr_n7 x1, wr_n7 x2, wr_n7 x3]
  · simp only [wr_n7 h12, wr_s]
  · simp only [wr_n7 h12]
    rw [wr_n _ _ (by omega), wr_n _ _ (by omega)]
  · simp only [wr_n7 h13]
    rw [wr_n _ _ (by omega)]
    by_cases e : j = c
    · rw [if_pos e, e, wr_s]
    · rw [if_neg e, wr_n _ _ (fun q => e q.2)]
  · rw [wr_n _ _ (by omega), wr_n _ _ (by omega), wr_n _ _ (by omega), wr_n _ _ (by omega), wr_n _ _ (by omega), wr_s]
  · rw [wr_n _ _ (by omega), wr_n _ _ (by omega), wr_n _ _ (by omega), wr_n _ _ (by omega), wr_s]
  · have hk : k = 3 ∨ k = 4 ∨ k = 5 ∨ k = 6 := by omega
    rcases hk with e | e | e | e <;> subst e
    · rw [wr_n _ _ (by omega), wr_n _ _ (by omega), wr_n _ _ (by omega), wr_s]
    · rw [wr_n _ _ (by omega), wr_n _ _ (by omega), wr_s]
    · rw [wr_n _ _ (by omega), wr_s]
    · exact wr_s _ _ _ _
theorem sp_X5_add {μ : nMem} {ε : nEnv} {Q : nOut → nMem → nEnv → Prop} {S : Tr} {nn dd : Int} (hT : CT S μ ε) (hB : 0 ≤ tNx S ∧ tNx S ≤ 100000) (hn : nn ∉ tNl S) (hnr : 0 ≤ nn ∧ nn ≤ 100000) (hl : (tNl S).length < 129) (hd : dd = 0 ∨ dd = 1) (h56 : eKind ε 25 ≠ 0 ∨ eSz ε = 14) {t : Nat} (hcap : Cap μ ε t) (h : ∀ μ9 ε9 a, CT (tAdd S nn dd) μ9 ε9 → FrT μ ε μ9 ε9 → tAt (tAdd S nn dd) μ9 a nn → (∀ b q, tAt S μ b q → tAt (tAdd S nn dd) μ9 b q) → Q (.inl (some (vR a))) μ9 ε9) : Sp mX5_add [vR 12, vI nn, vI dd] μ ε Q := by
  refine Sp_of (L := [(0, vR 12), (1, vI nn), (2, vI dd)]) (by decide) rfl rfl (Nat.le_of_ble_eq_true rfl) ?_
  refine wq_env (fun hok => ?_)
  have hs := hT.1
  have hc := hT.2.2.2.2.1
  have k12 : eKind ε 12 ≠ 0 := by rw [(hs 12 6 0 [13, 14, 0, 0] rfl (by decide)).1]; decide
  refine wq_aload_n (pc := 0) dX5_add_0 rfl rfl ?_
  refine wq_getIK (pc := 1) (kk := 2) dX5_add_1 hs (gf_X5_23 _ rfl) rfl rfl rfl rfl ?_
  refine wq_if_lt (pc := 4) (tgt := 29) dX5_add_4 (by decide) (by first | (unfold inR; omega) | assumption) (fun c1 => ?_) (fun c1 => ?_)
  · skip
    exfalso; omega
  · skip
    refine wq_aload_n (pc := 7) dX5_add_7 rfl rfl ?_
    refine wq_getIK (pc := 8) (kk := 2) dX5_add_8 hs (gf_X5_23 _ rfl) rfl rfl rfl rfl ?_
    refine wq_sipush (pc := 11) dX5_add_11 (by decide) (by decide) ?_
    refine wq_icmp_ge (pc := 14) (tgt := 29) dX5_add_14 (by decide) (by first | (unfold inR; omega) | assumption) (by first | (unfold inR; omega) | assumption) (fun c2 => ?_) (fun c2 => ?_)
    · skip
      exfalso; omega
    · skip
      refine wq_aload_n (pc := 17) dX5_add_17 rfl rfl ?_
      refine wq_getS (pc := 18) dX5_add_18 hs (gf_X5_13 _ rfl) rfl rfl rfl rfl rfl ?_
      refine wq_aload_n (pc := 21) dX5_add_21 rfl rfl ?_
      refine wq_getIK (pc := 22) (kk := 2) dX5_add_22 hs (gf_X5_23 _ rfl) rfl rfl rfl rfl ?_
      refine wq_aaldIK (pc := 25) dX5_add_25 hs rfl (by omega) (by omega) ?_
      refine wq_goto (pc := 26) (tgt := 30) dX5_add_26 (by decide) ?_
      refine wq_astore_n (pc := 30) (L' := [(3, _), (0, _), (1, _), (2, _)]) dX5_add_30 rfl rfl (by decide) ?_
      refine wq_aload_n (pc := 31) dX5_add_31 rfl rfl ?_
      refine wq_ifnonnull (pc := 32) (tgt := 43) dX5_add_32 (by decide)  (fun c3 => ?_) (fun c3 => ?_)
      · skip
        have h00 : μ 13 ((tNl S).length : Int) ≠ 0 := by rw [← hc]; exact c3
        have F := adF_old hT hl h00
        rw [hc]
        generalize μ 13 ((tNl S).length : Int) = a0 at F ⊢
        obtain ⟨f1, f2, f3, f4, f5, f6, f7, f8⟩ := F
        have hkk := f4.1
        have hs := SkP_ext hT.1 f2
        have q2 := (f1 12 (Or.inl k12) 2).trans hc
        have q3 := (f1 12 (Or.inl k12) 3).trans hT.2.2.2.2.2.1
        have n12 : (12 : Int) ≠ a0 := by omega
        refine wq_aload_n (pc := 43) dX5_add_43 rfl rfl ?_
        refine wq_getIK (pc := 44) (kk := 2) dX5_add_44 hs (gf_X5_23 _ rfl) rfl rfl rfl rfl ?_
        refine wq_if_lt (pc := 47) (tgt := 80) dX5_add_47 (by decide) (by first | (unfold inR; omega) | assumption) (fun c4 => ?_) (fun c4 => ?_)
        · skip
          exfalso; omega
        · skip
          refine wq_aload_n (pc := 50) dX5_add_50 rfl rfl ?_
          refine wq_getIK (pc := 51) (kk := 2) dX5_add_51 hs (gf_X5_23 _ rfl) rfl rfl rfl rfl ?_
          refine wq_sipush (pc := 54) dX5_add_54 (by decide) (by decide) ?_
          refine wq_icmp_ge (pc := 57) (tgt := 80) dX5_add_57 (by decide) (by first | (unfold inR; omega) | assumption) (by first | (unfold inR; omega) | assumption) (fun c5 => ?_) (fun c5 => ?_)
          · skip
            exfalso; omega
          · skip
            refine wq_aload_n (pc := 60) dX5_add_60 rfl rfl ?_
            refine wq_getS (pc := 61) dX5_add_61 hs (gf_X5_13 _ rfl) rfl rfl rfl rfl rfl ?_
            refine wq_aload_n (pc := 64) dX5_add_64 rfl rfl ?_
            refine wq_getIK (pc := 65) (kk := 2) dX5_add_65 hs (gf_X5_23 _ rfl) rfl rfl rfl rfl ?_
            refine wq_aload_n (pc := 68) dX5_add_68 rfl rfl ?_
            refine wq_aastIK (pc := 69) dX5_add_69 hs rfl (by omega) (by omega) (by first | with_reducible assumption | exact if_pos rfl) ?_
            refine wq_aload_n (pc := 70) dX5_add_70 rfl rfl ?_
            refine wq_dup (pc := 71) dX5_add_71 rfl ?_
            refine wq_getIK (pc := 72) (kk := 2) dX5_add_72 hs (gf_X5_23 _ rfl) rfl rfl rfl rfl ?_
            refine wq_iconst (pc := 75) dX5_add_75 ?_
            refine wq_iadd (pc := 76) dX5_add_76 ?_
            refine wq_putIK (pc := 77) (kk := 2) dX5_add_77 hs (gf_X5_23 _ rfl) rfl rfl rfl rfl rfl ?_
            refine wq_aload_n (pc := 80) dX5_add_80 rfl rfl ?_
            refine wq_iload_n (pc := 81) dX5_add_81 rfl rfl ?_
            refine wq_iload_n (pc := 82) dX5_add_82 rfl rfl ?_
            refine cV_2 (pc := 83) dX5_add_83 (cw_X5_49 _ rfl) (by decide) (by first | with_reducible assumption | exact if_pos rfl) ⟨by decide, by decide⟩ (Nat.le_of_ble_eq_true rfl) (sp_X1_begin f4 hd (fun m1 hx1 hc1 => ?_))
            refine kr_v ?_
            have uu := fun (m : nMem) => adM (m := m) (n := nn) (d := dd) (c := m 12 2) (l := wr m 13 (m 12 2) a0 12 2 + 1) f5
            have u1 := fun m => (uu m).1
            have u2 := fun m => (uu m).2.1
            have u3 := fun m => (uu m).2.2.1
            have u4 := fun m => (uu m).2.2.2.1
            have u5 := fun m => (uu m).2.2.2.2.1
            have u6 := fun m => (uu m).2.2.2.2.2.1
            have u7 := fun m => (uu m).2.2.2.2.2.2
            have q123 : m1 12 3 = tNx S := by rw [hx1 12 3 (by omega)]; exact (u3 _).trans q3
            have q12i : 0 ≤ m1 12 3 ∧ m1 12 3 ≤ 100000 := by omega
            refine wq_aload_n (pc := 86) dX5_add_86 rfl rfl ?_
            refine wq_aload_n (pc := 87) dX5_add_87 rfl rfl ?_
            refine wq_getIK (pc := 88) (kk := 3) dX5_add_88 hs (gf_X5_27 _ rfl) rfl rfl rfl rfl ?_
            refine wq_iload_n (pc := 91) dX5_add_91 rfl rfl ?_
            refine wq_iconst (pc := 92) dX5_add_92 ?_
            refine wq_iadd (pc := 93) dX5_add_93 ?_
            refine cS_2 (pc := 94) dX5_add_94 (cw_X5_53 _ rfl) ⟨by decide, by decide⟩ (Nat.le_of_ble_eq_true rfl) (sp_J9_max (by unfold inR; omega) (by unfold inR; omega) ?_)
            refine kr_s ?_
            refine wq_putIK (pc := 97) (kk := 3) dX5_add_97 hs (gf_X5_27 _ rfl) rfl rfl rfl rfl rfl ?_
            refine wq_aload_n (pc := 100) dX5_add_100 rfl rfl ?_
            refine wq_aret (pc := 101) dX5_add_101 rfl ?_
            have r := add_fin (m9 := wr m1 12 3 (max (m1 12 3) (nn + 1))) hT hn hl f1 f2 f3 f4 f5 f6 f7 f8 (d := dd) (n := nn) (fun j j0 j1 => by rw [wr_n _ _ (by omega)]; exact hc1 j j0 j1) (fun x j x1 x2 x3 x4 => by rw [wr_n _ _ (by omega), hx1 x j x1]; exact u1 _ x j x2 x3 x4) ⟨by rw [wr_n _ _ (by omega), hx1 12 2 (by omega), u2, wr_n _ _ (by omega), q2], by rw [wr_s, q123]⟩ (fun j => by rw [wr_n _ _ (by omega), hx1 13 j (by omega), u4, q2]) ⟨by rw [wr_n _ _ (by omega), hx1 _ _ (isItm_ne f4).symm]; exact u5 _, by rw [wr_n _ _ (by omega), hx1 _ _ (isItm_ne f4).symm]; exact u6 _, fun k k0 k1 => by rw [wr_n _ _ (by omega), hx1 _ _ (isItm_ne f4).symm]; exact u7 _ k k0 k1⟩
            exact h _ _ _ r.1 r.2.1 r.2.2.1 r.2.2.2
      · skip
        have h00 : μ 13 ((tNl S).length : Int) = 0 := by rw [← hc]; exact c3
        have hp9 := nul_pos (f := μ 13) (i := ((tNl S).length : Int)) 129 (by omega) (by omega) h00
        have hcap9 := hcap
        unfold Cap at hcap9
        refine wq_new (pc := 35) (ci := 1) dX5_add_35 (by decide) rfl (kl_X5_11 _ rfl) ki_1.1 ki_1.2 (by show eSz ε + 1 ≤ 600086 ∧ eSl ε + 8 ≤ 7301442; omega) ?_
        refine wq_dup (pc := 38) dX5_add_38 rfl ?_
        refine cI_0 (pc := 39) dX5_add_39 (cw_X5_48 _ rfl) (by omega) ⟨by decide, by decide⟩ (Nat.le_of_ble_eq_true rfl) (sp_X1_init (by omega) (if_pos rfl) (by show eSz ε + 1 + 1 ≤ 600086 ∧ eSl ε + 8 + 100 ≤ 7301442; omega) ?_)
        refine kr_v ?_
        show wp mX5_add 42 _ _ (zr (zr μ ((eSz ε : Int) + 1)) ((eSz (alF ε 2 0 8) : Int) + 1)) (eItm (alF ε 2 0 8) ((eSz ε : Int) + 1)) Q
        have F := adF_new hT hl hok h56 h00
        generalize zr (zr μ ((eSz ε : Int) + 1)) ((eSz (alF ε 2 0 8) : Int) + 1) = mz at F ⊢
        generalize eItm (alF ε 2 0 8) ((eSz ε : Int) + 1) = ez at F ⊢
        generalize (eSz ε : Int) + 1 = a0 at F ⊢
        obtain ⟨f1, f2, f3, f4, f5, f6, f7, f8⟩ := F
        have hkk := f4.1
        have hs := SkP_ext hT.1 f2
        have q2 := (f1 12 (Or.inl k12) 2).trans hc
        have q3 := (f1 12 (Or.inl k12) 3).trans hT.2.2.2.2.2.1
        have n12 : (12 : Int) ≠ a0 := by omega
        refine wq_astore_n (pc := 42) (L' := [(3, _), (0, _), (1, _), (2, _)]) dX5_add_42 rfl rfl (by decide) ?_
        refine wq_aload_n (pc := 43) dX5_add_43 rfl rfl ?_
        refine wq_getIK (pc := 44) (kk := 2) dX5_add_44 hs (gf_X5_23 _ rfl) rfl rfl rfl rfl ?_
        refine wq_if_lt (pc := 47) (tgt := 80) dX5_add_47 (by decide) (by first | (unfold inR; omega) | assumption) (fun c7 => ?_) (fun c7 => ?_)
        · skip
          exfalso; omega
        · skip
          refine wq_aload_n (pc := 50) dX5_add_50 rfl rfl ?_
          refine wq_getIK (pc := 51) (kk := 2) dX5_add_51 hs (gf_X5_23 _ rfl) rfl rfl rfl rfl ?_
          refine wq_sipush (pc := 54) dX5_add_54 (by decide) (by decide) ?_
          refine wq_icmp_ge (pc := 57) (tgt := 80) dX5_add_57 (by decide) (by first | (unfold inR; omega) | assumption) (by first | (unfold inR; omega) | assumption) (fun c8 => ?_) (fun c8 => ?_)
          · skip
            exfalso; omega
          · skip
            refine wq_aload_n (pc := 60) dX5_add_60 rfl rfl ?_
            refine wq_getS (pc := 61) dX5_add_61 hs (gf_X5_13 _ rfl) rfl rfl rfl rfl rfl ?_
            refine wq_aload_n (pc := 64) dX5_add_64 rfl rfl ?_
            refine wq_getIK (pc := 65) (kk := 2) dX5_add_65 hs (gf_X5_23 _ rfl) rfl rfl rfl rfl ?_
            refine wq_aload_n (pc := 68) dX5_add_68 rfl rfl ?_
            refine wq_aastIK (pc := 69) dX5_add_69 hs rfl (by omega) (by omega) (by first | with_reducible assumption | exact if_pos rfl) ?_
            refine wq_aload_n (pc := 70) dX5_add_70 rfl rfl ?_
            refine wq_dup (pc := 71) dX5_add_71 rfl ?_
            refine wq_getIK (pc := 72) (kk := 2) dX5_add_72 hs (gf_X5_23 _ rfl) rfl rfl rfl rfl ?_
            refine wq_iconst (pc := 75) dX5_add_75 ?_
            refine wq_iadd (pc := 76) dX5_add_76 ?_
            refine wq_putIK (pc := 77) (kk := 2) dX5_add_77 hs (gf_X5_23 _ rfl) rfl rfl rfl rfl rfl ?_
            refine wq_aload_n (pc := 80) dX5_add_80 rfl rfl ?_
            refine wq_iload_n (pc := 81) dX5_add_81 rfl rfl ?_
            refine wq_iload_n (pc := 82) dX5_add_82 rfl rfl ?_
            refine cV_2 (pc := 83) dX5_add_83 (cw_X5_49 _ rfl) (by decide) (by first | with_reducible assumption | exact if_pos rfl) ⟨by decide, by decide⟩ (Nat.le_of_ble_eq_true rfl) (sp_X1_begin f4 hd (fun m1 hx1 hc1 => ?_))
            refine kr_v ?_
            have uu := fun (m : nMem) => adM (m := m) (n := nn) (d := dd) (c := m 12 2) (l := wr m 13 (m 12 2) a0 12 2 + 1) f5
            have u1 := fun m => (uu m).1
            have u2 := fun m => (uu m).2.1
            have u3 := fun m => (uu m).2.2.1
            have u4 := fun m => (uu m).2.2.2.1
            have u5 := fun m => (uu m).2.2.2.2.1
            have u6 := fun m => (uu m).2.2.2.2.2.1
            have u7 := fun m => (uu m).2.2.2.2.2.2
            have q123 : m1 12 3 = tNx S := by rw [hx1 12 3 (by omega)]; exact (u3 _).trans q3
            have q12i : 0 ≤ m1 12 3 ∧ m1 12 3 ≤ 100000 := by omega
            refine wq_aload_n (pc := 86) dX5_add_86 rfl rfl ?_
            refine wq_aload_n (pc := 87) dX5_add_87 rfl rfl ?_
            refine wq_getIK (pc := 88) (kk := 3) dX5_add_88 hs (gf_X5_27 _ rfl) rfl rfl rfl rfl ?_
            refine wq_iload_n (pc := 91) dX5_add_91 rfl rfl ?_
            refine wq_iconst (pc := 92) dX5_add_92 ?_
            refine wq_iadd (pc := 93) dX5_add_93 ?_
            refine cS_2 (pc := 94) dX5_add_94 (cw_X5_53 _ rfl) ⟨by decide, by decide⟩ (Nat.le_of_ble_eq_true rfl) (sp_J9_max (by unfold inR; omega) (by unfold inR; omega) ?_)
            refine kr_s ?_
            refine wq_putIK (pc := 97) (kk := 3) dX5_add_97 hs (gf_X5_27 _ rfl) rfl rfl rfl rfl rfl ?_
            refine wq_aload_n (pc := 100) dX5_add_100 rfl rfl ?_
            refine wq_aret (pc := 101) dX5_add_101 rfl ?_
            have r := add_fin (m9 := wr m1 12 3 (max (m1 12 3) (nn + 1))) hT hn hl f1 f2 f3 f4 f5 f6 f7 f8 (d := dd) (n := nn) (fun j j0 j1 => by rw [wr_n _ _ (by omega)]; exact hc1 j j0 j1) (fun x j x1 x2 x3 x4 => by rw [wr_n _ _ (by omega), hx1 x j x1]; exact u1 _ x j x2 x3 x4) ⟨by rw [wr_n _ _ (by omega), hx1 12 2 (by omega), u2, wr_n _ _ (by omega), q2], by rw [wr_s, q123]⟩ (fun j => by rw [wr_n _ _ (by omega), hx1 13 j (by omega), u4, q2]) ⟨by rw [wr_n _ _ (by omega), hx1 _ _ (isItm_ne f4).symm]; exact u5 _, by rw [wr_n _ _ (by omega), hx1 _ _ (isItm_ne f4).symm]; exact u6 _, fun k k0 k1 => by rw [wr_n _ _ (by omega), hx1 _ _ (isItm_ne f4).symm]; exact u7 _ k k0 k1⟩
            exact h _ _ _ r.1 r.2.1 r.2.2.1 r.2.2.2
