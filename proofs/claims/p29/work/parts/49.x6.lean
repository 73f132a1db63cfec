abbrev xI : String := "java/lang/IndexOutOfBoundsException"
abbrev xA : String := "java/lang/IllegalArgumentException"
abbrev xS : String := "java/lang/IllegalStateException"
theorem Cap_room {μ : nMem} {ε : nEnv} {t : Nat} (h : Cap μ ε (t + 1)) : eSz ε + 1 ≤ nCAP ∧ eSl ε + 6 ≤ nSCAP := by
  obtain ⟨h1, h2⟩ := h
  unfold nCAP nSCAP
  omega
theorem Cap_thr {μ : nMem} {ε ε' : nEnv} {t : Nat} (h : Cap μ ε (t + 1)) (ht : thr ε ε') : Cap μ ε' t := by
  obtain ⟨h1, h2⟩ := h
  obtain ⟨-, -, -, a, b, c, d⟩ := ht
  unfold Cap
  omega
theorem Cap_mono {μ : nMem} {ε : nEnv} {t s : Nat} (h : Cap μ ε t) (hs : s ≤ t) : Cap μ ε s := by
  obtain ⟨h1, h2⟩ := h
  unfold Cap
  omega
theorem thr_ext {ε ε' : nEnv} (ht : thr ε ε') : (∀ x, eKind ε' x = eKind ε x ∧ eLen ε' x = eLen ε x ∧ ∀ k, eFin ε' x k = eFin ε x k) := by
  obtain ⟨a, b, c, -⟩ := ht
  exact fun x => ⟨congrFun b x, congrFun c x, fun k => congrFun (congrFun a x) k⟩
theorem CF_thr {F : Fl} {μ : nMem} {ε ε' : nEnv} (h : CF F μ ε) (ht : thr ε ε') : CF F μ ε' := CF_extE h (fun x _ => thr_ext ht x)
theorem CT_extE {S : Tr} {μ : nMem} {ε ε' : nEnv} (hT : CT S μ ε) (he : ∀ x, eKind ε x ≠ 0 → eKind ε' x = eKind ε x ∧ eLen ε' x = eLen ε x ∧ ∀ k, eFin ε' x k = eFin ε x k) : CT S μ ε' := by
  obtain ⟨c1, c2, c3, c4, c5, c6, c7⟩ := id hT
  have hsh : ∀ i : Int, 0 ≤ i → i < 129 → μ 13 i ≠ 0 → isItm ε' (μ 13 i) ∧ eFin ε' (μ 13 i) 0 = eFin ε (μ 13 i) 0 := fun i i0 i1 i2 => isItm_ext (c2.1 i i0 i1 i2).1 he
  refine ⟨SkP_ext c1 he, ⟨fun i i0 i1 i2 => ?_, c2.2.1, fun i j i0 i1 j0 j1 i2 j2 => ?_⟩, c3, c4, c5, c6, fun i hi => ?_⟩
  · obtain ⟨s1, s2⟩ := hsh i i0 i1 i2
    exact ⟨s1, (c2.1 i i0 i1 i2).2.1, by rw [s2]; exact (c2.1 i i0 i1 i2).2.2⟩
  · rw [(hsh i i0 i1 i2).2, (hsh j j0 j1 j2).2]; exact c2.2.2 i j i0 i1 j0 j1 i2 j2
  · obtain ⟨d0, d1, d2, d3⟩ := c7 i hi
    exact ⟨d0, d1, d2, fun j j0 j1 => by rw [(hsh i (by omega) (by omega) d0).2]; exact d3 j j0 j1⟩
theorem CT_thr {S : Tr} {μ : nMem} {ε ε' : nEnv} (h : CT S μ ε) (ht : thr ε ε') : CT S μ ε' := CT_extE h (fun x _ => thr_ext ht x)
/-- what a call leaves alone: the other object and its rows, the script; and the room it leaves -/
def Fr6 (μ : nMem) (ε : nEnv) (μ' : nMem) (ε' : nEnv) : Prop :=
  (∀ x, ((21 ≤ x ∧ x ≤ 25 ∧ eKind ε x ≠ 0 ∧ eKind ε x ≠ 5 ∧ eKind ε x ≠ 2) ∨ x = -1) → ∀ j, μ' x j = μ x j) ∧
  (∀ x, eKind ε x ≠ 0 → eKind ε' x = eKind ε x ∧ eLen ε' x = eLen ε x ∧ ∀ k, eFin ε' x k = eFin ε x k) ∧ eLen ε' (-1) = eLen ε (-1) ∧ (∀ t, Cap μ ε t → Cap μ' ε' t)
theorem Fr6_refl (μ : nMem) (ε : nEnv) : Fr6 μ ε μ ε := ⟨fun _ _ _ => rfl, fun _ _ => ⟨rfl, rfl, fun _ => rfl⟩, rfl, fun _ h => h⟩
theorem Fr6_trans {μ m m1 : nMem} {ε e e1 : nEnv} (h : Fr6 μ ε m e) (k : Fr6 m e m1 e1) : Fr6 μ ε m1 e1 := by
  obtain ⟨a1, a2, a3, a4⟩ := h
  obtain ⟨b1, b2, b3, b4⟩ := k
  refine ⟨fun x hx j => (b1 x ?_ j).trans (a1 x hx j), fun x hx => ?_, b3.trans a3, fun t ht => b4 t (a4 t ht)⟩
  · rcases hx with ⟨q1, q2, q3, q4, q5⟩ | q
    · rw [(a2 x q3).1]; exact Or.inl ⟨q1, q2, q3, q4, q5⟩
    · exact Or.inr q
  · obtain ⟨p, q, r⟩ := a2 x hx
    obtain ⟨s, t, u⟩ := b2 x (by rw [p]; exact hx)
    exact ⟨s.trans p, t.trans q, fun k => (u k).trans (r k)⟩
theorem Fr6_X {X : Int → Prop} {μ m : nMem} {ε e : nEnv} (hX : ∀ x, X x → 0 ≤ x ∧ x ≤ 20) (hr : nRows μ ε) (h : FrX X μ ε m e) : Fr6 μ ε m e := by
  obtain ⟨a1, a2, -, -, a5, a6⟩ := h
  refine ⟨fun x hx j => a1 x ?_ ?_ ?_ j, a2, a5, a6⟩
  · rcases hx with q | q
    · exact Or.inl q.2.2.1
    · exact Or.inr q
  · intro q; have := hX x q; omega
  · rcases hx with q | q
    · exact not_row hr (by omega) (Or.inl q.2.2.2.1)
    · exact not_row hr (by omega) (Or.inr (by omega))
theorem Fr6_F {μ m : nMem} {ε e : nEnv} (hr : nRows μ ε) (h : FrF μ ε m e) : Fr6 μ ε m e :=
  Fr6_X (X := XP) (fun x hx => by unfold XP at hx; omega) hr (FrX_of (by unfold XP; omega) h)
theorem Fr6_T {μ m : nMem} {ε e : nEnv} (hi : nItems μ ε) (h : FrT μ ε m e) : Fr6 μ ε m e := by
  obtain ⟨a1, a2, a3, a4, a5⟩ := h
  refine ⟨fun x hx j => a1 x ?_ ?_ ?_ ?_ ?_ j, a2, a4, a5⟩
  · rcases hx with q | q
    · exact Or.inl q.2.2.1
    · exact Or.inr q
  · omega
  · omega
  · omega
  · rcases hx with q | q
    · exact not_TI hi q.2.2.2.2 (Or.inr (by omega))
    · rintro ⟨i, i0, i1, i2, i3⟩
      obtain ⟨s1, s2, s3⟩ := hi.1 i i0 i1 i2
      omega
theorem Fr6_J {μ m : nMem} {ε : nEnv} (hr : nRows μ ε) (h : FrJ μ m) : Fr6 μ ε m ε := by
  refine ⟨fun x hx j => h.2 x j (by omega) (by omega) (fun q => ?_), fun _ _ => ⟨rfl, rfl, fun _ => rfl⟩, rfl, fun t ht => Cap_FrJ ht hr h⟩
  rcases hx with q2 | q2
  · exact not_row hr (by omega) (Or.inl q2.2.2.2.1) q.1
  · exact not_row hr (by omega) (Or.inr (by omega)) q.1
/-- a change of the fields of the kept object, the log's trial and the draft -/
theorem FrX_8 {μ m : nMem} {ε : nEnv} (h : TrM μ m) : FrX (fun x => x = 8) μ ε m ε :=
  FrX_mem (fun x hx j => h x j (fun q => hx q.1)) (fun j => h 3 j (by omega)) (fun j => h 13 j (by omega))
/-- the class's state -/
def C6 (F : Fl) (g : Lg) (S : Tr) (μ : nMem) (ε : nEnv) : Prop := CF F μ ε ∧ CL g μ ∧ CT S μ ε
theorem C6_thr {F : Fl} {g : Lg} {S : Tr} {μ : nMem} {ε ε' : nEnv} (h : C6 F g S μ ε) (ht : thr ε ε') : C6 F g S μ ε' := ⟨CF_thr h.1 ht, h.2.1, CT_thr h.2.2 ht⟩
theorem C6_TrM {F : Fl} {g : Lg} {S : Tr} {μ m : nMem} {ε : nEnv} (h : C6 F g S μ ε) (ht : TrM μ m) : C6 F g S m ε ∧ (∀ b q, tAt S μ b q → tAt S m b q) ∧ Fr6 μ ε m ε := by
  obtain ⟨a, b, c⟩ := h
  have x := CT_FrX (X := fun x => x = 8) (fun x hx => by omega) c a.2.1 (FrX_8 ht)
  exact ⟨⟨TrM_CF ht a, TrM_CL ht b, x.1⟩, x.2, Fr6_X (fun x hx => by omega) a.2.1 (FrX_8 ht)⟩
/-- a trial of how nodes would be written: units, nodes, free blocks -/
def trS (u : Int) (s : Int × Int × Int) : Option (Int × Int × Int) := if s.1 + u + s.2.1 + 2 ≤ 40 then some (s.1 + u, s.2.1 + 1, s.2.2) else if 0 < s.2.2 then some (1 + u, 1, s.2.2 - 1) else none
def trL : List Int → Int × Int × Int → Prop
  | [], _ => True
  | u :: us, s => match trS u s with
    | none => False
    | some s' => trL us s'
theorem trL_1 {u : Int} {us : List Int} {s s' : Int × Int × Int} (h : trS u s = some s') : trL (u :: us) s ↔ trL us s' := by
  show (match trS u s with | none => False | some s' => trL us s') ↔ _
  rw [h]
theorem trL_0 {u : Int} {us : List Int} {s : Int × Int × Int} (h : trS u s = none) : ¬ trL (u :: us) s := by
  show ¬ (match trS u s with | none => False | some s' => trL us s')
  rw [h]; exact id
def tr0 (F : Fl) (g : Lg) (n : Int) : Int × Int × Int := (if g.1 = -1 then 40 else fU F g.1, if g.1 = -1 then 0 else fC F g.1, n)
theorem sr_X3_takesInTrial {μ : nMem} {ε : nEnv} {Q : nOut → nMem → nEnv → Prop} {u : Int} {s : Int × Int × Int} (hs : SkP skC ε) (e7 : μ 8 7 = s.1) (e8 : μ 8 8 = s.2.1) (e9 : μ 8 9 = s.2.2) (r1 : 0 ≤ u ∧ u ≤ 100) (r2 : 0 ≤ s.1 ∧ s.1 ≤ 100) (r3 : 0 ≤ s.2.1 ∧ s.2.1 ≤ 100) (r4 : -10 ≤ s.2.2 ∧ s.2.2 ≤ 100)
    (h1 : ∀ s', trS u s = some s' → ∀ μ9, TrM μ μ9 → μ9 8 7 = s'.1 → μ9 8 8 = s'.2.1 → μ9 8 9 = s'.2.2 → (0 ≤ s'.1 ∧ s'.1 ≤ 40 + u) → (0 ≤ s'.2.1 ∧ s'.2.1 ≤ s.2.1 + 1) → (-10 ≤ s'.2.2 ∧ s'.2.2 ≤ 100) → Q (.inl (some (vI 1))) μ9 ε) (h3 : trS u s = none → Q (.inl (some (vI 0))) μ ε) : Sp mX3_takesInTrial [vR 8, vI u] μ ε Q := by
  refine sp_X3_takesInTrial hs e7 e8 e9 r1 r2 r3 r4 (fun c μ9 t a7 a8 a9 => ?_) (fun c c2 μ9 t a7 a8 a9 => ?_) (fun c c2 => ?_)
  · exact h1 (s.1 + u, s.2.1 + 1, s.2.2) (by unfold trS; rw [if_pos c]) μ9 t a7 a8 a9 ⟨by show 0 ≤ s.1 + u; omega, by show s.1 + u ≤ _; omega⟩ ⟨by show 0 ≤ s.2.1 + 1; omega, Int.le_refl _⟩ r4
  · exact h1 (1 + u, 1, s.2.2 - 1) (by unfold trS; rw [if_neg c, if_pos c2]) μ9 t a7 a8 a9 ⟨by show 0 ≤ 1 + u; omega, by show 1 + u ≤ _; omega⟩ ⟨by show (0 : Int) ≤ 1; omega, by show (1 : Int) ≤ _; omega⟩ ⟨by show -10 ≤ s.2.2 - 1; omega, by show s.2.2 - 1 ≤ _; omega⟩
  · exact h3 (by unfold trS; rw [if_neg c, if_neg (by omega)])
theorem sp_X6_refuseInDark {μ : nMem} {ε : nEnv} {Q : nOut → nMem → nEnv → Prop} {F : Fl} {t : Nat} (hC : CF F μ ε) (hD : fD F = 0 ∨ fD F = 1) (hcap : Cap μ ε (t + 1)) (h0 : fD F = 0 → Q (.inl none) μ ε) (hx : fD F = 1 → (∀ ε', thr ε ε' → Q (.inr xS) μ ε')) : Sp mX6_refuseInDark [vR 1] μ ε Q := by
  refine Sp_of (L := [(0, vR 1)]) (by decide) rfl rfl (Nat.le_of_ble_eq_true rfl) ?_
  have hs := hC.1
  have hroom := Cap_room hcap
  have hfd := hC.2.2.2.2.2.2.1
  refine wq_aload_n (pc := 0) dX6_refuseInDark_0 rfl rfl ?_
  refine wq_getS (pc := 1) dX6_refuseInDark_1 hs (gf_X6_10 _ rfl) rfl rfl rfl rfl rfl ?_
  refine wq_getIK (pc := 4) (kk := 6) dX6_refuseInDark_4 hs (gf_X6_190 _ rfl) rfl rfl rfl rfl ?_
  refine wq_if_eq (pc := 7) (tgt := 21) dX6_refuseInDark_7 (by decide) (by first | (unfold inR; omega) | assumption) (fun c1 => ?_) (fun c1 => ?_)
  · skip
    refine wq_vret (pc := 21) dX6_refuseInDark_21 rfl ?_
    first | exact hx (by omega) _ ht | exact h0 (by omega)
  · skip
    refine wq_throwW (pc := 10) dX6_refuseInDark_10 dX6_refuseInDark_13 dX6_refuseInDark_14 dX6_refuseInDark_17 dX6_refuseInDark_20 rfl th_S ks_X6_273 (by decide) (by decide) (Nat.le_of_ble_eq_true rfl) hroom (fun ε' ht => ?_)
    first | exact hx (by omega) _ ht | exact h0 (by omega)
theorem sp_X6_itemThere {μ : nMem} {ε : nEnv} {Q : nOut → nMem → nEnv → Prop} {F : Fl} {S : Tr} {n9 : Int} {t : Nat} (hC : CF F μ ε) (hD : fD F = 0 ∨ fD F = 1) (hcap : Cap μ ε (t + 1)) (hT : CT S μ ε) (hB : tB S) (r1 : inR n9) (h : fD F = 0 → n9 ∈ tNl S → ∀ a, tAt S μ a n9 → Q (.inl (some (vR a))) μ ε) (hx : fD F = 1 → (∀ ε', thr ε ε' → Q (.inr xS) μ ε')) (hx2 : fD F = 0 → n9 ∉ tNl S → (∀ ε', thr ε ε' → Q (.inr xI) μ ε')) : Sp mX6_itemThere [vR 1, vI n9] μ ε Q := by
  refine Sp_of (L := [(0, vR 1), (1, vI n9)]) (by decide) rfl rfl (Nat.le_of_ble_eq_true rfl) ?_
  have hs := hC.1
  have hroom := Cap_room hcap
  have hfd := hC.2.2.2.2.2.2.1
  have hsT := hT.1
  refine wq_aload_n (pc := 0) dX6_itemThere_0 rfl rfl ?_
  refine cVK_0 (pc := 1) dX6_itemThere_1 hs (cw_X6_157 _ rfl) (by decide) rfl ⟨by decide, by decide⟩ (Nat.le_of_ble_eq_true rfl) (sp_X6_refuseInDark hC hD hcap (fun hd => ?_) (fun hd e9 ht => ?_))
  · skip
    refine kr_v ?_
    refine wq_aload_n (pc := 4) dX6_itemThere_4 rfl rfl ?_
    refine wq_getS (pc := 5) dX6_itemThere_5 hs (gf_X6_28 _ rfl) rfl rfl rfl rfl rfl ?_
    refine wq_iload_n (pc := 8) dX6_itemThere_8 rfl rfl ?_
    refine cVK_1 (pc := 9) dX6_itemThere_9 hsT (cw_X6_120 _ rfl) (by decide) rfl ⟨by decide, by decide⟩ (Nat.le_of_ble_eq_true rfl) (sp_X5_find hT hB r1 (fun a ha => ?_) (fun hn => ?_))
    · skip
      refine kr_s ?_
      obtain ⟨a0, hI, aw, cw⟩ := tAt_sh hT ha
      obtain ⟨i1, i2, i3⟩ := tAt_is hT ha
      obtain ⟨hk, hkc, hlc⟩ := id hI
      have bb := hB.2 _ (tAt_mem ha)
      have f2 := i2 2 (by omega) (by omega)
      have g2 := bb.2.1
      refine wq_astore_n (pc := 12) (L' := [(2, _), (0, _), (1, _)]) dX6_itemThere_12 rfl rfl (by decide) ?_
      refine wq_aload_n (pc := 13) dX6_itemThere_13 rfl rfl ?_
      refine wq_ifnonnull (pc := 14) (tgt := 28) dX6_itemThere_14 (by decide)  (fun c5 => ?_) (fun c5 => ?_)
      · skip
        refine wq_aload_n (pc := 28) dX6_itemThere_28 rfl rfl ?_
        refine wq_aret (pc := 29) dX6_itemThere_29 rfl ?_
        first
          | exact hx hd _ ht
          | exact hx2 hd (by first | exact Or.inl hn | exact hn | (right; omega)) _ ht
          | (refine h hd (tAt_mem ha) ?_ _ ha; omega)
          | exact h hd (tAt_mem ha) _ ha
      · skip
        exfalso; exact a0 c5
    · skip
      refine kr_s ?_
      refine wq_astore_n (pc := 12) (L' := [(2, _), (0, _), (1, _)]) dX6_itemThere_12 rfl rfl (by decide) ?_
      refine wq_aload_n (pc := 13) dX6_itemThere_13 rfl rfl ?_
      refine wq_ifnonnull (pc := 14) (tgt := 28) dX6_itemThere_14 (by decide) (fun c => absurd rfl c) (fun _ => ?_)
      refine wq_throwW (pc := 17) dX6_itemThere_17 dX6_itemThere_20 dX6_itemThere_21 dX6_itemThere_24 dX6_itemThere_27 rfl th_X ks_X6_275 (by decide) (by decide) (Nat.le_of_ble_eq_true rfl) hroom (fun ε' ht => ?_)
      first
        | exact hx hd _ ht
        | exact hx2 hd (by first | exact Or.inl hn | exact hn | (right; omega)) _ ht
        | (refine h hd (tAt_mem ha) ?_ _ ha; omega)
        | exact h hd (tAt_mem ha) _ ha
  · skip
    refine kr_x ?_
    first
      | exact hx hd _ ht
      | exact hx2 hd (by first | exact Or.inl hn | exact hn | (right; omega)) _ ht
      | (refine h hd (tAt_mem ha) ?_ _ ha; omega)
      | exact h hd (tAt_mem ha) _ ha
theorem sp_X6_directoryThere {μ : nMem} {ε : nEnv} {Q : nOut → nMem → nEnv → Prop} {F : Fl} {S : Tr} {n9 : Int} {t : Nat} (hC : CF F μ ε) (hD : fD F = 0 ∨ fD F = 1) (hcap : Cap μ ε (t + 1)) (hT : CT S μ ε) (hB : tB S) (r1 : inR n9) (h : fD F = 0 → n9 ∈ tNl S → tFd S n9 2 = 1 → ∀ a, tAt S μ a n9 → Q (.inl (some (vR a))) μ ε) (hx : fD F = 1 → (∀ ε', thr ε ε' → Q (.inr xS) μ ε')) (hx2 : fD F = 0 → (n9 ∉ tNl S ∨ tFd S n9 2 ≠ 1) → (∀ ε', thr ε ε' → Q (.inr xI) μ ε')) : Sp mX6_directoryThere [vR 1, vI n9] μ ε Q := by
  refine Sp_of (L := [(0, vR 1), (1, vI n9)]) (by decide) rfl rfl (Nat.le_of_ble_eq_true rfl) ?_
  have hs := hC.1
  have hroom := Cap_room hcap
  have hfd := hC.2.2.2.2.2.2.1
  have hsT := hT.1
  refine wq_aload_n (pc := 0) dX6_directoryThere_0 rfl rfl ?_
  refine wq_iload_n (pc := 1) dX6_directoryThere_1 rfl rfl ?_
  refine cVK_1 (pc := 2) dX6_directoryThere_2 hs (cw_X6_210 _ rfl) (by decide) rfl ⟨by decide, by decide⟩ (Nat.le_of_ble_eq_true rfl) (sp_X6_itemThere hC hD hcap hT hB r1 (fun hd hm a ha => ?_) (fun hd e9 ht => ?_) (fun hd hn e9 ht => ?_))
  · skip
    refine kr_s ?_
    obtain ⟨a0, hI, aw, cw⟩ := tAt_sh hT ha
    obtain ⟨i1, i2, i3⟩ := tAt_is hT ha
    obtain ⟨hk, hkc, hlc⟩ := id hI
    have bb := hB.2 _ (tAt_mem ha)
    have f2 := i2 2 (by omega) (by omega)
    have g2 := bb.2.1
    refine wq_astore_n (pc := 5) (L' := [(2, _), (0, _), (1, _)]) dX6_directoryThere_5 rfl rfl (by decide) ?_
    refine wq_aload_n (pc := 6) dX6_directoryThere_6 rfl rfl ?_
    refine wq_getI (pc := 7) (kk := 2) dX6_directoryThere_7 (gf_X6_127 _ rfl) (by with_reducible assumption) rfl rfl rfl ?_
    refine wq_if_ne (pc := 10) (tgt := 24) dX6_directoryThere_10 (by decide) (by first | (unfold inR; omega) | assumption) (fun c4 => ?_) (fun c4 => ?_)
    · skip
      refine wq_aload_n (pc := 24) dX6_directoryThere_24 rfl rfl ?_
      refine wq_aret (pc := 25) dX6_directoryThere_25 rfl ?_
      first
        | exact hx hd _ ht
        | exact hx2 hd (by first | exact Or.inl hn | exact hn | (right; omega)) _ ht
        | (refine h hd (tAt_mem ha) ?_ _ ha; omega)
        | exact h hd (tAt_mem ha) _ ha
    · skip
      refine wq_throwW (pc := 13) dX6_directoryThere_13 dX6_directoryThere_16 dX6_directoryThere_17 dX6_directoryThere_20 dX6_directoryThere_23 rfl th_X ks_X6_277 (by decide) (by decide) (Nat.le_of_ble_eq_true rfl) hroom (fun ε' ht => ?_)
      first
        | exact hx hd _ ht
        | exact hx2 hd (by first | exact Or.inl hn | exact hn | (right; omega)) _ ht
        | (refine h hd (tAt_mem ha) ?_ _ ha; omega)
        | exact h hd (tAt_mem ha) _ ha
  · skip
    refine kr_x ?_
    first
      | exact hx hd _ ht
      | exact hx2 hd (by first | exact Or.inl hn | exact hn | (right; omega)) _ ht
      | (refine h hd (tAt_mem ha) ?_ _ ha; omega)
      | exact h hd (tAt_mem ha) _ ha
  · skip
    refine kr_x ?_
    first
      | exact hx hd _ ht
      | exact hx2 hd (by first | exact Or.inl hn | exact hn | (right; omega)) _ ht
      | (refine h hd (tAt_mem ha) ?_ _ ha; omega)
      | exact h hd (tAt_mem ha) _ ha
theorem sp_X6_fileThere {μ : nMem} {ε : nEnv} {Q : nOut → nMem → nEnv → Prop} {F : Fl} {S : Tr} {n9 : Int} {t : Nat} (hC : CF F μ ε) (hD : fD F = 0 ∨ fD F = 1) (hcap : Cap μ ε (t + 1)) (hT : CT S μ ε) (hB : tB S) (r1 : inR n9) (h : fD F = 0 → n9 ∈ tNl S → tFd S n9 2 = 0 → ∀ a, tAt S μ a n9 → Q (.inl (some (vR a))) μ ε) (hx : fD F = 1 → (∀ ε', thr ε ε' → Q (.inr xS) μ ε')) (hx2 : fD F = 0 → (n9 ∉ tNl S ∨ tFd S n9 2 ≠ 0) → (∀ ε', thr ε ε' → Q (.inr xI) μ ε')) : Sp mX6_fileThere [vR 1, vI n9] μ ε Q := by
  refine Sp_of (L := [(0, vR 1), (1, vI n9)]) (by decide) rfl rfl (Nat.le_of_ble_eq_true rfl) ?_
  have hs := hC.1
  have hroom := Cap_room hcap
  have hfd := hC.2.2.2.2.2.2.1
  have hsT := hT.1
  refine wq_aload_n (pc := 0) dX6_fileThere_0 rfl rfl ?_
  refine wq_iload_n (pc := 1) dX6_fileThere_1 rfl rfl ?_
  refine cVK_1 (pc := 2) dX6_fileThere_2 hs (cw_X6_210 _ rfl) (by decide) rfl ⟨by decide, by decide⟩ (Nat.le_of_ble_eq_true rfl) (sp_X6_itemThere hC hD hcap hT hB r1 (fun hd hm a ha => ?_) (fun hd e9 ht => ?_) (fun hd hn e9 ht => ?_))
  · skip
    refine kr_s ?_
    obtain ⟨a0, hI, aw, cw⟩ := tAt_sh hT ha
    obtain ⟨i1, i2, i3⟩ := tAt_is hT ha
    obtain ⟨hk, hkc, hlc⟩ := id hI
    have bb := hB.2 _ (tAt_mem ha)
    have f2 := i2 2 (by omega) (by omega)
    have g2 := bb.2.1
    refine wq_astore_n (pc := 5) (L' := [(2, _), (0, _), (1, _)]) dX6_fileThere_5 rfl rfl (by decide) ?_
    refine wq_aload_n (pc := 6) dX6_fileThere_6 rfl rfl ?_
    refine wq_getI (pc := 7) (kk := 2) dX6_fileThere_7 (gf_X6_127 _ rfl) (by with_reducible assumption) rfl rfl rfl ?_
    refine wq_if_eq (pc := 10) (tgt := 24) dX6_fileThere_10 (by decide) (by first | (unfold inR; omega) | assumption) (fun c4 => ?_) (fun c4 => ?_)
    · skip
      refine wq_aload_n (pc := 24) dX6_fileThere_24 rfl rfl ?_
      refine wq_aret (pc := 25) dX6_fileThere_25 rfl ?_
      first
        | exact hx hd _ ht
        | exact hx2 hd (by first | exact Or.inl hn | exact hn | (right; omega)) _ ht
        | (refine h hd (tAt_mem ha) ?_ _ ha; omega)
        | exact h hd (tAt_mem ha) _ ha
    · skip
      refine wq_throwW (pc := 13) dX6_fileThere_13 dX6_fileThere_16 dX6_fileThere_17 dX6_fileThere_20 dX6_fileThere_23 rfl th_X ks_X6_279 (by decide) (by decide) (Nat.le_of_ble_eq_true rfl) hroom (fun ε' ht => ?_)
      first
        | exact hx hd _ ht
        | exact hx2 hd (by first | exact Or.inl hn | exact hn | (right; omega)) _ ht
        | (refine h hd (tAt_mem ha) ?_ _ ha; omega)
        | exact h hd (tAt_mem ha) _ ha
  · skip
    refine kr_x ?_
    first
      | exact hx hd _ ht
      | exact hx2 hd (by first | exact Or.inl hn | exact hn | (right; omega)) _ ht
      | (refine h hd (tAt_mem ha) ?_ _ ha; omega)
      | exact h hd (tAt_mem ha) _ ha
  · skip
    refine kr_x ?_
    first
      | exact hx hd _ ht
      | exact hx2 hd (by first | exact Or.inl hn | exact hn | (right; omega)) _ ht
      | (refine h hd (tAt_mem ha) ?_ _ ha; omega)
      | exact h hd (tAt_mem ha) _ ha
theorem sp_X6_itemNamed {μ : nMem} {ε : nEnv} {Q : nOut → nMem → nEnv → Prop} {F : Fl} {S : Tr} {a d nm : Int} {t : Nat} (hC : CF F μ ε) (hcap : Cap μ ε (t + 1)) (hT : CT S μ ε) (hB : tB S) (hA : tAt S μ a d) (hnm : 1 ≤ nm ∧ nm ≤ 99) (h : ∀ b, tAt S μ b (tCl S d nm) → Q (.inl (some (vR b))) μ ε) (hx : tCl S d nm ∉ tNl S → (∀ ε', thr ε ε' → Q (.inr xS) μ ε')) : Sp mX6_itemNamed [vR 1, vR a, vI nm] μ ε Q := by
  refine Sp_of (L := [(0, vR 1), (1, vR a), (2, vI nm)]) (by decide) rfl rfl (Nat.le_of_ble_eq_true rfl) ?_
  have hs := hC.1
  have hroom := Cap_room hcap
  have hfd := hC.2.2.2.2.2.2.1
  have hsT := hT.1
  obtain ⟨a0, hI, aw, cw⟩ := tAt_sh hT hA
  obtain ⟨hk, hkc, hlc⟩ := id hI
  have bb := hB.2 _ (tAt_mem hA)
  have bc := bb.2.2.2 nm (by omega) (by omega)
  refine wq_aload_n (pc := 0) dX6_itemNamed_0 rfl rfl ?_
  refine wq_getS (pc := 1) dX6_itemNamed_1 hs (gf_X6_28 _ rfl) rfl rfl rfl rfl rfl ?_
  refine wq_aload_n (pc := 4) dX6_itemNamed_4 rfl rfl ?_
  refine wq_iload_n (pc := 5) dX6_itemNamed_5 rfl rfl ?_
  refine cV_1 (pc := 6) dX6_itemNamed_6 (cw_X6_116 _ rfl) (by decide) (by with_reducible assumption) ⟨by decide, by decide⟩ (Nat.le_of_ble_eq_true rfl) (sp_X1_cell hI (by unfold inR; omega) ?_)
  refine kr_s ?_
  rw [tAt_cell hT hA (by omega) (by omega)]
  refine cVK_1 (pc := 9) dX6_itemNamed_9 hsT (cw_X6_120 _ rfl) (by decide) rfl ⟨by decide, by decide⟩ (Nat.le_of_ble_eq_true rfl) (sp_X5_find hT hB (by unfold inR; omega) (fun b hb => ?_) (fun hn => ?_))
  · skip
    refine kr_s ?_
    have b0 := (tAt_sh hT hb).1
    refine wq_astore_n (pc := 12) (L' := [(3, _), (0, _), (1, _), (2, _)]) dX6_itemNamed_12 rfl rfl (by decide) ?_
    refine wq_aload_n (pc := 13) dX6_itemNamed_13 rfl rfl ?_
    refine wq_ifnonnull (pc := 14) (tgt := 28) dX6_itemNamed_14 (by decide)  (fun c3 => ?_) (fun c3 => ?_)
    · skip
      refine wq_aload_n (pc := 28) dX6_itemNamed_28 rfl rfl ?_
      refine wq_aret (pc := 29) dX6_itemNamed_29 rfl ?_
      first | exact hx hn _ ht | exact h _ hb
    · skip
      exfalso; exact b0 c3
  · skip
    refine kr_s ?_
    refine wq_astore_n (pc := 12) (L' := [(3, _), (0, _), (1, _), (2, _)]) dX6_itemNamed_12 rfl rfl (by decide) ?_
    refine wq_aload_n (pc := 13) dX6_itemNamed_13 rfl rfl ?_
    refine wq_ifnonnull (pc := 14) (tgt := 28) dX6_itemNamed_14 (by decide) (fun c => absurd rfl c) (fun _ => ?_)
    refine wq_throwW (pc := 17) dX6_itemNamed_17 dX6_itemNamed_20 dX6_itemNamed_21 dX6_itemNamed_24 dX6_itemNamed_27 rfl th_S ks_X6_281 (by decide) (by decide) (Nat.le_of_ble_eq_true rfl) hroom (fun ε' ht => ?_)
    first | exact hx hn _ ht | exact h _ hb
theorem sp_X6_refuseWrongName {μ : nMem} {ε : nEnv} {Q : nOut → nMem → nEnv → Prop} {nm : Int} {t : Nat} (hcap : Cap μ ε (t + 1)) (r1 : inR nm) (h : 1 ≤ nm ∧ nm ≤ 99 → Q (.inl none) μ ε) (hx : ¬ (1 ≤ nm ∧ nm ≤ 99) → (∀ ε', thr ε ε' → Q (.inr xA) μ ε')) : Sp mX6_refuseWrongName [vR 1, vI nm] μ ε Q := by
  refine Sp_of (L := [(0, vR 1), (1, vI nm)]) (by decide) rfl rfl (Nat.le_of_ble_eq_true rfl) ?_
  have hroom := Cap_room hcap
  refine wq_iload_n (pc := 0) dX6_refuseWrongName_0 rfl rfl ?_
  refine wq_iconst (pc := 1) dX6_refuseWrongName_1 ?_
  refine wq_icmp_lt (pc := 2) (tgt := 11) dX6_refuseWrongName_2 (by decide) (by first | (unfold inR; omega) | assumption) (by first | (unfold inR; omega) | assumption) (fun c1 => ?_) (fun c1 => ?_)
  · skip
    refine wq_throwW (pc := 11) dX6_refuseWrongName_11 dX6_refuseWrongName_14 dX6_refuseWrongName_15 dX6_refuseWrongName_18 dX6_refuseWrongName_21 rfl th_A ks_X6_283 (by decide) (by decide) (Nat.le_of_ble_eq_true rfl) hroom (fun ε' ht => ?_)
    first | exact hx (by omega) _ ht | exact h (by omega)
  · skip
    refine wq_iload_n (pc := 5) dX6_refuseWrongName_5 rfl rfl ?_
    refine wq_bipush (pc := 6) dX6_refuseWrongName_6 (by decide) (by decide) ?_
    refine wq_icmp_le (pc := 8) (tgt := 22) dX6_refuseWrongName_8 (by decide) (by first | (unfold inR; omega) | assumption) (by first | (unfold inR; omega) | assumption) (fun c2 => ?_) (fun c2 => ?_)
    · skip
      refine wq_vret (pc := 22) dX6_refuseWrongName_22 rfl ?_
      first | exact hx (by omega) _ ht | exact h (by omega)
    · skip
      refine wq_throwW (pc := 11) dX6_refuseWrongName_11 dX6_refuseWrongName_14 dX6_refuseWrongName_15 dX6_refuseWrongName_18 dX6_refuseWrongName_21 rfl th_A ks_X6_283 (by decide) (by decide) (Nat.le_of_ble_eq_true rfl) hroom (fun ε' ht => ?_)
      first | exact hx (by omega) _ ht | exact h (by omega)
theorem sp_X6_refuseTakenName {μ : nMem} {ε : nEnv} {Q : nOut → nMem → nEnv → Prop} {S : Tr} {a d nm : Int} {t : Nat} (hcap : Cap μ ε (t + 1)) (hT : CT S μ ε) (hB : tB S) (hA : tAt S μ a d) (hnm : 1 ≤ nm ∧ nm ≤ 99) (h : tCl S d nm = 0 → Q (.inl none) μ ε) (hx : tCl S d nm ≠ 0 → (∀ ε', thr ε ε' → Q (.inr xS) μ ε')) : Sp mX6_refuseTakenName [vR 1, vR a, vI nm] μ ε Q := by
  refine Sp_of (L := [(0, vR 1), (1, vR a), (2, vI nm)]) (by decide) rfl rfl (Nat.le_of_ble_eq_true rfl) ?_
  have hroom := Cap_room hcap
  have hsT := hT.1
  obtain ⟨a0, hI, aw, cw⟩ := tAt_sh hT hA
  obtain ⟨hk, hkc, hlc⟩ := id hI
  have bb := hB.2 _ (tAt_mem hA)
  have bc := bb.2.2.2 nm (by omega) (by omega)
  refine wq_aload_n (pc := 0) dX6_refuseTakenName_0 rfl rfl ?_
  refine wq_iload_n (pc := 1) dX6_refuseTakenName_1 rfl rfl ?_
  refine cV_1 (pc := 2) dX6_refuseTakenName_2 (cw_X6_116 _ rfl) (by decide) (by with_reducible assumption) ⟨by decide, by decide⟩ (Nat.le_of_ble_eq_true rfl) (sp_X1_cell hI (by unfold inR; omega) ?_)
  refine kr_s ?_
  rw [tAt_cell hT hA (by omega) (by omega)]
  refine wq_if_eq (pc := 5) (tgt := 19) dX6_refuseTakenName_5 (by decide) (by first | (unfold inR; omega) | assumption) (fun c1 => ?_) (fun c1 => ?_)
  · skip
    refine wq_vret (pc := 19) dX6_refuseTakenName_19 rfl ?_
    first | exact hx (by omega) _ ht | exact h (by omega)
  · skip
    refine wq_throwW (pc := 8) dX6_refuseTakenName_8 dX6_refuseTakenName_11 dX6_refuseTakenName_12 dX6_refuseTakenName_15 dX6_refuseTakenName_18 rfl th_S ks_X6_285 (by decide) (by decide) (Nat.le_of_ble_eq_true rfl) hroom (fun ε' ht => ?_)
    first | exact hx (by omega) _ ht | exact h (by omega)
theorem sp_X6_refuseWrongPlace {μ : nMem} {ε : nEnv} {Q : nOut → nMem → nEnv → Prop} {S : Tr} {a f p : Int} {t : Nat} (hcap : Cap μ ε (t + 1)) (hT : CT S μ ε) (hB : tB S) (hA : tAt S μ a f) (r1 : inR p) (h : 0 ≤ p ∧ p < tFd S f 6 → Q (.inl none) μ ε) (hx : ¬ (0 ≤ p ∧ p < tFd S f 6) → (∀ ε', thr ε ε' → Q (.inr xI) μ ε')) : Sp mX6_refuseWrongPlace [vR 1, vR a, vI p] μ ε Q := by
  refine Sp_of (L := [(0, vR 1), (1, vR a), (2, vI p)]) (by decide) rfl rfl (Nat.le_of_ble_eq_true rfl) ?_
  have hroom := Cap_room hcap
  have hsT := hT.1
  obtain ⟨a0, hI, aw, cw⟩ := tAt_sh hT hA
  obtain ⟨hk, hkc, hlc⟩ := id hI
  have f6 := (tAt_is hT hA).2.1 6 (by omega) (by omega)
  have bb := (hB.2 _ (tAt_mem hA)).2.2.1 6 (by omega) (by omega)
  refine wq_iload_n (pc := 0) dX6_refuseWrongPlace_0 rfl rfl ?_
  refine wq_if_lt (pc := 1) (tgt := 12) dX6_refuseWrongPlace_1 (by decide) (by first | (unfold inR; omega) | assumption) (fun c1 => ?_) (fun c1 => ?_)
  · skip
    refine wq_throwW (pc := 12) dX6_refuseWrongPlace_12 dX6_refuseWrongPlace_15 dX6_refuseWrongPlace_16 dX6_refuseWrongPlace_19 dX6_refuseWrongPlace_22 rfl th_X ks_X6_297 (by decide) (by decide) (Nat.le_of_ble_eq_true rfl) hroom (fun ε' ht => ?_)
    first | exact hx (by omega) _ ht | exact h (by omega)
  · skip
    refine wq_iload_n (pc := 4) dX6_refuseWrongPlace_4 rfl rfl ?_
    refine wq_aload_n (pc := 5) dX6_refuseWrongPlace_5 rfl rfl ?_
    refine wq_getI (pc := 6) (kk := 6) dX6_refuseWrongPlace_6 (gf_X6_138 _ rfl) (by with_reducible assumption) rfl rfl rfl ?_
    refine wq_icmp_lt (pc := 9) (tgt := 23) dX6_refuseWrongPlace_9 (by decide) (by first | (unfold inR; omega) | assumption) (by first | (unfold inR; omega) | assumption) (fun c2 => ?_) (fun c2 => ?_)
    · skip
      refine wq_vret (pc := 23) dX6_refuseWrongPlace_23 rfl ?_
      first | exact hx (by omega) _ ht | exact h (by omega)
    · skip
      refine wq_throwW (pc := 12) dX6_refuseWrongPlace_12 dX6_refuseWrongPlace_15 dX6_refuseWrongPlace_16 dX6_refuseWrongPlace_19 dX6_refuseWrongPlace_22 rfl th_X ks_X6_297 (by decide) (by decide) (Nat.le_of_ble_eq_true rfl) hroom (fun ε' ht => ?_)
      first | exact hx (by omega) _ ht | exact h (by omega)
theorem sp_X6_refuseWrongBlock {μ : nMem} {ε : nEnv} {Q : nOut → nMem → nEnv → Prop} {b : Int} {t : Nat} (hcap : Cap μ ε (t + 1)) (r1 : inR b) (h : 0 ≤ b ∧ b < 8 → Q (.inl none) μ ε) (hx : ¬ (0 ≤ b ∧ b < 8) → (∀ ε', thr ε ε' → Q (.inr xI) μ ε')) : Sp mX6_refuseWrongBlock [vR 1, vI b] μ ε Q := by
  refine Sp_of (L := [(0, vR 1), (1, vI b)]) (by decide) rfl rfl (Nat.le_of_ble_eq_true rfl) ?_
  have hroom := Cap_room hcap
  refine wq_iload_n (pc := 0) dX6_refuseWrongBlock_0 rfl rfl ?_
  refine wq_if_lt (pc := 1) (tgt := 10) dX6_refuseWrongBlock_1 (by decide) (by first | (unfold inR; omega) | assumption) (fun c1 => ?_) (fun c1 => ?_)
  · skip
    refine wq_throwW (pc := 10) dX6_refuseWrongBlock_10 dX6_refuseWrongBlock_13 dX6_refuseWrongBlock_14 dX6_refuseWrongBlock_17 dX6_refuseWrongBlock_20 rfl th_X ks_X6_299 (by decide) (by decide) (Nat.le_of_ble_eq_true rfl) hroom (fun ε' ht => ?_)
    first | exact hx (by omega) _ ht | exact h (by omega)
  · skip
    refine wq_iload_n (pc := 4) dX6_refuseWrongBlock_4 rfl rfl ?_
    refine wq_bipush (pc := 5) dX6_refuseWrongBlock_5 (by decide) (by decide) ?_
    refine wq_icmp_lt (pc := 7) (tgt := 21) dX6_refuseWrongBlock_7 (by decide) (by first | (unfold inR; omega) | assumption) (by first | (unfold inR; omega) | assumption) (fun c2 => ?_) (fun c2 => ?_)
    · skip
      refine wq_vret (pc := 21) dX6_refuseWrongBlock_21 rfl ?_
      first | exact hx (by omega) _ ht | exact h (by omega)
    · skip
      refine wq_throwW (pc := 10) dX6_refuseWrongBlock_10 dX6_refuseWrongBlock_13 dX6_refuseWrongBlock_14 dX6_refuseWrongBlock_17 dX6_refuseWrongBlock_20 rfl th_X ks_X6_299 (by decide) (by decide) (Nat.le_of_ble_eq_true rfl) hroom (fun ε' ht => ?_)
      first | exact hx (by omega) _ ht | exact h (by omega)
