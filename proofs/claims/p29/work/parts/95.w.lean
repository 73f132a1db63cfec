/-! ### the world of the law's methods -/
theorem skM_k {x : Int} {kd : Nat} {ln : Int} {fs : List Int} (h : skM x = some (kd, ln, fs)) : (21 ≤ x ∧ x ≤ 25) ∧ (kd = 11 ∨ kd = 12) := by
  match x, h with
  | .negSucc _, h => exact absurd h (by intro z; cases z)
  | .ofNat n, h =>
    obtain ⟨w, h1, h2⟩ := Option.bind_eq_some_iff.mp h
    have a := (List.getElem?_eq_some_iff.mp h1).1
    have a : n - 21 < 5 := a
    cases hb : Nat.ble 21 n with
    | false => rw [hb] at h2; exact absurd h2 (by intro z; cases z)
    | true =>
      have := Nat.le_of_ble_eq_true hb
      have hn : n = 21 ∨ n = 22 ∨ n = 23 ∨ n = 24 ∨ n = 25 := by omega
      refine ⟨by show 21 ≤ (n : Int) ∧ (n : Int) ≤ 25; omega, ?_⟩
      rw [hb] at h2
      have h2 : w = (kd, ln, fs) := Option.some.inj h2
      rcases hn with e | e | e | e | e <;> (subst e; have h1 := Option.some.inj h1; rw [← h1] at h2; injection h2 with q; omega)
theorem skM_kind {ε : nEnv} (h : SkP skM ε) {x : Int} (x0 : 21 ≤ x) (x1 : x ≤ 25) : eKind ε x = 11 ∨ eKind ε x = 12 := by
  have hx : x = 21 ∨ x = 22 ∨ x = 23 ∨ x = 24 ∨ x = 25 := by omega
  rcases hx with e | e | e | e | e <;> subst e
  · exact Or.inl (h 21 11 2 [] rfl (by decide)).1
  · exact Or.inl (h 22 11 60 [] rfl (by decide)).1
  · exact Or.inl (h 23 11 8 [] rfl (by decide)).1
  · exact Or.inl (h 24 11 8 [] rfl (by decide)).1
  · exact Or.inr (h 25 12 64 [] rfl (by decide)).1
/-- the class's state lies outside of the law's rows -/
theorem MC_M {A : AS} {nb vb : Int} {μ m : nMem} {ε : nEnv} (h : MC A nb vb μ ε) (h7 : SkP skM ε) (e : ∀ x j, x < 21 ∨ 25 < x → m x j = μ x j) : MC A nb vb m ε := by
  obtain ⟨S, ⟨⟨a1, a2, a3, a4, a5, a6, a7, a8⟩, hL, ⟨t1, t2, t3, t4, t5, t6, t7⟩⟩, hB, hI, hD, hk, hon⟩ := h
  have e3 : ∀ i, m 3 i = μ 3 i := fun i => e 3 i (by omega)
  have e13 : ∀ i, m 13 i = μ 13 i := fun i => e 13 i (by omega)
  have hrow : ∀ i, nRow m i = nRow μ i := fun i => by unfold nRow; rw [e3]
  have out : ∀ x, eKind ε x = 5 → 21 ≤ x → x ≤ 25 → False := fun x hx x0 x1 => by
    have := skM_kind h7 x0 x1; omega
  have hro : ∀ i j, m (nRow μ i) j = μ (nRow μ i) j := fun i j => by
    by_cases c : nRow μ i < 21 ∨ 25 < nRow μ i
    · exact e _ j c
    · exact absurd (out _ (nRow_kd a1 a2 i) (by omega) (by omega)) id
  have hnB : ∀ i, nB m (nRow m i) := fun i => by
    have q := a2.2.2 i
    rw [hrow]
    unfold nB at q ⊢
    simp only [hro]
    exact q
  have hit : ∀ i : Nat, i < (tNl S).length → μ 13 i < 21 ∨ 25 < μ 13 i := fun i hi => by
    have q := (t2.1 i (by omega) (by omega) (t7 i hi).1).2.1
    omega
  have hic : ∀ i : Nat, i < (tNl S).length → eFin ε (μ 13 i) 0 < 21 ∨ 25 < eFin ε (μ 13 i) 0 := fun i hi => by
    have q := (t2.1 i (by omega) (by omega) (t7 i hi).1).2.2
    omega
  refine ⟨S, ⟨⟨a1, ⟨fun i i0 i1 => by rw [e3]; exact a2.1 i i0 i1, fun i j i0 i1 j0 j1 => by rw [e3, e3]; exact a2.2.1 i j i0 i1 j0 j1, hnB⟩, fun i i0 i1 k k0 k1 => by rw [hrow, hro]; exact a3 i i0 i1 k k0 k1, fun i => by rw [hrow, hro]; exact a4 i, fun b b0 b1 => by rw [e 4 b (by omega), e 5 b (by omega), e 6 b (by omega)]; exact a5 b b0 b1, by rw [e 2 5 (by omega)]; exact a6, by rw [e 2 6 (by omega)]; exact a7, fun k k0 k1 => by rw [e 7 k (by omega)]; exact a8 k k0 k1⟩, ?_, ⟨t1, ?_, t3, t4, by rw [e 12 2 (by omega)]; exact t5, by rw [e 12 3 (by omega)]; exact t6, fun i hi => ?_⟩⟩, hB, hI, hD, hk, hon⟩
  · obtain ⟨l1, l2, l3, l4, l5, l6⟩ := hL
    exact ⟨by rw [e 8 4 (by omega)]; exact l1, by rw [e 8 5 (by omega)]; exact l2, fun i hi => by rw [e 10 i (by omega)]; exact l3 i hi, by rw [e 8 6 (by omega)]; exact l4, fun i hi => by rw [e 11 i (by omega)]; exact l5 i hi, l6⟩
  · unfold nItems at t2 ⊢
    simp only [e13]
    exact t2
  · obtain ⟨q1, q2, q3, q4⟩ := t7 i hi
    have ea : ∀ j, m (μ 13 i) j = μ (μ 13 i) j := fun j => e _ j (hit i hi)
    have eb : ∀ j, m (eFin ε (μ 13 i) 0) j = μ (eFin ε (μ 13 i) 0) j := fun j => e _ j (hic i hi)
    rw [e13]
    refine ⟨q1, by rw [ea]; exact q2, fun k k0 k1 => by rw [ea]; exact q3 k k0 k1, fun j j0 j1 => by rw [eb]; exact q4 j j0 j1⟩
/-- a call that leaves the state: nothing more is allowed than before -/
theorem MC_keep {A : AS} {nb vb nb' vb' : Int} {μ μ9 : nMem} {ε ε9 : nEnv} (h : MC A nb vb μ ε) (h9 : MC A nb' vb' μ9 ε9) : MC A nb vb μ9 ε9 := by
  obtain ⟨S, hC, hB, hI, hD, hk, hon⟩ := h
  obtain ⟨S9, hC9, hB9, hI9, hD9, hk9, hon9⟩ := h9
  refine ⟨S9, hC9, hB9, hI, hD, hk9, fun q => ?_⟩
  obtain ⟨fl, ⟨a1, a2, a3, a4, a5, a6, a7, a8, a9, a10⟩, -⟩ := hon q
  obtain ⟨fl9, ⟨b1, b2, b3, b4, b5, b6, b7, b8, b9, b10⟩, c⟩ := hon9 q
  exact ⟨fl9, ⟨b1, b2, b3, b4, b5, b6, b7, a8, a9, b10⟩, c⟩
def Wd (N : Int) (A : AS) (nb vb : Int) (t : Nat) (X μ : nMem) (ε : nEnv) : Prop :=
  MC A nb vb μ ε ∧ Cap μ ε t ∧ SkP skM ε ∧ (∀ x j, (21 ≤ x ∧ x ≤ 25) ∨ x = -1 → μ x j = X x j) ∧ eLen ε (-1) = N
theorem Wd_fr {N : Int} {A A' : AS} {nb vb nb' vb' : Int} {t t' : Nat} {X μ μ9 : nMem} {ε ε9 : nEnv} (h : Wd N A nb vb t X μ ε) (hM : MC A' nb' vb' μ9 ε9) (hc : Cap μ9 ε9 t') (hF : FrN μ ε μ9 ε9) : Wd N A' nb' vb' t' X μ9 ε9 := by
  obtain ⟨h1, h2, h3, h4, h5⟩ := h
  obtain ⟨f1, f2, f3⟩ := hF
  refine ⟨hM, hc, SkP_ext h3 f2, fun x j hx => ?_, f3.trans h5⟩
  rw [f1 x ?_ j]
  · exact h4 x j hx
  · rcases hx with hx | hx
    · have := skM_kind h3 hx.1 hx.2
      exact Or.inl ⟨hx.1, hx.2, by omega, by omega, by omega⟩
    · exact Or.inr hx
theorem Wd_q {N : Int} {A A' : AS} {nb vb nb' vb' : Int} {t t' : Nat} {X μ μ9 : nMem} {ε ε9 : nEnv} (hA : A' = A) (h : Wd N A nb vb t X μ ε) (hM : MC A' nb' vb' μ9 ε9) (hc : Cap μ9 ε9 t') (hF : FrN μ ε μ9 ε9) : Wd N A nb vb t' X μ9 ε9 := by
  subst hA; exact Wd_fr h (MC_keep h.1 hM) hc hF
theorem Wd_1 {N : Int} {A : AS} {nb vb : Int} {t : Nat} {X μ : nMem} {ε : nEnv} (h : Wd N A nb vb t X μ ε) : eKind ε 1 = 7 := by
  obtain ⟨⟨S, ⟨hC, -⟩, -⟩, -⟩ := h
  exact (hC.1 1 7 0 _ rfl (by decide)).1
theorem Wd_t {N : Int} {A : AS} {nb vb : Int} {t s : Nat} {X μ : nMem} {ε : nEnv} (h : Wd N A nb vb t X μ ε) (hs : s ≤ t) : Wd N A nb vb s X μ ε := ⟨h.1, Cap_mono h.2.1 hs, h.2.2⟩
theorem Wd_x {N : Int} {A : AS} {nb vb : Int} {t : Nat} {X μ : nMem} {ε : nEnv} (h : Wd N A nb vb t X μ ε) {x : Int} (hx : 21 ≤ x ∧ x ≤ 25) : μ x = X x := funext (fun j => h.2.2.2.1 x j (Or.inl hx))
/-- the law's rows written -/
theorem Wd_w {N : Int} {A : AS} {nb vb : Int} {t : Nat} {X μ μ9 : nMem} {ε : nEnv} (h : Wd N A nb vb t X μ ε) (e : ∀ x j, x < 21 ∨ 25 < x → μ9 x j = μ x j) : Wd N A nb vb t μ9 μ9 ε ∧ ∀ j, μ9 (-1) j = X (-1) j := by
  obtain ⟨h1, h2, h3, h4, h5⟩ := h
  exact ⟨⟨MC_M h1 h3 e, Cap_congr h2 (fun i => e 3 i (by omega)) (fun i => e 13 i (by omega)) rfl rfl, h3, fun _ _ _ => rfl, h5⟩, fun j => by rw [e (-1) j (by omega)]; exact h4 (-1) j (Or.inr rfl)⟩
/-- the law's own rows are within bounds -/
def LX (X : nMem) : Prop := (0 ≤ X 21 0 ∧ X 21 0 ≤ 15) ∧ (0 ≤ X 21 1 ∧ X 21 1 ≤ 8) ∧ (∀ j, inR (X 22 j)) ∧ (∀ j, inR (X 23 j)) ∧ ∀ j, inR (X 24 j)
theorem sW_find {N : Int} {A : AS} {nb vb d v : Int} {t : Nat} {X μ : nMem} {ε : nEnv} {Q : nOut → nMem → nEnv → Prop} (hW : Wd N A nb vb t X μ ε) (hX : LX X) (r1 : inR d) (r2 : inR v) (h : Q (.inl (some (vI (lsP (pF (X 22) d v) (X 21 0).toNat)))) μ ε) : Sp mL_find [vR 21, vR 22, vI d, vI v] μ ε Q := by
  have e1 := Wd_x hW (x := 21) (by omega)
  have e2 := Wd_x hW (x := 22) (by omega)
  obtain ⟨a, b, c, -⟩ := hX
  refine sp_L_find hW.2.2.1 (by rw [e1]; exact a.1) (by rw [e1]; exact a.2) (by rw [e2]; exact c) r1 r2 ?_
  rw [e1, e2]; exact h
theorem sW_links {N : Int} {A : AS} {nb vb v : Int} {t : Nat} {X μ : nMem} {ε : nEnv} {Q : nOut → nMem → nEnv → Prop} (hW : Wd N A nb vb t X μ ε) (hX : LX X) (r1 : inR v) (h : Q (.inl (some (vI (cR (pT (X 22) v) (X 21 0).toNat)))) μ ε) : Sp mL_links [vR 21, vR 22, vI v] μ ε Q := by
  have e1 := Wd_x hW (x := 21) (by omega)
  have e2 := Wd_x hW (x := 22) (by omega)
  obtain ⟨a, b, c, -⟩ := hX
  refine sp_L_links hW.2.2.1 (by rw [e1]; exact a.1) (by rw [e1]; exact a.2) (by rw [e2]; exact c) r1 ?_
  rw [e1, e2]; exact h
theorem sW_namesIn {N : Int} {A : AS} {nb vb v : Int} {t : Nat} {X μ : nMem} {ε : nEnv} {Q : nOut → nMem → nEnv → Prop} (hW : Wd N A nb vb t X μ ε) (hX : LX X) (r1 : inR v) (h : Q (.inl (some (vI (cR (pD (X 22) v) (X 21 0).toNat)))) μ ε) : Sp mL_namesIn [vR 21, vR 22, vI v] μ ε Q := by
  have e1 := Wd_x hW (x := 21) (by omega)
  have e2 := Wd_x hW (x := 22) (by omega)
  obtain ⟨a, b, c, -⟩ := hX
  refine sp_L_namesIn hW.2.2.1 (by rw [e1]; exact a.1) (by rw [e1]; exact a.2) (by rw [e2]; exact c) r1 ?_
  rw [e1, e2]; exact h
theorem sW_slot {N : Int} {A : AS} {nb vb v : Int} {t : Nat} {X μ : nMem} {ε : nEnv} {Q : nOut → nMem → nEnv → Prop} (hW : Wd N A nb vb t X μ ε) (hX : LX X) (r1 : inR v) (h : Q (.inl (some (vI (lsP (pZ (X 23) v) (X 21 1).toNat)))) μ ε) : Sp mL_slot [vR 21, vR 23, vI v] μ ε Q := by
  have e1 := Wd_x hW (x := 21) (by omega)
  have e2 := Wd_x hW (x := 23) (by omega)
  obtain ⟨a, b, c, d, -⟩ := hX
  refine sp_L_slot hW.2.2.1 (by rw [e1]; exact b.1) (by rw [e1]; exact b.2) (by rw [e2]; exact d) r1 ?_
  rw [e1, e2]; exact h
theorem sW_isDirectory {N : Int} {A : AS} {nb vb v : Int} {t : Nat} {X μ : nMem} {ε : nEnv} {Q : nOut → nMem → nEnv → Prop} (hW : Wd N A nb vb t X μ ε) (hX : LX X) (r1 : inR v) (h1 : qY (X 22) v (X 21 0) → Q (.inl (some (vI 1))) μ ε) (h0 : ¬ qY (X 22) v (X 21 0) → Q (.inl (some (vI 0))) μ ε) : Sp mL_isDirectory [vR 21, vR 22, vI v] μ ε Q := by
  have e1 := Wd_x hW (x := 21) (by omega)
  have e2 := Wd_x hW (x := 22) (by omega)
  obtain ⟨a, b, c, -⟩ := hX
  refine sp_L_isDirectory hW.2.2.1 (by rw [e1]; exact a.1) (by rw [e1]; exact a.2) (by rw [e2]; exact c) r1 ?_ ?_
  · rw [e1, e2]; exact h1
  · rw [e1, e2]; exact h0
theorem sW_byteAt {N : Int} {A : AS} {nb vb i p : Int} {t : Nat} {X μ : nMem} {ε : nEnv} {Q : nOut → nMem → nEnv → Prop} (hW : Wd N A nb vb t X μ ε) (i0 : 0 ≤ i ∧ i < 8) (p0 : 0 ≤ p ∧ p < 64) (h : Q (.inl (some (vI (cB (X 25) i p)))) μ ε) : Sp mL_byteAt [vR 25, vI i, vI p] μ ε Q := by
  have e2 := Wd_x hW (x := 25) (by omega)
  refine sp_L_byteAt hW.2.2.1 i0 p0 ?_
  rw [e2]; exact h
theorem wq_ialdX {M : nM} {pc : Nat} {L : List (Nat × nV)} {st : List nV} {μ : nMem} {ε : nEnv} {tb : List ExceptionTableEntry → Prop} {Fn : nG → Nat → Nat → List Frame → Array Value → State → State → Prop} {N : Int} {A : AS} {nb vb : Int} {t : Nat} {X : nMem} {x i ln : Int} {fs : List Int} (hd : decode (mCode M) pc = .ok (.iaload, 1)) (hW : Wd N A nb vb t X μ ε) (hk : skM x = some (11, ln, fs)) (h0 : 0 ≤ i) (h1 : i < ln) (k9 : wpF M (pc + 1) L (vI (X x i) :: st) μ ε tb Fn) : wpF M pc L (vI i :: vR x :: st) μ ε tb Fn := by
  have hx := (skM_k hk).1
  refine wq_ialdK hd hW.2.2.1 hk h0 h1 ?_
  rw [hW.2.2.2.1 x i (Or.inl hx)]; exact k9
theorem cl_create {N : Int} {A : AS} {nb vb : Int} {t : Nat} {X μ : nMem} {ε : nEnv} {Q : nOut → nMem → nEnv → Prop} {d nm : Int} (hW : Wd N A nb vb (t + 1) X μ ε) (hnb : nb + 1 ≤ 2000) (hvb : vb + 2 ≤ 4000) (r0 : inR d) (r1 : inR nm) (h : ∀ μ9 ε9, Wd N (actCreate A d nm).2 (nb + 1) (vb + 2) t X μ9 ε9 → Q (oc (actCreate A d nm).1) μ9 ε9) : Sp mX6_create [vR 1, vI d, vI nm] μ ε Q :=
  sp_X6_create hW.1 hW.2.1 hnb hvb r0 r1 (fun μ9 ε9 a b c => h μ9 ε9 (Wd_fr hW a b c))
theorem cl_makeDirectory {N : Int} {A : AS} {nb vb : Int} {t : Nat} {X μ : nMem} {ε : nEnv} {Q : nOut → nMem → nEnv → Prop} {d nm : Int} (hW : Wd N A nb vb (t + 1) X μ ε) (hnb : nb + 1 ≤ 2000) (hvb : vb + 2 ≤ 4000) (r0 : inR d) (r1 : inR nm) (h : ∀ μ9 ε9, Wd N (actMkdir A d nm).2 (nb + 1) (vb + 2) t X μ9 ε9 → Q (oc (actMkdir A d nm).1) μ9 ε9) : Sp mX6_makeDirectory [vR 1, vI d, vI nm] μ ε Q :=
  sp_X6_makeDirectory hW.1 hW.2.1 hnb hvb r0 r1 (fun μ9 ε9 a b c => h μ9 ε9 (Wd_fr hW a b c))
theorem cl_link {N : Int} {A : AS} {nb vb : Int} {t : Nat} {X μ : nMem} {ε : nEnv} {Q : nOut → nMem → nEnv → Prop} {d nm f : Int} (hW : Wd N A nb vb (t + 1) X μ ε) (hnb : nb + 1 ≤ 2000) (hvb : vb + 2 ≤ 4000) (r0 : inR d) (r1 : inR nm) (r2 : inR f) (h : ∀ μ9 ε9, Wd N (actLink A d nm f).2 (nb + 1) (vb + 2) t X μ9 ε9 → Q (oc (actLink A d nm f).1) μ9 ε9) : Sp mX6_link [vR 1, vI d, vI nm, vI f] μ ε Q :=
  sp_X6_link hW.1 hW.2.1 hnb hvb r0 r1 r2 (fun μ9 ε9 a b c => h μ9 ε9 (Wd_fr hW a b c))
theorem cl_unlink {N : Int} {A : AS} {nb vb : Int} {t : Nat} {X μ : nMem} {ε : nEnv} {Q : nOut → nMem → nEnv → Prop} {d nm : Int} (hW : Wd N A nb vb (t + 1) X μ ε) (hnb : nb + 1 ≤ 2000) (hvb : vb + 2 ≤ 4000) (r0 : inR d) (r1 : inR nm) (h : ∀ μ9 ε9, Wd N (actUnlink A d nm).2 (nb + 1) (vb + 2) t X μ9 ε9 → Q (oc (actUnlink A d nm).1) μ9 ε9) : Sp mX6_unlink [vR 1, vI d, vI nm] μ ε Q :=
  sp_X6_unlink hW.1 hW.2.1 hnb hvb r0 r1 (fun μ9 ε9 a b c => h μ9 ε9 (Wd_fr hW a b c))
theorem cl_rename {N : Int} {A : AS} {nb vb : Int} {t : Nat} {X μ : nMem} {ε : nEnv} {Q : nOut → nMem → nEnv → Prop} {d nm d2 nm2 : Int} (hW : Wd N A nb vb (t + 1) X μ ε) (hnb : nb + 1 ≤ 2000) (hvb : vb + 2 ≤ 4000) (r0 : inR d) (r1 : inR nm) (r2 : inR d2) (r3 : inR nm2) (h : ∀ μ9 ε9, Wd N (actRename A d nm d2 nm2).2 (nb + 1) (vb + 2) t X μ9 ε9 → Q (oc (actRename A d nm d2 nm2).1) μ9 ε9) : Sp mX6_rename [vR 1, vI d, vI nm, vI d2, vI nm2] μ ε Q :=
  sp_X6_rename hW.1 hW.2.1 hnb hvb r0 r1 r2 r3 (fun μ9 ε9 a b c => h μ9 ε9 (Wd_fr hW a b c))
theorem cl_write {N : Int} {A : AS} {nb vb : Int} {t : Nat} {X μ : nMem} {ε : nEnv} {Q : nOut → nMem → nEnv → Prop} {f off b n : Int} (hW : Wd N A nb vb (t + 1) X μ ε) (hnb : nb + 1 ≤ 2000) (hvb : vb + 2 ≤ 4000) (r0 : inR f) (r1 : inR off) (r3 : inR n) (h : ∀ μ9 ε9, Wd N (actWrite A f off b n).2 (nb + 1) (vb + 2) t X μ9 ε9 → Q (oc (actWrite A f off b n).1) μ9 ε9) : Sp mX6_write [vR 1, vI f, vI off, vJ b, vI n] μ ε Q :=
  sp_X6_write hW.1 hW.2.1 hnb hvb r0 r1 r3 (fun μ9 ε9 a b c => h μ9 ε9 (Wd_fr hW a b c))
theorem cl_truncate {N : Int} {A : AS} {nb vb : Int} {t : Nat} {X μ : nMem} {ε : nEnv} {Q : nOut → nMem → nEnv → Prop} {f z : Int} (hW : Wd N A nb vb (t + 1) X μ ε) (hnb : nb + 1 ≤ 2000) (hvb : vb + 2 ≤ 4000) (r0 : inR f) (r1 : inR z) (h : ∀ μ9 ε9, Wd N (actTrunc A f z).2 (nb + 1) (vb + 2) t X μ9 ε9 → Q (oc (actTrunc A f z).1) μ9 ε9) : Sp mX6_truncate [vR 1, vI f, vI z] μ ε Q :=
  sp_X6_truncate hW.1 hW.2.1 hnb hvb r0 r1 (fun μ9 ε9 a b c => h μ9 ε9 (Wd_fr hW a b c))
theorem cl_collect {N : Int} {A : AS} {nb vb : Int} {t : Nat} {X μ : nMem} {ε : nEnv} {Q : nOut → nMem → nEnv → Prop} {dr : Int} (hW : Wd N A nb vb (t + 1) X μ ε) (hnb : nb + 1 ≤ 2000) (hvb : vb + 2 ≤ 4000) (r0 : inR dr) (h : ∀ μ9 ε9, Wd N (actCollect A dr).2 (nb + 1) (vb + 2) t X μ9 ε9 → Q (oc (actCollect A dr).1) μ9 ε9) : Sp mX6_collect [vR 1, vI dr] μ ε Q :=
  sp_X6_collect hW.1 hW.2.1 hnb hvb r0 (fun μ9 ε9 a b c => h μ9 ε9 (Wd_fr hW a b c))
theorem cl_cut {N : Int} {A : AS} {nb vb : Int} {t : Nat} {X μ : nMem} {ε : nEnv} {Q : nOut → nMem → nEnv → Prop} {u : Int} (hW : Wd N A nb vb (t + 1) X μ ε) (hnb : nb + 1 ≤ 2000) (hvb : vb + 2 ≤ 4000) (r0 : inR u) (h : ∀ μ9 ε9, Wd N (actCut A u).2 (nb + 1) (vb + 2) t X μ9 ε9 → Q (oc (actCut A u).1) μ9 ε9) : Sp mX6_cut [vR 1, vI u] μ ε Q :=
  sp_X6_cut hW.1 hW.2.1 hnb hvb r0 (fun μ9 ε9 a b c => h μ9 ε9 (Wd_fr hW a b c))
theorem cl_mount {N : Int} {A : AS} {nb vb : Int} {t : Nat} {X μ : nMem} {ε : nEnv} {Q : nOut → nMem → nEnv → Prop} {s : Int} (hW : Wd N A nb vb (t + 1) X μ ε) (hnb : nb + 1 ≤ 2000) (hvb : vb + 2 ≤ 4000) (hv0 : 0 ≤ vb) (hs : s = 0 ∨ s = 1) (h : ∀ μ9 ε9, Wd N (actMount A s).2 (nb + 1) (vb + 2) t X μ9 ε9 → Q (oc (actMount A s).1) μ9 ε9) : Sp mX6_mount [vR 1, vI s] μ ε Q :=
  sp_X6_mount hW.1 hW.2.1 hnb hvb ⟨hv0, by omega⟩ hs (fun μ9 ε9 a b c => h μ9 ε9 (Wd_fr hW a b c))
theorem pI_2 {c : Prop} {a b : Ans × AS} {A : AS} (h1 : a.2 = A) (h2 : b.2 = A) : (pI c a b).2 = A := by
  by_cases q : c
  · rw [pI_1 q]; exact h1
  · rw [pI_0 q]; exact h2
theorem cl_isDark {N : Int} {A : AS} {nb vb : Int} {t : Nat} {X μ : nMem} {ε : nEnv} {Q : nOut → nMem → nEnv → Prop} (hW : Wd N A nb vb (t + 1) X μ ε) (hnb : nb + 1 ≤ 2000) (hvb : vb + 2 ≤ 4000)  (h : ∀ μ9 ε9, Wd N A nb vb t X μ9 ε9 → Q (oc (actDark A).1) μ9 ε9) : Sp mX6_isDark [vR 1] μ ε Q :=
  sp_X6_isDark hW.1 hW.2.1 hnb hvb  (fun μ9 ε9 a b c => h μ9 ε9 (Wd_q (rfl) hW a b c))
theorem cl_lookUp {N : Int} {A : AS} {nb vb : Int} {t : Nat} {X μ : nMem} {ε : nEnv} {Q : nOut → nMem → nEnv → Prop} {d nm : Int} (hW : Wd N A nb vb (t + 1) X μ ε) (hnb : nb + 1 ≤ 2000) (hvb : vb + 2 ≤ 4000) (r0 : inR d) (r1 : inR nm) (h : ∀ μ9 ε9, Wd N A nb vb t X μ9 ε9 → Q (oc (actLookUp A d nm).1) μ9 ε9) : Sp mX6_lookUp [vR 1, vI d, vI nm] μ ε Q :=
  sp_X6_lookUp hW.1 hW.2.1 hnb hvb r0 r1 (fun μ9 ε9 a b c => h μ9 ε9 (Wd_q (pI_2 rfl (pI_2 rfl rfl)) hW a b c))
theorem cl_names {N : Int} {A : AS} {nb vb : Int} {t : Nat} {X μ : nMem} {ε : nEnv} {Q : nOut → nMem → nEnv → Prop} {d : Int} (hW : Wd N A nb vb (t + 1) X μ ε) (hnb : nb + 1 ≤ 2000) (hvb : vb + 2 ≤ 4000) (r0 : inR d) (h : ∀ μ9 ε9, Wd N A nb vb t X μ9 ε9 → Q (oc (actNames A d).1) μ9 ε9) : Sp mX6_names [vR 1, vI d] μ ε Q :=
  sp_X6_names hW.1 hW.2.1 hnb hvb r0 (fun μ9 ε9 a b c => h μ9 ε9 (Wd_q (pI_2 rfl (pI_2 rfl rfl)) hW a b c))
theorem cl_nameAt {N : Int} {A : AS} {nb vb : Int} {t : Nat} {X μ : nMem} {ε : nEnv} {Q : nOut → nMem → nEnv → Prop} {d p : Int} (hW : Wd N A nb vb (t + 1) X μ ε) (hnb : nb + 1 ≤ 2000) (hvb : vb + 2 ≤ 4000) (r0 : inR d) (r1 : inR p) (h : ∀ μ9 ε9, Wd N A nb vb t X μ9 ε9 → Q (oc (actNameAt A d p).1) μ9 ε9) : Sp mX6_nameAt [vR 1, vI d, vI p] μ ε Q :=
  sp_X6_nameAt hW.1 hW.2.1 hnb hvb r0 r1 (fun μ9 ε9 a b c => h μ9 ε9 (Wd_q (pI_2 rfl (pI_2 rfl rfl)) hW a b c))
theorem cl_isDirectory {N : Int} {A : AS} {nb vb : Int} {t : Nat} {X μ : nMem} {ε : nEnv} {Q : nOut → nMem → nEnv → Prop} {n : Int} (hW : Wd N A nb vb (t + 1) X μ ε) (hnb : nb + 1 ≤ 2000) (hvb : vb + 2 ≤ 4000) (r0 : inR n) (h : ∀ μ9 ε9, Wd N A nb vb t X μ9 ε9 → Q (oc (actIsDir A n).1) μ9 ε9) : Sp mX6_isDirectory [vR 1, vI n] μ ε Q :=
  sp_X6_isDirectory hW.1 hW.2.1 hnb hvb r0 (fun μ9 ε9 a b c => h μ9 ε9 (Wd_q (pI_2 rfl (pI_2 rfl rfl)) hW a b c))
theorem cl_links {N : Int} {A : AS} {nb vb : Int} {t : Nat} {X μ : nMem} {ε : nEnv} {Q : nOut → nMem → nEnv → Prop} {n : Int} (hW : Wd N A nb vb (t + 1) X μ ε) (hnb : nb + 1 ≤ 2000) (hvb : vb + 2 ≤ 4000) (r0 : inR n) (h : ∀ μ9 ε9, Wd N A nb vb t X μ9 ε9 → Q (oc (actLinks A n).1) μ9 ε9) : Sp mX6_links [vR 1, vI n] μ ε Q :=
  sp_X6_links hW.1 hW.2.1 hnb hvb r0 (fun μ9 ε9 a b c => h μ9 ε9 (Wd_q (pI_2 rfl (pI_2 rfl rfl)) hW a b c))
theorem cl_length {N : Int} {A : AS} {nb vb : Int} {t : Nat} {X μ : nMem} {ε : nEnv} {Q : nOut → nMem → nEnv → Prop} {f : Int} (hW : Wd N A nb vb (t + 1) X μ ε) (hnb : nb + 1 ≤ 2000) (hvb : vb + 2 ≤ 4000) (r0 : inR f) (h : ∀ μ9 ε9, Wd N A nb vb t X μ9 ε9 → Q (oc (actLength A f).1) μ9 ε9) : Sp mX6_length [vR 1, vI f] μ ε Q :=
  sp_X6_length hW.1 hW.2.1 hnb hvb r0 (fun μ9 ε9 a b c => h μ9 ε9 (Wd_q (pI_2 rfl (pI_2 rfl rfl)) hW a b c))
theorem cl_byteAt {N : Int} {A : AS} {nb vb : Int} {t : Nat} {X μ : nMem} {ε : nEnv} {Q : nOut → nMem → nEnv → Prop} {f p : Int} (hW : Wd N A nb vb (t + 1) X μ ε) (hnb : nb + 1 ≤ 2000) (hvb : vb + 2 ≤ 4000) (r0 : inR f) (r1 : inR p) (h : ∀ μ9 ε9, Wd N A nb vb t X μ9 ε9 → Q (oc (actByteAt A f p).1) μ9 ε9) : Sp mX6_byteAt [vR 1, vI f, vI p] μ ε Q :=
  sp_X6_byteAt hW.1 hW.2.1 hnb hvb r0 r1 (fun μ9 ε9 a b c => h μ9 ε9 (Wd_q (pI_2 rfl (pI_2 rfl rfl)) hW a b c))
theorem cl_byteByNodes {N : Int} {A : AS} {nb vb : Int} {t : Nat} {X μ : nMem} {ε : nEnv} {Q : nOut → nMem → nEnv → Prop} {f p : Int} (hW : Wd N A nb vb (t + 1) X μ ε) (hnb : nb + 1 ≤ 2000) (hvb : vb + 2 ≤ 4000) (r0 : inR f) (r1 : inR p) (h : ∀ μ9 ε9, Wd N A nb vb t X μ9 ε9 → Q (oc (actByteAt A f p).1) μ9 ε9) : Sp mX6_byteByNodes [vR 1, vI f, vI p] μ ε Q :=
  sp_X6_byteByNodes hW.1 hW.2.1 hnb hvb r0 r1 (fun μ9 ε9 a b c => h μ9 ε9 (Wd_q (pI_2 rfl (pI_2 rfl rfl)) hW a b c))
theorem cl_state {N : Int} {A : AS} {nb vb : Int} {t : Nat} {X μ : nMem} {ε : nEnv} {Q : nOut → nMem → nEnv → Prop} {b : Int} (hW : Wd N A nb vb (t + 1) X μ ε) (hnb : nb + 1 ≤ 2000) (hvb : vb + 2 ≤ 4000) (r0 : inR b) (h : ∀ μ9 ε9, Wd N A nb vb t X μ9 ε9 → Q (oc (actState A b).1) μ9 ε9) : Sp mX6_state [vR 1, vI b] μ ε Q :=
  sp_X6_state hW.1 hW.2.1 hnb hvb r0 (fun μ9 ε9 a b c => h μ9 ε9 (Wd_q (pI_2 rfl (pI_2 rfl rfl)) hW a b c))
