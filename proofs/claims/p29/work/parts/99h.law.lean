/-! ### the law's own text: its calls -/
def kontL (pc : Nat) (L : List (Nat × nV)) (st : List nV) (Q : nOut → nMem → nEnv → Prop) : nOut → nMem → nEnv → Prop := fun o μ ε => match o with
  | .inl (some r) => wpL pc L (r :: st) μ ε Q
  | .inl none => wpL pc L st μ ε Q
  | .inr _ => False
theorem lVK_0 {M' : nM} {pc idx : Nat} {L : List (Nat × nV)} {rest : List nV} {μ : nMem} {ε : nEnv} {Q : nOut → nMem → nEnv → Prop} {f : Int → Option (Nat × Int × List Int)} {ci : Nat} {x ln : Int} {fs : List Int} (hd : decode (mCode mL_law) pc = .ok (.invokevirtual idx, 3)) (hs : SkP f ε) (hw : cxV mL_law idx M' (cTab ci).1 0) (hci : ci < 7) (hk : f x = some (ci + 1, ln, fs)) (hfr : mFr M' + 1 ≤ mFr mL_law ∧ 8 + (mMax M' + 11) + mLo M' ≤ mLo mL_law) (hst8 : (rest.map nCat).sum ≤ 8) (h : Sp M' ([vR x]) μ ε (kontL (pc + 3) L rest Q)) : wpL pc L (vR x :: rest) μ ε Q :=
  wq_callV (as := []) hd hw hci (hs x _ _ _ hk (by omega)).1 hfr hst8 h (fun r _ _ q => by cases r <;> exact q) (fun _ _ _ q => absurd q id)
theorem lI_0 {M' : nM} {pc idx : Nat} {L : List (Nat × nV)} {rest : List nV} {μ : nMem} {ε : nEnv} {Q : nOut → nMem → nEnv → Prop} {x : Int} (hd : decode (mCode mL_law) pc = .ok (.invokespecial idx, 3)) (hw : cxI mL_law idx M' 0) (x1 : 1 ≤ x) (hfr : mFr M' + 1 ≤ mFr mL_law ∧ 8 + (mMax M' + 11) + mLo M' ≤ mLo mL_law) (hst8 : (rest.map nCat).sum ≤ 8) (h : Sp M' ([vR x]) μ ε (kontL (pc + 3) L rest Q)) : wpL pc L (vR x :: rest) μ ε Q :=
  wq_callI (as := []) hd hw x1 hfr hst8 h (fun r _ _ q => by cases r <;> exact q) (fun _ _ _ q => absurd q id)
theorem lVK_1 {M' : nM} {pc idx : Nat} {L : List (Nat × nV)} {rest : List nV} {μ : nMem} {ε : nEnv} {Q : nOut → nMem → nEnv → Prop} {a1 : nV} {f : Int → Option (Nat × Int × List Int)} {ci : Nat} {x ln : Int} {fs : List Int} (hd : decode (mCode mL_law) pc = .ok (.invokevirtual idx, 3)) (hs : SkP f ε) (hw : cxV mL_law idx M' (cTab ci).1 1) (hci : ci < 7) (hk : f x = some (ci + 1, ln, fs)) (hfr : mFr M' + 1 ≤ mFr mL_law ∧ 8 + (mMax M' + 11) + mLo M' ≤ mLo mL_law) (hst8 : (rest.map nCat).sum ≤ 8) (h : Sp M' ([vR x, a1]) μ ε (kontL (pc + 3) L rest Q)) : wpL pc L (a1 :: vR x :: rest) μ ε Q :=
  wq_callV (as := [a1]) hd hw hci (hs x _ _ _ hk (by omega)).1 hfr hst8 h (fun r _ _ q => by cases r <;> exact q) (fun _ _ _ q => absurd q id)
theorem lS_1 {M' : nM} {pc idx : Nat} {L : List (Nat × nV)} {rest : List nV} {μ : nMem} {ε : nEnv} {Q : nOut → nMem → nEnv → Prop} {a1 : nV} (hd : decode (mCode mL_law) pc = .ok (.invokestatic idx, 3)) (hw : cxS mL_law idx M' 1) (hfr : mFr M' + 1 ≤ mFr mL_law ∧ 8 + (mMax M' + 11) + mLo M' ≤ mLo mL_law) (hst8 : (rest.map nCat).sum ≤ 8) (h : Sp M' [a1] μ ε (kontL (pc + 3) L rest Q)) : wpL pc L (a1 :: rest) μ ε Q :=
  wq_callS (as := [a1]) hd hw hfr hst8 h (fun r _ _ q => by cases r <;> exact q) (fun _ _ _ q => absurd q id)
theorem lVK_2 {M' : nM} {pc idx : Nat} {L : List (Nat × nV)} {rest : List nV} {μ : nMem} {ε : nEnv} {Q : nOut → nMem → nEnv → Prop} {a1 a2 : nV} {f : Int → Option (Nat × Int × List Int)} {ci : Nat} {x ln : Int} {fs : List Int} (hd : decode (mCode mL_law) pc = .ok (.invokevirtual idx, 3)) (hs : SkP f ε) (hw : cxV mL_law idx M' (cTab ci).1 2) (hci : ci < 7) (hk : f x = some (ci + 1, ln, fs)) (hfr : mFr M' + 1 ≤ mFr mL_law ∧ 8 + (mMax M' + 11) + mLo M' ≤ mLo mL_law) (hst8 : (rest.map nCat).sum ≤ 8) (h : Sp M' ([vR x, a1, a2]) μ ε (kontL (pc + 3) L rest Q)) : wpL pc L (a2 :: a1 :: vR x :: rest) μ ε Q :=
  wq_callV (as := [a1, a2]) hd hw hci (hs x _ _ _ hk (by omega)).1 hfr hst8 h (fun r _ _ q => by cases r <;> exact q) (fun _ _ _ q => absurd q id)
theorem lS_2 {M' : nM} {pc idx : Nat} {L : List (Nat × nV)} {rest : List nV} {μ : nMem} {ε : nEnv} {Q : nOut → nMem → nEnv → Prop} {a1 a2 : nV} (hd : decode (mCode mL_law) pc = .ok (.invokestatic idx, 3)) (hw : cxS mL_law idx M' 2) (hfr : mFr M' + 1 ≤ mFr mL_law ∧ 8 + (mMax M' + 11) + mLo M' ≤ mLo mL_law) (hst8 : (rest.map nCat).sum ≤ 8) (h : Sp M' [a1, a2] μ ε (kontL (pc + 3) L rest Q)) : wpL pc L (a2 :: a1 :: rest) μ ε Q :=
  wq_callS (as := [a1, a2]) hd hw hfr hst8 h (fun r _ _ q => by cases r <;> exact q) (fun _ _ _ q => absurd q id)
theorem lS_3 {M' : nM} {pc idx : Nat} {L : List (Nat × nV)} {rest : List nV} {μ : nMem} {ε : nEnv} {Q : nOut → nMem → nEnv → Prop} {a1 a2 a3 : nV} (hd : decode (mCode mL_law) pc = .ok (.invokestatic idx, 3)) (hw : cxS mL_law idx M' 3) (hfr : mFr M' + 1 ≤ mFr mL_law ∧ 8 + (mMax M' + 11) + mLo M' ≤ mLo mL_law) (hst8 : (rest.map nCat).sum ≤ 8) (h : Sp M' [a1, a2, a3] μ ε (kontL (pc + 3) L rest Q)) : wpL pc L (a3 :: a2 :: a1 :: rest) μ ε Q :=
  wq_callS (as := [a1, a2, a3]) hd hw hfr hst8 h (fun r _ _ q => by cases r <;> exact q) (fun _ _ _ q => absurd q id)
theorem lS_4 {M' : nM} {pc idx : Nat} {L : List (Nat × nV)} {rest : List nV} {μ : nMem} {ε : nEnv} {Q : nOut → nMem → nEnv → Prop} {a1 a2 a3 a4 : nV} (hd : decode (mCode mL_law) pc = .ok (.invokestatic idx, 3)) (hw : cxS mL_law idx M' 4) (hfr : mFr M' + 1 ≤ mFr mL_law ∧ 8 + (mMax M' + 11) + mLo M' ≤ mLo mL_law) (hst8 : (rest.map nCat).sum ≤ 8) (h : Sp M' [a1, a2, a3, a4] μ ε (kontL (pc + 3) L rest Q)) : wpL pc L (a4 :: a3 :: a2 :: a1 :: rest) μ ε Q :=
  wq_callS (as := [a1, a2, a3, a4]) hd hw hfr hst8 h (fun r _ _ q => by cases r <;> exact q) (fun _ _ _ q => absurd q id)
theorem lS_5 {M' : nM} {pc idx : Nat} {L : List (Nat × nV)} {rest : List nV} {μ : nMem} {ε : nEnv} {Q : nOut → nMem → nEnv → Prop} {a1 a2 a3 a4 a5 : nV} (hd : decode (mCode mL_law) pc = .ok (.invokestatic idx, 3)) (hw : cxS mL_law idx M' 5) (hfr : mFr M' + 1 ≤ mFr mL_law ∧ 8 + (mMax M' + 11) + mLo M' ≤ mLo mL_law) (hst8 : (rest.map nCat).sum ≤ 8) (h : Sp M' [a1, a2, a3, a4, a5] μ ε (kontL (pc + 3) L rest Q)) : wpL pc L (a5 :: a4 :: a3 :: a2 :: a1 :: rest) μ ε Q :=
  wq_callS (as := [a1, a2, a3, a4, a5]) hd hw hfr hst8 h (fun r _ _ q => by cases r <;> exact q) (fun _ _ _ q => absurd q id)
theorem lS_6 {M' : nM} {pc idx : Nat} {L : List (Nat × nV)} {rest : List nV} {μ : nMem} {ε : nEnv} {Q : nOut → nMem → nEnv → Prop} {a1 a2 a3 a4 a5 a6 : nV} (hd : decode (mCode mL_law) pc = .ok (.invokestatic idx, 3)) (hw : cxS mL_law idx M' 6) (hfr : mFr M' + 1 ≤ mFr mL_law ∧ 8 + (mMax M' + 11) + mLo M' ≤ mLo mL_law) (hst8 : (rest.map nCat).sum ≤ 8) (h : Sp M' [a1, a2, a3, a4, a5, a6] μ ε (kontL (pc + 3) L rest Q)) : wpL pc L (a6 :: a5 :: a4 :: a3 :: a2 :: a1 :: rest) μ ε Q :=
  wq_callS (as := [a1, a2, a3, a4, a5, a6]) hd hw hfr hst8 h (fun r _ _ q => by cases r <;> exact q) (fun _ _ _ q => absurd q id)
theorem lS_7 {M' : nM} {pc idx : Nat} {L : List (Nat × nV)} {rest : List nV} {μ : nMem} {ε : nEnv} {Q : nOut → nMem → nEnv → Prop} {a1 a2 a3 a4 a5 a6 a7 : nV} (hd : decode (mCode mL_law) pc = .ok (.invokestatic idx, 3)) (hw : cxS mL_law idx M' 7) (hfr : mFr M' + 1 ≤ mFr mL_law ∧ 8 + (mMax M' + 11) + mLo M' ≤ mLo mL_law) (hst8 : (rest.map nCat).sum ≤ 8) (h : Sp M' [a1, a2, a3, a4, a5, a6, a7] μ ε (kontL (pc + 3) L rest Q)) : wpL pc L (a7 :: a6 :: a5 :: a4 :: a3 :: a2 :: a1 :: rest) μ ε Q :=
  wq_callS (as := [a1, a2, a3, a4, a5, a6, a7]) hd hw hfr hst8 h (fun r _ _ q => by cases r <;> exact q) (fun _ _ _ q => absurd q id)
/-- the state behind a step of the law: its rows say what is told; dark, or not -/
def LXs (X : nMem) : Prop := LX X ∧ X 21 0 ≤ 14 ∧ X 21 1 ≤ 7
def ST (N : Int) (A : AS) (nb vb : Int) (t : Nat) (X μ : nMem) (ε : nEnv) (w : Int) : Prop := Wd N A nb vb t X μ ε ∧ (JA (aF A) X ∧ LXs X) ∧ (VI (aF A) ∧ BI (aF A)) ∧ ((w = 0 ∧ fD (aF A) = 0 ∧ ZI (aF A)) ∨ (w = 1 ∧ fD (aF A) = 1 ∧ fL (aF A) = -1)) ∧ ∀ j, inR (X (-1) j)
theorem ST_t {N : Int} {A : AS} {nb vb nb' vb' w : Int} {t s : Nat} {X μ : nMem} {ε : nEnv} (h : ST N A nb vb t X μ ε w) (hs : s ≤ t) (h1 : nb ≤ nb') (h2 : vb ≤ vb') (h3 : nb' ≤ 2000) : ST N A nb' vb' s X μ ε w := by
  obtain ⟨⟨a, a2, a3⟩, b⟩ := h
  obtain ⟨S, hC, hB, hI, hD, hk, hon⟩ := a
  exact ⟨⟨MC_mono hC hB hI hD hk hon h1 h2 h3, Cap_mono a2 hs, a3⟩, b⟩
/-- no more blocks are counted free than lie in the row -/
theorem frN_le (A : AS) : frN A 8 ≤ ((aG A).2.1.length : Int) ∧ 0 ≤ frN A 8 ∧ frN A 8 ≤ 8 := by
  have h := cR_b (fun b => b ∈ (aG A).2.1) 8
  refine ⟨?_, h.1, h.2⟩
  have key : ∀ k : Nat, ∃ l : List Int, l.Nodup ∧ (∀ b ∈ l, b ∈ (aG A).2.1 ∧ b < k) ∧ ((l.length : Nat) : Int) = cR (fun b => b ∈ (aG A).2.1) k := fun k => by
    induction k with
    | zero => exact ⟨[], List.nodup_nil, fun b hb => absurd hb List.not_mem_nil, rfl⟩
    | succ k ih =>
      obtain ⟨l, l1, l2, l3⟩ := ih
      rw [cR_s]
      by_cases c : (k : Int) ∈ (aG A).2.1
      · refine ⟨(k : Int) :: l, List.nodup_cons.mpr ⟨fun z => by have := (l2 _ z).2; omega, l1⟩, fun b hb => ?_, ?_⟩
        · rcases List.mem_cons.mp hb with e | e
          · rw [e]; exact ⟨c, by omega⟩
          · have := l2 b e; exact ⟨this.1, by omega⟩
        · rw [pI_1 c, List.length_cons, ← l3]; omega
      · refine ⟨l, l1, fun b hb => ?_, ?_⟩
        · have := l2 b hb; exact ⟨this.1, by omega⟩
        · rw [pI_0 c, ← l3]; omega
  obtain ⟨l, l1, l2, l3⟩ := key 8
  have := sub_len l1 (fun b hb => (l2 b hb).1)
  show cR (fun b => b ∈ (aG A).2.1) 8 ≤ _
  omega
theorem iAnd_p (x : Int) : 0 ≤ iAnd x 2147483647 ∧ iAnd x 2147483647 ≤ 2147483647 := by
  unfold iAnd
  have e : (Int32.ofInt x &&& Int32.ofInt 2147483647).toInt = ((Int32.ofInt x).toBitVec &&& 2147483647#32).toInt := rfl
  have h : ((Int32.ofInt x).toBitVec &&& 2147483647#32).toNat ≤ 2147483647 := by
    rw [BitVec.toNat_and]; exact Nat.and_le_right
  rw [e, BitVec.toInt_eq_toNat_of_lt (by omega)]
  omega
