theorem skM_b {x : Int} {q : Nat × Int × List Int} (h : skM x = some q) : 21 ≤ x ∧ x ≤ 55 := by
  match x, h with
  | .negSucc _, h => exact absurd h (by intro z; cases z)
  | .ofNat n, h =>
    obtain ⟨w, h1, h2⟩ := Option.bind_eq_some_iff.mp h
    have a := (List.getElem?_eq_some_iff.mp h1).1
    have a : n - 21 < 35 := a
    cases hb : Nat.ble 21 n with
    | false => rw [hb] at h2; exact absurd h2 (by intro z; cases z)
    | true =>
      have := Nat.le_of_ble_eq_true hb
      show 21 ≤ (n : Int) ∧ (n : Int) ≤ 55
      omega
theorem skM_a : ∀ i : Fin 34, skM (22 + ((i : Nat) : Int)) = some ((mTab[(i : Nat)]?.getD (0, 0, 0)).1, (mTab[(i : Nat)]?.getD (0, 0, 0)).2.1, []) := by decide
def skM21 : List Int := ((skM 21).getD (0, 0, [])).2.2
theorem skM_21 : skM 21 = some (8, 0, skM21) := by decide
theorem skM_f : ∀ k : Fin 42, skM21[(k : Nat)]?.getD 0 = 0 ∨ ∃ i : Fin 34, (mTab[(i : Nat)]?.getD (0, 0, 0)).2.2 = ((k : Nat) : Int) ∧ skM21[(k : Nat)]?.getD 0 = 22 + ((i : Nat) : Int) := by decide
theorem mTab_e (i : Nat) (h : i < 34) : ∃ kd ln f, mTab[i]? = some (kd, ln, f) ∧ mTab[i]?.getD (0, 0, 0) = (kd, ln, f) := by
  have hl : i < mTab.length := h
  refine ⟨mTab[i].1, mTab[i].2.1, mTab[i].2.2, List.getElem?_eq_getElem hl, ?_⟩
  rw [List.getElem?_eq_getElem hl]; rfl
theorem skM_of {ε : nEnv} (h : R7 ε) : SkP skM ε := by
  intro x kd ln fs hx h0
  obtain ⟨b0, b1⟩ := skM_b hx
  by_cases c : x = 21
  · subst c
    rw [skM_21] at hx
    have e := Option.some.inj hx
    have e1 : kd = 8 := (congrArg (fun t => t.1) e).symm
    have e2 : ln = 0 := (congrArg (fun t => t.2.1) e).symm
    have e3 : fs = skM21 := (congrArg (fun t => t.2.2) e).symm
    subst e1 e2 e3
    refine ⟨h.1.1, h.1.2, fun k v hk hv => ?_⟩
    have hkl : k < 42 := (List.getElem?_eq_some_iff.mp hk).1
    rcases skM_f ⟨k, hkl⟩ with q | ⟨i, q1, q2⟩
    · rw [hk] at q; exact absurd q hv
    · rw [hk] at q2
      obtain ⟨kd, ln, f, m1, m2⟩ := mTab_e i i.2
      rw [m2] at q1
      have q1 : f = (k : Int) := q1
      have q2 : v = 22 + ((i : Nat) : Int) := q2
      rw [← q1, q2]; exact (h.2 i kd ln f i.2 m1).2.2
  · obtain ⟨i, hi⟩ : ∃ i : Nat, x = 22 + (i : Int) := ⟨(x - 22).toNat, by omega⟩
    have hi2 : i < 34 := by omega
    have a := skM_a ⟨i, hi2⟩
    obtain ⟨kd', ln', f, m1, m2⟩ := mTab_e i hi2
    subst hi
    rw [hx] at a
    have a := Option.some.inj a
    rw [m2] at a
    have e1 : kd = kd' := congrArg (fun t => t.1) a
    have e2 : ln = ln' := congrArg (fun t => t.2.1) a
    have e3 : fs = [] := congrArg (fun t => t.2.2) a
    subst e1 e2 e3
    obtain ⟨u1, u2, -⟩ := h.2 i kd ln f hi2 m1
    exact ⟨u1, u2, fun k v hk => absurd hk (by simp)⟩
