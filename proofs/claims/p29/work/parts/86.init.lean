theorem qNew_no {F : Fl} {kd nb key below : Int} (h : ∀ i, ¬ rT F i kd nb) : ∀ n : Nat, qNew F kd nb key below n = -1
  | 0 => rfl
  | n + 1 => by rw [qNew_s, if_neg (fun q => h n q.1)]; exact qNew_no h n
theorem nF0_W (i : Int) : ¬ rW nF0 i := fun q => by
  have e : fN nF0 i 0 = 0 := rfl
  rcases q.1 with w | w <;> rw [e] at w <;> exact absurd w (by decide)
theorem nF0_rT {kd nb : Int} (hk : kd = 1 ∨ kd = 2) (i : Int) : ¬ rT nF0 i kd nb := fun q => nF0_W i ((rT_W hk).mp q).1
theorem nF0_TG : TG nF0 = fun _ _ => 0 := by
  funext d nm; unfold TG; rw [qNew_no (nF0_rT (Or.inr rfl))]; rfl
theorem nF0_LN : LN nF0 = fun _ => 0 := by
  funext f; unfold LN; rw [qNew_no (nF0_rT (Or.inl rfl))]; rfl
theorem nF0_BY : BY nF0 = fun _ _ => 0 := by
  funext f p; unfold BY; rw [qNew_no (nF0_rT (Or.inl rfl))]; rfl
theorem nF0_PA : PA nF0 := fun b _ _ => by
  have e : fC nF0 b = 0 := rfl
  have u : fU nF0 b = 1 := rfl
  unfold PB
  rw [e, u]
  exact ⟨⟨by decide, by decide⟩, Or.inl ⟨rfl, by decide⟩, fun p p0 p1 => absurd p1 (by omega), fun _ _ _ _ _ _ => rfl, fun p p0 p1 => absurd p1 (by omega), fun _ q => absurd q (by decide)⟩
theorem ng0_m {b : Int} : b ∈ ng0.2.1 ↔ 0 ≤ b ∧ b < 8 := by
  show b ∈ [(0 : Int), 1, 2, 3, 4, 5, 6, 7] ↔ _
  simp only [List.mem_cons, List.not_mem_nil, or_false]; omega
theorem nF0_PL : PL nF0 ng0 := by
  refine ⟨Or.inl rfl, fun q => absurd rfl q, fun b hb => ⟨ng0_m.mp hb, rfl, rfl⟩, fun b hb => absurd hb List.not_mem_nil, ⟨by decide, by decide, fun b _ => List.not_mem_nil, by decide, by decide⟩, fun b b0 b1 => Or.inr (Or.inl (ng0_m.mpr ⟨b0, b1⟩)), by decide⟩
def nfl : Int → Int := fun n => if n = 1 then 1 else 0
def nA0 : AS := (nF0, ng0, 2, (fun _ => 0), (fun _ => 0))
theorem nWD {nx : Int} (h : 2 ≤ nx ∧ nx ≤ 2000) : WD (TG nF0) nfl nx := by
  rw [nF0_TG]
  exact ⟨rfl, fun n => by unfold nfl; split; exact Or.inr rfl; exact Or.inl rfl, fun _ _ => Or.inl rfl, ⟨fun _ => 0, fun _ _ _ _ q => absurd rfl q⟩, h⟩
theorem nIB {nb vb : Int} (h : 2 ≤ nb ∧ nb ≤ 2000) : IB nF0 nb vb := 
  ⟨nF0_PA, fun i _ _ _ _ _ w => absurd w (nF0_W i), fun i _ _ w => absurd w (nF0_W i), by decide, nfl, fun i _ _ w => absurd w (nF0_W i), nWD h⟩
theorem nIP {nb vb : Int} (h : 2 ≤ nb ∧ nb ≤ 2000) (hv : 0 ≤ vb) : IP nA0 nfl nb vb :=
  ⟨rfl, nF0_PA, fun i _ _ _ _ _ w => absurd w (nF0_W i), nF0_PL, fun i _ _ w => absurd w (nF0_W i), fun i _ _ w => absurd w (nF0_W i), nWD ⟨by decide, by decide⟩, ⟨by decide, h.1⟩, fun n => ⟨⟨Int.le_refl _, hv⟩, Int.le_refl _, hv⟩, fun n _ => ⟨rfl, rfl⟩⟩
theorem nlk (D : Int → Int → Int) (n : Int) (hn : n ≠ 0) : ∀ k : Nat, lk (fun _ _ => 0) D n k = 0
  | 0 => rfl
  | k + 1 => by
    have c : ∀ j : Nat, ceq (fun _ : Int => (0 : Int)) n j = 0 := fun j => by
      induction j with
      | zero => rfl
      | succ j ih => unfold ceq; rw [ih, if_neg (fun q => hn q.symm)]
    rw [lk_s, nlk D n hn k, c]
    split <;> rfl
theorem ncnt0 : ∀ k : Nat, cntN (fun _ => 0) k = 0
  | 0 => rfl
  | k + 1 => by rw [cntN_s, ncnt0 k]; rfl
theorem tRoot_nl {n : Int} : n ∈ tNl tRoot ↔ n = 1 := by
  show n ∈ [(1 : Int)] ↔ _
  exact List.mem_singleton
theorem tRoot_fd (k : Int) : tFd tRoot 1 k = if k = 2 then 1 else 0 := rfl
theorem tRoot_cl (j : Int) : tCl tRoot 1 j = 0 := rfl
theorem nTSW : TSW (fun _ _ => 0) nfl (fun _ => 0) (fun _ _ => 0) (fun _ => 0) (fun _ => 0) 2 tRoot := by
  refine ⟨fun n => ⟨fun q => Or.inl (tRoot_nl.mp q), fun q => ?_⟩, fun n hn => ?_, fun d hd _ => ?_, fun f hf hff => ?_, fun n hn => ?_, rfl, fun n hn j _ _ => ?_⟩
  · rcases q with q | ⟨q, d, nm, -, -, e⟩
    · exact tRoot_nl.mpr q
    · exact absurd e.symm q
  · rw [tRoot_nl.mp hn]; rfl
  · rw [tRoot_nl.mp hd]
    exact ⟨fun nm _ => rfl, by rw [ncnt0]; rfl, rfl, rfl⟩
  · rw [tRoot_nl.mp hf] at hff; exact absurd hff (by decide)
  · rw [tRoot_nl.mp hn]
    show (0 : Int) = _
    rw [show lkN (fun _ _ => 0) nfl 1 = 0 from nlk _ 1 (by decide) _]; rfl
  · rw [tRoot_nl.mp hn]; rw [tRoot_cl]; exact ⟨by decide, by decide⟩
theorem ntB : tB tRoot := by
  refine ⟨by decide, fun n hn => ?_⟩
  rw [tRoot_nl.mp hn]
  refine ⟨by decide, Or.inr rfl, fun k k0 k1 => ?_, fun j _ _ => ?_⟩
  · rw [tRoot_fd, if_neg (by omega)]; exact ⟨by decide, by decide⟩
  · rw [tRoot_cl]; exact ⟨by decide, by decide⟩
/-- the first state holds -/
theorem MC_0 {μ : nMem} {ε : nEnv} (h6 : C6 nF0 ng0 tRoot μ ε) (h56 : eKind ε 25 ≠ 0) : MC nA0 2 0 μ ε :=
  ⟨tRoot, h6, ntB, nIB ⟨by decide, by decide⟩, Or.inl rfl, h56, fun _ => ⟨nfl, nIP ⟨by decide, by decide⟩ (by decide), by
    show TSW (TG nF0) nfl (LN nF0) (BY nF0) _ _ 2 tRoot
    rw [nF0_TG, nF0_LN, nF0_BY]; exact nTSW⟩⟩
/-- new objects leave it -/
theorem C6_new {F : Fl} {g : Lg} {S : Tr} {μ m : nMem} {ε e : nEnv} (h : C6 F g S μ ε) (hk : ∀ x, eKind ε x ≠ 0 → (∀ j, m x j = μ x j) ∧ eKind e x = eKind ε x ∧ eLen e x = eLen ε x ∧ ∀ k, eFin e x k = eFin ε x k) : C6 F g S m e := by
  obtain ⟨a, b, c⟩ := h
  have hs := a.1
  have k0 : ∀ (x : Int) (kd : Nat) (ln : Int) (fs : List Int), skC x = some (kd, ln, fs) → kd ≠ 0 → ∀ j, m x j = μ x j := fun x kd ln fs q q0 => (hk x (by rw [(hs x kd ln fs q q0).1]; exact q0)).1
  refine ⟨CF_extE (CF_mem2 a (fun x x0 hx j => ?_)) (fun x hx => (hk x hx).2), CL_mem b ⟨k0 8 _ _ _ rfl (by decide) _, k0 8 _ _ _ rfl (by decide) _, k0 8 _ _ _ rfl (by decide) _⟩ (k0 10 _ _ _ rfl (by decide)) (k0 11 _ _ _ rfl (by decide)), CT_extE (CT_kk c (fun x hx => (hk x hx).1)) (fun x hx => (hk x hx).2)⟩
  rcases hx with e | e | e | e | e | e | ⟨i, i0, i1, e⟩
  · subst e; exact k0 2 _ _ _ rfl (by decide) j
  · subst e; exact k0 3 _ _ _ rfl (by decide) j
  · subst e; exact k0 4 _ _ _ rfl (by decide) j
  · subst e; exact k0 5 _ _ _ rfl (by decide) j
  · subst e; exact k0 6 _ _ _ rfl (by decide) j
  · subst e; exact k0 7 _ _ _ rfl (by decide) j
  · obtain ⟨a2, a1⟩ := a.2.1.1 i i0 i1 (by rw [e]; exact x0)
    rw [e] at a1
    exact (hk x (by rw [a1]; decide)).1 j
