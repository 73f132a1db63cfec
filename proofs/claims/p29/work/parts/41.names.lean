abbrev rnAsg (F : Fl) (d i : Int) : Prop := fN F i 10 ≠ 0 ∧ qNew F 2 d (fN F i 5) 2147483647 128 = i
def rnV (F : Fl) (d i : Int) (S : Tr) : Tr := tSetF S d 3 (max (tFd S d 3) (fN F i 4))
def rnAdd (F : Fl) (i : Int) (S : Tr) : Tr := if fN F i 10 ∈ tNl S then S else tAdd S (fN F i 10) (fN F i 11)
/-- a row read for a directory's names -/
def rnStep (F : Fl) (d i : Int) (S : Tr) : Tr := if rT F i 2 d then (if rnAsg F d i then tInc (tSetC (rnAdd F i (rnV F d i S)) d (fN F i 5) (fN F i 10)) d (fN F i 10) else rnV F d i S) else S
def rn (F : Fl) (d : Int) (S : Tr) : Nat → Tr
  | 0 => S
  | k + 1 => rnStep F d k (rn F d S k)
theorem rn_s (F : Fl) (d : Int) (S : Tr) (k : Nat) : rn F d S (k + 1) = rnStep F d k (rn F d S k) := rfl
theorem rnStep_0 {F : Fl} {d i : Int} {S : Tr} (h : ¬ rT F i 2 d) : rnStep F d i S = S := by unfold rnStep; rw [if_neg h]
theorem rnStep_1 {F : Fl} {d i : Int} {S : Tr} (h : rT F i 2 d) (h2 : ¬ rnAsg F d i) : rnStep F d i S = rnV F d i S := by unfold rnStep; rw [if_pos h, if_neg h2]
theorem rnStep_2 {F : Fl} {d i : Int} {S : Tr} (h : rT F i 2 d) (h2 : rnAsg F d i) : rnStep F d i S = tInc (tSetC (rnAdd F i (rnV F d i S)) d (fN F i 5) (fN F i 10)) d (fN F i 10) := by unfold rnStep; rw [if_pos h, if_pos h2]
theorem rnStep_mem {F : Fl} {d i : Int} {S : Tr} : ∀ x, x ∈ tNl S → x ∈ tNl (rnStep F d i S) := by
  intro x hx
  unfold rnStep
  split
  · split
    · show x ∈ tNl (rnAdd F i (rnV F d i S))
      unfold rnAdd
      split
      · exact hx
      · exact List.mem_append_left _ hx
    · exact hx
  · exact hx
/-- a field raised to the greater of two -/
theorem CT_max {S : Tr} {μ : nMem} {ε : nEnv} {a n v : Int} (hT : CT S μ ε) (hA : tAt S μ a n) : CT (tSetF S n 3 (max (tFd S n 3) v)) (wr μ a 3 (max (μ a 3) v)) ε ∧ FrT μ ε (wr μ a 3 (max (μ a 3) v)) ε ∧ (∀ b q, tAt S μ b q → tAt (tSetF S n 3 (max (tFd S n 3) v)) (wr μ a 3 (max (μ a 3) v)) b q) := by
  rw [show μ a 3 = tFd S n 3 from (tAt_is hT hA).2.1 3 (by omega) (by omega)]
  exact CT_setF hT hA (by omega)
theorem sq_X5_assign {μ : nMem} {ε : nEnv} {Q : nOut → nMem → nEnv → Prop} {S : Tr} {a na nm b nb : Int} (hT : CT S μ ε) (hB : tB S) (hA : tAt S μ a na) (hI : tAt S μ b nb) (hnm : 1 ≤ nm ∧ nm < 100) (hp : tCl S na nm ∉ tNl S) (h0 : ∀ μ9, CT (tInc (tSetC S na nm nb) na nb) μ9 ε → FrT μ ε μ9 ε → (∀ c x, tAt S μ c x → tAt (tInc (tSetC S na nm nb) na nb) μ9 c x) → Q (.inl none) μ9 ε) : Sp mX5_assign [vR 12, vR a, vI nm, vR b] μ ε Q :=
  sp_X5_assign hT hB hA hI hnm (fun _ => h0) (fun q => absurd q hp) (fun q => absurd q hp)
theorem nRow_0 {μ : nMem} {ε : nEnv} (hr : nRows μ ε) (i : Int) : 0 ≤ nRow μ i := by
  rcases nRow_far hr i with e | ⟨e, -⟩ <;> omega
theorem qAd_r {μ : nMem} {ε : nEnv} (hr : nRows μ ε) (i : Int) : 0 ≤ qAd μ i := by
  unfold qAd; split
  · omega
  · exact nRow_0 hr i
/-- the newest is this very node: by places -/
theorem qAd_at {F : Fl} {μ : nMem} {ε : nEnv} (hC : CF F μ ε) {kd nb key below i : Int} (h0 : 0 ≤ i) (h1 : i < 128) (hk : fN F i 0 ≠ 0) : qAd μ (qNew F kd nb key below 128) = nRow μ i ↔ qNew F kd nb key below 128 = i := by
  have hq := qNew_r F kd nb key below 128
  unfold qAd
  constructor
  · intro e
    by_cases z : qNew F kd nb key below 128 = -1
    · rw [if_pos z] at e; exact absurd e.symm (nRow_ne hC.2.1 i)
    · rw [if_neg z] at e
      exact (row_apart hC h0 h1 (by omega) (by omega) hk e.symm).symm
  · intro e; rw [if_neg (by omega), e]
