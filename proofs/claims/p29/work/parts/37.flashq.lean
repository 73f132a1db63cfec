/-- rows by their places, as the flash's value tells them -/
abbrev rT (F : Fl) (i kd nb : Int) : Prop := fN F i 0 = kd ∧ fN F i 3 = nb ∧ fN F i 2 = fN F i 1
abbrev rS (F : Fl) (i key : Int) : Prop := (fN F i 0 = 2 ∧ fN F i 5 = key) ∨ (fN F i 0 ≠ 2 ∧ (fN F i 9 ≤ key ∨ (fN F i 5 ≤ key ∧ key - fN F i 5 < fN F i 6)))
/-- the place of the newest node, or -1 -/
def qNew (F : Fl) (kd nb key below : Int) : Nat → Int
  | 0 => -1
  | n + 1 => if rT F n kd nb ∧ fN F n 4 < below ∧ rS F n key ∧ (qNew F kd nb key below n = -1 ∨ fN F (qNew F kd nb key below n) 4 < fN F n 4) then (n : Int) else qNew F kd nb key below n
theorem qNew_s (F : Fl) (kd nb key below : Int) (n : Nat) : qNew F kd nb key below (n + 1) = if rT F n kd nb ∧ fN F n 4 < below ∧ rS F n key ∧ (qNew F kd nb key below n = -1 ∨ fN F (qNew F kd nb key below n) 4 < fN F n 4) then (n : Int) else qNew F kd nb key below n := rfl
theorem qNew_r (F : Fl) (kd nb key below : Int) (n : Nat) : qNew F kd nb key below n = -1 ∨ (0 ≤ qNew F kd nb key below n ∧ qNew F kd nb key below n < n) := by
  induction n with
  | zero => exact Or.inl rfl
  | succ n ih => rw [qNew_s]; split <;> omega
def qNxt (F : Fl) (f above : Int) : Nat → Int
  | 0 => -1
  | n + 1 => if rT F n 1 f ∧ above < fN F n 4 ∧ (qNxt F f above n = -1 ∨ fN F n 4 < fN F (qNxt F f above n) 4) then (n : Int) else qNxt F f above n
theorem qNxt_s (F : Fl) (f above : Int) (n : Nat) : qNxt F f above (n + 1) = if rT F n 1 f ∧ above < fN F n 4 ∧ (qNxt F f above n = -1 ∨ fN F n 4 < fN F (qNxt F f above n) 4) then (n : Int) else qNxt F f above n := rfl
theorem qNxt_r (F : Fl) (f above : Int) (n : Nat) : qNxt F f above n = -1 ∨ (0 ≤ qNxt F f above n ∧ qNxt F f above n < n) := by
  induction n with
  | zero => exact Or.inl rfl
  | succ n ih => rw [qNxt_s]; split <;> omega
/-- the address at a place, 0 for none -/
def qAd (μ : nMem) (i : Int) : Int := if i = -1 then 0 else nRow μ i
theorem qAd_0 {μ : nMem} {ε : nEnv} (hr : nRows μ ε) {i : Int} : qAd μ i = 0 ↔ i = -1 := by
  unfold qAd
  constructor
  · intro h
    by_cases e : i = -1
    · exact e
    · rw [if_neg e] at h; exact absurd h (nRow_ne hr i)
  · intro h; rw [if_pos h]
theorem CF_row {F : Fl} {μ : nMem} {ε : nEnv} (hC : CF F μ ε) {i : Int} (h0 : 0 ≤ i) (h1 : i < 128) : (∀ k, 0 ≤ k → k ≤ 11 → μ (nRow μ i) k = fN F i k) ∧ μ (nRow μ i) 13 = 0 := ⟨hC.2.2.1 i h0 h1, hC.2.2.2.1 i⟩
theorem rT_of {F : Fl} {μ : nMem} {ε : nEnv} (hC : CF F μ ε) {i : Int} (h0 : 0 ≤ i) (h1 : i < 128) (kd nb : Int) : nTells μ (nRow μ i) kd nb ↔ rT F i kd nb := by
  obtain ⟨a, b⟩ := CF_row hC h0 h1
  unfold nTells rT
  rw [a 0 (by omega) (by omega), a 1 (by omega) (by omega), a 2 (by omega) (by omega), a 3 (by omega) (by omega), b]
  simp
theorem rS_of {F : Fl} {μ : nMem} {ε : nEnv} (hC : CF F μ ε) {i : Int} (h0 : 0 ≤ i) (h1 : i < 128) (key : Int) : nSettles μ (nRow μ i) key ↔ rS F i key := by
  obtain ⟨a, b⟩ := CF_row hC h0 h1
  unfold nSettles rS
  rw [a 0 (by omega) (by omega), a 5 (by omega) (by omega), a 6 (by omega) (by omega), a 9 (by omega) (by omega)]
theorem qNew_of {F : Fl} {μ : nMem} {ε : nEnv} (hC : CF F μ ε) (kd nb key below : Int) : ∀ n : Nat, n ≤ 128 → fNewest μ kd nb key below n = qAd μ (qNew F kd nb key below n) := by
  intro n
  induction n with
  | zero => intro _; rfl
  | succ n ih =>
    intro hn
    have ih := ih (by omega)
    obtain ⟨a, b⟩ := CF_row hC (i := n) (by omega) (by omega)
    have hz := qAd_0 (μ := μ) hC.2.1 (i := qNew F kd nb key below n)
    have hv : qNew F kd nb key below n ≠ -1 → μ (qAd μ (qNew F kd nb key below n)) 4 = fN F (qNew F kd nb key below n) 4 := fun q => by
      have := qNew_r F kd nb key below n
      unfold qAd; rw [if_neg q]
      exact (CF_row hC (by omega) (by omega)).1 4 (by omega) (by omega)
    rw [fNewest_s, qNew_s, ih]
    have hiff : nNewC μ kd nb key below (qAd μ (qNew F kd nb key below n)) (nRow μ n) ↔ (rT F n kd nb ∧ fN F n 4 < below ∧ rS F n key ∧ (qNew F kd nb key below n = -1 ∨ fN F (qNew F kd nb key below n) 4 < fN F n 4)) := by
      unfold nNewC
      rw [rT_of hC (by omega) (by omega), rS_of hC (by omega) (by omega), a 4 (by omega) (by omega), hz]
      by_cases q : qNew F kd nb key below n = -1
      · simp [q]
      · rw [hv q]
    by_cases c : nNewC μ kd nb key below (qAd μ (qNew F kd nb key below n)) (nRow μ n)
    · rw [if_pos c, if_pos (hiff.mp c)]; unfold qAd; rw [if_neg (by omega)]
    · rw [if_neg c, if_neg (fun z => c (hiff.mpr z))]
theorem qNxt_of {F : Fl} {μ : nMem} {ε : nEnv} (hC : CF F μ ε) (f above : Int) : ∀ n : Nat, n ≤ 128 → fNextD μ f above n = qAd μ (qNxt F f above n) := by
  intro n
  induction n with
  | zero => intro _; rfl
  | succ n ih =>
    intro hn
    have ih := ih (by omega)
    obtain ⟨a, b⟩ := CF_row hC (i := n) (by omega) (by omega)
    have hz := qAd_0 (μ := μ) hC.2.1 (i := qNxt F f above n)
    have hv : qNxt F f above n ≠ -1 → μ (qAd μ (qNxt F f above n)) 4 = fN F (qNxt F f above n) 4 := fun q => by
      have := qNxt_r F f above n
      unfold qAd; rw [if_neg q]
      exact (CF_row hC (by omega) (by omega)).1 4 (by omega) (by omega)
    rw [fNextD_s, qNxt_s, ih]
    have hiff : (nTells μ (nRow μ n) 1 f ∧ above < μ (nRow μ n) 4 ∧ (qAd μ (qNxt F f above n) = 0 ∨ μ (nRow μ n) 4 < μ (qAd μ (qNxt F f above n)) 4)) ↔ (rT F n 1 f ∧ above < fN F n 4 ∧ (qNxt F f above n = -1 ∨ fN F n 4 < fN F (qNxt F f above n) 4)) := by
      rw [rT_of hC (by omega) (by omega), a 4 (by omega) (by omega), hz]
      by_cases q : qNxt F f above n = -1
      · simp [q]
      · rw [hv q]
    by_cases c : nTells μ (nRow μ n) 1 f ∧ above < μ (nRow μ n) 4 ∧ (qAd μ (qNxt F f above n) = 0 ∨ μ (nRow μ n) 4 < μ (qAd μ (qNxt F f above n)) 4)
    · rw [if_pos c, if_pos (hiff.mp c)]; unfold qAd; rw [if_neg (by omega)]
    · rw [if_neg c, if_neg (fun z => c (hiff.mpr z))]
/-- rows that tell anything lie apart -/
theorem row_apart {F : Fl} {μ : nMem} {ε : nEnv} (hC : CF F μ ε) {i j : Int} (h0 : 0 ≤ i) (h1 : i < 128) (j0 : 0 ≤ j) (j1 : j < 128) (hk : fN F i 0 ≠ 0) (e : nRow μ i = nRow μ j) : i = j := by
  obtain ⟨-, hr, -, -, -, -, -, h7⟩ := id hC
  have a := (CF_row hC h0 h1).1 0 (by omega) (by omega)
  have z : ∀ x, nRow μ x = 7 → nRow μ i = nRow μ x → False := fun x q r => by
    rw [r, q, h7 0 (by omega) (by omega)] at a; exact hk a.symm
  have i3 : μ 3 i ≠ 0 := fun q => z i (by unfold nRow; rw [if_neg (fun r => r.2.2 q)]) rfl
  have j3 : μ 3 j ≠ 0 := fun q => z j (by unfold nRow; rw [if_neg (fun r => r.2.2 q)]) e
  unfold nRow at e
  rw [if_pos ⟨h0, h1, i3⟩, if_pos ⟨j0, j1, j3⟩] at e
  exact hr.2.1 i j h0 h1 j0 j1 i3 e
