/-! ### lists that the reference keeps in order -/
def insAt {α : Type} (l : List α) (j : Nat) (e : α) : List α := l.take j ++ e :: l.drop j
theorem insAt_len {α : Type} (l : List α) {j : Nat} (e : α) (h : j ≤ l.length) : (insAt l j e).length = l.length + 1 := by
  unfold insAt
  rw [List.length_append, List.length_take, List.length_cons, List.length_drop]
  omega
theorem insAt_get {α : Type} (l : List α) {j : Nat} (e z : α) (h : j ≤ l.length) (i : Nat) : (insAt l j e).getD i z = if i < j then l.getD i z else if i = j then e else l.getD (i - 1) z := by
  unfold insAt
  rw [List.getD_eq_getElem?_getD, List.getD_eq_getElem?_getD, List.getD_eq_getElem?_getD]
  by_cases c : i < j
  · rw [if_pos c, List.getElem?_append_left (by rw [List.length_take]; omega), List.getElem?_take, if_pos c]
  · rw [if_neg c, List.getElem?_append_right (by rw [List.length_take]; omega), List.length_take, Nat.min_eq_left h]
    by_cases d : i = j
    · rw [if_pos d, d, Nat.sub_self]; rfl
    · rw [if_neg d, show i - j = (i - j - 1) + 1 by omega, List.getElem?_cons_succ, List.getElem?_drop]
      congr 2
      omega
noncomputable def cntL {α : Type} (P : α → Prop) : List α → Int
  | [] => 0
  | x :: r => cntL P r + pI (P x) 1 0
theorem cntL_app {α : Type} (P : α → Prop) : ∀ a b : List α, cntL P (a ++ b) = cntL P a + cntL P b
  | [], b => by show cntL P b = 0 + cntL P b; omega
  | x :: a, b => by
    have := cntL_app P a b
    show cntL P (a ++ b) + pI (P x) 1 0 = cntL P a + pI (P x) 1 0 + cntL P b
    omega
theorem cntL_ins {α : Type} (P : α → Prop) (l : List α) (j : Nat) (e : α) : cntL P (insAt l j e) = cntL P l + pI (P e) 1 0 := by
  unfold insAt
  rw [cntL_app]
  have h := cntL_app P (l.take j) (l.drop j)
  rw [List.take_append_drop] at h
  show cntL P (l.take j) + (cntL P (l.drop j) + pI (P e) 1 0) = _
  omega
theorem cntL_nn {α : Type} (P : α → Prop) : ∀ l : List α, 0 ≤ cntL P l ∧ cntL P l ≤ l.length
  | [] => ⟨Int.le_refl _, Int.le_refl _⟩
  | x :: r => by
    have := cntL_nn P r
    show 0 ≤ cntL P r + pI (P x) 1 0 ∧ cntL P r + pI (P x) 1 0 ≤ ((r.length + 1 : Nat) : Int)
    by_cases c : P x
    · rw [pI_1 c]; omega
    · rw [pI_0 c]; omega
theorem cntL_s {α : Type} (P : α → Prop) (z : α) {l : List α} {k : Nat} (h : k < l.length) : cntL P (l.take (k + 1)) = cntL P (l.take k) + pI (P (l.getD k z)) 1 0 := by
  rw [List.take_succ_eq_append_getElem h, cntL_app]
  have e : l.getD k z = l[k] := by rw [List.getD_eq_getElem?_getD, List.getElem?_eq_getElem h]; rfl
  rw [e]
  show cntL P (l.take k) + (0 + pI (P l[k]) 1 0) = _
  omega
theorem cntL_pos {α : Type} {P : α → Prop} (z : α) : ∀ l : List α, 0 < cntL P l ↔ ∃ i, i < l.length ∧ P (l.getD i z)
  | [] => ⟨fun h => absurd h (by show ¬ (0 : Int) < 0; omega), fun ⟨i, hi, _⟩ => absurd hi (Nat.not_lt_zero i)⟩
  | x :: r => by
    have ih := cntL_pos (P := P) z r
    have nn := cntL_nn P r
    show 0 < cntL P r + pI (P x) 1 0 ↔ _
    constructor
    · intro h
      by_cases c : P x
      · exact ⟨0, by rw [List.length_cons]; omega, c⟩
      · rw [pI_0 c] at h
        obtain ⟨i, hi, hp⟩ := ih.mp (by omega)
        exact ⟨i + 1, by rw [List.length_cons]; omega, hp⟩
    · rintro ⟨i, hi, hp⟩
      rcases i with _ | i
      · have hp : P x := hp
        rw [pI_1 hp]; omega
      · have := ih.mpr ⟨i, by rw [List.length_cons] at hi; omega, hp⟩
        by_cases c : P x
        · rw [pI_1 c]; omega
        · rw [pI_0 c]; omega
abbrev PZ2 : Int × Int := (0, 0)
/-- the list of entries lies at a place -/
def EM (w : Int) (l : List (Int × Int)) (μ : nMem) : Prop := μ 45 (w / 128) = l.length ∧ ∀ i : Nat, i < l.length → μ 43 (w + i) = (l.getD i PZ2).1 ∧ μ 44 (w + i) = (l.getD i PZ2).2
def FM (w : Int) (l : List Int) (μ : nMem) : Prop := μ 48 (w / 128) = l.length ∧ ∀ i : Nat, i < l.length → μ 46 (w + i) = l.getD i 0
def srtE (l : List (Int × Int)) : Prop := ∀ i j, i < j → j < l.length → (l.getD i PZ2).1 < (l.getD j PZ2).1
def srtI (l : List Int) : Prop := ∀ i j, i < j → j < l.length → l.getD i 0 < l.getD j 0
abbrev plE (l : List (Int × Int)) (key : Int) (j : Nat) : Prop := j ≤ l.length ∧ (∀ i, i < j → (l.getD i PZ2).1 ≤ key) ∧ ∀ i, j ≤ i → i < l.length → key < (l.getD i PZ2).1
abbrev plI (l : List Int) (key : Int) (j : Nat) : Prop := j ≤ l.length ∧ (∀ i, i < j → l.getD i 0 < key) ∧ ∀ i, j ≤ i → i < l.length → key < l.getD i 0
theorem srtE_ins {l : List (Int × Int)} {e : Int × Int} {j : Nat} (h : srtE l) (hj : plE l e.1 j) (hn : ∀ i, i < l.length → (l.getD i PZ2).1 ≠ e.1) : srtE (insAt l j e) := fun a b hab hb => by
  rw [insAt_len l e hj.1] at hb
  rw [insAt_get l e PZ2 hj.1, insAt_get l e PZ2 hj.1]
  obtain ⟨j0, j1, j2⟩ := hj
  by_cases ca : a < j
  · rw [if_pos ca]
    by_cases cb : b < j
    · rw [if_pos cb]; exact h a b hab (by omega)
    · rw [if_neg cb]
      by_cases cc : b = j
      · rw [if_pos cc]
        have := j1 a ca
        have := hn a (by omega)
        omega
      · rw [if_neg cc]; exact h a (b - 1) (by omega) (by omega)
  · rw [if_neg ca, if_neg (show ¬ b < j by omega)]
    by_cases cc : a = j
    · rw [if_pos cc, if_neg (show ¬ b = j by omega)]; exact j2 (b - 1) (by omega) (by omega)
    · rw [if_neg cc, if_neg (show ¬ b = j by omega)]; exact h (a - 1) (b - 1) (by omega) (by omega)
theorem srtI_ins {l : List Int} {e : Int} {j : Nat} (h : srtI l) (hj : plI l e j) : srtI (insAt l j e) := fun a b hab hb => by
  rw [insAt_len l e hj.1] at hb
  rw [insAt_get l e 0 hj.1, insAt_get l e 0 hj.1]
  obtain ⟨j0, j1, j2⟩ := hj
  by_cases ca : a < j
  · rw [if_pos ca]
    by_cases cb : b < j
    · rw [if_pos cb]; exact h a b hab (by omega)
    · rw [if_neg cb]
      by_cases cc : b = j
      · rw [if_pos cc]; exact j1 a ca
      · rw [if_neg cc]; exact h a (b - 1) (by omega) (by omega)
  · rw [if_neg ca, if_neg (show ¬ b < j by omega)]
    by_cases cc : a = j
    · rw [if_pos cc, if_neg (show ¬ b = j by omega)]; exact j2 (b - 1) (by omega) (by omega)
    · rw [if_neg cc, if_neg (show ¬ b = j by omega)]; exact h (a - 1) (b - 1) (by omega) (by omega)
theorem insAt_mem {α : Type} (l : List α) (j : Nat) (e x : α) : x ∈ insAt l j e ↔ x = e ∨ x ∈ l := by
  unfold insAt
  rw [List.mem_append, List.mem_cons]
  have h : x ∈ l.take j ++ l.drop j ↔ x ∈ l := by rw [List.take_append_drop]
  rw [List.mem_append] at h
  rw [← h]
  constructor
  · rintro (a | a | a)
    · exact Or.inr (Or.inl a)
    · exact Or.inl a
    · exact Or.inr (Or.inr a)
  · rintro (a | a | a)
    · exact Or.inr (Or.inl a)
    · exact Or.inl a
    · exact Or.inr (Or.inr a)
theorem lget_mem {α : Type} {l : List α} {i : Nat} (z : α) (h : i < l.length) : l.getD i z ∈ l := by
  rw [List.getD_eq_getElem?_getD, List.getElem?_eq_getElem h]; exact List.getElem_mem h
theorem mem_lget {α : Type} {l : List α} {x : α} (z : α) (h : x ∈ l) : ∃ i, i < l.length ∧ l.getD i z = x := by
  obtain ⟨i, hi, e⟩ := List.getElem_of_mem h
  exact ⟨i, hi, by rw [List.getD_eq_getElem?_getD, List.getElem?_eq_getElem hi]; exact e⟩
theorem insAt_len1 {α : Type} {l : List α} {j : Nat} (e : α) (h : j ≤ l.length) (N : Nat) (hl : l.length < N) : (insAt l j e).length ≤ N := by rw [insAt_len l e h]; omega
theorem sp_X7_addEntry {μ : nMem} {ε : nEnv} {Q : nOut → nMem → nEnv → Prop} {w key v : Int} {l : List (Int × Int)} (hs : SkP skM ε) (hb : mB μ) (hw : w = 0 ∨ w = 128) (hE : EM w l μ) (hl : l.length < 128) (k0 : 0 ≤ key) (k1 : key ≤ 300000) (v0 : 0 ≤ v) (v1 : v ≤ 5000) (hsr : srtE l) (h : ∀ m, mB m → (∀ x y, ¬ ((x = 43 ∨ x = 44) ∧ w ≤ y ∧ y < w + 128) → ¬ (x = 45 ∧ y = w / 128) → m x y = μ x y) → ∀ j, plE l key j → EM w (insAt l j (key, v)) m → Q (.inl none) m ε) : Sp mX7_addEntry [vR 21, vI w, vI key, vI v] μ ε Q := by
  refine Sp_of (L := [(0, vR 21), (1, vI w), (2, vI key), (3, vI v)]) (by decide) rfl rfl (Nat.le_of_ble_eq_true rfl) ?_
  have hw2 : w / 128 = 0 ∨ w / 128 = 1 := by omega
  have hb45 := b45 hb (w / 128)
  refine wq_iload_n (pc := 0) dX7_addEntry_0 rfl rfl ?_
  refine wq_aload_n (pc := 1) dX7_addEntry_1 rfl rfl ?_
  refine wq_getS (pc := 2) dX7_addEntry_2 hs (gf_X7_81 _ rfl) rfl rfl rfl rfl rfl ?_
  refine wq_iload_n (pc := 5) dX7_addEntry_5 rfl rfl ?_
  refine wq_sipush (pc := 6) dX7_addEntry_6 (by decide) (by decide) ?_
  refine wq_idiv (pc := 9) dX7_addEntry_9 (by omega) (by omega) ?_
  refine wq_ialdK (pc := 10) dX7_addEntry_10 hs rfl (by omega) (by omega) ?_
  refine wq_iadd (pc := 11) dX7_addEntry_11 ?_
  refine wq_istore (pc := 12) (L' := [(4, _), (0, _), (1, _), (2, _), (3, _)]) dX7_addEntry_12 rfl (by decide) ?_
  have loop1 : ∀ (n k : Nat), ∀ (m : nMem) (j : Int), k ≤ 128 → 128 < k + n → (k : Int) ≤ l.length → j = w + l.length - k → mB m → (∀ x y, ¬ ((x = 43 ∨ x = 44) ∧ w ≤ y ∧ y < w + 128) → m x y = μ x y) → (∀ i : Nat, (i : Int) < l.length - k → m 43 (w + i) = (l.getD i PZ2).1 ∧ m 44 (w + i) = (l.getD i PZ2).2) → (∀ i : Nat, (l.length : Int) - k < i → i ≤ l.length → m 43 (w + i) = (l.getD (i - 1) PZ2).1 ∧ m 44 (w + i) = (l.getD (i - 1) PZ2).2) → (∀ i : Nat, (l.length : Int) - k ≤ i → i < l.length → key < (l.getD i PZ2).1) → wp mX7_addEntry 14 [(0, vR 21), (1, vI w), (2, vI key), (3, vI v), (4, vI j)] [] m ε Q := by
    intro n
    induction n with
    | zero => intro k m j hk1 hk2 e0 e1 e2 e3 e4 e5 e6; exact absurd hk2 (by omega)
    | succ n ih =>
      intro k m j hk1 hk2 e0 e1 e2 e3 e4 e5 e6
      subst e1
      have g43 := b43 e2 (w + l.length - k - 1)
      have r43 : inR (m 43 (w + l.length - k - 1)) := by unfold inR; omega
      have rkey : inR key := by unfold inR; omega
      have rj : inR (w + l.length - k) := by unfold inR; omega
      have rw2 : inR w := by unfold inR; omega
      refine wq_iload (pc := 14) dX7_addEntry_14 rfl ?_
      refine wq_iload_n (pc := 16) dX7_addEntry_16 rfl rfl ?_
      refine wq_icmp_le (pc := 17) (tgt := 71) dX7_addEntry_17 (by decide) (by first | (unfold inR; omega) | assumption) (by first | (unfold inR; omega) | assumption) (fun c2 => ?_) (fun c2 => ?_)
      · skip
        refine wq_aload_n (pc := 71) dX7_addEntry_71 rfl rfl ?_
        refine wq_getS (pc := 72) dX7_addEntry_72 hs (gf_X7_75 _ rfl) rfl rfl rfl rfl rfl ?_
        refine wq_iload (pc := 75) dX7_addEntry_75 rfl ?_
        refine wq_iload_n (pc := 77) dX7_addEntry_77 rfl rfl ?_
        refine wq_iastK (pc := 78) dX7_addEntry_78 hs rfl (by omega) (by omega) ?_
        refine wq_aload_n (pc := 79) dX7_addEntry_79 rfl rfl ?_
        refine wq_getS (pc := 80) dX7_addEntry_80 hs (gf_X7_78 _ rfl) rfl rfl rfl rfl rfl ?_
        refine wq_iload (pc := 83) dX7_addEntry_83 rfl ?_
        refine wq_iload_n (pc := 85) dX7_addEntry_85 rfl rfl ?_
        refine wq_iastK (pc := 86) dX7_addEntry_86 hs rfl (by omega) (by omega) ?_
        have rr9 : True := trivial
        refine wq_aload_n (pc := 87) dX7_addEntry_87 rfl rfl ?_
        refine wq_getS (pc := 88) dX7_addEntry_88 hs (gf_X7_81 _ rfl) rfl rfl rfl rfl rfl ?_
        refine wq_iload_n (pc := 91) dX7_addEntry_91 rfl rfl ?_
        refine wq_sipush (pc := 92) dX7_addEntry_92 (by decide) (by decide) ?_
        refine wq_idiv (pc := 95) dX7_addEntry_95 (by omega) (by omega) ?_
        refine wq_dup2 (pc := 96) dX7_addEntry_96 rfl rfl ?_
        refine wq_ialdK (pc := 97) dX7_addEntry_97 hs rfl (by omega) (by omega) ?_
        refine wq_iconst (pc := 98) dX7_addEntry_98 ?_
        refine wq_iadd (pc := 99) dX7_addEntry_99 ?_
        refine wq_iastK (pc := 100) dX7_addEntry_100 hs rfl (by omega) (by omega) ?_
        refine wq_vret (pc := 101) dX7_addEntry_101 rfl ?_
        have hm45 : m 45 (w / 128) = l.length := by rw [e3 45 _ (by omega)]; exact hE.1
        have hlow : ∀ i, i < l.length - k → (l.getD i PZ2).1 ≤ key := fun i hi => by
          first
            | (exfalso; omega)
            | (have q9 := (e4 (l.length - k - 1) (by omega)).1
               rw [show w + ((l.length - k - 1 : Nat) : Int) = w + (l.length : Int) - k - 1 by omega] at q9
               by_cases ci : i = l.length - k - 1
               · rw [ci, ← q9]; omega
               · have := hsr i (l.length - k - 1) (by omega) (by omega)
                 omega)
        have hpl : plE l key (l.length - k) := ⟨by omega, hlow, fun i hi hi2 => e6 i (by omega) hi2⟩
        have hj : w + (l.length : Int) - k = w + ((l.length - k : Nat) : Int) := by omega
        rw [hj, wr_n (x := 45) _ _ (by omega), wr_n (x := 45) _ _ (by omega), hm45]
        refine h _ (mB_wr (mB_wr (mB_wr e2 (Or.inr (Or.inr ⟨k0, k1⟩))) (Or.inr (Or.inr ⟨v0, v1⟩))) (Or.inr (Or.inr (by show 0 ≤ (l.length : Int) + 1 ∧ (l.length : Int) + 1 ≤ 128; omega)))) (fun x y hx hx2 => by rw [wr_n _ _ (by omega), wr_n _ _ (by omega), wr_n _ _ (by omega)]; exact e3 x y hx) _ hpl ⟨?_, fun i hi => ?_⟩
        · rw [wr_s, insAt_len l _ hpl.1]; omega
        · rw [insAt_len l _ hpl.1] at hi
          rw [insAt_get l _ PZ2 hpl.1, wr_n (x := 43) _ _ (by omega), wr_n (x := 43) _ _ (by omega), wr_n (x := 44) _ _ (by omega)]
          by_cases ci : i < l.length - k
          · rw [if_pos ci, wr_n _ _ (by omega), wr_n _ _ (by omega)]; exact e4 i (by omega)
          · rw [if_neg ci]
            by_cases cj : i = l.length - k
            · rw [if_pos cj, cj, wr_s, wr_s]; exact ⟨rfl, rfl⟩
            · rw [if_neg cj, wr_n _ _ (by omega), wr_n _ _ (by omega)]; exact e5 i (by omega) (by omega)
      · skip
        refine wq_aload_n (pc := 20) dX7_addEntry_20 rfl rfl ?_
        refine wq_getS (pc := 21) dX7_addEntry_21 hs (gf_X7_75 _ rfl) rfl rfl rfl rfl rfl ?_
        refine wq_iload (pc := 24) dX7_addEntry_24 rfl ?_
        refine wq_iconst (pc := 26) dX7_addEntry_26 ?_
        refine wq_isub (pc := 27) dX7_addEntry_27 ?_
        refine wq_ialdK (pc := 28) dX7_addEntry_28 hs rfl (by omega) (by omega) ?_
        refine wq_iload_n (pc := 29) dX7_addEntry_29 rfl rfl ?_
        refine wq_icmp_le (pc := 30) (tgt := 71) dX7_addEntry_30 (by decide) (by first | (unfold inR; omega) | assumption) (by first | (unfold inR; omega) | assumption) (fun c3 => ?_) (fun c3 => ?_)
        · skip
          refine wq_aload_n (pc := 71) dX7_addEntry_71 rfl rfl ?_
          refine wq_getS (pc := 72) dX7_addEntry_72 hs (gf_X7_75 _ rfl) rfl rfl rfl rfl rfl ?_
          refine wq_iload (pc := 75) dX7_addEntry_75 rfl ?_
          refine wq_iload_n (pc := 77) dX7_addEntry_77 rfl rfl ?_
          refine wq_iastK (pc := 78) dX7_addEntry_78 hs rfl (by omega) (by omega) ?_
          refine wq_aload_n (pc := 79) dX7_addEntry_79 rfl rfl ?_
          refine wq_getS (pc := 80) dX7_addEntry_80 hs (gf_X7_78 _ rfl) rfl rfl rfl rfl rfl ?_
          refine wq_iload (pc := 83) dX7_addEntry_83 rfl ?_
          refine wq_iload_n (pc := 85) dX7_addEntry_85 rfl rfl ?_
          refine wq_iastK (pc := 86) dX7_addEntry_86 hs rfl (by omega) (by omega) ?_
          have rr9 : True := trivial
          refine wq_aload_n (pc := 87) dX7_addEntry_87 rfl rfl ?_
          refine wq_getS (pc := 88) dX7_addEntry_88 hs (gf_X7_81 _ rfl) rfl rfl rfl rfl rfl ?_
          refine wq_iload_n (pc := 91) dX7_addEntry_91 rfl rfl ?_
          refine wq_sipush (pc := 92) dX7_addEntry_92 (by decide) (by decide) ?_
          refine wq_idiv (pc := 95) dX7_addEntry_95 (by omega) (by omega) ?_
          refine wq_dup2 (pc := 96) dX7_addEntry_96 rfl rfl ?_
          refine wq_ialdK (pc := 97) dX7_addEntry_97 hs rfl (by omega) (by omega) ?_
          refine wq_iconst (pc := 98) dX7_addEntry_98 ?_
          refine wq_iadd (pc := 99) dX7_addEntry_99 ?_
          refine wq_iastK (pc := 100) dX7_addEntry_100 hs rfl (by omega) (by omega) ?_
          refine wq_vret (pc := 101) dX7_addEntry_101 rfl ?_
          have hm45 : m 45 (w / 128) = l.length := by rw [e3 45 _ (by omega)]; exact hE.1
          have hlow : ∀ i, i < l.length - k → (l.getD i PZ2).1 ≤ key := fun i hi => by
            first
              | (exfalso; omega)
              | (have q9 := (e4 (l.length - k - 1) (by omega)).1
                 rw [show w + ((l.length - k - 1 : Nat) : Int) = w + (l.length : Int) - k - 1 by omega] at q9
                 by_cases ci : i = l.length - k - 1
                 · rw [ci, ← q9]; omega
                 · have := hsr i (l.length - k - 1) (by omega) (by omega)
                   omega)
          have hpl : plE l key (l.length - k) := ⟨by omega, hlow, fun i hi hi2 => e6 i (by omega) hi2⟩
          have hj : w + (l.length : Int) - k = w + ((l.length - k : Nat) : Int) := by omega
          rw [hj, wr_n (x := 45) _ _ (by omega), wr_n (x := 45) _ _ (by omega), hm45]
          refine h _ (mB_wr (mB_wr (mB_wr e2 (Or.inr (Or.inr ⟨k0, k1⟩))) (Or.inr (Or.inr ⟨v0, v1⟩))) (Or.inr (Or.inr (by show 0 ≤ (l.length : Int) + 1 ∧ (l.length : Int) + 1 ≤ 128; omega)))) (fun x y hx hx2 => by rw [wr_n _ _ (by omega), wr_n _ _ (by omega), wr_n _ _ (by omega)]; exact e3 x y hx) _ hpl ⟨?_, fun i hi => ?_⟩
          · rw [wr_s, insAt_len l _ hpl.1]; omega
          · rw [insAt_len l _ hpl.1] at hi
            rw [insAt_get l _ PZ2 hpl.1, wr_n (x := 43) _ _ (by omega), wr_n (x := 43) _ _ (by omega), wr_n (x := 44) _ _ (by omega)]
            by_cases ci : i < l.length - k
            · rw [if_pos ci, wr_n _ _ (by omega), wr_n _ _ (by omega)]; exact e4 i (by omega)
            · rw [if_neg ci]
              by_cases cj : i = l.length - k
              · rw [if_pos cj, cj, wr_s, wr_s]; exact ⟨rfl, rfl⟩
              · rw [if_neg cj, wr_n _ _ (by omega), wr_n _ _ (by omega)]; exact e5 i (by omega) (by omega)
        · skip
          refine wq_aload_n (pc := 33) dX7_addEntry_33 rfl rfl ?_
          refine wq_getS (pc := 34) dX7_addEntry_34 hs (gf_X7_75 _ rfl) rfl rfl rfl rfl rfl ?_
          refine wq_iload (pc := 37) dX7_addEntry_37 rfl ?_
          refine wq_aload_n (pc := 39) dX7_addEntry_39 rfl rfl ?_
          refine wq_getS (pc := 40) dX7_addEntry_40 hs (gf_X7_75 _ rfl) rfl rfl rfl rfl rfl ?_
          refine wq_iload (pc := 43) dX7_addEntry_43 rfl ?_
          refine wq_iconst (pc := 45) dX7_addEntry_45 ?_
          refine wq_isub (pc := 46) dX7_addEntry_46 ?_
          refine wq_ialdK (pc := 47) dX7_addEntry_47 hs rfl (by omega) (by omega) ?_
          refine wq_iastK (pc := 48) dX7_addEntry_48 hs rfl (by omega) (by omega) ?_
          refine wq_aload_n (pc := 49) dX7_addEntry_49 rfl rfl ?_
          refine wq_getS (pc := 50) dX7_addEntry_50 hs (gf_X7_78 _ rfl) rfl rfl rfl rfl rfl ?_
          refine wq_iload (pc := 53) dX7_addEntry_53 rfl ?_
          refine wq_aload_n (pc := 55) dX7_addEntry_55 rfl rfl ?_
          refine wq_getS (pc := 56) dX7_addEntry_56 hs (gf_X7_78 _ rfl) rfl rfl rfl rfl rfl ?_
          refine wq_iload (pc := 59) dX7_addEntry_59 rfl ?_
          refine wq_iconst (pc := 61) dX7_addEntry_61 ?_
          refine wq_isub (pc := 62) dX7_addEntry_62 ?_
          refine wq_ialdK (pc := 63) dX7_addEntry_63 hs rfl (by omega) (by omega) ?_
          refine wq_iastK (pc := 64) dX7_addEntry_64 hs rfl (by omega) (by omega) ?_
          refine wq_iinc (pc := 65) (L' := [(4, _), (0, _), (1, _), (2, _), (3, _)]) dX7_addEntry_65 rfl rfl (by decide) ?_
          refine wq_goto (pc := 68) (tgt := 14) dX7_addEntry_68 (by decide) ?_
          refine wq_sub1 (L' := [(0, _), (1, _), (2, _), (3, _), (4, _)]) ⟨rfl, rfl, rfl, rfl, rfl, trivial⟩ ?_
          have hj9 : w + (l.length : Int) - k - 1 = w + ((l.length - k - 1 : Nat) : Int) := by omega
          obtain ⟨q43, q44⟩ := e4 (l.length - k - 1) (by omega)
          refine ih (k + 1) _ _ (by omega) (by omega) (by omega) (by omega) (mB_wr (mB_wr e2 (Or.inr (Or.inr (b43 e2 _)))) (Or.inr (Or.inr (b44 (mB_wr e2 (Or.inr (Or.inr (b43 e2 _)))) _)))) (fun x y hx => by rw [wr_n _ _ (by omega), wr_n _ _ (by omega)]; exact e3 x y hx) (fun i hi => ?_) (fun i hi hi2 => ?_) (fun i hi hi2 => ?_)
          · rw [wr_n _ _ (by omega), wr_n _ _ (by omega), wr_n _ _ (by omega), wr_n _ _ (by omega)]; exact e4 i (by omega)
          · by_cases c9 : (i : Int) = l.length - k
            · have ci : i - 1 = l.length - k - 1 := by omega
              have cw : w + (i : Int) = w + l.length - k := by omega
              rw [cw, ci, wr_s, wr_n _ _ (by omega), wr_s, wr_n _ _ (by omega), hj9]
              exact ⟨q43, q44⟩
            · rw [wr_n _ _ (by omega), wr_n _ _ (by omega), wr_n _ _ (by omega), wr_n _ _ (by omega)]; exact e5 i (by omega) hi2
          · by_cases c9 : i = l.length - k - 1
            · subst c9
              rw [← q43, ← hj9]; omega
            · exact e6 i (by omega) hi2
  refine wq_sub1 (L' := [(0, _), (1, _), (2, _), (3, _), (4, _)]) ⟨rfl, rfl, rfl, rfl, rfl, trivial⟩ ?_
  exact loop1 129 0 _ _ (by omega) (by omega) (by omega) (by rw [hE.1]; omega) hb (fun _ _ _ => rfl) (fun i hi => hE.2 i (by omega)) (fun i hi hi2 => by omega) (fun i hi hi2 => by omega)
theorem sp_X7_addFile {μ : nMem} {ε : nEnv} {Q : nOut → nMem → nEnv → Prop} {w f : Int} {l : List Int} (hs : SkP skM ε) (hb : mB μ) (hw : w = 0 ∨ w = 128) (hE : FM w l μ) (hl : l.length < 128) (k0 : 0 ≤ f) (k1 : f ≤ 2001) (hsr : srtI l) (h0 : f ∈ l → Q (.inl none) μ ε) (h : f ∉ l → ∀ m, mB m → (∀ x y, ¬ (x = 46 ∧ w ≤ y ∧ y < w + 128) → ¬ (x = 48 ∧ y = w / 128) → m x y = μ x y) → ∀ j, plI l f j → FM w (insAt l j f) m → Q (.inl none) m ε) : Sp mX7_addFile [vR 21, vI w, vI f] μ ε Q := by
  refine Sp_of (L := [(0, vR 21), (1, vI w), (2, vI f)]) (by decide) rfl rfl (Nat.le_of_ble_eq_true rfl) ?_
  have hw2 : w / 128 = 0 ∨ w / 128 = 1 := by omega
  have hb48 := b48 hb (w / 128)
  have hE1 := hE.1
  have rf : inR f := by unfold inR; omega
  refine wq_iload_n (pc := 0) dX7_addFile_0 rfl rfl ?_
  refine wq_aload_n (pc := 1) dX7_addFile_1 rfl rfl ?_
  refine wq_getS (pc := 2) dX7_addFile_2 hs (gf_X7_90 _ rfl) rfl rfl rfl rfl rfl ?_
  refine wq_iload_n (pc := 5) dX7_addFile_5 rfl rfl ?_
  refine wq_sipush (pc := 6) dX7_addFile_6 (by decide) (by decide) ?_
  refine wq_idiv (pc := 9) dX7_addFile_9 (by omega) (by omega) ?_
  refine wq_ialdK (pc := 10) dX7_addFile_10 hs rfl (by omega) (by omega) ?_
  refine wq_iadd (pc := 11) dX7_addFile_11 ?_
  refine wq_istore_n (pc := 12) (L' := [(3, _), (0, _), (1, _), (2, _)]) dX7_addFile_12 rfl rfl (by decide) ?_
  refine wq_iload_n (pc := 13) dX7_addFile_13 rfl rfl ?_
  refine wq_istore (pc := 14) (L' := [(4, _), (3, _), (0, _), (1, _), (2, _)]) dX7_addFile_14 rfl (by decide) ?_
  have loop1 : ∀ (n k : Nat), ∀ (j : Int), k ≤ 128 → 128 < k + n → (k : Int) ≤ l.length → j = w + k → (∀ i : Nat, i < k → l.getD i 0 ≠ f) → wp mX7_addFile 16 [(0, vR 21), (1, vI w), (2, vI f), (3, vI (w + μ 48 (w / 128))), (4, vI j)] [] μ ε Q := by
    intro n
    induction n with
    | zero => intro k j hk1 hk2 e0 e1 e2; exact absurd hk2 (by omega)
    | succ n ih =>
      intro k j hk1 hk2 e0 e1 e2
      subst e1
      have g46 := b46 hb (w + k)
      have r46 : inR (μ 46 (w + k)) := by unfold inR; omega
      have rj : inR (w + k) := by unfold inR; omega
      have rw2 : inR (w + μ 48 (w / 128)) := by unfold inR; omega
      refine wq_iload (pc := 16) dX7_addFile_16 rfl ?_
      refine wq_iload_n (pc := 18) dX7_addFile_18 rfl rfl ?_
      refine wq_icmp_ge (pc := 19) (tgt := 40) dX7_addFile_19 (by decide) (by first | (unfold inR; omega) | assumption) (by first | (unfold inR; omega) | assumption) (fun c2 => ?_) (fun c2 => ?_)
      · skip
        have hk9 : k = l.length := by omega
        have hnm : f ∉ l := fun z => by
          obtain ⟨i, hi, e⟩ := mem_lget 0 z
          exact e2 i (by omega) e
        refine wq_iload_n (pc := 40) dX7_addFile_40 rfl rfl ?_
        refine wq_istore (pc := 41) (L' := [(4, _), (0, _), (1, _), (2, _), (3, _)]) dX7_addFile_41 rfl (by decide) ?_
        have loop3 : ∀ (n k : Nat), ∀ (m : nMem) (j : Int), k ≤ 128 → 128 < k + n → (k : Int) ≤ l.length → j = w + l.length - k → mB m → (∀ x y, ¬ (x = 46 ∧ w ≤ y ∧ y < w + 128) → m x y = μ x y) → (∀ i : Nat, (i : Int) < l.length - k → m 46 (w + i) = l.getD i 0) → (∀ i : Nat, (l.length : Int) - k < i → i ≤ l.length → m 46 (w + i) = l.getD (i - 1) 0) → (∀ i : Nat, (l.length : Int) - k ≤ i → i < l.length → f < l.getD i 0) → wp mX7_addFile 43 [(0, vR 21), (1, vI w), (2, vI f), (4, vI j)] [] m ε Q := by
          intro n
          induction n with
          | zero => intro k m j hk1 hk2 e0 e1 e2 e3 e4 e5 e6; exact absurd hk2 (by omega)
          | succ n ih =>
            intro k m j hk1 hk2 e0 e1 e2 e3 e4 e5 e6
            subst e1
            have g46 := b46 e2 (w + l.length - k - 1)
            have r46 : inR (m 46 (w + l.length - k - 1)) := by unfold inR; omega
            have rkey : inR f := by unfold inR; omega
            have rj : inR (w + l.length - k) := by unfold inR; omega
            have rw2 : inR w := by unfold inR; omega
            refine wq_iload (pc := 43) dX7_addFile_43 rfl ?_
            refine wq_iload_n (pc := 45) dX7_addFile_45 rfl rfl ?_
            refine wq_icmp_le (pc := 46) (tgt := 84) dX7_addFile_46 (by decide) (by first | (unfold inR; omega) | assumption) (by first | (unfold inR; omega) | assumption) (fun c4 => ?_) (fun c4 => ?_)
            · skip
              refine wq_aload_n (pc := 84) dX7_addFile_84 rfl rfl ?_
              refine wq_getS (pc := 85) dX7_addFile_85 hs (gf_X7_84 _ rfl) rfl rfl rfl rfl rfl ?_
              refine wq_iload (pc := 88) dX7_addFile_88 rfl ?_
              refine wq_iload_n (pc := 90) dX7_addFile_90 rfl rfl ?_
              refine wq_iastK (pc := 91) dX7_addFile_91 hs rfl (by omega) (by omega) ?_
              refine wq_aload_n (pc := 92) dX7_addFile_92 rfl rfl ?_
              refine wq_getS (pc := 93) dX7_addFile_93 hs (gf_X7_90 _ rfl) rfl rfl rfl rfl rfl ?_
              refine wq_iload_n (pc := 96) dX7_addFile_96 rfl rfl ?_
              refine wq_sipush (pc := 97) dX7_addFile_97 (by decide) (by decide) ?_
              refine wq_idiv (pc := 100) dX7_addFile_100 (by omega) (by omega) ?_
              refine wq_dup2 (pc := 101) dX7_addFile_101 rfl rfl ?_
              refine wq_ialdK (pc := 102) dX7_addFile_102 hs rfl (by omega) (by omega) ?_
              refine wq_iconst (pc := 103) dX7_addFile_103 ?_
              refine wq_iadd (pc := 104) dX7_addFile_104 ?_
              refine wq_iastK (pc := 105) dX7_addFile_105 hs rfl (by omega) (by omega) ?_
              refine wq_vret (pc := 106) dX7_addFile_106 rfl ?_
              have hm48 : m 48 (w / 128) = l.length := by rw [e3 48 _ (by omega)]; exact hE.1
              have hlow : ∀ i, i < l.length - k → l.getD i 0 < f := fun i hi => by
                first
                  | (exfalso; omega)
                  | (have q9 := e4 (l.length - k - 1) (by omega)
                     have q8 : l.getD (l.length - k - 1) 0 ≠ f := fun z => hnm (by rw [← z]; exact lget_mem 0 (by omega))
                     rw [show w + ((l.length - k - 1 : Nat) : Int) = w + (l.length : Int) - k - 1 by omega] at q9
                     by_cases ci : i = l.length - k - 1
                     · rw [ci]; omega
                     · have := hsr i (l.length - k - 1) (by omega) (by omega)
                       omega)
              have hpl : plI l f (l.length - k) := ⟨by omega, hlow, fun i hi hi2 => e6 i (by omega) hi2⟩
              have hj : w + (l.length : Int) - k = w + ((l.length - k : Nat) : Int) := by omega
              rw [hj, wr_n (x := 48) _ _ (by omega), hm48]
              refine h hnm _ (mB_wr (mB_wr e2 (Or.inr (Or.inr ⟨k0, k1⟩))) (Or.inr (Or.inr (by show 0 ≤ (l.length : Int) + 1 ∧ (l.length : Int) + 1 ≤ 128; omega)))) (fun x y hx hx2 => by rw [wr_n _ _ (by omega), wr_n _ _ (by omega)]; exact e3 x y hx) _ hpl ⟨?_, fun i hi => ?_⟩
              · rw [wr_s, insAt_len l _ hpl.1]; omega
              · rw [insAt_len l _ hpl.1] at hi
                rw [insAt_get l _ 0 hpl.1, wr_n (x := 46) _ _ (by omega)]
                by_cases ci : i < l.length - k
                · rw [if_pos ci, wr_n _ _ (by omega)]; exact e4 i (by omega)
                · rw [if_neg ci]
                  by_cases cj : i = l.length - k
                  · rw [if_pos cj, cj, wr_s]
                  · rw [if_neg cj, wr_n _ _ (by omega)]; exact e5 i (by omega) (by omega)
            · skip
              refine wq_aload_n (pc := 49) dX7_addFile_49 rfl rfl ?_
              refine wq_getS (pc := 50) dX7_addFile_50 hs (gf_X7_84 _ rfl) rfl rfl rfl rfl rfl ?_
              refine wq_iload (pc := 53) dX7_addFile_53 rfl ?_
              refine wq_iconst (pc := 55) dX7_addFile_55 ?_
              refine wq_isub (pc := 56) dX7_addFile_56 ?_
              refine wq_ialdK (pc := 57) dX7_addFile_57 hs rfl (by omega) (by omega) ?_
              refine wq_iload_n (pc := 58) dX7_addFile_58 rfl rfl ?_
              refine wq_icmp_le (pc := 59) (tgt := 84) dX7_addFile_59 (by decide) (by first | (unfold inR; omega) | assumption) (by first | (unfold inR; omega) | assumption) (fun c5 => ?_) (fun c5 => ?_)
              · skip
                refine wq_aload_n (pc := 84) dX7_addFile_84 rfl rfl ?_
                refine wq_getS (pc := 85) dX7_addFile_85 hs (gf_X7_84 _ rfl) rfl rfl rfl rfl rfl ?_
                refine wq_iload (pc := 88) dX7_addFile_88 rfl ?_
                refine wq_iload_n (pc := 90) dX7_addFile_90 rfl rfl ?_
                refine wq_iastK (pc := 91) dX7_addFile_91 hs rfl (by omega) (by omega) ?_
                refine wq_aload_n (pc := 92) dX7_addFile_92 rfl rfl ?_
                refine wq_getS (pc := 93) dX7_addFile_93 hs (gf_X7_90 _ rfl) rfl rfl rfl rfl rfl ?_
                refine wq_iload_n (pc := 96) dX7_addFile_96 rfl rfl ?_
                refine wq_sipush (pc := 97) dX7_addFile_97 (by decide) (by decide) ?_
                refine wq_idiv (pc := 100) dX7_addFile_100 (by omega) (by omega) ?_
                refine wq_dup2 (pc := 101) dX7_addFile_101 rfl rfl ?_
                refine wq_ialdK (pc := 102) dX7_addFile_102 hs rfl (by omega) (by omega) ?_
                refine wq_iconst (pc := 103) dX7_addFile_103 ?_
                refine wq_iadd (pc := 104) dX7_addFile_104 ?_
                refine wq_iastK (pc := 105) dX7_addFile_105 hs rfl (by omega) (by omega) ?_
                refine wq_vret (pc := 106) dX7_addFile_106 rfl ?_
                have hm48 : m 48 (w / 128) = l.length := by rw [e3 48 _ (by omega)]; exact hE.1
                have hlow : ∀ i, i < l.length - k → l.getD i 0 < f := fun i hi => by
                  first
                    | (exfalso; omega)
                    | (have q9 := e4 (l.length - k - 1) (by omega)
                       have q8 : l.getD (l.length - k - 1) 0 ≠ f := fun z => hnm (by rw [← z]; exact lget_mem 0 (by omega))
                       rw [show w + ((l.length - k - 1 : Nat) : Int) = w + (l.length : Int) - k - 1 by omega] at q9
                       by_cases ci : i = l.length - k - 1
                       · rw [ci]; omega
                       · have := hsr i (l.length - k - 1) (by omega) (by omega)
                         omega)
                have hpl : plI l f (l.length - k) := ⟨by omega, hlow, fun i hi hi2 => e6 i (by omega) hi2⟩
                have hj : w + (l.length : Int) - k = w + ((l.length - k : Nat) : Int) := by omega
                rw [hj, wr_n (x := 48) _ _ (by omega), hm48]
                refine h hnm _ (mB_wr (mB_wr e2 (Or.inr (Or.inr ⟨k0, k1⟩))) (Or.inr (Or.inr (by show 0 ≤ (l.length : Int) + 1 ∧ (l.length : Int) + 1 ≤ 128; omega)))) (fun x y hx hx2 => by rw [wr_n _ _ (by omega), wr_n _ _ (by omega)]; exact e3 x y hx) _ hpl ⟨?_, fun i hi => ?_⟩
                · rw [wr_s, insAt_len l _ hpl.1]; omega
                · rw [insAt_len l _ hpl.1] at hi
                  rw [insAt_get l _ 0 hpl.1, wr_n (x := 46) _ _ (by omega)]
                  by_cases ci : i < l.length - k
                  · rw [if_pos ci, wr_n _ _ (by omega)]; exact e4 i (by omega)
                  · rw [if_neg ci]
                    by_cases cj : i = l.length - k
                    · rw [if_pos cj, cj, wr_s]
                    · rw [if_neg cj, wr_n _ _ (by omega)]; exact e5 i (by omega) (by omega)
              · skip
                refine wq_aload_n (pc := 62) dX7_addFile_62 rfl rfl ?_
                refine wq_getS (pc := 63) dX7_addFile_63 hs (gf_X7_84 _ rfl) rfl rfl rfl rfl rfl ?_
                refine wq_iload (pc := 66) dX7_addFile_66 rfl ?_
                refine wq_aload_n (pc := 68) dX7_addFile_68 rfl rfl ?_
                refine wq_getS (pc := 69) dX7_addFile_69 hs (gf_X7_84 _ rfl) rfl rfl rfl rfl rfl ?_
                refine wq_iload (pc := 72) dX7_addFile_72 rfl ?_
                refine wq_iconst (pc := 74) dX7_addFile_74 ?_
                refine wq_isub (pc := 75) dX7_addFile_75 ?_
                refine wq_ialdK (pc := 76) dX7_addFile_76 hs rfl (by omega) (by omega) ?_
                refine wq_iastK (pc := 77) dX7_addFile_77 hs rfl (by omega) (by omega) ?_
                refine wq_iinc (pc := 78) (L' := [(4, _), (0, _), (1, _), (2, _)]) dX7_addFile_78 rfl rfl (by decide) ?_
                refine wq_goto (pc := 81) (tgt := 43) dX7_addFile_81 (by decide) ?_
                refine wq_sub1 (L' := [(0, _), (1, _), (2, _), (4, _)]) ⟨rfl, rfl, rfl, rfl, trivial⟩ ?_
                have hj9 : w + (l.length : Int) - k - 1 = w + ((l.length - k - 1 : Nat) : Int) := by omega
                have q46 := e4 (l.length - k - 1) (by omega)
                refine ih (k + 1) _ _ (by omega) (by omega) (by omega) (by omega) (mB_wr e2 (Or.inr (Or.inr (b46 e2 _)))) (fun x y hx => by rw [wr_n _ _ (by omega)]; exact e3 x y hx) (fun i hi => ?_) (fun i hi hi2 => ?_) (fun i hi hi2 => ?_)
                · rw [wr_n _ _ (by omega)]; exact e4 i (by omega)
                · by_cases c9 : (i : Int) = l.length - k
                  · have ci : i - 1 = l.length - k - 1 := by omega
                    have cw : w + (i : Int) = w + l.length - k := by omega
                    rw [cw, ci, wr_s, hj9]
                    exact q46
                  · rw [wr_n _ _ (by omega)]; exact e5 i (by omega) hi2
                · by_cases c9 : i = l.length - k - 1
                  · subst c9
                    rw [← q46, ← hj9]; omega
                  · exact e6 i (by omega) hi2
        refine wq_sub1 (L' := [(0, _), (1, _), (2, _), (4, _)]) ⟨rfl, rfl, rfl, rfl, trivial⟩ ?_
        exact loop3 129 0 _ _ (by omega) (by omega) (by omega) (by rw [hE.1]; omega) hb (fun _ _ _ => rfl) (fun i hi => hE.2 i (by omega)) (fun i hi hi2 => by omega) (fun i hi hi2 => by omega)
      · skip
        refine wq_aload_n (pc := 22) dX7_addFile_22 rfl rfl ?_
        refine wq_getS (pc := 23) dX7_addFile_23 hs (gf_X7_84 _ rfl) rfl rfl rfl rfl rfl ?_
        refine wq_iload (pc := 26) dX7_addFile_26 rfl ?_
        refine wq_ialdK (pc := 28) dX7_addFile_28 hs rfl (by omega) (by omega) ?_
        refine wq_iload_n (pc := 29) dX7_addFile_29 rfl rfl ?_
        refine wq_icmp_ne (pc := 30) (tgt := 34) dX7_addFile_30 (by decide) (by first | (unfold inR; omega) | assumption) (by first | (unfold inR; omega) | assumption) (fun c6 => ?_) (fun c6 => ?_)
        · skip
          refine wq_iinc (pc := 34) (L' := [(4, _), (0, _), (1, _), (2, _), (3, _)]) dX7_addFile_34 rfl rfl (by decide) ?_
          refine wq_goto (pc := 37) (tgt := 16) dX7_addFile_37 (by decide) ?_
          refine wq_sub1 (L' := [(0, _), (1, _), (2, _), (3, _), (4, _)]) ⟨rfl, rfl, rfl, rfl, rfl, trivial⟩ ?_
          have q9 := hE.2 k (by omega)
          exact ih (k + 1) _ (by omega) (by omega) (by omega) (by omega) (fun i hi => by
            by_cases ci : i = k
            · rw [ci, ← q9]; omega
            · exact e2 i (by omega))
        · skip
          refine wq_vret (pc := 33) dX7_addFile_33 rfl ?_
          have q9 := hE.2 k (by omega)
          exact h0 (by rw [show f = l.getD k 0 by omega]; exact lget_mem 0 (by omega))
  refine wq_sub1 (L' := [(0, _), (1, _), (2, _), (3, _), (4, _)]) ⟨rfl, rfl, rfl, rfl, rfl, trivial⟩ ?_
  exact loop1 129 0 _ (by omega) (by omega) (by omega) (by omega) (fun i hi => by omega)
