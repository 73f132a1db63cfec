theorem nul_iff {f g : Int → Int} : ∀ n : Nat, (∀ i : Int, 0 ≤ i → i < n → (f i = 0 ↔ g i = 0)) → nul f n = nul g n
  | 0, _ => rfl
  | n + 1, h => by
    unfold nul
    rw [nul_iff n (fun i h0 h1 => h i h0 (by omega))]
    have q := h n (by omega) (by omega)
    by_cases e : f n = 0
    · rw [if_pos e, if_pos (q.mp e)]
    · rw [if_neg e, if_neg (fun z => e (q.mpr z))]
def sw (a b i : Int) : Int := if i = a then b else if i = b then a else i
theorem sw_r {a b i n : Int} (ha : 0 ≤ a ∧ a < n) (hb : 0 ≤ b ∧ b < n) (hi : 0 ≤ i ∧ i < n) : 0 ≤ sw a b i ∧ sw a b i < n := by
  unfold sw; split
  · exact hb
  · split
    · exact ha
    · exact hi
theorem sw_inj {a b i j : Int} (h : sw a b i = sw a b j) : i = j := by
  unfold sw at h; split at h <;> split at h <;> (try split at h) <;> (try split at h) <;> omega
theorem sw_sw (a b i : Int) : sw a b (sw a b i) = i := by
  unfold sw; split <;> split <;> (try split) <;> (try split) <;> omega
theorem nItems_sw {μ m : nMem} {ε : nEnv} {a b : Int} (h : nItems μ ε) (ha : 0 ≤ a ∧ a < 129) (hb : 0 ≤ b ∧ b < 129) (e : ∀ i, m 13 i = μ 13 (sw a b i)) : nItems m ε := by
  refine ⟨fun i i0 i1 hz => ?_, fun i j i0 i1 j0 j1 hz q => ?_, fun i j i0 i1 j0 j1 hz hy q => ?_⟩
  · obtain ⟨r0, r1⟩ := sw_r ha hb ⟨i0, i1⟩
    rw [e] at hz ⊢
    exact h.1 _ r0 r1 hz
  · obtain ⟨r0, r1⟩ := sw_r ha hb ⟨i0, i1⟩
    obtain ⟨s0, s1⟩ := sw_r ha hb ⟨j0, j1⟩
    rw [e] at hz q; rw [e] at q
    exact sw_inj (h.2.1 _ _ r0 r1 s0 s1 hz q)
  · obtain ⟨r0, r1⟩ := sw_r ha hb ⟨i0, i1⟩
    obtain ⟨s0, s1⟩ := sw_r ha hb ⟨j0, j1⟩
    rw [e] at hz q hy; rw [e] at q
    exact sw_inj (h.2.2 _ _ r0 r1 s0 s1 hz hy q)
/-- the list without one, as dropping leaves it -/
def tDr (l : List Int) (n : Int) (l' : List Int) : Prop := l'.Nodup ∧ l'.length + 1 = l.length ∧ ∀ x, x ∈ l' ↔ x ∈ l ∧ x ≠ n
def dropL (l : List Int) (i : Nat) : List Int := (List.range (l.length - 1)).map (fun k : Nat => l.getD (sw i ((l.length : Int) - 1) k).toNat 0)
theorem dropL_get (l : List Int) (i : Nat) {k : Nat} (hk : k < l.length - 1) : (dropL l i).getD k 0 = l.getD (sw i ((l.length : Int) - 1) k).toNat 0 := by
  rw [List.getD_eq_getElem?_getD, dropL, List.getElem?_map, List.getElem?_range hk]; rfl
theorem dropL_len (l : List Int) (i : Nat) : (dropL l i).length = l.length - 1 := by
  unfold dropL; rw [List.length_map, List.length_range]
theorem dropL_ok {l : List Int} (hn : l.Nodup) {i : Nat} (hi : i < l.length) : tDr l (l.getD i 0) (dropL l i) := by
  have hr : ∀ k : Nat, k < l.length → (sw i ((l.length : Int) - 1) k).toNat < l.length ∧ ((sw i ((l.length : Int) - 1) k).toNat : Int) = sw i ((l.length : Int) - 1) k := fun k hk => by
    have := sw_r (a := i) (b := (l.length : Int) - 1) (i := k) (n := l.length) (by omega) (by omega) (by omega)
    omega
  refine ⟨?_, by rw [dropL_len]; omega, fun x => ⟨fun hx => ?_, fun hx => ?_⟩⟩
  · refine List.pairwise_iff_getElem.mpr (fun p q hp hq hpq => ?_)
    rw [dropL_len] at hp hq
    intro e
    have e2 : (dropL l i).getD p 0 = (dropL l i).getD q 0 := by
      rw [List.getD_eq_getElem?_getD, List.getD_eq_getElem?_getD, List.getElem?_eq_getElem, List.getElem?_eq_getElem]; exact e
    rw [dropL_get l i hp, dropL_get l i hq] at e2
    have e3 := getD_inj hn (hr p (by omega)).1 (hr q (by omega)).1 e2
    have e4 : sw i ((l.length : Int) - 1) p = sw i ((l.length : Int) - 1) q := by rw [← (hr p (by omega)).2, ← (hr q (by omega)).2, e3]
    have := sw_inj e4
    omega
  · obtain ⟨k, hk, e⟩ := mem_getD hx
    rw [dropL_len] at hk
    rw [dropL_get l i hk] at e
    obtain ⟨h1, h2⟩ := hr k (by omega)
    refine ⟨by rw [← e]; exact getD_mem h1, fun q => ?_⟩
    have e3 := getD_inj hn h1 hi (e.trans q)
    have e4 : sw i ((l.length : Int) - 1) k = i := by omega
    unfold sw at e4
    split at e4
    · omega
    · split at e4 <;> omega
  · obtain ⟨k, hk, e⟩ := mem_getD hx.1
    have hki : k ≠ i := fun q => hx.2 (by rw [← e, q])
    obtain ⟨h1, h2⟩ := hr k hk
    have h3 : (sw i ((l.length : Int) - 1) k).toNat < l.length - 1 := by
      unfold sw at h1 h2 ⊢
      rw [if_neg (by omega)]
      split <;> omega
    have h4 := dropL_get l i h3
    rw [h2, sw_sw] at h4
    rw [← e, show k = ((k : Int)).toNat by omega, ← h4]
    exact getD_mem (by rw [dropL_len]; exact h3)
theorem CT_drop {S : Tr} {μ m : nMem} {ε : nEnv} {i : Nat} (hT : CT S μ ε) (hi : i < (tNl S).length) (h13 : ∀ k, m 13 k = μ 13 (sw i (((tNl S).length : Int) - 1) k)) (h12 : m 12 2 = ((tNl S).length : Int) - 1 ∧ m 12 3 = μ 12 3) (hx : ∀ x j, x ≠ 12 → x ≠ 13 → m x j = μ x j) :
    CT (tNx S, dropL (tNl S) i, tFd S, tCl S) m ε ∧ FrT μ ε m ε ∧ (∀ b n, n ≠ (tNl S).getD i 0 → tAt S μ b n → tAt (tNx S, dropL (tNl S) i, tFd S, tCl S) m b n) := by
  obtain ⟨c1, c2, c3, c4, c5, c6, c7⟩ := hT
  have hT : CT S μ ε := ⟨c1, c2, c3, c4, c5, c6, c7⟩
  have ok := dropL_ok c3 hi
  have hr : ∀ k : Nat, k < (tNl S).length → (sw i (((tNl S).length : Int) - 1) k).toNat < (tNl S).length ∧ ((sw i (((tNl S).length : Int) - 1) k).toNat : Int) = sw i (((tNl S).length : Int) - 1) k := fun k hk => by
    have := sw_r (a := i) (b := ((tNl S).length : Int) - 1) (i := k) (n := (tNl S).length) (by omega) (by omega) (by omega)
    omega
  have hsh : ∀ k : Nat, k < (tNl S).length → μ 13 k ≠ 0 ∧ isItm ε (μ 13 k) ∧ (μ 13 k = 15 ∨ 25 < μ 13 k) ∧ (eFin ε (μ 13 k) 0 = 16 ∨ 25 < eFin ε (μ 13 k) 0) := fun k hk => tAt_sh hT (CT_it hT hk)
  refine ⟨⟨c1, nItems_sw c2 (by omega) (by omega) h13, ok.1, by rw [dropL_len]; omega, by rw [h12.1, dropL_len]; omega, by rw [h12.2]; exact c6, fun k hk => ?_⟩, ⟨fun x _ x1 x2 _ _ j => hx x j x1 x2, fun _ _ => ⟨rfl, rfl, fun _ => rfl⟩, fun x ⟨k, k0, k1, k2, k3⟩ => ?_, rfl, fun t ht => ?_⟩, fun b n hn ⟨k, hk, e, e2⟩ => ?_⟩
  · have hk : k < (dropL (tNl S) i).length := hk
    rw [dropL_len] at hk
    obtain ⟨r1, r2⟩ := hr k (by omega)
    show m 13 k ≠ 0 ∧ itIs _ m ε (m 13 k) ((dropL (tNl S) i).getD k 0)
    rw [h13, ← r2, dropL_get _ _ hk]
    obtain ⟨s1, s2, s3, s4⟩ := hsh _ r1
    obtain ⟨t1, t2, t3, t4⟩ := c7 _ r1
    refine ⟨t1, by rw [hx _ _ (by omega) (by omega)]; exact t2, fun q q0 q1 => by rw [hx _ _ (by omega) (by omega)]; exact t3 q q0 q1, fun q q0 q1 => by rw [hx _ _ (by omega) (by omega)]; exact t4 q q0 q1⟩
  · rw [h13] at k2 k3
    obtain ⟨r0, r1⟩ := sw_r (a := i) (b := ((tNl S).length : Int) - 1) (i := k) (n := 129) (by omega) (by omega) ⟨k0, k1⟩
    exact Or.inl ⟨_, r0, r1, k2, k3⟩
  · unfold Cap at ht ⊢
    rw [nul_congr (f := m 3) (g := μ 3) 128 (fun i _ _ => hx 3 i (by omega) (by omega)), nul_iff (f := m 13) (g := μ 13) 129 (fun k k0 k1 => ?_)]
    · exact ht
    · rw [h13]
      have z1 := (hsh i hi).1
      have z2 := (hsh ((tNl S).length - 1) (by omega)).1
      rw [show (((tNl S).length - 1 : Nat) : Int) = ((tNl S).length : Int) - 1 by omega] at z2
      unfold sw
      split
      · rename_i e; rw [e]; exact ⟨fun q => absurd q z2, fun q => absurd q z1⟩
      · split
        · rename_i e; rw [e]; exact ⟨fun q => absurd q z1, fun q => absurd q z2⟩
        · exact Iff.rfl
  · have hki : k ≠ i := fun q => hn (by rw [← e, q])
    obtain ⟨h1, h2⟩ := hr k hk
    have h3 : (sw i (((tNl S).length : Int) - 1) k).toNat < (tNl S).length - 1 := by
      unfold sw at h1 h2 ⊢
      rw [if_neg (by omega)]
      split <;> omega
    refine ⟨_, by show _ < (dropL (tNl S) i).length; rw [dropL_len]; exact h3, ?_, ?_⟩
    · show (dropL (tNl S) i).getD _ 0 = n
      rw [dropL_get _ _ h3, h2, sw_sw]; exact e
    · rw [h13, h2, sw_sw]; exact e2
theorem sp_J9_max {μ : nMem} {ε : nEnv} {Q : nOut → nMem → nEnv → Prop} {a b : Int} (ra : inR a) (rb : inR b) (h : Q (.inl (some (vI (max a b)))) μ ε) : Sp mJ9_max [vI a, vI b] μ ε Q := by
  refine Sp_ofF (L := [(0, vI a), (1, vI b)]) (by decide +kernel) rfl rfl (Nat.le_of_ble_eq_true rfl) ?_
  refine wq_iload_n (pc := 0) dJ9_max_0 rfl rfl ?_
  refine wq_iload_n (pc := 1) dJ9_max_1 rfl rfl ?_
  refine wq_icmp_lt (pc := 2) (tgt := 9) dJ9_max_2 (by decide) (by first | (unfold inR; omega) | assumption) (by first | (unfold inR; omega) | assumption) (fun c1 => ?_) (fun c1 => ?_)
  · skip
    refine wq_iload_n (pc := 9) dJ9_max_9 rfl rfl ?_
    refine wq_iret (pc := 10) dJ9_max_10 rfl ?_
    first | (rw [show max a b = a by omega] at h; exact h) | (rw [show max a b = b by omega] at h; exact h)
  · skip
    refine wq_iload_n (pc := 5) dJ9_max_5 rfl rfl ?_
    refine wq_goto (pc := 6) (tgt := 10) dJ9_max_6 (by decide) ?_
    refine wq_iret (pc := 10) dJ9_max_10 rfl ?_
    first | (rw [show max a b = a by omega] at h; exact h) | (rw [show max a b = b by omega] at h; exact h)
