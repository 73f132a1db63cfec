theorem isItm_ext {ε ε' : nEnv} {a : Int} (h : isItm ε a) (he : ∀ x, eKind ε x ≠ 0 → eKind ε' x = eKind ε x ∧ eLen ε' x = eLen ε x ∧ ∀ k, eFin ε' x k = eFin ε x k) : isItm ε' a ∧ eFin ε' a 0 = eFin ε a 0 := by
  obtain ⟨h1, h2, h3⟩ := h
  have e := (he a (by rw [h1]; decide)).2.2 0
  obtain ⟨d1, d2, -⟩ := he (eFin ε a 0) (by rw [h2]; decide)
  exact ⟨⟨(he a (by rw [h1]; decide)).1.trans h1, by rw [e]; exact d1.trans h2, by rw [e]; exact d2.trans h3⟩, e⟩
/-- a tree with one more -/
def tAdd (S : Tr) (n d : Int) : Tr := (max (tNx S) (n + 1), tNl S ++ [n], fun x k => if x = n then (if k = 2 then d else 0) else tFd S x k, fun x j => if x = n then 0 else tCl S x j)
theorem getD_app1 {l : List Int} {n : Int} {i : Nat} (h : i < l.length) : (l ++ [n]).getD i 0 = l.getD i 0 := by
  rw [List.getD_eq_getElem?_getD, List.getD_eq_getElem?_getD, List.getElem?_append_left h]
theorem getD_app2 {l : List Int} {n : Int} : (l ++ [n]).getD l.length 0 = n := by
  rw [List.getD_eq_getElem?_getD, List.getElem?_append_right (Nat.le_refl _), Nat.sub_self]; rfl
theorem add_fin {S : Tr} {μ m0 m9 : nMem} {ε e0 : nEnv} {a n d : Int} (hT : CT S μ ε) (hn : n ∉ tNl S) (hl : (tNl S).length < 129)
    (hk : ∀ x, (eKind ε x ≠ 0 ∨ x = -1) → ∀ j, m0 x j = μ x j)
    (he : ∀ x, eKind ε x ≠ 0 → eKind e0 x = eKind ε x ∧ eLen e0 x = eLen ε x ∧ ∀ k, eFin e0 x k = eFin ε x k) (hL : eLen e0 (-1) = eLen ε (-1))
    (hI : isItm e0 a) (h15 : a = 15 ∨ 25 < a) (h16 : eFin e0 a 0 = 16 ∨ 25 < eFin e0 a 0)
    (hA : a = μ 13 ((tNl S).length : Int) ∨ (eKind ε a = 0 ∧ eKind ε (eFin e0 a 0) = 0))
    (hcap : ∀ t, Cap μ ε t → Cap (wr m0 13 ((tNl S).length : Int) a) e0 t)
    (h9 : ∀ j, 0 ≤ j → j < 100 → m9 (eFin e0 a 0) j = 0)
    (hx : ∀ x j, x ≠ eFin e0 a 0 → x ≠ a → x ≠ 12 → x ≠ 13 → m9 x j = m0 x j)
    (h12 : m9 12 2 = ((tNl S).length : Int) + 1 ∧ m9 12 3 = max (tNx S) (n + 1)) (h13 : ∀ j, m9 13 j = if j = ((tNl S).length : Int) then a else m0 13 j)
    (ha : m9 a 1 = n ∧ m9 a 2 = d ∧ ∀ k, 3 ≤ k → k ≤ 6 → m9 a k = 0) :
    CT (tAdd S n d) m9 e0 ∧ FrT μ ε m9 e0 ∧ tAt (tAdd S n d) m9 a n ∧ (∀ b q, tAt S μ b q → tAt (tAdd S n d) m9 b q) := by
  obtain ⟨c1, c2, c3, c4, c5, c6, c7⟩ := id hT
  have k13 : eKind ε 13 ≠ 0 := by rw [(c1 13 14 129 [] rfl (by decide)).1]; decide
  have m13 : ∀ j, m9 13 j = if j = ((tNl S).length : Int) then a else μ 13 j := fun j => by rw [h13, hk 13 (Or.inl k13)]
  -- the others' places
  have hsh : ∀ i : Int, 0 ≤ i → i < 129 → μ 13 i ≠ 0 → i ≠ ((tNl S).length : Int) → isItm e0 (μ 13 i) ∧ eFin e0 (μ 13 i) 0 = eFin ε (μ 13 i) 0 ∧ (μ 13 i = 15 ∨ 25 < μ 13 i) ∧ (eFin ε (μ 13 i) 0 = 16 ∨ 25 < eFin ε (μ 13 i) 0) ∧ μ 13 i ≠ a ∧ eFin ε (μ 13 i) 0 ≠ eFin e0 a 0 ∧ eKind ε (μ 13 i) ≠ 0 ∧ eKind ε (eFin ε (μ 13 i) 0) ≠ 0 := by
    intro i i0 i1 i2 i3
    obtain ⟨s1, s2, s3⟩ := c2.1 i i0 i1 i2
    obtain ⟨t1, t2⟩ := isItm_ext s1 he
    have z1 : eKind ε (μ 13 i) ≠ 0 := by rw [s1.1]; decide
    have z2 : eKind ε (eFin ε (μ 13 i) 0) ≠ 0 := by rw [s1.2.1]; decide
    refine ⟨t1, t2, s2, s3, fun q => ?_, fun q => ?_, z1, z2⟩
    · rcases hA with e | ⟨e, -⟩
      · exact i3 (c2.2.1 i _ i0 i1 (by omega) (by omega) i2 (q.trans e))
      · rw [q] at z1; exact z1 e
    · rcases hA with e | ⟨-, e⟩
      · have y0 : μ 13 ((tNl S).length : Int) ≠ 0 := by rw [← e]; omega
        have y1 := (c2.1 _ (by omega) (by omega) y0).1
        have y2 := (isItm_ext y1 he).2
        exact i3 (c2.2.2 i _ i0 i1 (by omega) (by omega) i2 y0 (by rw [q, e, y2]))
      · rw [q] at z2; exact z2 e
  have hne := isItm_ne hI
  have k2 : ∀ x, isItm e0 x → x ≠ eFin e0 a 0 := fun x hx q => by have := hx.1; rw [q, hI.2.1] at this; cases this
  have k11 : ∀ x, isItm e0 x → eFin e0 x 0 ≠ a := fun x hx q => by have := hx.2.1; rw [q, hI.1] at this; cases this
  have hold : ∀ i : Nat, i < (tNl S).length → m9 13 i = μ 13 i := fun i hi => by rw [m13, if_neg (by omega)]
  refine ⟨⟨SkP_ext c1 he, ⟨fun i i0 i1 i2 => ?_, fun i j i0 i1 j0 j1 i2 q => ?_, fun i j i0 i1 j0 j1 i2 j2 q => ?_⟩, ?_, ?_, ?_, h12.2, fun i hi => ?_⟩, ⟨fun x hx0 x1 x2 x3 x4 j => ?_, he, fun x ⟨i, i0, i1, i2, i3⟩ => ?_, hL, fun t ht => ?_⟩, ?_, fun b q ⟨i, hi, e, e2⟩ => ?_⟩
  · rw [m13] at i2 ⊢
    by_cases e : i = ((tNl S).length : Int)
    · rw [if_pos e]; exact ⟨hI, h15, h16⟩
    · rw [if_neg e] at i2 ⊢
      obtain ⟨s1, s2, s3, s4, -⟩ := hsh i i0 i1 i2 e
      exact ⟨s1, s3, by rw [s2]; exact s4⟩
  · rw [m13] at i2 q; rw [m13] at q
    by_cases e : i = ((tNl S).length : Int)
    · by_cases f : j = ((tNl S).length : Int)
      · rw [e, f]
      · rw [if_pos e, if_neg f] at q
        exact absurd q.symm (hsh j j0 j1 (by rw [← q]; omega) f).2.2.2.2.1
    · rw [if_neg e] at q i2
      by_cases f : j = ((tNl S).length : Int)
      · rw [if_pos f] at q; exact absurd q (hsh i i0 i1 i2 e).2.2.2.2.1
      · rw [if_neg f] at q; exact c2.2.1 i j i0 i1 j0 j1 i2 q
  · rw [m13] at i2 j2 q; rw [m13] at q
    by_cases e : i = ((tNl S).length : Int)
    · by_cases f : j = ((tNl S).length : Int)
      · rw [e, f]
      · rw [if_pos e, if_neg f] at q
        rw [if_neg f] at j2
        obtain ⟨s1, s2, s3, s4, s5, s6, -⟩ := hsh j j0 j1 j2 f
        rw [s2] at q; exact absurd q.symm s6
    · rw [if_neg e] at q i2
      obtain ⟨s1, s2, s3, s4, s5, s6, -⟩ := hsh i i0 i1 i2 e
      by_cases f : j = ((tNl S).length : Int)
      · rw [if_pos f, s2] at q; exact absurd q s6
      · rw [if_neg f] at q j2
        obtain ⟨t1, t2, -⟩ := hsh j j0 j1 j2 f
        rw [s2, t2] at q
        exact c2.2.2 i j i0 i1 j0 j1 i2 j2 q
  · show (tNl S ++ [n]).Nodup
    refine List.nodup_append.mpr ⟨c3, by simp, fun x hx y hy => ?_⟩
    rw [List.mem_singleton.mp hy]; intro q; exact hn (q ▸ hx)
  · show (tNl S ++ [n]).length ≤ 129
    rw [List.length_append]; simp; omega
  · show m9 12 2 = ((tNl S ++ [n]).length : Int)
    rw [List.length_append, h12.1]; simp
  · have hi : i < (tNl S ++ [n]).length := hi
    rw [List.length_append] at hi
    have hi : i < (tNl S).length + 1 := hi
    show m9 13 i ≠ 0 ∧ itIs (tAdd S n d) m9 e0 (m9 13 i) ((tNl S ++ [n]).getD i 0)
    by_cases e : i = (tNl S).length
    · subst e
      rw [m13, if_pos rfl, getD_app2]
      refine ⟨by omega, ha.1, fun k k0 k1 => ?_, fun j j0 j1 => ?_⟩
      · show m9 a k = if n = n then (if k = 2 then d else 0) else tFd S n k
        rw [if_pos rfl]
        by_cases e2 : k = 2
        · rw [if_pos e2, e2]; exact ha.2.1
        · rw [if_neg e2]; exact ha.2.2 k (by omega) k1
      · show _ = if n = n then (0 : Int) else _
        rw [if_pos rfl]; exact h9 j j0 j1
    · have hi : i < (tNl S).length := by omega
      rw [hold i hi, getD_app1 hi]
      obtain ⟨t1, t2, t3, t4⟩ := c7 i hi
      obtain ⟨s1, s2, s3, s4, s5, s6, s7, s8⟩ := hsh i (by omega) (by omega) t1 (by omega)
      have hnn : (tNl S).getD i 0 ≠ n := fun q => hn (q ▸ getD_mem hi)
      have ka := k2 _ s1
      have kb := k11 _ s1
      rw [s2] at kb
      have u : ∀ j, m9 (μ 13 i) j = μ (μ 13 i) j := fun j => by rw [hx _ _ ka s5 (by omega) (by omega), hk _ (Or.inl s7)]
      refine ⟨t1, by rw [u]; exact t2, fun k k0 k1 => ?_, fun j j0 j1 => ?_⟩
      · show m9 _ k = if (tNl S).getD i 0 = n then _ else _
        rw [u, if_neg hnn]; exact t3 k k0 k1
      · show m9 _ j = if (tNl S).getD i 0 = n then _ else _
        rw [s2, hx _ _ s6 kb (by omega) (by omega), hk _ (Or.inl s8), if_neg hnn]; exact t4 j j0 j1
  · have xa : x ≠ a ∧ x ≠ eFin e0 a 0 := by
      rcases hA with e | ⟨e, e1⟩
      · have y0 : μ 13 ((tNl S).length : Int) ≠ 0 := by rw [← e]; omega
        have y1 := (c2.1 _ (by omega) (by omega) y0).1
        have y2 := (isItm_ext y1 he).2
        refine ⟨fun q => x4 ⟨_, by omega, by omega, y0, Or.inl (q.trans e)⟩, fun q => x4 ⟨_, by omega, by omega, y0, Or.inr ?_⟩⟩
        rw [q, e, y2]
      · constructor
        · intro q; rcases hx0 with h | h
          · rw [q] at h; exact h e
          · omega
        · intro q; rcases hx0 with h | h
          · rw [q] at h; exact h e1
          · omega
    rw [hx x j xa.2 xa.1 x1 x2]; exact hk x hx0 j
  · rw [m13] at i2 i3
    by_cases e : i = ((tNl S).length : Int)
    · rw [if_pos e] at i3
      rcases hA with f | ⟨f, f1⟩
      · have y0 : μ 13 ((tNl S).length : Int) ≠ 0 := by rw [← f]; omega
        have y1 := (c2.1 _ (by omega) (by omega) y0).1
        have y2 := (isItm_ext y1 he).2
        refine Or.inl ⟨_, by omega, by omega, y0, ?_⟩
        rcases i3 with q | q
        · exact Or.inl (q.trans f)
        · right; rw [q, f, y2]
      · right
        rcases i3 with q | q
        · rw [q]; exact ⟨f, by omega⟩
        · rw [q]; exact ⟨f1, by omega⟩
    · rw [if_neg e] at i2 i3
      obtain ⟨s1, s2, -⟩ := hsh i i0 i1 i2 e
      rw [s2] at i3
      exact Or.inl ⟨i, i0, i1, i2, i3⟩
  · have h := hcap t ht
    refine Cap_congr h (fun i => ?_) (fun i => ?_) rfl rfl
    · rw [hx 3 i (by omega) (by omega) (by omega) (by omega), wr_n _ _ (by omega)]
    · rw [h13]
      by_cases e : i = ((tNl S).length : Int)
      · rw [if_pos e, e, wr_s]
      · rw [if_neg e, wr_n _ _ (fun q => e q.2)]
  · exact ⟨(tNl S).length, by show _ < (tNl S ++ [n]).length; rw [List.length_append]; simp, getD_app2, by rw [m13, if_pos rfl]⟩
  · exact ⟨i, by show _ < (tNl S ++ [n]).length; rw [List.length_append]; simp; omega, by show (tNl S ++ [n]).getD i 0 = q; rw [getD_app1 hi]; exact e, by rw [hold i hi]; exact e2⟩
