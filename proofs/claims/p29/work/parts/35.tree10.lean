/-- the waiting ones of a search: their numbers in order, marked at them and nowhere else -/
def BS (S : Tr) (ws : List Int) (m : nMem) (ε : nEnv) : Prop := CT S m ε ∧ ws.Nodup ∧ (∀ q ∈ ws, q ∈ tNl S) ∧ (∀ i : Nat, i < ws.length → tAt S m (m 14 i) (ws.getD i 0)) ∧ (∀ b q, tAt S m b q → m b 7 = if q ∈ ws then 1 else 0)
theorem sub_len : ∀ {l r : List Int}, l.Nodup → (∀ q ∈ l, q ∈ r) → l.length ≤ r.length
  | [], _, _, _ => Nat.zero_le _
  | x :: l, r, hn, h => by
    have hx : x ∈ r := h x List.mem_cons_self
    have hn2 := List.nodup_cons.mp hn
    have := sub_len (l := l) (r := r.erase x) hn2.2 (fun q hq => by
      have hq2 := h q (List.mem_cons_of_mem _ hq)
      have : q ≠ x := fun e => hn2.1 (e ▸ hq)
      exact (List.mem_erase_of_ne this).mpr hq2)
    rw [List.length_erase_of_mem hx] at this
    have h0 : 0 < r.length := List.length_pos_of_mem hx
    show l.length + 1 ≤ r.length
    omega
theorem BS_room {S : Tr} {ws : List Int} {m : nMem} {ε : nEnv} {q : Int} (h : BS S ws m ε) (hq : q ∈ tNl S) (hw : q ∉ ws) : ws.length < 129 := by
  obtain ⟨hT, w1, w2, -⟩ := h
  have := sub_len (l := q :: ws) (r := tNl S) (List.nodup_cons.mpr ⟨hw, w1⟩) (fun x hx => by
    rcases List.mem_cons.mp hx with e | e
    · rw [e]; exact hq
    · exact w2 x e)
  have hl := hT.2.2.2.1
  have : ws.length + 1 ≤ (tNl S).length := this
  omega
/-- field 7 and the waiting ones stand outside CT -/
theorem CT_off {S : Tr} {m m' : nMem} {ε : nEnv} (hT : CT S m ε) (h : ∀ x j, x ≠ 14 → j ≠ 7 → m' x j = m x j) (hc : ∀ x j, eKind ε x = 11 → m' x j = m x j) (h13 : ∀ j, m' 13 j = m 13 j) : CT S m' ε ∧ (∀ b q, tAt S m b q → tAt S m' b q) ∧ (∀ b q, tAt S m' b q → tAt S m b q) := by
  obtain ⟨c1, c2, c3, c4, c5, c6, c7⟩ := id hT
  refine ⟨⟨c1, ?_, c3, c4, by rw [h 12 2 (by omega) (by omega)]; exact c5, by rw [h 12 3 (by omega) (by omega)]; exact c6, fun i hi => ?_⟩, fun b q ⟨i, i0, i1, i2⟩ => ⟨i, i0, i1, by rw [h13]; exact i2⟩, fun b q ⟨i, i0, i1, i2⟩ => ⟨i, i0, i1, by rw [h13] at i2; exact i2⟩⟩
  · unfold nItems; simp only [h13]; exact c2
  · obtain ⟨z0, d1, d2, d3⟩ := c7 i hi
    obtain ⟨-, s1, s2, -⟩ := tAt_sh hT (CT_it hT hi)
    have s14 : m 13 i ≠ 14 := by omega
    rw [h13]
    exact ⟨z0, by rw [h _ _ s14 (by omega)]; exact d1, fun k k0 k1 => by rw [h _ _ s14 (by omega)]; exact d2 k k0 k1, fun j j0 j1 => by rw [hc _ _ s1.2.1]; exact d3 j j0 j1⟩
theorem BS_add {S : Tr} {ws : List Int} {m : nMem} {ε : nEnv} {b q : Int} (h : BS S ws m ε) (hA : tAt S m b q) (hw : q ∉ ws) : BS S (ws ++ [q]) (wr (wr m b 7 1) 14 (ws.length : Int) b) ε ∧ FrT m ε (wr (wr m b 7 1) 14 (ws.length : Int) b) ε ∧ (∀ c x, tAt S m c x → tAt S (wr (wr m b 7 1) 14 (ws.length : Int) b) c x) := by
  obtain ⟨hT, w1, w2, w3, w4⟩ := id h
  obtain ⟨a0, s1, s2, s3⟩ := tAt_sh hT hA
  have k13 := (hT.1 13 14 129 [] rfl (by decide)).1
  have k14 := (hT.1 14 14 129 [] rfl (by decide)).1
  obtain ⟨T1, K1, K2⟩ := CT_off (m' := wr (wr m b 7 1) 14 (ws.length : Int) b) hT (fun x j x1 x2 => by rw [wr_n _ _ (by omega), wr_n _ _ (fun r => x2 r.2)]) (fun x j hx => by
    rw [wr_n _ _ (fun r => by rw [r.1, k14] at hx; cases hx), wr_n _ _ (fun r => by rw [r.1, s1.1] at hx; cases hx)]) (fun j => by rw [wr_n _ _ (by omega), wr_n _ _ (by omega)])
  have m13 : ∀ j, wr (wr m b 7 1) 14 (ws.length : Int) b 13 j = m 13 j := fun j => by rw [wr_n _ _ (by omega), wr_n _ _ (by omega)]
  have hti : isTI m ε b := by
    obtain ⟨i, i0, i1, i2⟩ := hA
    have hl := hT.2.2.2.1
    exact ⟨i, by omega, by omega, by rw [i2]; exact a0, Or.inl i2.symm⟩
  refine ⟨⟨T1, ?_, fun x hx => ?_, fun i hi => ?_, fun c x hc => ?_⟩, ⟨fun y _ _ _ y3 y4 k => by rw [wr_n _ _ (fun r => y3 r.1)]; exact wr_n _ _ (fun r => y4 (by rw [r.1]; exact hti)), fun _ _ => ⟨rfl, rfl, fun _ => rfl⟩, fun y ⟨i, i0, i1, i2, i3⟩ => Or.inl ⟨i, i0, i1, by rw [m13] at i2; exact i2, by rw [m13] at i3; exact i3⟩, rfl, fun t ht => Cap_congr ht (fun i => by rw [wr_n _ _ (by omega), wr_n _ _ (by omega)]) m13 rfl rfl⟩, K1⟩
  · refine List.nodup_append.mpr ⟨w1, by simp, fun x hx y hy => ?_⟩
    rw [List.mem_singleton.mp hy]; intro r; exact hw (r ▸ hx)
  · rcases List.mem_append.mp hx with r | r
    · exact w2 x r
    · rw [List.mem_singleton.mp r]; exact tAt_mem hA
  · rw [List.length_append] at hi
    have hi : i < ws.length + 1 := hi
    by_cases e : i = ws.length
    · subst e
      rw [wr_s, getD_app2]; exact K1 _ _ hA
    · have hi : i < ws.length := by omega
      rw [wr_n _ _ (by omega), wr_n _ _ (by omega), getD_app1 hi]
      exact K1 _ _ (w3 i hi)
  · have hc := K2 _ _ hc
    obtain ⟨c0, t1, t2, t3⟩ := tAt_sh hT hc
    rw [wr_n _ _ (by omega)]
    by_cases e : c = b
    · have eq : x = q := by rw [e] at hc; exact tAt_n hT hc hA
      rw [e, wr_s, if_pos (by rw [eq]; simp)]
    · have eq : x ≠ q := fun r => e (by rw [r] at hc; exact tAt_a hT hc hA)
      rw [wr_n _ _ (fun r => e r.1), w4 c x hc]
      by_cases f : x ∈ ws
      · rw [if_pos f, if_pos (List.mem_append_left _ f)]
      · rw [if_neg f, if_neg (fun r => by rcases List.mem_append.mp r with r | r; exact f r; exact eq (List.mem_singleton.mp r))]
theorem sp_X5_reach {μ : nMem} {ε : nEnv} {Q : nOut → nMem → nEnv → Prop} {S : Tr} {b q ff : Int} {ws : List Int} (hW : BS S ws μ ε) (hB : tB S) (hA : tAt S μ b q) (hf : ff = ws.length) (h1 : (tFd S q 2 = 0 ∨ q ∈ ws) → Q (.inl (some (vI ff))) μ ε) (h2 : tFd S q 2 = 1 → q ∉ ws → ∀ μ9, BS S (ws ++ [q]) μ9 ε → FrT μ ε μ9 ε → (∀ c x, tAt S μ c x → tAt S μ9 c x) → Q (.inl (some (vI (ff + 1)))) μ9 ε) : Sp mX5_reach [vR 12, vR b, vI ff] μ ε Q := by
  refine Sp_of (L := [(0, vR 12), (1, vR b), (2, vI ff)]) (by decide) rfl rfl (Nat.le_of_ble_eq_true rfl) ?_
  have hT := hW.1
  have hs := hT.1
  obtain ⟨a0, aI, aw, -⟩ := tAt_sh hT hA
  obtain ⟨ka, -, -⟩ := id aI
  obtain ⟨-, i2, -⟩ := tAt_is hT hA
  have f2 := i2 2 (by omega) (by omega)
  have g2 := (hB.2 _ (tAt_mem hA)).2.1
  have w7 := hW.2.2.2.2 _ _ hA
  have w7r : μ b 7 = 0 ∨ μ b 7 = 1 := by rw [w7]; split <;> omega
  have hroom : μ b 7 = 0 → q ∉ ws ∧ ws.length < 129 := fun e => by
    have hq : q ∉ ws := fun r => by rw [if_pos r] at w7; omega
    exact ⟨hq, BS_room hW (tAt_mem hA) hq⟩
  have hlen : ws.length ≤ 129 := by
    have := sub_len hW.2.1 hW.2.2.1
    have := hT.2.2.2.1
    omega
  refine wq_aload_n (pc := 0) dX5_reach_0 rfl rfl ?_
  refine wq_ifnull (pc := 1) (tgt := 29) dX5_reach_1 (by decide)  (fun c1 => ?_) (fun c1 => ?_)
  · skip
    exfalso; omega
  · skip
    refine wq_aload_n (pc := 4) dX5_reach_4 rfl rfl ?_
    refine wq_getI (pc := 5) (kk := 2) dX5_reach_5 (gf_X5_44 _ rfl) (by with_reducible assumption) rfl rfl rfl ?_
    refine wq_if_eq (pc := 8) (tgt := 29) dX5_reach_8 (by decide) (by first | (unfold inR; omega) | assumption) (fun c2 => ?_) (fun c2 => ?_)
    · skip
      refine wq_iload_n (pc := 29) dX5_reach_29 rfl rfl ?_
      refine wq_iret (pc := 30) dX5_reach_30 rfl ?_
      first
        | (subst hf
           obtain ⟨r1, r2, r3⟩ := BS_add hW hA hq
           exact h2 (by omega) hq _ r1 r2 r3)
        | exact h1 (Or.inl (by omega))
        | exact h1 (Or.inr (by by_cases e : q ∈ ws; exact e; rw [if_neg e] at w7; omega))
        | (exfalso; omega)
    · skip
      refine wq_aload_n (pc := 11) dX5_reach_11 rfl rfl ?_
      refine wq_getI (pc := 12) (kk := 7) dX5_reach_12 (gf_X5_77 _ rfl) (by with_reducible assumption) rfl rfl rfl ?_
      refine wq_if_ne (pc := 15) (tgt := 29) dX5_reach_15 (by decide) (by first | (unfold inR; omega) | assumption) (fun c3 => ?_) (fun c3 => ?_)
      · skip
        refine wq_iload_n (pc := 29) dX5_reach_29 rfl rfl ?_
        refine wq_iret (pc := 30) dX5_reach_30 rfl ?_
        first
          | (subst hf
             obtain ⟨r1, r2, r3⟩ := BS_add hW hA hq
             exact h2 (by omega) hq _ r1 r2 r3)
          | exact h1 (Or.inl (by omega))
          | exact h1 (Or.inr (by by_cases e : q ∈ ws; exact e; rw [if_neg e] at w7; omega))
          | (exfalso; omega)
      · skip
        obtain ⟨hq, hlt⟩ := hroom (by omega)
        refine wq_iload_n (pc := 18) dX5_reach_18 rfl rfl ?_
        refine wq_if_lt (pc := 19) (tgt := 29) dX5_reach_19 (by decide) (by first | (unfold inR; omega) | assumption) (fun c4 => ?_) (fun c4 => ?_)
        · skip
          exfalso; omega
        · skip
          refine wq_iload_n (pc := 22) dX5_reach_22 rfl rfl ?_
          refine wq_sipush (pc := 23) dX5_reach_23 (by decide) (by decide) ?_
          refine wq_icmp_lt (pc := 26) (tgt := 31) dX5_reach_26 (by decide) (by first | (unfold inR; omega) | assumption) (by first | (unfold inR; omega) | assumption) (fun c5 => ?_) (fun c5 => ?_)
          · skip
            refine wq_aload_n (pc := 31) dX5_reach_31 rfl rfl ?_
            refine wq_iconst (pc := 32) dX5_reach_32 ?_
            refine wq_putZ (pc := 33) (kk := 7) dX5_reach_33 (gf_X5_77 _ rfl) (by with_reducible assumption) rfl rfl rfl rfl (by first | assumption | omega | (simp; done)) ?_
            refine wq_aload_n (pc := 36) dX5_reach_36 rfl rfl ?_
            refine wq_getS (pc := 37) dX5_reach_37 hs (gf_X5_17 _ rfl) rfl rfl rfl rfl rfl ?_
            refine wq_iload_n (pc := 40) dX5_reach_40 rfl rfl ?_
            refine wq_aload_n (pc := 41) dX5_reach_41 rfl rfl ?_
            refine wq_aastIK (pc := 42) dX5_reach_42 hs rfl (by omega) (by omega) (by with_reducible assumption) ?_
            refine wq_iload_n (pc := 43) dX5_reach_43 rfl rfl ?_
            refine wq_iconst (pc := 44) dX5_reach_44 ?_
            refine wq_iadd (pc := 45) dX5_reach_45 ?_
            refine wq_iret (pc := 46) dX5_reach_46 rfl ?_
            first
              | (subst hf
                 obtain ⟨r1, r2, r3⟩ := BS_add hW hA hq
                 exact h2 (by omega) hq _ r1 r2 r3)
              | exact h1 (Or.inl (by omega))
              | exact h1 (Or.inr (by by_cases e : q ∈ ws; exact e; rw [if_neg e] at w7; omega))
              | (exfalso; omega)
          · skip
            refine wq_iload_n (pc := 29) dX5_reach_29 rfl rfl ?_
            refine wq_iret (pc := 30) dX5_reach_30 rfl ?_
            first
              | (subst hf
                 obtain ⟨r1, r2, r3⟩ := BS_add hW hA hq
                 exact h2 (by omega) hq _ r1 r2 r3)
              | exact h1 (Or.inl (by omega))
              | exact h1 (Or.inr (by by_cases e : q ∈ ws; exact e; rw [if_neg e] at w7; omega))
              | (exfalso; omega)
