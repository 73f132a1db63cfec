abbrev PQ (F : Fl) (fl : Int → Int) (done : List Int) (d k r : Int) : Prop := asgR F r ∧ (0 ≤ r ∧ r < 128) ∧ fl (fN F r 3) = 1 ∧ (fN F r 3 ∈ done ∨ (fN F r 3 = d ∧ r < k))
def wv (F : Fl) (fl : Int → Int) (done : List Int) (d : Int) (k : Nat) (x : Int) : Int := if x ∈ done ∧ fl x = 1 then mxV F 2 x 128 else if x = d ∧ fl d = 1 then mxV F 2 d k else 0
theorem mxV_b {F : Fl} (hS : NS F) {kd x : Int} (hk : kd = 1 ∨ kd = 2) (k : Nat) (h : k ≤ 128) : 0 ≤ mxV F kd x k ∧ mxV F kd x k ≤ 4000 := ⟨(mxV_le k).1, mxV_ub (by omega) k (fun r r0 r1 hr => by
  have := sOK_k (hS r r0 (by omega) ((rT_W hk).mp hr).1); omega)⟩
theorem wv_b {F : Fl} (hS : NS F) (fl : Int → Int) (done : List Int) (d : Int) (k : Nat) (h : k ≤ 128) (x : Int) : 0 ≤ wv F fl done d k x ∧ wv F fl done d k x ≤ 4000 := by
  unfold wv
  split
  · exact mxV_b hS (Or.inr rfl) 128 (Nat.le_refl _)
  · split
    · exact mxV_b hS (Or.inr rfl) k h
    · omega
/-- a directory's names read -/
theorem rn_RIN {F : Fl} {fl : Int → Int} {nb : Int} {done : List Int} {d : Int} {S : Tr} (hS : NS F) (hW : WD (TG F) fl nb) (hf : flOK F fl) (hn : nxF F ≤ 2000) (hd : d ∈ tNl S) (hfd : fl d = 1) (hdn : d ∉ done) (h : RIN F fl (PQ F fl done d 0) (wv F fl done d 0) S) :
    ∀ k : Nat, k ≤ 128 → RIN F fl (PQ F fl done d k) (wv F fl done d k) (rn F d S k) ∧ (∃ l, tNl (rn F d S k) = tNl S ++ l)
  | 0, _ => ⟨h, [], (List.append_nil _).symm⟩
  | k + 1, hk => by
    obtain ⟨h1, l, hl⟩ := rn_RIN hS hW hf hn hd hfd hdn h k (by omega)
    have hdk : d ∈ tNl (rn F d S k) := by rw [hl]; exact List.mem_append_left _ hd
    rw [rn_s]
    have hPQ : ∀ r, PQ F fl done d ((k + 1 : Nat) : Int) r ↔ PQ F fl done d k r ∨ (r = k ∧ asgR F k ∧ fN F k 3 = d) := fun r => by
      constructor
      · rintro ⟨a, b, c, e⟩
        rcases e with e | e
        · exact Or.inl ⟨a, b, c, Or.inl e⟩
        · by_cases z : r = k
          · exact Or.inr ⟨z, by rw [← z]; exact a, by rw [← z]; exact e.1⟩
          · exact Or.inl ⟨a, b, c, Or.inr ⟨e.1, by omega⟩⟩
      · rintro (⟨a, b, c, e⟩ | ⟨z, a, e⟩)
        · exact ⟨a, b, c, e.imp id (fun q => ⟨q.1, by omega⟩)⟩
        · rw [z]; exact ⟨a, by omega, by rw [e]; exact hfd, Or.inr ⟨e, by omega⟩⟩
    have hwd : ∀ x, wv F fl done d (k + 1) x = if rT F k 2 d then (if x = d then max (wv F fl done d k d) (fN F k 4) else wv F fl done d k x) else wv F fl done d k x := fun x => by
      unfold wv
      rw [mxV_s F 2 d k]
      have n2 : ¬ (d ∈ done ∧ fl d = 1) := fun z => hdn z.1
      have p2 : d = d ∧ fl d = 1 := ⟨rfl, hfd⟩
      by_cases xd : x = d
      · have n1 : ¬ (x ∈ done ∧ fl x = 1) := fun z => hdn (xd ▸ z.1)
        have p1 : x = d ∧ fl d = 1 := ⟨xd, hfd⟩
        simp only [if_neg n1, if_pos p1, if_pos xd, if_neg n2, if_pos p2, true_and, if_pos hfd]
      · have n3 : ¬ (x = d ∧ fl d = 1) := fun z => xd z.1
        simp only [if_neg n3, if_neg xd]
        by_cases c : rT F k 2 d
        · simp only [if_pos c]
        · simp only [if_neg c]
    by_cases hT : rT F k 2 d
    · have h2 := RIN_v (v := fN F k 4) h1 hdk
      by_cases hA : rnAsg F d k
      · rw [rnStep_2 hT hA]
        have w := (rT_W (Or.inr rfl)).mp hT
        have ha : asgR F k := ⟨by rw [w.2.2]; exact hT, by rw [w.2.2]; exact hA⟩
        have hnk : ¬ PQ F fl done d k k := fun z => by
          rcases z.2.2.2 with q | q
          · rw [w.2.2] at q; exact hdn q
          · omega
        have h3 := (RIN_a hS hW hf h2 (by omega) (by omega) ha hnk (by rw [w.2.2]; exact hdk) (by rw [w.2.2]; exact hfd)).2.2.2.2.2
        rw [w.2.2] at h3
        refine ⟨RIN_cg h3 (fun r => ?_) (fun x => by rw [hwd, if_pos hT]), ?_⟩
        · rw [hPQ]; exact ⟨fun z => z.imp id (fun q => q.1), fun z => z.imp id (fun q => ⟨q, ha, w.2.2⟩)⟩
        · show ∃ l, tNl (rnAdd F k (rnV F d k (rn F d S k))) = tNl S ++ l
          unfold rnAdd
          split
          · exact ⟨l, hl⟩
          · refine ⟨l ++ [fN F k 10], ?_⟩
            show tNl (rn F d S k) ++ [fN F k 10] = _
            rw [hl, List.append_assoc]
      · rw [rnStep_1 hT hA]
        refine ⟨RIN_cg h2 (fun r => ?_) (fun x => by rw [hwd, if_pos hT]), l, hl⟩
        rw [hPQ]
        refine ⟨fun z => z.elim id (fun q => absurd ?_ hA), Or.inl⟩
        have := q.2.1.2
        rw [q.2.2] at this; exact this
    · rw [rnStep_0 hT]
      refine ⟨RIN_cg h1 (fun r => ?_) (fun x => by rw [hwd, if_neg hT]), l, hl⟩
      rw [hPQ]
      refine ⟨fun z => z.elim id (fun q => absurd ?_ hT), Or.inl⟩
      have := q.2.1.1
      rw [q.2.2] at this; exact this
/-- .. within bounds -/
theorem rn_OK {F : Fl} {fl : Int → Int} {nb : Int} {done : List Int} {d : Int} {S : Tr} (hS : NS F) (hW : WD (TG F) fl nb) (hf : flOK F fl) (hn : nxF F ≤ 2000) (hd : d ∈ tNl S) (hfd : fl d = 1) (hdn : d ∉ done) (h : RIN F fl (PQ F fl done d 0) (wv F fl done d 0) S) : rnOK F d S := fun k hk hT => by
  obtain ⟨h1, l, hl⟩ := rn_RIN hS hW hf hn hd hfd hdn h k (by omega)
  have hdk : d ∈ tNl (rn F d S k) := by rw [hl]; exact List.mem_append_left _ hd
  have h2 := RIN_v (v := fN F k 4) h1 hdk
  have w := (rT_W (Or.inr rfl)).mp hT
  have sk := sOK_k (hS k (by omega) (by omega) w.1)
  have hv := h1.2.2.2.2.2.2.1.1 d hdk
  have hb := wv_b hS fl done d k (by omega) d
  have tB1 : tB (rnV F d k (rn F d S k)) := RIN_tB hS hW hn (fun x => by
    have := wv_b hS fl done d k (by omega) x
    show 0 ≤ (if x = d then max (wv F fl done d k d) (fN F k 4) else wv F fl done d k x) ∧ (if x = d then max (wv F fl done d k d) (fN F k 4) else wv F fl done d k x) ≤ 4000
    split <;> omega) h2
  refine ⟨by omega, tB1, fun hA => ?_⟩
  have ha : asgR F k := ⟨by rw [w.2.2]; exact hT, by rw [w.2.2]; exact hA⟩
  have hnk : ¬ PQ F fl done d k k := fun z => by
    rcases z.2.2.2 with q | q
    · rw [w.2.2] at q; exact hdn q
    · omega
  obtain ⟨a1, a2, a3, a4, a5, -⟩ := RIN_a hS hW hf h2 (by omega) (by omega) ha hnk (by rw [w.2.2]; exact hdk) (by rw [w.2.2]; exact hfd)
  rw [w.2.2] at a1
  refine ⟨a1, a2, ?_, a3⟩
  by_cases c : fN F k 10 ∈ tNl (rnV F d k (rn F d S k))
  · rw [rnAdd_0 c]; exact tB1
  · rw [rnAdd_1 c]; exact tB_add tB1 c a5 a4
theorem take_s {l : List Int} {i : Nat} (h : i < l.length) : l.take (i + 1) = l.take i ++ [l.getD i 0] := by
  rw [List.take_succ_eq_append_getElem h, List.getD_eq_getElem?_getD, List.getElem?_eq_getElem h]; rfl
theorem PQ_0 (F : Fl) (fl : Int → Int) (done : List Int) (r : Int) (h : PQ F fl done 0 0 r) : asgR F r ∧ (0 ≤ r ∧ r < 128) ∧ fl (fN F r 3) = 1 ∧ fN F r 3 ∈ done := ⟨h.1, h.2.1, h.2.2.1, h.2.2.2.elim id (fun q => by omega)⟩
theorem RIN_len {F : Fl} {fl : Int → Int} {Q : Int → Prop} {w : Int → Int} {S : Tr} (h : RIN F fl Q w S) : (tNl S).length ≤ 129 := by
  obtain ⟨⟨h0, h0b⟩, h1, h2, -⟩ := h
  have hnf : ((tNl S).filter (fun x => !(x == 1))).Nodup := h0b.filter _
  have hmf : ∀ x, x ∈ (tNl S).filter (fun x => !(x == 1)) ↔ x ∈ tNl S ∧ x ≠ 1 := fun x => by simp [List.mem_filter]
  have a := rows_len (F := F) hnf (fun n e => by
    obtain ⟨e1, e2⟩ := (hmf n).mp e
    obtain ⟨n0, x, y, -, -, e3⟩ := (h2 n e1).resolve_left e2
    obtain ⟨r1, r2, r3, r4, r5⟩ := TG_asgR (F := F) (d := x) (nm := y) (by rw [e3]; exact n0)
    exact ⟨_, r1, r5.trans e3⟩)
  have b := sub_len (r := 1 :: (tNl S).filter (fun x => !(x == 1))) h0b (fun q hq => by
    by_cases c : q = 1
    · rw [c]; exact List.mem_cons_self
    · exact List.mem_cons_of_mem _ ((hmf q).mpr ⟨hq, c⟩))
  rw [List.length_cons] at b
  omega
/-- the directories read, one after another -/
theorem rsD_RIN {F : Fl} {fl : Int → Int} {nb : Int} (hS : NS F) (hW : WD (TG F) fl nb) (hf : flOK F fl) (hn : nxF F ≤ 2000) : ∀ i : Nat, RIN F fl (PQ F fl ((tNl (rsD F i)).take i) 0 0) (wv F fl ((tNl (rsD F i)).take i) 0 0) (rsD F i) ∧ (i < (tNl (rsD F i)).length → tFd (rsD F i) ((tNl (rsD F i)).getD i 0) 2 = 1 → rnOK F ((tNl (rsD F i)).getD i 0) (rsD F i))
  | 0 => by
    have h2n : 2 ≤ nxF F := (rsX_le (F := F) (x := 2) 128).1
    have hq : ∀ r, ¬ PQ F fl ((tNl (rsD F 0)).take 0) 0 0 r := fun r z => by
      have := PQ_0 F fl _ r z
      exact absurd this.2.2.2 List.not_mem_nil
    have hw : ∀ x, wv F fl ((tNl (rsD F 0)).take 0) 0 0 x = 0 := fun x => by
      unfold wv
      rw [if_neg (fun z => absurd z.1 List.not_mem_nil)]
      split <;> rfl
    have key : RIN F fl (PQ F fl ((tNl (rsD F 0)).take 0) 0 0) (wv F fl ((tNl (rsD F 0)).take 0) 0 0) (rsD F 0) := by
      have m1 : ∀ n, n ∈ tNl (rsD F 0) → n = 1 := fun n hn => List.mem_singleton.mp hn
      refine ⟨⟨List.mem_singleton.mpr rfl, by show [(1 : Int)].Nodup; simp⟩, fun r z => absurd z (hq r), fun n hn => Or.inl (m1 n hn), fun n hn => ?_, fun r z => absurd z (hq r), fun x hx nm _ => ?_, ⟨fun x hx => ?_, fun x _ => hw x⟩, fun x hx => ?_, fun x hx => ?_, fun x hx => ?_, ?_⟩
      · rw [m1 n hn, hW.1]; rfl
      · rw [m1 x hx]; rfl
      · rw [hw, m1 x hx]; rfl
      · rw [m1 x hx, cR_0 (fun r _ _ z => hq r z.1)]; rfl
      · rw [m1 x hx, cR_0 (fun r _ _ z => hq r z.1)]; rfl
      · rw [m1 x hx]; rfl
      · show 2 ≤ max (1 : Int) (1 + 1) ∧ max (1 : Int) (1 + 1) ≤ nxF F
        omega
    refine ⟨key, fun hl hd => ?_⟩
    have e1 : (tNl (rsD F 0)).getD 0 0 = 1 := rfl
    rw [e1]
    exact rn_OK (done := []) hS hW hf hn key.1.1 hW.1 List.not_mem_nil (RIN_cg key (fun r => ⟨fun z => absurd z.2.2.2 (fun q => q.elim (fun w => List.not_mem_nil w) (fun w => by omega)), fun z => absurd z (hq r)⟩) (fun x => by
      rw [hw]; unfold wv
      rw [if_neg (fun z => List.not_mem_nil z.1)]
      split <;> rfl))
  | i + 1 => by
    obtain ⟨h1, h2⟩ := rsD_RIN hS hW hf hn i
    have key : RIN F fl (PQ F fl ((tNl (rsD F (i + 1))).take (i + 1)) 0 0) (wv F fl ((tNl (rsD F (i + 1))).take (i + 1)) 0 0) (rsD F (i + 1)) := by
      rw [rsD_s]
      generalize rsD F i = S at h1 h2
      have hnd := h1.1.2
      by_cases c : i < (tNl S).length
      · have hm := getD_mem c
        have hfl := h1.2.2.2.1 _ hm
        have hnt : (tNl S).getD i 0 ∉ (tNl S).take i := fun z => by
          obtain ⟨j, j0, j1⟩ := mem_getD z
          rw [List.length_take] at j0
          have e : ((tNl S).take i).getD j 0 = (tNl S).getD j 0 := by
            rw [List.getD_eq_getElem?_getD, List.getD_eq_getElem?_getD, List.getElem?_take_of_lt (by omega)]
          rw [e] at j1
          have := getD_inj hnd (by omega) c j1
          omega
        by_cases c2 : tFd S ((tNl S).getD i 0) 2 = 1
        · rw [rsDs_1 c c2]
          have hf1 : fl ((tNl S).getD i 0) = 1 := by rw [← hfl]; exact c2
          have hst : RIN F fl (PQ F fl ((tNl S).take i) ((tNl S).getD i 0) 0) (wv F fl ((tNl S).take i) ((tNl S).getD i 0) 0) S := RIN_cg h1 (fun r => ⟨fun z => ⟨z.1, z.2.1, z.2.2.1, z.2.2.2.imp id (fun w => by omega)⟩, fun z => ⟨z.1, z.2.1, z.2.2.1, z.2.2.2.imp id (fun w => by omega)⟩⟩) (fun x => by
            unfold wv
            split
            · rfl
            · split <;> split <;> rfl)
          obtain ⟨r1, l, hl⟩ := rn_RIN hS hW hf hn hm hf1 hnt hst 128 (Nat.le_refl _)
          have et : (tNl (rn F ((tNl S).getD i 0) S 128)).take (i + 1) = (tNl S).take i ++ [(tNl S).getD i 0] := by
            rw [hl, List.take_append_of_le_length (by omega), take_s c]
          rw [et]
          refine RIN_cg r1 (fun r => ?_) (fun x => ?_)
          · constructor
            · rintro ⟨a, b, e, g⟩
              refine ⟨a, b, e, ?_⟩
              rcases g with g | g
              · rcases List.mem_append.mp g with q | q
                · exact Or.inl q
                · exact Or.inr ⟨List.mem_singleton.mp q, b.2⟩
              · omega
            · rintro ⟨a, b, e, g⟩
              refine ⟨a, b, e, Or.inl (List.mem_append.mpr ?_)⟩
              rcases g with g | g
              · exact Or.inl g
              · exact Or.inr (List.mem_singleton.mpr g.1)
          · unfold wv
            by_cases q : x ∈ (tNl S).take i ∧ fl x = 1
            · rw [if_pos q, if_pos ⟨List.mem_append_left _ q.1, q.2⟩]
            · rw [if_neg q]
              by_cases q2 : x = (tNl S).getD i 0
              · have pa : x ∈ (tNl S).take i ++ [(tNl S).getD i 0] ∧ fl x = 1 := ⟨List.mem_append_right _ (List.mem_singleton.mpr q2), q2 ▸ hf1⟩
                have pb : x = (tNl S).getD i 0 ∧ fl ((tNl S).getD i 0) = 1 := ⟨q2, hf1⟩
                rw [if_pos pa, if_pos pb, ← q2]
              · have pa : ¬ (x ∈ (tNl S).take i ++ [(tNl S).getD i 0] ∧ fl x = 1) := fun z => (List.mem_append.mp z.1).elim (fun w => q ⟨w, z.2⟩) (fun w => q2 (List.mem_singleton.mp w))
                have pb : ¬ (x = (tNl S).getD i 0 ∧ fl ((tNl S).getD i 0) = 1) := fun z => q2 z.1
                rw [if_neg pa, if_neg pb]
                split <;> rfl
        · rw [rsDs_0 (fun _ => c2), take_s c]
          have hf0 : fl ((tNl S).getD i 0) ≠ 1 := by rw [← hfl]; exact c2
          refine RIN_cg h1 (fun r => ⟨fun z => ⟨z.1, z.2.1, z.2.2.1, ?_⟩, fun z => ⟨z.1, z.2.1, z.2.2.1, z.2.2.2.imp (fun w => List.mem_append_left _ w) id⟩⟩) (fun x => ?_)
          · refine z.2.2.2.imp (fun w => (List.mem_append.mp w).elim id (fun q => ?_)) id
            have := z.2.2.1
            rw [List.mem_singleton.mp q] at this
            exact absurd this hf0
          · unfold wv
            by_cases q : x ∈ (tNl S).take i ∧ fl x = 1
            · rw [if_pos q, if_pos ⟨List.mem_append_left _ q.1, q.2⟩]
            · rw [if_neg q, if_neg (fun z => (List.mem_append.mp z.1).elim (fun w => q ⟨w, z.2⟩) (fun w => hf0 (by rw [← List.mem_singleton.mp w]; exact z.2)))]
      · rw [rsDs_0 (fun q => absurd q c)]
        rw [List.take_of_length_le (by omega)] at h1
        rw [List.take_of_length_le (by omega)]
        exact h1
    refine ⟨key, fun hl hd => ?_⟩
    generalize rsD F (i + 1) = S at key hl hd ⊢
    have hm := getD_mem hl
    have hfl := key.2.2.2.1 _ hm
    have hnt : (tNl S).getD (i + 1) 0 ∉ (tNl S).take (i + 1) := fun z => by
      obtain ⟨j, j0, j1⟩ := mem_getD z
      rw [List.length_take] at j0
      have e : ((tNl S).take (i + 1)).getD j 0 = (tNl S).getD j 0 := by
        rw [List.getD_eq_getElem?_getD, List.getD_eq_getElem?_getD, List.getElem?_take_of_lt (by omega)]
      rw [e] at j1
      have := getD_inj key.1.2 (by omega) hl j1
      omega
    exact rn_OK hS hW hf hn hm (by rw [← hfl]; exact hd) hnt (RIN_cg key (fun r => ⟨fun z => ⟨z.1, z.2.1, z.2.2.1, z.2.2.2.imp id (fun w => by omega)⟩, fun z => ⟨z.1, z.2.1, z.2.2.1, z.2.2.2.imp id (fun w => by omega)⟩⟩) (fun x => by
      unfold wv
      split
      · rfl
      · split <;> split <;> rfl))
