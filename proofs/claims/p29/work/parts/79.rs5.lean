theorem TSW_next {T : Int → Int → Int} {fl L : Int → Int} {B : Int → Int → Int} {Vd Vn : Int → Int} {nx v : Int} {S : Tr} (h : TSW T fl L B Vd Vn nx S) : TSW T fl L B Vd Vn v (tNext S v) := by
  obtain ⟨c1, c2, c3, c4, c5, c6, c7⟩ := h
  exact ⟨c1, c2, c3, c4, c5, rfl, c7⟩
/-- the files read, one after another -/
theorem rsC_TSW {F : Fl} {fl : Int → Int} {nx : Int} {S : Tr} (hS : NS F) (hU : NU F) (hnd : (tNl S).Nodup) (hT : TSW (TG F) fl (fun _ => 0) (fun _ _ => 0) (fun _ => 0) (vN F) nx S) (h01 : ∀ n, fl n = 0 ∨ fl n = 1) : ∀ i : Nat, TSW (TG F) fl (fun x => if x ∈ (tNl S).take i then LN F x else 0) (fun x p => if x ∈ (tNl S).take i then BY F x p else 0) (fun x => if x ∈ (tNl S).take i then vD F x else 0) (vN F) nx (rsC F S i)
  | 0 => TSW_cg hT (fun n _ => ⟨fun _ => rfl, fun _ => ⟨if_neg List.not_mem_nil, fun p => if_neg List.not_mem_nil, if_neg List.not_mem_nil⟩⟩)
  | i + 1 => by
    have ih := rsC_TSW hS hU hnd hT h01 i
    rw [rsC_s]
    have hl := rsC_nl F S i
    generalize rsC F S i = S1 at ih hl
    by_cases c : i < (tNl S1).length
    · have hm := getD_mem c
      have h2 := ih.2.1 _ hm
      rw [hl] at c hm h2
      have hnt : (tNl S).getD i 0 ∉ (tNl S).take i := fun z => by
        obtain ⟨j, j0, j1⟩ := mem_getD z
        rw [List.length_take] at j0
        have e : ((tNl S).take i).getD j 0 = (tNl S).getD j 0 := by
          rw [List.getD_eq_getElem?_getD, List.getD_eq_getElem?_getD, List.getElem?_take_of_lt (by omega)]
        rw [e] at j1
        have := getD_inj hnd (by omega) c j1
        omega
      have hts : ∀ x, x ∈ (tNl S).take (i + 1) ↔ x ∈ (tNl S).take i ∨ x = (tNl S).getD i 0 := fun x => by rw [take_s c, List.mem_append, List.mem_singleton]
      by_cases c2 : tFd S1 ((tNl S).getD i 0) 2 = 1
      · have e : rsCs F i S1 = S1 := rsCs_0 (fun _ => by rw [hl]; exact c2)
        rw [e]
        refine TSW_cg ih (fun n hn => ⟨fun _ => rfl, fun hf => ?_⟩)
        have ne : n ≠ (tNl S).getD i 0 := fun z => by rw [z] at hf; omega
        have hiff : n ∈ (tNl S).take (i + 1) ↔ n ∈ (tNl S).take i := by rw [hts]; exact ⟨fun z => z.resolve_right ne, Or.inl⟩
        simp only [hiff]
        exact ⟨trivial, fun _ => trivial, trivial⟩
      · have hf0 : fl ((tNl S).getD i 0) = 0 := (h01 _).resolve_right (fun z => c2 (h2.trans z))
        have e : rsCs F i S1 = (rc F ((tNl S).getD i 0) S1 128).2 := by
          have := rsCs_1 (F := F) (i := i) (S := S1) (by rw [hl]; exact c) (by rw [hl]; exact c2)
          rw [this, hl]
        rw [e]
        have key := TSW_rc hS hU ih (f := (tNl S).getD i 0) (by rw [hl]; exact hm) hf0 (if_neg hnt) (fun p _ _ => if_neg hnt) (if_neg hnt)
        refine TSW_cg key (fun n hn => ⟨fun _ => rfl, fun _ => ?_⟩)
        by_cases ne : n = (tNl S).getD i 0
        · have h3 : n ∈ (tNl S).take (i + 1) := (hts n).mpr (Or.inr ne)
          simp only [if_pos h3, if_pos ne]
          exact ⟨by rw [ne], fun p => by rw [ne], by rw [ne]⟩
        · have hiff : n ∈ (tNl S).take (i + 1) ↔ n ∈ (tNl S).take i := by rw [hts]; exact ⟨fun z => z.resolve_right ne, Or.inl⟩
          simp only [hiff, if_neg ne]
          exact ⟨trivial, fun _ => trivial, trivial⟩
    · have e : rsCs F i S1 = S1 := rsCs_0 (fun q => absurd q c)
      rw [e]
      rw [hl] at c
      rw [List.take_of_length_le (by omega)]
      rw [List.take_of_length_le (by omega)] at ih
      exact ih
/-- a restart's tree tells what the nodes tell -/
theorem rs_ok {F : Fl} {fl : Int → Int} {nb vb : Int} (hA : PA F) (hU : NU F) (hf : flOK F fl) (hW : WD (TG F) fl nb) (hV : NV F nb (fun _ => vb) (fun _ => vb)) (hv : 0 ≤ vb ∧ vb ≤ 4000) :
    rsOK F ∧ TSW (TG F) fl (LN F) (BY F) (vD F) (vN F) (nxF F) (rs F) ∧ (2 ≤ nxF F ∧ nxF F ≤ nb) ∧ WD (TG F) fl (nxF F) ∧ ∀ n, (0 ≤ vD F n ∧ vD F n ≤ vb) ∧ 0 ≤ vN F n ∧ vN F n ≤ vb := by
  have hS := PA_NS hA
  have h2 : 2 ≤ nb := hW.2.2.2.2.1
  have hn := nxF_le hA h2 hV
  have h2n : 2 ≤ nxF F := (rsX_le (F := F) (x := 2) 128).1
  have hb2 : nb ≤ 2000 := hW.2.2.2.2.2
  have hD := rsD_RIN hS hW hf (by omega)
  have hlen := RIN_len (hD 129).1
  have hE : RIN F fl (PQ F fl (tNl (rsD F 129)) 0 0) (wv F fl (tNl (rsD F 129)) 0 0) (rsD F 129) := by
    have := (hD 129).1
    rw [List.take_of_length_le hlen] at this
    exact this
  have hT0 := RIN_end hS hW (by omega) hE
  have hx := hE.2.2.2.2.2.2.2.2.2.2
  have hnd := hE.1.2
  have hC := rsC_TSW hS hU hnd hT0 hW.2.1
  have hVb : ∀ n, (0 ≤ vD F n ∧ vD F n ≤ vb) ∧ 0 ≤ vN F n ∧ vN F n ≤ vb := fun n => by
    have a1 := (mxV_le (F := F) (kd := 1) (x := n) 128).1
    have a2 := (mxV_le (F := F) (kd := 2) (x := n) 128).1
    have b1 := mxV_ub (F := F) (kd := 1) (x := n) hv.1 128 (fun r r0 r1 h => by
      have w := (rT_W (Or.inl rfl)).mp h
      exact (hV r r0 r1 w.1).2.2.1 w.2.1)
    have b2 := mxV_ub (F := F) (kd := 2) (x := n) hv.1 128 (fun r r0 r1 h => by
      have w := (rT_W (Or.inr rfl)).mp h
      exact (hV r r0 r1 w.1).2.2.2 w.2.1)
    exact ⟨⟨a1, b1⟩, a2, b2⟩
  have hWx : WD (TG F) fl (nxF F) := ⟨hW.1, hW.2.1, TG_bd hS NV_mx, hW.2.2.2.1, h2n, by omega⟩
  have hst : rsX F (tNx (rsD F 129)) 128 = nxF F := rsX_st hx.1 128 hx.2
  generalize hS9 : rsD F 129 = S0 at hD hlen hE hT0 hx hnd hC hst
  have htk : (tNl S0).take 129 = tNl S0 := List.take_of_length_le hlen
  have hCe : TSW (TG F) fl (LN F) (BY F) (vD F) (vN F) (tNx S0) (rsC F S0 129) := by
    have h9 := hC 129
    rw [htk] at h9
    have hl := rsC_nl F S0 129
    refine TSW_cg h9 (fun n hn => ⟨fun _ => rfl, fun _ => ?_⟩)
    rw [hl] at hn
    simp only [if_pos hn]
    exact ⟨trivial, fun _ => trivial, trivial⟩
  refine ⟨⟨fun k hk => ⟨RIN_tB hS hW (by omega) (fun x => wv_b hS fl _ 0 0 (by omega) x) (hD k).1, (hD k).2⟩, fun k hk => ?_⟩, ?_, ⟨h2n, hn⟩, hWx, hVb⟩
  · rw [hS9]
    obtain ⟨c1, c2, c3, c4, c5, c6, c7⟩ := hC k
    have hB9 : tB (tNext (rsC F S0 k) (nxF F)) := TSW_tB (T := TG F) (fl := fl) (L := fun x => if x ∈ (tNl S0).take k then LN F x else 0) (B := fun x p => if x ∈ (tNl S0).take k then BY F x p else 0) (Vd := fun x => if x ∈ (tNl S0).take k then vD F x else 0) (Vn := vN F) (nx := nxF F) ⟨c1, c2, c3, c4, c5, rfl, c7⟩ hWx (by show (tNl (rsC F S0 k)).length ≤ 129; rw [rsC_nl]; exact hlen) (fun f => by
      by_cases c : f ∈ (tNl S0).take k
      · simp only [if_pos c]; exact LN_b hS f
      · simp only [if_neg c]; omega) (fun n => by
      have := hVb n
      refine ⟨?_, this.2.1, Int.le_trans this.2.2 (by omega)⟩
      by_cases c : n ∈ (tNl S0).take k
      · simp only [if_pos c]; exact ⟨this.1.1, Int.le_trans this.1.2 (by omega)⟩
      · simp only [if_neg c]; omega)
    exact ⟨by rw [c6]; omega, hB9.2⟩
  · have e : rs F = tNext (rsC F S0 129) (nxF F) := by
      unfold rs
      rw [hS9, hCe.2.2.2.2.2.1, hst]
    rw [e]
    exact TSW_next hCe
