/-! ### what a call does: to both -/
noncomputable def pI {α : Type} (c : Prop) (a b : α) : α := @ite α c (Classical.propDecidable c) a b
theorem pI_1 {α : Type} {c : Prop} {a b : α} (h : c) : pI c a b = a := if_pos h
theorem pI_0 {α : Type} {c : Prop} {a b : α} (h : ¬ c) : pI c a b = b := if_neg h
abbrev Ans : Type := Int ⊕ String
def oc (a : Ans) : nOut := match a with
  | .inl v => .inl (some (vI v))
  | .inr e => .inr e
abbrev isDr (A : AS) (d : Int) : Prop := thD (TG (aF A)) (TD (aF A)) d
abbrev isFl (A : AS) (f : Int) : Prop := thF (TG (aF A)) (TD (aF A)) f
abbrev rmA (A : AS) (us : List Int) (e : Int) : Prop := trL us (tr0 (aF A) (aG A) (((aG A).2.1.length : Int) - e))
abbrev dk (A : AS) : Prop := fD (aF A) = 1
noncomputable def actCreate1 (A : AS) (d nm : Int) (P : Fl × Lg × Bool) : Ans × AS :=
  if P.2.2 = false then (.inl (-9), (P.1, P.2.1, aX A, aD A, aN A))
  else if (lPut P.1 P.2.1 (nmSrc d (aN A d + 1) nm (aX A) 0)).2.2 = false then (.inl (-9), ((lPut P.1 P.2.1 (nmSrc d (aN A d + 1) nm (aX A) 0)).1, (lPut P.1 P.2.1 (nmSrc d (aN A d + 1) nm (aX A) 0)).2.1, aX A, aD A, aN A))
  else (.inl (aX A), ((lPut P.1 P.2.1 (nmSrc d (aN A d + 1) nm (aX A) 0)).1, (lPut P.1 P.2.1 (nmSrc d (aN A d + 1) nm (aX A) 0)).2.1, aX A + 1, bump (aD A) (aX A), bump (aN A) d))
noncomputable def actCreate (A : AS) (d nm : Int) : Ans × AS :=
  pI (dk A) (.inr xS, A) (pI (¬ isDr A d) (.inr xI, A) (pI (¬ nmR nm) (.inr xA, A) (pI (TG (aF A) d nm ≠ 0) (.inr xS, A) (pI (¬ rmA A [2, 3] 1) (.inr xS, A)
    (actCreate1 A d nm (lPut (aF A) (aG A) (dbSrc (aX A) (aD A (aX A) + 1) 0 0 0 0)))))))
noncomputable def actMkdir (A : AS) (d nm : Int) : Ans × AS :=
  pI (dk A) (.inr xS, A) (pI (¬ isDr A d) (.inr xI, A) (pI (¬ nmR nm) (.inr xA, A) (pI (TG (aF A) d nm ≠ 0) (.inr xS, A) (pI (¬ rmA A [3] 1) (.inr xS, A)
    (if (lPut (aF A) (aG A) (nmSrc d (aN A d + 1) nm (aX A) 1)).2.2 = false then (.inl (-9), ((lPut (aF A) (aG A) (nmSrc d (aN A d + 1) nm (aX A) 1)).1, (lPut (aF A) (aG A) (nmSrc d (aN A d + 1) nm (aX A) 1)).2.1, aX A, aD A, aN A))
     else (.inl (aX A), ((lPut (aF A) (aG A) (nmSrc d (aN A d + 1) nm (aX A) 1)).1, (lPut (aF A) (aG A) (nmSrc d (aN A d + 1) nm (aX A) 1)).2.1, aX A + 1, aD A, bump (aN A) d)))))))
/-- the class's memory holds this state -/
def MC (A : AS) (nb vb : Int) (μ : nMem) (ε : nEnv) : Prop := ∃ S, C6 (aF A) (aG A) S μ ε ∧ tB S ∧ IB (aF A) nb vb ∧ (fD (aF A) = 0 ∨ fD (aF A) = 1) ∧ eKind ε 25 ≠ 0 ∧ (fD (aF A) = 0 → ∃ fl, IP A fl nb vb ∧ TSW (TG (aF A)) fl (LN (aF A)) (BY (aF A)) (aD A) (aN A) (aX A) S)
def FrN (μ : nMem) (ε : nEnv) (μ' : nMem) (ε' : nEnv) : Prop :=
  (∀ x, ((21 ≤ x ∧ x ≤ 25 ∧ eKind ε x ≠ 0 ∧ eKind ε x ≠ 5 ∧ eKind ε x ≠ 2) ∨ x = -1) → ∀ j, μ' x j = μ x j) ∧
  (∀ x, eKind ε x ≠ 0 → eKind ε' x = eKind ε x ∧ eLen ε' x = eLen ε x ∧ ∀ k, eFin ε' x k = eFin ε x k) ∧ eLen ε' (-1) = eLen ε (-1)
theorem FrN_6 {μ m : nMem} {ε e : nEnv} (h : Fr6 μ ε m e) : FrN μ ε m e := ⟨h.1, h.2.1, h.2.2.1⟩
theorem FrN_thr {μ m : nMem} {ε ε' : nEnv} (h : FrN μ ε m ε) (ht : thr ε ε') : FrN μ ε m ε' :=
  ⟨h.1, fun x _ => thr_ext ht x, by rw [(thr_ext ht (-1)).2.1]⟩
theorem FrN_trans {μ m m1 : nMem} {ε e e1 : nEnv} (h : FrN μ ε m e) (k : FrN m e m1 e1) : FrN μ ε m1 e1 := by
  obtain ⟨a1, a2, a3⟩ := h
  obtain ⟨b1, b2, b3⟩ := k
  refine ⟨fun x hx j => (b1 x ?_ j).trans (a1 x hx j), fun x hx => ?_, b3.trans a3⟩
  · rcases hx with ⟨q1, q2, q3, q4, q5⟩ | q
    · rw [(a2 x q3).1]; exact Or.inl ⟨q1, q2, q3, q4, q5⟩
    · exact Or.inr q
  · obtain ⟨p, q, r⟩ := a2 x hx
    obtain ⟨s, t, u⟩ := b2 x (by rw [p]; exact hx)
    exact ⟨s.trans p, t.trans q, fun k => (u k).trans (r k)⟩
/-- the state is the same: more is allowed -/
theorem MC_mono {A : AS} {nb vb nb' vb' : Int} {m : nMem} {e : nEnv} {S : Tr} (hC : C6 (aF A) (aG A) S m e) (hB : tB S) (hI : IB (aF A) nb vb) (hD : fD (aF A) = 0 ∨ fD (aF A) = 1) (h56 : eKind e 25 ≠ 0) (hon : fD (aF A) = 0 → ∃ fl, IP A fl nb vb ∧ TSW (TG (aF A)) fl (LN (aF A)) (BY (aF A)) (aD A) (aN A) (aX A) S) (h1 : nb ≤ nb') (h2 : vb ≤ vb') (h3 : nb' ≤ 2000) : MC A nb' vb' m e :=
  ⟨S, hC, hB, IB_mono hI h1 h2 h3, hD, h56, fun q => by obtain ⟨fl, a, b⟩ := hon q; exact ⟨fl, IP_mono a h1 h2, b⟩⟩
/-- a refusal -/
theorem MC_x {A : AS} {nb vb : Int} {μ m : nMem} {ε ε' : nEnv} {S : Tr} {t : Nat} (hC : C6 (aF A) (aG A) S m ε) (hB : tB S) (hI : IB (aF A) nb vb) (hD : fD (aF A) = 0 ∨ fD (aF A) = 1) (h56 : eKind ε 25 ≠ 0) (hon : fD (aF A) = 0 → ∃ fl, IP A fl nb vb ∧ TSW (TG (aF A)) fl (LN (aF A)) (BY (aF A)) (aD A) (aN A) (aX A) S) (hn : nb + 1 ≤ 2000) (hcap : Cap μ ε (t + 1)) (hF : Fr6 μ ε m ε) (ht : thr ε ε') : MC A (nb + 1) (vb + 2) m ε' ∧ Cap m ε' t ∧ FrN μ ε m ε' :=
  ⟨MC_mono (C6_thr hC ht) hB hI hD (by rw [(thr_ext ht 25).1]; exact h56) hon (by omega) (by omega) (by omega), Cap_thr (hF.2.2.2 _ hcap) ht, FrN_thr (FrN_6 hF) ht⟩
theorem TSW_tF {T : Int → Int → Int} {fl L : Int → Int} {B : Int → Int → Int} {Vd Vn : Int → Int} {nx : Int} {S : Tr} (hS : TSW T fl L B Vd Vn nx S) (hW : WD T fl nx) (f : Int) : thF T (dF T fl) f ↔ f ∈ tNl S ∧ fl f = 0 := by
  constructor
  · rintro ⟨d, nm, h1, h2, h3, h4, h5⟩
    refine ⟨(hS.1 f).mpr (Or.inr ⟨h4, d, nm, h1, h2, h3⟩), ?_⟩
    unfold dF at h5
    rw [h3, if_neg h4] at h5; exact h5
  · rintro ⟨h1, h2⟩
    rcases (hS.1 f).mp h1 with e | ⟨h4, d, nm, h5, h6, h7⟩
    · have := hW.1; rw [e] at h2; omega
    · refine ⟨d, nm, h5, h6, h7, h4, ?_⟩
      unfold dF
      rw [h7, if_neg h4]; exact h2
/-- there, or not: by the tree -/
theorem isDr_iff {A : AS} {fl : Int → Int} {nb vb : Int} {S : Tr} (hP : IP A fl nb vb) (hS : TSW (TG (aF A)) fl (LN (aF A)) (BY (aF A)) (aD A) (aN A) (aX A) S) (d : Int) : isDr A d ↔ d ∈ tNl S ∧ tFd S d 2 = 1 := by
  have e := flOK_TD (PA_NS hP.2.1) hP.2.2.2.2.2.1
  unfold isDr
  rw [e, show thD (TG (aF A)) (dF (TG (aF A)) fl) d ↔ d ∈ tNl S ∧ fl d = 1 from TSW_tD hS hP.2.2.2.2.2.2.1 d]
  exact ⟨fun q => ⟨q.1, by rw [hS.2.1 d q.1]; exact q.2⟩, fun q => ⟨q.1, by rw [← hS.2.1 d q.1]; exact q.2⟩⟩
theorem isFl_iff {A : AS} {fl : Int → Int} {nb vb : Int} {S : Tr} (hP : IP A fl nb vb) (hS : TSW (TG (aF A)) fl (LN (aF A)) (BY (aF A)) (aD A) (aN A) (aX A) S) (d : Int) : isFl A d ↔ d ∈ tNl S ∧ tFd S d 2 = 0 := by
  have e := flOK_TD (PA_NS hP.2.1) hP.2.2.2.2.2.1
  unfold isFl
  rw [e, show thF (TG (aF A)) (dF (TG (aF A)) fl) d ↔ d ∈ tNl S ∧ fl d = 0 from TSW_tF hS hP.2.2.2.2.2.2.1 d]
  exact ⟨fun q => ⟨q.1, by rw [hS.2.1 d q.1]; exact q.2⟩, fun q => ⟨q.1, by rw [← hS.2.1 d q.1]; exact q.2⟩⟩
theorem rows_len {F : Fl} {l : List Int} (hn : l.Nodup) (h : ∀ n ∈ l, ∃ i, (0 ≤ i ∧ i < 128) ∧ fN F i 10 = n) : l.length ≤ 128 := by
  let f : Int → Int := fun n => @dite Int (∃ i, (0 ≤ i ∧ i < 128) ∧ fN F i 10 = n) (Classical.propDecidable _) (fun q => Classical.choose q) (fun _ => 0)
  have hf : ∀ n ∈ l, (0 ≤ f n ∧ f n < 128) ∧ fN F (f n) 10 = n := fun n hm => by
    have e : f n = Classical.choose (h n hm) := dif_pos (h n hm)
    rw [e]; exact Classical.choose_spec (h n hm)
  have hnd : (l.map f).Nodup := by
    rw [List.nodup_iff_pairwise_ne] at hn ⊢
    rw [List.pairwise_map]
    refine List.Pairwise.imp_of_mem (fun {a b} ha hb hab e => hab ?_) hn
    rw [← (hf a ha).2, ← (hf b hb).2, e]
  have := sub_len (r := (List.range 128).map (fun k : Nat => (k : Int))) hnd (fun q hq => by
    obtain ⟨n, hm, e⟩ := List.mem_map.mp hq
    have := (hf n hm).1
    rw [← e]
    exact List.mem_map.mpr ⟨(f n).toNat, List.mem_range.mpr (by omega), by omega⟩)
  rw [List.length_map, List.length_map, List.length_range] at this
  exact this
/-- each number that is there, but the root, has a node of its own: so there is room for one more -/
theorem TSW_len {F F' : Fl} {fl L : Int → Int} {B : Int → Int → Int} {Vd Vn : Int → Int} {nx : Int} {S : Tr} {d nm t : Int} (hS : TSW (TG F) fl L B Vd Vn nx S) (hn : (tNl S).Nodup) (ho : TG F d nm = 0) (ht : t ∉ tNl S) (h0 : t ≠ 0) (h1 : t ≠ 1) (hT : TG F' = gup (TG F) d nm t) : (tNl S).length < 129 := by
  have hrow : ∀ x y, TG F' x y ≠ 0 → ∃ i, (0 ≤ i ∧ i < 128) ∧ fN F' i 10 = TG F' x y := fun x y h => by
    obtain ⟨i, i0, i1, -, -, e, -⟩ := TG_row h
    exact ⟨i, ⟨i0, i1⟩, e⟩
  have hnf : ((tNl S).filter (fun x => !(x == 1))).Nodup := hn.filter _
  have hmf : ∀ x, x ∈ (tNl S).filter (fun x => !(x == 1)) ↔ x ∈ tNl S ∧ x ≠ 1 := fun x => by simp [List.mem_filter]
  have a := rows_len (F := F') (l := t :: (tNl S).filter (fun x => !(x == 1))) (List.nodup_cons.mpr ⟨fun q => ht ((hmf t).mp q).1, hnf⟩) (fun n hm => by
    rcases List.mem_cons.mp hm with e | e
    · have hg : TG F' d nm = t := by rw [hT, gup_e]
      rw [e, ← hg]; exact hrow d nm (by rw [hg]; exact h0)
    · obtain ⟨e1, e2⟩ := (hmf n).mp e
      obtain ⟨n0, x, y, -, -, e3⟩ := ((hS.1 n).mp e1).resolve_left e2
      have hg : TG F' x y = n := by
        rw [hT]
        unfold gup
        split
        · rename_i c
          rw [c.1, c.2, ho] at e3; exact absurd e3.symm n0
        · exact e3
      rw [← hg]; exact hrow x y (by rw [hg]; exact n0))
  rw [List.length_cons] at a
  have b := sub_len (r := 1 :: (tNl S).filter (fun x => !(x == 1))) hn (fun q hq => by
    by_cases c : q = 1
    · rw [c]; exact List.mem_cons_self
    · exact List.mem_cons_of_mem _ ((hmf q).mpr ⟨hq, c⟩))
  rw [List.length_cons] at b
  omega
theorem cD_len {T : Int → Int → Int} {fl : Int → Int} {l : List Int} (h : ∀ n, tD T fl n → n ∈ l) : ∀ k : Nat, ∀ n, lk T (dF T fl) n k ≤ 99 * ((List.range k).filter (fun d : Nat => @decide (tD T fl (d : Int)) (Classical.propDecidable _))).length
  | 0, n => Nat.zero_le _
  | k + 1, n => by
    have ih := cD_len h k n
    rw [lk_s, List.range_succ, List.filter_append, List.length_append]
    have hc : ∀ (f : Int → Int) (m : Nat), ceq f n m ≤ m := fun f m => by
      induction m with
      | zero => exact Nat.le_refl _
      | succ m im => rw [ceq_s]; split <;> omega
    by_cases c : thD T (dF T fl) (k : Int)
    · rw [if_pos c]
      have := hc (T k) 99
      have e : (List.filter (fun d : Nat => @decide (tD T fl (d : Int)) (Classical.propDecidable _)) [k]).length = 1 := by
        rw [List.filter_cons_of_pos (by simpa using c)]; rfl
      rw [e]; omega
    · rw [if_neg c]; omega
theorem lk_le {T : Int → Int → Int} {fl : Int → Int} {l : List Int} (h : ∀ n, tD T fl n → n ∈ l) (hl : l.length ≤ 129) (n : Int) : lkN T fl n ≤ 99 * 129 := by
  have a := cD_len h 2048 n
  have b := sub_len (l := ((List.range 2048).filter (fun d : Nat => @decide (tD T fl (d : Int)) (Classical.propDecidable _))).map (fun d : Nat => (d : Int))) (r := l) (by
    rw [List.nodup_iff_pairwise_ne, List.pairwise_map]
    exact List.Pairwise.imp (fun {a b} hab e => hab (by omega)) ((List.nodup_iff_pairwise_ne.mp List.nodup_range).filter _)) (fun q hq => by
      obtain ⟨d, hd, e⟩ := List.mem_map.mp hq
      have := (List.mem_filter.mp hd).2
      rw [← e]; exact h _ (by simpa using this))
  rw [List.length_map] at b
  unfold lkN
  omega
theorem cntN_bb (f : Int → Int) : ∀ k : Nat, 0 ≤ cntN f k ∧ cntN f k ≤ k
  | 0 => ⟨by show (0 : Int) ≤ 0; omega, by show (0 : Int) ≤ 0; omega⟩
  | k + 1 => by
    have := cntN_bb f k
    rw [cntN_s]
    split <;> omega
theorem LN_b {F : Fl} (hS : NS F) (f : Int) : 0 ≤ LN F f ∧ LN F f ≤ 64 := by
  unfold LN
  split
  · omega
  · rename_i e
    obtain ⟨a, b⟩ := qNew_rW (Or.inl rfl) e
    have := sOK_k (hS _ a.1 a.2 b)
    omega
/-- all of the tree lies within bounds -/
theorem TSW_tB {T : Int → Int → Int} {fl L : Int → Int} {B : Int → Int → Int} {Vd Vn : Int → Int} {nx : Int} {S : Tr} (hS : TSW T fl L B Vd Vn nx S) (hW : WD T fl nx) (hl : (tNl S).length ≤ 129) (hL : ∀ f, 0 ≤ L f ∧ L f ≤ 64) (hV : ∀ n, (0 ≤ Vd n ∧ Vd n ≤ 100000) ∧ 0 ≤ Vn n ∧ Vn n ≤ 100000) : tB S := by
  obtain ⟨s1, s2, s3, s4, s5, s6, s7⟩ := id hS
  obtain ⟨w1, w2, w3, w4, w5, w6⟩ := id hW
  refine ⟨by omega, fun n hn => ⟨?_, by rw [s2 n hn]; exact w2 n, fun k k0 k1 => ?_, s7 n hn⟩⟩
  · rcases (s1 n).mp hn with e | ⟨e0, d, nm, -, -, e⟩
    · omega
    · have := w3 d nm; omega
  · have hv := hV n
    have h4 : tFd S n 4 ≤ 100000 ∧ 0 ≤ tFd S n 4 := by
      have := lk_le (fun n h => ((TSW_tD hS hW n).mp h).1) hl n
      rw [s5 n hn]; omega
    rcases w2 n with q | q
    · obtain ⟨a, -, b, c⟩ := s4 n hn q
      have := hL n
      have : k = 3 ∨ k = 4 ∨ k = 5 ∨ k = 6 := by omega
      rcases this with z | z | z | z <;> subst z <;> omega
    · obtain ⟨-, a, b, c⟩ := s3 n hn q
      have := cntN_bb (T n) 99
      have : k = 3 ∨ k = 4 ∨ k = 5 ∨ k = 6 := by omega
      rcases this with z | z | z | z <;> subst z <;> omega
