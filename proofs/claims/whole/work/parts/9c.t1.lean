/-! ### what each call may answer -/
theorem fEok_r (A : AS) : fEok A A := fun b => by omega
theorem fEok_p {A : AS} {c : Prop} {a b : Ans × AS} (h1 : fEok A a.2) (h2 : fEok A b.2) : fEok A (pI c a b).2 := by
  by_cases q : c
  · rw [pI_1 q]; exact h1
  · rw [pI_0 q]; exact h2
theorem lGo_E (F : Fl) (g : Lg) : fE (lGo F g).1 = fE F := by
  unfold lGo
  by_cases c : g.1 = -1
  · rw [if_pos c]
    split <;> rfl
  · rw [if_neg c]
    split
    · exact apR_E
    · split <;> exact apR_E
theorem lPut_E (F : Fl) (g : Lg) (s : Int → Int) : fE (lPut F g s).1 = fE F := by
  unfold lPut
  split
  · exact apR_E
  · split
    · exact lGo_E F g
    · show fE (fApR (lGo F g).1 (lGo F g).2.1.1 s).1 = fE F
      rw [apR_E, lGo_E]
theorem cpL_E : ∀ (cs : List Int) (F : Fl) (g : Lg), fE (cpL cs F g).1 = fE F
  | [], _, _ => rfl
  | i :: is, F, g => by
    by_cases c : (lPut F g (nSrc (fN F i))).2.2 = false
    · rw [cpL_0 c]; exact lPut_E F g _
    · have c2 : (lPut F g (nSrc (fN F i))).2.2 = true := by
        cases h : (lPut F g (nSrc (fN F i))).2.2
        · exact absurd h c
        · rfl
      rw [cpL_1 c2, cpL_E is, lPut_E]
theorem erR_E2 (F : Fl) (b c : Int) : fE F c ≤ fE (fErR F b).1 c ∧ fE (fErR F b).1 c ≤ fE F c + 1 := by
  by_cases h : c = b
  · unfold fErR
    split
    · exact ⟨Int.le_refl _, by show fE F c ≤ fE F c + 1; omega⟩
    · split
      · show fE F c ≤ (if c = b then fE F b + 1 else fE F c) ∧ (if c = b then fE F b + 1 else fE F c) ≤ fE F c + 1
        rw [if_pos h, h]; omega
      · show fE F c ≤ (if c = b then fE F b + 1 else fE F c) ∧ (if c = b then fE F b + 1 else fE F c) ≤ fE F c + 1
        rw [if_pos h, h]; omega
  · rw [erR_E F b c h]; omega
theorem lBrk_E2 (F : Fl) (g : Lg) : ∀ k : Nat, ∀ c : Int, fE F c ≤ fE (lBrk F g k).1 c ∧ fE (lBrk F g k).1 c ≤ fE F c + 1
  | 0, c => by show fE F c ≤ fE F c ∧ fE F c ≤ fE F c + 1; omega
  | k + 1, c => by
    have ih := lBrk_E2 F g k c
    rw [lBrk_s]
    split
    · exact ih
    · split
      · show fE F c ≤ fE (fErR (lBrk F g k).1 k).1 c ∧ fE (fErR (lBrk F g k).1 k).1 c ≤ fE F c + 1
        by_cases h : c = (k : Int)
        · have a := lBrk_E F g k c (by omega)
          have b := erR_E2 (lBrk F g k).1 k c
          omega
        · rw [erR_E _ _ _ h]; exact ih
      · exact ih
theorem lFree_E (F : Fl) (g : Lg) (b c : Int) : fE F c ≤ fE (lFree F g b).1 c ∧ fE (lFree F g b).1 c ≤ fE F c + 1 := erR_E2 F b c
theorem fEok_put {A A' : AS} (h : fE (aF A') = fE (aF A)) : fEok A A' := fun b => by rw [h]; omega
theorem fe_create (A : AS) (d nm : Int) : fEok A (actCreate A d nm).2 := by
  unfold actCreate
  refine fEok_p (fEok_r A) (fEok_p (fEok_r A) (fEok_p (fEok_r A) (fEok_p (fEok_r A) (fEok_p (fEok_r A) ?_))))
  unfold actCreate1
  split
  · exact fEok_put (lPut_E _ _ _)
  · split
    · exact fEok_put ((lPut_E _ _ _).trans (lPut_E _ _ _))
    · exact fEok_put ((lPut_E _ _ _).trans (lPut_E _ _ _))
theorem fe_mkdir (A : AS) (d nm : Int) : fEok A (actMkdir A d nm).2 := by
  unfold actMkdir
  refine fEok_p (fEok_r A) (fEok_p (fEok_r A) (fEok_p (fEok_r A) (fEok_p (fEok_r A) (fEok_p (fEok_r A) ?_))))
  split <;> exact fEok_put (lPut_E _ _ _)
theorem fe_link (A : AS) (d nm f : Int) : fEok A (actLink A d nm f).2 := by
  unfold actLink
  refine fEok_p (fEok_r A) (fEok_p (fEok_r A) (fEok_p (fEok_r A) (fEok_p (fEok_r A) (fEok_p (fEok_r A) (fEok_p (fEok_r A) ?_)))))
  unfold actLink1
  split <;> exact fEok_put (lPut_E _ _ _)
theorem fe_unlink (A : AS) (d nm : Int) : fEok A (actUnlink A d nm).2 := by
  unfold actUnlink
  refine fEok_p (fEok_r A) (fEok_p (fEok_r A) (fEok_p (fEok_r A) (fEok_p (fEok_r A) (fEok_p (fEok_r A) (fEok_p (fEok_r A) ?_)))))
  unfold actUnlink1
  split <;> exact fEok_put (lPut_E _ _ _)
theorem fe_rename (A : AS) (d nm d2 nm2 : Int) : fEok A (actRename A d nm d2 nm2).2 := by
  unfold actRename
  refine fEok_p (fEok_r A) (fEok_p (fEok_r A) (fEok_p (fEok_r A) (fEok_p (fEok_r A) (fEok_p (fEok_r A) (fEok_p (fEok_r A) (fEok_p (fEok_r A) (fEok_p (fEok_r A) ?_)))))))
  unfold actRename1
  split
  · exact fEok_put (lPut_E _ _ _)
  · unfold actRename2
    split
    · exact fEok_put ((lPut_E _ _ _).trans (lPut_E _ _ _))
    · exact fEok_put ((lPut_E _ _ _).trans (lPut_E _ _ _))
theorem fe_write (A : AS) (f o b n : Int) : fEok A (actWrite A f o b n).2 := by
  unfold actWrite
  refine fEok_p (fEok_r A) (fEok_p (fEok_r A) (fEok_p (fEok_r A) (fEok_p (fEok_r A) ?_)))
  unfold actData1
  split <;> exact fEok_put (lPut_E _ _ _)
theorem fe_trunc (A : AS) (f z : Int) : fEok A (actTrunc A f z).2 := by
  unfold actTrunc
  refine fEok_p (fEok_r A) (fEok_p (fEok_r A) (fEok_p (fEok_r A) (fEok_p (fEok_r A) ?_)))
  unfold actData1
  split <;> exact fEok_put (lPut_E _ _ _)
theorem fe_collect (A : AS) (dr : Int) : fEok A (actCollect A dr).2 := by
  unfold actCollect
  refine fEok_p (fEok_r A) (fEok_p (fEok_r A) ?_)
  unfold actColl1
  refine fEok_p (fEok_r A) (fEok_p (fEok_r A) ?_)
  unfold actColl2
  have hc : fE (cpL (chosenA A (vicA A dr)) (aF A) (aG A)).1 = fE (aF A) := cpL_E _ _ _
  split
  · exact fEok_put hc
  · have key : fEok A (afterX A (lFree (cpL (chosenA A (vicA A dr)) (aF A) (aG A)).1 (cpL (chosenA A (vicA A dr)) (aF A) (aG A)).2.1 (vicA A dr))) := fun b => by
      have := lFree_E (cpL (chosenA A (vicA A dr)) (aF A) (aG A)).1 (cpL (chosenA A (vicA A dr)) (aF A) (aG A)).2.1 (vicA A dr) b
      rw [hc] at this
      exact this
    split <;> exact key
theorem fe_cut (A : AS) (u : Int) : fEok A (actCut A u).2 := by
  unfold actCut
  exact fEok_p (fEok_r A) (fEok_put rfl)
theorem fe_mount (A : AS) (s : Int) : fEok A (actMount A s).2 := by
  unfold actMount actMount2
  intro b
  exact lBrk_E2 (fSetD (aF A) 0) (gOf (fSetD (aF A) 0)) 8 b
theorem fe_qD (A : AS) (d : Int) (v : Ans) : fEok A (qD A d v).2 := by unfold qD; exact fEok_p (fEok_r A) (fEok_p (fEok_r A) (fEok_r A))
theorem fe_qF (A : AS) (d : Int) (v : Ans) : fEok A (qF A d v).2 := by unfold qF; exact fEok_p (fEok_r A) (fEok_p (fEok_r A) (fEok_r A))
theorem fe_qB (A : AS) (d : Int) (v : Ans) : fEok A (qB A d v).2 := by unfold qB; exact fEok_p (fEok_r A) (fEok_p (fEok_r A) (fEok_r A))
theorem fe_qb (A : AS) (d : Int) (v : Ans) : fEok A (qb A d v).2 := by unfold qb; exact fEok_p (fEok_r A) (fEok_r A)
theorem fe_isDir (A : AS) (n : Int) : fEok A (actIsDir A n).2 := by unfold actIsDir; exact fEok_p (fEok_r A) (fEok_p (fEok_r A) (fEok_r A))
theorem fe_links (A : AS) (n : Int) : fEok A (actLinks A n).2 := by unfold actLinks; exact fEok_p (fEok_r A) (fEok_p (fEok_r A) (fEok_r A))
/-! answers within bounds -/
theorem r_m9 : inR (-9) := by unfold inR; omega
theorem ceq_le (f : Int → Int) (n : Int) : ∀ k : Nat, ceq f n k ≤ k
  | 0 => Nat.le_refl _
  | k + 1 => by
    have := ceq_le f n k
    rw [ceq_s]
    split <;> omega
theorem lk_bd (T D : Int → Int → Int) (n : Int) : ∀ k : Nat, lk T D n k ≤ 99 * k
  | 0 => Nat.le_refl _
  | k + 1 => by
    have ih := lk_bd T D n k
    have := ceq_le (T k) n 99
    rw [lk_s]
    split <;> omega
theorem nmAt_b (f : Int → Int) (p : Int) : ∀ k : Nat, 0 ≤ nmAt f p k ∧ nmAt f p k ≤ k
  | 0 => ⟨by show (0 : Int) ≤ 0; omega, by show (0 : Int) ≤ 0; omega⟩
  | k + 1 => by
    have := nmAt_b f p k
    rw [nmAt_s]
    split
    · omega
    · split <;> omega
theorem puts_b {F : Fl} (hA : PA F) {i : Int} (i0 : 0 ≤ i) (i1 : i < 128) : 0 ≤ fN F i 2 ∧ fN F i 2 ≤ 20 := by
  by_cases h : i % 16 < fC F (i / 16)
  · obtain ⟨a, b, c⟩ := PA_in hA i0 i1 h
    obtain ⟨x, y, -, -⟩ := row_b i0 i1
    rcases a with q | q
    · have := sOK_k q; omega
    · have := q.2.1; omega
  · have := PA_out hA i0 i1 h 2 (by decide) (by decide)
    omega
theorem jSum_b {F : Fl} (hA : PA F) (S : Tr) {b : Int} (hb : 0 ≤ b ∧ b < 8) : ∀ n : Nat, n ≤ 16 → 0 ≤ jSum F S b n ∧ jSum F S b n ≤ 20 * (n : Int)
  | 0, _ => ⟨by show (0 : Int) ≤ 0; omega, by show (0 : Int) ≤ 20 * 0; omega⟩
  | n + 1, h => by
    have ih := jSum_b hA S hb n (by omega)
    have p := puts_b hA (i := b * 16 + n) (by omega) (by omega)
    rw [jSum_s]
    unfold jDd
    split <;> omega
section
variable {A : AS} {nb vb : Int}
theorem ex_create (hO : AOK A nb vb) (hn : nb ≤ 2000) (d nm : Int) : exA [xI, xA, xS] (actCreate A d nm).1 := by
  unfold actCreate
  refine exA_p (fun _ => exA_x 2 rfl) (fun hd => exA_p (fun _ => exA_x 0 rfl) (fun _ => exA_p (fun _ => exA_x 1 rfl) (fun _ => exA_p (fun _ => exA_x 2 rfl) (fun _ => exA_p (fun _ => exA_x 2 rfl) (fun _ => ?_)))))
  obtain ⟨fl, S, hP, hT⟩ := hO.2.2 (hO.2.1.resolve_right hd)
  have hx := hP.2.2.2.2.2.2.2.1
  unfold actCreate1
  split
  · exact exA_v r_m9
  · split
    · exact exA_v r_m9
    · exact exA_v (by unfold inR; omega)
theorem ex_mkdir (hO : AOK A nb vb) (hn : nb ≤ 2000) (d nm : Int) : exA [xI, xA, xS] (actMkdir A d nm).1 := by
  unfold actMkdir
  refine exA_p (fun _ => exA_x 2 rfl) (fun hd => exA_p (fun _ => exA_x 0 rfl) (fun _ => exA_p (fun _ => exA_x 1 rfl) (fun _ => exA_p (fun _ => exA_x 2 rfl) (fun _ => exA_p (fun _ => exA_x 2 rfl) (fun _ => ?_)))))
  obtain ⟨fl, S, hP, hT⟩ := hO.2.2 (hO.2.1.resolve_right hd)
  have hx := hP.2.2.2.2.2.2.2.1
  split
  · exact exA_v r_m9
  · exact exA_v (by unfold inR; omega)
theorem lkA_r (A : AS) (n : Int) : inR (lkA A n) := by
  have := lk_bd (TG (aF A)) (TD (aF A)) n 2048
  unfold lkA inR
  omega
theorem ex_link (d nm f : Int) : exA [xI, xA, xS] (actLink A d nm f).1 := by
  unfold actLink
  refine exA_p (fun _ => exA_x 2 rfl) (fun _ => exA_p (fun _ => exA_x 0 rfl) (fun _ => exA_p (fun _ => exA_x 0 rfl) (fun _ => exA_p (fun _ => exA_x 1 rfl) (fun _ => exA_p (fun _ => exA_x 2 rfl) (fun _ => exA_p (fun _ => exA_x 2 rfl) (fun _ => ?_))))))
  unfold actLink1
  split
  · exact exA_v r_m9
  · exact exA_v (lkA_r _ _)
theorem TG_r (hO : AOK A nb vb) (d nm : Int) : inR (TG (aF A) d nm) := by
  have := TG_2 (PA_NS hO.1.1) d nm
  unfold inR; omega
theorem ex_unlink (hO : AOK A nb vb) (d nm : Int) : exA [xI, xA, xS] (actUnlink A d nm).1 := by
  unfold actUnlink
  refine exA_p (fun _ => exA_x 2 rfl) (fun _ => exA_p (fun _ => exA_x 0 rfl) (fun _ => exA_p (fun _ => exA_x 1 rfl) (fun _ => exA_p (fun _ => exA_x 2 rfl) (fun _ => exA_p (fun _ => exA_x 2 rfl) (fun _ => exA_p (fun _ => exA_x 2 rfl) (fun _ => ?_))))))
  unfold actUnlink1
  split
  · exact exA_v r_m9
  · exact exA_v (TG_r hO _ _)
theorem ex_rename (hO : AOK A nb vb) (d nm d2 nm2 : Int) : exA [xI, xA, xS] (actRename A d nm d2 nm2).1 := by
  unfold actRename
  refine exA_p (fun _ => exA_x 2 rfl) (fun _ => exA_p (fun _ => exA_x 0 rfl) (fun _ => exA_p (fun _ => exA_x 0 rfl) (fun _ => exA_p (fun _ => exA_x 1 rfl) (fun _ => exA_p (fun _ => exA_x 1 rfl) (fun _ => exA_p (fun _ => exA_x 2 rfl) (fun _ => exA_p (fun _ => exA_x 2 rfl) (fun _ => exA_p (fun _ => exA_x 2 rfl) (fun _ => ?_))))))))
  unfold actRename1
  split
  · exact exA_v r_m9
  · unfold actRename2
    split
    · exact exA_v r_m9
    · exact exA_v (TG_r hO _ _)
theorem ex_write (hO : AOK A nb vb) (f o b n : Int) : exA [xI, xA, xS] (actWrite A f o b n).1 := by
  unfold actWrite
  refine exA_p (fun _ => exA_x 2 rfl) (fun _ => exA_p (fun _ => exA_x 0 rfl) (fun _ => exA_p (fun _ => exA_x 1 rfl) (fun hw => exA_p (fun _ => exA_x 2 rfl) (fun _ => ?_))))
  have hw := Classical.not_not.mp hw
  have := LN_b (PA_NS hO.1.1) f
  unfold actData1
  split
  · exact exA_v r_m9
  · exact exA_v (by unfold inR; omega)
theorem ex_trunc (hO : AOK A nb vb) (f z : Int) : exA [xI, xA, xS] (actTrunc A f z).1 := by
  unfold actTrunc
  refine exA_p (fun _ => exA_x 2 rfl) (fun _ => exA_p (fun _ => exA_x 0 rfl) (fun _ => exA_p (fun _ => exA_x 1 rfl) (fun _ => exA_p (fun _ => exA_x 2 rfl) (fun _ => ?_))))
  have := LN_b (PA_NS hO.1.1) f
  unfold actData1
  split
  · exact exA_v r_m9
  · exact exA_v (by unfold inR; omega)
theorem ex_collect (hO : AOK A nb vb) (dr : Int) : exA [xA, xS] (actCollect A dr).1 := by
  unfold actCollect
  refine exA_p (fun _ => exA_x 1 rfl) (fun hd => exA_p (fun _ => exA_x 0 rfl) (fun _ => ?_))
  obtain ⟨fl, S, hP, hT⟩ := hO.2.2 (hO.2.1.resolve_right hd)
  have hvm := vc_m (aF A) (tS (aF A)) (aG A) (wantOf dr) (aG A).2.2.length (Nat.le_refl _)
  have hvb : vicA A dr = -1 ∨ (0 ≤ vicA A dr ∧ vicA A dr < 8) := hvm.imp id (fun q => (hP.2.2.2.1.2.2.2.1 _ q).1)
  unfold actColl1
  refine exA_p (fun _ => exA_x 1 rfl) (fun _ => exA_p (fun _ => exA_x 1 rfl) (fun _ => ?_))
  unfold actColl2
  split
  · exact exA_v r_m9
  · split
    · exact exA_v r_m9
    · exact exA_v (by unfold inR; omega)
theorem ex_cut (hO : AOK A nb vb) (u : Int) : exA [xA] (actCut A u).1 := by
  unfold actCut
  refine exA_p (fun _ => exA_x 0 rfl) (fun _ => exA_v ?_)
  have := hO.1.2.2.2.1
  unfold inR; omega
theorem ex_qD {Es : List String} {d : Int} {v : Ans} {i : Nat} (hi : Es[i]? = some xS) (h0 : Es[0]? = some xI) (h : ¬ dk A → isDr A d → exA Es v) : exA Es (qD A d v).1 := by
  unfold qD
  exact exA_p (fun _ => exA_x i hi) (fun hd => exA_p (fun _ => exA_x 0 h0) (fun hq => h hd (Classical.not_not.mp hq)))
theorem ex_qF {d : Int} {v : Ans} (h : exA [xI, xS] v) : exA [xI, xS] (qF A d v).1 := by
  unfold qF
  exact exA_p (fun _ => exA_x 1 rfl) (fun _ => exA_p (fun _ => exA_x 0 rfl) (fun _ => h))
theorem ex_qB {b : Int} {v : Ans} (h : ¬ dk A → 0 ≤ b ∧ b < 8 → exA [xI, xS] v) : exA [xI, xS] (qB A b v).1 := by
  unfold qB
  exact exA_p (fun _ => exA_x 1 rfl) (fun hd => exA_p (fun _ => exA_x 0 rfl) (fun hq => h hd (Classical.not_not.mp hq)))
theorem ex_qb {b : Int} {v : Ans} (h : 0 ≤ b ∧ b < 8 → exA [xI] v) : exA [xI] (qb A b v).1 := by
  unfold qb
  exact exA_p (fun _ => exA_x 0 rfl) (fun hq => h (Classical.not_not.mp hq))
theorem ex_lookUp (hO : AOK A nb vb) (d nm : Int) : exA [xI, xA, xS] (actLookUp A d nm).1 := by
  unfold actLookUp
  refine ex_qD (i := 2) rfl rfl (fun _ _ => exA_q (fun _ => exA_x 1 rfl) (fun _ => exA_v ?_))
  split
  · unfold inR; omega
  · exact TG_r hO _ _
theorem ex_names (d : Int) : exA [xI, xS] (actNames A d).1 := by
  unfold actNames
  refine ex_qD (i := 1) rfl rfl (fun _ _ => exA_v ?_)
  have := cntN_bb (TG (aF A) d) 99
  unfold inR; omega
theorem ex_nameAt (d p : Int) : exA [xI, xS] (actNameAt A d p).1 := by
  unfold actNameAt
  refine ex_qD (i := 1) rfl rfl (fun _ _ => exA_q (fun _ => exA_x 0 rfl) (fun _ => exA_v ?_))
  have := nmAt_b (TG (aF A) d) p 99
  unfold inR; omega
theorem is01 (A : AS) (n : Int) (v : Int) (h : oc (actIsDir A n).1 = .inl (some (vI v))) : v = 0 ∨ v = 1 := by
  unfold actIsDir at h
  by_cases c : dk A
  · rw [pI_1 c] at h; cases h
  · rw [pI_0 c] at h
    by_cases d : ¬ (isDr A n ∨ isFl A n)
    · rw [pI_1 d] at h; cases h
    · rw [pI_0 d] at h
      have h : (Sum.inl (some (vI (pI (isDr A n) 1 0))) : nOut) = .inl (some (vI v)) := h
      injection h with h
      injection h with h
      have h : (pI (isDr A n) 1 0 : Int) = v := by injection h
      by_cases e : isDr A n
      · rw [pI_1 e] at h; omega
      · rw [pI_0 e] at h; omega
theorem ex_isDir (n : Int) : exA [xI, xS] (actIsDir A n).1 := by
  unfold actIsDir
  refine exA_p (fun _ => exA_x 1 rfl) (fun _ => exA_p (fun _ => exA_x 0 rfl) (fun _ => exA_v ?_))
  by_cases e : isDr A n
  · rw [pI_1 e]; unfold inR; omega
  · rw [pI_0 e]; unfold inR; omega
theorem ex_links (n : Int) : exA [xI, xS] (actLinks A n).1 := by
  unfold actLinks
  exact exA_p (fun _ => exA_x 1 rfl) (fun _ => exA_p (fun _ => exA_x 0 rfl) (fun _ => exA_v (lkA_r A n)))
theorem ex_length (hO : AOK A nb vb) (f : Int) : exA [xI, xS] (actLength A f).1 := by
  unfold actLength
  have := LN_b (PA_NS hO.1.1) f
  exact ex_qF (exA_v (by unfold inR; omega))
theorem ex_byteAt (f p : Int) : exA [xI, xS] (actByteAt A f p).1 := by
  unfold actByteAt
  have := BY_b (F := aF A) f p
  exact ex_qF (exA_q (fun _ => exA_x 0 rfl) (fun _ => exA_v (by unfold inR; omega)))
theorem ex_state (b : Int) : exA [xI, xS] (actState A b).1 := by
  unfold actState
  refine ex_qB (fun _ _ => exA_v ?_)
  have := jDirt_r (aF A) (tS (aF A)) b
  split
  · unfold inR; omega
  · split <;> (unfold inR; omega)
theorem ex_dead (hO : AOK A nb vb) (b : Int) : exA [xI, xS] (actDead A b).1 := by
  unfold actDead
  refine ex_qB (fun _ hb => exA_v ?_)
  have hc := (hO.1.1 b hb.1 hb.2).1.1
  have := jSum_b hO.1.1 (tS (aF A)) hb (fC (aF A) b).toNat (by omega)
  unfold inR; omega
theorem ex_toCopy (hO : AOK A nb vb) (b : Int) : exA [xI, xS] (actToCopy A b).1 := by
  unfold actToCopy
  refine ex_qB (fun _ hb => exA_v ?_)
  have hc := (hO.1.1 b hb.1 hb.2).1.1
  have := ck_len (aF A) (tS (aF A)) b (fC (aF A) b).toNat
  unfold inR; omega
theorem ex_written (hO : AOK A nb vb) (b : Int) : exA [xI] (actWritten A b).1 := by
  unfold actWritten
  refine ex_qb (fun hb => exA_v ?_)
  have hc := (hO.1.1 b hb.1 hb.2).1
  unfold inR; omega
theorem ex_nodes (hO : AOK A nb vb) (b : Int) : exA [xI] (actNodes A b).1 := by
  unfold actNodes
  refine ex_qb (fun hb => exA_v ?_)
  have hc := (hO.1.1 b hb.1 hb.2).1
  unfold inR; omega
theorem ex_erased (hE : ∀ b, 0 ≤ b → b < 8 → 0 ≤ fE (aF A) b ∧ fE (aF A) b ≤ 190000) (b : Int) : exA [xI] (actErased A b).1 := by
  unfold actErased
  refine ex_qb (fun hb => exA_v ?_)
  have := hE b hb.1 hb.2
  unfold inR; omega
end
