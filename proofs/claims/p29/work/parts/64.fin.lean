abbrev TSA (A : AS) (fl : Int → Int) (S : Tr) : Prop := TSW (TG (aF A)) fl (LN (aF A)) (BY (aF A)) (aD A) (aN A) (aX A) S
/-- the next number may become of any sort -/
theorem IP_fl {A : AS} {fl : Int → Int} {nb vb v : Int} {S : Tr} (hP : IP A fl nb vb) (hS : TSA A fl S) (hv : v = 0 ∨ v = 1) : ∃ gl, gl (aX A) = v ∧ IP A gl nb vb ∧ TSA A gl S ∧ aX A ∉ tNl S ∧ ∀ n, n ≠ aX A → gl n = fl n := by
  obtain ⟨h1, h2, h3, h4, h5, h6, h7, h8, h9, h10⟩ := id hP
  have hg : ∀ n, n ≠ aX A → (fun n => if n = aX A then v else fl n) n = fl n := fun n hn => if_neg hn
  have hgx : (fun n => if n = aX A then v else fl n) (aX A) = v := if_pos rfl
  obtain ⟨a, b, c⟩ := TSW_fl hS h7 (Int.le_refl _) hg (by rw [if_pos rfl]; exact hv)
  refine ⟨_, hgx, ⟨h1, h2, h3, h4, h5, fun i i0 i1 w e0 e1 => ?_, a, h8, h9, h10⟩, b, c, hg⟩
  have := (h5 i i0 i1 w).2.1
  rw [h6 i i0 i1 w e0 e1]
  exact (if_neg (by omega)).symm
theorem LN_new {F : Fl} {nx f : Int} {Vd Vn : Int → Int} (hV : NV F nx Vd Vn) (hf : nx ≤ f) : LN F f = 0 ∧ ∀ p, BY F f p = 0 := by
  have hq : ∀ key, qNew F 1 f key 2147483647 128 = -1 := fun key => qNew_none (fun j j0 j1 q => by
    obtain ⟨w, e0, e3⟩ := (rT_W (Or.inl rfl)).mp q.1
    have := (hV j j0 j1 w).1
    omega)
  unfold LN BY qByt
  exact ⟨if_pos (hq 64), fun p => if_pos (hq p)⟩
theorem TG_new {F : Fl} {fl : Int → Int} {nx : Int} (hW : WD (TG F) fl nx) (d nm : Int) : TG F d nm ≠ nx := by have := hW.2.2.1 d nm; have := hW.2.2.2.2.1; omega
theorem jSh0 : jShl (jShl 1 0 - 1) 0 = 0 := by decide
/-- a file made -/
theorem create_ok {A : AS} {fl : Int → Int} {nb vb d nm : Int} {S S' : Tr} {P R : Fl × Lg × Bool} (hP : IP A fl nb vb) (hS : TSA A fl S) (hd : d ∈ tNl S) (hfd : fl d = 1) (hm : nmR nm) (ho : TG (aF A) d nm = 0) (hfl : fl (aX A) = 0) (hn : nb + 1 ≤ 2000)
    (e1 : TG P.1 = TG (aF A)) (e2 : LN P.1 = fun x => if x = aX A then 0 else LN (aF A) x) (e3 : BY P.1 = fun x p => if x = aX A ∧ sSet (dbSrc (aX A) (aD A (aX A) + 1) 0 0 0 0) p then sByt (dbSrc (aX A) (aD A (aX A) + 1) 0 0 0 0) p else BY (aF A) x p)
    (hR : WD (gup (TG P.1) d nm (aX A)) fl (aX A + 1) → IP (R.1, R.2.1, aX A + 1, bump (aD A) (aX A), bump (aN A) d) fl (nb + 1) (vb + 2)) (f1 : TG R.1 = gup (TG P.1) d nm (aX A)) (f2 : LN R.1 = LN P.1) (f3 : BY R.1 = BY P.1)
    (hA : asgOK (tSetF (tAdd (tSetF S d 3 (tFd S d 3 + 1)) (aX A) 0) (aX A) 3 1) d nm (aX A) S') :
    IP (R.1, R.2.1, aX A + 1, bump (aD A) (aX A), bump (aN A) d) fl (nb + 1) (vb + 2) ∧ TSA (R.1, R.2.1, aX A + 1, bump (aD A) (aX A), bump (aN A) d) fl S' := by
  obtain ⟨h1, h2, h3, h4, h5, h6, h7, h8, h9, h10⟩ := id hP
  have hxS : aX A ∉ tNl S := fun z => by
    rcases (hS.1 _).mp z with q | ⟨-, x, y, -, -, q⟩
    · omega
    · exact TG_new h7 x y q
  have hdx : d ≠ aX A := fun e => hxS (by rw [← e]; exact hd)
  have hv := TSW_ver hS hd hfd
  obtain ⟨n1, n2⟩ := LN_new h5 (Int.le_refl (aX A))
  have eL : ∀ x, LN R.1 x = LN (aF A) x := fun x => by
    rw [f2, e2]
    show (if x = aX A then 0 else LN (aF A) x) = _
    split
    · rename_i c; rw [c, n1]
    · rfl
  have sb0 : ∀ p, sByt (dbSrc (aX A) (aD A (aX A) + 1) 0 0 0 0) p = 0 := fun p => by
    unfold sByt
    obtain ⟨-, -, -, -, q5, q6, -⟩ := dbSrc_f (aX A) (aD A (aX A) + 1) 0 0 0 0
    rw [q5, q6, if_neg (by omega)]
  have eB : ∀ x p, BY R.1 x p = BY (aF A) x p := fun x p => by
    rw [f3, e3]
    show (if x = aX A ∧ sSet (dbSrc (aX A) (aD A (aX A) + 1) 0 0 0 0) p then sByt (dbSrc (aX A) (aD A (aX A) + 1) 0 0 0 0) p else BY (aF A) x p) = _
    split
    · rename_i c; rw [c.1, n2, sb0]
    · rfl
  have hv2 : TSW (TG (aF A)) fl (LN R.1) (BY R.1) (bump (aD A) (aX A)) (bump (aN A) d) (aX A) (tSetF S d 3 (tFd S d 3 + 1)) := TSW_cg hv (fun n hn => by
    have hnx : n ≠ aX A := fun e => hxS (by rw [← e]; exact hn)
    exact ⟨fun _ => rfl, fun _ => ⟨eL n, eB n, bump_n _ hnx⟩⟩)
  have key := TSW_new (S1 := tSetF (tAdd (tSetF S d 3 (tFd S d 3 + 1)) (aX A) 0) (aX A) 3 1) (S' := S') (v := 1) hv2 h7 hd hfd hm ho (by omega) (by
      show max (tNx S) (aX A + 1) = aX A + 1
      rw [hS.2.2.2.2.2.1]; omega) (fun n => by
      show n ∈ tNl S ++ [aX A] ↔ _
      rw [List.mem_append, List.mem_singleton]; exact Iff.rfl) (fun n k => by
      show (if n = aX A ∧ k = 3 then 1 else (if n = aX A then (if k = 2 then 0 else 0) else tFd (tSetF S d 3 (tFd S d 3 + 1)) n k)) = _
      rw [hfl]
      (repeat' split) <;> first | rfl | omega) (fun n j => rfl) hA (fun q => by omega) (fun _ => ⟨by rw [eL, n1], fun p => by rw [eB, n2], by rw [bump_s, (h10 _ (Int.le_refl _)).1]; rfl⟩)
  obtain ⟨k1, k2, -⟩ := key
  rw [e1] at hR f1
  refine ⟨hR k1, ?_⟩
  show TSW (TG R.1) fl (LN R.1) (BY R.1) (bump (aD A) (aX A)) (bump (aN A) d) (aX A + 1) S'
  rw [f1]; exact k2
/-- a directory made -/
theorem mkdir_ok {A : AS} {fl : Int → Int} {nb vb d nm : Int} {S S' : Tr} {R : Fl × Lg × Bool} (hP : IP A fl nb vb) (hS : TSA A fl S) (hd : d ∈ tNl S) (hfd : fl d = 1) (hm : nmR nm) (ho : TG (aF A) d nm = 0) (hfl : fl (aX A) = 1) (hn : nb + 1 ≤ 2000)
    (hR : WD (gup (TG (aF A)) d nm (aX A)) fl (aX A + 1) → IP (R.1, R.2.1, aX A + 1, aD A, bump (aN A) d) fl (nb + 1) (vb + 2)) (f1 : TG R.1 = gup (TG (aF A)) d nm (aX A)) (f2 : LN R.1 = LN (aF A)) (f3 : BY R.1 = BY (aF A))
    (hA : asgOK (tAdd (tSetF S d 3 (tFd S d 3 + 1)) (aX A) 1) d nm (aX A) S') :
    IP (R.1, R.2.1, aX A + 1, aD A, bump (aN A) d) fl (nb + 1) (vb + 2) ∧ TSA (R.1, R.2.1, aX A + 1, aD A, bump (aN A) d) fl S' := by
  obtain ⟨h1, h2, h3, h4, h5, h6, h7, h8, h9, h10⟩ := id hP
  have hxS : aX A ∉ tNl S := fun z => by
    rcases (hS.1 _).mp z with q | ⟨-, x, y, -, -, q⟩
    · omega
    · exact TG_new h7 x y q
  have hdx : d ≠ aX A := fun e => hxS (by rw [← e]; exact hd)
  have hv := TSW_ver hS hd hfd
  have key := TSW_new (S1 := tAdd (tSetF S d 3 (tFd S d 3 + 1)) (aX A) 1) (S' := S') (v := 0) hv h7 hd hfd hm ho (by omega) (by
      show max (tNx S) (aX A + 1) = aX A + 1
      rw [hS.2.2.2.2.2.1]; omega) (fun n => by
      show n ∈ tNl S ++ [aX A] ↔ _
      rw [List.mem_append, List.mem_singleton]; exact Iff.rfl) (fun n k => by
      show (if n = aX A then (if k = 2 then 1 else 0) else tFd (tSetF S d 3 (tFd S d 3 + 1)) n k) = _
      rw [hfl]
      (repeat' split) <;> first | rfl | omega) (fun n j => rfl) hA (fun _ => by
      show (if aX A = d then aN A d + 1 else aN A (aX A)) = 0
      rw [if_neg (fun e => hdx e.symm)]; exact (h10 _ (Int.le_refl _)).2) (fun q => by omega)
  obtain ⟨k1, k2, -⟩ := key
  refine ⟨hR k1, ?_⟩
  show TSW (TG R.1) fl (LN R.1) (BY R.1) (aD A) (bump (aN A) d) (aX A + 1) S'
  rw [f1, f2, f3]; exact k2
/-- a name given to a file or directory that is there, while its directory's version is one more -/
theorem put_fin {A : AS} {fl : Int → Int} {nb vb d nm t : Int} {S S' : Tr} {R : Fl × Lg × Bool} (hP : IP A fl nb vb) (hS : TSA A fl S) (hd : d ∈ tNl S) (hfd : fl d = 1) (hm : nmR nm) (ho : TG (aF A) d nm = 0 ∨ fl (TG (aF A) d nm) = 0) (ht : t ∈ tNl S ∧ t ≠ 1) (hb : fl t = 1 → ¬ thB (TG (aF A)) (dF (TG (aF A)) fl) t d)
    (hR : WD (gup (TG (aF A)) d nm t) fl (aX A) → IP (R.1, R.2.1, aX A, aD A, bump (aN A) d) fl nb (vb + 1)) (f1 : TG R.1 = gup (TG (aF A)) d nm t) (f2 : LN R.1 = LN (aF A)) (f3 : BY R.1 = BY (aF A))
    (hA : asgOK (tSetF S d 3 (tFd S d 3 + 1)) d nm t S') :
    IP (R.1, R.2.1, aX A, aD A, bump (aN A) d) fl nb (vb + 1) ∧ TSA (R.1, R.2.1, aX A, aD A, bump (aN A) d) fl S' := by
  obtain ⟨h1, h2, h3, h4, h5, h6, h7, h8, h9, h10⟩ := id hP
  have hv := TSW_ver hS hd hfd
  have htb : 2 ≤ t ∧ t < aX A := by
    obtain ⟨-, x, y, -, -, q⟩ := ((hS.1 t).mp ht.1).resolve_left ht.2
    have := h7.2.2.1 x y
    have := ((hS.1 t).mp ht.1).resolve_left ht.2
    omega
  obtain ⟨k1, k2, -⟩ := TSW_put hv h7 hd hfd hm ⟨ht.1, htb⟩ ho hb hA
  refine ⟨hR k1, ?_⟩
  show TSW (TG R.1) fl (LN R.1) (BY R.1) (aD A) (bump (aN A) d) (aX A) S'
  rw [f1, f2, f3]; exact k2
/-- a name taken away -/
theorem del_fin {A : AS} {fl : Int → Int} {nb vb d nm : Int} {S S' : Tr} {R : Fl × Lg × Bool} (hP : IP A fl nb vb) (hS : TSA A fl S) (hd : d ∈ tNl S) (hfd : fl d = 1) (hm : nmR nm) (ho : TG (aF A) d nm ≠ 0) (he : fl (TG (aF A) d nm) = 1 → (∀ x, nmR x → TG (aF A) (TG (aF A) d nm) x = 0) ∨ ∃ x y, tD (TG (aF A)) fl x ∧ nmR y ∧ ¬ (x = d ∧ y = nm) ∧ TG (aF A) x y = TG (aF A) d nm)
    (hR : WD (gup (TG (aF A)) d nm 0) fl (aX A) → IP (R.1, R.2.1, aX A, aD A, bump (aN A) d) fl nb (vb + 1)) (f1 : TG R.1 = gup (TG (aF A)) d nm 0) (f2 : LN R.1 = LN (aF A)) (f3 : BY R.1 = BY (aF A))
    (hA : asgOK (tSetF S d 3 (tFd S d 3 + 1)) d nm 0 S') :
    IP (R.1, R.2.1, aX A, aD A, bump (aN A) d) fl nb (vb + 1) ∧ TSA (R.1, R.2.1, aX A, aD A, bump (aN A) d) fl S' := by
  obtain ⟨h1, h2, h3, h4, h5, h6, h7, h8, h9, h10⟩ := id hP
  have hv := TSW_ver hS hd hfd
  obtain ⟨k1, k2⟩ := TSW_del hv h7 hd hfd hm ho he hA
  refine ⟨hR k1, ?_⟩
  show TSW (TG R.1) fl (LN R.1) (BY R.1) (aD A) (bump (aN A) d) (aX A) S'
  rw [f1, f2, f3]; exact k2
/-- the state holds -/
theorem MC_on {A : AS} {nb vb : Int} {m : nMem} {e : nEnv} {S : Tr} {fl : Int → Int} (hC : C6 (aF A) (aG A) S m e) (h56 : eKind e 25 ≠ 0) (hP : IP A fl nb vb) (hS : TSA A fl S) (hn : nb ≤ 2000) (hv : vb ≤ 4000) : MC A nb vb m e := by
  obtain ⟨h1, h2, h3, h4, h5, h6, h7, h8, h9, h10⟩ := id hP
  refine ⟨S, hC, TSW_tB hS h7 hC.2.2.2.2.2.1 (fun f => LN_b (PA_NS h2) f) (fun n => ?_), IP_IB hP hn, Or.inl h1, h56, fun _ => ⟨fl, hP, hS⟩⟩
  have := h9 n
  omega
theorem MC_off {A : AS} {nb vb nb' vb' : Int} {m : nMem} {e : nEnv} {S : Tr} (hC : C6 (aF A) (aG A) S m e) (hB : tB S) (h56 : eKind e 25 ≠ 0) (hD : fD (aF A) = 1) (hI : IB (aF A) nb vb) (h1 : nb ≤ nb') (h2 : vb ≤ vb') (h3 : nb' ≤ 2000) : MC A nb' vb' m e :=
  ⟨S, hC, hB, IB_mono hI h1 h2 h3, Or.inr hD, h56, fun q => by omega⟩
theorem tB_ver {S : Tr} {d : Int} (hB : tB S) (hd : d ∈ tNl S) (hv : tFd S d 3 ≤ 99999) : tB (tSetF S d 3 (tFd S d 3 + 1)) := by
  obtain ⟨a, b⟩ := hB
  refine ⟨a, fun n hn => ?_⟩
  obtain ⟨b1, b2, b3, b4⟩ := b n hn
  have fo : ∀ k, ¬ (n = d ∧ k = 3) → tFd (tSetF S d 3 (tFd S d 3 + 1)) n k = tFd S n k := fun k h => if_neg h
  refine ⟨b1, by rw [fo 2 (by omega)]; exact b2, fun k k0 k1 => ?_, b4⟩
  by_cases c : n = d ∧ k = 3
  · have e : tFd (tSetF S d 3 (tFd S d 3 + 1)) n k = tFd S d 3 + 1 := if_pos c
    have := (b d hd).2.2.1 3 (by omega) (by omega)
    rw [e]; omega
  · rw [fo k c]; exact b3 k k0 k1
