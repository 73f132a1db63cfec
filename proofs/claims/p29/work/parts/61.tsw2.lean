theorem tD_d0 {T : Int → Int → Int} {fl : Int → Int} {nx d nm : Int} (hW : WD T fl nx) (hd : tD T fl d) (hm : nmR nm) : d ≠ T d nm := fun e => by
  have hb := tD_b hW hd
  obtain ⟨r, hr⟩ := hW.2.2.2.1
  have := (dF_e (T := T) (fl := fl) (d := d) (nm := nm)).mpr ⟨by rw [← e]; omega, by rw [← e]; exact (tD_fl hW hd).1⟩
  have := hr d nm hd hm this.1 this.2
  rw [← e] at this
  omega
/-- a name is given to what is there -/
theorem TSW_put {T : Int → Int → Int} {fl L : Int → Int} {B : Int → Int → Int} {Vd Vn : Int → Int} {nx : Int} {S S' : Tr} {d nm t : Int} (hS : TSW T fl L B Vd Vn nx S) (hW : WD T fl nx) (hd : d ∈ tNl S) (hfd : fl d = 1) (hm : nmR nm) (ht : t ∈ tNl S ∧ 2 ≤ t ∧ t < nx) (ho : T d nm = 0 ∨ fl (T d nm) = 0) (hb : fl t = 1 → ¬ thB T (dF T fl) t d) (hA : asgOK S d nm t S') :
    WD (gup T d nm t) fl nx ∧ TSW (gup T d nm t) fl L B Vd Vn nx S' ∧ (∀ n, tD (gup T d nm t) fl n ↔ tD T fl n) := by
  have hdD : tD T fl d := (TSW_tD hS hW d).mpr ⟨hd, hfd⟩
  have hne : ¬ dE T (dF T fl) d nm := fun z => by have := dF_e.mp z; omega
  have hD : ∀ n, tD (gup T d nm t) fl n ↔ tD T fl n := fun n => by
    unfold tD
    rw [dF_gup, if_neg (show ¬ t = 0 by omega)]
    rcases hW.2.1 t with q | q
    · exact G1 hne (Or.inr (by rw [q]; decide)) n
    · exact G2 hne ((TSW_tD hS hW t).mpr ⟨ht.1, q⟩) n
  have hR : RK (gup T d nm t) (dF (gup T d nm t) fl) := by
    rw [dF_gup, if_neg (show ¬ t = 0 by omega)]
    rcases hW.2.1 t with q | q
    · exact RK_G1 hW.2.2.2.1 hne (Or.inr (by rw [q]; decide))
    · exact RK_G2 hW.2.2.2.1 hne ((TSW_tD hS hW t).mpr ⟨ht.1, q⟩) (hb q)
  obtain ⟨a, b⟩ := TSW_asg hS hW hd hfd hm (Or.inr ht) hA hR (fun n => by
    rw [hD n]
    refine ⟨fun h => ⟨h, fun z => ?_⟩, fun h => h.1⟩
    have := (tD_fl hW h).1
    rw [z.1] at this
    have := z.2.1
    omega) (fun h0 h1 => by omega) (tD_d0 hW hdD hm)
  exact ⟨a, b, hD⟩
/-- a name is taken away -/
theorem TSW_del {T : Int → Int → Int} {fl L : Int → Int} {B : Int → Int → Int} {Vd Vn : Int → Int} {nx : Int} {S S' : Tr} {d nm : Int} (hS : TSW T fl L B Vd Vn nx S) (hW : WD T fl nx) (hd : d ∈ tNl S) (hfd : fl d = 1) (hm : nmR nm) (h0 : T d nm ≠ 0) (he : fl (T d nm) = 1 → (∀ x, nmR x → T (T d nm) x = 0) ∨ ∃ x y, tD T fl x ∧ nmR y ∧ ¬ (x = d ∧ y = nm) ∧ T x y = T d nm) (hA : asgOK S d nm 0 S') :
    WD (gup T d nm 0) fl nx ∧ TSW (gup T d nm 0) fl L B Vd Vn nx S' := by
  have hdD : tD T fl d := (TSW_tD hS hW d).mpr ⟨hd, hfd⟩
  have hR : RK (gup T d nm 0) (dF (gup T d nm 0) fl) := by
    rw [dF_gup]; exact RK_G4 hW.2.2.2.1
  have o1 : T d nm ≠ 1 := by have := hW.2.2.1 d nm; omega
  have hdo := tD_d0 hW hdD hm
  rcases hW.2.1 (T d nm) with q | q
  · have hne : ¬ dE T (dF T fl) d nm := fun z => by have := dF_e.mp z; omega
    have hD : ∀ n, tD (gup T d nm 0) fl n ↔ tD T fl n := fun n => by
      unfold tD
      rw [dF_gup, if_pos rfl]
      exact G1 hne (Or.inl rfl) n
    refine TSW_asg hS hW hd hfd hm (Or.inl rfl) hA hR (fun n => ?_) (fun _ h1 => by omega) hdo
    rw [hD n]
    refine ⟨fun h => ⟨h, fun z => ?_⟩, fun h => h.1⟩
    have := (tD_fl hW h).1
    rw [z.1] at this
    omega
  · have hE : dE T (dF T fl) d nm := dF_e.mpr ⟨h0, q⟩
    by_cases ho : ∃ x y, thD T (dF T fl) x ∧ nmR y ∧ ¬ (x = d ∧ y = nm) ∧ T x y = T d nm ∧ dE T (dF T fl) x y
    · have hD : ∀ n, tD (gup T d nm 0) fl n ↔ tD T fl n := fun n => by
        unfold tD
        rw [dF_gup]
        exact G4a hW.2.2.2.1 ho n
      have hW' : WD (gup T d nm 0) fl nx := ⟨hW.1, hW.2.1, fun x y => by
        by_cases c : x = d ∧ y = nm
        · rw [c.1, c.2, gup_e]; exact Or.inl rfl
        · rw [gup_n _ _ c]; exact hW.2.2.1 x y, hR, hW.2.2.2.2⟩
      have hl : lkN (gup T d nm 0) fl (T d nm) ≠ 0 := by
        obtain ⟨x, y, x1, x2, x3, x4, -⟩ := ho
        exact (lk_in hW').mpr ⟨x, y, (hD x).mpr x1, x2, by rw [gup_n _ _ x3]; exact x4⟩
      refine TSW_asg hS hW hd hfd hm (Or.inl rfl) hA hR (fun n => ?_) (fun _ _ z => absurd z hl) hdo
      rw [hD n]
      refine ⟨fun h => ⟨h, fun z => ?_⟩, fun h => h.1⟩
      rw [z.1] at z
      exact hl z.2.2
    · have hem : ∀ x, nmR x → T (T d nm) x = 0 := (he q).resolve_right (fun ⟨x, y, x1, x2, x3, x4⟩ => ho ⟨x, y, x1, x2, x3, x4, dF_e.mpr (by rw [x4]; exact ⟨h0, q⟩)⟩)
      have hD : ∀ n, tD (gup T d nm 0) fl n ↔ tD T fl n ∧ n ≠ T d nm := fun n => by
        unfold tD
        rw [dF_gup]
        exact G4b hE ho o1 hem n
      have hl : lkN (gup T d nm 0) fl (T d nm) = 0 := (lk_0 2048).mpr (fun x _ hx y hy e => by
        by_cases c : (x : Int) = d ∧ y = nm
        · rw [c.1, c.2, gup_e] at e; exact h0 e.symm
        · rw [gup_n _ _ c] at e
          exact ho ⟨x, y, ((hD x).mp hx).1, hy, c, e, dF_e.mpr (by rw [e]; exact ⟨h0, q⟩)⟩)
      refine TSW_asg hS hW hd hfd hm (Or.inl rfl) hA hR (fun n => ?_) (fun _ _ _ => hem) hdo
      rw [hD n]
      exact ⟨fun h => ⟨h.1, fun z => h.2 z.1⟩, fun h => ⟨h.1, fun z => h.2 ⟨z, by rw [z]; exact h0, by rw [z]; exact hl⟩⟩⟩
/-- what is not there may be anything -/
theorem TSW_cg {T : Int → Int → Int} {fl L L' : Int → Int} {B B' : Int → Int → Int} {Vd Vn Wd Wn : Int → Int} {nx : Int} {S : Tr} (hS : TSW T fl L B Vd Vn nx S) (h : ∀ n ∈ tNl S, (fl n = 1 → Wn n = Vn n) ∧ (fl n = 0 → L' n = L n ∧ (∀ p, B' n p = B n p) ∧ Wd n = Vd n)) : TSW T fl L' B' Wd Wn nx S := by
  obtain ⟨s1, s2, s3, s4, s5, s6, s7⟩ := hS
  refine ⟨s1, s2, fun d hd hf => ?_, fun f hf hff => ?_, s5, s6, s7⟩
  · obtain ⟨a, b, c, e⟩ := s3 d hd hf
    exact ⟨a, b, c, by rw [(h d hd).1 hf]; exact e⟩
  · obtain ⟨a, b, c, e⟩ := s4 f hf hff
    obtain ⟨x, y, z⟩ := (h f hf).2 hff
    exact ⟨by rw [x]; exact a, fun p p0 p1 => by rw [y]; exact b p p0 p1, c, by rw [z]; exact e⟩
/-- a number that nothing names may be of any sort -/
theorem fl_free {T : Int → Int → Int} {fl gl : Int → Int} {t : Int} (hn : ∀ d nm, T d nm ≠ t) (h : ∀ n, n ≠ t → gl n = fl n) : dF T gl = dF T fl := by
  funext d nm
  unfold dF
  by_cases c : T d nm = 0
  · rw [if_pos c, if_pos c]
  · rw [if_neg c, if_neg c, h _ (hn d nm)]
theorem TSW_fl {T : Int → Int → Int} {fl gl L : Int → Int} {B : Int → Int → Int} {Vd Vn : Int → Int} {nx t : Int} {S : Tr} (hS : TSW T fl L B Vd Vn nx S) (hW : WD T fl nx) (ht : nx ≤ t) (h : ∀ n, n ≠ t → gl n = fl n) (ht2 : gl t = 0 ∨ gl t = 1) : WD T gl nx ∧ TSW T gl L B Vd Vn nx S ∧ t ∉ tNl S := by
  obtain ⟨s1, s2, s3, s4, s5, s6, s7⟩ := hS
  obtain ⟨w1, w2, w3, w4, w5, w6⟩ := hW
  have hn : ∀ d nm, T d nm ≠ t := fun d nm => by have := w3 d nm; omega
  have e := fl_free hn h
  have hin : ∀ n, inE T gl n ↔ inE T fl n := fun n => by unfold inE tD; rw [e]
  have htS : t ∉ tNl S := fun z => by
    rcases (s1 t).mp z with q | ⟨-, x, y, -, -, q⟩
    · omega
    · exact hn x y q
  have hne : ∀ n ∈ tNl S, gl n = fl n := fun n hn => h n (fun z => htS (by rw [← z]; exact hn))
  refine ⟨⟨by rw [h 1 (by omega)]; exact w1, fun n => ?_, w3, by rw [e]; exact w4, w5, w6⟩, ⟨fun n => by rw [hin]; exact s1 n, fun n hn => by rw [hne n hn]; exact s2 n hn, fun d hd hf => s3 d hd (by rw [← hne d hd]; exact hf), fun f hf hff => s4 f hf (by rw [← hne f hf]; exact hff), fun n hn => by unfold lkN; rw [e]; exact s5 n hn, s6, s7⟩, htS⟩
  by_cases c : n = t
  · rw [c]; exact ht2
  · rw [h n c]; exact w2 n
/-- a new file or directory is named -/
theorem TSW_new {T : Int → Int → Int} {fl L : Int → Int} {B : Int → Int → Int} {Vd Vn : Int → Int} {nx : Int} {S S1 S' : Tr} {d nm v : Int} (hS : TSW T fl L B Vd Vn nx S) (hW : WD T fl nx) (hd : d ∈ tNl S) (hfd : fl d = 1) (hm : nmR nm) (ho : T d nm = 0) (hx : nx < 2000)
    (h1 : tNx S1 = nx + 1) (h2 : ∀ n, n ∈ tNl S1 ↔ n ∈ tNl S ∨ n = nx) (h3 : ∀ n k, tFd S1 n k = if n = nx then (if k = 2 then fl nx else if k = 3 then v else 0) else tFd S n k) (h4 : ∀ n j, tCl S1 n j = if n = nx then 0 else tCl S n j)
    (hA : asgOK S1 d nm nx S') (hv : fl nx = 1 → Vn nx = v) (hv0 : fl nx = 0 → L nx = 0 ∧ (∀ p, B nx p = 0) ∧ Vd nx = v) :
    WD (gup T d nm nx) fl (nx + 1) ∧ TSW (gup T d nm nx) fl L B Vd Vn (nx + 1) S' ∧ ∀ n, tD (gup T d nm nx) fl n ↔ tD T fl n ∨ (n = nx ∧ fl nx = 1) := by
  obtain ⟨s1, s2, s3, s4, s5, s6, s7⟩ := id hS
  obtain ⟨w1, w2, w3, w4, w5, w6⟩ := id hW
  obtain ⟨a1, a2, a3, a4⟩ := hA
  have hdD : tD T fl d := (TSW_tD hS hW d).mpr ⟨hd, hfd⟩
  have hdb := tD_b hW hdD
  have hti : ∀ x y, T x y ≠ nx := fun x y => by have := w3 x y; omega
  have hte : ∀ y, T nx y = 0 := fun y => by have := w3 nx y; omega
  have hne : ¬ dE T (dF T fl) d nm := fun z => by have := dF_e.mp z; omega
  have tS : nx ∉ tNl S := fun z => by
    rcases (s1 nx).mp z with q | ⟨-, x, y, -, -, q⟩
    · omega
    · exact hti x y q
  have dne : d ≠ nx := by omega
  have oc : tCl S1 d nm = 0 := by rw [h4, if_neg dne, (s3 d hd hfd).1 nm hm, ho]
  have n0S : (0 : Int) ∉ tNl S := fun z => by rcases (s1 0).mp z with q | q; omega; exact q.1 rfl
  have n0S1 : (0 : Int) ∉ tNl S1 := fun z => by rcases (h2 0).mp z with q | q; exact n0S q; omega
  rw [oc] at a2 a3
  have hD : ∀ n, tD (gup T d nm nx) fl n ↔ tD T fl n ∨ (n = nx ∧ fl nx = 1) := fun n => by
    unfold tD
    rw [dF_gup, if_neg (show ¬ nx = 0 by omega)]
    rcases w2 nx with q | q
    · rw [G1 hne (Or.inr (by rw [q]; decide)) n]
      exact ⟨Or.inl, fun z => z.resolve_right (fun z => by omega)⟩
    · rw [q, G3 hne hdD hm (by omega) (fun y _ => hte y) (fun z => dne z.symm) n]
      exact ⟨fun z => z.imp id (fun z => ⟨z, rfl⟩), fun z => z.imp id (fun z => z.1)⟩
  have hR : RK (gup T d nm nx) (dF (gup T d nm nx) fl) := by
    rw [dF_gup, if_neg (show ¬ nx = 0 by omega)]
    rcases w2 nx with q | q
    · exact RK_G1 w4 hne (Or.inr (by rw [q]; decide))
    · rw [q]; exact RK_G3 w4 hne hdD hm (by omega) (fun y _ => hte y) (fun z => dne z.symm) hti
  have hW' : WD (gup T d nm nx) fl (nx + 1) := ⟨w1, w2, fun x y => by
    by_cases c : x = d ∧ y = nm
    · rw [c.1, c.2, gup_e]; omega
    · rw [gup_n _ _ c]; have := w3 x y; omega, hR, by omega, by omega⟩
  have hdD' : tD (gup T d nm nx) fl d := (hD d).mpr (Or.inl hdD)
  have hlk : ∀ n, n ≠ 0 → lkN (gup T d nm nx) fl n = lkN T fl n + if nx = n then 1 else 0 := fun n hn => by
    have e := dF_gup T fl d nm nx
    unfold lkN
    unfold tD at hD hdD'
    rw [e] at hD hdD' ⊢
    have := lk_upd (t := nx) (f := if nx = 0 then 0 else fl nx) (n := n) hm hdD hdD' 2048 (by omega) (by omega) (fun x hx hxd => ⟨fun p q => ?_, fun p q => absurd ((hD x).mpr (Or.inl p)) q⟩)
    · have hn0 : ¬ (0 : Int) = n := fun z => hn z.symm
      rw [ho, if_neg hn0] at this; omega
    · have := ((hD x).mp p).resolve_left q
      rw [this.1]
      exact (ceq_0 99).mpr (fun i i0 i1 z => hn (by rw [hte i] at z; exact z.symm))
  have l0 : lkN T fl nx = 0 := (lk_0 2048).mpr (fun x _ _ y _ => hti x y)
  have f4 : ∀ n ∈ tNl S1, tFd S' n 4 = (lkN (gup T d nm nx) fl n : Nat) := fun n hn => by
    have n0 : n ≠ 0 := fun z => n0S1 (by rw [← z]; exact hn)
    rw [a3, if_pos rfl, hlk n n0, h3, if_neg (show ¬ (n = 0 ∧ n ∈ tNl S1) from fun z => n0 z.1)]
    by_cases c : n = nx
    · rw [c, if_pos rfl, if_neg (by omega), if_neg (by omega), if_pos ⟨by omega, rfl⟩, l0, if_pos rfl]; rfl
    · rw [if_neg c, if_neg (fun z => c z.2), if_neg (fun z => c z.symm), s5 n (((h2 n).mp hn).resolve_right c)]; omega
  have mem' : ∀ n, n ∈ tNl S' ↔ n ∈ tNl S ∨ n = nx := fun n => by
    rw [a2, h2]
    refine ⟨fun z => z.1, fun z => ⟨z, fun q => ?_⟩⟩
    rw [q.1] at z
    rcases z with z | z
    · exact n0S z
    · omega
  have fo : ∀ n k, n ≠ nx → k ≠ 4 → k ≠ 5 → tFd S' n k = tFd S n k := fun n k hn k4 k5 => by rw [a3, h3, if_neg hn, if_neg k4, if_neg (fun z => k5 z.1)]; omega
  have fx : ∀ k, k ≠ 4 → tFd S' nx k = if k = 2 then fl nx else if k = 3 then v else 0 := fun k k4 => by
    have e5 : ¬ (k = 5 ∧ nx = d) := fun z => dne z.2.symm
    rw [a3, h3, if_pos rfl, if_neg k4, if_neg e5]; omega
  refine ⟨hW', ⟨fun n => ?_, fun n hn => ?_, fun x hx hfx => ?_, fun f hf hff => ?_, fun n hn => f4 n ((h2 n).mpr ((mem' n).mp hn)), by rw [a1, h1], fun n hn j j0 j1 => ?_⟩, hD⟩
  · rw [mem' n, s1 n]
    by_cases e0 : n = 0
    · exact ⟨fun z => by omega, fun z => by omega⟩
    · have l1 := lk_in hW (n := n)
      have l2 := lk_in hW' (n := n)
      have l3 := hlk n e0
      rw [← l1, ← l2]
      by_cases c : nx = n
      · rw [if_pos c] at l3; omega
      · rw [if_neg c] at l3; omega
  · by_cases c : n = nx
    · rw [c, fx 2 (by omega), if_pos rfl]
    · rw [fo n 2 c (by omega) (by omega)]; exact s2 n (((mem' n).mp hn).resolve_right c)
  · by_cases c : x = nx
    · subst c
      have ge : ∀ y, gup T d nm x x y = 0 := fun y => by rw [gup_n _ _ (fun z => dne z.1.symm)]; exact hte y
      refine ⟨fun y hy => by rw [a4, if_neg (fun z => dne z.1.symm), h4, if_pos rfl, ge], ?_, by rw [fx 6 (by omega), if_neg (by omega), if_neg (by omega)], by rw [fx 3 (by omega), if_neg (by omega), if_pos rfl, hv hfx]⟩
      rw [fx 5 (by omega), if_neg (by omega), if_neg (by omega)]
      have : ∀ k : Nat, cntN (gup T d nm x x) k = 0 := fun k => by
        induction k with
        | zero => rfl
        | succ k ih => rw [cntN_s, ih, if_neg (fun z => z (ge _))]; omega
      exact (this 99).symm
    · have hxS := ((mem' x).mp hx).resolve_right c
      obtain ⟨p1, p2, p3, p4⟩ := s3 x hxS hfx
      refine ⟨fun y hy => ?_, ?_, by rw [fo x 6 c (by omega) (by omega)]; exact p3, by rw [fo x 3 c (by omega) (by omega)]; exact p4⟩
      · rw [a4, h4, if_neg c]
        unfold gup
        split
        · rfl
        · exact p1 y hy
      · rw [a3, h3, if_neg c, if_neg (by omega), p2, if_neg n0S1, if_pos (show nx ≠ 0 by omega)]
        by_cases c : x = d
        · have cu := cntN_upd (f := T d) (g := gup T d nm nx d) (a := nm) 99 hm.1 hm.2 (fun i hi => gup_n _ _ (fun q => hi q.2))
          rw [gup_e, ho, if_neg (fun z => z rfl), if_pos (show nx ≠ 0 by omega)] at cu
          rw [c, if_pos ⟨rfl, rfl⟩]; omega
        · have : gup T d nm nx x = T x := funext (fun y => gup_n _ _ (fun q => c q.1))
          rw [this, if_neg (fun z => c z.2)]; omega
  · by_cases c : f = nx
    · subst c
      obtain ⟨z1, z2, z3⟩ := hv0 hff
      refine ⟨by rw [fx 6 (by omega), if_neg (by omega), if_neg (by omega), z1], fun p p0 p1 => by rw [a4, if_neg (fun z => dne z.1.symm), h4, if_pos rfl, z2], by rw [fx 5 (by omega), if_neg (by omega), if_neg (by omega)], by rw [fx 3 (by omega), if_neg (by omega), if_pos rfl, z3]⟩
    · have hfS := ((mem' f).mp hf).resolve_right c
      obtain ⟨p1, p2, p3, p4⟩ := s4 f hfS hff
      have fd : f ≠ d := fun e => by rw [e] at hff; omega
      refine ⟨by rw [fo f 6 c (by omega) (by omega)]; exact p1, fun p p0 p1 => by rw [a4, if_neg (fun q => fd q.1), h4, if_neg c]; exact p2 p p0 p1, ?_, by rw [fo f 3 c (by omega) (by omega)]; exact p4⟩
      rw [a3, h3, if_neg c, if_neg (by omega), if_neg (fun z => fd z.2), p3]; rfl
  · rw [a4]
    split
    · omega
    · rw [h4]
      split
      · omega
      · rename_i c
        exact s7 n (((mem' n).mp hn).resolve_right c) j j0 j1
/-- a directory's version -/
theorem TSW_ver {T : Int → Int → Int} {fl L : Int → Int} {B : Int → Int → Int} {Vd Vn : Int → Int} {nx : Int} {S : Tr} {d : Int} (hS : TSW T fl L B Vd Vn nx S) (hd : d ∈ tNl S) (hfd : fl d = 1) : TSW T fl L B Vd (fun n => if n = d then Vn d + 1 else Vn n) nx (tSetF S d 3 (tFd S d 3 + 1)) := by
  obtain ⟨s1, s2, s3, s4, s5, s6, s7⟩ := hS
  have fo : ∀ n k, ¬ (n = d ∧ k = 3) → tFd (tSetF S d 3 (tFd S d 3 + 1)) n k = tFd S n k := fun n k h => if_neg h
  have f3 : tFd (tSetF S d 3 (tFd S d 3 + 1)) d 3 = tFd S d 3 + 1 := if_pos ⟨rfl, rfl⟩
  refine ⟨s1, fun n hn => by rw [fo n 2 (by omega)]; exact s2 n hn, fun x hx hf => ?_, fun f hf hff => ?_, fun n hn => by rw [fo n 4 (by omega)]; exact s5 n hn, s6, s7⟩
  · obtain ⟨p1, p2, p3, p4⟩ := s3 x hx hf
    refine ⟨p1, by rw [fo x 5 (by omega)]; exact p2, by rw [fo x 6 (by omega)]; exact p3, ?_⟩
    show _ = if x = d then Vn d + 1 else Vn x
    by_cases c : x = d
    · subst c; rw [if_pos rfl, f3, p4]
    · rw [if_neg c, fo x 3 (fun z => c z.1)]; exact p4
  · obtain ⟨p1, p2, p3, p4⟩ := s4 f hf hff
    have fd : f ≠ d := fun e => by rw [e] at hff; omega
    exact ⟨by rw [fo f 6 (by omega)]; exact p1, p2, by rw [fo f 5 (by omega)]; exact p3, by rw [fo f 3 (fun z => fd z.1)]; exact p4⟩
theorem iAnd_b (x : Int) : 0 ≤ iAnd x 255 ∧ iAnd x 255 ≤ 255 := by
  unfold iAnd
  have e : (Int32.ofInt x &&& Int32.ofInt 255).toBitVec = (Int32.ofInt x).toBitVec &&& 255#32 := rfl
  have h : ((Int32.ofInt x &&& Int32.ofInt 255).toBitVec).toNat ≤ 255 := by
    rw [e, BitVec.toNat_and]; exact Nat.and_le_right
  have h2 : (Int32.ofInt x &&& Int32.ofInt 255).toInt = (Int32.ofInt x &&& Int32.ofInt 255).toBitVec.toInt := rfl
  rw [h2, BitVec.toInt_eq_toNat_cond]
  split <;> omega
theorem sByt_b (s : Int → Int) (p : Int) : 0 ≤ sByt s p ∧ sByt s p ≤ 255 := by
  unfold sByt
  split
  · exact iAnd_b _
  · omega
/-- a file's content -/
theorem TSW_lay {T : Int → Int → Int} {fl L : Int → Int} {B : Int → Int → Int} {Vd Vn : Int → Int} {nx : Int} {S : Tr} {f : Int} {s : Int → Int} (hS : TSW T fl L B Vd Vn nx S) (hf : f ∈ tNl S) (hff : fl f = 0) (hs : s 0 = 1) : TSW T fl (fun x => if x = f then s 9 else L x) (fun x p => if x = f ∧ sSet s p then sByt s p else B x p) (fun n => if n = f then s 4 else Vd n) Vn nx (tLayS s f S) := by
  obtain ⟨s1, s2, s3, s4, s5, s6, s7⟩ := hS
  have fo : ∀ n k, ¬ (n = f ∧ k = 6) → ¬ (n = f ∧ k = 3) → tFd (tLayS s f S) n k = tFd S n k := fun n k h h2 => (if_neg h).trans (if_neg h2)
  have f6 : tFd (tLayS s f S) f 6 = s 9 := if_pos ⟨rfl, rfl⟩
  have f3 : tFd (tLayS s f S) f 3 = s 4 := (if_neg (by omega)).trans (if_pos ⟨rfl, rfl⟩)
  have fc : ∀ n p, tCl (tLayS s f S) n p = if n = f ∧ p < 64 ∧ sSet s p then sByt s p else tCl S n p := fun n p => rfl
  refine ⟨s1, fun n hn => by rw [fo n 2 (by omega) (by omega)]; exact s2 n hn, fun x hx hfx => ?_, fun x hx hfx => ?_, fun n hn => by rw [fo n 4 (by omega) (by omega)]; exact s5 n hn, s6, fun n hn j j0 j1 => ?_⟩
  · obtain ⟨p1, p2, p3, p4⟩ := s3 x hx hfx
    have xf : x ≠ f := fun e => by rw [e] at hfx; omega
    exact ⟨fun y hy => by rw [fc, if_neg (fun z => xf z.1)]; exact p1 y hy, by rw [fo x 5 (by omega) (by omega)]; exact p2, by rw [fo x 6 (fun z => xf z.1) (by omega)]; exact p3, by rw [fo x 3 (by omega) (fun z => xf z.1)]; exact p4⟩
  · obtain ⟨p1, p2, p3, p4⟩ := s4 x hx hfx
    by_cases c : x = f
    · subst c
      refine ⟨f6.trans (if_pos rfl).symm, fun p p0 p1 => ?_, by rw [fo x 5 (by omega) (by omega)]; exact p3, f3.trans (if_pos rfl).symm⟩
      show _ = if x = x ∧ sSet s p then sByt s p else B x p
      rw [fc]
      by_cases q : sSet s p
      · rw [if_pos ⟨rfl, p1, q⟩, if_pos ⟨rfl, q⟩]
      · rw [if_neg (fun z => q z.2.2), if_neg (fun z => q z.2)]; exact p2 p p0 p1
    · exact ⟨(fo x 6 (fun z => c z.1) (by omega)).trans (p1.trans (if_neg c).symm), fun p p0 p1 => by
        show _ = if x = f ∧ sSet s p then sByt s p else B x p
        rw [fc, if_neg (fun z => c z.1), if_neg (fun z => c z.1)]; exact p2 p p0 p1, by rw [fo x 5 (by omega) (by omega)]; exact p3, (fo x 3 (by omega) (fun z => c z.1)).trans (p4.trans (if_neg c).symm)⟩
  · rw [fc]
    split
    · have := sByt_b s j; omega
    · exact s7 n hn j j0 j1
