/-! ### what each act leaves told -/
/-- one name more, or less -/
def tN (F F' : Fl) (d nm t k : Int) : Prop := TG F' = gup (TG F) d nm t ∧ TD F' = gup (TD F) d nm k ∧ LN F' = LN F ∧ BY F' = BY F
/-- the blocks are good -/
abbrev VZ (F : Fl) : Prop := VI F ∧ ZI F
abbrev drk (F F' : Fl) : Prop := (fD F' = 1 ∧ fL F' = -1) ∧ EQ F F'
theorem same_EQ {F F' : Fl} (h : sameR F F') : EQ F F' := EQ_of (same_told h)
theorem put_nm {A : AS} {fl : Int → Int} {nb vb d nm t k : Int} (h : IP A fl nb vb) (hV : VI (aF A)) (hv : vb + 1 ≤ 4000) (hn : nb ≤ 2000) (hd : 1 ≤ d ∧ d < aX A) (hm : nmR nm) (ht : t = 0 ∨ (2 ≤ t ∧ t ≤ 2000)) (hk : k = 0 ∨ k = 1) (h0 : t = 0 → k = 0) (hfr : ¬ ((aG A).1 ≠ -1 ∧ fU (aF A) (aG A).1 + 3 + fC (aF A) (aG A).1 + 2 ≤ 40) → (aG A).2.1 ≠ []) {R : Fl × Lg × Bool} (hR : R = lPut (aF A) (aG A) (nmSrc d (aN A d + 1) nm t k)) :
    VZ R.1 ∧ (R.2.2 = true → fD R.1 = 0 ∧ tN (aF A) R.1 d nm t k) ∧ (R.2.2 = false → (fD R.1 = 1 ∧ fL R.1 = -1) ∧ sameR (aF A) R.1) := by
  obtain ⟨h1, h2, h3, h4, h5, h6, h7, h8, h9, h10⟩ := id h
  have hb := h9 d
  obtain ⟨e0, e1, e3, e4, e5, e6, e7, e8, e9, e10, e11⟩ := nmSrc_f d (aN A d + 1) nm t k
  have hs : sOK (nmSrc d (aN A d + 1) nm t k) := nmSrc_ok (by omega) (by omega) hm ht hk h0
  obtain ⟨p1, p2, p3, p4⟩ := put_ok h2 h4 hs (by rw [e1]; exact hfr)
  have pv := VI_put h2 h4 hs (by rw [e1]; exact hfr) hV
  have hS := PA_NS h2
  rw [← hR] at p1 p2 p3 p4 pv
  generalize nmSrc d (aN A d + 1) nm t k = s at e0 e1 e3 e4 e5 e6 e7 e8 e9 e10 e11 hs p1 p2 p3 p4
  have hnv : newV (aF A) s := sOK_new h5 (Or.inr ⟨e0, by rw [e3, e4]; omega⟩)
  refine ⟨pv, fun hr => ?_, fun hr => ?_⟩
  · obtain ⟨q1, q2, q3, ⟨i, i0, i1, q4, -⟩, q5⟩ := p3 hr
    obtain ⟨t1, t2, t3⟩ := add_told i0 i1 q4 hs hS hnv
    refine ⟨q2.trans h1, ?_, ?_, funext (fun f => by rw [t2 f, if_neg (fun z => by omega)]), funext (fun f => funext (fun p => by rw [t3 f p, if_neg (fun z => by omega)]))⟩
    · funext x y
      rw [(t1 x y).1, e0, e3, e5, e10]
      unfold gup
      by_cases c : x = d ∧ y = nm
      · rw [if_pos ⟨rfl, c⟩, if_pos c]
      · rw [if_neg (fun z => c z.2), if_neg c]
    · funext x y
      rw [(t1 x y).2, e0, e3, e5, e11]
      unfold gup
      by_cases c : x = d ∧ y = nm
      · rw [if_pos ⟨rfl, c⟩, if_pos c]
      · rw [if_neg (fun z => c z.2), if_neg c]
  · obtain ⟨q1, q2, q3⟩ := p4 hr
    exact ⟨⟨q1, q2⟩, q3⟩
theorem put_dt {A : AS} {fl : Int → Int} {nb vb f o z b n : Int} (h : IP A fl nb vb) (hV : VI (aF A)) (hv : vb + 1 ≤ 4000) (hn : nb + 1 ≤ 2000) (hf : 2 ≤ f ∧ f ≤ aX A) (ho : 0 ≤ o ∧ o ≤ 63) (hnn : 0 ≤ n ∧ n ≤ 8) (hz : o + n ≤ z ∧ z ≤ 64) (hfr : ¬ ((aG A).1 ≠ -1 ∧ fU (aF A) (aG A).1 + (2 + n) + fC (aF A) (aG A).1 + 2 ≤ 40) → (aG A).2.1 ≠ []) {R : Fl × Lg × Bool} (hR : R = lPut (aF A) (aG A) (dbSrc f (aD A f + 1) o z b n)) :
    VZ R.1 ∧ (R.2.2 = true → fD R.1 = 0 ∧ TG R.1 = TG (aF A) ∧ TD R.1 = TD (aF A) ∧ LN R.1 = (fun x => if x = f then z else LN (aF A) x) ∧ BY R.1 = (fun x p => if x = f ∧ sSet (dbSrc f (aD A f + 1) o z b n) p then sByt (dbSrc f (aD A f + 1) o z b n) p else BY (aF A) x p)) ∧ (R.2.2 = false → (fD R.1 = 1 ∧ fL R.1 = -1) ∧ sameR (aF A) R.1) := by
  obtain ⟨h1, h2, h3, h4, h5, h6, h7, h8, h9, h10⟩ := id h
  have hb := h9 f
  obtain ⟨e0, e1, e3, e4, e5, e6, e7, e8, e9, e10, e11⟩ := dbSrc_f f (aD A f + 1) o z b n
  have hs : sOK (dbSrc f (aD A f + 1) o z b n) := dbSrc_ok (by omega) (by omega) ho hnn hz
  obtain ⟨p1, p2, p3, p4⟩ := put_ok h2 h4 hs (by rw [e1]; exact hfr)
  have pv := VI_put h2 h4 hs (by rw [e1]; exact hfr) hV
  have hS := PA_NS h2
  rw [← hR] at p1 p2 p3 p4 pv
  generalize dbSrc f (aD A f + 1) o z b n = s at e0 e1 e3 e4 e5 e6 e7 e8 e9 e10 e11 hs p1 p2 p3 p4 ⊢
  have hnv : newV (aF A) s := sOK_new h5 (Or.inl ⟨e0, by rw [e3, e4]; omega⟩)
  refine ⟨pv, fun hr => ?_, fun hr => ?_⟩
  · obtain ⟨q1, q2, q3, ⟨i, i0, i1, q4, -⟩, q5⟩ := p3 hr
    obtain ⟨t1, t2, t3⟩ := add_told i0 i1 q4 hs hS hnv
    refine ⟨q2.trans h1, funext (fun x => funext (fun y => by rw [(t1 x y).1, if_neg (fun q => by omega)])), funext (fun x => funext (fun y => by rw [(t1 x y).2, if_neg (fun q => by omega)])), funext (fun x => ?_), funext (fun x => funext (fun p => ?_))⟩
    · rw [t2 x, e3, e9]
      by_cases c : x = f
      · rw [if_pos ⟨e0, c⟩, if_pos c]
      · rw [if_neg (fun q => c q.2), if_neg c]
    · rw [t3 x p, e3]
      by_cases c : x = f ∧ sSet s p
      · rw [if_pos ⟨e0, c⟩, if_pos c]
      · rw [if_neg (fun q => c q.2), if_neg c]
  · obtain ⟨q1, q2, q3⟩ := p4 hr
    exact ⟨⟨q1, q2⟩, q3⟩
theorem dr_b {A : AS} {fl : Int → Int} {nb vb d : Int} (hP : IP A fl nb vb) (hd : isDr A d) : 1 ≤ d ∧ d < aX A := by
  have e := flOK_TD (PA_NS hP.2.1) hP.2.2.2.2.2.1
  unfold isDr at hd
  rw [e] at hd
  exact tD_b hP.2.2.2.2.2.2.1 hd
/-- a fresh file's first node tells nothing yet -/
theorem new_dt {A : AS} {fl : Int → Int} {nb vb : Int} {R : Fl} (hP : IP A fl nb vb) (e2 : LN R = fun x => if x = aX A then 0 else LN (aF A) x) (e3 : BY R = fun x p => if x = aX A ∧ sSet (dbSrc (aX A) (aD A (aX A) + 1) 0 0 0 0) p then sByt (dbSrc (aX A) (aD A (aX A) + 1) 0 0 0 0) p else BY (aF A) x p) : LN R = LN (aF A) ∧ BY R = BY (aF A) := by
  obtain ⟨n1, n2⟩ := LN_new hP.2.2.2.2.1 (Int.le_refl (aX A))
  refine ⟨funext (fun x => ?_), funext (fun x => funext (fun p => ?_))⟩
  · rw [e2]
    show (if x = aX A then 0 else LN (aF A) x) = _
    split
    · rename_i c; rw [c, n1]
    · rfl
  · rw [e3]
    show (if x = aX A ∧ sSet (dbSrc (aX A) (aD A (aX A) + 1) 0 0 0 0) p then sByt (dbSrc (aX A) (aD A (aX A) + 1) 0 0 0 0) p else BY (aF A) x p) = _
    split
    · rename_i c
      rw [c.1, n2]
      unfold sByt
      obtain ⟨-, -, -, -, q5, q6, -⟩ := dbSrc_f (aX A) (aD A (aX A) + 1) 0 0 0 0
      rw [q5, q6, if_neg (by omega)]
    · rfl
theorem nDk {A : AS} {fl : Int → Int} {nb vb : Int} (hP : IP A fl nb vb) : ¬ dk A := fun z => by have := hP.1; omega
abbrev few (A : AS) : Prop := (aG A).2.1.length < 2
theorem pa_create {A : AS} {fl : Int → Int} {nb vb d nm : Int} (hP : IP A fl nb vb) (hV : VI (aF A)) (hd : isDr A d) (hm : nmR nm) (h0 : TG (aF A) d nm = 0) (hn : nb + 1 ≤ 2000) (hv : vb + 2 ≤ 4000) :
    ((actCreate A d nm).1 = .inr xS ∧ (actCreate A d nm).2 = A ∧ few A) ∨ ((actCreate A d nm).1 = .inl (-9) ∧ drk (aF A) (aF (actCreate A d nm).2) ∧ VZ (aF (actCreate A d nm).2)) ∨ ((actCreate A d nm).1 = .inl (aX A) ∧ fD (aF (actCreate A d nm).2) = 0 ∧ VZ (aF (actCreate A d nm).2) ∧ tN (aF A) (aF (actCreate A d nm).2) d nm (aX A) 0) := by
  have hdb := dr_b hP hd
  have hx := hP.2.2.2.2.2.2.2.1
  unfold actCreate
  rw [pI_0 (nDk hP), pI_0 (fun z => z hd), pI_0 (fun z => z hm), pI_0 (fun z => z h0)]
  by_cases c : rmA A [2, 3] 1
  · rw [pI_0 (fun z => z c)]
    obtain ⟨⟨s1, hs1, hus⟩, hfr1⟩ := tr_fr (by omega) (by omega) c
    have D := put_dt (f := aX A) (o := 0) (z := 0) (b := 0) (n := 0) hP hV (by omega) (by omega) (by omega) (by omega) (by omega) (by omega) hfr1 rfl
    have DI := IP_data (nb := nb + 1) (nx' := aX A + 1) (f := aX A) (o := 0) (z := 0) (b := 0) (n := 0) (IP_mono hP (by omega) (Int.le_refl vb)) (by omega) (by omega) (by omega) (by omega) (by omega) (by omega) (by omega) hfr1 rfl
    unfold actCreate1
    generalize lPut (aF A) (aG A) (dbSrc (aX A) (aD A (aX A) + 1) 0 0 0 0) = P at D DI ⊢
    obtain ⟨dv, dt, df⟩ := D
    by_cases r1 : P.2.2 = false
    · rw [if_pos r1]
      obtain ⟨q1, q2⟩ := df r1
      exact Or.inr (Or.inl ⟨rfl, ⟨q1, same_EQ q2⟩, dv⟩)
    · rw [if_neg r1]
      have r1' : P.2.2 = true := by simpa using r1
      obtain ⟨a1, a2, a3, a4, a5⟩ := dt r1'
      obtain ⟨D1, D2, D3, D4, D5⟩ := DI.1 r1'
      obtain ⟨b1, b2⟩ := new_dt hP a4 a5
      have hus2 := (D5 3 [] 1 s1 hs1).mp hus
      obtain ⟨-, hfr2⟩ := tr_fr (by omega) (by omega) hus2
      have N := put_nm (A := (P.1, P.2.1, aX A + 1, bump (aD A) (aX A), aN A)) (d := d) (nm := nm) (t := aX A) (k := 0) D1 dv.1 (by omega) (by omega) (by show 1 ≤ d ∧ d < aX A + 1; omega) hm (by omega) (Or.inl rfl) (fun _ => rfl) hfr2 rfl
      generalize lPut P.1 P.2.1 (nmSrc d (aN A d + 1) nm (aX A) 0) = R at N ⊢
      obtain ⟨nv, nt, nf⟩ := N
      have hE : sameT (aF A) P.1 := ⟨fun x y => by rw [a2, a3]; exact ⟨rfl, rfl⟩, fun f => by rw [b1], fun f p => by rw [b2]⟩
      by_cases r2 : R.2.2 = false
      · rw [if_pos r2]
        obtain ⟨q1, q2⟩ := nf r2
        exact Or.inr (Or.inl ⟨rfl, ⟨q1, EQ_trans (EQ_of hE) (same_EQ q2)⟩, nv⟩)
      · rw [if_neg r2]
        obtain ⟨q1, q2, q3, q4, q5⟩ := nt (by simpa using r2)
        exact Or.inr (Or.inr ⟨rfl, q1, nv, by show TG R.1 = _; rw [q2, show TG (aF (P.1, P.2.1, aX A + 1, bump (aD A) (aX A), aN A)) = TG P.1 from rfl, a2], by show TD R.1 = _; rw [q3, show TD (aF (P.1, P.2.1, aX A + 1, bump (aD A) (aX A), aN A)) = TD P.1 from rfl, a3], q4.trans b1, q5.trans b2⟩)
  · rw [pI_1 c]
    refine Or.inl ⟨rfl, rfl, ?_⟩
    have := mt (rm_ok (A := A) [2, 3] (by decide) (by decide)) c
    show (aG A).2.1.length < 2; omega
theorem pa_mkdir {A : AS} {fl : Int → Int} {nb vb d nm : Int} (hP : IP A fl nb vb) (hV : VI (aF A)) (hd : isDr A d) (hm : nmR nm) (h0 : TG (aF A) d nm = 0) (hn : nb + 1 ≤ 2000) (hv : vb + 2 ≤ 4000) :
    ((actMkdir A d nm).1 = .inr xS ∧ (actMkdir A d nm).2 = A ∧ few A) ∨ ((actMkdir A d nm).1 = .inl (-9) ∧ drk (aF A) (aF (actMkdir A d nm).2) ∧ VZ (aF (actMkdir A d nm).2)) ∨ ((actMkdir A d nm).1 = .inl (aX A) ∧ fD (aF (actMkdir A d nm).2) = 0 ∧ VZ (aF (actMkdir A d nm).2) ∧ tN (aF A) (aF (actMkdir A d nm).2) d nm (aX A) 1) := by
  have hdb := dr_b hP hd
  have hx := hP.2.2.2.2.2.2.2.1
  unfold actMkdir
  rw [pI_0 (nDk hP), pI_0 (fun z => z hd), pI_0 (fun z => z hm), pI_0 (fun z => z h0)]
  by_cases c : rmA A [3] 1
  · rw [pI_0 (fun z => z c)]
    obtain ⟨-, hfr1⟩ := tr_fr (by omega) (by omega) c
    have N := put_nm (d := d) (nm := nm) (t := aX A) (k := 1) hP hV (by omega) (by omega) hdb hm (by omega) (Or.inr rfl) (fun z => by omega) hfr1 rfl
    generalize lPut (aF A) (aG A) (nmSrc d (aN A d + 1) nm (aX A) 1) = R at N ⊢
    obtain ⟨nv, nt, nf⟩ := N
    by_cases r2 : R.2.2 = false
    · rw [if_pos r2]
      obtain ⟨q1, q2⟩ := nf r2
      exact Or.inr (Or.inl ⟨rfl, ⟨q1, same_EQ q2⟩, nv⟩)
    · rw [if_neg r2]
      obtain ⟨q1, q2⟩ := nt (by simpa using r2)
      exact Or.inr (Or.inr ⟨rfl, q1, nv, q2⟩)
  · rw [pI_1 c]
    refine Or.inl ⟨rfl, rfl, ?_⟩
    have := mt (rm_ok (A := A) [3] (by decide) (by decide)) c
    show (aG A).2.1.length < 2; omega
theorem fl_b {A : AS} {fl : Int → Int} {nb vb f : Int} (hP : IP A fl nb vb) (hf : isFl A f) : 2 ≤ f ∧ f < aX A := by
  obtain ⟨d, nm, -, -, e, e0, -⟩ := hf
  have := hP.2.2.2.2.2.2.1.2.2.1 d nm
  omega
theorem pa_link {A : AS} {fl : Int → Int} {nb vb d nm f : Int} (hP : IP A fl nb vb) (hV : VI (aF A)) (hd : isDr A d) (hf : isFl A f) (hm : nmR nm) (h0 : TG (aF A) d nm = 0) (hn : nb + 1 ≤ 2000) (hv : vb + 2 ≤ 4000) :
    ((actLink A d nm f).1 = .inr xS ∧ (actLink A d nm f).2 = A ∧ few A) ∨ ((actLink A d nm f).1 = .inl (-9) ∧ drk (aF A) (aF (actLink A d nm f).2) ∧ VZ (aF (actLink A d nm f).2)) ∨ ((actLink A d nm f).1 = .inl (lkA (actLink A d nm f).2 f) ∧ fD (aF (actLink A d nm f).2) = 0 ∧ VZ (aF (actLink A d nm f).2) ∧ tN (aF A) (aF (actLink A d nm f).2) d nm f 0) := by
  have hdb := dr_b hP hd
  have hfb := fl_b hP hf
  have hx := hP.2.2.2.2.2.2.2.1
  unfold actLink
  rw [pI_0 (nDk hP), pI_0 (fun z => z hd), pI_0 (fun z => z hf), pI_0 (fun z => z hm), pI_0 (fun z => z h0)]
  by_cases c : rmA A [3] 1
  · rw [pI_0 (fun z => z c)]
    obtain ⟨-, hfr1⟩ := tr_fr (by omega) (by omega) c
    have N := put_nm (d := d) (nm := nm) (t := f) (k := 0) hP hV (by omega) (by omega) hdb hm (by omega) (Or.inl rfl) (fun z => rfl) hfr1 rfl
    unfold actLink1
    generalize lPut (aF A) (aG A) (nmSrc d (aN A d + 1) nm f 0) = R at N ⊢
    obtain ⟨nv, nt, nf⟩ := N
    by_cases r2 : R.2.2 = false
    · rw [if_pos r2]
      obtain ⟨q1, q2⟩ := nf r2
      exact Or.inr (Or.inl ⟨rfl, ⟨q1, same_EQ q2⟩, nv⟩)
    · rw [if_neg r2]
      obtain ⟨q1, q2⟩ := nt (by simpa using r2)
      exact Or.inr (Or.inr ⟨rfl, q1, nv, q2⟩)
  · rw [pI_1 c]
    refine Or.inl ⟨rfl, rfl, ?_⟩
    have := mt (rm_ok (A := A) [3] (by decide) (by decide)) c
    show (aG A).2.1.length < 2; omega
theorem pa_unlink {A : AS} {fl : Int → Int} {nb vb d nm : Int} (hP : IP A fl nb vb) (hV : VI (aF A)) (hd : isDr A d) (hm : nmR nm) (h0 : TG (aF A) d nm ≠ 0) (hh : ¬ hasNm A d nm) (hn : nb + 1 ≤ 2000) (hv : vb + 2 ≤ 4000) :
    ((actUnlink A d nm).1 = .inr xS ∧ (actUnlink A d nm).2 = A ∧ few A) ∨ ((actUnlink A d nm).1 = .inl (-9) ∧ drk (aF A) (aF (actUnlink A d nm).2) ∧ VZ (aF (actUnlink A d nm).2)) ∨ ((actUnlink A d nm).1 = .inl (TG (aF A) d nm) ∧ fD (aF (actUnlink A d nm).2) = 0 ∧ VZ (aF (actUnlink A d nm).2) ∧ tN (aF A) (aF (actUnlink A d nm).2) d nm 0 0) := by
  have hdb := dr_b hP hd
  have hx := hP.2.2.2.2.2.2.2.1
  unfold actUnlink
  rw [pI_0 (nDk hP), pI_0 (fun z => z hd), pI_0 (fun z => z hm), pI_0 h0, pI_0 hh]
  by_cases c : rmA A [3] 1
  · rw [pI_0 (fun z => z c)]
    obtain ⟨-, hfr1⟩ := tr_fr (by omega) (by omega) c
    have N := put_nm (d := d) (nm := nm) (t := 0) (k := 0) hP hV (by omega) (by omega) hdb hm (by omega) (Or.inl rfl) (fun z => rfl) hfr1 rfl
    unfold actUnlink1
    generalize lPut (aF A) (aG A) (nmSrc d (aN A d + 1) nm 0 0) = R at N ⊢
    obtain ⟨nv, nt, nf⟩ := N
    by_cases r2 : R.2.2 = false
    · rw [if_pos r2]
      obtain ⟨q1, q2⟩ := nf r2
      exact Or.inr (Or.inl ⟨rfl, ⟨q1, same_EQ q2⟩, nv⟩)
    · rw [if_neg r2]
      obtain ⟨q1, q2⟩ := nt (by simpa using r2)
      exact Or.inr (Or.inr ⟨rfl, q1, nv, q2⟩)
  · rw [pI_1 c]
    refine Or.inl ⟨rfl, rfl, ?_⟩
    have := mt (rm_ok (A := A) [3] (by decide) (by decide)) c
    show (aG A).2.1.length < 2; omega
/-- a content anew -/
def tC (F F' : Fl) (f z : Int) (s : Int → Int) : Prop := TG F' = TG F ∧ TD F' = TD F ∧ LN F' = (fun x => if x = f then z else LN F x) ∧ BY F' = (fun x p => if x = f ∧ sSet s p then sByt s p else BY F x p)
theorem pa_data {A : AS} {fl : Int → Int} {nb vb f o z b n v : Int} (hP : IP A fl nb vb) (hV : VI (aF A)) (hf : isFl A f) (ho : 0 ≤ o ∧ o ≤ 63) (hnn : 0 ≤ n ∧ n ≤ 8) (hz : o + n ≤ z ∧ z ≤ 64) (hn : nb + 1 ≤ 2000) (hv : vb + 2 ≤ 4000) {R : Ans × AS} (hR : R = pI (¬ rmA A [2 + n] 1) (.inr xS, A) (actData1 A f v (lPut (aF A) (aG A) (dbSrc f (aD A f + 1) o z b n)))) :
    (R.1 = .inr xS ∧ R.2 = A ∧ few A) ∨ (R.1 = .inl (-9) ∧ drk (aF A) (aF R.2) ∧ VZ (aF R.2)) ∨ (R.1 = .inl v ∧ fD (aF R.2) = 0 ∧ VZ (aF R.2) ∧ tC (aF A) (aF R.2) f z (dbSrc f (aD A f + 1) o z b n)) := by
  have hfb := fl_b hP hf
  subst hR
  by_cases c : rmA A [2 + n] 1
  · rw [pI_0 (fun z => z c)]
    obtain ⟨-, hfr1⟩ := tr_fr (by omega) (by omega) c
    have D := put_dt (f := f) (o := o) (z := z) (b := b) (n := n) hP hV (by omega) (by omega) (by omega) ho hnn hz hfr1 rfl
    unfold actData1
    generalize lPut (aF A) (aG A) (dbSrc f (aD A f + 1) o z b n) = R at D ⊢
    obtain ⟨nv, nt, nf⟩ := D
    by_cases r2 : R.2.2 = false
    · rw [if_pos r2]
      obtain ⟨q1, q2⟩ := nf r2
      exact Or.inr (Or.inl ⟨rfl, ⟨q1, same_EQ q2⟩, nv⟩)
    · rw [if_neg r2]
      obtain ⟨q1, q2⟩ := nt (by simpa using r2)
      exact Or.inr (Or.inr ⟨rfl, q1, nv, q2⟩)
  · rw [pI_1 c]
    refine Or.inl ⟨rfl, rfl, ?_⟩
    have := mt (rm_ok (A := A) [2 + n] (fun u hu => by rw [List.mem_singleton.mp hu]; omega) (by show 2 + n + 1 + 0 ≤ 38; omega)) c
    show (aG A).2.1.length < 2; omega
theorem pa_write {A : AS} {fl : Int → Int} {nb vb f off b n : Int} (hP : IP A fl nb vb) (hV : VI (aF A)) (hf : isFl A f) (hk : okWr off n) (hn : nb + 1 ≤ 2000) (hv : vb + 2 ≤ 4000) :
    ((actWrite A f off b n).1 = .inr xS ∧ (actWrite A f off b n).2 = A ∧ few A) ∨ ((actWrite A f off b n).1 = .inl (-9) ∧ drk (aF A) (aF (actWrite A f off b n).2) ∧ VZ (aF (actWrite A f off b n).2)) ∨ ((actWrite A f off b n).1 = .inl (max (LN (aF A) f) (off + n)) ∧ fD (aF (actWrite A f off b n).2) = 0 ∧ VZ (aF (actWrite A f off b n).2) ∧ tC (aF A) (aF (actWrite A f off b n).2) f (max (LN (aF A) f) (off + n)) (dbSrc f (aD A f + 1) off (max (LN (aF A) f) (off + n)) b n)) := by
  have hL := LN_b (PA_NS hP.2.1) f
  refine pa_data hP hV hf (by omega) (by omega) (by omega) hn hv ?_
  unfold actWrite
  rw [pI_0 (nDk hP), pI_0 (fun z => z hf), pI_0 (fun z => z hk)]
theorem pa_trunc {A : AS} {fl : Int → Int} {nb vb f z : Int} (hP : IP A fl nb vb) (hV : VI (aF A)) (hf : isFl A f) (hz : 0 ≤ z ∧ z ≤ 64) (hn : nb + 1 ≤ 2000) (hv : vb + 2 ≤ 4000) :
    ((actTrunc A f z).1 = .inr xS ∧ (actTrunc A f z).2 = A ∧ few A) ∨ ((actTrunc A f z).1 = .inl (-9) ∧ drk (aF A) (aF (actTrunc A f z).2) ∧ VZ (aF (actTrunc A f z).2)) ∨ ((actTrunc A f z).1 = .inl (LN (aF A) f) ∧ fD (aF (actTrunc A f z).2) = 0 ∧ VZ (aF (actTrunc A f z).2) ∧ tC (aF A) (aF (actTrunc A f z).2) f z (dbSrc f (aD A f + 1) 0 z 0 0)) := by
  refine pa_data (n := 0) (o := 0) (b := 0) hP hV hf (by omega) (by omega) (by omega) hn hv ?_
  unfold actTrunc
  rw [pI_0 (nDk hP), pI_0 (fun z => z hf), pI_0 (fun y => y hz)]
  rfl
/-- a name moved: with its first node alone both names are there -/
theorem pa_rename {A : AS} {fl : Int → Int} {nb vb d nm d2 nm2 : Int} {S : Tr} (hP : IP A fl nb vb) (hS : TSA A fl S) (hV : VI (aF A)) (hd : isDr A d) (hd2 : isDr A d2) (hm : nmR nm) (hm2 : nmR nm2) (h0 : TG (aF A) d nm ≠ 0) (hb : ¬ badR A d nm d2 nm2) (hn : nb + 1 ≤ 2000) (hv : vb + 2 ≤ 4000) :
    ((actRename A d nm d2 nm2).1 = .inr xS ∧ (actRename A d nm d2 nm2).2 = A ∧ few A) ∨ ((actRename A d nm d2 nm2).1 = .inl (-9) ∧ VZ (aF (actRename A d nm d2 nm2).2) ∧ (drk (aF A) (aF (actRename A d nm d2 nm2).2) ∨ ∃ Fm, RK (TG Fm) (TD Fm) ∧ tN (aF A) Fm d2 nm2 (TG (aF A) d nm) (TD (aF A) d nm) ∧ drk Fm (aF (actRename A d nm d2 nm2).2))) ∨ ((actRename A d nm d2 nm2).1 = .inl (TG (aF A) d nm) ∧ fD (aF (actRename A d nm d2 nm2).2) = 0 ∧ VZ (aF (actRename A d nm d2 nm2).2) ∧ ∃ Fm, RK (TG Fm) (TD Fm) ∧ tN (aF A) Fm d2 nm2 (TG (aF A) d nm) (TD (aF A) d nm) ∧ tN Fm (aF (actRename A d nm d2 nm2).2) d nm 0 0) := by
  obtain ⟨h1, h2, h3, h4, h5, h6, h7, h8, h9, h10⟩ := id hP
  have e := flOK_TD (PA_NS h2) h6
  have hTD : TD (aF A) d nm = fl (TG (aF A) d nm) := by rw [e]; unfold dF; rw [if_neg h0]
  have hdb := dr_b hP hd
  have hd2b := dr_b hP hd2
  have hob := h7.2.2.1 d nm
  have hd2s := (isDr_iff hP hS d2).mp hd2
  have hds := (isDr_iff hP hS d).mp hd
  unfold actRename
  rw [pI_0 (nDk hP), pI_0 (fun z => z hd), pI_0 (fun z => z hd2), pI_0 (fun z => z hm), pI_0 (fun z => z hm2), pI_0 h0, pI_0 hb]
  by_cases c : rmA A [3, 3] 1
  · rw [pI_0 (fun z => z c)]
    obtain ⟨⟨s1, hs1, hus⟩, hfr1⟩ := tr_fr (by omega) (by omega) c
    have hk01 := h7.2.1 (TG (aF A) d nm)
    have N := put_nm (d := d2) (nm := nm2) (t := TG (aF A) d nm) (k := TD (aF A) d nm) hP hV (by omega) (by omega) hd2b hm2 (by omega) (by rw [hTD]; exact hk01) (fun z => absurd z h0) hfr1 rfl
    have NI := IP_name (d := d2) (nm := nm2) (t := TG (aF A) d nm) (nx' := aX A) hP (by omega) (by omega) hd2b hm2 (by omega) (by omega) hfr1 rfl
    rw [if_neg h0, ← hTD] at NI
    unfold actRename1
    generalize lPut (aF A) (aG A) (nmSrc d2 (aN A d2 + 1) nm2 (TG (aF A) d nm) (TD (aF A) d nm)) = P at N NI ⊢
    obtain ⟨dv, dt, df⟩ := N
    by_cases r1 : P.2.2 = false
    · rw [if_pos r1]
      obtain ⟨q1, q2⟩ := df r1
      exact Or.inr (Or.inl ⟨rfl, dv, Or.inl ⟨q1, same_EQ q2⟩⟩)
    · rw [if_neg r1]
      have r1' : P.2.2 = true := by simpa using r1
      obtain ⟨a1, a2⟩ := dt r1'
      obtain ⟨D1, D2, D3, D4, D5, D6, D7, D8⟩ := NI.1 r1'
      have hnt : tD (TG (aF A)) fl d2 := (TSW_tD hS h7 d2).mpr ⟨hd2s.1, by rw [← hS.2.1 d2 hd2s.1]; exact hd2s.2⟩
      have ho2 : TG (aF A) d2 nm2 = 0 ∨ fl (TG (aF A) d2 nm2) = 0 := by
        by_cases c : TG (aF A) d2 nm2 = 0
        · exact Or.inl c
        · rcases h7.2.1 (TG (aF A) d2 nm2) with q | q
          · exact Or.inr q
          · have : TD (aF A) d2 nm2 = 1 := by rw [e]; unfold dF; rw [if_neg c]; exact q
            exact absurd (Or.inl ⟨c, Or.inr (Or.inl this)⟩) hb
      have hW2 : WD (gup (TG (aF A)) d2 nm2 (TG (aF A) d nm)) fl (aX A) := by
        refine WD_put h7 hnt (by omega) (fun q => ?_) ho2 (fun q z => hb (Or.inr ⟨by rw [hTD]; exact q, by rw [e]; exact z⟩))
        have hdn : tD (TG (aF A)) fl d := (TSW_tD hS h7 d).mpr ⟨hds.1, by rw [← hS.2.1 d hds.1]; exact hds.2⟩
        exact tD_of q (Or.inr ⟨h0, d, nm, hdn, hm, rfl⟩)
      have I1 := D1 hW2
      have hRK : RK (TG P.1) (TD P.1) := by
        have e2 := flOK_TD (PA_NS I1.2.1) I1.2.2.2.2.2.1
        have e2 : TD P.1 = dF (TG P.1) fl := e2
        rw [e2]; exact I1.2.2.2.2.2.2.1.2.2.2.1
      have hus2 := (D7 3 [] 1 s1 hs1).mp hus
      obtain ⟨-, hfr2⟩ := tr_fr (by omega) (by omega) hus2
      have N2 := put_nm (A := (P.1, P.2.1, aX A, aD A, bump (aN A) d2)) (d := d) (nm := nm) (t := 0) (k := 0) I1 dv.1 (by omega) (by omega) hdb hm (Or.inl rfl) (Or.inl rfl) (fun _ => rfl) hfr2 rfl
      unfold actRename2
      generalize lPut P.1 P.2.1 (nmSrc d (bump (aN A) d2 d + 1) nm 0 0) = R at N2 ⊢
      obtain ⟨nv, nt, nf⟩ := N2
      by_cases r2 : R.2.2 = false
      · rw [if_pos r2]
        obtain ⟨q1, q2⟩ := nf r2
        exact Or.inr (Or.inl ⟨rfl, nv, Or.inr ⟨P.1, hRK, a2, q1, same_EQ q2⟩⟩)
      · rw [if_neg r2]
        obtain ⟨q1, q2⟩ := nt (by simpa using r2)
        exact Or.inr (Or.inr ⟨rfl, q1, nv, P.1, hRK, a2, q2⟩)
  · rw [pI_1 c]
    refine Or.inl ⟨rfl, rfl, ?_⟩
    have := mt (rm_ok (A := A) [3, 3] (by decide) (by decide)) c
    show (aG A).2.1.length < 2; omega
