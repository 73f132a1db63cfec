/-! ### what the reference's rows hold -/
def RM (F : Fl) (μ : nMem) : Prop := (∀ b, 0 ≤ b → b < 8 → μ 34 b = fC F b ∧ μ 35 b = fU F b ∧ μ 36 b = fE F b) ∧ ∀ i, 0 ≤ i → i < 128 → i % 16 < fC F (i / 16) → (μ 22 i = fN F i 0 ∧ μ 23 i = fN F i 3 ∧ μ 24 i = fN F i 4 ∧ μ 32 i = fN F i 1 ∧ μ 33 i = fN F i 2) ∧ (fN F i 0 = 1 → μ 25 i = fN F i 5 ∧ μ 26 i = fN F i 6 ∧ μ 27 i = fN F i 7 ∧ μ 28 i = fN F i 9) ∧ (fN F i 0 = 2 → μ 29 i = fN F i 5 ∧ μ 30 i = fN F i 10 ∧ μ 31 i = fN F i 11)
theorem RM_cg {F : Fl} {μ m : nMem} (h : RM F μ) (e : ∀ x j, 22 ≤ x → x ≤ 36 → m x j = μ x j) : RM F m := by
  obtain ⟨h1, h2⟩ := h
  refine ⟨fun b b0 b1 => by rw [e 34 b (by decide) (by decide), e 35 b (by decide) (by decide), e 36 b (by decide) (by decide)]; exact h1 b b0 b1, fun i i0 i1 c => ?_⟩
  rw [e 22 i (by decide) (by decide), e 23 i (by decide) (by decide), e 24 i (by decide) (by decide), e 25 i (by decide) (by decide), e 26 i (by decide) (by decide), e 27 i (by decide) (by decide), e 28 i (by decide) (by decide), e 29 i (by decide) (by decide), e 30 i (by decide) (by decide), e 31 i (by decide) (by decide), e 32 i (by decide) (by decide), e 33 i (by decide) (by decide)]
  exact h2 i i0 i1 c
theorem row_b {i : Int} (i0 : 0 ≤ i) (i1 : i < 128) : (0 ≤ i / 16 ∧ i / 16 < 8) ∧ 0 ≤ i % 16 ∧ i % 16 < 16 ∧ i / 16 * 16 + i % 16 = i := by omega
/-- the rows beyond a block's nodes are none -/
theorem PA_out {F : Fl} (hA : PA F) {i : Int} (i0 : 0 ≤ i) (i1 : i < 128) (h : ¬ i % 16 < fC F (i / 16)) (k : Int) (k0 : 0 ≤ k) (k1 : k ≤ 11) : fN F i k = 0 := by
  obtain ⟨a, b, c, d⟩ := row_b i0 i1
  have := (hA (i / 16) a.1 a.2).2.2.2.1 (i % 16) (by omega) c k k0 k1
  rw [d] at this; exact this
theorem PA_in {F : Fl} (hA : PA F) {i : Int} (i0 : 0 ≤ i) (i1 : i < 128) (h : i % 16 < fC F (i / 16)) : nodeOK F i (i % 16) := by
  obtain ⟨a, b, c, d⟩ := row_b i0 i1
  have := (hA (i / 16) a.1 a.2).2.2.1 (i % 16) b h
  rw [d] at this; exact this
theorem whole_iff {F : Fl} {μ : nMem} (hA : PA F) (hR : RM F μ) {i : Int} (i0 : 0 ≤ i) (i1 : i < 128) : ((i % 16 < μ 34 (i / 16) ∧ μ 33 i = μ 32 i) ∧ μ 22 i ≠ 3) ↔ rW F i := by
  obtain ⟨a, b, c, d⟩ := row_b i0 i1
  rw [(hR.1 _ a.1 a.2).1]
  by_cases h : i % 16 < fC F (i / 16)
  · obtain ⟨⟨e0, e3, e4, e1, e2⟩, -⟩ := hR.2 i i0 i1 h
    obtain ⟨hn, -⟩ := PA_in hA i0 i1 h
    rw [e0, e1, e2]
    unfold rW
    rcases hn with q | q
    · have := (sOK_k q).1
      constructor
      · rintro ⟨⟨-, z⟩, -⟩; exact ⟨this, z⟩
      · rintro ⟨-, z⟩; exact ⟨⟨h, z⟩, by omega⟩
    · have := q.1
      constructor
      · rintro ⟨-, z⟩; exact absurd this z
      · rintro ⟨z, -⟩; omega
  · have := PA_out hA i0 i1 h 0 (by decide) (by decide)
    unfold rW
    constructor
    · rintro ⟨⟨z, -⟩, -⟩; exact absurd z h
    · rintro ⟨z, -⟩; omega
/-- whole, a summary or not -/
theorem wh_iff {F : Fl} {μ : nMem} (hA : PA F) (hR : RM F μ) {i : Int} (i0 : 0 ≤ i) (i1 : i < 128) : (i % 16 < μ 34 (i / 16) ∧ μ 33 i = μ 32 i) ↔ fN F i 0 ≠ 0 ∧ fN F i 2 = fN F i 1 := by
  obtain ⟨a, b, c, d⟩ := row_b i0 i1
  rw [(hR.1 _ a.1 a.2).1]
  by_cases h : i % 16 < fC F (i / 16)
  · obtain ⟨⟨e0, e3, e4, e1, e2⟩, -⟩ := hR.2 i i0 i1 h
    have hk := nodeOK_k (PA_in hA i0 i1 h)
    rw [e1, e2]
    exact ⟨fun z => ⟨hk, z.2⟩, fun z => ⟨h, z.2⟩⟩
  · have := PA_out hA i0 i1 h 0 (by decide) (by decide)
    exact ⟨fun z => absurd z.1 h, fun z => absurd this z.1⟩
theorem rW_in {F : Fl} (hA : PA F) {i : Int} (i0 : 0 ≤ i) (i1 : i < 128) (w : rW F i) : i % 16 < fC F (i / 16) := Classical.byContradiction (fun h => by
  have := PA_out hA i0 i1 h 0 (by decide) (by decide)
  have := w.1
  omega)
theorem PrM_of {F : Fl} {μ m : nMem} (hA : PA F) (hR : RM F μ) (e : ∀ x j, x ≠ 41 → m x j = μ x j) (h : ∀ i, 0 ≤ i → i < 128 → (m 41 i ≠ 0 ↔ ((i % 16 < μ 34 (i / 16) ∧ μ 33 i = μ 32 i) ∧ μ 22 i ≠ 3))) : PrM F m := fun i i0 i1 => by
  refine ⟨(h i i0 i1).trans (whole_iff hA hR i0 i1), fun w => ?_⟩
  obtain ⟨⟨e0, e3, e4, -, -⟩, h1, h2⟩ := hR.2 i i0 i1 (rW_in hA i0 i1 w)
  rw [e 22 i (by decide), e 23 i (by decide), e 24 i (by decide), e 25 i (by decide), e 26 i (by decide), e 27 i (by decide), e 28 i (by decide), e 29 i (by decide), e 30 i (by decide), e 31 i (by decide)]
  exact ⟨⟨e0, e3, e4⟩, h1, h2⟩
theorem PrM_cg2 {F : Fl} {μ m : nMem} (h : PrM F μ) (e : ∀ x j, 22 ≤ x → x ≤ 41 → m x j = μ x j) : PrM F m := fun i i0 i1 => by
  obtain ⟨a, b⟩ := h i i0 i1
  rw [e 41 i (by decide) (by decide), e 22 i (by decide) (by decide), e 23 i (by decide) (by decide), e 24 i (by decide) (by decide), e 25 i (by decide) (by decide), e 26 i (by decide) (by decide), e 27 i (by decide) (by decide), e 28 i (by decide) (by decide), e 29 i (by decide) (by decide), e 30 i (by decide) (by decide), e 31 i (by decide) (by decide)]
  exact ⟨a, b⟩
/-- nothing is laid, or what the whole nodes tell -/
def LD (F : Fl) (μ : nMem) : Prop := μ 21 27 = 0 ∨ (μ 21 27 = 1 ∧ LE F 0 μ ∧ PrM F μ)
/-- the reference's memory, as far as questions need it -/
def KM (F : Fl) (μ : nMem) (ε : nEnv) : Prop := SkP skM ε ∧ mB μ ∧ RM F μ ∧ LD F μ
abbrev KP (F : Fl) : Prop := PA F ∧ NU F
abbrev FrY (μ m : nMem) : Prop := ∀ x y, ¬ (41 ≤ x ∧ x ≤ 51) → ¬ (x = 21 ∧ y = 27) → m x y = μ x y
theorem FrY_t {μ m m2 : nMem} (h : FrY μ m) (k : FrY m m2) : FrY μ m2 := fun x y c d => (k x y c d).trans (h x y c d)
theorem FrY_r (μ : nMem) : FrY μ μ := fun _ _ _ _ => rfl
/-- laid -/
def KL (F : Fl) (μ : nMem) (ε : nEnv) : Prop := KM F μ ε ∧ μ 21 27 = 1 ∧ LE F 0 μ ∧ PrM F μ
theorem KL_of {F : Fl} {μ : nMem} {ε : nEnv} (hs : SkP skM ε) (hb : mB μ) (hR : RM F μ) (h : μ 21 27 = 1) (hL : LE F 0 μ) (hP : PrM F μ) : KL F μ ε := ⟨⟨hs, hb, hR, Or.inr ⟨h, hL, hP⟩⟩, h, hL, hP⟩
theorem EL_TG {F : Fl} {el : LE2} (hS : NS F) (h : ∀ P, cntL P el = cR (fun r => ctR F r ∧ P (eP F r)) 128) {d nm : Int} (hd : thDf F d) (hm : nmR nm) : (∀ i, i < el.length → (el.getD i PZ2).1 = 100 * d + nm → TG F d nm ≠ 0 ∧ (el.getD i PZ2).2 = 2 * TG F d nm + TD F d nm) ∧ ((∀ i, i < el.length → (el.getD i PZ2).1 ≠ 100 * d + nm) → TG F d nm = 0) := by
  have hb := thD_b hS hd
  refine ⟨fun i hi e => ?_, fun hn => Classical.byContradiction (fun z => ?_)⟩
  · obtain ⟨r, hr, hc, er⟩ := (el_mem h _).mp (lget_mem PZ2 hi)
    have b := asgR_b hS hr.1 hr.2 hc.1
    rw [← er] at e ⊢
    unfold eP at e ⊢
    have e : 100 * fN F r 3 + fN F r 5 = 100 * d + nm := e
    have t := ct_TG hr.1 hc
    have e3 : fN F r 3 = d := by omega
    have e5 : fN F r 5 = nm := by omega
    rw [e3, e5] at t
    rw [t.1, t.2]
    exact ⟨by omega, rfl⟩
  · obtain ⟨r, hr, hc, r3, r5, r10, r11⟩ := ct_of hd z
    obtain ⟨i, hi, e⟩ := mem_lget PZ2 ((el_mem h (eP F r)).mpr ⟨r, hr, hc, rfl⟩)
    refine hn i hi ?_
    rw [e]
    unfold eP
    rw [r3, r5]
theorem EL_D {F : Fl} {el : LE2} (hS : NS F) (h : ∀ P, cntL P el = cR (fun r => ctR F r ∧ P (eP F r)) 128) {n : Int} : (∀ i, i < el.length → (el.getD i PZ2).2 = 2 * n + 1 → thDf F n) ∧ ((∀ i, i < el.length → (el.getD i PZ2).2 ≠ 2 * n + 1) → n ≠ 1 → ¬ thDf F n) := by
  refine ⟨fun i hi e => ?_, fun hn h1 z => ?_⟩
  · obtain ⟨r, hr, hc, er⟩ := (el_mem h _).mp (lget_mem PZ2 hi)
    have b := asgR_b hS hr.1 hr.2 hc.1
    rw [← er] at e
    have e : 2 * fN F r 10 + fN F r 11 = 2 * n + 1 := e
    have := thD_row hS hr.1 hr.2 hc.1 (by omega) hc.2
    rw [show n = fN F r 10 by omega]; exact this
  · rcases thD_c z with c | ⟨d, nm, hd, hm, ht, h0, hD⟩
    · exact h1 c
    · obtain ⟨r, hr, hc, r3, r5, r10, r11⟩ := ct_of (F := F) hd (nm := nm) (by rw [ht]; exact h0)
      obtain ⟨i, hi, e⟩ := mem_lget PZ2 ((el_mem h (eP F r)).mpr ⟨r, hr, hc, rfl⟩)
      refine hn i hi ?_
      rw [e]
      unfold eP
      show 2 * fN F r 10 + fN F r 11 = 2 * n + 1
      rw [r10, r11, ht, hD]
theorem EL_nm {F : Fl} {el : LE2} (hS : NS F) (h : ∀ P, cntL P el = cR (fun r => ctR F r ∧ P (eP F r)) 128) {d : Int} (hd : thDf F d) : cntL (fun x => x.1 / 100 = d) el = cntN (TG F d) 99 := by
  rw [h, nmRow d 99]
  refine cR_cg 128 (fun r r0 r1 => ?_)
  show (ctR F r ∧ (100 * fN F r 3 + fN F r 5) / 100 = d) ↔ _
  constructor
  · rintro ⟨c, e⟩
    have b := asgR_b hS r0 r1 c.1
    exact ⟨c.1, by omega, by omega, by omega⟩
  · rintro ⟨c, e, e1, e2⟩
    have b := asgR_b hS r0 r1 c
    exact ⟨⟨c, by rw [e]; exact hd⟩, by omega⟩
theorem EL_lk {F : Fl} {el : LE2} (hS : NS F) (h : ∀ P, cntL P el = cR (fun r => ctR F r ∧ P (eP F r)) 128) {n : Int} (hn : n ≠ 0) : cntL (fun x => x.2 / 2 = n) el = ((lk (TG F) (TD F) n 2048 : Nat) : Int) := by
  rw [h, lkRow (TD F) hn 2048]
  refine cR_cg 128 (fun r r0 r1 => ?_)
  show (ctR F r ∧ (2 * fN F r 10 + fN F r 11) / 2 = n) ↔ _
  constructor
  · rintro ⟨c, e⟩
    have b := asgR_b hS r0 r1 c.1
    exact ⟨c.1, c.2, by omega, by omega, by omega, by omega⟩
  · rintro ⟨c, t, e, -, -, -⟩
    have b := asgR_b hS r0 r1 c
    exact ⟨⟨c, t⟩, by omega⟩
/-- an int's value, but for wraps -/
def wrI (x : Int) : Int := (x + 2147483648) % 4294967296 - 2147483648
theorem wrI_r (x : Int) : inR (wrI x) := by unfold inR wrI; omega
theorem n_wrap (x : Int) : Int32.ofInt x = Int32.ofInt (wrI x) := by
  apply Int32.toBitVec_inj.mp
  rw [Int32.toBitVec_ofInt, Int32.toBitVec_ofInt]
  apply BitVec.eq_of_toInt_eq
  rw [BitVec.toInt_ofInt, BitVec.toInt_ofInt]
  unfold wrI
  show Int.bmod x 4294967296 = Int.bmod _ 4294967296
  rw [Int.bmod_def, Int.bmod_def]
  omega
theorem wq_wrap {M : nM} {pc : Nat} {L : List (Nat × nV)} {st : List nV} {μ : nMem} {ε : nEnv} {tb : List ExceptionTableEntry → Prop} {Fn : nG → Nat → Nat → List Frame → Array Value → State → State → Prop} {x : Int} (k : wpF M pc L (vI (wrI x) :: st) μ ε tb Fn) : wpF M pc L (vI x :: st) μ ε tb Fn := by
  intro G hG z0 n0 p l e R s m args below meth c hC htb H locs ls hR hl hS hz hn
  have h := k G hG z0 n0 p l e R s m args below meth c hC htb H locs ls hR hl hS hz hn
  have e : (vI x :: st).map (toV G) = (vI (wrI x) :: st).map (toV G) := by
    rw [List.map_cons, List.map_cons]
    show Value.int (Int32.ofInt x) :: _ = Value.int (Int32.ofInt (wrI x)) :: _
    rw [n_wrap]
  rw [e]; exact h
theorem TD_01 {F : Fl} (hS : NS F) (d nm : Int) : TD F d nm = 0 ∨ TD F d nm = 1 := by
  unfold TD
  by_cases c : qNew F 2 d nm 2147483647 128 = -1
  · rw [if_pos c]; exact Or.inl rfl
  · rw [if_neg c]
    obtain ⟨a, b⟩ := qNew_rW (Or.inr rfl) c
    have := sOK_k (hS _ a.1 a.2 b)
    omega
theorem TG_2 {F : Fl} (hS : NS F) (d nm : Int) : TG F d nm = 0 ∨ (2 ≤ TG F d nm ∧ TG F d nm ≤ 2000) := by
  by_cases c : TG F d nm = 0
  · exact Or.inl c
  · obtain ⟨a1, a2, a3, a4, a5⟩ := TG_asgR c
    have := asgR_b hS a1.1 a1.2 a2
    omega
theorem LE_0 {F : Fl} {μ : nMem} (h : LE F 0 μ) : ∃ (el : LE2) (fl : List Int), (μ 45 0 = el.length ∧ ∀ i : Nat, i < el.length → μ 43 i = (el.getD i PZ2).1 ∧ μ 44 i = (el.getD i PZ2).2) ∧ (μ 48 0 = fl.length ∧ ∀ i : Nat, i < fl.length → μ 46 i = fl.getD i 0) ∧ (el.length ≤ 128 ∧ fl.length ≤ 128) ∧ (∀ P, cntL P el = cR (fun r => ctR F r ∧ P (eP F r)) 128) ∧ (∀ f, f ∈ fl ↔ thFf F f) ∧ (∀ i : Nat, i < fl.length → CO F (fl.getD i 0) i μ) ∧ srtE el := by
  obtain ⟨el, fl, h1, h2, h3, h4, h5, h6, h7, h8⟩ := h
  refine ⟨el, fl, ⟨h1.1, fun i hi => ?_⟩, ⟨h2.1, fun i hi => ?_⟩, h3, h6, h7, fun i hi => ?_, h4⟩
  · have := h1.2 i hi
    rw [Int.zero_add] at this; exact this
  · have := h2.2 i hi
    rw [Int.zero_add] at this; exact this
  · have := h8 i hi
    rw [Int.zero_add] at this; exact this
/-- what a name leads to: twice the number, one more for a directory; -1 -/
abbrev enV (F : Fl) (d nm v : Int) : Prop := (TG F d nm = 0 ∧ v = -1) ∨ (TG F d nm ≠ 0 ∧ v = 2 * TG F d nm + TD F d nm ∧ 2 ≤ TG F d nm ∧ TG F d nm ≤ 2000 ∧ (TD F d nm = 0 ∨ TD F d nm = 1))
/-- some entry of the list has this value -/
def hasV (el : LE2) (x : Int) : Prop := ∃ i, i < el.length ∧ (el.getD i PZ2).2 = x
theorem sp_X7_layPresent {μ : nMem} {ε : nEnv} {Q : nOut → nMem → nEnv → Prop} {F : Fl} (hs : SkP skM ε) (hb : mB μ) (hR : RM F μ) (hA : PA F) (h : ∀ m, mB m → (∀ x j, x ≠ 41 → m x j = μ x j) → PrM F m → Q (.inl none) m ε) : Sp mX7_layPresent [vR 21] μ ε Q := by
  refine Sp_of (L := [(0, vR 21)]) (by decide) rfl rfl (Nat.le_of_ble_eq_true rfl) ?_
  refine wq_iconst (pc := 0) dX7_layPresent_0 ?_
  refine wq_istore_n (pc := 1) (L' := [(1, _), (0, _)]) dX7_layPresent_1 rfl rfl (by decide) ?_
  have loop1 : ∀ (n k : Nat), ∀ (m : nMem) (j : Int), k ≤ 128 → 128 < k + n → j = (k : Int) → mB m → (∀ x j, x ≠ 41 → m x j = μ x j) → (∀ i, 0 ≤ i → i < (k : Int) → (m 41 i ≠ 0 ↔ ((i % 16 < μ 34 (i / 16) ∧ μ 33 i = μ 32 i) ∧ μ 22 i ≠ 3))) → wp mX7_layPresent 2 [(0, vR 21), (1, vI j)] [] m ε Q := by
    intro n
    induction n with
    | zero => intro k m j hk1 hk2 e0 e1 e2 e3; exact absurd hk2 (by omega)
    | succ n ih =>
      intro k m j hk1 hk2 e0 e1 e2 e3
      subst e0
      have rk : inR (k : Int) := by unfold inR; omega
      have t34 : m 34 ((k : Int) / 16) = μ 34 ((k : Int) / 16) := e2 34 _ (by decide)
      have t33 : m 33 (k : Int) = μ 33 (k : Int) := e2 33 _ (by decide)
      have t32 : m 32 (k : Int) = μ 32 (k : Int) := e2 32 _ (by decide)
      have t22 : m 22 (k : Int) = μ 22 (k : Int) := e2 22 _ (by decide)
      have r22 : inR (m 22 (k : Int)) := (mR_of e1) 22 _ (by decide) (by decide) (by decide)
      refine wq_iload_n (pc := 2) dX7_layPresent_2 rfl rfl ?_
      refine wq_sipush (pc := 3) dX7_layPresent_3 (by decide) (by decide) ?_
      refine wq_icmp_ge (pc := 6) (tgt := 44) dX7_layPresent_6 (by decide) (by first | (unfold inR; omega) | assumption) (by first | (unfold inR; omega) | assumption) (fun c2 => ?_) (fun c2 => ?_)
      · skip
        refine wq_vret (pc := 44) dX7_layPresent_44 rfl ?_
        exact h m e1 e2 (PrM_of hA hR e2 (fun i i0 i1 => e3 i i0 (by omega)))
      · skip
        refine wq_aload_n (pc := 9) dX7_layPresent_9 rfl rfl ?_
        refine wq_getS (pc := 10) dX7_layPresent_10 hs (gf_X7_69 _ rfl) rfl rfl rfl rfl rfl ?_
        refine wq_iload_n (pc := 13) dX7_layPresent_13 rfl rfl ?_
        refine wq_aload_n (pc := 14) dX7_layPresent_14 rfl rfl ?_
        refine wq_iload_n (pc := 15) dX7_layPresent_15 rfl rfl ?_
        refine cVK_1 (pc := 16) dX7_layPresent_16 hs (cw_X7_155 _ rfl) (by decide) rfl ⟨by decide, by decide⟩ (Nat.le_of_ble_eq_true rfl) (sp_X7_isWhole hs (by omega) (by omega) ((mR_of e1) 34 _ (by decide) (by decide) (by decide)) ((mR_of e1) 33 _ (by decide) (by decide) (by decide)) ((mR_of e1) 32 _ (by decide) (by decide) (by decide)) (fun hw => ?_) (fun hw => ?_))
        · skip
          refine kr_s ?_
          refine wq_if_eq (pc := 19) (tgt := 36) dX7_layPresent_19 (by decide) (by first | (unfold inR; omega) | assumption) (fun c => absurd c (by decide)) (fun _ => ?_)
          refine wq_aload_n (pc := 22) dX7_layPresent_22 rfl rfl ?_
          refine wq_getS (pc := 23) dX7_layPresent_23 hs (gf_X7_7 _ rfl) rfl rfl rfl rfl rfl ?_
          refine wq_iload_n (pc := 26) dX7_layPresent_26 rfl rfl ?_
          refine wq_ialdK (pc := 27) dX7_layPresent_27 hs rfl (by omega) (by omega) ?_
          refine wq_iconst (pc := 28) dX7_layPresent_28 ?_
          refine wq_icmp_eq (pc := 29) (tgt := 36) dX7_layPresent_29 (by decide) (by first | (unfold inR; omega) | assumption) (by first | (unfold inR; omega) | assumption) (fun c6 => ?_) (fun c6 => ?_)
          · skip
            refine wq_iconst (pc := 36) dX7_layPresent_36 ?_
            refine wq_zastK (pc := 37) dX7_layPresent_37 hs rfl (by omega) (by omega) (by first | omega | (simp; done) | assumption) ?_
            refine wq_iinc (pc := 38) (L' := [(1, _), (0, _)]) dX7_layPresent_38 rfl rfl (by decide) ?_
            refine wq_goto (pc := 41) (tgt := 2) dX7_layPresent_41 (by decide) ?_
            refine wq_sub1 (L' := [(0, _), (1, _)]) ⟨rfl, rfl, trivial⟩ ?_
            refine ih (k + 1) _ _ (by omega) (by omega) (by omega) (mB_wr e1 (Or.inr (Or.inr (by decide)))) (fun x j hx => by rw [wr_n _ _ (by omega)]; exact e2 x j hx) (fun i i0 i1 => ?_)
            by_cases c9 : i = (k : Int)
            · subst c9; rw [wr_s]; first | exact ⟨fun _ => by omega, fun _ => by decide⟩ | exact ⟨fun z => absurd rfl z, fun z => by omega⟩
            · rw [wr_n _ _ (by omega)]; exact e3 i i0 (by omega)
          · skip
            refine wq_iconst (pc := 32) dX7_layPresent_32 ?_
            refine wq_goto (pc := 33) (tgt := 37) dX7_layPresent_33 (by decide) ?_
            refine wq_zastK (pc := 37) dX7_layPresent_37 hs rfl (by omega) (by omega) (by first | omega | (simp; done) | assumption) ?_
            refine wq_iinc (pc := 38) (L' := [(1, _), (0, _)]) dX7_layPresent_38 rfl rfl (by decide) ?_
            refine wq_goto (pc := 41) (tgt := 2) dX7_layPresent_41 (by decide) ?_
            refine wq_sub1 (L' := [(0, _), (1, _)]) ⟨rfl, rfl, trivial⟩ ?_
            refine ih (k + 1) _ _ (by omega) (by omega) (by omega) (mB_wr e1 (Or.inr (Or.inr (by decide)))) (fun x j hx => by rw [wr_n _ _ (by omega)]; exact e2 x j hx) (fun i i0 i1 => ?_)
            by_cases c9 : i = (k : Int)
            · subst c9; rw [wr_s]; first | exact ⟨fun _ => by omega, fun _ => by decide⟩ | exact ⟨fun z => absurd rfl z, fun z => by omega⟩
            · rw [wr_n _ _ (by omega)]; exact e3 i i0 (by omega)
        · skip
          refine kr_s ?_
          refine wq_if_eq (pc := 19) (tgt := 36) dX7_layPresent_19 (by decide) (by first | (unfold inR; omega) | assumption) (fun _ => ?_) (fun c => absurd c (by decide))
          refine wq_iconst (pc := 36) dX7_layPresent_36 ?_
          refine wq_zastK (pc := 37) dX7_layPresent_37 hs rfl (by omega) (by omega) (by first | omega | (simp; done) | assumption) ?_
          refine wq_iinc (pc := 38) (L' := [(1, _), (0, _)]) dX7_layPresent_38 rfl rfl (by decide) ?_
          refine wq_goto (pc := 41) (tgt := 2) dX7_layPresent_41 (by decide) ?_
          refine wq_sub1 (L' := [(0, _), (1, _)]) ⟨rfl, rfl, trivial⟩ ?_
          refine ih (k + 1) _ _ (by omega) (by omega) (by omega) (mB_wr e1 (Or.inr (Or.inr (by decide)))) (fun x j hx => by rw [wr_n _ _ (by omega)]; exact e2 x j hx) (fun i i0 i1 => ?_)
          by_cases c9 : i = (k : Int)
          · subst c9; rw [wr_s]; first | exact ⟨fun _ => by omega, fun _ => by decide⟩ | exact ⟨fun z => absurd rfl z, fun z => by omega⟩
          · rw [wr_n _ _ (by omega)]; exact e3 i i0 (by omega)
  refine wq_sub1 (L' := [(0, _), (1, _)]) ⟨rfl, rfl, trivial⟩ ?_
  exact loop1 129 0 _ _ (by omega) (by omega) (by omega) hb (fun _ _ _ => rfl) (fun i i0 i1 => by omega)
theorem sp_X7_layNow {μ : nMem} {ε : nEnv} {Q : nOut → nMem → nEnv → Prop} {F : Fl} (hK : KM F μ ε) (hA : KP F) (h : ∀ m, KL F m ε → FrY μ m → Q (.inl none) m ε) : Sp mX7_layNow [vR 21] μ ε Q := by
  refine Sp_of (L := [(0, vR 21)]) (by decide) rfl rfl (Nat.le_of_ble_eq_true rfl) ?_
  obtain ⟨hs, hb, hR, hL⟩ := hK
  have r27 : inR (μ 21 27) := by unfold inR; rcases hL with q | q; omega; have := q.1; omega
  refine wq_aload_n (pc := 0) dX7_layNow_0 rfl rfl ?_
  refine wq_getIK (pc := 1) (kk := 27) dX7_layNow_1 hs (gf_X7_158 _ rfl) rfl rfl rfl rfl ?_
  refine wq_if_ne (pc := 4) (tgt := 21) dX7_layNow_4 (by decide) (by first | (unfold inR; omega) | assumption) (fun c1 => ?_) (fun c1 => ?_)
  · skip
    refine wq_vret (pc := 21) dX7_layNow_21 rfl ?_
    first
      | exact h _ ⟨⟨hs, hb, hR, hL⟩, (hL.resolve_left (by assumption)).1, (hL.resolve_left (by assumption)).2.1, (hL.resolve_left (by assumption)).2.2⟩ (FrY_r _)
      | exact h _ (KL_of hs (mB_wr hb2 (Or.inr (Or.inl rfl))) (RM_cg hR (fun x j x0 x1 => by rw [wr_n _ _ (by omega), f2 x j (by unfold inLay; omega), f1 x j (by omega)])) (wr_s _ _ _ _) (LE_cg (Or.inl rfl) L2 (fun x y x0 x1 _ => by rw [wr_n _ _ (by omega)])) (PrM_cg2 P1 (fun x j x0 x1 => by rw [wr_n _ _ (by omega), f2 x j (by unfold inLay; omega)]))) (fun x y hx hx2 => by rw [wr_n _ _ hx2, f2 x y (by unfold inLay; omega), f1 x y (by omega)])
  · skip
    refine wq_aload_n (pc := 7) dX7_layNow_7 rfl rfl ?_
    refine cVK_0 (pc := 8) dX7_layNow_8 hs (cw_X7_162 _ rfl) (by decide) rfl ⟨by decide, by decide⟩ (Nat.le_of_ble_eq_true rfl) (sp_X7_layPresent hs hb hR hA.1 (fun m1 hb1 f1 P1 => ?_))
    refine kr_v ?_
    refine wq_aload_n (pc := 11) dX7_layNow_11 rfl rfl ?_
    refine wq_iconst (pc := 12) dX7_layNow_12 ?_
    refine cVK_1 (pc := 13) dX7_layNow_13 hs (cw_X7_165 _ rfl) (by decide) rfl ⟨by decide, by decide⟩ (Nat.le_of_ble_eq_true rfl) (sp_X7_lay hs hb1 (Or.inl rfl) P1 (PA_NS hA.1) hA.2 (fun m2 hb2 f2 L2 => ?_))
    refine kr_v ?_
    refine wq_aload_n (pc := 16) dX7_layNow_16 rfl rfl ?_
    refine wq_iconst (pc := 17) dX7_layNow_17 ?_
    refine wq_putZK (pc := 18) (kk := 27) dX7_layNow_18 hs (gf_X7_158 _ rfl) rfl rfl rfl rfl rfl (by first | omega | (simp; done) | assumption) ?_
    refine wq_vret (pc := 21) dX7_layNow_21 rfl ?_
    first
      | exact h _ ⟨⟨hs, hb, hR, hL⟩, (hL.resolve_left (by assumption)).1, (hL.resolve_left (by assumption)).2.1, (hL.resolve_left (by assumption)).2.2⟩ (FrY_r _)
      | exact h _ (KL_of hs (mB_wr hb2 (Or.inr (Or.inl rfl))) (RM_cg hR (fun x j x0 x1 => by rw [wr_n _ _ (by omega), f2 x j (by unfold inLay; omega), f1 x j (by omega)])) (wr_s _ _ _ _) (LE_cg (Or.inl rfl) L2 (fun x y x0 x1 _ => by rw [wr_n _ _ (by omega)])) (PrM_cg2 P1 (fun x j x0 x1 => by rw [wr_n _ _ (by omega), f2 x j (by unfold inLay; omega)]))) (fun x y hx hx2 => by rw [wr_n _ _ hx2, f2 x y (by unfold inLay; omega), f1 x y (by omega)])
theorem sp_X7_entry {μ : nMem} {ε : nEnv} {Q : nOut → nMem → nEnv → Prop} {F : Fl} {d nm : Int} (hK : KM F μ ε) (hA : KP F) (hd : thDf F d) (hm : nmR nm) (h : ∀ m v, KL F m ε → FrY μ m → enV F d nm v → Q (.inl (some (vI v))) m ε) : Sp mX7_entry [vR 21, vI d, vI nm] μ ε Q := by
  refine Sp_of (L := [(0, vR 21), (1, vI d), (2, vI nm)]) (by decide) rfl rfl (Nat.le_of_ble_eq_true rfl) ?_
  obtain ⟨hs, -, -, -⟩ := id hK
  have hdb := thD_b (PA_NS hA.1) hd
  refine wq_aload_n (pc := 0) dX7_entry_0 rfl rfl ?_
  refine cVK_0 (pc := 1) dX7_entry_1 hs (cw_X7_168 _ rfl) (by decide) rfl ⟨by decide, by decide⟩ (Nat.le_of_ble_eq_true rfl) (sp_X7_layNow hK hA (fun m1 K1 Y1 => ?_))
  refine kr_v ?_
  obtain ⟨⟨hs, hb, hR, hL⟩, h27, hLE, hPr⟩ := id K1
  obtain ⟨el, fl, ⟨hE1, hE2⟩, ⟨hF1, hF2⟩, ⟨hl1, hl2⟩, hcn, hfm, hco, hsrt⟩ := LE_0 hLE
  have r45 : inR (m1 45 0) := by unfold inR; omega
  have r48 : inR (m1 48 0) := by unfold inR; omega
  have hS := PA_NS hA.1
  refine wq_iconst (pc := 4) dX7_entry_4 ?_
  refine wq_istore_n (pc := 5) (L' := [(3, _), (0, _), (1, _), (2, _)]) dX7_entry_5 rfl rfl (by decide) ?_
  have loop2 : ∀ (n k : Nat), ∀ (j : Int), k ≤ 128 → 128 < k + n → j = (k : Int) → (k : Int) ≤ el.length → (∀ i : Nat, i < k → (el.getD i PZ2).1 ≠ 100 * d + nm) → wp mX7_entry 6 [(0, vR 21), (1, vI d), (2, vI nm), (3, vI j)] [] m1 ε Q := by
    intro n
    induction n with
    | zero => intro k j hk1 hk2 e0 e1 e2; exact absurd hk2 (by omega)
    | succ n ih =>
      intro k j hk1 hk2 e0 e1 e2
      subst e0
      have rk : inR (k : Int) := by unfold inR; omega
      have r43 : inR (m1 43 (k : Int)) := (mR_of hb) 43 _ (by decide) (by decide) (by decide)
      have rdn : inR (100 * d + nm) := by unfold inR; omega
      have hE2k := fun z => hE2 k z
      refine wq_iload_n (pc := 6) dX7_entry_6 rfl rfl ?_
      refine wq_aload_n (pc := 7) dX7_entry_7 rfl rfl ?_
      refine wq_getS (pc := 8) dX7_entry_8 hs (gf_X7_81 _ rfl) rfl rfl rfl rfl rfl ?_
      refine wq_iconst (pc := 11) dX7_entry_11 ?_
      refine wq_ialdK (pc := 12) dX7_entry_12 hs rfl (by omega) (by omega) ?_
      refine wq_icmp_ge (pc := 13) (tgt := 44) dX7_entry_13 (by decide) (by first | (unfold inR; omega) | assumption) (by first | (unfold inR; omega) | assumption) (fun c3 => ?_) (fun c3 => ?_)
      · skip
        refine wq_iconst (pc := 44) dX7_entry_44 ?_
        refine wq_iret (pc := 45) dX7_entry_45 rfl ?_
        have hEL := EL_TG hS hcn hd hm
        first
          | (have q9 := hE2 k (by omega)
             have q8 := hEL.1 k (by omega) (by omega)
             have q7 := TG_2 hS d nm
             have q6 := TD_01 hS d nm
             exact h _ _ K1 Y1 (Or.inr ⟨q8.1, by omega, by omega, by omega, q6⟩))
          | exact h _ _ K1 Y1 (Or.inl ⟨hEL.2 (fun i hi => e2 i (by omega)), rfl⟩)
      · skip
        refine wq_aload_n (pc := 16) dX7_entry_16 rfl rfl ?_
        refine wq_getS (pc := 17) dX7_entry_17 hs (gf_X7_75 _ rfl) rfl rfl rfl rfl rfl ?_
        refine wq_iload_n (pc := 20) dX7_entry_20 rfl rfl ?_
        refine wq_ialdK (pc := 21) dX7_entry_21 hs rfl (by omega) (by omega) ?_
        refine wq_bipush (pc := 22) dX7_entry_22 (by decide) (by decide) ?_
        refine wq_iload_n (pc := 24) dX7_entry_24 rfl rfl ?_
        refine wq_imul (pc := 25) dX7_entry_25 ?_
        refine wq_iload_n (pc := 26) dX7_entry_26 rfl rfl ?_
        refine wq_iadd (pc := 27) dX7_entry_27 ?_
        refine wq_icmp_ne (pc := 28) (tgt := 38) dX7_entry_28 (by decide) (by first | (unfold inR; omega) | assumption) (by first | (unfold inR; omega) | assumption) (fun c4 => ?_) (fun c4 => ?_)
        · skip
          refine wq_iinc (pc := 38) (L' := [(3, _), (0, _), (1, _), (2, _)]) dX7_entry_38 rfl rfl (by decide) ?_
          refine wq_goto (pc := 41) (tgt := 6) dX7_entry_41 (by decide) ?_
          refine wq_sub1 (L' := [(0, _), (1, _), (2, _), (3, _)]) ⟨rfl, rfl, rfl, rfl, trivial⟩ ?_
          have q9 := hE2k (by omega)
          exact ih (k + 1) _ (by omega) (by omega) (by omega) (by omega) (fun i hi => by
            by_cases c9 : i = k
            · rw [c9, ← q9.1]; omega
            · exact e2 i (by omega))
        · skip
          refine wq_aload_n (pc := 31) dX7_entry_31 rfl rfl ?_
          refine wq_getS (pc := 32) dX7_entry_32 hs (gf_X7_78 _ rfl) rfl rfl rfl rfl rfl ?_
          refine wq_iload_n (pc := 35) dX7_entry_35 rfl rfl ?_
          refine wq_ialdK (pc := 36) dX7_entry_36 hs rfl (by omega) (by omega) ?_
          refine wq_iret (pc := 37) dX7_entry_37 rfl ?_
          have hEL := EL_TG hS hcn hd hm
          first
            | (have q9 := hE2 k (by omega)
               have q8 := hEL.1 k (by omega) (by omega)
               have q7 := TG_2 hS d nm
               have q6 := TD_01 hS d nm
               exact h _ _ K1 Y1 (Or.inr ⟨q8.1, by omega, by omega, by omega, q6⟩))
            | exact h _ _ K1 Y1 (Or.inl ⟨hEL.2 (fun i hi => e2 i (by omega)), rfl⟩)
  refine wq_sub1 (L' := [(0, _), (1, _), (2, _), (3, _)]) ⟨rfl, rfl, rfl, rfl, trivial⟩ ?_
  exact loop2 129 0 _ (by omega) (by omega) (by omega) (by omega) (fun i hi => absurd hi (Nat.not_lt_zero i))
theorem sp_X7_hasDirectory {μ : nMem} {ε : nEnv} {Q : nOut → nMem → nEnv → Prop} {F : Fl} {n9 : Int} (hK : KM F μ ε) (hA : KP F) (rn : inR n9) (h1 : thDf F n9 → ∀ m, KL F m ε → FrY μ m → Q (.inl (some (vI 1))) m ε) (h2 : ¬ thDf F n9 → ∀ m, KL F m ε → FrY μ m → Q (.inl (some (vI 0))) m ε) : Sp mX7_hasDirectory [vR 21, vI n9] μ ε Q := by
  refine Sp_of (L := [(0, vR 21), (1, vI n9)]) (by decide) rfl rfl (Nat.le_of_ble_eq_true rfl) ?_
  obtain ⟨hs, -, -, -⟩ := id hK
  have rwr := wrI_r (2 * n9 + 1)
  have rn2 := rn
  unfold inR at rn2
  refine wq_aload_n (pc := 0) dX7_hasDirectory_0 rfl rfl ?_
  refine cVK_0 (pc := 1) dX7_hasDirectory_1 hs (cw_X7_168 _ rfl) (by decide) rfl ⟨by decide, by decide⟩ (Nat.le_of_ble_eq_true rfl) (sp_X7_layNow hK hA (fun m1 K1 Y1 => ?_))
  refine kr_v ?_
  obtain ⟨⟨hs, hb, hR, hL⟩, h27, hLE, hPr⟩ := id K1
  obtain ⟨el, fl, ⟨hE1, hE2⟩, ⟨hF1, hF2⟩, ⟨hl1, hl2⟩, hcn, hfm, hco, hsrt⟩ := LE_0 hLE
  have r45 : inR (m1 45 0) := by unfold inR; omega
  have r48 : inR (m1 48 0) := by unfold inR; omega
  have hS := PA_NS hA.1
  refine wq_iload_n (pc := 4) dX7_hasDirectory_4 rfl rfl ?_
  refine wq_iconst (pc := 5) dX7_hasDirectory_5 ?_
  refine wq_icmp_ne (pc := 6) (tgt := 13) dX7_hasDirectory_6 (by decide) (by first | (unfold inR; omega) | assumption) (by first | (unfold inR; omega) | assumption) (fun c2 => ?_) (fun c2 => ?_)
  · skip
    refine wq_iconst (pc := 13) dX7_hasDirectory_13 ?_
    refine wq_istore_n (pc := 14) (L' := [(2, _), (0, _), (1, _)]) dX7_hasDirectory_14 rfl rfl (by decide) ?_
    refine wq_iconst (pc := 15) dX7_hasDirectory_15 ?_
    refine wq_istore_n (pc := 16) (L' := [(3, _), (2, _), (0, _), (1, _)]) dX7_hasDirectory_16 rfl rfl (by decide) ?_
    have loop3 : ∀ (n k : Nat), ∀ (w : Int) (j : Int), k ≤ 128 → 128 < k + n → j = (k : Int) → w = 0 ∨ w = 1 → (k : Int) ≤ el.length → (w ≠ 0 → n9 = 1 ∨ hasV el (wrI (2 * n9 + 1))) → (w = 0 → n9 ≠ 1 ∧ ∀ i : Nat, i < k → (el.getD i PZ2).2 ≠ wrI (2 * n9 + 1)) → wp mX7_hasDirectory 17 [(0, vR 21), (1, vI n9), (2, vI w), (3, vI j)] [] m1 ε Q := by
      intro n
      induction n with
      | zero => intro k w j hk1 hk2 e0 e1 e2 e3 e4; exact absurd hk2 (by omega)
      | succ n ih =>
        intro k w j hk1 hk2 e0 e1 e2 e3 e4
        subst e0
        have rk : inR (k : Int) := by unfold inR; omega
        have rw1 : inR w := by unfold inR; omega
        have r44 : inR (m1 44 (k : Int)) := (mR_of hb) 44 _ (by decide) (by decide) (by decide)
        have hE2k := fun z => hE2 k z
        refine wq_iload_n (pc := 17) dX7_hasDirectory_17 rfl rfl ?_
        refine wq_aload_n (pc := 18) dX7_hasDirectory_18 rfl rfl ?_
        refine wq_getS (pc := 19) dX7_hasDirectory_19 hs (gf_X7_81 _ rfl) rfl rfl rfl rfl rfl ?_
        refine wq_iconst (pc := 22) dX7_hasDirectory_22 ?_
        refine wq_ialdK (pc := 23) dX7_hasDirectory_23 hs rfl (by omega) (by omega) ?_
        refine wq_icmp_ge (pc := 24) (tgt := 57) dX7_hasDirectory_24 (by decide) (by first | (unfold inR; omega) | assumption) (by first | (unfold inR; omega) | assumption) (fun c4 => ?_) (fun c4 => ?_)
        · skip
          refine wq_iload_n (pc := 57) dX7_hasDirectory_57 rfl rfl ?_
          refine wq_if_eq (pc := 58) (tgt := 69) dX7_hasDirectory_58 (by decide) (by first | (unfold inR; omega) | assumption) (fun c5 => ?_) (fun c5 => ?_)
          · skip
            refine wq_iconst (pc := 69) dX7_hasDirectory_69 ?_
            refine wq_zret (pc := 70) dX7_hasDirectory_70 rfl (by first | omega | (simp; done) | assumption) ?_
            have hEL := EL_D (n := n9) hS hcn
            have hb44 := b44 hb
            first
              | exact h1 (by
                  rcases e3 (by assumption) with q | ⟨i, hi, q⟩
                  · rw [q]; exact thD_1 _ _
                  · have q9 := (hE2 i hi).2
                    have q8 := hb44 i
                    refine hEL.1 i hi ?_
                    unfold wrI at q
                    omega) _ K1 Y1
              | exact h2 (fun z => by have := thD_b hS z; omega) _ K1 Y1
              | exact h2 (fun z => by
                  have hb9 := thD_b hS z
                  refine hEL.2 (fun i hi q => ?_) (e4 (by omega)).1 z
                  have q8 := (e4 (by omega)).2 i (by omega)
                  unfold wrI at q8
                  omega) _ K1 Y1
          · skip
            refine wq_iload_n (pc := 61) dX7_hasDirectory_61 rfl rfl ?_
            refine wq_if_le (pc := 62) (tgt := 69) dX7_hasDirectory_62 (by decide) (by first | (unfold inR; omega) | assumption) (fun c6 => ?_) (fun c6 => ?_)
            · skip
              refine wq_iconst (pc := 69) dX7_hasDirectory_69 ?_
              refine wq_zret (pc := 70) dX7_hasDirectory_70 rfl (by first | omega | (simp; done) | assumption) ?_
              have hEL := EL_D (n := n9) hS hcn
              have hb44 := b44 hb
              first
                | exact h1 (by
                    rcases e3 (by assumption) with q | ⟨i, hi, q⟩
                    · rw [q]; exact thD_1 _ _
                    · have q9 := (hE2 i hi).2
                      have q8 := hb44 i
                      refine hEL.1 i hi ?_
                      unfold wrI at q
                      omega) _ K1 Y1
                | exact h2 (fun z => by have := thD_b hS z; omega) _ K1 Y1
                | exact h2 (fun z => by
                    have hb9 := thD_b hS z
                    refine hEL.2 (fun i hi q => ?_) (e4 (by omega)).1 z
                    have q8 := (e4 (by omega)).2 i (by omega)
                    unfold wrI at q8
                    omega) _ K1 Y1
            · skip
              refine wq_iconst (pc := 65) dX7_hasDirectory_65 ?_
              refine wq_goto (pc := 66) (tgt := 70) dX7_hasDirectory_66 (by decide) ?_
              refine wq_zret (pc := 70) dX7_hasDirectory_70 rfl (by first | omega | (simp; done) | assumption) ?_
              have hEL := EL_D (n := n9) hS hcn
              have hb44 := b44 hb
              first
                | exact h1 (by
                    rcases e3 (by assumption) with q | ⟨i, hi, q⟩
                    · rw [q]; exact thD_1 _ _
                    · have q9 := (hE2 i hi).2
                      have q8 := hb44 i
                      refine hEL.1 i hi ?_
                      unfold wrI at q
                      omega) _ K1 Y1
                | exact h2 (fun z => by have := thD_b hS z; omega) _ K1 Y1
                | exact h2 (fun z => by
                    have hb9 := thD_b hS z
                    refine hEL.2 (fun i hi q => ?_) (e4 (by omega)).1 z
                    have q8 := (e4 (by omega)).2 i (by omega)
                    unfold wrI at q8
                    omega) _ K1 Y1
        · skip
          refine wq_iload_n (pc := 27) dX7_hasDirectory_27 rfl rfl ?_
          refine wq_if_ne (pc := 28) (tgt := 45) dX7_hasDirectory_28 (by decide) (by first | (unfold inR; omega) | assumption) (fun c7 => ?_) (fun c7 => ?_)
          · skip
            refine wq_iconst (pc := 45) dX7_hasDirectory_45 ?_
            refine wq_goto (pc := 46) (tgt := 50) dX7_hasDirectory_46 (by decide) ?_
            refine wq_istore_n (pc := 50) (L' := [(2, _), (0, _), (1, _), (3, _)]) dX7_hasDirectory_50 rfl rfl (by decide) ?_
            refine wq_iinc (pc := 51) (L' := [(3, _), (2, _), (0, _), (1, _)]) dX7_hasDirectory_51 rfl rfl (by decide) ?_
            refine wq_goto (pc := 54) (tgt := 17) dX7_hasDirectory_54 (by decide) ?_
            refine wq_sub1 (L' := [(0, _), (1, _), (2, _), (3, _)]) ⟨rfl, rfl, rfl, rfl, trivial⟩ ?_
            have q9 := hE2k (by omega)
            first
              | (exfalso; omega)
              | exact ih (k + 1) _ _ (by omega) (by omega) (by omega) (Or.inr rfl) (by omega) (fun _ => e3 (by assumption)) (fun z => absurd z (by decide))
              | exact ih (k + 1) _ _ (by omega) (by omega) (by omega) (Or.inr rfl) (by omega) (fun _ => Or.inr ⟨k, by omega, by omega⟩) (fun z => absurd z (by decide))
              | exact ih (k + 1) _ _ (by omega) (by omega) (by omega) (Or.inl rfl) (by omega) (fun z => absurd rfl z) (fun _ => ⟨(e4 (by omega)).1, fun i hi => by
                  by_cases c9 : i = k
                  · rw [c9]; omega
                  · exact (e4 (by omega)).2 i (by omega)⟩)
          · skip
            refine wq_aload_n (pc := 31) dX7_hasDirectory_31 rfl rfl ?_
            refine wq_getS (pc := 32) dX7_hasDirectory_32 hs (gf_X7_78 _ rfl) rfl rfl rfl rfl rfl ?_
            refine wq_iload_n (pc := 35) dX7_hasDirectory_35 rfl rfl ?_
            refine wq_ialdK (pc := 36) dX7_hasDirectory_36 hs rfl (by omega) (by omega) ?_
            refine wq_iconst (pc := 37) dX7_hasDirectory_37 ?_
            refine wq_iload_n (pc := 38) dX7_hasDirectory_38 rfl rfl ?_
            refine wq_imul (pc := 39) dX7_hasDirectory_39 ?_
            refine wq_iconst (pc := 40) dX7_hasDirectory_40 ?_
            refine wq_iadd (pc := 41) dX7_hasDirectory_41 ?_
            refine wq_wrap ?_
            refine wq_icmp_ne (pc := 42) (tgt := 49) dX7_hasDirectory_42 (by decide) (by first | (unfold inR; omega) | assumption) (by first | (unfold inR; omega) | assumption) (fun c8 => ?_) (fun c8 => ?_)
            · skip
              refine wq_iconst (pc := 49) dX7_hasDirectory_49 ?_
              refine wq_istore_n (pc := 50) (L' := [(2, _), (0, _), (1, _), (3, _)]) dX7_hasDirectory_50 rfl rfl (by decide) ?_
              refine wq_iinc (pc := 51) (L' := [(3, _), (2, _), (0, _), (1, _)]) dX7_hasDirectory_51 rfl rfl (by decide) ?_
              refine wq_goto (pc := 54) (tgt := 17) dX7_hasDirectory_54 (by decide) ?_
              refine wq_sub1 (L' := [(0, _), (1, _), (2, _), (3, _)]) ⟨rfl, rfl, rfl, rfl, trivial⟩ ?_
              have q9 := hE2k (by omega)
              first
                | (exfalso; omega)
                | exact ih (k + 1) _ _ (by omega) (by omega) (by omega) (Or.inr rfl) (by omega) (fun _ => e3 (by assumption)) (fun z => absurd z (by decide))
                | exact ih (k + 1) _ _ (by omega) (by omega) (by omega) (Or.inr rfl) (by omega) (fun _ => Or.inr ⟨k, by omega, by omega⟩) (fun z => absurd z (by decide))
                | exact ih (k + 1) _ _ (by omega) (by omega) (by omega) (Or.inl rfl) (by omega) (fun z => absurd rfl z) (fun _ => ⟨(e4 (by omega)).1, fun i hi => by
                    by_cases c9 : i = k
                    · rw [c9]; omega
                    · exact (e4 (by omega)).2 i (by omega)⟩)
            · skip
              refine wq_iconst (pc := 45) dX7_hasDirectory_45 ?_
              refine wq_goto (pc := 46) (tgt := 50) dX7_hasDirectory_46 (by decide) ?_
              refine wq_istore_n (pc := 50) (L' := [(2, _), (0, _), (1, _), (3, _)]) dX7_hasDirectory_50 rfl rfl (by decide) ?_
              refine wq_iinc (pc := 51) (L' := [(3, _), (2, _), (0, _), (1, _)]) dX7_hasDirectory_51 rfl rfl (by decide) ?_
              refine wq_goto (pc := 54) (tgt := 17) dX7_hasDirectory_54 (by decide) ?_
              refine wq_sub1 (L' := [(0, _), (1, _), (2, _), (3, _)]) ⟨rfl, rfl, rfl, rfl, trivial⟩ ?_
              have q9 := hE2k (by omega)
              first
                | (exfalso; omega)
                | exact ih (k + 1) _ _ (by omega) (by omega) (by omega) (Or.inr rfl) (by omega) (fun _ => e3 (by assumption)) (fun z => absurd z (by decide))
                | exact ih (k + 1) _ _ (by omega) (by omega) (by omega) (Or.inr rfl) (by omega) (fun _ => Or.inr ⟨k, by omega, by omega⟩) (fun z => absurd z (by decide))
                | exact ih (k + 1) _ _ (by omega) (by omega) (by omega) (Or.inl rfl) (by omega) (fun z => absurd rfl z) (fun _ => ⟨(e4 (by omega)).1, fun i hi => by
                    by_cases c9 : i = k
                    · rw [c9]; omega
                    · exact (e4 (by omega)).2 i (by omega)⟩)
    refine wq_sub1 (L' := [(0, _), (1, _), (2, _), (3, _)]) ⟨rfl, rfl, rfl, rfl, trivial⟩ ?_
    exact loop3 129 0 _ _ (by omega) (by omega) (by omega) (by first | exact Or.inr rfl | exact Or.inl rfl) (by omega) (fun z => by first | exact absurd rfl z | exact Or.inl (by assumption)) (fun z => by first | exact absurd z (by decide) | exact ⟨by assumption, fun i hi => absurd hi (Nat.not_lt_zero i)⟩)
  · skip
    refine wq_iconst (pc := 9) dX7_hasDirectory_9 ?_
    refine wq_goto (pc := 10) (tgt := 14) dX7_hasDirectory_10 (by decide) ?_
    refine wq_istore_n (pc := 14) (L' := [(2, _), (0, _), (1, _)]) dX7_hasDirectory_14 rfl rfl (by decide) ?_
    refine wq_iconst (pc := 15) dX7_hasDirectory_15 ?_
    refine wq_istore_n (pc := 16) (L' := [(3, _), (2, _), (0, _), (1, _)]) dX7_hasDirectory_16 rfl rfl (by decide) ?_
    have loop9 : ∀ (n k : Nat), ∀ (w : Int) (j : Int), k ≤ 128 → 128 < k + n → j = (k : Int) → w = 0 ∨ w = 1 → (k : Int) ≤ el.length → (w ≠ 0 → n9 = 1 ∨ hasV el (wrI (2 * n9 + 1))) → (w = 0 → n9 ≠ 1 ∧ ∀ i : Nat, i < k → (el.getD i PZ2).2 ≠ wrI (2 * n9 + 1)) → wp mX7_hasDirectory 17 [(0, vR 21), (1, vI n9), (2, vI w), (3, vI j)] [] m1 ε Q := by
      intro n
      induction n with
      | zero => intro k w j hk1 hk2 e0 e1 e2 e3 e4; exact absurd hk2 (by omega)
      | succ n ih =>
        intro k w j hk1 hk2 e0 e1 e2 e3 e4
        subst e0
        have rk : inR (k : Int) := by unfold inR; omega
        have rw1 : inR w := by unfold inR; omega
        have r44 : inR (m1 44 (k : Int)) := (mR_of hb) 44 _ (by decide) (by decide) (by decide)
        have hE2k := fun z => hE2 k z
        refine wq_iload_n (pc := 17) dX7_hasDirectory_17 rfl rfl ?_
        refine wq_aload_n (pc := 18) dX7_hasDirectory_18 rfl rfl ?_
        refine wq_getS (pc := 19) dX7_hasDirectory_19 hs (gf_X7_81 _ rfl) rfl rfl rfl rfl rfl ?_
        refine wq_iconst (pc := 22) dX7_hasDirectory_22 ?_
        refine wq_ialdK (pc := 23) dX7_hasDirectory_23 hs rfl (by omega) (by omega) ?_
        refine wq_icmp_ge (pc := 24) (tgt := 57) dX7_hasDirectory_24 (by decide) (by first | (unfold inR; omega) | assumption) (by first | (unfold inR; omega) | assumption) (fun c10 => ?_) (fun c10 => ?_)
        · skip
          refine wq_iload_n (pc := 57) dX7_hasDirectory_57 rfl rfl ?_
          refine wq_if_eq (pc := 58) (tgt := 69) dX7_hasDirectory_58 (by decide) (by first | (unfold inR; omega) | assumption) (fun c11 => ?_) (fun c11 => ?_)
          · skip
            refine wq_iconst (pc := 69) dX7_hasDirectory_69 ?_
            refine wq_zret (pc := 70) dX7_hasDirectory_70 rfl (by first | omega | (simp; done) | assumption) ?_
            have hEL := EL_D (n := n9) hS hcn
            have hb44 := b44 hb
            first
              | exact h1 (by
                  rcases e3 (by assumption) with q | ⟨i, hi, q⟩
                  · rw [q]; exact thD_1 _ _
                  · have q9 := (hE2 i hi).2
                    have q8 := hb44 i
                    refine hEL.1 i hi ?_
                    unfold wrI at q
                    omega) _ K1 Y1
              | exact h2 (fun z => by have := thD_b hS z; omega) _ K1 Y1
              | exact h2 (fun z => by
                  have hb9 := thD_b hS z
                  refine hEL.2 (fun i hi q => ?_) (e4 (by omega)).1 z
                  have q8 := (e4 (by omega)).2 i (by omega)
                  unfold wrI at q8
                  omega) _ K1 Y1
          · skip
            refine wq_iload_n (pc := 61) dX7_hasDirectory_61 rfl rfl ?_
            refine wq_if_le (pc := 62) (tgt := 69) dX7_hasDirectory_62 (by decide) (by first | (unfold inR; omega) | assumption) (fun c12 => ?_) (fun c12 => ?_)
            · skip
              refine wq_iconst (pc := 69) dX7_hasDirectory_69 ?_
              refine wq_zret (pc := 70) dX7_hasDirectory_70 rfl (by first | omega | (simp; done) | assumption) ?_
              have hEL := EL_D (n := n9) hS hcn
              have hb44 := b44 hb
              first
                | exact h1 (by
                    rcases e3 (by assumption) with q | ⟨i, hi, q⟩
                    · rw [q]; exact thD_1 _ _
                    · have q9 := (hE2 i hi).2
                      have q8 := hb44 i
                      refine hEL.1 i hi ?_
                      unfold wrI at q
                      omega) _ K1 Y1
                | exact h2 (fun z => by have := thD_b hS z; omega) _ K1 Y1
                | exact h2 (fun z => by
                    have hb9 := thD_b hS z
                    refine hEL.2 (fun i hi q => ?_) (e4 (by omega)).1 z
                    have q8 := (e4 (by omega)).2 i (by omega)
                    unfold wrI at q8
                    omega) _ K1 Y1
            · skip
              refine wq_iconst (pc := 65) dX7_hasDirectory_65 ?_
              refine wq_goto (pc := 66) (tgt := 70) dX7_hasDirectory_66 (by decide) ?_
              refine wq_zret (pc := 70) dX7_hasDirectory_70 rfl (by first | omega | (simp; done) | assumption) ?_
              have hEL := EL_D (n := n9) hS hcn
              have hb44 := b44 hb
              first
                | exact h1 (by
                    rcases e3 (by assumption) with q | ⟨i, hi, q⟩
                    · rw [q]; exact thD_1 _ _
                    · have q9 := (hE2 i hi).2
                      have q8 := hb44 i
                      refine hEL.1 i hi ?_
                      unfold wrI at q
                      omega) _ K1 Y1
                | exact h2 (fun z => by have := thD_b hS z; omega) _ K1 Y1
                | exact h2 (fun z => by
                    have hb9 := thD_b hS z
                    refine hEL.2 (fun i hi q => ?_) (e4 (by omega)).1 z
                    have q8 := (e4 (by omega)).2 i (by omega)
                    unfold wrI at q8
                    omega) _ K1 Y1
        · skip
          refine wq_iload_n (pc := 27) dX7_hasDirectory_27 rfl rfl ?_
          refine wq_if_ne (pc := 28) (tgt := 45) dX7_hasDirectory_28 (by decide) (by first | (unfold inR; omega) | assumption) (fun c13 => ?_) (fun c13 => ?_)
          · skip
            refine wq_iconst (pc := 45) dX7_hasDirectory_45 ?_
            refine wq_goto (pc := 46) (tgt := 50) dX7_hasDirectory_46 (by decide) ?_
            refine wq_istore_n (pc := 50) (L' := [(2, _), (0, _), (1, _), (3, _)]) dX7_hasDirectory_50 rfl rfl (by decide) ?_
            refine wq_iinc (pc := 51) (L' := [(3, _), (2, _), (0, _), (1, _)]) dX7_hasDirectory_51 rfl rfl (by decide) ?_
            refine wq_goto (pc := 54) (tgt := 17) dX7_hasDirectory_54 (by decide) ?_
            refine wq_sub1 (L' := [(0, _), (1, _), (2, _), (3, _)]) ⟨rfl, rfl, rfl, rfl, trivial⟩ ?_
            have q9 := hE2k (by omega)
            first
              | (exfalso; omega)
              | exact ih (k + 1) _ _ (by omega) (by omega) (by omega) (Or.inr rfl) (by omega) (fun _ => e3 (by assumption)) (fun z => absurd z (by decide))
              | exact ih (k + 1) _ _ (by omega) (by omega) (by omega) (Or.inr rfl) (by omega) (fun _ => Or.inr ⟨k, by omega, by omega⟩) (fun z => absurd z (by decide))
              | exact ih (k + 1) _ _ (by omega) (by omega) (by omega) (Or.inl rfl) (by omega) (fun z => absurd rfl z) (fun _ => ⟨(e4 (by omega)).1, fun i hi => by
                  by_cases c9 : i = k
                  · rw [c9]; omega
                  · exact (e4 (by omega)).2 i (by omega)⟩)
          · skip
            refine wq_aload_n (pc := 31) dX7_hasDirectory_31 rfl rfl ?_
            refine wq_getS (pc := 32) dX7_hasDirectory_32 hs (gf_X7_78 _ rfl) rfl rfl rfl rfl rfl ?_
            refine wq_iload_n (pc := 35) dX7_hasDirectory_35 rfl rfl ?_
            refine wq_ialdK (pc := 36) dX7_hasDirectory_36 hs rfl (by omega) (by omega) ?_
            refine wq_iconst (pc := 37) dX7_hasDirectory_37 ?_
            refine wq_iload_n (pc := 38) dX7_hasDirectory_38 rfl rfl ?_
            refine wq_imul (pc := 39) dX7_hasDirectory_39 ?_
            refine wq_iconst (pc := 40) dX7_hasDirectory_40 ?_
            refine wq_iadd (pc := 41) dX7_hasDirectory_41 ?_
            refine wq_wrap ?_
            refine wq_icmp_ne (pc := 42) (tgt := 49) dX7_hasDirectory_42 (by decide) (by first | (unfold inR; omega) | assumption) (by first | (unfold inR; omega) | assumption) (fun c14 => ?_) (fun c14 => ?_)
            · skip
              refine wq_iconst (pc := 49) dX7_hasDirectory_49 ?_
              refine wq_istore_n (pc := 50) (L' := [(2, _), (0, _), (1, _), (3, _)]) dX7_hasDirectory_50 rfl rfl (by decide) ?_
              refine wq_iinc (pc := 51) (L' := [(3, _), (2, _), (0, _), (1, _)]) dX7_hasDirectory_51 rfl rfl (by decide) ?_
              refine wq_goto (pc := 54) (tgt := 17) dX7_hasDirectory_54 (by decide) ?_
              refine wq_sub1 (L' := [(0, _), (1, _), (2, _), (3, _)]) ⟨rfl, rfl, rfl, rfl, trivial⟩ ?_
              have q9 := hE2k (by omega)
              first
                | (exfalso; omega)
                | exact ih (k + 1) _ _ (by omega) (by omega) (by omega) (Or.inr rfl) (by omega) (fun _ => e3 (by assumption)) (fun z => absurd z (by decide))
                | exact ih (k + 1) _ _ (by omega) (by omega) (by omega) (Or.inr rfl) (by omega) (fun _ => Or.inr ⟨k, by omega, by omega⟩) (fun z => absurd z (by decide))
                | exact ih (k + 1) _ _ (by omega) (by omega) (by omega) (Or.inl rfl) (by omega) (fun z => absurd rfl z) (fun _ => ⟨(e4 (by omega)).1, fun i hi => by
                    by_cases c9 : i = k
                    · rw [c9]; omega
                    · exact (e4 (by omega)).2 i (by omega)⟩)
            · skip
              refine wq_iconst (pc := 45) dX7_hasDirectory_45 ?_
              refine wq_goto (pc := 46) (tgt := 50) dX7_hasDirectory_46 (by decide) ?_
              refine wq_istore_n (pc := 50) (L' := [(2, _), (0, _), (1, _), (3, _)]) dX7_hasDirectory_50 rfl rfl (by decide) ?_
              refine wq_iinc (pc := 51) (L' := [(3, _), (2, _), (0, _), (1, _)]) dX7_hasDirectory_51 rfl rfl (by decide) ?_
              refine wq_goto (pc := 54) (tgt := 17) dX7_hasDirectory_54 (by decide) ?_
              refine wq_sub1 (L' := [(0, _), (1, _), (2, _), (3, _)]) ⟨rfl, rfl, rfl, rfl, trivial⟩ ?_
              have q9 := hE2k (by omega)
              first
                | (exfalso; omega)
                | exact ih (k + 1) _ _ (by omega) (by omega) (by omega) (Or.inr rfl) (by omega) (fun _ => e3 (by assumption)) (fun z => absurd z (by decide))
                | exact ih (k + 1) _ _ (by omega) (by omega) (by omega) (Or.inr rfl) (by omega) (fun _ => Or.inr ⟨k, by omega, by omega⟩) (fun z => absurd z (by decide))
                | exact ih (k + 1) _ _ (by omega) (by omega) (by omega) (Or.inl rfl) (by omega) (fun z => absurd rfl z) (fun _ => ⟨(e4 (by omega)).1, fun i hi => by
                    by_cases c9 : i = k
                    · rw [c9]; omega
                    · exact (e4 (by omega)).2 i (by omega)⟩)
    refine wq_sub1 (L' := [(0, _), (1, _), (2, _), (3, _)]) ⟨rfl, rfl, rfl, rfl, trivial⟩ ?_
    exact loop9 129 0 _ _ (by omega) (by omega) (by omega) (by first | exact Or.inr rfl | exact Or.inl rfl) (by omega) (fun z => by first | exact absurd rfl z | exact Or.inl (by assumption)) (fun z => by first | exact absurd z (by decide) | exact ⟨by assumption, fun i hi => absurd hi (Nat.not_lt_zero i)⟩)
theorem sp_X7_fileAt {μ : nMem} {ε : nEnv} {Q : nOut → nMem → nEnv → Prop} {F : Fl} {f : Int} (hK : KM F μ ε) (hA : KP F) (rf : inR f) (h1 : thFf F f → ∀ m a, KL F m ε → FrY μ m → 0 ≤ a → a < 128 → m 46 a = f → CO F f a m → Q (.inl (some (vI a))) m ε) (h2 : ¬ thFf F f → ∀ m, KL F m ε → FrY μ m → Q (.inl (some (vI (-1)))) m ε) : Sp mX7_fileAt [vR 21, vI f] μ ε Q := by
  refine Sp_of (L := [(0, vR 21), (1, vI f)]) (by decide) rfl rfl (Nat.le_of_ble_eq_true rfl) ?_
  obtain ⟨hs, -, -, -⟩ := id hK
  refine wq_aload_n (pc := 0) dX7_fileAt_0 rfl rfl ?_
  refine cVK_0 (pc := 1) dX7_fileAt_1 hs (cw_X7_168 _ rfl) (by decide) rfl ⟨by decide, by decide⟩ (Nat.le_of_ble_eq_true rfl) (sp_X7_layNow hK hA (fun m1 K1 Y1 => ?_))
  refine kr_v ?_
  obtain ⟨⟨hs, hb, hR, hL⟩, h27, hLE, hPr⟩ := id K1
  obtain ⟨el, fl, ⟨hE1, hE2⟩, ⟨hF1, hF2⟩, ⟨hl1, hl2⟩, hcn, hfm, hco, hsrt⟩ := LE_0 hLE
  have r45 : inR (m1 45 0) := by unfold inR; omega
  have r48 : inR (m1 48 0) := by unfold inR; omega
  have hS := PA_NS hA.1
  refine wq_iconst (pc := 4) dX7_fileAt_4 ?_
  refine wq_istore_n (pc := 5) (L' := [(2, _), (0, _), (1, _)]) dX7_fileAt_5 rfl rfl (by decide) ?_
  have loop2 : ∀ (n k : Nat), ∀ (j : Int), k ≤ 128 → 128 < k + n → j = (k : Int) → (k : Int) ≤ fl.length → (∀ i : Nat, i < k → fl.getD i 0 ≠ f) → wp mX7_fileAt 6 [(0, vR 21), (1, vI f), (2, vI j)] [] m1 ε Q := by
    intro n
    induction n with
    | zero => intro k j hk1 hk2 e0 e1 e2; exact absurd hk2 (by omega)
    | succ n ih =>
      intro k j hk1 hk2 e0 e1 e2
      subst e0
      have rk : inR (k : Int) := by unfold inR; omega
      have r46 : inR (m1 46 (k : Int)) := (mR_of hb) 46 _ (by decide) (by decide) (by decide)
      have hF2k := fun z => hF2 k z
      refine wq_iload_n (pc := 6) dX7_fileAt_6 rfl rfl ?_
      refine wq_aload_n (pc := 7) dX7_fileAt_7 rfl rfl ?_
      refine wq_getS (pc := 8) dX7_fileAt_8 hs (gf_X7_90 _ rfl) rfl rfl rfl rfl rfl ?_
      refine wq_iconst (pc := 11) dX7_fileAt_11 ?_
      refine wq_ialdK (pc := 12) dX7_fileAt_12 hs rfl (by omega) (by omega) ?_
      refine wq_icmp_ge (pc := 13) (tgt := 34) dX7_fileAt_13 (by decide) (by first | (unfold inR; omega) | assumption) (by first | (unfold inR; omega) | assumption) (fun c3 => ?_) (fun c3 => ?_)
      · skip
        refine wq_iconst (pc := 34) dX7_fileAt_34 ?_
        refine wq_iret (pc := 35) dX7_fileAt_35 rfl ?_
        first
          | (have q9 := hF2 k (by omega)
             have q8 : fl.getD k 0 = f := by omega
             have q7 := hco k (by omega)
             rw [q8] at q7
             exact h1 ((hfm f).mp (by rw [← q8]; exact lget_mem 0 (by omega))) _ _ K1 Y1 (by omega) (by omega) (by omega) q7)
          | exact h2 (fun z => by
              obtain ⟨i, hi, e⟩ := mem_lget 0 ((hfm f).mpr z)
              exact e2 i (by omega) e) _ K1 Y1
      · skip
        refine wq_aload_n (pc := 16) dX7_fileAt_16 rfl rfl ?_
        refine wq_getS (pc := 17) dX7_fileAt_17 hs (gf_X7_84 _ rfl) rfl rfl rfl rfl rfl ?_
        refine wq_iload_n (pc := 20) dX7_fileAt_20 rfl rfl ?_
        refine wq_ialdK (pc := 21) dX7_fileAt_21 hs rfl (by omega) (by omega) ?_
        refine wq_iload_n (pc := 22) dX7_fileAt_22 rfl rfl ?_
        refine wq_icmp_ne (pc := 23) (tgt := 28) dX7_fileAt_23 (by decide) (by first | (unfold inR; omega) | assumption) (by first | (unfold inR; omega) | assumption) (fun c4 => ?_) (fun c4 => ?_)
        · skip
          refine wq_iinc (pc := 28) (L' := [(2, _), (0, _), (1, _)]) dX7_fileAt_28 rfl rfl (by decide) ?_
          refine wq_goto (pc := 31) (tgt := 6) dX7_fileAt_31 (by decide) ?_
          refine wq_sub1 (L' := [(0, _), (1, _), (2, _)]) ⟨rfl, rfl, rfl, trivial⟩ ?_
          have q9 := hF2k (by omega)
          exact ih (k + 1) _ (by omega) (by omega) (by omega) (by omega) (fun i hi => by
            by_cases c9 : i = k
            · rw [c9, ← q9]; omega
            · exact e2 i (by omega))
        · skip
          refine wq_iload_n (pc := 26) dX7_fileAt_26 rfl rfl ?_
          refine wq_iret (pc := 27) dX7_fileAt_27 rfl ?_
          first
            | (have q9 := hF2 k (by omega)
               have q8 : fl.getD k 0 = f := by omega
               have q7 := hco k (by omega)
               rw [q8] at q7
               exact h1 ((hfm f).mp (by rw [← q8]; exact lget_mem 0 (by omega))) _ _ K1 Y1 (by omega) (by omega) (by omega) q7)
            | exact h2 (fun z => by
                obtain ⟨i, hi, e⟩ := mem_lget 0 ((hfm f).mpr z)
                exact e2 i (by omega) e) _ K1 Y1
  refine wq_sub1 (L' := [(0, _), (1, _), (2, _)]) ⟨rfl, rfl, rfl, trivial⟩ ?_
  exact loop2 129 0 _ (by omega) (by omega) (by omega) (by omega) (fun i hi => absurd hi (Nat.not_lt_zero i))
theorem sp_X7_namesIn {μ : nMem} {ε : nEnv} {Q : nOut → nMem → nEnv → Prop} {F : Fl} {d : Int} (hK : KM F μ ε) (hA : KP F) (hd : thDf F d) (h : ∀ m, KL F m ε → FrY μ m → Q (.inl (some (vI (cntN (TG F d) 99)))) m ε) : Sp mX7_namesIn [vR 21, vI d] μ ε Q := by
  refine Sp_of (L := [(0, vR 21), (1, vI d)]) (by decide) rfl rfl (Nat.le_of_ble_eq_true rfl) ?_
  obtain ⟨hs, -, -, -⟩ := id hK
  have hdb := thD_b (PA_NS hA.1) hd
  have rd : inR d := by unfold inR; omega
  refine wq_aload_n (pc := 0) dX7_namesIn_0 rfl rfl ?_
  refine cVK_0 (pc := 1) dX7_namesIn_1 hs (cw_X7_168 _ rfl) (by decide) rfl ⟨by decide, by decide⟩ (Nat.le_of_ble_eq_true rfl) (sp_X7_layNow hK hA (fun m1 K1 Y1 => ?_))
  refine kr_v ?_
  obtain ⟨⟨hs, hb, hR, hL⟩, h27, hLE, hPr⟩ := id K1
  obtain ⟨el, fl, ⟨hE1, hE2⟩, ⟨hF1, hF2⟩, ⟨hl1, hl2⟩, hcn, hfm, hco, hsrt⟩ := LE_0 hLE
  have r45 : inR (m1 45 0) := by unfold inR; omega
  have r48 : inR (m1 48 0) := by unfold inR; omega
  have hS := PA_NS hA.1
  refine wq_iconst (pc := 4) dX7_namesIn_4 ?_
  refine wq_istore_n (pc := 5) (L' := [(2, _), (0, _), (1, _)]) dX7_namesIn_5 rfl rfl (by decide) ?_
  refine wq_iconst (pc := 6) dX7_namesIn_6 ?_
  refine wq_istore_n (pc := 7) (L' := [(3, _), (2, _), (0, _), (1, _)]) dX7_namesIn_7 rfl rfl (by decide) ?_
  have loop2 : ∀ (n k : Nat), ∀ (w : Int) (j : Int), k ≤ 128 → 128 < k + n → j = (k : Int) → (k : Int) ≤ el.length → w = cntL (fun x => x.1 / 100 = d) (el.take k) → wp mX7_namesIn 8 [(0, vR 21), (1, vI d), (2, vI w), (3, vI j)] [] m1 ε Q := by
    intro n
    induction n with
    | zero => intro k w j hk1 hk2 e0 e1 e2; exact absurd hk2 (by omega)
    | succ n ih =>
      intro k w j hk1 hk2 e0 e1 e2
      subst e0
      have rk : inR (k : Int) := by unfold inR; omega
      have hcb := cntL_nn (fun x : Int × Int => x.1 / 100 = d) (el.take k)
      have hcl := List.length_take_le k el
      have g43 := b43 hb (k : Int)
      have g44 := b44 hb (k : Int)
      have r9 : inR (m1 43 (k : Int) / 100) := by unfold inR; omega
      have r8 : inR (m1 44 (k : Int) / 2) := by unfold inR; omega
      have hE2k := fun z => hE2 k z
      have hcs := fun z => cntL_s (fun x : Int × Int => x.1 / 100 = d) PZ2 (l := el) (k := k) z
      refine wq_iload_n (pc := 8) dX7_namesIn_8 rfl rfl ?_
      refine wq_aload_n (pc := 9) dX7_namesIn_9 rfl rfl ?_
      refine wq_getS (pc := 10) dX7_namesIn_10 hs (gf_X7_81 _ rfl) rfl rfl rfl rfl rfl ?_
      refine wq_iconst (pc := 13) dX7_namesIn_13 ?_
      refine wq_ialdK (pc := 14) dX7_namesIn_14 hs rfl (by omega) (by omega) ?_
      refine wq_icmp_ge (pc := 15) (tgt := 45) dX7_namesIn_15 (by decide) (by first | (unfold inR; omega) | assumption) (by first | (unfold inR; omega) | assumption) (fun c3 => ?_) (fun c3 => ?_)
      · skip
        refine wq_iload_n (pc := 45) dX7_namesIn_45 rfl rfl ?_
        refine wq_iret (pc := 46) dX7_namesIn_46 rfl ?_
        have hk : k = el.length := by omega
        rw [hk, List.take_length, EL_nm hS hcn hd] at e2
        rw [e2]; exact h _ K1 Y1
      · skip
        refine wq_iload_n (pc := 18) dX7_namesIn_18 rfl rfl ?_
        refine wq_aload_n (pc := 19) dX7_namesIn_19 rfl rfl ?_
        refine wq_getS (pc := 20) dX7_namesIn_20 hs (gf_X7_75 _ rfl) rfl rfl rfl rfl rfl ?_
        refine wq_iload_n (pc := 23) dX7_namesIn_23 rfl rfl ?_
        refine wq_ialdK (pc := 24) dX7_namesIn_24 hs rfl (by omega) (by omega) ?_
        refine wq_bipush (pc := 25) dX7_namesIn_25 (by decide) (by decide) ?_
        refine wq_idiv (pc := 27) dX7_namesIn_27 (by omega) (by omega) ?_
        refine wq_iload_n (pc := 28) dX7_namesIn_28 rfl rfl ?_
        refine wq_icmp_ne (pc := 29) (tgt := 36) dX7_namesIn_29 (by decide) (by first | (unfold inR; omega) | assumption) (by first | (unfold inR; omega) | assumption) (fun c4 => ?_) (fun c4 => ?_)
        · skip
          refine wq_iconst (pc := 36) dX7_namesIn_36 ?_
          refine wq_iadd (pc := 37) dX7_namesIn_37 ?_
          refine wq_istore_n (pc := 38) (L' := [(2, _), (0, _), (1, _), (3, _)]) dX7_namesIn_38 rfl rfl (by decide) ?_
          refine wq_iinc (pc := 39) (L' := [(3, _), (2, _), (0, _), (1, _)]) dX7_namesIn_39 rfl rfl (by decide) ?_
          refine wq_goto (pc := 42) (tgt := 8) dX7_namesIn_42 (by decide) ?_
          refine wq_sub1 (L' := [(0, _), (1, _), (2, _), (3, _)]) ⟨rfl, rfl, rfl, rfl, trivial⟩ ?_
          have q9 := hE2k (by omega)
          refine ih (k + 1) _ _ (by omega) (by omega) (by omega) (by omega) ?_
          rw [hcs (by omega), ← e2]
          first
            | rw [pI_1 (show (el.getD k PZ2).1 / 100 = d by omega)]
            | rw [pI_0 (show ¬ (el.getD k PZ2).1 / 100 = d by omega)]
        · skip
          refine wq_iconst (pc := 32) dX7_namesIn_32 ?_
          refine wq_goto (pc := 33) (tgt := 37) dX7_namesIn_33 (by decide) ?_
          refine wq_iadd (pc := 37) dX7_namesIn_37 ?_
          refine wq_istore_n (pc := 38) (L' := [(2, _), (0, _), (1, _), (3, _)]) dX7_namesIn_38 rfl rfl (by decide) ?_
          refine wq_iinc (pc := 39) (L' := [(3, _), (2, _), (0, _), (1, _)]) dX7_namesIn_39 rfl rfl (by decide) ?_
          refine wq_goto (pc := 42) (tgt := 8) dX7_namesIn_42 (by decide) ?_
          refine wq_sub1 (L' := [(0, _), (1, _), (2, _), (3, _)]) ⟨rfl, rfl, rfl, rfl, trivial⟩ ?_
          have q9 := hE2k (by omega)
          refine ih (k + 1) _ _ (by omega) (by omega) (by omega) (by omega) ?_
          rw [hcs (by omega), ← e2]
          first
            | rw [pI_1 (show (el.getD k PZ2).1 / 100 = d by omega)]
            | rw [pI_0 (show ¬ (el.getD k PZ2).1 / 100 = d by omega)]
  refine wq_sub1 (L' := [(0, _), (1, _), (2, _), (3, _)]) ⟨rfl, rfl, rfl, rfl, trivial⟩ ?_
  exact loop2 129 0 _ _ (by omega) (by omega) (by omega) (by omega) rfl
theorem sp_X7_linksOf {μ : nMem} {ε : nEnv} {Q : nOut → nMem → nEnv → Prop} {F : Fl} {n9 : Int} (hK : KM F μ ε) (hA : KP F) (hn : n9 ≠ 0) (rn : inR n9) (h : ∀ m, KL F m ε → FrY μ m → Q (.inl (some (vI ((lk (TG F) (TD F) n9 2048 : Nat) : Int)))) m ε) : Sp mX7_linksOf [vR 21, vI n9] μ ε Q := by
  refine Sp_of (L := [(0, vR 21), (1, vI n9)]) (by decide) rfl rfl (Nat.le_of_ble_eq_true rfl) ?_
  obtain ⟨hs, -, -, -⟩ := id hK
  refine wq_aload_n (pc := 0) dX7_linksOf_0 rfl rfl ?_
  refine cVK_0 (pc := 1) dX7_linksOf_1 hs (cw_X7_168 _ rfl) (by decide) rfl ⟨by decide, by decide⟩ (Nat.le_of_ble_eq_true rfl) (sp_X7_layNow hK hA (fun m1 K1 Y1 => ?_))
  refine kr_v ?_
  obtain ⟨⟨hs, hb, hR, hL⟩, h27, hLE, hPr⟩ := id K1
  obtain ⟨el, fl, ⟨hE1, hE2⟩, ⟨hF1, hF2⟩, ⟨hl1, hl2⟩, hcn, hfm, hco, hsrt⟩ := LE_0 hLE
  have r45 : inR (m1 45 0) := by unfold inR; omega
  have r48 : inR (m1 48 0) := by unfold inR; omega
  have hS := PA_NS hA.1
  refine wq_iconst (pc := 4) dX7_linksOf_4 ?_
  refine wq_istore_n (pc := 5) (L' := [(2, _), (0, _), (1, _)]) dX7_linksOf_5 rfl rfl (by decide) ?_
  refine wq_iconst (pc := 6) dX7_linksOf_6 ?_
  refine wq_istore_n (pc := 7) (L' := [(3, _), (2, _), (0, _), (1, _)]) dX7_linksOf_7 rfl rfl (by decide) ?_
  have loop2 : ∀ (n k : Nat), ∀ (w : Int) (j : Int), k ≤ 128 → 128 < k + n → j = (k : Int) → (k : Int) ≤ el.length → w = cntL (fun x => x.2 / 2 = n9) (el.take k) → wp mX7_linksOf 8 [(0, vR 21), (1, vI n9), (2, vI w), (3, vI j)] [] m1 ε Q := by
    intro n
    induction n with
    | zero => intro k w j hk1 hk2 e0 e1 e2; exact absurd hk2 (by omega)
    | succ n ih =>
      intro k w j hk1 hk2 e0 e1 e2
      subst e0
      have rk : inR (k : Int) := by unfold inR; omega
      have hcb := cntL_nn (fun x : Int × Int => x.2 / 2 = n9) (el.take k)
      have hcl := List.length_take_le k el
      have g43 := b43 hb (k : Int)
      have g44 := b44 hb (k : Int)
      have r9 : inR (m1 43 (k : Int) / 100) := by unfold inR; omega
      have r8 : inR (m1 44 (k : Int) / 2) := by unfold inR; omega
      have hE2k := fun z => hE2 k z
      have hcs := fun z => cntL_s (fun x : Int × Int => x.2 / 2 = n9) PZ2 (l := el) (k := k) z
      refine wq_iload_n (pc := 8) dX7_linksOf_8 rfl rfl ?_
      refine wq_aload_n (pc := 9) dX7_linksOf_9 rfl rfl ?_
      refine wq_getS (pc := 10) dX7_linksOf_10 hs (gf_X7_81 _ rfl) rfl rfl rfl rfl rfl ?_
      refine wq_iconst (pc := 13) dX7_linksOf_13 ?_
      refine wq_ialdK (pc := 14) dX7_linksOf_14 hs rfl (by omega) (by omega) ?_
      refine wq_icmp_ge (pc := 15) (tgt := 44) dX7_linksOf_15 (by decide) (by first | (unfold inR; omega) | assumption) (by first | (unfold inR; omega) | assumption) (fun c3 => ?_) (fun c3 => ?_)
      · skip
        refine wq_iload_n (pc := 44) dX7_linksOf_44 rfl rfl ?_
        refine wq_iret (pc := 45) dX7_linksOf_45 rfl ?_
        have hk : k = el.length := by omega
        rw [hk, List.take_length, EL_lk hS hcn hn] at e2
        rw [e2]; exact h _ K1 Y1
      · skip
        refine wq_iload_n (pc := 18) dX7_linksOf_18 rfl rfl ?_
        refine wq_aload_n (pc := 19) dX7_linksOf_19 rfl rfl ?_
        refine wq_getS (pc := 20) dX7_linksOf_20 hs (gf_X7_78 _ rfl) rfl rfl rfl rfl rfl ?_
        refine wq_iload_n (pc := 23) dX7_linksOf_23 rfl rfl ?_
        refine wq_ialdK (pc := 24) dX7_linksOf_24 hs rfl (by omega) (by omega) ?_
        refine wq_iconst (pc := 25) dX7_linksOf_25 ?_
        refine wq_idiv (pc := 26) dX7_linksOf_26 (by omega) (by omega) ?_
        refine wq_iload_n (pc := 27) dX7_linksOf_27 rfl rfl ?_
        refine wq_icmp_ne (pc := 28) (tgt := 35) dX7_linksOf_28 (by decide) (by first | (unfold inR; omega) | assumption) (by first | (unfold inR; omega) | assumption) (fun c4 => ?_) (fun c4 => ?_)
        · skip
          refine wq_iconst (pc := 35) dX7_linksOf_35 ?_
          refine wq_iadd (pc := 36) dX7_linksOf_36 ?_
          refine wq_istore_n (pc := 37) (L' := [(2, _), (0, _), (1, _), (3, _)]) dX7_linksOf_37 rfl rfl (by decide) ?_
          refine wq_iinc (pc := 38) (L' := [(3, _), (2, _), (0, _), (1, _)]) dX7_linksOf_38 rfl rfl (by decide) ?_
          refine wq_goto (pc := 41) (tgt := 8) dX7_linksOf_41 (by decide) ?_
          refine wq_sub1 (L' := [(0, _), (1, _), (2, _), (3, _)]) ⟨rfl, rfl, rfl, rfl, trivial⟩ ?_
          have q9 := hE2k (by omega)
          refine ih (k + 1) _ _ (by omega) (by omega) (by omega) (by omega) ?_
          rw [hcs (by omega), ← e2]
          first
            | rw [pI_1 (show (el.getD k PZ2).2 / 2 = n9 by omega)]
            | rw [pI_0 (show ¬ (el.getD k PZ2).2 / 2 = n9 by omega)]
        · skip
          refine wq_iconst (pc := 31) dX7_linksOf_31 ?_
          refine wq_goto (pc := 32) (tgt := 36) dX7_linksOf_32 (by decide) ?_
          refine wq_iadd (pc := 36) dX7_linksOf_36 ?_
          refine wq_istore_n (pc := 37) (L' := [(2, _), (0, _), (1, _), (3, _)]) dX7_linksOf_37 rfl rfl (by decide) ?_
          refine wq_iinc (pc := 38) (L' := [(3, _), (2, _), (0, _), (1, _)]) dX7_linksOf_38 rfl rfl (by decide) ?_
          refine wq_goto (pc := 41) (tgt := 8) dX7_linksOf_41 (by decide) ?_
          refine wq_sub1 (L' := [(0, _), (1, _), (2, _), (3, _)]) ⟨rfl, rfl, rfl, rfl, trivial⟩ ?_
          have q9 := hE2k (by omega)
          refine ih (k + 1) _ _ (by omega) (by omega) (by omega) (by omega) ?_
          rw [hcs (by omega), ← e2]
          first
            | rw [pI_1 (show (el.getD k PZ2).2 / 2 = n9 by omega)]
            | rw [pI_0 (show ¬ (el.getD k PZ2).2 / 2 = n9 by omega)]
  refine wq_sub1 (L' := [(0, _), (1, _), (2, _), (3, _)]) ⟨rfl, rfl, rfl, rfl, trivial⟩ ?_
  exact loop2 129 0 _ _ (by omega) (by omega) (by omega) (by omega) rfl
