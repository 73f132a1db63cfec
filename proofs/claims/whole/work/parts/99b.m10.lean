/-! ### the reference's lists hold what the present nodes tell -/
abbrev LE2 : Type := List (Int × Int)
def inLay (w x y : Int) : Prop := x = 42 ∨ x = 51 ∨ ((x = 43 ∨ x = 44 ∨ x = 46 ∨ x = 47) ∧ w ≤ y ∧ y < w + 128) ∨ ((x = 45 ∨ x = 48) ∧ y = w / 128) ∨ ((x = 49 ∨ x = 50) ∧ 64 * w ≤ y ∧ y < 64 * w + 8192)
abbrev FrL (w : Int) (μ m : nMem) : Prop := ∀ x y, ¬ inLay w x y → m x y = μ x y
abbrev ctR (F : Fl) (r : Int) : Prop := asgR F r ∧ thDf F (fN F r 3)
abbrev eP (F : Fl) (r : Int) : Int × Int := (100 * fN F r 3 + fN F r 5, 2 * fN F r 10 + fN F r 11)
theorem cR_ex {p : Int → Prop} : ∀ k : Nat, 0 < cR p k → ∃ r : Int, (0 ≤ r ∧ r < k) ∧ p r
  | 0, h => absurd h (by show ¬ (0 : Int) < 0; omega)
  | k + 1, h => by
    rw [cR_s] at h
    by_cases c : p k
    · exact ⟨k, by omega, c⟩
    · rw [pI_0 c] at h
      obtain ⟨r, hr, hp⟩ := cR_ex (p := p) k (by omega)
      exact ⟨r, by omega, hp⟩
theorem asgR_b {F : Fl} {r : Int} (hS : NS F) (r0 : 0 ≤ r) (r1 : r < 128) (h : asgR F r) : (1 ≤ fN F r 3 ∧ fN F r 3 ≤ 2000) ∧ (1 ≤ fN F r 5 ∧ fN F r 5 ≤ 99) ∧ (2 ≤ fN F r 10 ∧ fN F r 10 ≤ 2000) ∧ (fN F r 11 = 0 ∨ fN F r 11 = 1) := by
  obtain ⟨w, k⟩ := asgR_rW h
  have h10 : fN F r 10 ≠ 0 := h.2.1
  rcases hS r r0 r1 w with q | q
  · omega
  · omega
theorem thF_row {F : Fl} (hS : NS F) (f : Int) : thFf F f ↔ ∃ r : Int, (0 ≤ r ∧ r < 128) ∧ ctR F r ∧ fN F r 11 = 0 ∧ fN F r 10 = f := by
  constructor
  · rintro ⟨d, nm, hd, hm, ht, h0, hD⟩
    obtain ⟨a1, a2, a3, a4, a5⟩ := TG_asgR (F := F) (d := d) (nm := nm) (by rw [ht]; exact h0)
    refine ⟨_, a1, ⟨a2, by rw [a3]; exact hd⟩, ?_, by rw [a5]; exact ht⟩
    rw [← asgR_TD a1.1 a2, a3, a4]; exact hD
  · rintro ⟨r, ⟨r0, r1⟩, ⟨ha, hd⟩, h11, h10⟩
    have hb := asgR_b hS r0 r1 ha
    exact ⟨fN F r 3, fN F r 5, hd, hb.2.1, by rw [asgR_TG r0 ha]; exact h10, by omega, by rw [asgR_TD r0 ha]; exact h11⟩
/-- the list of entries of some nodes -/
def ELk (F : Fl) (k : Nat) (el : LE2) : Prop := el.length ≤ k ∧ srtE el ∧ ∀ P, cntL P el = cR (fun r => ctR F r ∧ P (eP F r)) k
def FLk (F : Fl) (k : Nat) (fl : List Int) : Prop := fl.length ≤ k ∧ srtI fl ∧ ∀ f, f ∈ fl ↔ ∃ r : Int, (0 ≤ r ∧ r < k) ∧ ctR F r ∧ fN F r 11 = 0 ∧ fN F r 10 = f
theorem ELk_0 (F : Fl) : ELk F 0 [] := ⟨Nat.le_refl _, fun i j _ h => absurd h (Nat.not_lt_zero _), fun _ => rfl⟩
theorem FLk_0 (F : Fl) : FLk F 0 [] := ⟨Nat.le_refl _, fun i j _ h => absurd h (Nat.not_lt_zero _), fun f => ⟨fun h => absurd h (by simp), fun ⟨r, hr, _⟩ => by omega⟩⟩
theorem ELk_no {F : Fl} {k : Nat} {el : LE2} (h : ELk F k el) (hc : ¬ ctR F k) : ELk F (k + 1) el := ⟨Nat.le_succ_of_le h.1, h.2.1, fun P => by rw [h.2.2 P, cR_s, pI_0 (fun z => hc z.1)]; omega⟩
theorem FLk_no {F : Fl} {k : Nat} {fl : List Int} (h : FLk F k fl) (hc : ¬ (ctR F k ∧ fN F k 11 = 0)) : FLk F (k + 1) fl := ⟨Nat.le_succ_of_le h.1, h.2.1, fun f => by
  rw [h.2.2 f]
  constructor
  · rintro ⟨r, hr, z⟩; exact ⟨r, by omega, z⟩
  · rintro ⟨r, hr, z1, z2, z3⟩
    by_cases c : r = k
    · subst c; exact absurd ⟨z1, z2⟩ hc
    · exact ⟨r, by omega, z1, z2, z3⟩⟩
theorem ELk_ne {F : Fl} {k : Nat} {el : LE2} (hS : NS F) (hk : k < 128) (h : ELk F k el) (hc : ctR F k) : ∀ i, i < el.length → (el.getD i PZ2).1 ≠ (eP F k).1 := fun i hi e => by
  have hp := (cntL_pos (P := fun x => x.1 = (eP F k).1) PZ2 el).mpr ⟨i, hi, e⟩
  rw [h.2.2] at hp
  obtain ⟨r, hr, hz, he⟩ := cR_ex k hp
  have b1 := asgR_b hS hr.1 (by omega) hz.1
  have b2 := asgR_b hS (by omega) (by omega) hc.1
  have he : 100 * fN F r 3 + fN F r 5 = 100 * fN F k 3 + fN F k 5 := he
  have := asgR_u hz.1 hc.1 (by omega) (by omega)
  omega
theorem ELk_s {F : Fl} {k j : Nat} {el : LE2} (hS : NS F) (hk : k < 128) (h : ELk F k el) (hc : ctR F k) {e : Int × Int} (he : e = eP F k) (hj : plE el e.1 j) : ELk F (k + 1) (insAt el j e) := by
  refine ⟨by rw [insAt_len el e hj.1]; have := h.1; omega, srtE_ins h.2.1 hj (by rw [he]; exact ELk_ne hS hk h hc), fun P => ?_⟩
  rw [cntL_ins, h.2.2 P, cR_s, he]
  by_cases c : P (eP F k)
  · rw [pI_1 c, pI_1 ⟨hc, c⟩]
  · rw [pI_0 c, pI_0 (fun z => c z.2)]
theorem ELk_s2 {F : Fl} {k j : Nat} {el : LE2} {w key v : Int} {m : nMem} (E : EM w (insAt el j (key, v)) m) (hS : NS F) (hk : k < 128) (h : ELk F k el) (hc : ctR F k) (he : key = 100 * fN F k 3 + fN F k 5 ∧ v = 2 * fN F k 10 + fN F k 11) (hj : plE el key j) : ELk F (k + 1) (insAt el j (key, v)) := ELk_s hS hk h hc (by unfold eP; rw [Prod.mk.injEq]; exact he) hj
theorem FLk_in {F : Fl} {k : Nat} {fl : List Int} (h : FLk F k fl) {f : Int} (hf : f = fN F k 10) (hi : f ∈ fl) : FLk F (k + 1) fl := ⟨Nat.le_succ_of_le h.1, h.2.1, fun g => by
  constructor
  · intro hg
    obtain ⟨r, hr, z⟩ := (h.2.2 g).mp hg
    exact ⟨r, by omega, z⟩
  · rintro ⟨r, hr, z1, z2, z3⟩
    by_cases c : r = k
    · subst c; rw [← z3, ← hf]; exact hi
    · exact (h.2.2 g).mpr ⟨r, by omega, z1, z2, z3⟩⟩
theorem FLk_s {F : Fl} {k j : Nat} {fl : List Int} (h : FLk F k fl) (hc : ctR F k) (h11 : fN F k 11 = 0) {f : Int} (hf : f = fN F k 10) (hj : plI fl f j) : FLk F (k + 1) (insAt fl j f) := by
  refine ⟨by rw [insAt_len fl f hj.1]; have := h.1; omega, srtI_ins h.2.1 hj, fun g => ?_⟩
  rw [insAt_mem, h.2.2 g]
  constructor
  · rintro (e | ⟨r, hr, z⟩)
    · exact ⟨k, by omega, hc, h11, by rw [e]; exact hf.symm⟩
    · exact ⟨r, by omega, z⟩
  · rintro ⟨r, hr, z1, z2, z3⟩
    by_cases c : r = k
    · subst c; exact Or.inl (by rw [hf]; exact z3.symm)
    · exact Or.inr ⟨r, by omega, z1, z2, z3⟩
theorem EM_cg {w : Int} {el : LE2} {μ m : nMem} (hw : w = 0 ∨ w = 128) (h : EM w el μ) (hl : el.length ≤ 128) (e : ∀ x y, ((x = 43 ∨ x = 44) ∧ w ≤ y ∧ y < w + 128) ∨ (x = 45 ∧ y = w / 128) → m x y = μ x y) : EM w el m :=
  ⟨by rw [e 45 _ (Or.inr ⟨rfl, rfl⟩)]; exact h.1, fun i hi => by rw [e 43 _ (Or.inl ⟨Or.inl rfl, by omega, by omega⟩), e 44 _ (Or.inl ⟨Or.inr rfl, by omega, by omega⟩)]; exact h.2 i hi⟩
theorem FM_cg {w : Int} {fl : List Int} {μ m : nMem} (hw : w = 0 ∨ w = 128) (h : FM w fl μ) (hl : fl.length ≤ 128) (e : ∀ x y, (x = 46 ∧ w ≤ y ∧ y < w + 128) ∨ (x = 48 ∧ y = w / 128) → m x y = μ x y) : FM w fl m :=
  ⟨by rw [e 48 _ (Or.inr ⟨rfl, rfl⟩)]; exact h.1, fun i hi => by rw [e 46 _ (Or.inl ⟨rfl, by omega, by omega⟩)]; exact h.2 i hi⟩
theorem CO_cg {F : Fl} {f a : Int} {μ m : nMem} (h : CO F f a μ) (e : ∀ x y, (x = 47 ∧ y = a) ∨ ((x = 49 ∨ x = 50) ∧ 64 * a ≤ y ∧ y < 64 * a + 64) → m x y = μ x y) : CO F f a m :=
  ⟨by rw [e 47 a (Or.inl ⟨rfl, rfl⟩)]; exact h.1, fun p p0 p1 => by rw [e 49 _ (Or.inr ⟨Or.inl rfl, by omega, by omega⟩), e 50 _ (Or.inr ⟨Or.inr rfl, by omega, by omega⟩)]; exact h.2 p p0 p1⟩
/-- the lists that begin at a place tell what the flash's whole nodes tell -/
def LE (F : Fl) (w : Int) (μ : nMem) : Prop := ∃ (el : LE2) (fl : List Int), EM w el μ ∧ FM w fl μ ∧ (el.length ≤ 128 ∧ fl.length ≤ 128) ∧ srtE el ∧ srtI fl ∧ (∀ P, cntL P el = cR (fun r => ctR F r ∧ P (eP F r)) 128) ∧ (∀ f, f ∈ fl ↔ thFf F f) ∧ ∀ i : Nat, i < fl.length → CO F (fl.getD i 0) (w + i) μ
theorem LE_cg {F : Fl} {w : Int} {μ m : nMem} (hw : w = 0 ∨ w = 128) (h : LE F w μ) (e : ∀ x y, 43 ≤ x → x ≤ 50 → inLay w x y → m x y = μ x y) : LE F w m := by
  obtain ⟨el, fl, h1, h2, h3, h4, h5, h6, h7, h8⟩ := h
  refine ⟨el, fl, EM_cg hw h1 h3.1 (fun x y c => e x y (by omega) (by omega) (by unfold inLay; omega)), FM_cg hw h2 h3.2 (fun x y c => e x y (by omega) (by omega) (by unfold inLay; omega)), h3, h4, h5, h6, h7, fun i hi => CO_cg (h8 i hi) (fun x y c => e x y (by omega) (by omega) (by unfold inLay; omega))⟩
theorem sp_X7_lay {μ : nMem} {ε : nEnv} {Q : nOut → nMem → nEnv → Prop} {F : Fl} {w : Int} (hs : SkP skM ε) (hb : mB μ) (hw : w = 0 ∨ w = 128) (hP : PrM F μ) (hS : NS F) (hU : NU F) (h : ∀ m, mB m → FrL w μ m → LE F w m → Q (.inl none) m ε) : Sp mX7_lay [vR 21, vI w] μ ε Q := by
  refine Sp_of (L := [(0, vR 21), (1, vI w)]) (by decide) rfl rfl (Nat.le_of_ble_eq_true rfl) ?_
  have hw2 : w / 128 = 0 ∨ w / 128 = 1 := by omega
  refine wq_aload_n (pc := 0) dX7_lay_0 rfl rfl ?_
  refine cVK_0 (pc := 1) dX7_lay_1 hs (cw_X7_140 _ rfl) (by decide) rfl ⟨by decide, by decide⟩ (Nat.le_of_ble_eq_true rfl) (sp_X7_layThere hs hb hP hS (fun mT hbT fT tC tT => ?_))
  refine kr_v ?_
  refine wq_aload_n (pc := 4) dX7_lay_4 rfl rfl ?_
  refine wq_getS (pc := 5) dX7_lay_5 hs (gf_X7_81 _ rfl) rfl rfl rfl rfl rfl ?_
  refine wq_iload_n (pc := 8) dX7_lay_8 rfl rfl ?_
  refine wq_sipush (pc := 9) dX7_lay_9 (by decide) (by decide) ?_
  refine wq_idiv (pc := 12) dX7_lay_12 (by omega) (by omega) ?_
  refine wq_iconst (pc := 13) dX7_lay_13 ?_
  refine wq_iastK (pc := 14) dX7_lay_14 hs rfl (by omega) (by omega) ?_
  refine wq_aload_n (pc := 15) dX7_lay_15 rfl rfl ?_
  refine wq_getS (pc := 16) dX7_lay_16 hs (gf_X7_90 _ rfl) rfl rfl rfl rfl rfl ?_
  refine wq_iload_n (pc := 19) dX7_lay_19 rfl rfl ?_
  refine wq_sipush (pc := 20) dX7_lay_20 (by decide) (by decide) ?_
  refine wq_idiv (pc := 23) dX7_lay_23 (by omega) (by omega) ?_
  refine wq_iconst (pc := 24) dX7_lay_24 ?_
  refine wq_iastK (pc := 25) dX7_lay_25 hs rfl (by omega) (by omega) ?_
  refine wq_iconst (pc := 26) dX7_lay_26 ?_
  refine wq_istore_n (pc := 27) (L' := [(2, _), (0, _), (1, _)]) dX7_lay_27 rfl rfl (by decide) ?_
  have loop2 : ∀ (n k : Nat), ∀ (m : nMem) (j : Int) (el : LE2) (fl : List Int), k ≤ 128 → 128 < k + n → j = (k : Int) → mB m → FrL w μ m → (∀ i, 0 ≤ i → i < 128 → (m 51 i ≠ 0 ↔ asgR F i)) → (∀ n, 0 ≤ n → n < 2048 → (m 42 n ≠ 0 ↔ thDf F n)) → EM w el m → ELk F k el → FM w fl m → FLk F k fl → wp mX7_lay 28 [(0, vR 21), (1, vI w), (2, vI j)] [] m ε Q := by
    intro n
    induction n with
    | zero => intro k m j el fl hk1 hk2 e0 e1 e2 e3 e4 e5 e6 e7 e8; exact absurd hk2 (by omega)
    | succ n ih =>
      intro k m j el fl hk1 hk2 e0 e1 e2 e3 e4 e5 e6 e7 e8
      subst e0
      have rk : inR (k : Int) := by unfold inR; omega
      have g51 := b51 e1 (k : Int)
      have g23 := b23 e1 (k : Int)
      have g29 := b29 e1 (k : Int)
      have g30 := b30 e1 (k : Int)
      have g31 := b31 e1 (k : Int)
      have g42 := b42 e1 (m 23 (k : Int))
      have r51 : inR (m 51 (k : Int)) := by unfold inR; omega
      have r31 : inR (m 31 (k : Int)) := by unfold inR; omega
      have r42 : inR (m 42 (m 23 (k : Int))) := by unfold inR; omega
      have hPm := PrM_cg hP (fun x j hx => e2 x j (by unfold inLay; omega))
      refine wq_iload_n (pc := 28) dX7_lay_28 rfl rfl ?_
      refine wq_sipush (pc := 29) dX7_lay_29 (by decide) (by decide) ?_
      refine wq_icmp_ge (pc := 32) (tgt := 128) dX7_lay_32 (by decide) (by first | (unfold inR; omega) | assumption) (by first | (unfold inR; omega) | assumption) (fun c3 => ?_) (fun c3 => ?_)
      · skip
        have hk9 : k = 128 := by omega
        subst hk9
        have hlE : el.length ≤ 128 := e6.1
        have hlF : fl.length ≤ 128 := e8.1
        refine wq_iconst (pc := 128) dX7_lay_128 ?_
        refine wq_istore_n (pc := 129) (L' := [(2, _), (0, _), (1, _)]) dX7_lay_129 rfl rfl (by decide) ?_
        have lpk4 : ∀ (n k : Nat), ∀ (m : nMem) (j : Int), k ≤ 128 → 128 < k + n → j = (k : Int) → mB m → FrL w μ m → EM w el m → FM w fl m → (∀ i : Nat, i < k → i < fl.length → CO F (fl.getD i 0) (w + i) m) → wp mX7_lay 130 [(0, vR 21), (1, vI w), (2, vI j)] [] m ε Q := by
          intro n
          induction n with
          | zero => intro k m j hk1 hk2 e0 e1 e2 e3 e4 e5; exact absurd hk2 (by omega)
          | succ n ih =>
            intro k m j hk1 hk2 e0 e1 e2 e3 e4 e5
            subst e0
            have f1 := e1
            have rk : inR (k : Int) := by unfold inR; omega
            have r48 : inR (m 48 (w / 128)) := (mR_of e1) 48 _ (by decide) (by decide) (by decide)
            have h48 := e4.1
            have hPm := PrM_cg hP (fun x j hx => e2 x j (by unfold inLay; omega))
            refine wq_iload_n (pc := 130) dX7_lay_130 rfl rfl ?_
            refine wq_aload_n (pc := 131) dX7_lay_131 rfl rfl ?_
            refine wq_getS (pc := 132) dX7_lay_132 hs (gf_X7_90 _ rfl) rfl rfl rfl rfl rfl ?_
            refine wq_iload_n (pc := 135) dX7_lay_135 rfl rfl ?_
            refine wq_sipush (pc := 136) dX7_lay_136 (by decide) (by decide) ?_
            refine wq_idiv (pc := 139) dX7_lay_139 (by omega) (by omega) ?_
            refine wq_ialdK (pc := 140) dX7_lay_140 hs rfl (by omega) (by omega) ?_
            refine wq_icmp_ge (pc := 141) (tgt := 157) dX7_lay_141 (by decide) (by first | (unfold inR; omega) | assumption) (by first | (unfold inR; omega) | assumption) (fun c5 => ?_) (fun c5 => ?_)
            · skip
              refine wq_vret (pc := 157) dX7_lay_157 rfl ?_
              exact h _ e1 e2 ⟨el, fl, e3, e4, ⟨hlE, hlF⟩, e6.2.1, e8.2.1, e6.2.2, fun f => by rw [e8.2.2 f, thF_row hS f]; exact Iff.rfl, fun i hi => e5 i (by omega) hi⟩
            · skip
              refine wq_aload_n (pc := 144) dX7_lay_144 rfl rfl ?_
              refine wq_iload_n (pc := 145) dX7_lay_145 rfl rfl ?_
              refine wq_iload_n (pc := 146) dX7_lay_146 rfl rfl ?_
              refine wq_iadd (pc := 147) dX7_lay_147 ?_
              refine cVK_1 (pc := 148) dX7_lay_148 hs (cw_X7_151 _ rfl) (by decide) rfl ⟨by decide, by decide⟩ (Nat.le_of_ble_eq_true rfl) (sp_X7_layContent hs f1 hPm hS hU (by omega) (by omega) (fun m6 hb6 f6 C6 => ?_))
              refine kr_v ?_
              refine wq_iinc (pc := 151) (L' := [(2, _), (0, _), (1, _)]) dX7_lay_151 rfl rfl (by decide) ?_
              refine wq_goto (pc := 154) (tgt := 130) dX7_lay_154 (by decide) ?_
              refine wq_sub1 (L' := [(0, _), (1, _), (2, _)]) ⟨rfl, rfl, rfl, trivial⟩ ?_
              have q46 := e4.2 k (by omega)
              rw [q46] at C6
              refine ih (k + 1) _ _ (by omega) (by omega) (by omega) hb6 (fun x y hx => ?_) (EM_cg hw e3 hlE (fun x y c => f6 x y (by omega) (by omega))) (FM_cg hw e4 hlF (fun x y c => f6 x y (by omega) (by omega))) (fun i hi hi2 => ?_)
              · have hx2 := hx
                unfold inLay at hx2
                rw [f6 x y (by omega) (by omega)]; exact e2 x y hx
              · by_cases c9 : i = k
                · subst c9; exact C6
                · exact CO_cg (e5 i (by omega) hi2) (fun x y c => f6 x y (by omega) (by omega))
        refine wq_sub1 (L' := [(0, _), (1, _), (2, _)]) ⟨rfl, rfl, rfl, trivial⟩ ?_
        exact lpk4 129 0 _ _ (by omega) (by omega) (by omega) e1 e2 e5 e7 (fun i hi => absurd hi (Nat.not_lt_zero i))
      · skip
        refine wq_aload_n (pc := 35) dX7_lay_35 rfl rfl ?_
        refine wq_getS (pc := 36) dX7_lay_36 hs (gf_X7_99 _ rfl) rfl rfl rfl rfl rfl ?_
        refine wq_iload_n (pc := 39) dX7_lay_39 rfl rfl ?_
        refine wq_zaldK (pc := 40) dX7_lay_40 hs rfl (by omega) (by omega) ?_
        refine wq_if_eq (pc := 41) (tgt := 122) dX7_lay_41 (by decide) (by first | (unfold inR; omega) | assumption) (fun c7 => ?_) (fun c7 => ?_)
        · skip
          refine wq_iinc (pc := 122) (L' := [(2, _), (0, _), (1, _)]) dX7_lay_122 rfl rfl (by decide) ?_
          refine wq_goto (pc := 125) (tgt := 28) dX7_lay_125 (by decide) ?_
          refine wq_sub1 (L' := [(0, _), (1, _), (2, _)]) ⟨rfl, rfl, rfl, trivial⟩ ?_
          first
            | exact ih (k + 1) _ _ _ _ (by omega) (by omega) (by omega) hb5 fr5 c5 d5 E5' EL4 E5 (FLk_s e8 ⟨hasg, hthd⟩ (by omega) (by omega) pl5)
            | exact ih (k + 1) _ _ _ _ (by omega) (by omega) (by omega) hb4 fr4 c4 d4 E4 EL4 F4 (FLk_in e8 (by omega) hin)
            | exact ih (k + 1) _ _ _ _ (by omega) (by omega) (by omega) hb4 fr4 c4 d4 E4 EL4 F4 (FLk_no e8 (fun z => by have := z.2; omega))
            | (have hno : ¬ ctR F k := fun z => by
                 obtain ⟨w9, k9⟩ := asgR_rW z.1
                 obtain ⟨-, -, p23, -⟩ := PrM_2' hPm (by omega) (by omega) w9 k9
                 have b9 := asgR_b hS (by omega) (by omega) z.1
                 have h1 := (e3 k (by omega) (by omega)).mpr z.1
                 have h2 := (e4 (fN F k 3) (by omega) (by omega)).mpr z.2
                 rw [← p23] at h2
                 omega
               exact ih (k + 1) _ _ _ _ (by omega) (by omega) (by omega) e1 e2 e3 e4 e5 (ELk_no e6 hno) e7 (FLk_no e8 (fun z => hno z.1)))
        · skip
          refine wq_aload_n (pc := 44) dX7_lay_44 rfl rfl ?_
          refine wq_getS (pc := 45) dX7_lay_45 hs (gf_X7_72 _ rfl) rfl rfl rfl rfl rfl ?_
          refine wq_aload_n (pc := 48) dX7_lay_48 rfl rfl ?_
          refine wq_getS (pc := 49) dX7_lay_49 hs (gf_X7_13 _ rfl) rfl rfl rfl rfl rfl ?_
          refine wq_iload_n (pc := 52) dX7_lay_52 rfl rfl ?_
          refine wq_ialdK (pc := 53) dX7_lay_53 hs rfl (by omega) (by omega) ?_
          refine wq_zaldK (pc := 54) dX7_lay_54 hs rfl (by omega) (by omega) ?_
          refine wq_if_eq (pc := 55) (tgt := 122) dX7_lay_55 (by decide) (by first | (unfold inR; omega) | assumption) (fun c8 => ?_) (fun c8 => ?_)
          · skip
            refine wq_iinc (pc := 122) (L' := [(2, _), (0, _), (1, _)]) dX7_lay_122 rfl rfl (by decide) ?_
            refine wq_goto (pc := 125) (tgt := 28) dX7_lay_125 (by decide) ?_
            refine wq_sub1 (L' := [(0, _), (1, _), (2, _)]) ⟨rfl, rfl, rfl, trivial⟩ ?_
            first
              | exact ih (k + 1) _ _ _ _ (by omega) (by omega) (by omega) hb5 fr5 c5 d5 E5' EL4 E5 (FLk_s e8 ⟨hasg, hthd⟩ (by omega) (by omega) pl5)
              | exact ih (k + 1) _ _ _ _ (by omega) (by omega) (by omega) hb4 fr4 c4 d4 E4 EL4 F4 (FLk_in e8 (by omega) hin)
              | exact ih (k + 1) _ _ _ _ (by omega) (by omega) (by omega) hb4 fr4 c4 d4 E4 EL4 F4 (FLk_no e8 (fun z => by have := z.2; omega))
              | (have hno : ¬ ctR F k := fun z => by
                   obtain ⟨w9, k9⟩ := asgR_rW z.1
                   obtain ⟨-, -, p23, -⟩ := PrM_2' hPm (by omega) (by omega) w9 k9
                   have b9 := asgR_b hS (by omega) (by omega) z.1
                   have h1 := (e3 k (by omega) (by omega)).mpr z.1
                   have h2 := (e4 (fN F k 3) (by omega) (by omega)).mpr z.2
                   rw [← p23] at h2
                   omega
                 exact ih (k + 1) _ _ _ _ (by omega) (by omega) (by omega) e1 e2 e3 e4 e5 (ELk_no e6 hno) e7 (FLk_no e8 (fun z => hno z.1)))
          · skip
            have hasg := (e3 k (by omega) (by omega)).mp (by assumption)
            obtain ⟨w9, k9⟩ := asgR_rW hasg
            obtain ⟨-, -, p23, -, p29, p30, p31⟩ := PrM_2' hPm (by omega) (by omega) w9 k9
            have b9 := asgR_b hS (by omega) (by omega) hasg
            have hthd := (e4 (m 23 (k : Int)) (by omega) (by omega)).mp (by assumption)
            rw [p23] at hthd
            refine wq_aload_n (pc := 58) dX7_lay_58 rfl rfl ?_
            refine wq_iload_n (pc := 59) dX7_lay_59 rfl rfl ?_
            refine wq_bipush (pc := 60) dX7_lay_60 (by decide) (by decide) ?_
            refine wq_aload_n (pc := 62) dX7_lay_62 rfl rfl ?_
            refine wq_getS (pc := 63) dX7_lay_63 hs (gf_X7_13 _ rfl) rfl rfl rfl rfl rfl ?_
            refine wq_iload_n (pc := 66) dX7_lay_66 rfl rfl ?_
            refine wq_ialdK (pc := 67) dX7_lay_67 hs rfl (by omega) (by omega) ?_
            refine wq_imul (pc := 68) dX7_lay_68 ?_
            refine wq_aload_n (pc := 69) dX7_lay_69 rfl rfl ?_
            refine wq_getS (pc := 70) dX7_lay_70 hs (gf_X7_32 _ rfl) rfl rfl rfl rfl rfl ?_
            refine wq_iload_n (pc := 73) dX7_lay_73 rfl rfl ?_
            refine wq_ialdK (pc := 74) dX7_lay_74 hs rfl (by omega) (by omega) ?_
            refine wq_iadd (pc := 75) dX7_lay_75 ?_
            refine wq_iconst (pc := 76) dX7_lay_76 ?_
            refine wq_aload_n (pc := 77) dX7_lay_77 rfl rfl ?_
            refine wq_getS (pc := 78) dX7_lay_78 hs (gf_X7_35 _ rfl) rfl rfl rfl rfl rfl ?_
            refine wq_iload_n (pc := 81) dX7_lay_81 rfl rfl ?_
            refine wq_ialdK (pc := 82) dX7_lay_82 hs rfl (by omega) (by omega) ?_
            refine wq_imul (pc := 83) dX7_lay_83 ?_
            refine wq_aload_n (pc := 84) dX7_lay_84 rfl rfl ?_
            refine wq_getS (pc := 85) dX7_lay_85 hs (gf_X7_38 _ rfl) rfl rfl rfl rfl rfl ?_
            refine wq_iload_n (pc := 88) dX7_lay_88 rfl rfl ?_
            refine wq_zaldK (pc := 89) dX7_lay_89 hs rfl (by omega) (by omega) ?_
            refine wq_if_eq (pc := 90) (tgt := 97) dX7_lay_90 (by decide) (by first | (unfold inR; omega) | assumption) (fun c9 => ?_) (fun c9 => ?_)
            · skip
              refine wq_iconst (pc := 97) dX7_lay_97 ?_
              refine wq_iadd (pc := 98) dX7_lay_98 ?_
              refine cVK_3 (pc := 99) dX7_lay_99 hs (cw_X7_143 _ rfl) (by decide) rfl ⟨by decide, by decide⟩ (Nat.le_of_ble_eq_true rfl) (sp_X7_addEntry hs e1 hw e5 (by have := e6.1; omega) (by omega) (by omega) (by omega) (by omega) e6.2.1 (fun m4 hb4 f4 j4 pl4 E4 => ?_))
              refine kr_v ?_
              have q31 : m4 31 (k : Int) = m 31 (k : Int) := f4 31 _ (by omega) (by omega)
              have q30 : m4 30 (k : Int) = m 30 (k : Int) := f4 30 _ (by omega) (by omega)
              have r31c : inR (m4 31 (k : Int)) := by unfold inR; omega
              have F4 : FM w fl m4 := FM_cg hw e7 (by have := e8.1; omega) (fun x y c => f4 x y (by omega) (by omega))
              have EL4 := ELk_s2 (k := k) E4 hS (by omega) e6 ⟨hasg, hthd⟩ (by omega) pl4
              have fr4 : FrL w μ m4 := fun x y hx => by
                have hx2 := hx
                unfold inLay at hx2
                rw [f4 x y (by omega) (by omega)]; exact e2 x y hx
              have c4 : ∀ i, 0 ≤ i → i < 128 → (m4 51 i ≠ 0 ↔ asgR F i) := fun i i0 i1 => by rw [f4 51 i (by omega) (by omega)]; exact e3 i i0 i1
              have d4 : ∀ n, 0 ≤ n → n < 2048 → (m4 42 n ≠ 0 ↔ thDf F n) := fun n n0 n1 => by rw [f4 42 n (by omega) (by omega)]; exact e4 n n0 n1
              refine wq_aload_n (pc := 102) dX7_lay_102 rfl rfl ?_
              refine wq_getS (pc := 103) dX7_lay_103 hs (gf_X7_38 _ rfl) rfl rfl rfl rfl rfl ?_
              refine wq_iload_n (pc := 106) dX7_lay_106 rfl rfl ?_
              refine wq_zaldK (pc := 107) dX7_lay_107 hs rfl (by omega) (by omega) ?_
              refine wq_if_ne (pc := 108) (tgt := 122) dX7_lay_108 (by decide) (by first | (unfold inR; omega) | assumption) (fun c11 => ?_) (fun c11 => ?_)
              · skip
                refine wq_iinc (pc := 122) (L' := [(2, _), (0, _), (1, _)]) dX7_lay_122 rfl rfl (by decide) ?_
                refine wq_goto (pc := 125) (tgt := 28) dX7_lay_125 (by decide) ?_
                refine wq_sub1 (L' := [(0, _), (1, _), (2, _)]) ⟨rfl, rfl, rfl, trivial⟩ ?_
                first
                  | exact ih (k + 1) _ _ _ _ (by omega) (by omega) (by omega) hb5 fr5 c5 d5 E5' EL4 E5 (FLk_s e8 ⟨hasg, hthd⟩ (by omega) (by omega) pl5)
                  | exact ih (k + 1) _ _ _ _ (by omega) (by omega) (by omega) hb4 fr4 c4 d4 E4 EL4 F4 (FLk_in e8 (by omega) hin)
                  | exact ih (k + 1) _ _ _ _ (by omega) (by omega) (by omega) hb4 fr4 c4 d4 E4 EL4 F4 (FLk_no e8 (fun z => by have := z.2; omega))
                  | (have hno : ¬ ctR F k := fun z => by
                       obtain ⟨w9, k9⟩ := asgR_rW z.1
                       obtain ⟨-, -, p23, -⟩ := PrM_2' hPm (by omega) (by omega) w9 k9
                       have b9 := asgR_b hS (by omega) (by omega) z.1
                       have h1 := (e3 k (by omega) (by omega)).mpr z.1
                       have h2 := (e4 (fN F k 3) (by omega) (by omega)).mpr z.2
                       rw [← p23] at h2
                       omega
                     exact ih (k + 1) _ _ _ _ (by omega) (by omega) (by omega) e1 e2 e3 e4 e5 (ELk_no e6 hno) e7 (FLk_no e8 (fun z => hno z.1)))
              · skip
                refine wq_aload_n (pc := 111) dX7_lay_111 rfl rfl ?_
                refine wq_iload_n (pc := 112) dX7_lay_112 rfl rfl ?_
                refine wq_aload_n (pc := 113) dX7_lay_113 rfl rfl ?_
                refine wq_getS (pc := 114) dX7_lay_114 hs (gf_X7_35 _ rfl) rfl rfl rfl rfl rfl ?_
                refine wq_iload_n (pc := 117) dX7_lay_117 rfl rfl ?_
                refine wq_ialdK (pc := 118) dX7_lay_118 hs rfl (by omega) (by omega) ?_
                refine cVK_2 (pc := 119) dX7_lay_119 hs (cw_X7_147 _ rfl) (by decide) rfl ⟨by decide, by decide⟩ (Nat.le_of_ble_eq_true rfl) (sp_X7_addFile hs hb4 hw F4 (by have := e8.1; omega) (by omega) (by omega) e8.2.1 (fun hin => ?_) (fun hnin m5 hb5 f5 j5 pl5 E5 => ?_))
                · skip
                  refine kr_v ?_
                  refine wq_iinc (pc := 122) (L' := [(2, _), (0, _), (1, _)]) dX7_lay_122 rfl rfl (by decide) ?_
                  refine wq_goto (pc := 125) (tgt := 28) dX7_lay_125 (by decide) ?_
                  refine wq_sub1 (L' := [(0, _), (1, _), (2, _)]) ⟨rfl, rfl, rfl, trivial⟩ ?_
                  first
                    | exact ih (k + 1) _ _ _ _ (by omega) (by omega) (by omega) hb5 fr5 c5 d5 E5' EL4 E5 (FLk_s e8 ⟨hasg, hthd⟩ (by omega) (by omega) pl5)
                    | exact ih (k + 1) _ _ _ _ (by omega) (by omega) (by omega) hb4 fr4 c4 d4 E4 EL4 F4 (FLk_in e8 (by omega) hin)
                    | exact ih (k + 1) _ _ _ _ (by omega) (by omega) (by omega) hb4 fr4 c4 d4 E4 EL4 F4 (FLk_no e8 (fun z => by have := z.2; omega))
                    | (have hno : ¬ ctR F k := fun z => by
                         obtain ⟨w9, k9⟩ := asgR_rW z.1
                         obtain ⟨-, -, p23, -⟩ := PrM_2' hPm (by omega) (by omega) w9 k9
                         have b9 := asgR_b hS (by omega) (by omega) z.1
                         have h1 := (e3 k (by omega) (by omega)).mpr z.1
                         have h2 := (e4 (fN F k 3) (by omega) (by omega)).mpr z.2
                         rw [← p23] at h2
                         omega
                       exact ih (k + 1) _ _ _ _ (by omega) (by omega) (by omega) e1 e2 e3 e4 e5 (ELk_no e6 hno) e7 (FLk_no e8 (fun z => hno z.1)))
                · skip
                  refine kr_v ?_
                  have E5' : EM w (insAt el j4 (_, _)) m5 := EM_cg hw E4 (by have := e6.1; rw [insAt_len el _ pl4.1]; omega) (fun x y c => f5 x y (by omega) (by omega))
                  have fr5 : FrL w μ m5 := fun x y hx => by
                    have hx2 := hx
                    unfold inLay at hx2
                    rw [f5 x y (by omega) (by omega)]; exact fr4 x y hx
                  have c5 : ∀ i, 0 ≤ i → i < 128 → (m5 51 i ≠ 0 ↔ asgR F i) := fun i i0 i1 => by rw [f5 51 i (by omega) (by omega)]; exact c4 i i0 i1
                  have d5 : ∀ n, 0 ≤ n → n < 2048 → (m5 42 n ≠ 0 ↔ thDf F n) := fun n n0 n1 => by rw [f5 42 n (by omega) (by omega)]; exact d4 n n0 n1
                  refine wq_iinc (pc := 122) (L' := [(2, _), (0, _), (1, _)]) dX7_lay_122 rfl rfl (by decide) ?_
                  refine wq_goto (pc := 125) (tgt := 28) dX7_lay_125 (by decide) ?_
                  refine wq_sub1 (L' := [(0, _), (1, _), (2, _)]) ⟨rfl, rfl, rfl, trivial⟩ ?_
                  first
                    | exact ih (k + 1) _ _ _ _ (by omega) (by omega) (by omega) hb5 fr5 c5 d5 E5' EL4 E5 (FLk_s e8 ⟨hasg, hthd⟩ (by omega) (by omega) pl5)
                    | exact ih (k + 1) _ _ _ _ (by omega) (by omega) (by omega) hb4 fr4 c4 d4 E4 EL4 F4 (FLk_in e8 (by omega) hin)
                    | exact ih (k + 1) _ _ _ _ (by omega) (by omega) (by omega) hb4 fr4 c4 d4 E4 EL4 F4 (FLk_no e8 (fun z => by have := z.2; omega))
                    | (have hno : ¬ ctR F k := fun z => by
                         obtain ⟨w9, k9⟩ := asgR_rW z.1
                         obtain ⟨-, -, p23, -⟩ := PrM_2' hPm (by omega) (by omega) w9 k9
                         have b9 := asgR_b hS (by omega) (by omega) z.1
                         have h1 := (e3 k (by omega) (by omega)).mpr z.1
                         have h2 := (e4 (fN F k 3) (by omega) (by omega)).mpr z.2
                         rw [← p23] at h2
                         omega
                       exact ih (k + 1) _ _ _ _ (by omega) (by omega) (by omega) e1 e2 e3 e4 e5 (ELk_no e6 hno) e7 (FLk_no e8 (fun z => hno z.1)))
            · skip
              refine wq_iconst (pc := 93) dX7_lay_93 ?_
              refine wq_goto (pc := 94) (tgt := 98) dX7_lay_94 (by decide) ?_
              refine wq_iadd (pc := 98) dX7_lay_98 ?_
              refine cVK_3 (pc := 99) dX7_lay_99 hs (cw_X7_143 _ rfl) (by decide) rfl ⟨by decide, by decide⟩ (Nat.le_of_ble_eq_true rfl) (sp_X7_addEntry hs e1 hw e5 (by have := e6.1; omega) (by omega) (by omega) (by omega) (by omega) e6.2.1 (fun m4 hb4 f4 j4 pl4 E4 => ?_))
              refine kr_v ?_
              have q31 : m4 31 (k : Int) = m 31 (k : Int) := f4 31 _ (by omega) (by omega)
              have q30 : m4 30 (k : Int) = m 30 (k : Int) := f4 30 _ (by omega) (by omega)
              have r31c : inR (m4 31 (k : Int)) := by unfold inR; omega
              have F4 : FM w fl m4 := FM_cg hw e7 (by have := e8.1; omega) (fun x y c => f4 x y (by omega) (by omega))
              have EL4 := ELk_s2 (k := k) E4 hS (by omega) e6 ⟨hasg, hthd⟩ (by omega) pl4
              have fr4 : FrL w μ m4 := fun x y hx => by
                have hx2 := hx
                unfold inLay at hx2
                rw [f4 x y (by omega) (by omega)]; exact e2 x y hx
              have c4 : ∀ i, 0 ≤ i → i < 128 → (m4 51 i ≠ 0 ↔ asgR F i) := fun i i0 i1 => by rw [f4 51 i (by omega) (by omega)]; exact e3 i i0 i1
              have d4 : ∀ n, 0 ≤ n → n < 2048 → (m4 42 n ≠ 0 ↔ thDf F n) := fun n n0 n1 => by rw [f4 42 n (by omega) (by omega)]; exact e4 n n0 n1
              refine wq_aload_n (pc := 102) dX7_lay_102 rfl rfl ?_
              refine wq_getS (pc := 103) dX7_lay_103 hs (gf_X7_38 _ rfl) rfl rfl rfl rfl rfl ?_
              refine wq_iload_n (pc := 106) dX7_lay_106 rfl rfl ?_
              refine wq_zaldK (pc := 107) dX7_lay_107 hs rfl (by omega) (by omega) ?_
              refine wq_if_ne (pc := 108) (tgt := 122) dX7_lay_108 (by decide) (by first | (unfold inR; omega) | assumption) (fun c15 => ?_) (fun c15 => ?_)
              · skip
                refine wq_iinc (pc := 122) (L' := [(2, _), (0, _), (1, _)]) dX7_lay_122 rfl rfl (by decide) ?_
                refine wq_goto (pc := 125) (tgt := 28) dX7_lay_125 (by decide) ?_
                refine wq_sub1 (L' := [(0, _), (1, _), (2, _)]) ⟨rfl, rfl, rfl, trivial⟩ ?_
                first
                  | exact ih (k + 1) _ _ _ _ (by omega) (by omega) (by omega) hb5 fr5 c5 d5 E5' EL4 E5 (FLk_s e8 ⟨hasg, hthd⟩ (by omega) (by omega) pl5)
                  | exact ih (k + 1) _ _ _ _ (by omega) (by omega) (by omega) hb4 fr4 c4 d4 E4 EL4 F4 (FLk_in e8 (by omega) hin)
                  | exact ih (k + 1) _ _ _ _ (by omega) (by omega) (by omega) hb4 fr4 c4 d4 E4 EL4 F4 (FLk_no e8 (fun z => by have := z.2; omega))
                  | (have hno : ¬ ctR F k := fun z => by
                       obtain ⟨w9, k9⟩ := asgR_rW z.1
                       obtain ⟨-, -, p23, -⟩ := PrM_2' hPm (by omega) (by omega) w9 k9
                       have b9 := asgR_b hS (by omega) (by omega) z.1
                       have h1 := (e3 k (by omega) (by omega)).mpr z.1
                       have h2 := (e4 (fN F k 3) (by omega) (by omega)).mpr z.2
                       rw [← p23] at h2
                       omega
                     exact ih (k + 1) _ _ _ _ (by omega) (by omega) (by omega) e1 e2 e3 e4 e5 (ELk_no e6 hno) e7 (FLk_no e8 (fun z => hno z.1)))
              · skip
                refine wq_aload_n (pc := 111) dX7_lay_111 rfl rfl ?_
                refine wq_iload_n (pc := 112) dX7_lay_112 rfl rfl ?_
                refine wq_aload_n (pc := 113) dX7_lay_113 rfl rfl ?_
                refine wq_getS (pc := 114) dX7_lay_114 hs (gf_X7_35 _ rfl) rfl rfl rfl rfl rfl ?_
                refine wq_iload_n (pc := 117) dX7_lay_117 rfl rfl ?_
                refine wq_ialdK (pc := 118) dX7_lay_118 hs rfl (by omega) (by omega) ?_
                refine cVK_2 (pc := 119) dX7_lay_119 hs (cw_X7_147 _ rfl) (by decide) rfl ⟨by decide, by decide⟩ (Nat.le_of_ble_eq_true rfl) (sp_X7_addFile hs hb4 hw F4 (by have := e8.1; omega) (by omega) (by omega) e8.2.1 (fun hin => ?_) (fun hnin m5 hb5 f5 j5 pl5 E5 => ?_))
                · skip
                  refine kr_v ?_
                  refine wq_iinc (pc := 122) (L' := [(2, _), (0, _), (1, _)]) dX7_lay_122 rfl rfl (by decide) ?_
                  refine wq_goto (pc := 125) (tgt := 28) dX7_lay_125 (by decide) ?_
                  refine wq_sub1 (L' := [(0, _), (1, _), (2, _)]) ⟨rfl, rfl, rfl, trivial⟩ ?_
                  first
                    | exact ih (k + 1) _ _ _ _ (by omega) (by omega) (by omega) hb5 fr5 c5 d5 E5' EL4 E5 (FLk_s e8 ⟨hasg, hthd⟩ (by omega) (by omega) pl5)
                    | exact ih (k + 1) _ _ _ _ (by omega) (by omega) (by omega) hb4 fr4 c4 d4 E4 EL4 F4 (FLk_in e8 (by omega) hin)
                    | exact ih (k + 1) _ _ _ _ (by omega) (by omega) (by omega) hb4 fr4 c4 d4 E4 EL4 F4 (FLk_no e8 (fun z => by have := z.2; omega))
                    | (have hno : ¬ ctR F k := fun z => by
                         obtain ⟨w9, k9⟩ := asgR_rW z.1
                         obtain ⟨-, -, p23, -⟩ := PrM_2' hPm (by omega) (by omega) w9 k9
                         have b9 := asgR_b hS (by omega) (by omega) z.1
                         have h1 := (e3 k (by omega) (by omega)).mpr z.1
                         have h2 := (e4 (fN F k 3) (by omega) (by omega)).mpr z.2
                         rw [← p23] at h2
                         omega
                       exact ih (k + 1) _ _ _ _ (by omega) (by omega) (by omega) e1 e2 e3 e4 e5 (ELk_no e6 hno) e7 (FLk_no e8 (fun z => hno z.1)))
                · skip
                  refine kr_v ?_
                  have E5' : EM w (insAt el j4 (_, _)) m5 := EM_cg hw E4 (by have := e6.1; rw [insAt_len el _ pl4.1]; omega) (fun x y c => f5 x y (by omega) (by omega))
                  have fr5 : FrL w μ m5 := fun x y hx => by
                    have hx2 := hx
                    unfold inLay at hx2
                    rw [f5 x y (by omega) (by omega)]; exact fr4 x y hx
                  have c5 : ∀ i, 0 ≤ i → i < 128 → (m5 51 i ≠ 0 ↔ asgR F i) := fun i i0 i1 => by rw [f5 51 i (by omega) (by omega)]; exact c4 i i0 i1
                  have d5 : ∀ n, 0 ≤ n → n < 2048 → (m5 42 n ≠ 0 ↔ thDf F n) := fun n n0 n1 => by rw [f5 42 n (by omega) (by omega)]; exact d4 n n0 n1
                  refine wq_iinc (pc := 122) (L' := [(2, _), (0, _), (1, _)]) dX7_lay_122 rfl rfl (by decide) ?_
                  refine wq_goto (pc := 125) (tgt := 28) dX7_lay_125 (by decide) ?_
                  refine wq_sub1 (L' := [(0, _), (1, _), (2, _)]) ⟨rfl, rfl, rfl, trivial⟩ ?_
                  first
                    | exact ih (k + 1) _ _ _ _ (by omega) (by omega) (by omega) hb5 fr5 c5 d5 E5' EL4 E5 (FLk_s e8 ⟨hasg, hthd⟩ (by omega) (by omega) pl5)
                    | exact ih (k + 1) _ _ _ _ (by omega) (by omega) (by omega) hb4 fr4 c4 d4 E4 EL4 F4 (FLk_in e8 (by omega) hin)
                    | exact ih (k + 1) _ _ _ _ (by omega) (by omega) (by omega) hb4 fr4 c4 d4 E4 EL4 F4 (FLk_no e8 (fun z => by have := z.2; omega))
                    | (have hno : ¬ ctR F k := fun z => by
                         obtain ⟨w9, k9⟩ := asgR_rW z.1
                         obtain ⟨-, -, p23, -⟩ := PrM_2' hPm (by omega) (by omega) w9 k9
                         have b9 := asgR_b hS (by omega) (by omega) z.1
                         have h1 := (e3 k (by omega) (by omega)).mpr z.1
                         have h2 := (e4 (fN F k 3) (by omega) (by omega)).mpr z.2
                         rw [← p23] at h2
                         omega
                       exact ih (k + 1) _ _ _ _ (by omega) (by omega) (by omega) e1 e2 e3 e4 e5 (ELk_no e6 hno) e7 (FLk_no e8 (fun z => hno z.1)))
  refine wq_sub1 (L' := [(0, _), (1, _), (2, _)]) ⟨rfl, rfl, rfl, trivial⟩ ?_
  refine loop2 129 0 _ _ [] [] (by omega) (by omega) (by omega) (mB_wr (mB_wr hbT (Or.inr (Or.inr (by decide)))) (Or.inr (Or.inr (by decide)))) (fun x y hx => ?_) (fun i i0 i1 => ?_) (fun n n0 n1 => ?_) ⟨?_, fun i hi => absurd hi (Nat.not_lt_zero i)⟩ (ELk_0 F) ⟨?_, fun i hi => absurd hi (Nat.not_lt_zero i)⟩ (FLk_0 F)
  · unfold inLay at hx
    rw [wr_n _ _ (by omega), wr_n _ _ (by omega)]; exact fT x y (by omega) (by omega)
  · rw [wr_n _ _ (by omega), wr_n _ _ (by omega)]; exact tC i i0 i1
  · rw [wr_n _ _ (by omega), wr_n _ _ (by omega)]; exact tT n n0 n1
  · rw [wr_n _ _ (by omega), wr_s]; rfl
  · rw [wr_s]; rfl
