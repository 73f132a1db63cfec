/-- the next number that the nodes leave -/
def nxF (F : Fl) : Int := rsX F 2 128
theorem rsX_le {F : Fl} {x : Int} : ∀ k : Nat, x ≤ rsX F x k ∧ ∀ r : Int, 0 ≤ r → r < k → rW F r → fN F r 3 < rsX F x k ∧ fN F r 10 < rsX F x k
  | 0 => ⟨Int.le_refl _, fun r r0 r1 => by omega⟩
  | k + 1 => by
    obtain ⟨a, b⟩ := rsX_le (F := F) (x := x) k
    rw [rsX_s]
    by_cases c : fN F k 0 ≠ 0 ∧ fN F k 2 = fN F k 1
    · rw [if_pos c]
      refine ⟨by omega, fun r r0 r1 h => ?_⟩
      by_cases e : r = k
      · subst e; omega
      · have := b r r0 (by omega) h; omega
    · rw [if_neg c]
      refine ⟨a, fun r r0 r1 h => ?_⟩
      by_cases e : r = k
      · subst e; exact absurd ⟨by have := h.1; omega, h.2⟩ c
      · exact b r r0 (by omega) h
theorem rsX_ub {F : Fl} {x v : Int} (hx : x ≤ v) : ∀ k : Nat, (∀ r : Int, 0 ≤ r → r < k → fN F r 0 ≠ 0 ∧ fN F r 2 = fN F r 1 → fN F r 3 < v ∧ fN F r 10 < v) → rsX F x k ≤ v
  | 0, _ => hx
  | k + 1, h => by
    have ih := rsX_ub hx (F := F) k (fun r r0 r1 => h r r0 (by omega))
    rw [rsX_s]
    split
    · rename_i c
      have := h k (by omega) (by omega) c
      omega
    · exact ih
theorem rsX_st {F : Fl} {x y : Int} (h1 : y ≤ x) : ∀ k : Nat, x ≤ rsX F y k → rsX F x k = rsX F y k := fun k h2 => by
  have main : ∀ k : Nat, rsX F x k = max x (rsX F y k) := fun k => by
    induction k with
    | zero => show x = max x y; omega
    | succ k ih => rw [rsX_s, rsX_s, ih]; split <;> omega
  rw [main k]; omega
/-- the tree in the midst of a restart: some counting rows are read -/
abbrev RIN (F : Fl) (fl : Int → Int) (Q : Int → Prop) (w : Int → Int) (S : Tr) : Prop :=
  ((1 : Int) ∈ tNl S ∧ (tNl S).Nodup) ∧ (∀ r, Q r → asgR F r ∧ (0 ≤ r ∧ r < 128) ∧ fl (fN F r 3) = 1 ∧ fN F r 3 ∈ tNl S ∧ fN F r 10 ∈ tNl S) ∧
  (∀ n ∈ tNl S, n = 1 ∨ (n ≠ 0 ∧ inE (TG F) fl n)) ∧ (∀ n ∈ tNl S, tFd S n 2 = fl n) ∧ (∀ r, Q r → tCl S (fN F r 3) (fN F r 5) = fN F r 10) ∧
  (∀ x ∈ tNl S, ∀ nm, (∀ r, Q r → fN F r 3 = x → fN F r 5 ≠ nm) → tCl S x nm = 0) ∧ ((∀ x ∈ tNl S, tFd S x 3 = w x) ∧ ∀ x, x ∉ tNl S → w x = 0) ∧
  (∀ x ∈ tNl S, tFd S x 5 = cR (fun r => Q r ∧ fN F r 3 = x) 128) ∧ (∀ x ∈ tNl S, tFd S x 4 = cR (fun r => Q r ∧ fN F r 10 = x) 128) ∧ (∀ x ∈ tNl S, tFd S x 6 = 0) ∧ 2 ≤ tNx S ∧ tNx S ≤ nxF F
theorem RIN_tB {F : Fl} {fl : Int → Int} {Q : Int → Prop} {w : Int → Int} {S : Tr} {nb : Int} (hS : NS F) (hW : WD (TG F) fl nb) (hn : nxF F ≤ 2000) (hw : ∀ x, 0 ≤ w x ∧ w x ≤ 4000) (h : RIN F fl Q w S) : tB S := by
  obtain ⟨-, h1, h2, h3, h4, h5, ⟨h6, -⟩, h7, h8, h9, h10, h11⟩ := h
  refine ⟨by omega, fun n hm => ⟨?_, by rw [h3 n hm]; exact hW.2.1 n, fun k k0 k1 => ?_, fun j j0 j1 => ?_⟩⟩
  · rcases h2 n hm with e | ⟨e0, x, y, -, -, e⟩
    · omega
    · have := hW.2.2.1 x y; have := hW.2.2.2.2; omega
  · have a := h6 n hm
    have b := h7 n hm
    have c := h8 n hm
    have d := h9 n hm
    have e := hw n
    have b2 := cR_b (fun r => Q r ∧ fN F r 3 = n) 128
    have c2 := cR_b (fun r => Q r ∧ fN F r 10 = n) 128
    have : k = 3 ∨ k = 4 ∨ k = 5 ∨ k = 6 := by omega
    rcases this with z | z | z | z <;> subst z <;> omega
  · by_cases c : ∃ r, Q r ∧ fN F r 3 = n ∧ fN F r 5 = j
    · obtain ⟨r, r0, r1, r2⟩ := c
      have := h4 r r0
      rw [r1, r2] at this
      obtain ⟨q1, q2, -⟩ := h1 r r0
      have s := sOK_k (hS r q2.1 q2.2 ((rT_W (Or.inr rfl)).mp q1.1).1)
      omega
    · rw [h5 n hm j (fun r r0 r1 r2 => c ⟨r, r0, r1, r2⟩)]; omega
theorem RIN_cg {F : Fl} {fl : Int → Int} {Q P : Int → Prop} {w v : Int → Int} {S : Tr} (h : RIN F fl Q w S) (e : ∀ r, P r ↔ Q r) (e2 : ∀ x, v x = w x) : RIN F fl P v S := by
  have : P = Q := funext (fun r => propext (e r))
  have : v = w := funext e2
  subst this
  subst P
  exact h
/-- a directory's version raised -/
theorem RIN_v {F : Fl} {fl : Int → Int} {Q : Int → Prop} {w : Int → Int} {S : Tr} {d v : Int} (h : RIN F fl Q w S) (hd : d ∈ tNl S) : RIN F fl Q (fun x => if x = d then max (w d) v else w x) (tSetF S d 3 (max (tFd S d 3) v)) := by
  obtain ⟨h0, h1, h2, h3, h4, h5, ⟨h6, h6b⟩, h7, h8, h9, h10⟩ := h
  have fo : ∀ n k, k ≠ 3 → tFd (tSetF S d 3 (max (tFd S d 3) v)) n k = tFd S n k := fun n k hk => if_neg (fun z => hk z.2)
  refine ⟨h0, h1, h2, fun n hn => by rw [fo n 2 (by decide)]; exact h3 n hn, h4, h5, ⟨fun x hx => ?_, fun x hx => ?_⟩, fun x hx => by rw [fo x 5 (by decide)]; exact h7 x hx, fun x hx => by rw [fo x 4 (by decide)]; exact h8 x hx, fun x hx => by rw [fo x 6 (by decide)]; exact h9 x hx, h10⟩
  · show (if x = d ∧ (3 : Int) = 3 then max (tFd S d 3) v else tFd S x 3) = if x = d then max (w d) v else w x
    by_cases c : x = d
    · rw [if_pos ⟨c, rfl⟩, if_pos c, h6 d hd]
    · rw [if_neg (fun z => c z.1), if_neg c]; exact h6 x hx
  · show (if x = d then max (w d) v else w x) = 0
    rw [if_neg (fun z => hx (by rw [z]; exact hd))]; exact h6b x hx
/-- a counting row read -/
theorem RIN_a {F : Fl} {fl : Int → Int} {nb : Int} {Q : Int → Prop} {w : Int → Int} {S : Tr} {k : Int} (hS : NS F) (hW : WD (TG F) fl nb) (hf : flOK F fl) (h : RIN F fl Q w S) (k0 : 0 ≤ k) (k1 : k < 128) (hk : asgR F k) (hQ : ¬ Q k) (hd : fN F k 3 ∈ tNl S) (hfd : fl (fN F k 3) = 1) :
    (tCl (rnAdd F k S) (fN F k 3) (fN F k 5) ∉ tNl (rnAdd F k S)) ∧ (1 ≤ fN F k 5 ∧ fN F k 5 < 100) ∧ (fN F k 10 ∉ tNl S → (tNl S).length < 129) ∧ (fN F k 11 = 0 ∨ fN F k 11 = 1) ∧ (0 ≤ fN F k 10 ∧ fN F k 10 ≤ 99999) ∧
    RIN F fl (fun r => Q r ∨ r = k) w (tInc (tSetC (rnAdd F k S) (fN F k 3) (fN F k 5) (fN F k 10)) (fN F k 3) (fN F k 10)) := by
  obtain ⟨⟨h0, h0b⟩, h1, h2, h3, h4, h5, ⟨h6, h6b⟩, h7, h8, h9, h10, h11⟩ := id h
  have wk := (rT_W (Or.inr rfl)).mp hk.1
  have sk := hS k k0 k1 wk.1
  have s1 := sOK_k sk
  have s2 : fN F k 10 = 0 ∨ 2 ≤ fN F k 10 := by
    rcases sk with q | q
    · omega
    · exact q.2.2.2.2.2.1
  have s3 : 1 ≤ fN F k 5 ∧ fN F k 5 ≤ 99 := by
    rcases sk with q | q
    · omega
    · exact q.2.2.2.2.1
  have t0 : fN F k 10 ≠ 0 := hk.2.1
  have hnx := (rsX_le (F := F) (x := 2) 128).2 k k0 k1 wk.1
  have z0 : (0 : Int) ∉ tNl S := fun z => by rcases h2 0 z with q | q; omega; exact q.1 rfl
  have hdD : tD (TG F) fl (fN F k 3) := tD_of hfd (h2 _ hd)
  have hin : inE (TG F) fl (fN F k 10) := ⟨fN F k 3, fN F k 5, hdD, s3, asgR_TG k0 hk⟩
  have hflg : fN F k 11 = fl (fN F k 10) := hf k k0 k1 wk.1 wk.2.1 t0
  have nospot : ∀ r, Q r → fN F r 3 = fN F k 3 → fN F r 5 ≠ fN F k 5 := fun r hr a b => hQ (by rw [← asgR_u (h1 r hr).1 hk a b]; exact hr)
  have c0 : tCl S (fN F k 3) (fN F k 5) = 0 := h5 _ hd _ nospot
  generalize hdd : fN F k 3 = d at hd hfd hdD nospot c0 ⊢
  generalize htt : fN F k 10 = t at s1 s2 t0 hnx hin hflg ⊢
  generalize hmm : fN F k 5 = nm at s3 nospot c0 s1 ⊢
  have hA : rnAdd F k S = if t ∈ tNl S then S else tAdd S t (fN F k 11) := by unfold rnAdd; rw [htt]
  have mA : ∀ n, n ∈ tNl (rnAdd F k S) ↔ n ∈ tNl S ∨ n = t := fun n => by
    rw [hA]
    by_cases c : t ∈ tNl S
    · rw [if_pos c]; exact ⟨Or.inl, fun z => z.elim id (fun w => by rw [w]; exact c)⟩
    · rw [if_neg c]
      show n ∈ tNl S ++ [t] ↔ _
      rw [List.mem_append, List.mem_singleton]
  have fA : ∀ n q, n ∈ tNl S → tFd (rnAdd F k S) n q = tFd S n q ∧ tCl (rnAdd F k S) n q = tCl S n q := fun n q hn => by
    rw [hA]
    by_cases c : t ∈ tNl S
    · rw [if_pos c]; exact ⟨rfl, rfl⟩
    · rw [if_neg c]
      have ne : n ≠ t := fun z => c (by rw [← z]; exact hn)
      exact ⟨if_neg ne, if_neg ne⟩
  have nA : ∀ q, t ∉ tNl S → tFd (rnAdd F k S) t q = (if q = 2 then fN F k 11 else 0) ∧ tCl (rnAdd F k S) t q = 0 := fun q c => by
    rw [hA, if_neg c]
    exact ⟨if_pos rfl, if_pos rfl⟩
  have xA : 2 ≤ tNx (rnAdd F k S) ∧ tNx (rnAdd F k S) ≤ nxF F := by
    rw [hA]
    have hb : t + 1 ≤ nxF F := by unfold nxF; omega
    by_cases c : t ∈ tNl S
    · rw [if_pos c]; omega
    · rw [if_neg c]
      show 2 ≤ max (tNx S) (t + 1) ∧ max (tNx S) (t + 1) ≤ nxF F
      omega
  have dA : (tNl (rnAdd F k S)).Nodup := by
    rw [hA]
    by_cases c : t ∈ tNl S
    · rw [if_pos c]; exact h0b
    · rw [if_neg c]
      show (tNl S ++ [t]).Nodup
      exact List.nodup_append.mpr ⟨h0b, by simp, fun x hx y hy => by rw [List.mem_singleton.mp hy]; exact fun z => c (by rw [← z]; exact hx)⟩
  have hQt : ∀ x, x ∉ tNl S → ∀ r, ¬ (Q r ∧ fN F r 3 = x) ∧ ¬ (Q r ∧ fN F r 10 = x) := fun x hx r => ⟨fun z => hx (by rw [← z.2]; exact (h1 r z.1).2.2.2.1), fun z => hx (by rw [← z.2]; exact (h1 r z.1).2.2.2.2)⟩
  refine ⟨by rw [(fA d nm hd).2, c0]; exact fun z => by rcases (mA 0).mp z with q | q; exact z0 q; exact t0 q.symm, by omega, fun c => ?_, s1.2.2.2.2.2.2.2.2.2.2.2.2.2.2.2, by omega, ?_⟩
  · have hnf : ((tNl S).filter (fun x => !(x == 1))).Nodup := h0b.filter _
    have hmf : ∀ x, x ∈ (tNl S).filter (fun x => !(x == 1)) ↔ x ∈ tNl S ∧ x ≠ 1 := fun x => by simp [List.mem_filter]
    have a := rows_len (F := F) (l := t :: (tNl S).filter (fun x => !(x == 1))) (List.nodup_cons.mpr ⟨fun q => c ((hmf t).mp q).1, hnf⟩) (fun n hm => by
      rcases List.mem_cons.mp hm with e | e
      · exact ⟨k, ⟨k0, k1⟩, by rw [htt, e]⟩
      · obtain ⟨e1, e2⟩ := (hmf n).mp e
        obtain ⟨n0, x, y, -, -, e3⟩ := (h2 n e1).resolve_left e2
        obtain ⟨r1, r2, r3, r4, r5⟩ := TG_asgR (F := F) (d := x) (nm := y) (by rw [e3]; exact n0)
        exact ⟨_, r1, r5.trans e3⟩)
    rw [List.length_cons] at a
    have b := sub_len (r := 1 :: (tNl S).filter (fun x => !(x == 1))) h0b (fun q hq => by
      by_cases c : q = 1
      · rw [c]; exact List.mem_cons_self
      · exact List.mem_cons_of_mem _ ((hmf q).mpr ⟨hq, c⟩))
    rw [List.length_cons] at b
    omega
  · generalize hB : rnAdd F k S = S1 at mA fA nA xA dA
    have cI : ∀ x q, tCl (tInc (tSetC S1 d nm t) d t) x q = if x = d ∧ q = nm then t else tCl S1 x q := fun x q => rfl
    have fI : ∀ x q, tFd (tInc (tSetC S1 d nm t) d t) x q = tFd S1 x q + ((if q = 4 ∧ x = t then 1 else 0) + if q = 5 ∧ x = d then 1 else 0) := fun x q => tInc_f _ _ _ _ _
    have fo : ∀ x q, q ≠ 4 → q ≠ 5 → tFd (tInc (tSetC S1 d nm t) d t) x q = tFd S1 x q := fun x q q4 q5 => by rw [fI, if_neg (fun z => q4 z.1), if_neg (fun z => q5 z.1)]; omega
    refine ⟨⟨(mA 1).mpr (Or.inl h0), dA⟩, fun r hr => ?_, fun n hn => ?_, fun n hn => ?_, fun r hr => ?_, fun x hx q hq => ?_, ⟨fun x hx => ?_, fun x hx => ?_⟩, fun x hx => ?_, fun x hx => ?_, fun x hx => ?_, xA⟩
    · rcases hr with hr | hr
      · obtain ⟨a, b, c, e, g⟩ := h1 r hr
        exact ⟨a, b, c, (mA _).mpr (Or.inl e), (mA _).mpr (Or.inl g)⟩
      · rw [hr]; exact ⟨hk, ⟨k0, k1⟩, by rw [hdd]; exact hfd, (mA _).mpr (Or.inl (by rw [hdd]; exact hd)), (mA _).mpr (Or.inr htt)⟩
    · rcases (mA n).mp hn with z | z
      · exact h2 n z
      · rw [z]; exact Or.inr ⟨t0, hin⟩
    · rw [fo n 2 (by decide) (by decide)]
      rcases (mA n).mp hn with z | z
      · rw [(fA n 2 z).1]; exact h3 n z
      · by_cases c : t ∈ tNl S
        · rw [z, (fA t 2 c).1]; exact h3 t c
        · rw [z, (nA 2 c).1, if_pos rfl]; exact hflg
    · rw [cI]
      rcases hr with hr | hr
      · rw [if_neg (fun z => nospot r hr z.1 z.2), (fA _ _ (h1 r hr).2.2.2.1).2]; exact h4 r hr
      · rw [hr, hdd, hmm, htt, if_pos ⟨rfl, rfl⟩]
    · rw [cI]
      have nk : ¬ (x = d ∧ q = nm) := fun z => hq k (Or.inr rfl) (by rw [hdd]; exact z.1.symm) (by rw [hmm]; exact z.2.symm)
      rw [if_neg nk]
      by_cases c : x ∈ tNl S
      · rw [(fA x q c).2]; exact h5 x c q (fun r hr => hq r (Or.inl hr))
      · have xt := ((mA x).mp hx).resolve_left c
        rw [xt] at c ⊢
        exact (nA q c).2
    · rw [fo x 3 (by decide) (by decide)]
      by_cases c : x ∈ tNl S
      · rw [(fA x 3 c).1]; exact h6 x c
      · have xt := ((mA x).mp hx).resolve_left c
        rw [h6b x c]
        rw [xt] at c ⊢
        rw [(nA 3 c).1, if_neg (by decide)]
    · exact h6b x (fun z => hx ((mA x).mpr (Or.inl z)))
    · rw [fI, if_neg (show ¬ ((5 : Int) = 4 ∧ x = t) by omega)]
      have base : tFd S1 x 5 = cR (fun r => Q r ∧ fN F r 3 = x) 128 := by
        by_cases c : x ∈ tNl S
        · rw [(fA x 5 c).1]; exact h7 x c
        · have xt := ((mA x).mp hx).resolve_left c
          rw [cR_0 (fun r _ _ => (hQt x c r).1)]
          rw [xt] at c ⊢
          rw [(nA 5 c).1, if_neg (by decide)]
      rw [base]
      by_cases c : x = d
      · rw [if_pos ⟨rfl, c⟩]
        have := cR_one (p := fun r => Q r ∧ fN F r 3 = x) (q := fun r => (Q r ∨ r = k) ∧ fN F r 3 = x) (a := k) 128 k0 k1 (fun z => hQ z.1) (fun r r0 r1 => ⟨fun z => z.1.imp (fun w => ⟨w, z.2⟩) id, fun z => z.elim (fun w => ⟨Or.inl w.1, w.2⟩) (fun w => ⟨Or.inr w, by rw [w, hdd, c]⟩)⟩)
        rw [this]; omega
      · rw [if_neg (fun z => c z.2)]
        have := cR_cg (p := fun r => (Q r ∨ r = k) ∧ fN F r 3 = x) (q := fun r => Q r ∧ fN F r 3 = x) 128 (fun r r0 r1 => ⟨fun z => ⟨z.1.resolve_right (fun w => c (by rw [← z.2, w, hdd])), z.2⟩, fun z => ⟨Or.inl z.1, z.2⟩⟩)
        rw [this]; omega
    · rw [fI, if_neg (show ¬ ((4 : Int) = 5 ∧ x = d) by omega)]
      have base : tFd S1 x 4 = cR (fun r => Q r ∧ fN F r 10 = x) 128 := by
        by_cases c : x ∈ tNl S
        · rw [(fA x 4 c).1]; exact h8 x c
        · have xt := ((mA x).mp hx).resolve_left c
          rw [cR_0 (fun r _ _ => (hQt x c r).2)]
          rw [xt] at c ⊢
          rw [(nA 4 c).1, if_neg (by decide)]
      rw [base]
      by_cases c : x = t
      · rw [if_pos ⟨rfl, c⟩]
        have := cR_one (p := fun r => Q r ∧ fN F r 10 = x) (q := fun r => (Q r ∨ r = k) ∧ fN F r 10 = x) (a := k) 128 k0 k1 (fun z => hQ z.1) (fun r r0 r1 => ⟨fun z => z.1.imp (fun w => ⟨w, z.2⟩) id, fun z => z.elim (fun w => ⟨Or.inl w.1, w.2⟩) (fun w => ⟨Or.inr w, by rw [w, htt, c]⟩)⟩)
        rw [this]; omega
      · rw [if_neg (fun z => c z.2)]
        have := cR_cg (p := fun r => (Q r ∨ r = k) ∧ fN F r 10 = x) (q := fun r => Q r ∧ fN F r 10 = x) 128 (fun r r0 r1 => ⟨fun z => ⟨z.1.resolve_right (fun w => c (by rw [← z.2, w, htt])), z.2⟩, fun z => ⟨Or.inl z.1, z.2⟩⟩)
        rw [this]; omega
    · rw [fo x 6 (by decide) (by decide)]
      by_cases c : x ∈ tNl S
      · rw [(fA x 6 c).1]; exact h9 x c
      · have xt := ((mA x).mp hx).resolve_left c
        rw [xt] at c ⊢
        rw [(nA 6 c).1, if_neg (by decide)]
