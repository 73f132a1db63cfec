/-- a node that is passed over is not missed -/
theorem pass_EQ {A : AS} {fl : Int → Int} {nb vb : Int} {S : Tr} (hP : IP A fl nb vb) (hS : TSA A fl S) {Z : Int → Int} {i : Int} (i0 : 0 ≤ i) (i1 : i < 128) (hZ : Z i = 0) (hw : rW (aF A) i) (hdd : jDead (aF A) (aF A) S i) (hm : ¬ jMiss (aF A) S Z i) (hE : EQ (aF A) (fHid (aF A) Z)) (hZd : ∀ j, 0 ≤ j → j < 128 → Z j ≠ 0 → jDead (aF A) (aF A) S j) : EQ (aF A) (fHid (aF A) (zSet Z i 1)) := by
  have hSn := PA_NS hP.2.1
  have hU := hP.2.2.1
  have hH := hid_NS (Z := Z) hSn
  have hH' := hid_NS (Z := zSet Z i 1) hSn
  have eTD : TD (fHid (aF A) Z) = dF (TG (fHid (aF A) Z)) fl := flOK_TD hH (flOK_cover (hid_cov Z) hP.2.2.2.2.2.1)
  have eTD' : TD (fHid (aF A) (zSet Z i 1)) = dF (TG (fHid (aF A) (zSet Z i 1))) fl := flOK_TD hH' (flOK_cover (hid_cov (zSet Z i 1)) hP.2.2.2.2.2.1)
  have hfi : ∀ k, fN (fHid (aF A) Z) i k = fN (aF A) i k := fHid_z _ _ _ hZ
  refine EQ_trans hE ⟨fun d hd nm hn => ?_, fun f hf => ?_⟩
  · have tg : TG (fHid (aF A) (zSet Z i 1)) d nm = TG (fHid (aF A) Z) d nm := by
      rw [hid_TG, hid_TG]
      by_cases c : qNew (fHid (aF A) Z) 2 d nm 2147483647 128 = i
      · have hq : qC (fHid (aF A) Z) 2 d nm 2147483647 i := by
          rcases qNew_sp (fHid (aF A) Z) 2 d nm 2147483647 128 with ⟨h1, -⟩ | ⟨-, h2, -⟩
          · omega
          · rw [c] at h2; exact h2
        have k0 : fN (aF A) i 0 = 2 := by rw [← hfi]; exact hq.1.1
        have k3 : fN (aF A) i 3 = d := by rw [← hfi]; exact hq.1.2.1
        have k5 : fN (aF A) i 5 = nm := by
          rcases hq.2.2 with q | q
          · rw [← hfi]; exact q.2
          · exact absurd hq.1.1 q.1
        have hh : jHolds S d 1 := (isDr_iff hP hS d).mp ((EQ_D hE d).mp hd)
        have hmn : ¬ jMissN (aF A) Z i := fun q => hm (by
          unfold jMiss
          rw [k3, if_pos k0, if_pos k0]; exact ⟨hh, q⟩)
        unfold jMissN at hmn
        rw [k3, k5] at hmn
        exact (Classical.not_not.mp hmn).symm
      · rw [hid_skip (Or.inr rfl) c]
    refine ⟨tg, ?_⟩
    rw [eTD, eTD']
    unfold dF
    rw [tg]
  · by_cases ck1 : fN (aF A) i 0 = 1 ∧ fN (aF A) i 3 = f
    · obtain ⟨k0, k3⟩ := ck1
      have hh : jHolds S f 0 := (isFl_iff hP hS f).mp ((EQ_F hE f).mp hf)
      have hmd : ¬ jMissD (aF A) Z i := fun q => hm (by
        unfold jMiss
        rw [k3, if_neg (by omega), if_neg (by omega)]; exact ⟨hh, q⟩)
      unfold jMissD at hmd
      rw [k3] at hmd
      by_cases cp : qCpy (fHid (aF A) (zSet Z i 1)) 1 f (fN (aF A) i 4) 128 = -1
      · have nocopy : ∀ j : Int, 0 ≤ j → j < 128 → ¬ (rT (fHid (aF A) (zSet Z i 1)) j 1 f ∧ fN (fHid (aF A) (zSet Z i 1)) j 4 = fN (aF A) i 4) := fun j j0 j1 q => by
          rcases qCpy_sp (fHid (aF A) (zSet Z i 1)) 1 f (fN (aF A) i 4) 128 (Nat.le_refl _) with ⟨-, c2⟩ | ⟨c1, -, -⟩
          · exact c2 j (by omega) j1 q
          · omega
        have si := sOK_k (hSn i i0 i1 hw)
        have hTi : rT (aF A) i 1 f := (rT_W (Or.inl rfl)).mpr ⟨hw, k0, k3⟩
        have hqi : qC (aF A) 1 f 64 2147483647 i := ⟨hTi, by omega, Or.inr ⟨by omega, Or.inl (by omega)⟩⟩
        have hx : qNew (fHid (aF A) Z) 1 f 64 2147483647 128 ≠ i := fun hx => by
          have hne : qNew (aF A) 1 f 64 2147483647 128 ≠ -1 := fun z => by
            rcases qNew_sp (aF A) 1 f 64 2147483647 128 with ⟨-, h2⟩ | ⟨h1, -, -⟩
            · exact h2 i i0 i1 hqi
            · omega
          have hlive := new_live hP hh hne
          rcases qNew_sp (aF A) 1 f 64 2147483647 128 with ⟨h1, -⟩ | ⟨h1, h2, h3⟩
          · exact hne h1
          · generalize qNew (aF A) 1 f 64 2147483647 128 = q at h1 h2 h3 hlive
            have hqi' : q ≠ i := fun z => hlive (by rw [z]; exact hdd)
            have hZq : Z q = 0 := Classical.byContradiction (fun z => hlive (hZd q h1.1 h1.2 z))
            have hqH : qC (fHid (aF A) Z) 1 f 64 2147483647 q := by
              have e := fHid_z (aF A) Z q hZq
              unfold qC rT rS at h2 ⊢
              rw [e, e, e, e, e, e, e, e]; exact h2
            rcases qNew_sp (fHid (aF A) Z) 1 f 64 2147483647 128 with ⟨g1, -⟩ | ⟨g1, g2, g3⟩
            · omega
            · rw [hx] at g3
              have a := g3 q h1.1 h1.2 hqH
              have b := h3 i i0 i1 hqi
              rw [hid_v _ _ (by decide), hid_v _ _ (by decide)] at a
              rcases Int.lt_trichotomy q i with z | z | z
              · have := a.2 z; omega
              · exact hqi' z
              · have := b.2 z; omega
        refine ⟨?_, fun p p0 p1 => ?_⟩
        · unfold LN
          rw [hid_skip (Or.inl rfl) hx]
          by_cases z : qNew (fHid (aF A) Z) 1 f 64 2147483647 128 = -1
          · rw [if_pos z, if_pos z]
          · rw [if_neg z, if_neg z, hid_ne hx]
        · have eb : ∀ Y : Int → Int, BY (fHid (aF A) Y) f p = qByt (aF A) (qNew (fHid (aF A) Y) 1 f p 2147483647 128) p := fun Y => hid_BY _ _
          rw [eb, eb]
          by_cases xi : qNew (fHid (aF A) Z) 1 f p 2147483647 128 = i
          · rcases qNew_sp (fHid (aF A) Z) 1 f p 2147483647 128 with ⟨g1, -⟩ | ⟨g1, g2, g3⟩
            · omega
            · rw [xi] at g2 g3
              have hri : rS (aF A) i p := by
                have := g2.2.2
                unfold rS at this ⊢
                rw [hfi, hfi, hfi, hfi] at this; exact this
              have hbit : bt (jShown (fHid (aF A) Z) (aF A) i) p.toNat = true := (shown_bit hH hSn i0 i1 hw k0 (by omega)).mpr (by
                rw [show ((p.toNat : Nat) : Int) = p by omega, k3]
                refine ⟨hri, fun ⟨j, j0, j1, j2, j3⟩ => ?_⟩
                have wj := (rT_W (Or.inl rfl)).mp j1
                have sj := sOK_k (hH j j0.1 j0.2 wj.1)
                have := (g3 j j0.1 j0.2 ⟨j1, by omega, j3⟩).1
                rw [hfi] at this
                omega)
              have hsame : qByt (aF A) (qNew (fHid (aF A) Z) 1 f p (fN (aF A) i 4) 128) p = fByteFor (aF A) i p := Classical.byContradiction (fun z => hmd ⟨cp, p, p0, p1, by
                unfold jMissP
                rw [k3]
                refine ⟨?_, z⟩
                have := (bt_ask (x := jShown (fHid (aF A) Z) (aF A) i) (p := p.toNat) (by omega)).mpr hbit
                rw [show ((p.toNat : Nat) : Int) = p by omega] at this
                exact this⟩)
              have hq2 : qNew (fHid (aF A) (zSet Z i 1)) 1 f p 2147483647 128 = qNew (fHid (aF A) Z) 1 f p (fN (aF A) i 4) 128 := by
                have low : ∀ j, 0 ≤ j → j < 128 → qC (fHid (aF A) (zSet Z i 1)) 1 f p 2147483647 j → qC (fHid (aF A) Z) 1 f p (fN (aF A) i 4) j := fun j j0 j1 q => by
                  obtain ⟨q1, q2⟩ := (hid_qC (Or.inl rfl)).mp q
                  have a := (g3 j j0 j1 q1).1
                  rw [hfi] at a
                  have b := nocopy j j0 j1
                  rw [hid_ne q2] at b
                  have c : fN (fHid (aF A) Z) j 4 ≠ fN (aF A) i 4 := fun z => b ⟨q.1, z⟩
                  exact ⟨q1.1, by omega, q1.2.2⟩
                rcases qNew_sp (fHid (aF A) Z) 1 f p (fN (aF A) i 4) 128 with ⟨y1, y2⟩ | ⟨y1, y2, y3⟩
                · rw [y1]; exact qNew_none (fun j j0 j1 q => y2 j j0 j1 (low j j0 j1 q))
                · have yi : qNew (fHid (aF A) Z) 1 f p (fN (aF A) i 4) 128 ≠ i := fun z => by
                    have := y2.2.1
                    rw [z, hfi] at this; omega
                  refine qNew_is y1.1 y1.2 ((hid_qC (Or.inl rfl)).mpr ⟨⟨y2.1, by have := y2.2.1; omega, y2.2.2⟩, yi⟩) (fun j j0 j1 q => ?_)
                  have := y3 j j0 j1 (low j j0 j1 q)
                  rw [hid_ne ((hid_qC (Or.inl rfl)).mp q).2, hid_ne yi]
                  exact this
              rw [hq2, hsame, xi]
              unfold qByt
              rw [if_neg (by omega)]
          · rw [hid_skip (Or.inl rfl) xi]
      · have hcov : cover (fHid (aF A) Z) (fHid (aF A) (zSet Z i 1)) := fun j j0 j1 w => by
          by_cases e : j = i
          · subst e
            rcases qCpy_sp (fHid (aF A) (zSet Z j 1)) 1 f (fN (aF A) j 4) 128 (Nat.le_refl _) with ⟨c1, -⟩ | ⟨c1, c2, -⟩
            · exact absurd c1 cp
            · have wc := (rT_W (Or.inl rfl)).mp c2.1
              have wc2 := hid_rW.mp wc.1
              refine ⟨_, ⟨by omega, c1.2⟩, wc.1, fun k kk0 kk1 => ?_⟩
              rw [fHid_z _ _ _ wc2.2, hfi]
              have c24 := c2.2
              rw [fHid_z _ _ _ wc2.2] at c24
              have c20 := wc.2.1
              rw [fHid_z _ _ _ wc2.2] at c20
              have c23 := wc.2.2
              rw [fHid_z _ _ _ wc2.2] at c23
              exact hU _ j (by omega) c1.2 j0 j1 wc2.1 hw (by omega) (by omega) c24 k kk0 kk1
          · exact ⟨j, ⟨j0, j1⟩, by unfold rW; rw [hid_ne e, hid_ne e, hid_ne e]; exact w, fun k _ _ => hid_ne e k⟩
        have hcov2 : cover (fHid (aF A) (zSet Z i 1)) (fHid (aF A) Z) := fun j j0 j1 w => by
          by_cases e : j = i
          · subst e
            have := w.1; rw [hid_eq] at this; omega
          · exact ⟨j, ⟨j0, j1⟩, by have w2 := w; unfold rW at w2; rw [hid_ne e, hid_ne e, hid_ne e] at w2; exact w2, fun k _ _ => (hid_ne e k).symm⟩
        have st := cover_told (NU_cover hU (hid_cov (zSet Z i 1))) hcov hcov2
        exact ⟨st.2.1 f, fun p _ _ => st.2.2 f p⟩
    · have ne : ∀ key, qNew (fHid (aF A) Z) 1 f key 2147483647 128 ≠ i := fun key z => by
        rcases qNew_sp (fHid (aF A) Z) 1 f key 2147483647 128 with ⟨h1, -⟩ | ⟨-, h2, -⟩
        · omega
        · rw [z] at h2
          have w := (rT_W (Or.inl rfl)).mp h2.1
          rw [hfi, hfi] at w
          exact ck1 ⟨w.2.1, w.2.2⟩
      refine ⟨?_, fun p _ _ => ?_⟩
      · unfold LN
        rw [hid_skip (Or.inl rfl) (ne 64)]
        by_cases z : qNew (fHid (aF A) Z) 1 f 64 2147483647 128 = -1
        · rw [if_pos z, if_pos z]
        · rw [if_neg z, if_neg z, hid_ne (ne 64)]
      · have eb : ∀ Y : Int → Int, BY (fHid (aF A) Y) f p = qByt (aF A) (qNew (fHid (aF A) Y) 1 f p 2147483647 128) p := fun Y => hid_BY _ _
        rw [eb, eb, hid_skip (Or.inl rfl) (ne p)]
theorem PA_kind {F : Fl} (hA : PA F) {b p : Int} (hb : 0 ≤ b ∧ b < 8) (hp : 0 ≤ p ∧ p < fC F b) (h : ¬ jNo F (b * 16 + p)) : rW F (b * 16 + p) := by
  have hn := (hA b hb.1 hb.2).2.2.1 p hp.1 hp.2
  have h1 : fN F (b * 16 + p) 0 ≠ 0 ∧ fN F (b * 16 + p) 2 = fN F (b * 16 + p) 1 := Classical.byContradiction (fun z => h (Or.inl z))
  have h2 : fN F (b * 16 + p) 0 ≠ 3 := fun z => h (Or.inr z)
  rcases hn.1 with q | q
  · have := (sOK_k q).1; exact ⟨this, h1.2⟩
  · exact absurd q.1 h2
/-- what is passed over in a block is not missed -/
theorem ck_EQ {A : AS} {fl : Int → Int} {nb vb : Int} {S : Tr} (hP : IP A fl nb vb) (hS : TSA A fl S) {b : Int} (hb : 0 ≤ b ∧ b < 8) : ∀ n : Nat, (n : Int) ≤ fC (aF A) b → EQ (aF A) (fHid (aF A) (ck (aF A) S b n).1) ∧ (∀ j, 0 ≤ j → j < 128 → (ck (aF A) S b n).1 j ≠ 0 → jDead (aF A) (aF A) S j) ∧ (∀ i ∈ (ck (aF A) S b n).2, (b * 16 ≤ i ∧ i < b * 16 + n) ∧ rW (aF A) i ∧ (ck (aF A) S b n).1 i = 0) ∧ (∀ i, b * 16 ≤ i → i < b * 16 + n → rW (aF A) i → (ck (aF A) S b n).1 i = 0 → i ∈ (ck (aF A) S b n).2)
  | 0, _ => by
    refine ⟨EQ_of ?_, fun j _ _ z => absurd rfl z, fun i hi => absurd hi List.not_mem_nil, fun i h0 h1 => by omega⟩
    have e : fHid (aF A) (ck (aF A) S b 0).1 = aF A := fHid_0 _
    rw [e]; exact ⟨fun _ _ => ⟨rfl, rfl⟩, fun _ => rfl, fun _ _ => rfl⟩
  | n + 1, hn => by
    obtain ⟨h1, h2, h3, h4⟩ := ck_EQ hP hS hb n (by omega)
    have hz := ck_z (aF A) S b n (b * 16 + n) (by omega)
    have hc16 := (hP.2.1 b hb.1 hb.2).1.1
    rw [ck_s]
    generalize ck (aF A) S b n = s at h1 h2 h3 h4 hz ⊢
    by_cases c : jNo (aF A) (b * 16 + n)
    · rw [ckS_0 c]
      refine ⟨h1, h2, fun i hi => by obtain ⟨a, e⟩ := h3 i hi; exact ⟨by omega, e⟩, fun i g0 g1 w z => ?_⟩
      by_cases e : i = b * 16 + n
      · subst e
        rcases c with q | q
        · exact absurd ⟨by have := w.1; omega, w.2⟩ q
        · have := w.1; omega
      · exact h4 i g0 (by omega) w z
    · have hw := PA_kind hP.2.1 hb (p := n) (by omega) c
      by_cases c2 : jDead (aF A) (aF A) S (b * 16 + n) ∧ ¬ jMiss (aF A) S s.1 (b * 16 + n)
      · rw [ckS_1 c c2]
        refine ⟨pass_EQ hP hS (by omega) (by omega) hz hw c2.1 c2.2 h1 h2, fun j j0 j1 z => ?_, fun i hi => ?_, fun i g0 g1 w z => ?_⟩
        · have z : (if j = b * 16 + n then 1 else s.1 j) ≠ 0 := z
          by_cases e : j = b * 16 + n
          · rw [e]; exact c2.1
          · rw [if_neg e] at z; exact h2 j j0 j1 z
        · obtain ⟨a, e, g⟩ := h3 i hi
          refine ⟨by omega, e, ?_⟩
          show (if i = b * 16 + n then 1 else s.1 i) = 0
          rw [if_neg (by omega)]; exact g
        · have z : (if i = b * 16 + n then 1 else s.1 i) = 0 := z
          by_cases e : i = b * 16 + n
          · rw [if_pos e] at z; cases z
          · rw [if_neg e] at z; exact h4 i g0 (by omega) w z
      · rw [ckS_2 c c2]
        refine ⟨h1, h2, fun i hi => ?_, fun i g0 g1 w z => ?_⟩
        · rcases List.mem_append.mp hi with q | q
          · obtain ⟨a, e⟩ := h3 i q; exact ⟨by omega, e⟩
          · rw [List.mem_singleton.mp q]; exact ⟨by omega, hw, hz⟩
        · by_cases e : i = b * 16 + n
          · rw [e]; exact List.mem_append_right _ (by simp)
          · exact List.mem_append_left _ (h4 i g0 (by omega) w z)
