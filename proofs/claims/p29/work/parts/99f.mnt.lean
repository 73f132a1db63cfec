/-! ### cuts and mounts of the law's methods -/
theorem MC_low {A : AS} {nb vb nb' vb' : Int} {m : nMem} {e : nEnv} (h9 : MC A nb' vb' m e) (hI : IB (aF A) nb vb) (hb : fD (aF A) = 0 → aX A ≤ nb ∧ ∀ n, (0 ≤ aD A n ∧ aD A n ≤ vb) ∧ 0 ≤ aN A n ∧ aN A n ≤ vb) : MC A nb vb m e := by
  obtain ⟨S9, hC9, hB9, hI9, hD9, hk9, hon9⟩ := h9
  refine ⟨S9, hC9, hB9, hI, hD9, hk9, fun q => ?_⟩
  obtain ⟨fl9, ⟨b1, b2, b3, b4, b5, b6, b7, b8, b9, b10⟩, c⟩ := hon9 q
  exact ⟨fl9, ⟨b1, b2, b3, b4, b5, b6, b7, ⟨b8.1, (hb q).1⟩, (hb q).2, b10⟩, c⟩
theorem MC_IB {A : AS} {nb vb : Int} {m : nMem} {e : nEnv} (h : MC A nb vb m e) : IB (aF A) nb vb ∧ (fD (aF A) = 0 ∨ fD (aF A) = 1) ∧ (fD (aF A) = 0 → aX A ≤ nb ∧ ∀ n, (0 ≤ aD A n ∧ aD A n ≤ vb) ∧ 0 ≤ aN A n ∧ aN A n ≤ vb) := by
  obtain ⟨S, hC, hB, hI, hD, hk, hon⟩ := h
  refine ⟨hI, hD, fun q => ?_⟩
  obtain ⟨fl, ⟨b1, b2, b3, b4, b5, b6, b7, b8, b9, b10⟩, c⟩ := hon q
  exact ⟨b8.2, b9⟩
def CTr (A A' : AS) (u : Int) : Prop := fL (aF A') = u ∧ fD (aF A') = fD (aF A) ∧ EQ (aF A) (aF A') ∧ (VI (aF A) → VI (aF A')) ∧ (BI (aF A) → BI (aF A')) ∧ (ZI (aF A) → ZI (aF A'))
def MRr (A A' : AS) (r : Int) : Prop := (r = -9 ∧ drk (aF A) (aF A') ∧ VI (aF A') ∧ BI (aF A') ∧ fL (aF A) ≠ -1 ∧ ¬ ZI (aF A)) ∨ ((7 ≤ r ∧ r ≤ 320) ∧ (ZI (aF A) → 8 ≤ r) ∧ fD (aF A') = 0 ∧ EQ (aF A) (aF A') ∧ VZ (aF A') ∧ fL (aF A') ≤ fL (aF A) ∧ (fL (aF A) = -1 → fL (aF A') = -1))
section
variable {N : Int} {A : AS} {nb vb : Int} {t : Nat} {X μ : nMem} {ε : nEnv} {Q : nOut → nMem → nEnv → Prop}
theorem qs_cut {u : Int} (hW : Wd N A nb vb (t + 1) X μ ε) (hn : nb + 1 ≤ 2000) (hv : vb + 2 ≤ 4000) (hu : -1 ≤ u ∧ u ≤ 1000) (h : ∀ A' m e, CTr A A' u → Wd N A' nb vb t X m e → Q (.inl (some (vI (fL (aF A))))) m e) : Sp mX6_cut [vR 1, vI u] μ ε Q := by
  refine cl_cut hW hn hv (by unfold inR; omega) (fun m e w => ?_)
  obtain ⟨c1, c2, c3, c4, c5, c6, c7, c8, c9⟩ := pa_cut (A := A) hu
  obtain ⟨i1, i2, i3⟩ := MC_IB hW.1
  have iw := (MC_IB w.1).1
  rw [c1]
  refine h _ m e ⟨c2, c3, c6, c7, c8, c9⟩ ⟨MC_low w.1 ?_ (fun q => ?_), w.2⟩
  · unfold actCut at iw ⊢
    rw [pI_0 (fun z => z hu)] at iw ⊢
    exact IB_same2 (F := aF A) (sameN_R (fun _ _ => rfl)) i1.1 iw.2.2.2.1 i1
  · rw [c3] at q
    unfold actCut
    rw [pI_0 (fun z => z hu)]
    exact i3 q
theorem qs_mount {s : Int} (hW : Wd N A nb vb (t + 1) X μ ε) (hn : nb + 1 ≤ 2000) (hv : vb + 2 ≤ 4000) (hv0 : 0 ≤ vb) (hn2 : 2 ≤ nb) (hV : VI (aF A)) (hB : BI (aF A)) (hs : s = 0 ∨ s = 1) (h : ∀ A' r m e, MRr A A' r → Wd N A' nb vb t X m e → Q (.inl (some (vI r))) m e) : Sp mX6_mount [vR 1, vI s] μ ε Q := by
  obtain ⟨i1, i2, i3⟩ := MC_IB hW.1
  refine cl_mount hW hn hv hv0 hs (fun m e w => ?_)
  obtain ⟨j1, j2⟩ := mount_b (A := A) (s := s) i1 ⟨hv0, by omega⟩ (by omega)
  have w' : Wd N (actMount A s).2 nb vb t X m e := ⟨MC_low w.1 j1 j2, w.2⟩
  obtain ⟨r0, r1, r2, r3⟩ := rd_b i1.1 s 8 (Nat.le_refl _)
  rcases pa_mount (s := s) i1 hV hB hn2 with ⟨a1, a2, a3, a4, a5, a6⟩ | ⟨a1, a2, a3, a4, a5, a6⟩
  · rw [a1]; exact h _ _ m e (Or.inl ⟨rfl, a2, a3, a4, a5, a6⟩) w'
  · rw [a1]
    refine h _ _ m e (Or.inr ⟨⟨?_, by omega⟩, fun z => by have := r2 z; omega, a2, a3, a4, a5, a6⟩) w'
    rcases r3 hB with q | q
    · omega
    · omega
end
theorem sp_L_isMounted {μ : nMem} {ε : nEnv} {Q : nOut → nMem → nEnv → Prop} {N : Int} {A : AS} {nb vb : Int} {t : Nat} {X : nMem} {y : Int} (hW : Wd N A nb vb (t + 20) X μ ε) (hDk : fD (aF A) = 1) (hL : fL (aF A) = -1) (hV : VI (aF A)) (hB : BI (aF A)) (hnb : nb + 1 ≤ 2000) (hvb : vb + 2 ≤ 4000) (hvb0 : 0 ≤ vb) (hn2 : 2 ≤ nb) (ry : 0 ≤ y ∧ y ≤ 2147483647) (h : ∀ A1 m e, Wd N A1 nb vb t X m e → fD (aF A1) = 0 → EQ (aF A) (aF A1) → VZ (aF A1) → Q (.inl (some (vI 1))) m e) : Sp mL_isMounted [vR 1, vI y] μ ε Q := by
  refine Sp_of (L := [(0, vR 1), (1, vI y)]) (by decide) rfl rfl (Nat.le_of_ble_eq_true rfl) ?_
  refine wq_aload_n (pc := 0) dL_isMounted_0 rfl rfl ?_
  refine cVK_0 (pc := 1) dL_isMounted_1 (Wd_s (by with_reducible assumption)) (cw_L_72 _ rfl) (by decide) rfl ⟨by decide, by decide⟩ (Nat.le_of_ble_eq_true rfl) (qs_isDark1 (by with_reducible assumption) hnb hvb hDk (fun mm ee W => ?_))
  refine kr_s ?_
  refine wq_if_eq (pc := 4) (tgt := 63) dL_isMounted_4 (by decide) (by first | (unfold inR; omega) | assumption | exact hr2 _ | exact hr3 _ | exact hr4 _) (fun c => absurd c (by decide)) (fun _ => ?_)
  refine wq_aload_n (pc := 7) dL_isMounted_7 rfl rfl ?_
  refine wq_bipush (pc := 8) dL_isMounted_8 (by decide) (by decide) ?_
  refine wq_iconst (pc := 10) dL_isMounted_10 ?_
  refine wq_iconst (pc := 11) dL_isMounted_11 ?_
  refine wq_iconst (pc := 12) dL_isMounted_12 ?_
  refine cW_5 (pc := 13) dL_isMounted_13 (cw_L_85 _ rfl) ⟨by decide, by decide⟩ (Nat.le_of_ble_eq_true rfl) (qd_dark6 (by with_reducible assumption) hnb hvb hDk (fun mm ee W => ?_))
  show wp mL_isMounted 16 _ _ _ _ _
  refine wq_bipush (pc := 16) dL_isMounted_16 (by decide) (by decide) ?_
  refine wq_icmp_ne (pc := 18) (tgt := 63) dL_isMounted_18 (by decide) (by first | (unfold inR; omega) | assumption | exact hr2 _ | exact hr3 _ | exact hr4 _) (by first | (unfold inR; omega) | assumption | exact hr2 _ | exact hr3 _ | exact hr4 _) (fun c4 => ?_) (fun c4 => ?_)
  · skip
    exact absurd rfl c4
  · skip
    refine wq_aload_n (pc := 21) dL_isMounted_21 rfl rfl ?_
    refine wq_iconst (pc := 22) dL_isMounted_22 ?_
    refine wq_sipush (pc := 23) dL_isMounted_23 (by decide) (by decide) ?_
    refine wq_iconst (pc := 26) dL_isMounted_26 ?_
    refine wq_iconst (pc := 27) dL_isMounted_27 ?_
    refine cW_5 (pc := 28) dL_isMounted_28 (cw_L_85 _ rfl) ⟨by decide, by decide⟩ (Nat.le_of_ble_eq_true rfl) (qd_dark5 (by with_reducible assumption) hnb hvb hDk (fun mm ee W => ?_))
    show wp mL_isMounted 31 _ _ _ _ _
    refine wq_bipush (pc := 31) dL_isMounted_31 (by decide) (by decide) ?_
    refine wq_icmp_ne (pc := 33) (tgt := 63) dL_isMounted_33 (by decide) (by first | (unfold inR; omega) | assumption | exact hr2 _ | exact hr3 _ | exact hr4 _) (by first | (unfold inR; omega) | assumption | exact hr2 _ | exact hr3 _ | exact hr4 _) (fun c6 => ?_) (fun c6 => ?_)
    · skip
      exact absurd rfl c6
    · skip
      have cut7 : ∀ (u : Int) (A1 : AS) (m : nMem) (e : nEnv), ((y % 4 = 0 ∧ u = y / 4 % 3) ∨ (y % 4 ≠ 0 ∧ u = -1)) → (CTr A A1 u) → (Wd N A1 nb vb (t + 15) X m e) → wp mL_isMounted 59 [(0, vR 1), (1, vI y)] [] m e Q := by
        intro u A1 m e e0 e1 e2
        obtain ⟨v1, v2, v3, v4, v5, v6⟩ := id e1
        have hV1 := v4 hV
        have hB1 := v5 hB
        have W := e2
        refine wq_iconst (pc := 59) dL_isMounted_59 ?_
        refine wq_goto (pc := 60) (tgt := 64) dL_isMounted_60 (by decide) ?_
        have e0o := e0
        refine wq_istore_n (pc := 64) (L' := [(2, _), (0, _), (1, _)]) dL_isMounted_64 rfl rfl (by decide) ?_
        have cut8 : ∀ (A2 : AS) (r : Int) (m : nMem) (e : nEnv), (MRr A1 A2 r) → (Wd N A2 nb vb (t + 10) X m e) → wp mL_isMounted 81 [(0, vR 1), (1, vI y), (2, vI 1), (3, vI r)] [] m e Q := by
          intro A2 r m e e0 e1
          have hmr := e0
          unfold MRr at hmr
          rw [v1] at hmr
          have hr9 : r = -9 → u ≠ -1 := fun q => by rcases hmr with z | z; exact z.2.2.2.2.1; omega
          have hrr : inR r := by rcases hmr with z | z <;> (unfold inR; omega)
          have W := e1
          have cut9 : ∀ (A4 : AS) (r4 : Int) (m : nMem) (e : nEnv), (fD (aF A4) = 0) → (EQ (aF A) (aF A4)) → (VZ (aF A4)) → (7 ≤ r4 ∧ r4 ≤ 320) → ((y % 4 = 0 ∧ fL (aF A4) ≤ y / 4 % 3) ∨ (y % 4 ≠ 0 ∧ fL (aF A4) = -1)) → (Wd N A4 nb vb (t + 5) X m e) → wp mL_isMounted 136 [(0, vR 1), (1, vI y), (2, vI 1), (3, vI r4)] [] m e Q := by
            intro A4 r4 m e e0 e1 e2 e3 e4 e5
            have hA4 := e0
            have hE4 := e1
            have hV4 := e2
            have hr4 := e3
            have hl4 := e4
            have hW4 := e5
            have W := e5
            refine wq_aload_n (pc := 136) dL_isMounted_136 rfl rfl ?_
            refine wq_iconst (pc := 137) dL_isMounted_137 ?_
            refine cVK_1 (pc := 138) dL_isMounted_138 (Wd_s (by with_reducible assumption)) (cw_L_102 _ rfl) (by decide) rfl ⟨by decide, by decide⟩ (Nat.le_of_ble_eq_true rfl) (qs_cut (by with_reducible assumption) hnb hvb (by omega) (fun A5 mm ee hc5 W => ?_))
            refine kr_s ?_
            obtain ⟨u1, u2, u3, u4, u5, u6⟩ := id hc5
            have hDk : fD (aF A5) = 0 := u2.trans hA4
            have hLr : inR (fL (aF A4)) := by have := (MC_IB hW4.1).1.2.2.2.1; unfold inR; omega
            refine wq_istore (pc := 141) (L' := [(4, _), (0, _), (1, _), (2, _), (3, _)]) dL_isMounted_141 rfl (by decide) ?_
            refine wq_iload_n (pc := 143) dL_isMounted_143 rfl rfl ?_
            refine wq_if_eq (pc := 144) (tgt := 196) dL_isMounted_144 (by decide) (by first | (unfold inR; omega) | assumption | exact hr2 _ | exact hr3 _ | exact hr4 _) (fun c => absurd c (by decide)) (fun _ => ?_)
            refine wq_iload_n (pc := 147) dL_isMounted_147 rfl rfl ?_
            refine wq_bipush (pc := 148) dL_isMounted_148 (by decide) (by decide) ?_
            refine wq_icmp_le (pc := 150) (tgt := 196) dL_isMounted_150 (by decide) (by first | (unfold inR; omega) | assumption | exact hr2 _ | exact hr3 _ | exact hr4 _) (by first | (unfold inR; omega) | assumption | exact hr2 _ | exact hr3 _ | exact hr4 _) (fun c12 => ?_) (fun c12 => ?_)
            · skip
              exfalso; omega
            · skip
              refine wq_iload_n (pc := 153) dL_isMounted_153 rfl rfl ?_
              refine wq_sipush (pc := 154) dL_isMounted_154 (by decide) (by decide) ?_
              refine wq_icmp_gt (pc := 157) (tgt := 196) dL_isMounted_157 (by decide) (by first | (unfold inR; omega) | assumption | exact hr2 _ | exact hr3 _ | exact hr4 _) (by first | (unfold inR; omega) | assumption | exact hr2 _ | exact hr3 _ | exact hr4 _) (fun c13 => ?_) (fun c13 => ?_)
              · skip
                exfalso; omega
              · skip
                refine wq_aload_n (pc := 160) dL_isMounted_160 rfl rfl ?_
                refine cVK_0 (pc := 161) dL_isMounted_161 (Wd_s (by with_reducible assumption)) (cw_L_72 _ rfl) (by decide) rfl ⟨by decide, by decide⟩ (Nat.le_of_ble_eq_true rfl) (qs_isDark0 (by with_reducible assumption) hnb hvb hDk (fun mm ee W => ?_))
                refine kr_s ?_
                refine wq_if_ne (pc := 164) (tgt := 196) dL_isMounted_164 (by decide) (by first | (unfold inR; omega) | assumption | exact hr2 _ | exact hr3 _ | exact hr4 _) (fun c => absurd c (by decide)) (fun _ => ?_)
                refine wq_iload_n (pc := 167) dL_isMounted_167 rfl rfl ?_
                refine wq_iconst (pc := 168) dL_isMounted_168 ?_
                refine wq_irem (pc := 169) dL_isMounted_169 (by omega) (by omega) ?_
                refine wq_if_ne (pc := 170) (tgt := 186) dL_isMounted_170 (by decide) (by first | (unfold inR; omega) | assumption | exact hr2 _ | exact hr3 _ | exact hr4 _) (fun c16 => ?_) (fun c16 => ?_)
                · skip
                  refine wq_iload (pc := 186) dL_isMounted_186 rfl ?_
                  refine wq_iconst (pc := 188) dL_isMounted_188 ?_
                  refine wq_icmp_ne (pc := 189) (tgt := 196) dL_isMounted_189 (by decide) hLr (by unfold inR; omega) (fun c17 => ?_) (fun c17 => ?_)
                  · skip
                    exfalso; omega
                  · skip
                    refine wq_iconst (pc := 192) dL_isMounted_192 ?_
                    refine wq_goto (pc := 193) (tgt := 197) dL_isMounted_193 (by decide) ?_
                    refine wq_zret (pc := 197) dL_isMounted_197 rfl (by first | omega | (simp; done) | assumption) ?_
                    exact h _ _ _ (Wd_t W (by omega)) hDk (EQ_trans hE4 u3) ⟨u4 hV4.1, u6 hV4.2⟩
                · skip
                  refine wq_iload (pc := 173) dL_isMounted_173 rfl ?_
                  refine wq_iload_n (pc := 175) dL_isMounted_175 rfl rfl ?_
                  refine wq_iconst (pc := 176) dL_isMounted_176 ?_
                  refine wq_idiv (pc := 177) dL_isMounted_177 (by omega) (by omega) ?_
                  refine wq_iconst (pc := 178) dL_isMounted_178 ?_
                  refine wq_irem (pc := 179) dL_isMounted_179 (by omega) (by omega) ?_
                  refine wq_icmp_gt (pc := 180) (tgt := 196) dL_isMounted_180 (by decide) hLr (by unfold inR; omega) (fun c18 => ?_) (fun c18 => ?_)
                  · skip
                    exfalso; omega
                  · skip
                    refine wq_goto (pc := 183) (tgt := 192) dL_isMounted_183 (by decide) ?_
                    refine wq_iconst (pc := 192) dL_isMounted_192 ?_
                    refine wq_goto (pc := 193) (tgt := 197) dL_isMounted_193 (by decide) ?_
                    refine wq_zret (pc := 197) dL_isMounted_197 rfl (by first | omega | (simp; done) | assumption) ?_
                    exact h _ _ _ (Wd_t W (by omega)) hDk (EQ_trans hE4 u3) ⟨u4 hV4.1, u6 hV4.2⟩
          refine wq_iload_n (pc := 81) dL_isMounted_81 rfl rfl ?_
          refine wq_bipush (pc := 82) dL_isMounted_82 (by decide) (by decide) ?_
          refine wq_icmp_ne (pc := 84) (tgt := 136) dL_isMounted_84 (by decide) hrr (by unfold inR; omega) (fun c19 => ?_) (fun c19 => ?_)
          · skip
            refine wq_sub1 (L' := [(0, _), (1, _), (2, _), (3, _)]) ⟨rfl, rfl, rfl, rfl, trivial⟩ ?_
            first
              | (obtain ⟨⟨g1, g2⟩, g3, g4, g5, g6, g7, g8⟩ := hmr.resolve_left (fun z => by have := z.1; omega)
                 exact cut9 _ _ _ _ g4 (EQ_trans v3 g5) g6 ⟨g1, g2⟩ (by
                   rcases e0o with z | z
                   · exact Or.inl ⟨z.1, by omega⟩
                   · exact Or.inr ⟨z.1, g8 z.2⟩) (Wd_t W (by omega)))
              | (obtain ⟨z1, z2, z3, z4, z5, z6⟩ := hmr.resolve_right (fun z => by have := z.1; omega)
                 obtain ⟨⟨g1, g2⟩, g3, g4, g5, g6, g7, g8⟩ := hm4.resolve_left (fun z => z.2.2.2.2.1 hc3.1)
                 exact cut9 _ _ _ _ g4 (EQ_trans v3 (EQ_trans z2.2 (EQ_trans hc3.2.2.1 g5))) g6 ⟨g1, g2⟩ (Or.inl ⟨by omega, by have := g8 hc3.1; omega⟩) (Wd_t W (by omega)))
          · skip
            refine wq_iload_n (pc := 87) dL_isMounted_87 rfl rfl ?_
            refine wq_if_eq (pc := 88) (tgt := 117) dL_isMounted_88 (by decide) (by first | (unfold inR; omega) | assumption | exact hr2 _ | exact hr3 _ | exact hr4 _) (fun c => absurd c (by decide)) (fun _ => ?_)
            refine wq_iload_n (pc := 91) dL_isMounted_91 rfl rfl ?_
            refine wq_iconst (pc := 92) dL_isMounted_92 ?_
            refine wq_irem (pc := 93) dL_isMounted_93 (by omega) (by omega) ?_
            refine wq_if_ne (pc := 94) (tgt := 117) dL_isMounted_94 (by decide) (by first | (unfold inR; omega) | assumption | exact hr2 _ | exact hr3 _ | exact hr4 _) (fun c21 => ?_) (fun c21 => ?_)
            · skip
              exfalso; omega
            · skip
              obtain ⟨z1, z2, z3, z4, z5, z6⟩ := id (hmr.resolve_right (fun z => by have := z.1; omega))
              have hDk := z2.1.1
              refine wq_aload_n (pc := 97) dL_isMounted_97 rfl rfl ?_
              refine cVK_0 (pc := 98) dL_isMounted_98 (Wd_s (by with_reducible assumption)) (cw_L_72 _ rfl) (by decide) rfl ⟨by decide, by decide⟩ (Nat.le_of_ble_eq_true rfl) (qs_isDark1 (by with_reducible assumption) hnb hvb hDk (fun mm ee W => ?_))
              refine kr_s ?_
              refine wq_if_eq (pc := 101) (tgt := 117) dL_isMounted_101 (by decide) (by first | (unfold inR; omega) | assumption | exact hr2 _ | exact hr3 _ | exact hr4 _) (fun c => absurd c (by decide)) (fun _ => ?_)
              refine wq_aload_n (pc := 104) dL_isMounted_104 rfl rfl ?_
              refine wq_iconst (pc := 105) dL_isMounted_105 ?_
              refine cVK_1 (pc := 106) dL_isMounted_106 (Wd_s (by with_reducible assumption)) (cw_L_102 _ rfl) (by decide) rfl ⟨by decide, by decide⟩ (Nat.le_of_ble_eq_true rfl) (qs_cut (by with_reducible assumption) hnb hvb (by omega) (fun A3 mm ee hc3 W => ?_))
              refine kr_s ?_
              refine wq_iconst (pc := 109) dL_isMounted_109 ?_
              refine wq_icmp_ne (pc := 110) (tgt := 117) dL_isMounted_110 (by decide) (by rw [z2.1.2]; unfold inR; omega) (by unfold inR; omega) (fun c25 => ?_) (fun c25 => ?_)
              · skip
                exact absurd z2.1.2 c25
              · skip
                refine wq_iconst (pc := 113) dL_isMounted_113 ?_
                refine wq_goto (pc := 114) (tgt := 118) dL_isMounted_114 (by decide) ?_
                refine wq_istore_n (pc := 118) (L' := [(2, _), (0, _), (1, _), (3, _)]) dL_isMounted_118 rfl rfl (by decide) ?_
                have hV3 := hc3.2.2.2.1 z3
                have hB3 := hc3.2.2.2.2.1 z4
                refine wq_aload_n (pc := 119) dL_isMounted_119 rfl rfl ?_
                refine wq_iload_n (pc := 120) dL_isMounted_120 rfl rfl ?_
                refine wq_iconst (pc := 121) dL_isMounted_121 ?_
                refine wq_irem (pc := 122) dL_isMounted_122 (by omega) (by omega) ?_
                refine wq_iconst (pc := 123) dL_isMounted_123 ?_
                refine wq_icmp_ne (pc := 124) (tgt := 131) dL_isMounted_124 (by decide) (by first | (unfold inR; omega) | assumption | exact hr2 _ | exact hr3 _ | exact hr4 _) (by first | (unfold inR; omega) | assumption | exact hr2 _ | exact hr3 _ | exact hr4 _) (fun c26 => ?_) (fun c26 => ?_)
                · skip
                  refine wq_iconst (pc := 131) dL_isMounted_131 ?_
                  refine cVK_1 (pc := 132) dL_isMounted_132 (Wd_s (by with_reducible assumption)) (cw_L_105 _ rfl) (by decide) rfl ⟨by decide, by decide⟩ (Nat.le_of_ble_eq_true rfl) (qs_mount (by with_reducible assumption) hnb hvb hvb0 hn2 hV3 hB3 (by omega) (fun A4 r4 mm ee hm4 W => ?_))
                  refine kr_s ?_
                  refine wq_istore_n (pc := 135) (L' := [(3, _), (2, _), (0, _), (1, _)]) dL_isMounted_135 rfl rfl (by decide) ?_
                  refine wq_sub1 (L' := [(0, _), (1, _), (2, _), (3, _)]) ⟨rfl, rfl, rfl, rfl, trivial⟩ ?_
                  first
                    | (obtain ⟨⟨g1, g2⟩, g3, g4, g5, g6, g7, g8⟩ := hmr.resolve_left (fun z => by have := z.1; omega)
                       exact cut9 _ _ _ _ g4 (EQ_trans v3 g5) g6 ⟨g1, g2⟩ (by
                         rcases e0o with z | z
                         · exact Or.inl ⟨z.1, by omega⟩
                         · exact Or.inr ⟨z.1, g8 z.2⟩) (Wd_t W (by omega)))
                    | (obtain ⟨z1, z2, z3, z4, z5, z6⟩ := hmr.resolve_right (fun z => by have := z.1; omega)
                       obtain ⟨⟨g1, g2⟩, g3, g4, g5, g6, g7, g8⟩ := hm4.resolve_left (fun z => z.2.2.2.2.1 hc3.1)
                       exact cut9 _ _ _ _ g4 (EQ_trans v3 (EQ_trans z2.2 (EQ_trans hc3.2.2.1 g5))) g6 ⟨g1, g2⟩ (Or.inl ⟨by omega, by have := g8 hc3.1; omega⟩) (Wd_t W (by omega)))
                · skip
                  refine wq_iconst (pc := 127) dL_isMounted_127 ?_
                  refine wq_goto (pc := 128) (tgt := 132) dL_isMounted_128 (by decide) ?_
                  refine cVK_1 (pc := 132) dL_isMounted_132 (Wd_s (by with_reducible assumption)) (cw_L_105 _ rfl) (by decide) rfl ⟨by decide, by decide⟩ (Nat.le_of_ble_eq_true rfl) (qs_mount (by with_reducible assumption) hnb hvb hvb0 hn2 hV3 hB3 (by omega) (fun A4 r4 mm ee hm4 W => ?_))
                  refine kr_s ?_
                  refine wq_istore_n (pc := 135) (L' := [(3, _), (2, _), (0, _), (1, _)]) dL_isMounted_135 rfl rfl (by decide) ?_
                  refine wq_sub1 (L' := [(0, _), (1, _), (2, _), (3, _)]) ⟨rfl, rfl, rfl, rfl, trivial⟩ ?_
                  first
                    | (obtain ⟨⟨g1, g2⟩, g3, g4, g5, g6, g7, g8⟩ := hmr.resolve_left (fun z => by have := z.1; omega)
                       exact cut9 _ _ _ _ g4 (EQ_trans v3 g5) g6 ⟨g1, g2⟩ (by
                         rcases e0o with z | z
                         · exact Or.inl ⟨z.1, by omega⟩
                         · exact Or.inr ⟨z.1, g8 z.2⟩) (Wd_t W (by omega)))
                    | (obtain ⟨z1, z2, z3, z4, z5, z6⟩ := hmr.resolve_right (fun z => by have := z.1; omega)
                       obtain ⟨⟨g1, g2⟩, g3, g4, g5, g6, g7, g8⟩ := hm4.resolve_left (fun z => z.2.2.2.2.1 hc3.1)
                       exact cut9 _ _ _ _ g4 (EQ_trans v3 (EQ_trans z2.2 (EQ_trans hc3.2.2.1 g5))) g6 ⟨g1, g2⟩ (Or.inl ⟨by omega, by have := g8 hc3.1; omega⟩) (Wd_t W (by omega)))
        refine wq_aload_n (pc := 65) dL_isMounted_65 rfl rfl ?_
        refine wq_iload_n (pc := 66) dL_isMounted_66 rfl rfl ?_
        refine wq_iconst (pc := 67) dL_isMounted_67 ?_
        refine wq_irem (pc := 68) dL_isMounted_68 (by omega) (by omega) ?_
        refine wq_if_ne (pc := 69) (tgt := 76) dL_isMounted_69 (by decide) (by first | (unfold inR; omega) | assumption | exact hr2 _ | exact hr3 _ | exact hr4 _) (fun c29 => ?_) (fun c29 => ?_)
        · skip
          refine wq_iconst (pc := 76) dL_isMounted_76 ?_
          refine cVK_1 (pc := 77) dL_isMounted_77 (Wd_s (by with_reducible assumption)) (cw_L_105 _ rfl) (by decide) rfl ⟨by decide, by decide⟩ (Nat.le_of_ble_eq_true rfl) (qs_mount (by with_reducible assumption) hnb hvb hvb0 hn2 hV1 hB1 (by omega) (fun A2 r mm ee hm W => ?_))
          refine kr_s ?_
          refine wq_istore_n (pc := 80) (L' := [(3, _), (2, _), (0, _), (1, _)]) dL_isMounted_80 rfl rfl (by decide) ?_
          refine wq_sub1 (L' := [(0, _), (1, _), (2, _), (3, _)]) ⟨rfl, rfl, rfl, rfl, trivial⟩ ?_
          exact cut8 _ _ _ _ hm (Wd_t W (by omega))
        · skip
          refine wq_iconst (pc := 72) dL_isMounted_72 ?_
          refine wq_goto (pc := 73) (tgt := 77) dL_isMounted_73 (by decide) ?_
          refine cVK_1 (pc := 77) dL_isMounted_77 (Wd_s (by with_reducible assumption)) (cw_L_105 _ rfl) (by decide) rfl ⟨by decide, by decide⟩ (Nat.le_of_ble_eq_true rfl) (qs_mount (by with_reducible assumption) hnb hvb hvb0 hn2 hV1 hB1 (by omega) (fun A2 r mm ee hm W => ?_))
          refine kr_s ?_
          refine wq_istore_n (pc := 80) (L' := [(3, _), (2, _), (0, _), (1, _)]) dL_isMounted_80 rfl rfl (by decide) ?_
          refine wq_sub1 (L' := [(0, _), (1, _), (2, _), (3, _)]) ⟨rfl, rfl, rfl, rfl, trivial⟩ ?_
          exact cut8 _ _ _ _ hm (Wd_t W (by omega))
      refine wq_aload_n (pc := 36) dL_isMounted_36 rfl rfl ?_
      refine wq_iload_n (pc := 37) dL_isMounted_37 rfl rfl ?_
      refine wq_iconst (pc := 38) dL_isMounted_38 ?_
      refine wq_irem (pc := 39) dL_isMounted_39 (by omega) (by omega) ?_
      refine wq_if_ne (pc := 40) (tgt := 51) dL_isMounted_40 (by decide) (by first | (unfold inR; omega) | assumption | exact hr2 _ | exact hr3 _ | exact hr4 _) (fun c32 => ?_) (fun c32 => ?_)
      · skip
        refine wq_iconst (pc := 51) dL_isMounted_51 ?_
        refine cVK_1 (pc := 52) dL_isMounted_52 (Wd_s (by with_reducible assumption)) (cw_L_102 _ rfl) (by decide) rfl ⟨by decide, by decide⟩ (Nat.le_of_ble_eq_true rfl) (qs_cut (by with_reducible assumption) hnb hvb (by omega) (fun A1 mm ee hc W => ?_))
        refine kr_s ?_
        refine wq_iconst (pc := 55) dL_isMounted_55 ?_
        refine wq_icmp_ne (pc := 56) (tgt := 63) dL_isMounted_56 (by decide) (by rw [hL]; unfold inR; omega) (by unfold inR; omega) (fun c34 => ?_) (fun c34 => ?_)
        · skip
          exfalso; omega
        · skip
          refine wq_sub1 (L' := [(0, _), (1, _)]) ⟨rfl, rfl, trivial⟩ ?_
          exact cut7 _ _ _ _ (by omega) hc (Wd_t W (by omega))
      · skip
        refine wq_iload_n (pc := 43) dL_isMounted_43 rfl rfl ?_
        refine wq_iconst (pc := 44) dL_isMounted_44 ?_
        refine wq_idiv (pc := 45) dL_isMounted_45 (by omega) (by omega) ?_
        refine wq_iconst (pc := 46) dL_isMounted_46 ?_
        refine wq_irem (pc := 47) dL_isMounted_47 (by omega) (by omega) ?_
        refine wq_goto (pc := 48) (tgt := 52) dL_isMounted_48 (by decide) ?_
        refine cVK_1 (pc := 52) dL_isMounted_52 (Wd_s (by with_reducible assumption)) (cw_L_102 _ rfl) (by decide) rfl ⟨by decide, by decide⟩ (Nat.le_of_ble_eq_true rfl) (qs_cut (by with_reducible assumption) hnb hvb (by omega) (fun A1 mm ee hc W => ?_))
        refine kr_s ?_
        refine wq_iconst (pc := 55) dL_isMounted_55 ?_
        refine wq_icmp_ne (pc := 56) (tgt := 63) dL_isMounted_56 (by decide) (by rw [hL]; unfold inR; omega) (by unfold inR; omega) (fun c36 => ?_) (fun c36 => ?_)
        · skip
          exfalso; omega
        · skip
          refine wq_sub1 (L' := [(0, _), (1, _)]) ⟨rfl, rfl, trivial⟩ ?_
          exact cut7 _ _ _ _ (by omega) hc (Wd_t W (by omega))
