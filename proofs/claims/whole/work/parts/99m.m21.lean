def hasB (A : AS) (d nm d2 : Int) : Prop := TD (aF A) d nm = 1 ∧ thB (TG (aF A)) (TD (aF A)) (TG (aF A) d nm) d2
abbrev bad1 (A : AS) (d nm d2 nm2 : Int) : Prop := TG (aF A) d2 nm2 ≠ 0 ∧ (TG (aF A) d2 nm2 = TG (aF A) d nm ∨ TD (aF A) d2 nm2 = 1 ∨ TD (aF A) d nm = 1)
theorem badR_1 {A : AS} {d nm d2 nm2 : Int} (h : bad1 A d nm d2 nm2) : badR A d nm d2 nm2 := Or.inl h
theorem badR_2 {A : AS} {d nm d2 nm2 : Int} (h : hasB A d nm d2) : badR A d nm d2 nm2 := Or.inr h
theorem badR_n {A : AS} {d nm d2 nm2 : Int} (h : ¬ bad1 A d nm d2 nm2) (k : ¬ hasB A d nm d2) : ¬ badR A d nm d2 nm2 := fun z => z.elim h k
theorem sp_X7_rename {μ : nMem} {ε : nEnv} {Q : nOut → nMem → nEnv → Prop} {A : AS} {nb vb d nm d2 nm2 : Int} (hC : CM A μ ε) (hO : AOK A nb vb) (hnb : nb + 1 ≤ 2000) (hvb : vb + 2 ≤ 4000) (r1 : inR d) (r2 : inR nm) (r3 : inR d2) (r4 : inR nm2) (h : ∀ m v, CM (actRename A d nm d2 nm2).2 m ε → FrM μ m → anM (actRename A d nm d2 nm2).1 [xI, xA, xS] v m → Q (.inl (some (vI v))) m ε) : Sp mX7_rename [vR 21, vI d, vI nm, vI d2, vI nm2] μ ε Q := by
  refine Sp_of (L := [(0, vR 21), (1, vI d), (2, vI nm), (3, vI d2), (4, vI nm2)]) (by decide) rfl rfl (Nat.le_of_ble_eq_true rfl) ?_
  have hs := hC.1.1
  have q21 := hC.2.1.2
  have hD := hO.2.1
  have r21 : inR (μ 21 21) := by unfold inR; omega
  unfold actRename at h
  have cut1 : ∀ (m : nMem) (v : Int), (CM A m ε) → (FrM μ m) → (m 21 25 = 0) → (fD (aF A) = 0) → (isDr A d) → (isDr A d2) → (nmR nm) → (nmR nm2) → (v = 2 * TG (aF A) d nm + TD (aF A) d nm ∧ 2 ≤ TG (aF A) d nm ∧ TG (aF A) d nm ≤ 2000 ∧ (TD (aF A) d nm = 0 ∨ TD (aF A) d nm = 1)) → (¬ badR A d nm d2 nm2) → (rmA A [3, 3] 1) → wp mX7_rename 185 [(0, vR 21), (1, vI d), (2, vI nm), (3, vI d2), (4, vI nm2), (5, vI v)] [] m ε Q := by
    intro m v e0 e1 e2 e3 e4 e5 e6 e7 e8 e9 e10
    obtain ⟨fl, S0, hP, hT0⟩ := hO.2.2 e3
    have hdb := isDr_b hP e4
    have hdb2 := isDr_b hP e5
    obtain ⟨hG, h22, h39⟩ := e0.2.2 e3
    have hx := hP.2.2.2.2.2.2.2.1
    have hvr := hP.2.2.2.2.2.2.2.2.1
    have hs := e0.1.1
    have hvd := hvr d
    have hvd2 := hvr d2
    have htx : TG (aF A) d nm < aX A := by
      obtain ⟨r, hr, hcr, r3, r5, r10, r11⟩ := ct_of e4 (nm := nm) (by omega)
      have := (hP.2.2.2.2.1 r hr.1 hr.2 (asgR_rW hcr.1).1).2.1
      omega
    rw [pI_on e3, pI_0 (fun z => z e4), pI_0 (fun z => z e5), pI_0 (fun z => z e6), pI_0 (fun z => z e7), pI_0 (show ¬ TG (aF A) d nm = 0 by omega), pI_0 e9, pI_0 (fun z => z e10)] at h
    obtain ⟨⟨s1, hs1, hus⟩, hfr1⟩ := tr_fr (by omega) (by omega) e10
    have N := put_ok (s := nmSrc d2 (aN A d2 + 1) nm2 (TG (aF A) d nm) (TD (aF A) d nm)) hP.2.1 hP.2.2.2.1 (nmSrc_ok (by omega) (by omega) e7 (by omega) (by omega) (fun z => by omega)) hfr1
    refine wq_aload_n (pc := 185) dX7_rename_185 rfl rfl ?_
    refine wq_iload_n (pc := 186) dX7_rename_186 rfl rfl ?_
    refine wq_iload (pc := 187) dX7_rename_187 rfl ?_
    refine wq_iload (pc := 189) dX7_rename_189 rfl ?_
    refine wq_iconst (pc := 191) dX7_rename_191 ?_
    refine wq_idiv (pc := 192) dX7_rename_192 (by omega) (by omega) ?_
    rw [show v / 2 = TG (aF A) d nm by omega]
    refine wq_iload (pc := 193) dX7_rename_193 rfl ?_
    refine wq_iconst (pc := 195) dX7_rename_195 ?_
    refine wq_irem (pc := 196) dX7_rename_196 (by omega) (by omega) ?_
    refine wq_iconst (pc := 197) dX7_rename_197 ?_
    refine wq_icmp_ne (pc := 198) (tgt := 205) dX7_rename_198 (by decide) (by first | (unfold inR; omega) | assumption) (by first | (unfold inR; omega) | assumption) (fun c2 => ?_) (fun c2 => ?_)
    · skip
      refine wq_iconst (pc := 205) dX7_rename_205 ?_
      first
        | (have htd : TD (aF A) d nm = 1 := by omega
           rw [htd] at h N)
        | (have htd : TD (aF A) d nm = 0 := by omega
           rw [htd] at h N)
      refine cVK_4 (pc := 206) dX7_rename_206 hs (cw_X7_229 _ rfl) (by decide) rfl ⟨by decide, by decide⟩ (Nat.le_of_ble_eq_true rfl) (sp_X7_writeName (F := aF A) (g := aG A) (v0 := aN A d2) (CM_WM e0 e3) hP.2.1 hP.2.2.2.1 (by omega) (by omega) (h39 d2 (by omega) (by omega)).2 (nmSrc_ok (by omega) (by omega) e7 (by omega) (by omega) (fun z => by omega)) hfr1 (fun hr5 m5 P5 => ?_) (fun hr5 m5 P5 => ?_))
      · skip
        refine kr_s ?_
        have hr5b := hr5
        refine wq_if_eq (pc := 209) (tgt := 227) dX7_rename_209 (by decide) (by first | (unfold inR; omega) | assumption) (fun _ => ?_) (fun c => absurd c (by decide))
        refine wq_iconst (pc := 227) dX7_rename_227 ?_
        refine wq_istore (pc := 228) (L' := [(6, _), (0, _), (1, _), (2, _), (3, _), (4, _), (5, _)]) dX7_rename_228 rfl (by decide) ?_
        refine wq_iload (pc := 230) dX7_rename_230 rfl ?_
        refine wq_if_eq (pc := 232) (tgt := 242) dX7_rename_232 (by decide) (by first | (unfold inR; omega) | assumption) (fun _ => ?_) (fun c => absurd c (by decide))
        refine wq_bipush (pc := 242) dX7_rename_242 (by decide) (by decide) ?_
        refine wq_iret (pc := 244) dX7_rename_244 rfl ?_
        first
          | (unfold actRename1 actRename2 at h
             rw [if_neg (by rw [hr5]; decide), if_neg (by rw [hr6]; decide)] at h
             obtain ⟨-, -, -, -, y6, -⟩ := id P6
             rw [show v / 2 = TG (aF A) d nm by omega]
             exact h _ _ (CM_put hs P6 (fun _ => ⟨by rw [wr_n _ _ (by omega), y5 21 22 (by omega) (by omega), wr_n _ _ (by omega)]; exact h22, fun n n0 n1 => ⟨by rw [wr_n _ _ (by omega), y5 39 n (by omega) (by omega), wr_n _ _ (by omega)]; exact (h39 n n0 n1).1, bump_wr (V := bump (aN A) d2) hbq n n0 n1⟩⟩) (fun z => absurd z (by rw [hr6]; decide))) (FrM_t (FrM_t e1 (FrM_t (FrM_w (by omega)) (FrM_P y5))) (FrM_t (FrM_w (by omega)) (FrM_P y6))) (anM_v (by rw [y6 21 25 (by omega) (by omega), wr_n _ _ (by omega), y5 21 25 (by omega) (by omega), wr_n _ _ (by omega)]; exact e2)))
          | (unfold actRename1 actRename2 at h
             rw [if_neg (by rw [hr5]; decide), if_pos hr6] at h
             obtain ⟨-, -, -, -, y6, -⟩ := id P6
             exact h _ _ (CM_put hs P6 (fun z => absurd z (by rw [hr6]; decide)) (fun _ => (M.2.2.2 hr6).1)) (FrM_t (FrM_t e1 (FrM_t (FrM_w (by omega)) (FrM_P y5))) (FrM_t (FrM_w (by omega)) (FrM_P y6))) (anM_v (by rw [y6 21 25 (by omega) (by omega), wr_n _ _ (by omega), y5 21 25 (by omega) (by omega), wr_n _ _ (by omega)]; exact e2)))
          | (unfold actRename1 at h
             rw [if_pos hr5] at h
             obtain ⟨-, -, -, -, y5, -⟩ := id P5
             exact h _ _ (CM_put hs P5 (fun z => absurd z (by rw [hr5]; decide)) (fun _ => (N.2.2.2 hr5).1)) (FrM_t e1 (FrM_t (FrM_w (by omega)) (FrM_P y5))) (anM_v (by rw [y5 21 25 (by omega) (by omega), wr_n _ _ (by omega)]; exact e2)))
          | (exfalso; omega)
          | (have q9 := e1 (by omega)
             rw [pI_0 (show ¬ TG (aF A) d nm = 0 by omega), pI_0 (badR_n q9.2.1 q9.2.2), pI_1 (by rw [if_pos (by decide)] at hrm; exact hrm)] at h
             exact h _ _ (CM_25 C6) (FrM_t F6b (FrM_w (by omega))) (anM_x 2 rfl (wr_s _ _ _ _)))
          | (have q9 := e2 (by omega)
             by_cases ct : TG (aF A) d nm = 0
             · rw [pI_1 ct] at h
               exact h _ _ (CM_25 e3) (FrM_t e4 (FrM_w (by omega))) (anM_x 2 rfl (wr_s _ _ _ _))
             · rw [pI_0 ct, pI_1 (q9.elim (fun z => absurd z ct) (fun z => z.elim badR_1 badR_2))] at h
               exact h _ _ (CM_25 e3) (FrM_t e4 (FrM_w (by omega))) (anM_x 2 rfl (wr_s _ _ _ _)))
          | (rw [pI_on (by omega), pI_0 (fun z => z hdir9), pI_0 (fun z => z hdr29), pI_0 (fun z => z hnm9), pI_1 hnm29] at h
             exact h _ _ (CM_25 C2) (FrM_t F2 (FrM_w (by omega))) (anM_x 1 rfl (wr_s _ _ _ _)))
          | (rw [pI_on (by omega), pI_0 (fun z => z hdir9), pI_0 (fun z => z hdr29), pI_1 hnm9] at h
             exact h _ _ (CM_25 C2) (FrM_t F2 (FrM_w (by omega))) (anM_x 1 rfl (wr_s _ _ _ _)))
          | (rw [pI_on (by omega), pI_0 (fun z => z hdir9), pI_1 hdr29] at h
             exact h _ _ (CM_25 C2) (FrM_t F2 (FrM_w (by omega))) (anM_x 0 rfl (wr_s _ _ _ _)))
          | (rw [pI_on (by omega), pI_1 hdir9] at h
             exact h _ _ (CM_25 C1) (FrM_t F1 (FrM_w (by omega))) (anM_x 0 rfl (wr_s _ _ _ _)))
          | (rw [pI_1 (show dk A by show fD (aF A) = 1; omega)] at h
             exact h _ _ (CM_25 hC) (FrM_w (by omega)) (anM_x 2 rfl (wr_s _ _ _ _)))
      · skip
        refine kr_s ?_
        obtain ⟨N1, N2, N3, N4⟩ := N
        obtain ⟨n1, n2, n3, n4, n5⟩ := N3 hr5
        have hus2 := hus
        rw [← n5 1 s1 hs1] at hus2
        obtain ⟨-, hfr2⟩ := tr_fr (by omega) (by omega) hus2
        obtain ⟨-, -, -, -, y5, -⟩ := id P5
        have hbq : ∀ n, 0 ≤ n → n < 2048 → m5 40 n = bump (aN A) d2 n := fun n n0 n1 => by
          rw [y5 40 n (by omega) (by omega)]
          exact bump_wr (V := aN A) (fun n n0 n1 => (h39 n n0 n1).2) n n0 n1
        have hbb : 0 ≤ bump (aN A) d2 d ∧ bump (aN A) d2 d ≤ vb + 1 := by
          unfold bump
          split <;> omega
        have M := put_ok (s := nmSrc d (bump (aN A) d2 d + 1) nm 0 0) N1 n1 (nmSrc_ok (by omega) (by omega) e6 (by omega) (Or.inl rfl) (fun z => rfl)) hfr2
        refine wq_if_eq (pc := 209) (tgt := 227) dX7_rename_209 (by decide) (by first | (unfold inR; omega) | assumption) (fun c => absurd c (by decide)) (fun _ => ?_)
        refine wq_aload_n (pc := 212) dX7_rename_212 rfl rfl ?_
        refine wq_iload_n (pc := 213) dX7_rename_213 rfl rfl ?_
        refine wq_iload_n (pc := 214) dX7_rename_214 rfl rfl ?_
        refine wq_iconst (pc := 215) dX7_rename_215 ?_
        refine wq_iconst (pc := 216) dX7_rename_216 ?_
        refine cVK_4 (pc := 217) dX7_rename_217 hs (cw_X7_229 _ rfl) (by decide) rfl ⟨by decide, by decide⟩ (Nat.le_of_ble_eq_true rfl) (sp_X7_writeName (v0 := bump (aN A) d2 d) (PO_WM hs P5 hr5) N1 n1 (by omega) (by omega) (hbq d (by omega) (by omega)) (nmSrc_ok (by omega) (by omega) e6 (by omega) (Or.inl rfl) (fun z => rfl)) hfr2 (fun hr6 m6 P6 => ?_) (fun hr6 m6 P6 => ?_))
        · skip
          refine kr_s ?_
          have hr6b := hr6
          refine wq_if_eq (pc := 220) (tgt := 227) dX7_rename_220 (by decide) (by first | (unfold inR; omega) | assumption) (fun _ => ?_) (fun c => absurd c (by decide))
          refine wq_iconst (pc := 227) dX7_rename_227 ?_
          refine wq_istore (pc := 228) (L' := [(6, _), (0, _), (1, _), (2, _), (3, _), (4, _), (5, _)]) dX7_rename_228 rfl (by decide) ?_
          refine wq_iload (pc := 230) dX7_rename_230 rfl ?_
          refine wq_if_eq (pc := 232) (tgt := 242) dX7_rename_232 (by decide) (by first | (unfold inR; omega) | assumption) (fun _ => ?_) (fun c => absurd c (by decide))
          refine wq_bipush (pc := 242) dX7_rename_242 (by decide) (by decide) ?_
          refine wq_iret (pc := 244) dX7_rename_244 rfl ?_
          first
            | (unfold actRename1 actRename2 at h
               rw [if_neg (by rw [hr5]; decide), if_neg (by rw [hr6]; decide)] at h
               obtain ⟨-, -, -, -, y6, -⟩ := id P6
               rw [show v / 2 = TG (aF A) d nm by omega]
               exact h _ _ (CM_put hs P6 (fun _ => ⟨by rw [wr_n _ _ (by omega), y5 21 22 (by omega) (by omega), wr_n _ _ (by omega)]; exact h22, fun n n0 n1 => ⟨by rw [wr_n _ _ (by omega), y5 39 n (by omega) (by omega), wr_n _ _ (by omega)]; exact (h39 n n0 n1).1, bump_wr (V := bump (aN A) d2) hbq n n0 n1⟩⟩) (fun z => absurd z (by rw [hr6]; decide))) (FrM_t (FrM_t e1 (FrM_t (FrM_w (by omega)) (FrM_P y5))) (FrM_t (FrM_w (by omega)) (FrM_P y6))) (anM_v (by rw [y6 21 25 (by omega) (by omega), wr_n _ _ (by omega), y5 21 25 (by omega) (by omega), wr_n _ _ (by omega)]; exact e2)))
            | (unfold actRename1 actRename2 at h
               rw [if_neg (by rw [hr5]; decide), if_pos hr6] at h
               obtain ⟨-, -, -, -, y6, -⟩ := id P6
               exact h _ _ (CM_put hs P6 (fun z => absurd z (by rw [hr6]; decide)) (fun _ => (M.2.2.2 hr6).1)) (FrM_t (FrM_t e1 (FrM_t (FrM_w (by omega)) (FrM_P y5))) (FrM_t (FrM_w (by omega)) (FrM_P y6))) (anM_v (by rw [y6 21 25 (by omega) (by omega), wr_n _ _ (by omega), y5 21 25 (by omega) (by omega), wr_n _ _ (by omega)]; exact e2)))
            | (unfold actRename1 at h
               rw [if_pos hr5] at h
               obtain ⟨-, -, -, -, y5, -⟩ := id P5
               exact h _ _ (CM_put hs P5 (fun z => absurd z (by rw [hr5]; decide)) (fun _ => (N.2.2.2 hr5).1)) (FrM_t e1 (FrM_t (FrM_w (by omega)) (FrM_P y5))) (anM_v (by rw [y5 21 25 (by omega) (by omega), wr_n _ _ (by omega)]; exact e2)))
            | (exfalso; omega)
            | (have q9 := e1 (by omega)
               rw [pI_0 (show ¬ TG (aF A) d nm = 0 by omega), pI_0 (badR_n q9.2.1 q9.2.2), pI_1 (by rw [if_pos (by decide)] at hrm; exact hrm)] at h
               exact h _ _ (CM_25 C6) (FrM_t F6b (FrM_w (by omega))) (anM_x 2 rfl (wr_s _ _ _ _)))
            | (have q9 := e2 (by omega)
               by_cases ct : TG (aF A) d nm = 0
               · rw [pI_1 ct] at h
                 exact h _ _ (CM_25 e3) (FrM_t e4 (FrM_w (by omega))) (anM_x 2 rfl (wr_s _ _ _ _))
               · rw [pI_0 ct, pI_1 (q9.elim (fun z => absurd z ct) (fun z => z.elim badR_1 badR_2))] at h
                 exact h _ _ (CM_25 e3) (FrM_t e4 (FrM_w (by omega))) (anM_x 2 rfl (wr_s _ _ _ _)))
            | (rw [pI_on (by omega), pI_0 (fun z => z hdir9), pI_0 (fun z => z hdr29), pI_0 (fun z => z hnm9), pI_1 hnm29] at h
               exact h _ _ (CM_25 C2) (FrM_t F2 (FrM_w (by omega))) (anM_x 1 rfl (wr_s _ _ _ _)))
            | (rw [pI_on (by omega), pI_0 (fun z => z hdir9), pI_0 (fun z => z hdr29), pI_1 hnm9] at h
               exact h _ _ (CM_25 C2) (FrM_t F2 (FrM_w (by omega))) (anM_x 1 rfl (wr_s _ _ _ _)))
            | (rw [pI_on (by omega), pI_0 (fun z => z hdir9), pI_1 hdr29] at h
               exact h _ _ (CM_25 C2) (FrM_t F2 (FrM_w (by omega))) (anM_x 0 rfl (wr_s _ _ _ _)))
            | (rw [pI_on (by omega), pI_1 hdir9] at h
               exact h _ _ (CM_25 C1) (FrM_t F1 (FrM_w (by omega))) (anM_x 0 rfl (wr_s _ _ _ _)))
            | (rw [pI_1 (show dk A by show fD (aF A) = 1; omega)] at h
               exact h _ _ (CM_25 hC) (FrM_w (by omega)) (anM_x 2 rfl (wr_s _ _ _ _)))
        · skip
          refine kr_s ?_
          have hr6b := hr6
          refine wq_if_eq (pc := 220) (tgt := 227) dX7_rename_220 (by decide) (by first | (unfold inR; omega) | assumption) (fun c => absurd c (by decide)) (fun _ => ?_)
          refine wq_iconst (pc := 223) dX7_rename_223 ?_
          refine wq_goto (pc := 224) (tgt := 228) dX7_rename_224 (by decide) ?_
          refine wq_istore (pc := 228) (L' := [(6, _), (0, _), (1, _), (2, _), (3, _), (4, _), (5, _)]) dX7_rename_228 rfl (by decide) ?_
          refine wq_iload (pc := 230) dX7_rename_230 rfl ?_
          refine wq_if_eq (pc := 232) (tgt := 242) dX7_rename_232 (by decide) (by first | (unfold inR; omega) | assumption) (fun c => absurd c (by decide)) (fun _ => ?_)
          refine wq_iload (pc := 235) dX7_rename_235 rfl ?_
          refine wq_iconst (pc := 237) dX7_rename_237 ?_
          refine wq_idiv (pc := 238) dX7_rename_238 (by omega) (by omega) ?_
          refine wq_goto (pc := 239) (tgt := 244) dX7_rename_239 (by decide) ?_
          refine wq_iret (pc := 244) dX7_rename_244 rfl ?_
          first
            | (unfold actRename1 actRename2 at h
               rw [if_neg (by rw [hr5]; decide), if_neg (by rw [hr6]; decide)] at h
               obtain ⟨-, -, -, -, y6, -⟩ := id P6
               rw [show v / 2 = TG (aF A) d nm by omega]
               exact h _ _ (CM_put hs P6 (fun _ => ⟨by rw [wr_n _ _ (by omega), y5 21 22 (by omega) (by omega), wr_n _ _ (by omega)]; exact h22, fun n n0 n1 => ⟨by rw [wr_n _ _ (by omega), y5 39 n (by omega) (by omega), wr_n _ _ (by omega)]; exact (h39 n n0 n1).1, bump_wr (V := bump (aN A) d2) hbq n n0 n1⟩⟩) (fun z => absurd z (by rw [hr6]; decide))) (FrM_t (FrM_t e1 (FrM_t (FrM_w (by omega)) (FrM_P y5))) (FrM_t (FrM_w (by omega)) (FrM_P y6))) (anM_v (by rw [y6 21 25 (by omega) (by omega), wr_n _ _ (by omega), y5 21 25 (by omega) (by omega), wr_n _ _ (by omega)]; exact e2)))
            | (unfold actRename1 actRename2 at h
               rw [if_neg (by rw [hr5]; decide), if_pos hr6] at h
               obtain ⟨-, -, -, -, y6, -⟩ := id P6
               exact h _ _ (CM_put hs P6 (fun z => absurd z (by rw [hr6]; decide)) (fun _ => (M.2.2.2 hr6).1)) (FrM_t (FrM_t e1 (FrM_t (FrM_w (by omega)) (FrM_P y5))) (FrM_t (FrM_w (by omega)) (FrM_P y6))) (anM_v (by rw [y6 21 25 (by omega) (by omega), wr_n _ _ (by omega), y5 21 25 (by omega) (by omega), wr_n _ _ (by omega)]; exact e2)))
            | (unfold actRename1 at h
               rw [if_pos hr5] at h
               obtain ⟨-, -, -, -, y5, -⟩ := id P5
               exact h _ _ (CM_put hs P5 (fun z => absurd z (by rw [hr5]; decide)) (fun _ => (N.2.2.2 hr5).1)) (FrM_t e1 (FrM_t (FrM_w (by omega)) (FrM_P y5))) (anM_v (by rw [y5 21 25 (by omega) (by omega), wr_n _ _ (by omega)]; exact e2)))
            | (exfalso; omega)
            | (have q9 := e1 (by omega)
               rw [pI_0 (show ¬ TG (aF A) d nm = 0 by omega), pI_0 (badR_n q9.2.1 q9.2.2), pI_1 (by rw [if_pos (by decide)] at hrm; exact hrm)] at h
               exact h _ _ (CM_25 C6) (FrM_t F6b (FrM_w (by omega))) (anM_x 2 rfl (wr_s _ _ _ _)))
            | (have q9 := e2 (by omega)
               by_cases ct : TG (aF A) d nm = 0
               · rw [pI_1 ct] at h
                 exact h _ _ (CM_25 e3) (FrM_t e4 (FrM_w (by omega))) (anM_x 2 rfl (wr_s _ _ _ _))
               · rw [pI_0 ct, pI_1 (q9.elim (fun z => absurd z ct) (fun z => z.elim badR_1 badR_2))] at h
                 exact h _ _ (CM_25 e3) (FrM_t e4 (FrM_w (by omega))) (anM_x 2 rfl (wr_s _ _ _ _)))
            | (rw [pI_on (by omega), pI_0 (fun z => z hdir9), pI_0 (fun z => z hdr29), pI_0 (fun z => z hnm9), pI_1 hnm29] at h
               exact h _ _ (CM_25 C2) (FrM_t F2 (FrM_w (by omega))) (anM_x 1 rfl (wr_s _ _ _ _)))
            | (rw [pI_on (by omega), pI_0 (fun z => z hdir9), pI_0 (fun z => z hdr29), pI_1 hnm9] at h
               exact h _ _ (CM_25 C2) (FrM_t F2 (FrM_w (by omega))) (anM_x 1 rfl (wr_s _ _ _ _)))
            | (rw [pI_on (by omega), pI_0 (fun z => z hdir9), pI_1 hdr29] at h
               exact h _ _ (CM_25 C2) (FrM_t F2 (FrM_w (by omega))) (anM_x 0 rfl (wr_s _ _ _ _)))
            | (rw [pI_on (by omega), pI_1 hdir9] at h
               exact h _ _ (CM_25 C1) (FrM_t F1 (FrM_w (by omega))) (anM_x 0 rfl (wr_s _ _ _ _)))
            | (rw [pI_1 (show dk A by show fD (aF A) = 1; omega)] at h
               exact h _ _ (CM_25 hC) (FrM_w (by omega)) (anM_x 2 rfl (wr_s _ _ _ _)))
    · skip
      refine wq_iconst (pc := 201) dX7_rename_201 ?_
      refine wq_goto (pc := 202) (tgt := 206) dX7_rename_202 (by decide) ?_
      first
        | (have htd : TD (aF A) d nm = 1 := by omega
           rw [htd] at h N)
        | (have htd : TD (aF A) d nm = 0 := by omega
           rw [htd] at h N)
      refine cVK_4 (pc := 206) dX7_rename_206 hs (cw_X7_229 _ rfl) (by decide) rfl ⟨by decide, by decide⟩ (Nat.le_of_ble_eq_true rfl) (sp_X7_writeName (F := aF A) (g := aG A) (v0 := aN A d2) (CM_WM e0 e3) hP.2.1 hP.2.2.2.1 (by omega) (by omega) (h39 d2 (by omega) (by omega)).2 (nmSrc_ok (by omega) (by omega) e7 (by omega) (by omega) (fun z => by omega)) hfr1 (fun hr5 m5 P5 => ?_) (fun hr5 m5 P5 => ?_))
      · skip
        refine kr_s ?_
        have hr5b := hr5
        refine wq_if_eq (pc := 209) (tgt := 227) dX7_rename_209 (by decide) (by first | (unfold inR; omega) | assumption) (fun _ => ?_) (fun c => absurd c (by decide))
        refine wq_iconst (pc := 227) dX7_rename_227 ?_
        refine wq_istore (pc := 228) (L' := [(6, _), (0, _), (1, _), (2, _), (3, _), (4, _), (5, _)]) dX7_rename_228 rfl (by decide) ?_
        refine wq_iload (pc := 230) dX7_rename_230 rfl ?_
        refine wq_if_eq (pc := 232) (tgt := 242) dX7_rename_232 (by decide) (by first | (unfold inR; omega) | assumption) (fun _ => ?_) (fun c => absurd c (by decide))
        refine wq_bipush (pc := 242) dX7_rename_242 (by decide) (by decide) ?_
        refine wq_iret (pc := 244) dX7_rename_244 rfl ?_
        first
          | (unfold actRename1 actRename2 at h
             rw [if_neg (by rw [hr5]; decide), if_neg (by rw [hr6]; decide)] at h
             obtain ⟨-, -, -, -, y6, -⟩ := id P6
             rw [show v / 2 = TG (aF A) d nm by omega]
             exact h _ _ (CM_put hs P6 (fun _ => ⟨by rw [wr_n _ _ (by omega), y5 21 22 (by omega) (by omega), wr_n _ _ (by omega)]; exact h22, fun n n0 n1 => ⟨by rw [wr_n _ _ (by omega), y5 39 n (by omega) (by omega), wr_n _ _ (by omega)]; exact (h39 n n0 n1).1, bump_wr (V := bump (aN A) d2) hbq n n0 n1⟩⟩) (fun z => absurd z (by rw [hr6]; decide))) (FrM_t (FrM_t e1 (FrM_t (FrM_w (by omega)) (FrM_P y5))) (FrM_t (FrM_w (by omega)) (FrM_P y6))) (anM_v (by rw [y6 21 25 (by omega) (by omega), wr_n _ _ (by omega), y5 21 25 (by omega) (by omega), wr_n _ _ (by omega)]; exact e2)))
          | (unfold actRename1 actRename2 at h
             rw [if_neg (by rw [hr5]; decide), if_pos hr6] at h
             obtain ⟨-, -, -, -, y6, -⟩ := id P6
             exact h _ _ (CM_put hs P6 (fun z => absurd z (by rw [hr6]; decide)) (fun _ => (M.2.2.2 hr6).1)) (FrM_t (FrM_t e1 (FrM_t (FrM_w (by omega)) (FrM_P y5))) (FrM_t (FrM_w (by omega)) (FrM_P y6))) (anM_v (by rw [y6 21 25 (by omega) (by omega), wr_n _ _ (by omega), y5 21 25 (by omega) (by omega), wr_n _ _ (by omega)]; exact e2)))
          | (unfold actRename1 at h
             rw [if_pos hr5] at h
             obtain ⟨-, -, -, -, y5, -⟩ := id P5
             exact h _ _ (CM_put hs P5 (fun z => absurd z (by rw [hr5]; decide)) (fun _ => (N.2.2.2 hr5).1)) (FrM_t e1 (FrM_t (FrM_w (by omega)) (FrM_P y5))) (anM_v (by rw [y5 21 25 (by omega) (by omega), wr_n _ _ (by omega)]; exact e2)))
          | (exfalso; omega)
          | (have q9 := e1 (by omega)
             rw [pI_0 (show ¬ TG (aF A) d nm = 0 by omega), pI_0 (badR_n q9.2.1 q9.2.2), pI_1 (by rw [if_pos (by decide)] at hrm; exact hrm)] at h
             exact h _ _ (CM_25 C6) (FrM_t F6b (FrM_w (by omega))) (anM_x 2 rfl (wr_s _ _ _ _)))
          | (have q9 := e2 (by omega)
             by_cases ct : TG (aF A) d nm = 0
             · rw [pI_1 ct] at h
               exact h _ _ (CM_25 e3) (FrM_t e4 (FrM_w (by omega))) (anM_x 2 rfl (wr_s _ _ _ _))
             · rw [pI_0 ct, pI_1 (q9.elim (fun z => absurd z ct) (fun z => z.elim badR_1 badR_2))] at h
               exact h _ _ (CM_25 e3) (FrM_t e4 (FrM_w (by omega))) (anM_x 2 rfl (wr_s _ _ _ _)))
          | (rw [pI_on (by omega), pI_0 (fun z => z hdir9), pI_0 (fun z => z hdr29), pI_0 (fun z => z hnm9), pI_1 hnm29] at h
             exact h _ _ (CM_25 C2) (FrM_t F2 (FrM_w (by omega))) (anM_x 1 rfl (wr_s _ _ _ _)))
          | (rw [pI_on (by omega), pI_0 (fun z => z hdir9), pI_0 (fun z => z hdr29), pI_1 hnm9] at h
             exact h _ _ (CM_25 C2) (FrM_t F2 (FrM_w (by omega))) (anM_x 1 rfl (wr_s _ _ _ _)))
          | (rw [pI_on (by omega), pI_0 (fun z => z hdir9), pI_1 hdr29] at h
             exact h _ _ (CM_25 C2) (FrM_t F2 (FrM_w (by omega))) (anM_x 0 rfl (wr_s _ _ _ _)))
          | (rw [pI_on (by omega), pI_1 hdir9] at h
             exact h _ _ (CM_25 C1) (FrM_t F1 (FrM_w (by omega))) (anM_x 0 rfl (wr_s _ _ _ _)))
          | (rw [pI_1 (show dk A by show fD (aF A) = 1; omega)] at h
             exact h _ _ (CM_25 hC) (FrM_w (by omega)) (anM_x 2 rfl (wr_s _ _ _ _)))
      · skip
        refine kr_s ?_
        obtain ⟨N1, N2, N3, N4⟩ := N
        obtain ⟨n1, n2, n3, n4, n5⟩ := N3 hr5
        have hus2 := hus
        rw [← n5 1 s1 hs1] at hus2
        obtain ⟨-, hfr2⟩ := tr_fr (by omega) (by omega) hus2
        obtain ⟨-, -, -, -, y5, -⟩ := id P5
        have hbq : ∀ n, 0 ≤ n → n < 2048 → m5 40 n = bump (aN A) d2 n := fun n n0 n1 => by
          rw [y5 40 n (by omega) (by omega)]
          exact bump_wr (V := aN A) (fun n n0 n1 => (h39 n n0 n1).2) n n0 n1
        have hbb : 0 ≤ bump (aN A) d2 d ∧ bump (aN A) d2 d ≤ vb + 1 := by
          unfold bump
          split <;> omega
        have M := put_ok (s := nmSrc d (bump (aN A) d2 d + 1) nm 0 0) N1 n1 (nmSrc_ok (by omega) (by omega) e6 (by omega) (Or.inl rfl) (fun z => rfl)) hfr2
        refine wq_if_eq (pc := 209) (tgt := 227) dX7_rename_209 (by decide) (by first | (unfold inR; omega) | assumption) (fun c => absurd c (by decide)) (fun _ => ?_)
        refine wq_aload_n (pc := 212) dX7_rename_212 rfl rfl ?_
        refine wq_iload_n (pc := 213) dX7_rename_213 rfl rfl ?_
        refine wq_iload_n (pc := 214) dX7_rename_214 rfl rfl ?_
        refine wq_iconst (pc := 215) dX7_rename_215 ?_
        refine wq_iconst (pc := 216) dX7_rename_216 ?_
        refine cVK_4 (pc := 217) dX7_rename_217 hs (cw_X7_229 _ rfl) (by decide) rfl ⟨by decide, by decide⟩ (Nat.le_of_ble_eq_true rfl) (sp_X7_writeName (v0 := bump (aN A) d2 d) (PO_WM hs P5 hr5) N1 n1 (by omega) (by omega) (hbq d (by omega) (by omega)) (nmSrc_ok (by omega) (by omega) e6 (by omega) (Or.inl rfl) (fun z => rfl)) hfr2 (fun hr6 m6 P6 => ?_) (fun hr6 m6 P6 => ?_))
        · skip
          refine kr_s ?_
          have hr6b := hr6
          refine wq_if_eq (pc := 220) (tgt := 227) dX7_rename_220 (by decide) (by first | (unfold inR; omega) | assumption) (fun _ => ?_) (fun c => absurd c (by decide))
          refine wq_iconst (pc := 227) dX7_rename_227 ?_
          refine wq_istore (pc := 228) (L' := [(6, _), (0, _), (1, _), (2, _), (3, _), (4, _), (5, _)]) dX7_rename_228 rfl (by decide) ?_
          refine wq_iload (pc := 230) dX7_rename_230 rfl ?_
          refine wq_if_eq (pc := 232) (tgt := 242) dX7_rename_232 (by decide) (by first | (unfold inR; omega) | assumption) (fun _ => ?_) (fun c => absurd c (by decide))
          refine wq_bipush (pc := 242) dX7_rename_242 (by decide) (by decide) ?_
          refine wq_iret (pc := 244) dX7_rename_244 rfl ?_
          first
            | (unfold actRename1 actRename2 at h
               rw [if_neg (by rw [hr5]; decide), if_neg (by rw [hr6]; decide)] at h
               obtain ⟨-, -, -, -, y6, -⟩ := id P6
               rw [show v / 2 = TG (aF A) d nm by omega]
               exact h _ _ (CM_put hs P6 (fun _ => ⟨by rw [wr_n _ _ (by omega), y5 21 22 (by omega) (by omega), wr_n _ _ (by omega)]; exact h22, fun n n0 n1 => ⟨by rw [wr_n _ _ (by omega), y5 39 n (by omega) (by omega), wr_n _ _ (by omega)]; exact (h39 n n0 n1).1, bump_wr (V := bump (aN A) d2) hbq n n0 n1⟩⟩) (fun z => absurd z (by rw [hr6]; decide))) (FrM_t (FrM_t e1 (FrM_t (FrM_w (by omega)) (FrM_P y5))) (FrM_t (FrM_w (by omega)) (FrM_P y6))) (anM_v (by rw [y6 21 25 (by omega) (by omega), wr_n _ _ (by omega), y5 21 25 (by omega) (by omega), wr_n _ _ (by omega)]; exact e2)))
            | (unfold actRename1 actRename2 at h
               rw [if_neg (by rw [hr5]; decide), if_pos hr6] at h
               obtain ⟨-, -, -, -, y6, -⟩ := id P6
               exact h _ _ (CM_put hs P6 (fun z => absurd z (by rw [hr6]; decide)) (fun _ => (M.2.2.2 hr6).1)) (FrM_t (FrM_t e1 (FrM_t (FrM_w (by omega)) (FrM_P y5))) (FrM_t (FrM_w (by omega)) (FrM_P y6))) (anM_v (by rw [y6 21 25 (by omega) (by omega), wr_n _ _ (by omega), y5 21 25 (by omega) (by omega), wr_n _ _ (by omega)]; exact e2)))
            | (unfold actRename1 at h
               rw [if_pos hr5] at h
               obtain ⟨-, -, -, -, y5, -⟩ := id P5
               exact h _ _ (CM_put hs P5 (fun z => absurd z (by rw [hr5]; decide)) (fun _ => (N.2.2.2 hr5).1)) (FrM_t e1 (FrM_t (FrM_w (by omega)) (FrM_P y5))) (anM_v (by rw [y5 21 25 (by omega) (by omega), wr_n _ _ (by omega)]; exact e2)))
            | (exfalso; omega)
            | (have q9 := e1 (by omega)
               rw [pI_0 (show ¬ TG (aF A) d nm = 0 by omega), pI_0 (badR_n q9.2.1 q9.2.2), pI_1 (by rw [if_pos (by decide)] at hrm; exact hrm)] at h
               exact h _ _ (CM_25 C6) (FrM_t F6b (FrM_w (by omega))) (anM_x 2 rfl (wr_s _ _ _ _)))
            | (have q9 := e2 (by omega)
               by_cases ct : TG (aF A) d nm = 0
               · rw [pI_1 ct] at h
                 exact h _ _ (CM_25 e3) (FrM_t e4 (FrM_w (by omega))) (anM_x 2 rfl (wr_s _ _ _ _))
               · rw [pI_0 ct, pI_1 (q9.elim (fun z => absurd z ct) (fun z => z.elim badR_1 badR_2))] at h
                 exact h _ _ (CM_25 e3) (FrM_t e4 (FrM_w (by omega))) (anM_x 2 rfl (wr_s _ _ _ _)))
            | (rw [pI_on (by omega), pI_0 (fun z => z hdir9), pI_0 (fun z => z hdr29), pI_0 (fun z => z hnm9), pI_1 hnm29] at h
               exact h _ _ (CM_25 C2) (FrM_t F2 (FrM_w (by omega))) (anM_x 1 rfl (wr_s _ _ _ _)))
            | (rw [pI_on (by omega), pI_0 (fun z => z hdir9), pI_0 (fun z => z hdr29), pI_1 hnm9] at h
               exact h _ _ (CM_25 C2) (FrM_t F2 (FrM_w (by omega))) (anM_x 1 rfl (wr_s _ _ _ _)))
            | (rw [pI_on (by omega), pI_0 (fun z => z hdir9), pI_1 hdr29] at h
               exact h _ _ (CM_25 C2) (FrM_t F2 (FrM_w (by omega))) (anM_x 0 rfl (wr_s _ _ _ _)))
            | (rw [pI_on (by omega), pI_1 hdir9] at h
               exact h _ _ (CM_25 C1) (FrM_t F1 (FrM_w (by omega))) (anM_x 0 rfl (wr_s _ _ _ _)))
            | (rw [pI_1 (show dk A by show fD (aF A) = 1; omega)] at h
               exact h _ _ (CM_25 hC) (FrM_w (by omega)) (anM_x 2 rfl (wr_s _ _ _ _)))
        · skip
          refine kr_s ?_
          have hr6b := hr6
          refine wq_if_eq (pc := 220) (tgt := 227) dX7_rename_220 (by decide) (by first | (unfold inR; omega) | assumption) (fun c => absurd c (by decide)) (fun _ => ?_)
          refine wq_iconst (pc := 223) dX7_rename_223 ?_
          refine wq_goto (pc := 224) (tgt := 228) dX7_rename_224 (by decide) ?_
          refine wq_istore (pc := 228) (L' := [(6, _), (0, _), (1, _), (2, _), (3, _), (4, _), (5, _)]) dX7_rename_228 rfl (by decide) ?_
          refine wq_iload (pc := 230) dX7_rename_230 rfl ?_
          refine wq_if_eq (pc := 232) (tgt := 242) dX7_rename_232 (by decide) (by first | (unfold inR; omega) | assumption) (fun c => absurd c (by decide)) (fun _ => ?_)
          refine wq_iload (pc := 235) dX7_rename_235 rfl ?_
          refine wq_iconst (pc := 237) dX7_rename_237 ?_
          refine wq_idiv (pc := 238) dX7_rename_238 (by omega) (by omega) ?_
          refine wq_goto (pc := 239) (tgt := 244) dX7_rename_239 (by decide) ?_
          refine wq_iret (pc := 244) dX7_rename_244 rfl ?_
          first
            | (unfold actRename1 actRename2 at h
               rw [if_neg (by rw [hr5]; decide), if_neg (by rw [hr6]; decide)] at h
               obtain ⟨-, -, -, -, y6, -⟩ := id P6
               rw [show v / 2 = TG (aF A) d nm by omega]
               exact h _ _ (CM_put hs P6 (fun _ => ⟨by rw [wr_n _ _ (by omega), y5 21 22 (by omega) (by omega), wr_n _ _ (by omega)]; exact h22, fun n n0 n1 => ⟨by rw [wr_n _ _ (by omega), y5 39 n (by omega) (by omega), wr_n _ _ (by omega)]; exact (h39 n n0 n1).1, bump_wr (V := bump (aN A) d2) hbq n n0 n1⟩⟩) (fun z => absurd z (by rw [hr6]; decide))) (FrM_t (FrM_t e1 (FrM_t (FrM_w (by omega)) (FrM_P y5))) (FrM_t (FrM_w (by omega)) (FrM_P y6))) (anM_v (by rw [y6 21 25 (by omega) (by omega), wr_n _ _ (by omega), y5 21 25 (by omega) (by omega), wr_n _ _ (by omega)]; exact e2)))
            | (unfold actRename1 actRename2 at h
               rw [if_neg (by rw [hr5]; decide), if_pos hr6] at h
               obtain ⟨-, -, -, -, y6, -⟩ := id P6
               exact h _ _ (CM_put hs P6 (fun z => absurd z (by rw [hr6]; decide)) (fun _ => (M.2.2.2 hr6).1)) (FrM_t (FrM_t e1 (FrM_t (FrM_w (by omega)) (FrM_P y5))) (FrM_t (FrM_w (by omega)) (FrM_P y6))) (anM_v (by rw [y6 21 25 (by omega) (by omega), wr_n _ _ (by omega), y5 21 25 (by omega) (by omega), wr_n _ _ (by omega)]; exact e2)))
            | (unfold actRename1 at h
               rw [if_pos hr5] at h
               obtain ⟨-, -, -, -, y5, -⟩ := id P5
               exact h _ _ (CM_put hs P5 (fun z => absurd z (by rw [hr5]; decide)) (fun _ => (N.2.2.2 hr5).1)) (FrM_t e1 (FrM_t (FrM_w (by omega)) (FrM_P y5))) (anM_v (by rw [y5 21 25 (by omega) (by omega), wr_n _ _ (by omega)]; exact e2)))
            | (exfalso; omega)
            | (have q9 := e1 (by omega)
               rw [pI_0 (show ¬ TG (aF A) d nm = 0 by omega), pI_0 (badR_n q9.2.1 q9.2.2), pI_1 (by rw [if_pos (by decide)] at hrm; exact hrm)] at h
               exact h _ _ (CM_25 C6) (FrM_t F6b (FrM_w (by omega))) (anM_x 2 rfl (wr_s _ _ _ _)))
            | (have q9 := e2 (by omega)
               by_cases ct : TG (aF A) d nm = 0
               · rw [pI_1 ct] at h
                 exact h _ _ (CM_25 e3) (FrM_t e4 (FrM_w (by omega))) (anM_x 2 rfl (wr_s _ _ _ _))
               · rw [pI_0 ct, pI_1 (q9.elim (fun z => absurd z ct) (fun z => z.elim badR_1 badR_2))] at h
                 exact h _ _ (CM_25 e3) (FrM_t e4 (FrM_w (by omega))) (anM_x 2 rfl (wr_s _ _ _ _)))
            | (rw [pI_on (by omega), pI_0 (fun z => z hdir9), pI_0 (fun z => z hdr29), pI_0 (fun z => z hnm9), pI_1 hnm29] at h
               exact h _ _ (CM_25 C2) (FrM_t F2 (FrM_w (by omega))) (anM_x 1 rfl (wr_s _ _ _ _)))
            | (rw [pI_on (by omega), pI_0 (fun z => z hdir9), pI_0 (fun z => z hdr29), pI_1 hnm9] at h
               exact h _ _ (CM_25 C2) (FrM_t F2 (FrM_w (by omega))) (anM_x 1 rfl (wr_s _ _ _ _)))
            | (rw [pI_on (by omega), pI_0 (fun z => z hdir9), pI_1 hdr29] at h
               exact h _ _ (CM_25 C2) (FrM_t F2 (FrM_w (by omega))) (anM_x 0 rfl (wr_s _ _ _ _)))
            | (rw [pI_on (by omega), pI_1 hdir9] at h
               exact h _ _ (CM_25 C1) (FrM_t F1 (FrM_w (by omega))) (anM_x 0 rfl (wr_s _ _ _ _)))
            | (rw [pI_1 (show dk A by show fD (aF A) = 1; omega)] at h
               exact h _ _ (CM_25 hC) (FrM_w (by omega)) (anM_x 2 rfl (wr_s _ _ _ _)))
  have cut25 : ∀ (m : nMem), (CM A m ε) → (FrM μ m) → (m 21 25 = 0) → (fD (aF A) = 0) → (isDr A d) → (isDr A d2) → (nmR nm) → (nmR nm2) → wp mX7_rename 65 [(0, vR 21), (1, vI d), (2, vI nm), (3, vI d2), (4, vI nm2)] [] m ε Q := by
    intro m e0 e1 e2 e3 e4 e5 e6 e7
    rw [pI_on e3, pI_0 (fun z => z e4), pI_0 (fun z => z e5), pI_0 (fun z => z e6), pI_0 (fun z => z e7)] at h
    have hdb2 := thD_b (PA_NS (AOK_KP hO).1) e5
    refine wq_aload_n (pc := 65) dX7_rename_65 rfl rfl ?_
    refine wq_iload_n (pc := 66) dX7_rename_66 rfl rfl ?_
    refine wq_iload_n (pc := 67) dX7_rename_67 rfl rfl ?_
    refine cVK_2 (pc := 68) dX7_rename_68 hs (cw_X7_171 _ rfl) (by decide) rfl ⟨by decide, by decide⟩ (Nat.le_of_ble_eq_true rfl) (sp_X7_entry e0.1 (AOK_KP hO) e4 e6 (fun m3 v K3 Y3 ev => ?_))
    refine kr_s ?_
    have C3 := CM_Y e0 K3.1 Y3
    have F3 := FrM_t e1 (FrM_Y Y3)
    have rv : inR v := by unfold inR; omega
    obtain ⟨fl0, S0, hP0, hT0⟩ := hO.2.2 e3
    refine wq_istore (pc := 71) (L' := [(5, _), (0, _), (1, _), (2, _), (3, _), (4, _)]) dX7_rename_71 rfl (by decide) ?_
    refine wq_aload_n (pc := 73) dX7_rename_73 rfl rfl ?_
    refine wq_iload_n (pc := 74) dX7_rename_74 rfl rfl ?_
    refine wq_iload (pc := 75) dX7_rename_75 rfl ?_
    refine cVK_2 (pc := 77) dX7_rename_77 hs (cw_X7_171 _ rfl) (by decide) rfl ⟨by decide, by decide⟩ (Nat.le_of_ble_eq_true rfl) (sp_X7_entry C3.1 (AOK_KP hO) e5 e7 (fun m4 v2 K4 Y4 ev2 => ?_))
    refine kr_s ?_
    have C4 := CM_Y C3 K4.1 Y4
    have F4 := FrM_t F3 (FrM_Y Y4)
    have rv2 : inR v2 := by unfold inR; omega
    have hd := e3
    have hdir := e4
    have hdr2 := e5
    have hnm := e6
    have hnm2 := e7
    refine wq_istore (pc := 80) (L' := [(6, _), (5, _), (0, _), (1, _), (2, _), (3, _), (4, _)]) dX7_rename_80 rfl (by decide) ?_
    have cut28 : ∀ (m : nMem) (w : Int), (w = 0 ∨ w = 1) → (w = 1 → TG (aF A) d nm ≠ 0 ∧ ¬ bad1 A d nm d2 nm2 ∧ ¬ hasB A d nm d2) → (w = 0 → TG (aF A) d nm = 0 ∨ bad1 A d nm d2 nm2 ∨ hasB A d nm d2) → (CM A m ε) → (FrM μ m) → wp mX7_rename 153 [(0, vR 21), (1, vI d), (2, vI nm), (3, vI d2), (4, vI nm2), (5, vI v), (7, vI w)] [] m ε Q := by
      intro m w e0 e1 e2 e3 e4
      have rw1 : inR w := by unfold inR; omega
      refine wq_aload_n (pc := 153) dX7_rename_153 rfl rfl ?_
      refine wq_iload (pc := 154) dX7_rename_154 rfl ?_
      refine wq_if_eq (pc := 156) (tgt := 172) dX7_rename_156 (by decide) (by first | (unfold inR; omega) | assumption) (fun c29 => ?_) (fun c29 => ?_)
      · skip
        refine wq_iconst (pc := 172) dX7_rename_172 ?_
        refine wq_putIK (pc := 173) (kk := 25) dX7_rename_173 hs (gf_X7_127 _ rfl) rfl rfl rfl rfl rfl ?_
        refine wq_aload_n (pc := 176) dX7_rename_176 rfl rfl ?_
        refine wq_getIK (pc := 177) (kk := 25) dX7_rename_177 hs (gf_X7_127 _ rfl) rfl rfl rfl rfl ?_
        try rw [wr_s]
        refine wq_if_le (pc := 180) (tgt := 185) dX7_rename_180 (by decide) (by first | (unfold inR; omega) | assumption) (fun c30 => ?_) (fun c30 => ?_)
        · skip
          refine wq_sub1 (L' := [(0, _), (1, _), (2, _), (3, _), (4, _), (5, _)]) ⟨rfl, rfl, rfl, rfl, rfl, rfl, trivial⟩ ?_
          first
            | (exfalso; omega)
            | exact cut1 _ _ (CM_25 C6) (FrM_t F6b (FrM_w (by omega))) (wr_s _ _ _ _) hd hdir hdr2 hnm hnm2 (by have q9 := (e1 (by omega)).1; omega) (badR_n (e1 (by omega)).2.1 (e1 (by omega)).2.2) (by rw [if_pos (by decide)] at hrm; exact hrm)
        · skip
          refine wq_iconst (pc := 183) dX7_rename_183 ?_
          refine wq_iret (pc := 184) dX7_rename_184 rfl ?_
          first
            | (unfold actRename1 actRename2 at h
               rw [if_neg (by rw [hr5]; decide), if_neg (by rw [hr6]; decide)] at h
               obtain ⟨-, -, -, -, y6, -⟩ := id P6
               rw [show v / 2 = TG (aF A) d nm by omega]
               exact h _ _ (CM_put hs P6 (fun _ => ⟨by rw [wr_n _ _ (by omega), y5 21 22 (by omega) (by omega), wr_n _ _ (by omega)]; exact h22, fun n n0 n1 => ⟨by rw [wr_n _ _ (by omega), y5 39 n (by omega) (by omega), wr_n _ _ (by omega)]; exact (h39 n n0 n1).1, bump_wr (V := bump (aN A) d2) hbq n n0 n1⟩⟩) (fun z => absurd z (by rw [hr6]; decide))) (FrM_t (FrM_t e1 (FrM_t (FrM_w (by omega)) (FrM_P y5))) (FrM_t (FrM_w (by omega)) (FrM_P y6))) (anM_v (by rw [y6 21 25 (by omega) (by omega), wr_n _ _ (by omega), y5 21 25 (by omega) (by omega), wr_n _ _ (by omega)]; exact e2)))
            | (unfold actRename1 actRename2 at h
               rw [if_neg (by rw [hr5]; decide), if_pos hr6] at h
               obtain ⟨-, -, -, -, y6, -⟩ := id P6
               exact h _ _ (CM_put hs P6 (fun z => absurd z (by rw [hr6]; decide)) (fun _ => (M.2.2.2 hr6).1)) (FrM_t (FrM_t e1 (FrM_t (FrM_w (by omega)) (FrM_P y5))) (FrM_t (FrM_w (by omega)) (FrM_P y6))) (anM_v (by rw [y6 21 25 (by omega) (by omega), wr_n _ _ (by omega), y5 21 25 (by omega) (by omega), wr_n _ _ (by omega)]; exact e2)))
            | (unfold actRename1 at h
               rw [if_pos hr5] at h
               obtain ⟨-, -, -, -, y5, -⟩ := id P5
               exact h _ _ (CM_put hs P5 (fun z => absurd z (by rw [hr5]; decide)) (fun _ => (N.2.2.2 hr5).1)) (FrM_t e1 (FrM_t (FrM_w (by omega)) (FrM_P y5))) (anM_v (by rw [y5 21 25 (by omega) (by omega), wr_n _ _ (by omega)]; exact e2)))
            | (exfalso; omega)
            | (have q9 := e1 (by omega)
               rw [pI_0 (show ¬ TG (aF A) d nm = 0 by omega), pI_0 (badR_n q9.2.1 q9.2.2), pI_1 (by rw [if_pos (by decide)] at hrm; exact hrm)] at h
               exact h _ _ (CM_25 C6) (FrM_t F6b (FrM_w (by omega))) (anM_x 2 rfl (wr_s _ _ _ _)))
            | (have q9 := e2 (by omega)
               by_cases ct : TG (aF A) d nm = 0
               · rw [pI_1 ct] at h
                 exact h _ _ (CM_25 e3) (FrM_t e4 (FrM_w (by omega))) (anM_x 2 rfl (wr_s _ _ _ _))
               · rw [pI_0 ct, pI_1 (q9.elim (fun z => absurd z ct) (fun z => z.elim badR_1 badR_2))] at h
                 exact h _ _ (CM_25 e3) (FrM_t e4 (FrM_w (by omega))) (anM_x 2 rfl (wr_s _ _ _ _)))
            | (rw [pI_on (by omega), pI_0 (fun z => z hdir9), pI_0 (fun z => z hdr29), pI_0 (fun z => z hnm9), pI_1 hnm29] at h
               exact h _ _ (CM_25 C2) (FrM_t F2 (FrM_w (by omega))) (anM_x 1 rfl (wr_s _ _ _ _)))
            | (rw [pI_on (by omega), pI_0 (fun z => z hdir9), pI_0 (fun z => z hdr29), pI_1 hnm9] at h
               exact h _ _ (CM_25 C2) (FrM_t F2 (FrM_w (by omega))) (anM_x 1 rfl (wr_s _ _ _ _)))
            | (rw [pI_on (by omega), pI_0 (fun z => z hdir9), pI_1 hdr29] at h
               exact h _ _ (CM_25 C2) (FrM_t F2 (FrM_w (by omega))) (anM_x 0 rfl (wr_s _ _ _ _)))
            | (rw [pI_on (by omega), pI_1 hdir9] at h
               exact h _ _ (CM_25 C1) (FrM_t F1 (FrM_w (by omega))) (anM_x 0 rfl (wr_s _ _ _ _)))
            | (rw [pI_1 (show dk A by show fD (aF A) = 1; omega)] at h
               exact h _ _ (CM_25 hC) (FrM_w (by omega)) (anM_x 2 rfl (wr_s _ _ _ _)))
      · skip
        refine wq_aload_n (pc := 159) dX7_rename_159 rfl rfl ?_
        refine wq_iconst (pc := 160) dX7_rename_160 ?_
        refine wq_iconst (pc := 161) dX7_rename_161 ?_
        refine cVK_2 (pc := 162) dX7_rename_162 hs (cw_X7_222 _ rfl) (by decide) rfl ⟨by decide, by decide⟩ (Nat.le_of_ble_eq_true rfl) (sp_X7_canWrite e3 hd hP0.2.2.2.1 (by omega) (by omega) (fun hrm m6 C6 F6 t6 => ?_) (fun hrm m6 C6 F6 t6 => ?_))
        · skip
          refine kr_s ?_
          have hrm9 := hrm
          have F6b := FrM_t e4 F6
          refine wq_if_eq (pc := 165) (tgt := 172) dX7_rename_165 (by decide) (by first | (unfold inR; omega) | assumption) (fun c => absurd c (by decide)) (fun _ => ?_)
          refine wq_iconst (pc := 168) dX7_rename_168 ?_
          refine wq_goto (pc := 169) (tgt := 173) dX7_rename_169 (by decide) ?_
          refine wq_putIK (pc := 173) (kk := 25) dX7_rename_173 hs (gf_X7_127 _ rfl) rfl rfl rfl rfl rfl ?_
          refine wq_aload_n (pc := 176) dX7_rename_176 rfl rfl ?_
          refine wq_getIK (pc := 177) (kk := 25) dX7_rename_177 hs (gf_X7_127 _ rfl) rfl rfl rfl rfl ?_
          try rw [wr_s]
          refine wq_if_le (pc := 180) (tgt := 185) dX7_rename_180 (by decide) (by first | (unfold inR; omega) | assumption) (fun c34 => ?_) (fun c34 => ?_)
          · skip
            refine wq_sub1 (L' := [(0, _), (1, _), (2, _), (3, _), (4, _), (5, _)]) ⟨rfl, rfl, rfl, rfl, rfl, rfl, trivial⟩ ?_
            first
              | (exfalso; omega)
              | exact cut1 _ _ (CM_25 C6) (FrM_t F6b (FrM_w (by omega))) (wr_s _ _ _ _) hd hdir hdr2 hnm hnm2 (by have q9 := (e1 (by omega)).1; omega) (badR_n (e1 (by omega)).2.1 (e1 (by omega)).2.2) (by rw [if_pos (by decide)] at hrm; exact hrm)
          · skip
            refine wq_iconst (pc := 183) dX7_rename_183 ?_
            refine wq_iret (pc := 184) dX7_rename_184 rfl ?_
            first
              | (unfold actRename1 actRename2 at h
                 rw [if_neg (by rw [hr5]; decide), if_neg (by rw [hr6]; decide)] at h
                 obtain ⟨-, -, -, -, y6, -⟩ := id P6
                 rw [show v / 2 = TG (aF A) d nm by omega]
                 exact h _ _ (CM_put hs P6 (fun _ => ⟨by rw [wr_n _ _ (by omega), y5 21 22 (by omega) (by omega), wr_n _ _ (by omega)]; exact h22, fun n n0 n1 => ⟨by rw [wr_n _ _ (by omega), y5 39 n (by omega) (by omega), wr_n _ _ (by omega)]; exact (h39 n n0 n1).1, bump_wr (V := bump (aN A) d2) hbq n n0 n1⟩⟩) (fun z => absurd z (by rw [hr6]; decide))) (FrM_t (FrM_t e1 (FrM_t (FrM_w (by omega)) (FrM_P y5))) (FrM_t (FrM_w (by omega)) (FrM_P y6))) (anM_v (by rw [y6 21 25 (by omega) (by omega), wr_n _ _ (by omega), y5 21 25 (by omega) (by omega), wr_n _ _ (by omega)]; exact e2)))
              | (unfold actRename1 actRename2 at h
                 rw [if_neg (by rw [hr5]; decide), if_pos hr6] at h
                 obtain ⟨-, -, -, -, y6, -⟩ := id P6
                 exact h _ _ (CM_put hs P6 (fun z => absurd z (by rw [hr6]; decide)) (fun _ => (M.2.2.2 hr6).1)) (FrM_t (FrM_t e1 (FrM_t (FrM_w (by omega)) (FrM_P y5))) (FrM_t (FrM_w (by omega)) (FrM_P y6))) (anM_v (by rw [y6 21 25 (by omega) (by omega), wr_n _ _ (by omega), y5 21 25 (by omega) (by omega), wr_n _ _ (by omega)]; exact e2)))
              | (unfold actRename1 at h
                 rw [if_pos hr5] at h
                 obtain ⟨-, -, -, -, y5, -⟩ := id P5
                 exact h _ _ (CM_put hs P5 (fun z => absurd z (by rw [hr5]; decide)) (fun _ => (N.2.2.2 hr5).1)) (FrM_t e1 (FrM_t (FrM_w (by omega)) (FrM_P y5))) (anM_v (by rw [y5 21 25 (by omega) (by omega), wr_n _ _ (by omega)]; exact e2)))
              | (exfalso; omega)
              | (have q9 := e1 (by omega)
                 rw [pI_0 (show ¬ TG (aF A) d nm = 0 by omega), pI_0 (badR_n q9.2.1 q9.2.2), pI_1 (by rw [if_pos (by decide)] at hrm; exact hrm)] at h
                 exact h _ _ (CM_25 C6) (FrM_t F6b (FrM_w (by omega))) (anM_x 2 rfl (wr_s _ _ _ _)))
              | (have q9 := e2 (by omega)
                 by_cases ct : TG (aF A) d nm = 0
                 · rw [pI_1 ct] at h
                   exact h _ _ (CM_25 e3) (FrM_t e4 (FrM_w (by omega))) (anM_x 2 rfl (wr_s _ _ _ _))
                 · rw [pI_0 ct, pI_1 (q9.elim (fun z => absurd z ct) (fun z => z.elim badR_1 badR_2))] at h
                   exact h _ _ (CM_25 e3) (FrM_t e4 (FrM_w (by omega))) (anM_x 2 rfl (wr_s _ _ _ _)))
              | (rw [pI_on (by omega), pI_0 (fun z => z hdir9), pI_0 (fun z => z hdr29), pI_0 (fun z => z hnm9), pI_1 hnm29] at h
                 exact h _ _ (CM_25 C2) (FrM_t F2 (FrM_w (by omega))) (anM_x 1 rfl (wr_s _ _ _ _)))
              | (rw [pI_on (by omega), pI_0 (fun z => z hdir9), pI_0 (fun z => z hdr29), pI_1 hnm9] at h
                 exact h _ _ (CM_25 C2) (FrM_t F2 (FrM_w (by omega))) (anM_x 1 rfl (wr_s _ _ _ _)))
              | (rw [pI_on (by omega), pI_0 (fun z => z hdir9), pI_1 hdr29] at h
                 exact h _ _ (CM_25 C2) (FrM_t F2 (FrM_w (by omega))) (anM_x 0 rfl (wr_s _ _ _ _)))
              | (rw [pI_on (by omega), pI_1 hdir9] at h
                 exact h _ _ (CM_25 C1) (FrM_t F1 (FrM_w (by omega))) (anM_x 0 rfl (wr_s _ _ _ _)))
              | (rw [pI_1 (show dk A by show fD (aF A) = 1; omega)] at h
                 exact h _ _ (CM_25 hC) (FrM_w (by omega)) (anM_x 2 rfl (wr_s _ _ _ _)))
        · skip
          refine kr_s ?_
          have hrm9 := hrm
          have F6b := FrM_t e4 F6
          refine wq_if_eq (pc := 165) (tgt := 172) dX7_rename_165 (by decide) (by first | (unfold inR; omega) | assumption) (fun _ => ?_) (fun c => absurd c (by decide))
          refine wq_iconst (pc := 172) dX7_rename_172 ?_
          refine wq_putIK (pc := 173) (kk := 25) dX7_rename_173 hs (gf_X7_127 _ rfl) rfl rfl rfl rfl rfl ?_
          refine wq_aload_n (pc := 176) dX7_rename_176 rfl rfl ?_
          refine wq_getIK (pc := 177) (kk := 25) dX7_rename_177 hs (gf_X7_127 _ rfl) rfl rfl rfl rfl ?_
          try rw [wr_s]
          refine wq_if_le (pc := 180) (tgt := 185) dX7_rename_180 (by decide) (by first | (unfold inR; omega) | assumption) (fun c36 => ?_) (fun c36 => ?_)
          · skip
            refine wq_sub1 (L' := [(0, _), (1, _), (2, _), (3, _), (4, _), (5, _)]) ⟨rfl, rfl, rfl, rfl, rfl, rfl, trivial⟩ ?_
            first
              | (exfalso; omega)
              | exact cut1 _ _ (CM_25 C6) (FrM_t F6b (FrM_w (by omega))) (wr_s _ _ _ _) hd hdir hdr2 hnm hnm2 (by have q9 := (e1 (by omega)).1; omega) (badR_n (e1 (by omega)).2.1 (e1 (by omega)).2.2) (by rw [if_pos (by decide)] at hrm; exact hrm)
          · skip
            refine wq_iconst (pc := 183) dX7_rename_183 ?_
            refine wq_iret (pc := 184) dX7_rename_184 rfl ?_
            first
              | (unfold actRename1 actRename2 at h
                 rw [if_neg (by rw [hr5]; decide), if_neg (by rw [hr6]; decide)] at h
                 obtain ⟨-, -, -, -, y6, -⟩ := id P6
                 rw [show v / 2 = TG (aF A) d nm by omega]
                 exact h _ _ (CM_put hs P6 (fun _ => ⟨by rw [wr_n _ _ (by omega), y5 21 22 (by omega) (by omega), wr_n _ _ (by omega)]; exact h22, fun n n0 n1 => ⟨by rw [wr_n _ _ (by omega), y5 39 n (by omega) (by omega), wr_n _ _ (by omega)]; exact (h39 n n0 n1).1, bump_wr (V := bump (aN A) d2) hbq n n0 n1⟩⟩) (fun z => absurd z (by rw [hr6]; decide))) (FrM_t (FrM_t e1 (FrM_t (FrM_w (by omega)) (FrM_P y5))) (FrM_t (FrM_w (by omega)) (FrM_P y6))) (anM_v (by rw [y6 21 25 (by omega) (by omega), wr_n _ _ (by omega), y5 21 25 (by omega) (by omega), wr_n _ _ (by omega)]; exact e2)))
              | (unfold actRename1 actRename2 at h
                 rw [if_neg (by rw [hr5]; decide), if_pos hr6] at h
                 obtain ⟨-, -, -, -, y6, -⟩ := id P6
                 exact h _ _ (CM_put hs P6 (fun z => absurd z (by rw [hr6]; decide)) (fun _ => (M.2.2.2 hr6).1)) (FrM_t (FrM_t e1 (FrM_t (FrM_w (by omega)) (FrM_P y5))) (FrM_t (FrM_w (by omega)) (FrM_P y6))) (anM_v (by rw [y6 21 25 (by omega) (by omega), wr_n _ _ (by omega), y5 21 25 (by omega) (by omega), wr_n _ _ (by omega)]; exact e2)))
              | (unfold actRename1 at h
                 rw [if_pos hr5] at h
                 obtain ⟨-, -, -, -, y5, -⟩ := id P5
                 exact h _ _ (CM_put hs P5 (fun z => absurd z (by rw [hr5]; decide)) (fun _ => (N.2.2.2 hr5).1)) (FrM_t e1 (FrM_t (FrM_w (by omega)) (FrM_P y5))) (anM_v (by rw [y5 21 25 (by omega) (by omega), wr_n _ _ (by omega)]; exact e2)))
              | (exfalso; omega)
              | (have q9 := e1 (by omega)
                 rw [pI_0 (show ¬ TG (aF A) d nm = 0 by omega), pI_0 (badR_n q9.2.1 q9.2.2), pI_1 (by rw [if_pos (by decide)] at hrm; exact hrm)] at h
                 exact h _ _ (CM_25 C6) (FrM_t F6b (FrM_w (by omega))) (anM_x 2 rfl (wr_s _ _ _ _)))
              | (have q9 := e2 (by omega)
                 by_cases ct : TG (aF A) d nm = 0
                 · rw [pI_1 ct] at h
                   exact h _ _ (CM_25 e3) (FrM_t e4 (FrM_w (by omega))) (anM_x 2 rfl (wr_s _ _ _ _))
                 · rw [pI_0 ct, pI_1 (q9.elim (fun z => absurd z ct) (fun z => z.elim badR_1 badR_2))] at h
                   exact h _ _ (CM_25 e3) (FrM_t e4 (FrM_w (by omega))) (anM_x 2 rfl (wr_s _ _ _ _)))
              | (rw [pI_on (by omega), pI_0 (fun z => z hdir9), pI_0 (fun z => z hdr29), pI_0 (fun z => z hnm9), pI_1 hnm29] at h
                 exact h _ _ (CM_25 C2) (FrM_t F2 (FrM_w (by omega))) (anM_x 1 rfl (wr_s _ _ _ _)))
              | (rw [pI_on (by omega), pI_0 (fun z => z hdir9), pI_0 (fun z => z hdr29), pI_1 hnm9] at h
                 exact h _ _ (CM_25 C2) (FrM_t F2 (FrM_w (by omega))) (anM_x 1 rfl (wr_s _ _ _ _)))
              | (rw [pI_on (by omega), pI_0 (fun z => z hdir9), pI_1 hdr29] at h
                 exact h _ _ (CM_25 C2) (FrM_t F2 (FrM_w (by omega))) (anM_x 0 rfl (wr_s _ _ _ _)))
              | (rw [pI_on (by omega), pI_1 hdir9] at h
                 exact h _ _ (CM_25 C1) (FrM_t F1 (FrM_w (by omega))) (anM_x 0 rfl (wr_s _ _ _ _)))
              | (rw [pI_1 (show dk A by show fD (aF A) = 1; omega)] at h
                 exact h _ _ (CM_25 hC) (FrM_w (by omega)) (anM_x 2 rfl (wr_s _ _ _ _)))
    have cut37 : ∀ (w : Int), (w = 0 ∨ w = 1) → (w = 1 → TG (aF A) d nm ≠ 0 ∧ ¬ bad1 A d nm d2 nm2) → (w = 0 → TG (aF A) d nm = 0 ∨ bad1 A d nm d2 nm2) → wp mX7_rename 122 [(0, vR 21), (1, vI d), (2, vI nm), (3, vI d2), (4, vI nm2), (5, vI v), (6, vI v2), (7, vI w)] [] m4 ε Q := by
      intro w e0 e1 e2
      have rw1 : inR w := by unfold inR; omega
      have a1 := e1
      have a2 := e2
      refine wq_iload (pc := 122) dX7_rename_122 rfl ?_
      refine wq_if_eq (pc := 124) (tgt := 150) dX7_rename_124 (by decide) (by first | (unfold inR; omega) | assumption) (fun c38 => ?_) (fun c38 => ?_)
      · skip
        refine wq_iconst (pc := 150) dX7_rename_150 ?_
        refine wq_istore (pc := 151) (L' := [(7, _), (0, _), (1, _), (2, _), (3, _), (4, _), (5, _), (6, _)]) dX7_rename_151 rfl (by decide) ?_
        refine wq_sub1 (L' := [(0, _), (1, _), (2, _), (3, _), (4, _), (5, _), (7, _)]) ⟨rfl, rfl, rfl, rfl, rfl, rfl, rfl, trivial⟩ ?_
        first
          | (exfalso; omega)
          | exact cut28 _ 0 (by omega) (fun z => absurd z (by decide)) (fun _ => (a2 (by omega)).elim Or.inl (fun q => Or.inr (Or.inl q))) C4 F4
          | exact cut28 _ 0 (by omega) (fun z => absurd z (by decide)) (fun _ => Or.inr (Or.inr ⟨by omega, hin9⟩)) C5 F5
          | exact cut28 _ 1 (by omega) (fun _ => ⟨(a1 (by omega)).1, (a1 (by omega)).2, fun z => hin9 z.2⟩) (fun z => absurd z (by decide)) C5 F5
          | exact cut28 _ 1 (by omega) (fun _ => ⟨(a1 (by omega)).1, (a1 (by omega)).2, fun z => by have z1 := z.1; clear z; omega⟩) (fun z => absurd z (by decide)) C4 F4
      · skip
        refine wq_iload (pc := 127) dX7_rename_127 rfl ?_
        refine wq_iconst (pc := 129) dX7_rename_129 ?_
        refine wq_irem (pc := 130) dX7_rename_130 (by omega) (by omega) ?_
        refine wq_if_eq (pc := 131) (tgt := 146) dX7_rename_131 (by decide) (by first | (unfold inR; omega) | assumption) (fun c39 => ?_) (fun c39 => ?_)
        · skip
          refine wq_iconst (pc := 146) dX7_rename_146 ?_
          refine wq_goto (pc := 147) (tgt := 151) dX7_rename_147 (by decide) ?_
          refine wq_istore (pc := 151) (L' := [(7, _), (0, _), (1, _), (2, _), (3, _), (4, _), (5, _), (6, _)]) dX7_rename_151 rfl (by decide) ?_
          refine wq_sub1 (L' := [(0, _), (1, _), (2, _), (3, _), (4, _), (5, _), (7, _)]) ⟨rfl, rfl, rfl, rfl, rfl, rfl, rfl, trivial⟩ ?_
          first
            | (exfalso; omega)
            | exact cut28 _ 0 (by omega) (fun z => absurd z (by decide)) (fun _ => (a2 (by omega)).elim Or.inl (fun q => Or.inr (Or.inl q))) C4 F4
            | exact cut28 _ 0 (by omega) (fun z => absurd z (by decide)) (fun _ => Or.inr (Or.inr ⟨by omega, hin9⟩)) C5 F5
            | exact cut28 _ 1 (by omega) (fun _ => ⟨(a1 (by omega)).1, (a1 (by omega)).2, fun z => hin9 z.2⟩) (fun z => absurd z (by decide)) C5 F5
            | exact cut28 _ 1 (by omega) (fun _ => ⟨(a1 (by omega)).1, (a1 (by omega)).2, fun z => by have z1 := z.1; clear z; omega⟩) (fun z => absurd z (by decide)) C4 F4
        · skip
          have hq9 := a1 (by omega)
          refine wq_aload_n (pc := 134) dX7_rename_134 rfl rfl ?_
          refine wq_iload_n (pc := 135) dX7_rename_135 rfl rfl ?_
          refine wq_iload (pc := 136) dX7_rename_136 rfl ?_
          refine wq_iconst (pc := 138) dX7_rename_138 ?_
          refine wq_idiv (pc := 139) dX7_rename_139 (by omega) (by omega) ?_
          rw [show v / 2 = TG (aF A) d nm by omega]
          refine cVK_2 (pc := 140) dX7_rename_140 hs (cw_X7_243 _ rfl) (by decide) rfl ⟨by decide, by decide⟩ (Nat.le_of_ble_eq_true rfl) (sp_X7_isInside C4 (AOK_KP hO) (by omega) (thD_s hdir hnm (by omega) (by omega)) (fun hin m5 C5 F5b t5 => ?_) (fun hin m5 C5 F5b t5 => ?_))
          · skip
            refine kr_s ?_
            have hin9 := hin
            have F5 := FrM_t F4 F5b
            refine wq_if_ne (pc := 143) (tgt := 150) dX7_rename_143 (by decide) (by first | (unfold inR; omega) | assumption) (fun _ => ?_) (fun c => absurd c (by decide))
            refine wq_iconst (pc := 150) dX7_rename_150 ?_
            refine wq_istore (pc := 151) (L' := [(7, _), (0, _), (1, _), (2, _), (3, _), (4, _), (5, _), (6, _)]) dX7_rename_151 rfl (by decide) ?_
            refine wq_sub1 (L' := [(0, _), (1, _), (2, _), (3, _), (4, _), (5, _), (7, _)]) ⟨rfl, rfl, rfl, rfl, rfl, rfl, rfl, trivial⟩ ?_
            first
              | (exfalso; omega)
              | exact cut28 _ 0 (by omega) (fun z => absurd z (by decide)) (fun _ => (a2 (by omega)).elim Or.inl (fun q => Or.inr (Or.inl q))) C4 F4
              | exact cut28 _ 0 (by omega) (fun z => absurd z (by decide)) (fun _ => Or.inr (Or.inr ⟨by omega, hin9⟩)) C5 F5
              | exact cut28 _ 1 (by omega) (fun _ => ⟨(a1 (by omega)).1, (a1 (by omega)).2, fun z => hin9 z.2⟩) (fun z => absurd z (by decide)) C5 F5
              | exact cut28 _ 1 (by omega) (fun _ => ⟨(a1 (by omega)).1, (a1 (by omega)).2, fun z => by have z1 := z.1; clear z; omega⟩) (fun z => absurd z (by decide)) C4 F4
          · skip
            refine kr_s ?_
            have hin9 := hin
            have F5 := FrM_t F4 F5b
            refine wq_if_ne (pc := 143) (tgt := 150) dX7_rename_143 (by decide) (by first | (unfold inR; omega) | assumption) (fun c => absurd c (by decide)) (fun _ => ?_)
            refine wq_iconst (pc := 146) dX7_rename_146 ?_
            refine wq_goto (pc := 147) (tgt := 151) dX7_rename_147 (by decide) ?_
            refine wq_istore (pc := 151) (L' := [(7, _), (0, _), (1, _), (2, _), (3, _), (4, _), (5, _), (6, _)]) dX7_rename_151 rfl (by decide) ?_
            refine wq_sub1 (L' := [(0, _), (1, _), (2, _), (3, _), (4, _), (5, _), (7, _)]) ⟨rfl, rfl, rfl, rfl, rfl, rfl, rfl, trivial⟩ ?_
            first
              | (exfalso; omega)
              | exact cut28 _ 0 (by omega) (fun z => absurd z (by decide)) (fun _ => (a2 (by omega)).elim Or.inl (fun q => Or.inr (Or.inl q))) C4 F4
              | exact cut28 _ 0 (by omega) (fun z => absurd z (by decide)) (fun _ => Or.inr (Or.inr ⟨by omega, hin9⟩)) C5 F5
              | exact cut28 _ 1 (by omega) (fun _ => ⟨(a1 (by omega)).1, (a1 (by omega)).2, fun z => hin9 z.2⟩) (fun z => absurd z (by decide)) C5 F5
              | exact cut28 _ 1 (by omega) (fun _ => ⟨(a1 (by omega)).1, (a1 (by omega)).2, fun z => by have z1 := z.1; clear z; omega⟩) (fun z => absurd z (by decide)) C4 F4
    refine wq_iload (pc := 82) dX7_rename_82 rfl ?_
    refine wq_iconst (pc := 84) dX7_rename_84 ?_
    refine wq_icmp_eq (pc := 85) (tgt := 119) dX7_rename_85 (by decide) (by first | (unfold inR; omega) | assumption) (by first | (unfold inR; omega) | assumption) (fun c44 => ?_) (fun c44 => ?_)
    · skip
      refine wq_iconst (pc := 119) dX7_rename_119 ?_
      refine wq_istore (pc := 120) (L' := [(7, _), (6, _), (5, _), (0, _), (1, _), (2, _), (3, _), (4, _)]) dX7_rename_120 rfl (by decide) ?_
      refine wq_sub1 (L' := [(0, _), (1, _), (2, _), (3, _), (4, _), (5, _), (6, _), (7, _)]) ⟨rfl, rfl, rfl, rfl, rfl, rfl, rfl, rfl, trivial⟩ ?_
      first
        | (exfalso; omega)
        | exact cut37 1 (by omega) (fun _ => by omega) (fun z => absurd z (by decide))
        | exact cut37 0 (by omega) (fun z => absurd z (by decide)) (fun _ => by omega)
    · skip
      refine wq_iload (pc := 88) dX7_rename_88 rfl ?_
      refine wq_iload (pc := 90) dX7_rename_90 rfl ?_
      refine wq_icmp_eq (pc := 92) (tgt := 119) dX7_rename_92 (by decide) (by first | (unfold inR; omega) | assumption) (by first | (unfold inR; omega) | assumption) (fun c45 => ?_) (fun c45 => ?_)
      · skip
        refine wq_iconst (pc := 119) dX7_rename_119 ?_
        refine wq_istore (pc := 120) (L' := [(7, _), (6, _), (5, _), (0, _), (1, _), (2, _), (3, _), (4, _)]) dX7_rename_120 rfl (by decide) ?_
        refine wq_sub1 (L' := [(0, _), (1, _), (2, _), (3, _), (4, _), (5, _), (6, _), (7, _)]) ⟨rfl, rfl, rfl, rfl, rfl, rfl, rfl, rfl, trivial⟩ ?_
        first
          | (exfalso; omega)
          | exact cut37 1 (by omega) (fun _ => by omega) (fun z => absurd z (by decide))
          | exact cut37 0 (by omega) (fun z => absurd z (by decide)) (fun _ => by omega)
      · skip
        refine wq_iload (pc := 95) dX7_rename_95 rfl ?_
        refine wq_iconst (pc := 97) dX7_rename_97 ?_
        refine wq_icmp_eq (pc := 98) (tgt := 115) dX7_rename_98 (by decide) (by first | (unfold inR; omega) | assumption) (by first | (unfold inR; omega) | assumption) (fun c46 => ?_) (fun c46 => ?_)
        · skip
          refine wq_iconst (pc := 115) dX7_rename_115 ?_
          refine wq_goto (pc := 116) (tgt := 120) dX7_rename_116 (by decide) ?_
          refine wq_istore (pc := 120) (L' := [(7, _), (6, _), (5, _), (0, _), (1, _), (2, _), (3, _), (4, _)]) dX7_rename_120 rfl (by decide) ?_
          refine wq_sub1 (L' := [(0, _), (1, _), (2, _), (3, _), (4, _), (5, _), (6, _), (7, _)]) ⟨rfl, rfl, rfl, rfl, rfl, rfl, rfl, rfl, trivial⟩ ?_
          first
            | (exfalso; omega)
            | exact cut37 1 (by omega) (fun _ => by omega) (fun z => absurd z (by decide))
            | exact cut37 0 (by omega) (fun z => absurd z (by decide)) (fun _ => by omega)
        · skip
          refine wq_iload (pc := 101) dX7_rename_101 rfl ?_
          refine wq_iconst (pc := 103) dX7_rename_103 ?_
          refine wq_irem (pc := 104) dX7_rename_104 (by omega) (by omega) ?_
          refine wq_if_ne (pc := 105) (tgt := 119) dX7_rename_105 (by decide) (by first | (unfold inR; omega) | assumption) (fun c47 => ?_) (fun c47 => ?_)
          · skip
            refine wq_iconst (pc := 119) dX7_rename_119 ?_
            refine wq_istore (pc := 120) (L' := [(7, _), (6, _), (5, _), (0, _), (1, _), (2, _), (3, _), (4, _)]) dX7_rename_120 rfl (by decide) ?_
            refine wq_sub1 (L' := [(0, _), (1, _), (2, _), (3, _), (4, _), (5, _), (6, _), (7, _)]) ⟨rfl, rfl, rfl, rfl, rfl, rfl, rfl, rfl, trivial⟩ ?_
            first
              | (exfalso; omega)
              | exact cut37 1 (by omega) (fun _ => by omega) (fun z => absurd z (by decide))
              | exact cut37 0 (by omega) (fun z => absurd z (by decide)) (fun _ => by omega)
          · skip
            refine wq_iload (pc := 108) dX7_rename_108 rfl ?_
            refine wq_iconst (pc := 110) dX7_rename_110 ?_
            refine wq_irem (pc := 111) dX7_rename_111 (by omega) (by omega) ?_
            refine wq_if_ne (pc := 112) (tgt := 119) dX7_rename_112 (by decide) (by first | (unfold inR; omega) | assumption) (fun c48 => ?_) (fun c48 => ?_)
            · skip
              refine wq_iconst (pc := 119) dX7_rename_119 ?_
              refine wq_istore (pc := 120) (L' := [(7, _), (6, _), (5, _), (0, _), (1, _), (2, _), (3, _), (4, _)]) dX7_rename_120 rfl (by decide) ?_
              refine wq_sub1 (L' := [(0, _), (1, _), (2, _), (3, _), (4, _), (5, _), (6, _), (7, _)]) ⟨rfl, rfl, rfl, rfl, rfl, rfl, rfl, rfl, trivial⟩ ?_
              first
                | (exfalso; omega)
                | exact cut37 1 (by omega) (fun _ => by omega) (fun z => absurd z (by decide))
                | exact cut37 0 (by omega) (fun z => absurd z (by decide)) (fun _ => by omega)
            · skip
              refine wq_iconst (pc := 115) dX7_rename_115 ?_
              refine wq_goto (pc := 116) (tgt := 120) dX7_rename_116 (by decide) ?_
              refine wq_istore (pc := 120) (L' := [(7, _), (6, _), (5, _), (0, _), (1, _), (2, _), (3, _), (4, _)]) dX7_rename_120 rfl (by decide) ?_
              refine wq_sub1 (L' := [(0, _), (1, _), (2, _), (3, _), (4, _), (5, _), (6, _), (7, _)]) ⟨rfl, rfl, rfl, rfl, rfl, rfl, rfl, rfl, trivial⟩ ?_
              first
                | (exfalso; omega)
                | exact cut37 1 (by omega) (fun _ => by omega) (fun z => absurd z (by decide))
                | exact cut37 0 (by omega) (fun z => absurd z (by decide)) (fun _ => by omega)
  refine wq_iconst (pc := 0) dX7_rename_0 ?_
  refine wq_istore (pc := 1) (L' := [(5, _), (0, _), (1, _), (2, _), (3, _), (4, _)]) dX7_rename_1 rfl (by decide) ?_
  refine wq_aload_n (pc := 3) dX7_rename_3 rfl rfl ?_
  refine wq_aload_n (pc := 4) dX7_rename_4 rfl rfl ?_
  refine wq_getIK (pc := 5) (kk := 21) dX7_rename_5 hs (gf_X7_174 _ rfl) rfl rfl rfl rfl ?_
  refine wq_if_eq (pc := 8) (tgt := 15) dX7_rename_8 (by decide) (by first | (unfold inR; omega) | assumption) (fun c49 => ?_) (fun c49 => ?_)
  · skip
    refine wq_aload_n (pc := 15) dX7_rename_15 rfl rfl ?_
    refine wq_iload_n (pc := 16) dX7_rename_16 rfl rfl ?_
    refine cVK_1 (pc := 17) dX7_rename_17 hs (cw_X7_213 _ rfl) (by decide) rfl ⟨by decide, by decide⟩ (Nat.le_of_ble_eq_true rfl) (sp_X7_hasDirectory hC.1 (AOK_KP hO) r1 (fun hdir m1 K1 Y1 => ?_) (fun hdir m1 K1 Y1 => ?_))
    · skip
      refine kr_s ?_
      have hdir9 := hdir
      have C1 := CM_Y hC K1.1 Y1
      have F1 := FrM_Y Y1
      refine wq_if_eq (pc := 20) (tgt := 31) dX7_rename_20 (by decide) (by first | (unfold inR; omega) | assumption) (fun c => absurd c (by decide)) (fun _ => ?_)
      refine wq_aload_n (pc := 23) dX7_rename_23 rfl rfl ?_
      refine wq_iload_n (pc := 24) dX7_rename_24 rfl rfl ?_
      refine cVK_1 (pc := 25) dX7_rename_25 hs (cw_X7_213 _ rfl) (by decide) rfl ⟨by decide, by decide⟩ (Nat.le_of_ble_eq_true rfl) (sp_X7_hasDirectory C1.1 (AOK_KP hO) r3 (fun hdr2 m2 K2 Y2 => ?_) (fun hdr2 m2 K2 Y2 => ?_))
      · skip
        refine kr_s ?_
        have hdr29 := hdr2
        have C2 := CM_Y C1 K2.1 Y2
        have F2 := FrM_t F1 (FrM_Y Y2)
        refine wq_if_ne (pc := 28) (tgt := 35) dX7_rename_28 (by decide) (by first | (unfold inR; omega) | assumption) (fun _ => ?_) (fun c => absurd c (by decide))
        refine wq_iload_n (pc := 35) dX7_rename_35 rfl rfl ?_
        refine cS_1 (pc := 36) dX7_rename_36 (cw_X7_216 _ rfl) ⟨by decide, by decide⟩ (Nat.le_of_ble_eq_true rfl) (sp_X7_isName r2 (fun hnm => ?_) (fun hnm => ?_))
        · skip
          refine kr_s ?_
          have hnm9 := hnm
          refine wq_if_eq (pc := 39) (tgt := 50) dX7_rename_39 (by decide) (by first | (unfold inR; omega) | assumption) (fun c => absurd c (by decide)) (fun _ => ?_)
          refine wq_iload (pc := 42) dX7_rename_42 rfl ?_
          refine cS_1 (pc := 44) dX7_rename_44 (cw_X7_216 _ rfl) ⟨by decide, by decide⟩ (Nat.le_of_ble_eq_true rfl) (sp_X7_isName r4 (fun hnm2 => ?_) (fun hnm2 => ?_))
          · skip
            refine kr_s ?_
            have hnm29 := hnm2
            refine wq_if_ne (pc := 47) (tgt := 54) dX7_rename_47 (by decide) (by first | (unfold inR; omega) | assumption) (fun _ => ?_) (fun c => absurd c (by decide))
            refine wq_iconst (pc := 54) dX7_rename_54 ?_
            refine wq_putIK (pc := 55) (kk := 25) dX7_rename_55 hs (gf_X7_127 _ rfl) rfl rfl rfl rfl rfl ?_
            refine wq_aload_n (pc := 58) dX7_rename_58 rfl rfl ?_
            refine wq_getIK (pc := 59) (kk := 25) dX7_rename_59 hs (gf_X7_127 _ rfl) rfl rfl rfl rfl ?_
            try rw [wr_s]
            refine wq_if_ne (pc := 62) (tgt := 176) dX7_rename_62 (by decide) (by first | (unfold inR; omega) | assumption) (fun c62 => ?_) (fun c62 => ?_)
            · skip
              refine wq_aload_n (pc := 176) dX7_rename_176 rfl rfl ?_
              refine wq_getIK (pc := 177) (kk := 25) dX7_rename_177 hs (gf_X7_127 _ rfl) rfl rfl rfl rfl ?_
              try rw [wr_s]
              refine wq_if_le (pc := 180) (tgt := 185) dX7_rename_180 (by decide) (by first | (unfold inR; omega) | assumption) (fun c63 => ?_) (fun c63 => ?_)
              · skip
                refine wq_sub1 (L' := [(0, _), (1, _), (2, _), (3, _), (4, _), (5, _)]) ⟨rfl, rfl, rfl, rfl, rfl, rfl, trivial⟩ ?_
                first
                  | (exfalso; omega)
                  | exact cut1 _ _ (CM_25 C6) (FrM_t F6b (FrM_w (by omega))) (wr_s _ _ _ _) hd hdir hdr2 hnm hnm2 (by have q9 := (e1 (by omega)).1; omega) (badR_n (e1 (by omega)).2.1 (e1 (by omega)).2.2) (by rw [if_pos (by decide)] at hrm; exact hrm)
              · skip
                refine wq_iconst (pc := 183) dX7_rename_183 ?_
                refine wq_iret (pc := 184) dX7_rename_184 rfl ?_
                first
                  | (unfold actRename1 actRename2 at h
                     rw [if_neg (by rw [hr5]; decide), if_neg (by rw [hr6]; decide)] at h
                     obtain ⟨-, -, -, -, y6, -⟩ := id P6
                     rw [show v / 2 = TG (aF A) d nm by omega]
                     exact h _ _ (CM_put hs P6 (fun _ => ⟨by rw [wr_n _ _ (by omega), y5 21 22 (by omega) (by omega), wr_n _ _ (by omega)]; exact h22, fun n n0 n1 => ⟨by rw [wr_n _ _ (by omega), y5 39 n (by omega) (by omega), wr_n _ _ (by omega)]; exact (h39 n n0 n1).1, bump_wr (V := bump (aN A) d2) hbq n n0 n1⟩⟩) (fun z => absurd z (by rw [hr6]; decide))) (FrM_t (FrM_t e1 (FrM_t (FrM_w (by omega)) (FrM_P y5))) (FrM_t (FrM_w (by omega)) (FrM_P y6))) (anM_v (by rw [y6 21 25 (by omega) (by omega), wr_n _ _ (by omega), y5 21 25 (by omega) (by omega), wr_n _ _ (by omega)]; exact e2)))
                  | (unfold actRename1 actRename2 at h
                     rw [if_neg (by rw [hr5]; decide), if_pos hr6] at h
                     obtain ⟨-, -, -, -, y6, -⟩ := id P6
                     exact h _ _ (CM_put hs P6 (fun z => absurd z (by rw [hr6]; decide)) (fun _ => (M.2.2.2 hr6).1)) (FrM_t (FrM_t e1 (FrM_t (FrM_w (by omega)) (FrM_P y5))) (FrM_t (FrM_w (by omega)) (FrM_P y6))) (anM_v (by rw [y6 21 25 (by omega) (by omega), wr_n _ _ (by omega), y5 21 25 (by omega) (by omega), wr_n _ _ (by omega)]; exact e2)))
                  | (unfold actRename1 at h
                     rw [if_pos hr5] at h
                     obtain ⟨-, -, -, -, y5, -⟩ := id P5
                     exact h _ _ (CM_put hs P5 (fun z => absurd z (by rw [hr5]; decide)) (fun _ => (N.2.2.2 hr5).1)) (FrM_t e1 (FrM_t (FrM_w (by omega)) (FrM_P y5))) (anM_v (by rw [y5 21 25 (by omega) (by omega), wr_n _ _ (by omega)]; exact e2)))
                  | (exfalso; omega)
                  | (have q9 := e1 (by omega)
                     rw [pI_0 (show ¬ TG (aF A) d nm = 0 by omega), pI_0 (badR_n q9.2.1 q9.2.2), pI_1 (by rw [if_pos (by decide)] at hrm; exact hrm)] at h
                     exact h _ _ (CM_25 C6) (FrM_t F6b (FrM_w (by omega))) (anM_x 2 rfl (wr_s _ _ _ _)))
                  | (have q9 := e2 (by omega)
                     by_cases ct : TG (aF A) d nm = 0
                     · rw [pI_1 ct] at h
                       exact h _ _ (CM_25 e3) (FrM_t e4 (FrM_w (by omega))) (anM_x 2 rfl (wr_s _ _ _ _))
                     · rw [pI_0 ct, pI_1 (q9.elim (fun z => absurd z ct) (fun z => z.elim badR_1 badR_2))] at h
                       exact h _ _ (CM_25 e3) (FrM_t e4 (FrM_w (by omega))) (anM_x 2 rfl (wr_s _ _ _ _)))
                  | (rw [pI_on (by omega), pI_0 (fun z => z hdir9), pI_0 (fun z => z hdr29), pI_0 (fun z => z hnm9), pI_1 hnm29] at h
                     exact h _ _ (CM_25 C2) (FrM_t F2 (FrM_w (by omega))) (anM_x 1 rfl (wr_s _ _ _ _)))
                  | (rw [pI_on (by omega), pI_0 (fun z => z hdir9), pI_0 (fun z => z hdr29), pI_1 hnm9] at h
                     exact h _ _ (CM_25 C2) (FrM_t F2 (FrM_w (by omega))) (anM_x 1 rfl (wr_s _ _ _ _)))
                  | (rw [pI_on (by omega), pI_0 (fun z => z hdir9), pI_1 hdr29] at h
                     exact h _ _ (CM_25 C2) (FrM_t F2 (FrM_w (by omega))) (anM_x 0 rfl (wr_s _ _ _ _)))
                  | (rw [pI_on (by omega), pI_1 hdir9] at h
                     exact h _ _ (CM_25 C1) (FrM_t F1 (FrM_w (by omega))) (anM_x 0 rfl (wr_s _ _ _ _)))
                  | (rw [pI_1 (show dk A by show fD (aF A) = 1; omega)] at h
                     exact h _ _ (CM_25 hC) (FrM_w (by omega)) (anM_x 2 rfl (wr_s _ _ _ _)))
            · skip
              refine wq_sub1 (L' := [(0, _), (1, _), (2, _), (3, _), (4, _)]) ⟨rfl, rfl, rfl, rfl, rfl, trivial⟩ ?_
              first
                | (exfalso; omega)
                | exact cut25 _ (CM_25 C2) (FrM_t F2 (FrM_w (by omega))) (wr_s _ _ _ _) (by omega) hdir9 hdr29 hnm9 hnm29
          · skip
            refine kr_s ?_
            have hnm29 := hnm2
            refine wq_if_ne (pc := 47) (tgt := 54) dX7_rename_47 (by decide) (by first | (unfold inR; omega) | assumption) (fun c => absurd c (by decide)) (fun _ => ?_)
            refine wq_iconst (pc := 50) dX7_rename_50 ?_
            refine wq_goto (pc := 51) (tgt := 55) dX7_rename_51 (by decide) ?_
            refine wq_putIK (pc := 55) (kk := 25) dX7_rename_55 hs (gf_X7_127 _ rfl) rfl rfl rfl rfl rfl ?_
            refine wq_aload_n (pc := 58) dX7_rename_58 rfl rfl ?_
            refine wq_getIK (pc := 59) (kk := 25) dX7_rename_59 hs (gf_X7_127 _ rfl) rfl rfl rfl rfl ?_
            try rw [wr_s]
            refine wq_if_ne (pc := 62) (tgt := 176) dX7_rename_62 (by decide) (by first | (unfold inR; omega) | assumption) (fun c65 => ?_) (fun c65 => ?_)
            · skip
              refine wq_aload_n (pc := 176) dX7_rename_176 rfl rfl ?_
              refine wq_getIK (pc := 177) (kk := 25) dX7_rename_177 hs (gf_X7_127 _ rfl) rfl rfl rfl rfl ?_
              try rw [wr_s]
              refine wq_if_le (pc := 180) (tgt := 185) dX7_rename_180 (by decide) (by first | (unfold inR; omega) | assumption) (fun c66 => ?_) (fun c66 => ?_)
              · skip
                refine wq_sub1 (L' := [(0, _), (1, _), (2, _), (3, _), (4, _), (5, _)]) ⟨rfl, rfl, rfl, rfl, rfl, rfl, trivial⟩ ?_
                first
                  | (exfalso; omega)
                  | exact cut1 _ _ (CM_25 C6) (FrM_t F6b (FrM_w (by omega))) (wr_s _ _ _ _) hd hdir hdr2 hnm hnm2 (by have q9 := (e1 (by omega)).1; omega) (badR_n (e1 (by omega)).2.1 (e1 (by omega)).2.2) (by rw [if_pos (by decide)] at hrm; exact hrm)
              · skip
                refine wq_iconst (pc := 183) dX7_rename_183 ?_
                refine wq_iret (pc := 184) dX7_rename_184 rfl ?_
                first
                  | (unfold actRename1 actRename2 at h
                     rw [if_neg (by rw [hr5]; decide), if_neg (by rw [hr6]; decide)] at h
                     obtain ⟨-, -, -, -, y6, -⟩ := id P6
                     rw [show v / 2 = TG (aF A) d nm by omega]
                     exact h _ _ (CM_put hs P6 (fun _ => ⟨by rw [wr_n _ _ (by omega), y5 21 22 (by omega) (by omega), wr_n _ _ (by omega)]; exact h22, fun n n0 n1 => ⟨by rw [wr_n _ _ (by omega), y5 39 n (by omega) (by omega), wr_n _ _ (by omega)]; exact (h39 n n0 n1).1, bump_wr (V := bump (aN A) d2) hbq n n0 n1⟩⟩) (fun z => absurd z (by rw [hr6]; decide))) (FrM_t (FrM_t e1 (FrM_t (FrM_w (by omega)) (FrM_P y5))) (FrM_t (FrM_w (by omega)) (FrM_P y6))) (anM_v (by rw [y6 21 25 (by omega) (by omega), wr_n _ _ (by omega), y5 21 25 (by omega) (by omega), wr_n _ _ (by omega)]; exact e2)))
                  | (unfold actRename1 actRename2 at h
                     rw [if_neg (by rw [hr5]; decide), if_pos hr6] at h
                     obtain ⟨-, -, -, -, y6, -⟩ := id P6
                     exact h _ _ (CM_put hs P6 (fun z => absurd z (by rw [hr6]; decide)) (fun _ => (M.2.2.2 hr6).1)) (FrM_t (FrM_t e1 (FrM_t (FrM_w (by omega)) (FrM_P y5))) (FrM_t (FrM_w (by omega)) (FrM_P y6))) (anM_v (by rw [y6 21 25 (by omega) (by omega), wr_n _ _ (by omega), y5 21 25 (by omega) (by omega), wr_n _ _ (by omega)]; exact e2)))
                  | (unfold actRename1 at h
                     rw [if_pos hr5] at h
                     obtain ⟨-, -, -, -, y5, -⟩ := id P5
                     exact h _ _ (CM_put hs P5 (fun z => absurd z (by rw [hr5]; decide)) (fun _ => (N.2.2.2 hr5).1)) (FrM_t e1 (FrM_t (FrM_w (by omega)) (FrM_P y5))) (anM_v (by rw [y5 21 25 (by omega) (by omega), wr_n _ _ (by omega)]; exact e2)))
                  | (exfalso; omega)
                  | (have q9 := e1 (by omega)
                     rw [pI_0 (show ¬ TG (aF A) d nm = 0 by omega), pI_0 (badR_n q9.2.1 q9.2.2), pI_1 (by rw [if_pos (by decide)] at hrm; exact hrm)] at h
                     exact h _ _ (CM_25 C6) (FrM_t F6b (FrM_w (by omega))) (anM_x 2 rfl (wr_s _ _ _ _)))
                  | (have q9 := e2 (by omega)
                     by_cases ct : TG (aF A) d nm = 0
                     · rw [pI_1 ct] at h
                       exact h _ _ (CM_25 e3) (FrM_t e4 (FrM_w (by omega))) (anM_x 2 rfl (wr_s _ _ _ _))
                     · rw [pI_0 ct, pI_1 (q9.elim (fun z => absurd z ct) (fun z => z.elim badR_1 badR_2))] at h
                       exact h _ _ (CM_25 e3) (FrM_t e4 (FrM_w (by omega))) (anM_x 2 rfl (wr_s _ _ _ _)))
                  | (rw [pI_on (by omega), pI_0 (fun z => z hdir9), pI_0 (fun z => z hdr29), pI_0 (fun z => z hnm9), pI_1 hnm29] at h
                     exact h _ _ (CM_25 C2) (FrM_t F2 (FrM_w (by omega))) (anM_x 1 rfl (wr_s _ _ _ _)))
                  | (rw [pI_on (by omega), pI_0 (fun z => z hdir9), pI_0 (fun z => z hdr29), pI_1 hnm9] at h
                     exact h _ _ (CM_25 C2) (FrM_t F2 (FrM_w (by omega))) (anM_x 1 rfl (wr_s _ _ _ _)))
                  | (rw [pI_on (by omega), pI_0 (fun z => z hdir9), pI_1 hdr29] at h
                     exact h _ _ (CM_25 C2) (FrM_t F2 (FrM_w (by omega))) (anM_x 0 rfl (wr_s _ _ _ _)))
                  | (rw [pI_on (by omega), pI_1 hdir9] at h
                     exact h _ _ (CM_25 C1) (FrM_t F1 (FrM_w (by omega))) (anM_x 0 rfl (wr_s _ _ _ _)))
                  | (rw [pI_1 (show dk A by show fD (aF A) = 1; omega)] at h
                     exact h _ _ (CM_25 hC) (FrM_w (by omega)) (anM_x 2 rfl (wr_s _ _ _ _)))
            · skip
              refine wq_sub1 (L' := [(0, _), (1, _), (2, _), (3, _), (4, _)]) ⟨rfl, rfl, rfl, rfl, rfl, trivial⟩ ?_
              first
                | (exfalso; omega)
                | exact cut25 _ (CM_25 C2) (FrM_t F2 (FrM_w (by omega))) (wr_s _ _ _ _) (by omega) hdir9 hdr29 hnm9 hnm29
        · skip
          refine kr_s ?_
          have hnm9 := hnm
          refine wq_if_eq (pc := 39) (tgt := 50) dX7_rename_39 (by decide) (by first | (unfold inR; omega) | assumption) (fun _ => ?_) (fun c => absurd c (by decide))
          refine wq_iconst (pc := 50) dX7_rename_50 ?_
          refine wq_goto (pc := 51) (tgt := 55) dX7_rename_51 (by decide) ?_
          refine wq_putIK (pc := 55) (kk := 25) dX7_rename_55 hs (gf_X7_127 _ rfl) rfl rfl rfl rfl rfl ?_
          refine wq_aload_n (pc := 58) dX7_rename_58 rfl rfl ?_
          refine wq_getIK (pc := 59) (kk := 25) dX7_rename_59 hs (gf_X7_127 _ rfl) rfl rfl rfl rfl ?_
          try rw [wr_s]
          refine wq_if_ne (pc := 62) (tgt := 176) dX7_rename_62 (by decide) (by first | (unfold inR; omega) | assumption) (fun c68 => ?_) (fun c68 => ?_)
          · skip
            refine wq_aload_n (pc := 176) dX7_rename_176 rfl rfl ?_
            refine wq_getIK (pc := 177) (kk := 25) dX7_rename_177 hs (gf_X7_127 _ rfl) rfl rfl rfl rfl ?_
            try rw [wr_s]
            refine wq_if_le (pc := 180) (tgt := 185) dX7_rename_180 (by decide) (by first | (unfold inR; omega) | assumption) (fun c69 => ?_) (fun c69 => ?_)
            · skip
              refine wq_sub1 (L' := [(0, _), (1, _), (2, _), (3, _), (4, _), (5, _)]) ⟨rfl, rfl, rfl, rfl, rfl, rfl, trivial⟩ ?_
              first
                | (exfalso; omega)
                | exact cut1 _ _ (CM_25 C6) (FrM_t F6b (FrM_w (by omega))) (wr_s _ _ _ _) hd hdir hdr2 hnm hnm2 (by have q9 := (e1 (by omega)).1; omega) (badR_n (e1 (by omega)).2.1 (e1 (by omega)).2.2) (by rw [if_pos (by decide)] at hrm; exact hrm)
            · skip
              refine wq_iconst (pc := 183) dX7_rename_183 ?_
              refine wq_iret (pc := 184) dX7_rename_184 rfl ?_
              first
                | (unfold actRename1 actRename2 at h
                   rw [if_neg (by rw [hr5]; decide), if_neg (by rw [hr6]; decide)] at h
                   obtain ⟨-, -, -, -, y6, -⟩ := id P6
                   rw [show v / 2 = TG (aF A) d nm by omega]
                   exact h _ _ (CM_put hs P6 (fun _ => ⟨by rw [wr_n _ _ (by omega), y5 21 22 (by omega) (by omega), wr_n _ _ (by omega)]; exact h22, fun n n0 n1 => ⟨by rw [wr_n _ _ (by omega), y5 39 n (by omega) (by omega), wr_n _ _ (by omega)]; exact (h39 n n0 n1).1, bump_wr (V := bump (aN A) d2) hbq n n0 n1⟩⟩) (fun z => absurd z (by rw [hr6]; decide))) (FrM_t (FrM_t e1 (FrM_t (FrM_w (by omega)) (FrM_P y5))) (FrM_t (FrM_w (by omega)) (FrM_P y6))) (anM_v (by rw [y6 21 25 (by omega) (by omega), wr_n _ _ (by omega), y5 21 25 (by omega) (by omega), wr_n _ _ (by omega)]; exact e2)))
                | (unfold actRename1 actRename2 at h
                   rw [if_neg (by rw [hr5]; decide), if_pos hr6] at h
                   obtain ⟨-, -, -, -, y6, -⟩ := id P6
                   exact h _ _ (CM_put hs P6 (fun z => absurd z (by rw [hr6]; decide)) (fun _ => (M.2.2.2 hr6).1)) (FrM_t (FrM_t e1 (FrM_t (FrM_w (by omega)) (FrM_P y5))) (FrM_t (FrM_w (by omega)) (FrM_P y6))) (anM_v (by rw [y6 21 25 (by omega) (by omega), wr_n _ _ (by omega), y5 21 25 (by omega) (by omega), wr_n _ _ (by omega)]; exact e2)))
                | (unfold actRename1 at h
                   rw [if_pos hr5] at h
                   obtain ⟨-, -, -, -, y5, -⟩ := id P5
                   exact h _ _ (CM_put hs P5 (fun z => absurd z (by rw [hr5]; decide)) (fun _ => (N.2.2.2 hr5).1)) (FrM_t e1 (FrM_t (FrM_w (by omega)) (FrM_P y5))) (anM_v (by rw [y5 21 25 (by omega) (by omega), wr_n _ _ (by omega)]; exact e2)))
                | (exfalso; omega)
                | (have q9 := e1 (by omega)
                   rw [pI_0 (show ¬ TG (aF A) d nm = 0 by omega), pI_0 (badR_n q9.2.1 q9.2.2), pI_1 (by rw [if_pos (by decide)] at hrm; exact hrm)] at h
                   exact h _ _ (CM_25 C6) (FrM_t F6b (FrM_w (by omega))) (anM_x 2 rfl (wr_s _ _ _ _)))
                | (have q9 := e2 (by omega)
                   by_cases ct : TG (aF A) d nm = 0
                   · rw [pI_1 ct] at h
                     exact h _ _ (CM_25 e3) (FrM_t e4 (FrM_w (by omega))) (anM_x 2 rfl (wr_s _ _ _ _))
                   · rw [pI_0 ct, pI_1 (q9.elim (fun z => absurd z ct) (fun z => z.elim badR_1 badR_2))] at h
                     exact h _ _ (CM_25 e3) (FrM_t e4 (FrM_w (by omega))) (anM_x 2 rfl (wr_s _ _ _ _)))
                | (rw [pI_on (by omega), pI_0 (fun z => z hdir9), pI_0 (fun z => z hdr29), pI_0 (fun z => z hnm9), pI_1 hnm29] at h
                   exact h _ _ (CM_25 C2) (FrM_t F2 (FrM_w (by omega))) (anM_x 1 rfl (wr_s _ _ _ _)))
                | (rw [pI_on (by omega), pI_0 (fun z => z hdir9), pI_0 (fun z => z hdr29), pI_1 hnm9] at h
                   exact h _ _ (CM_25 C2) (FrM_t F2 (FrM_w (by omega))) (anM_x 1 rfl (wr_s _ _ _ _)))
                | (rw [pI_on (by omega), pI_0 (fun z => z hdir9), pI_1 hdr29] at h
                   exact h _ _ (CM_25 C2) (FrM_t F2 (FrM_w (by omega))) (anM_x 0 rfl (wr_s _ _ _ _)))
                | (rw [pI_on (by omega), pI_1 hdir9] at h
                   exact h _ _ (CM_25 C1) (FrM_t F1 (FrM_w (by omega))) (anM_x 0 rfl (wr_s _ _ _ _)))
                | (rw [pI_1 (show dk A by show fD (aF A) = 1; omega)] at h
                   exact h _ _ (CM_25 hC) (FrM_w (by omega)) (anM_x 2 rfl (wr_s _ _ _ _)))
          · skip
            refine wq_sub1 (L' := [(0, _), (1, _), (2, _), (3, _), (4, _)]) ⟨rfl, rfl, rfl, rfl, rfl, trivial⟩ ?_
            first
              | (exfalso; omega)
              | exact cut25 _ (CM_25 C2) (FrM_t F2 (FrM_w (by omega))) (wr_s _ _ _ _) (by omega) hdir9 hdr29 hnm9 hnm29
      · skip
        refine kr_s ?_
        have hdr29 := hdr2
        have C2 := CM_Y C1 K2.1 Y2
        have F2 := FrM_t F1 (FrM_Y Y2)
        refine wq_if_ne (pc := 28) (tgt := 35) dX7_rename_28 (by decide) (by first | (unfold inR; omega) | assumption) (fun c => absurd c (by decide)) (fun _ => ?_)
        refine wq_iconst (pc := 31) dX7_rename_31 ?_
        refine wq_goto (pc := 32) (tgt := 55) dX7_rename_32 (by decide) ?_
        refine wq_putIK (pc := 55) (kk := 25) dX7_rename_55 hs (gf_X7_127 _ rfl) rfl rfl rfl rfl rfl ?_
        refine wq_aload_n (pc := 58) dX7_rename_58 rfl rfl ?_
        refine wq_getIK (pc := 59) (kk := 25) dX7_rename_59 hs (gf_X7_127 _ rfl) rfl rfl rfl rfl ?_
        try rw [wr_s]
        refine wq_if_ne (pc := 62) (tgt := 176) dX7_rename_62 (by decide) (by first | (unfold inR; omega) | assumption) (fun c71 => ?_) (fun c71 => ?_)
        · skip
          refine wq_aload_n (pc := 176) dX7_rename_176 rfl rfl ?_
          refine wq_getIK (pc := 177) (kk := 25) dX7_rename_177 hs (gf_X7_127 _ rfl) rfl rfl rfl rfl ?_
          try rw [wr_s]
          refine wq_if_le (pc := 180) (tgt := 185) dX7_rename_180 (by decide) (by first | (unfold inR; omega) | assumption) (fun c72 => ?_) (fun c72 => ?_)
          · skip
            refine wq_sub1 (L' := [(0, _), (1, _), (2, _), (3, _), (4, _), (5, _)]) ⟨rfl, rfl, rfl, rfl, rfl, rfl, trivial⟩ ?_
            first
              | (exfalso; omega)
              | exact cut1 _ _ (CM_25 C6) (FrM_t F6b (FrM_w (by omega))) (wr_s _ _ _ _) hd hdir hdr2 hnm hnm2 (by have q9 := (e1 (by omega)).1; omega) (badR_n (e1 (by omega)).2.1 (e1 (by omega)).2.2) (by rw [if_pos (by decide)] at hrm; exact hrm)
          · skip
            refine wq_iconst (pc := 183) dX7_rename_183 ?_
            refine wq_iret (pc := 184) dX7_rename_184 rfl ?_
            first
              | (unfold actRename1 actRename2 at h
                 rw [if_neg (by rw [hr5]; decide), if_neg (by rw [hr6]; decide)] at h
                 obtain ⟨-, -, -, -, y6, -⟩ := id P6
                 rw [show v / 2 = TG (aF A) d nm by omega]
                 exact h _ _ (CM_put hs P6 (fun _ => ⟨by rw [wr_n _ _ (by omega), y5 21 22 (by omega) (by omega), wr_n _ _ (by omega)]; exact h22, fun n n0 n1 => ⟨by rw [wr_n _ _ (by omega), y5 39 n (by omega) (by omega), wr_n _ _ (by omega)]; exact (h39 n n0 n1).1, bump_wr (V := bump (aN A) d2) hbq n n0 n1⟩⟩) (fun z => absurd z (by rw [hr6]; decide))) (FrM_t (FrM_t e1 (FrM_t (FrM_w (by omega)) (FrM_P y5))) (FrM_t (FrM_w (by omega)) (FrM_P y6))) (anM_v (by rw [y6 21 25 (by omega) (by omega), wr_n _ _ (by omega), y5 21 25 (by omega) (by omega), wr_n _ _ (by omega)]; exact e2)))
              | (unfold actRename1 actRename2 at h
                 rw [if_neg (by rw [hr5]; decide), if_pos hr6] at h
                 obtain ⟨-, -, -, -, y6, -⟩ := id P6
                 exact h _ _ (CM_put hs P6 (fun z => absurd z (by rw [hr6]; decide)) (fun _ => (M.2.2.2 hr6).1)) (FrM_t (FrM_t e1 (FrM_t (FrM_w (by omega)) (FrM_P y5))) (FrM_t (FrM_w (by omega)) (FrM_P y6))) (anM_v (by rw [y6 21 25 (by omega) (by omega), wr_n _ _ (by omega), y5 21 25 (by omega) (by omega), wr_n _ _ (by omega)]; exact e2)))
              | (unfold actRename1 at h
                 rw [if_pos hr5] at h
                 obtain ⟨-, -, -, -, y5, -⟩ := id P5
                 exact h _ _ (CM_put hs P5 (fun z => absurd z (by rw [hr5]; decide)) (fun _ => (N.2.2.2 hr5).1)) (FrM_t e1 (FrM_t (FrM_w (by omega)) (FrM_P y5))) (anM_v (by rw [y5 21 25 (by omega) (by omega), wr_n _ _ (by omega)]; exact e2)))
              | (exfalso; omega)
              | (have q9 := e1 (by omega)
                 rw [pI_0 (show ¬ TG (aF A) d nm = 0 by omega), pI_0 (badR_n q9.2.1 q9.2.2), pI_1 (by rw [if_pos (by decide)] at hrm; exact hrm)] at h
                 exact h _ _ (CM_25 C6) (FrM_t F6b (FrM_w (by omega))) (anM_x 2 rfl (wr_s _ _ _ _)))
              | (have q9 := e2 (by omega)
                 by_cases ct : TG (aF A) d nm = 0
                 · rw [pI_1 ct] at h
                   exact h _ _ (CM_25 e3) (FrM_t e4 (FrM_w (by omega))) (anM_x 2 rfl (wr_s _ _ _ _))
                 · rw [pI_0 ct, pI_1 (q9.elim (fun z => absurd z ct) (fun z => z.elim badR_1 badR_2))] at h
                   exact h _ _ (CM_25 e3) (FrM_t e4 (FrM_w (by omega))) (anM_x 2 rfl (wr_s _ _ _ _)))
              | (rw [pI_on (by omega), pI_0 (fun z => z hdir9), pI_0 (fun z => z hdr29), pI_0 (fun z => z hnm9), pI_1 hnm29] at h
                 exact h _ _ (CM_25 C2) (FrM_t F2 (FrM_w (by omega))) (anM_x 1 rfl (wr_s _ _ _ _)))
              | (rw [pI_on (by omega), pI_0 (fun z => z hdir9), pI_0 (fun z => z hdr29), pI_1 hnm9] at h
                 exact h _ _ (CM_25 C2) (FrM_t F2 (FrM_w (by omega))) (anM_x 1 rfl (wr_s _ _ _ _)))
              | (rw [pI_on (by omega), pI_0 (fun z => z hdir9), pI_1 hdr29] at h
                 exact h _ _ (CM_25 C2) (FrM_t F2 (FrM_w (by omega))) (anM_x 0 rfl (wr_s _ _ _ _)))
              | (rw [pI_on (by omega), pI_1 hdir9] at h
                 exact h _ _ (CM_25 C1) (FrM_t F1 (FrM_w (by omega))) (anM_x 0 rfl (wr_s _ _ _ _)))
              | (rw [pI_1 (show dk A by show fD (aF A) = 1; omega)] at h
                 exact h _ _ (CM_25 hC) (FrM_w (by omega)) (anM_x 2 rfl (wr_s _ _ _ _)))
        · skip
          refine wq_sub1 (L' := [(0, _), (1, _), (2, _), (3, _), (4, _)]) ⟨rfl, rfl, rfl, rfl, rfl, trivial⟩ ?_
          first
            | (exfalso; omega)
            | exact cut25 _ (CM_25 C2) (FrM_t F2 (FrM_w (by omega))) (wr_s _ _ _ _) (by omega) hdir9 hdr29 hnm9 hnm29
    · skip
      refine kr_s ?_
      have hdir9 := hdir
      have C1 := CM_Y hC K1.1 Y1
      have F1 := FrM_Y Y1
      refine wq_if_eq (pc := 20) (tgt := 31) dX7_rename_20 (by decide) (by first | (unfold inR; omega) | assumption) (fun _ => ?_) (fun c => absurd c (by decide))
      refine wq_iconst (pc := 31) dX7_rename_31 ?_
      refine wq_goto (pc := 32) (tgt := 55) dX7_rename_32 (by decide) ?_
      refine wq_putIK (pc := 55) (kk := 25) dX7_rename_55 hs (gf_X7_127 _ rfl) rfl rfl rfl rfl rfl ?_
      refine wq_aload_n (pc := 58) dX7_rename_58 rfl rfl ?_
      refine wq_getIK (pc := 59) (kk := 25) dX7_rename_59 hs (gf_X7_127 _ rfl) rfl rfl rfl rfl ?_
      try rw [wr_s]
      refine wq_if_ne (pc := 62) (tgt := 176) dX7_rename_62 (by decide) (by first | (unfold inR; omega) | assumption) (fun c74 => ?_) (fun c74 => ?_)
      · skip
        refine wq_aload_n (pc := 176) dX7_rename_176 rfl rfl ?_
        refine wq_getIK (pc := 177) (kk := 25) dX7_rename_177 hs (gf_X7_127 _ rfl) rfl rfl rfl rfl ?_
        try rw [wr_s]
        refine wq_if_le (pc := 180) (tgt := 185) dX7_rename_180 (by decide) (by first | (unfold inR; omega) | assumption) (fun c75 => ?_) (fun c75 => ?_)
        · skip
          refine wq_sub1 (L' := [(0, _), (1, _), (2, _), (3, _), (4, _), (5, _)]) ⟨rfl, rfl, rfl, rfl, rfl, rfl, trivial⟩ ?_
          first
            | (exfalso; omega)
            | exact cut1 _ _ (CM_25 C6) (FrM_t F6b (FrM_w (by omega))) (wr_s _ _ _ _) hd hdir hdr2 hnm hnm2 (by have q9 := (e1 (by omega)).1; omega) (badR_n (e1 (by omega)).2.1 (e1 (by omega)).2.2) (by rw [if_pos (by decide)] at hrm; exact hrm)
        · skip
          refine wq_iconst (pc := 183) dX7_rename_183 ?_
          refine wq_iret (pc := 184) dX7_rename_184 rfl ?_
          first
            | (unfold actRename1 actRename2 at h
               rw [if_neg (by rw [hr5]; decide), if_neg (by rw [hr6]; decide)] at h
               obtain ⟨-, -, -, -, y6, -⟩ := id P6
               rw [show v / 2 = TG (aF A) d nm by omega]
               exact h _ _ (CM_put hs P6 (fun _ => ⟨by rw [wr_n _ _ (by omega), y5 21 22 (by omega) (by omega), wr_n _ _ (by omega)]; exact h22, fun n n0 n1 => ⟨by rw [wr_n _ _ (by omega), y5 39 n (by omega) (by omega), wr_n _ _ (by omega)]; exact (h39 n n0 n1).1, bump_wr (V := bump (aN A) d2) hbq n n0 n1⟩⟩) (fun z => absurd z (by rw [hr6]; decide))) (FrM_t (FrM_t e1 (FrM_t (FrM_w (by omega)) (FrM_P y5))) (FrM_t (FrM_w (by omega)) (FrM_P y6))) (anM_v (by rw [y6 21 25 (by omega) (by omega), wr_n _ _ (by omega), y5 21 25 (by omega) (by omega), wr_n _ _ (by omega)]; exact e2)))
            | (unfold actRename1 actRename2 at h
               rw [if_neg (by rw [hr5]; decide), if_pos hr6] at h
               obtain ⟨-, -, -, -, y6, -⟩ := id P6
               exact h _ _ (CM_put hs P6 (fun z => absurd z (by rw [hr6]; decide)) (fun _ => (M.2.2.2 hr6).1)) (FrM_t (FrM_t e1 (FrM_t (FrM_w (by omega)) (FrM_P y5))) (FrM_t (FrM_w (by omega)) (FrM_P y6))) (anM_v (by rw [y6 21 25 (by omega) (by omega), wr_n _ _ (by omega), y5 21 25 (by omega) (by omega), wr_n _ _ (by omega)]; exact e2)))
            | (unfold actRename1 at h
               rw [if_pos hr5] at h
               obtain ⟨-, -, -, -, y5, -⟩ := id P5
               exact h _ _ (CM_put hs P5 (fun z => absurd z (by rw [hr5]; decide)) (fun _ => (N.2.2.2 hr5).1)) (FrM_t e1 (FrM_t (FrM_w (by omega)) (FrM_P y5))) (anM_v (by rw [y5 21 25 (by omega) (by omega), wr_n _ _ (by omega)]; exact e2)))
            | (exfalso; omega)
            | (have q9 := e1 (by omega)
               rw [pI_0 (show ¬ TG (aF A) d nm = 0 by omega), pI_0 (badR_n q9.2.1 q9.2.2), pI_1 (by rw [if_pos (by decide)] at hrm; exact hrm)] at h
               exact h _ _ (CM_25 C6) (FrM_t F6b (FrM_w (by omega))) (anM_x 2 rfl (wr_s _ _ _ _)))
            | (have q9 := e2 (by omega)
               by_cases ct : TG (aF A) d nm = 0
               · rw [pI_1 ct] at h
                 exact h _ _ (CM_25 e3) (FrM_t e4 (FrM_w (by omega))) (anM_x 2 rfl (wr_s _ _ _ _))
               · rw [pI_0 ct, pI_1 (q9.elim (fun z => absurd z ct) (fun z => z.elim badR_1 badR_2))] at h
                 exact h _ _ (CM_25 e3) (FrM_t e4 (FrM_w (by omega))) (anM_x 2 rfl (wr_s _ _ _ _)))
            | (rw [pI_on (by omega), pI_0 (fun z => z hdir9), pI_0 (fun z => z hdr29), pI_0 (fun z => z hnm9), pI_1 hnm29] at h
               exact h _ _ (CM_25 C2) (FrM_t F2 (FrM_w (by omega))) (anM_x 1 rfl (wr_s _ _ _ _)))
            | (rw [pI_on (by omega), pI_0 (fun z => z hdir9), pI_0 (fun z => z hdr29), pI_1 hnm9] at h
               exact h _ _ (CM_25 C2) (FrM_t F2 (FrM_w (by omega))) (anM_x 1 rfl (wr_s _ _ _ _)))
            | (rw [pI_on (by omega), pI_0 (fun z => z hdir9), pI_1 hdr29] at h
               exact h _ _ (CM_25 C2) (FrM_t F2 (FrM_w (by omega))) (anM_x 0 rfl (wr_s _ _ _ _)))
            | (rw [pI_on (by omega), pI_1 hdir9] at h
               exact h _ _ (CM_25 C1) (FrM_t F1 (FrM_w (by omega))) (anM_x 0 rfl (wr_s _ _ _ _)))
            | (rw [pI_1 (show dk A by show fD (aF A) = 1; omega)] at h
               exact h _ _ (CM_25 hC) (FrM_w (by omega)) (anM_x 2 rfl (wr_s _ _ _ _)))
      · skip
        refine wq_sub1 (L' := [(0, _), (1, _), (2, _), (3, _), (4, _)]) ⟨rfl, rfl, rfl, rfl, rfl, trivial⟩ ?_
        first
          | (exfalso; omega)
          | exact cut25 _ (CM_25 C2) (FrM_t F2 (FrM_w (by omega))) (wr_s _ _ _ _) (by omega) hdir9 hdr29 hnm9 hnm29
  · skip
    refine wq_iconst (pc := 11) dX7_rename_11 ?_
    refine wq_goto (pc := 12) (tgt := 55) dX7_rename_12 (by decide) ?_
    refine wq_putIK (pc := 55) (kk := 25) dX7_rename_55 hs (gf_X7_127 _ rfl) rfl rfl rfl rfl rfl ?_
    refine wq_aload_n (pc := 58) dX7_rename_58 rfl rfl ?_
    refine wq_getIK (pc := 59) (kk := 25) dX7_rename_59 hs (gf_X7_127 _ rfl) rfl rfl rfl rfl ?_
    try rw [wr_s]
    refine wq_if_ne (pc := 62) (tgt := 176) dX7_rename_62 (by decide) (by first | (unfold inR; omega) | assumption) (fun c76 => ?_) (fun c76 => ?_)
    · skip
      refine wq_aload_n (pc := 176) dX7_rename_176 rfl rfl ?_
      refine wq_getIK (pc := 177) (kk := 25) dX7_rename_177 hs (gf_X7_127 _ rfl) rfl rfl rfl rfl ?_
      try rw [wr_s]
      refine wq_if_le (pc := 180) (tgt := 185) dX7_rename_180 (by decide) (by first | (unfold inR; omega) | assumption) (fun c77 => ?_) (fun c77 => ?_)
      · skip
        refine wq_sub1 (L' := [(0, _), (1, _), (2, _), (3, _), (4, _), (5, _)]) ⟨rfl, rfl, rfl, rfl, rfl, rfl, trivial⟩ ?_
        first
          | (exfalso; omega)
          | exact cut1 _ _ (CM_25 C6) (FrM_t F6b (FrM_w (by omega))) (wr_s _ _ _ _) hd hdir hdr2 hnm hnm2 (by have q9 := (e1 (by omega)).1; omega) (badR_n (e1 (by omega)).2.1 (e1 (by omega)).2.2) (by rw [if_pos (by decide)] at hrm; exact hrm)
      · skip
        refine wq_iconst (pc := 183) dX7_rename_183 ?_
        refine wq_iret (pc := 184) dX7_rename_184 rfl ?_
        first
          | (unfold actRename1 actRename2 at h
             rw [if_neg (by rw [hr5]; decide), if_neg (by rw [hr6]; decide)] at h
             obtain ⟨-, -, -, -, y6, -⟩ := id P6
             rw [show v / 2 = TG (aF A) d nm by omega]
             exact h _ _ (CM_put hs P6 (fun _ => ⟨by rw [wr_n _ _ (by omega), y5 21 22 (by omega) (by omega), wr_n _ _ (by omega)]; exact h22, fun n n0 n1 => ⟨by rw [wr_n _ _ (by omega), y5 39 n (by omega) (by omega), wr_n _ _ (by omega)]; exact (h39 n n0 n1).1, bump_wr (V := bump (aN A) d2) hbq n n0 n1⟩⟩) (fun z => absurd z (by rw [hr6]; decide))) (FrM_t (FrM_t e1 (FrM_t (FrM_w (by omega)) (FrM_P y5))) (FrM_t (FrM_w (by omega)) (FrM_P y6))) (anM_v (by rw [y6 21 25 (by omega) (by omega), wr_n _ _ (by omega), y5 21 25 (by omega) (by omega), wr_n _ _ (by omega)]; exact e2)))
          | (unfold actRename1 actRename2 at h
             rw [if_neg (by rw [hr5]; decide), if_pos hr6] at h
             obtain ⟨-, -, -, -, y6, -⟩ := id P6
             exact h _ _ (CM_put hs P6 (fun z => absurd z (by rw [hr6]; decide)) (fun _ => (M.2.2.2 hr6).1)) (FrM_t (FrM_t e1 (FrM_t (FrM_w (by omega)) (FrM_P y5))) (FrM_t (FrM_w (by omega)) (FrM_P y6))) (anM_v (by rw [y6 21 25 (by omega) (by omega), wr_n _ _ (by omega), y5 21 25 (by omega) (by omega), wr_n _ _ (by omega)]; exact e2)))
          | (unfold actRename1 at h
             rw [if_pos hr5] at h
             obtain ⟨-, -, -, -, y5, -⟩ := id P5
             exact h _ _ (CM_put hs P5 (fun z => absurd z (by rw [hr5]; decide)) (fun _ => (N.2.2.2 hr5).1)) (FrM_t e1 (FrM_t (FrM_w (by omega)) (FrM_P y5))) (anM_v (by rw [y5 21 25 (by omega) (by omega), wr_n _ _ (by omega)]; exact e2)))
          | (exfalso; omega)
          | (have q9 := e1 (by omega)
             rw [pI_0 (show ¬ TG (aF A) d nm = 0 by omega), pI_0 (badR_n q9.2.1 q9.2.2), pI_1 (by rw [if_pos (by decide)] at hrm; exact hrm)] at h
             exact h _ _ (CM_25 C6) (FrM_t F6b (FrM_w (by omega))) (anM_x 2 rfl (wr_s _ _ _ _)))
          | (have q9 := e2 (by omega)
             by_cases ct : TG (aF A) d nm = 0
             · rw [pI_1 ct] at h
               exact h _ _ (CM_25 e3) (FrM_t e4 (FrM_w (by omega))) (anM_x 2 rfl (wr_s _ _ _ _))
             · rw [pI_0 ct, pI_1 (q9.elim (fun z => absurd z ct) (fun z => z.elim badR_1 badR_2))] at h
               exact h _ _ (CM_25 e3) (FrM_t e4 (FrM_w (by omega))) (anM_x 2 rfl (wr_s _ _ _ _)))
          | (rw [pI_on (by omega), pI_0 (fun z => z hdir9), pI_0 (fun z => z hdr29), pI_0 (fun z => z hnm9), pI_1 hnm29] at h
             exact h _ _ (CM_25 C2) (FrM_t F2 (FrM_w (by omega))) (anM_x 1 rfl (wr_s _ _ _ _)))
          | (rw [pI_on (by omega), pI_0 (fun z => z hdir9), pI_0 (fun z => z hdr29), pI_1 hnm9] at h
             exact h _ _ (CM_25 C2) (FrM_t F2 (FrM_w (by omega))) (anM_x 1 rfl (wr_s _ _ _ _)))
          | (rw [pI_on (by omega), pI_0 (fun z => z hdir9), pI_1 hdr29] at h
             exact h _ _ (CM_25 C2) (FrM_t F2 (FrM_w (by omega))) (anM_x 0 rfl (wr_s _ _ _ _)))
          | (rw [pI_on (by omega), pI_1 hdir9] at h
             exact h _ _ (CM_25 C1) (FrM_t F1 (FrM_w (by omega))) (anM_x 0 rfl (wr_s _ _ _ _)))
          | (rw [pI_1 (show dk A by show fD (aF A) = 1; omega)] at h
             exact h _ _ (CM_25 hC) (FrM_w (by omega)) (anM_x 2 rfl (wr_s _ _ _ _)))
    · skip
      refine wq_sub1 (L' := [(0, _), (1, _), (2, _), (3, _), (4, _)]) ⟨rfl, rfl, rfl, rfl, rfl, trivial⟩ ?_
      first
        | (exfalso; omega)
        | exact cut25 _ (CM_25 C2) (FrM_t F2 (FrM_w (by omega))) (wr_s _ _ _ _) (by omega) hdir9 hdr29 hnm9 hnm29
