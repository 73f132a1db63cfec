theorem nAtB_in {μ : nMem} {b p : Int} (h0 : 0 ≤ b ∧ b < 8) (h1 : 0 ≤ p ∧ p < 16) : nAtB μ b p = nRow μ (b * 16 + p) := by
  unfold nAtB; rw [if_pos ⟨h0.1, h0.2, h1.1, h1.2⟩]
noncomputable def jDd (F : Fl) (S : Tr) (i : Int) : Int := @ite Int (jDead F F S i) (Classical.propDecidable _) (fN F i 2) 0
theorem jDd_1 {F : Fl} {S : Tr} {i : Int} (h : jDead F F S i) : jDd F S i = fN F i 2 := if_pos h
theorem jDd_0 {F : Fl} {S : Tr} {i : Int} (h : ¬ jDead F F S i) : jDd F S i = 0 := if_neg h
/-- the dead units among the first nodes of a block -/
noncomputable def jSum (F : Fl) (S : Tr) (b : Int) : Nat → Int
  | 0 => 0
  | n + 1 => jSum F S b n + jDd F S (b * 16 + n)
theorem jSum_s (F : Fl) (S : Tr) (b : Int) (n : Nat) : jSum F S b (n + 1) = jSum F S b n + jDd F S (b * 16 + n) := rfl
abbrev jSm (F : Fl) (i : Int) : Prop := fN F i 0 = 3 ∧ fN F i 2 = fN F i 1
def jAl (F : Fl) (b : Int) : Nat → Int
  | 0 => 0
  | n + 1 => jAl F b n + (if jSm F (b * 16 + n) then 0 else fN F (b * 16 + n) 2)
theorem jAl_s (F : Fl) (b : Int) (n : Nat) : jAl F b (n + 1) = jAl F b n + (if jSm F (b * 16 + n) then 0 else fN F (b * 16 + n) 2) := rfl
noncomputable def jDo (F : Fl) (S : Tr) (b : Int) : Nat → Int
  | 0 => 0
  | n + 1 => jDo F S b n + (if jSm F (b * 16 + n) then 0 else jDd F S (b * 16 + n))
theorem jDo_s (F : Fl) (S : Tr) (b : Int) (n : Nat) : jDo F S b (n + 1) = jDo F S b n + (if jSm F (b * 16 + n) then 0 else jDd F S (b * 16 + n)) := rfl
/-- the state of a closed block -/
noncomputable def jDirt (F : Fl) (S : Tr) (b : Int) : Int := if jDo F S b (fC F b).toNat = 0 then 2 else if jAl F b (fC F b).toNat ≤ jDo F S b (fC F b).toNat * 2 then 4 else 3
theorem sp_X2_dirtOf {μ : nMem} {ε : nEnv} {Q : nOut → nMem → nEnv → Prop} {F : Fl} {S : Tr} {b : Int} (hC : CF F μ ε) (hT : CT S μ ε) (hB : tB S) (hb : 0 ≤ b ∧ b < 8) (hcnt : 0 ≤ fC F b ∧ fC F b ≤ 16) (h : Q (.inl (some (vI (jDirt F S b)))) μ ε) : Sp mX2_dirtOf [vR 17, vI b] μ ε Q := by
  refine Sp_of (L := [(0, vR 17), (1, vI b)]) (by decide) rfl rfl (Nat.le_of_ble_eq_true rfl) ?_
  have hs := hC.1
  have hr := hC.2.1
  have hcn := (hC.2.2.2.2.1 b hb.1 hb.2).2.1
  refine wq_iconst (pc := 0) dX2_dirtOf_0 ?_
  refine wq_istore_n (pc := 1) (L' := [(2, _), (0, _), (1, _)]) dX2_dirtOf_1 rfl rfl (by decide) ?_
  refine wq_iconst (pc := 2) dX2_dirtOf_2 ?_
  refine wq_istore_n (pc := 3) (L' := [(3, _), (2, _), (0, _), (1, _)]) dX2_dirtOf_3 rfl rfl (by decide) ?_
  refine wq_iconst (pc := 4) dX2_dirtOf_4 ?_
  refine wq_istore (pc := 5) (L' := [(4, _), (3, _), (2, _), (0, _), (1, _)]) dX2_dirtOf_5 rfl (by decide) ?_
  have loop1 : ∀ (n k : Nat), ∀ (i u w : Int), k ≤ (fC F b).toNat → (fC F b).toNat < k + n → i = (k : Int) → u = jDo F S b k → w = jAl F b k → 0 ≤ u ∧ u ≤ 20 * k → 0 ≤ w ∧ w ≤ 20 * k → wp mX2_dirtOf 7 [(0, vR 17), (1, vI b), (2, vI u), (3, vI w), (4, vI i)] [] μ ε Q := by
    intro n
    induction n with
    | zero => intro k i u w hk1 hk2 e0 e1 e2 e3 e4; exact absurd hk2 (by omega)
    | succ n ih =>
      intro k i u w hk1 hk2 e0 e1 e2 e3 e4
      subst e0
      refine wq_iload (pc := 7) dX2_dirtOf_7 rfl ?_
      refine wq_aload_n (pc := 9) dX2_dirtOf_9 rfl rfl ?_
      refine wq_getS (pc := 10) dX2_dirtOf_10 hs (gf_X2_22 _ rfl) rfl rfl rfl rfl rfl ?_
      refine wq_iload_n (pc := 13) dX2_dirtOf_13 rfl rfl ?_
      refine cVK_1 (pc := 14) dX2_dirtOf_14 hs (cw_X2_78 _ rfl) (by decide) rfl ⟨by decide, by decide⟩ (Nat.le_of_ble_eq_true rfl) (sq_X0_countOf hs hb ?_)
      refine kr_s ?_
      rw [hcn]
      refine wq_icmp_ge (pc := 17) (tgt := 84) dX2_dirtOf_17 (by decide) (by first | (unfold inR; omega) | assumption) (by first | (unfold inR; omega) | assumption) (fun c2 => ?_) (fun c2 => ?_)
      · skip
        refine wq_iload_n (pc := 84) dX2_dirtOf_84 rfl rfl ?_
        refine wq_if_ne (pc := 85) (tgt := 90) dX2_dirtOf_85 (by decide) (by first | (unfold inR; omega) | assumption) (fun c3 => ?_) (fun c3 => ?_)
        · skip
          refine wq_iload_n (pc := 90) dX2_dirtOf_90 rfl rfl ?_
          refine wq_iconst (pc := 91) dX2_dirtOf_91 ?_
          refine wq_imul (pc := 92) dX2_dirtOf_92 ?_
          refine wq_iload_n (pc := 93) dX2_dirtOf_93 rfl rfl ?_
          refine wq_icmp_lt (pc := 94) (tgt := 101) dX2_dirtOf_94 (by decide) (by first | (unfold inR; omega) | assumption) (by first | (unfold inR; omega) | assumption) (fun c4 => ?_) (fun c4 => ?_)
          · skip
            refine wq_iconst (pc := 101) dX2_dirtOf_101 ?_
            refine wq_iret (pc := 102) dX2_dirtOf_102 rfl ?_
            unfold jDirt at h
            rw [show (fC F b).toNat = k by omega, ← e1, ← e2] at h
            first
              | (rw [if_pos (by omega)] at h; exact h)
              | (rw [if_neg (by omega), if_pos (by omega)] at h; exact h)
              | (rw [if_neg (by omega), if_neg (by omega)] at h; exact h)
          · skip
            refine wq_iconst (pc := 97) dX2_dirtOf_97 ?_
            refine wq_goto (pc := 98) (tgt := 102) dX2_dirtOf_98 (by decide) ?_
            refine wq_iret (pc := 102) dX2_dirtOf_102 rfl ?_
            unfold jDirt at h
            rw [show (fC F b).toNat = k by omega, ← e1, ← e2] at h
            first
              | (rw [if_pos (by omega)] at h; exact h)
              | (rw [if_neg (by omega), if_pos (by omega)] at h; exact h)
              | (rw [if_neg (by omega), if_neg (by omega)] at h; exact h)
        · skip
          refine wq_iconst (pc := 88) dX2_dirtOf_88 ?_
          refine wq_iret (pc := 89) dX2_dirtOf_89 rfl ?_
          unfold jDirt at h
          rw [show (fC F b).toNat = k by omega, ← e1, ← e2] at h
          first
            | (rw [if_pos (by omega)] at h; exact h)
            | (rw [if_neg (by omega), if_pos (by omega)] at h; exact h)
            | (rw [if_neg (by omega), if_neg (by omega)] at h; exact h)
      · skip
        refine wq_aload_n (pc := 20) dX2_dirtOf_20 rfl rfl ?_
        refine wq_getS (pc := 21) dX2_dirtOf_21 hs (gf_X2_22 _ rfl) rfl rfl rfl rfl rfl ?_
        refine wq_iload_n (pc := 24) dX2_dirtOf_24 rfl rfl ?_
        refine wq_iload (pc := 25) dX2_dirtOf_25 rfl ?_
        refine cVK_2 (pc := 27) dX2_dirtOf_27 hs (cw_X2_82 _ rfl) (by decide) rfl ⟨by decide, by decide⟩ (Nat.le_of_ble_eq_true rfl) (sp_X0_at hs (by unfold inR; omega) (by unfold inR; omega) ?_)
        refine kr_s ?_
        rw [nAtB_in hb (by omega)]
        have hkn := nRow_kd hs hr (b * 16 + (k : Int))
        have hnb := nRow_nB hr (b * 16 + (k : Int))
        obtain ⟨ra, -⟩ := CF_row hC (i := b * 16 + (k : Int)) (by omega) (by omega)
        have f0 := ra 0 (by omega) (by omega)
        have f1 := ra 1 (by omega) (by omega)
        have f2 := ra 2 (by omega) (by omega)
        obtain ⟨n0, n1, n2, n3, n4, n5, n6, n9, n10, n11, n12, n13⟩ := id hnb
        refine wq_astore (pc := 30) (L' := [(5, _), (0, _), (1, _), (2, _), (3, _), (4, _)]) dX2_dirtOf_30 rfl (by decide) ?_
        refine wq_aload (pc := 32) dX2_dirtOf_32 rfl ?_
        refine wq_getI (pc := 34) (kk := 0) dX2_dirtOf_34 (gf_X2_34 _ rfl) (by with_reducible assumption) rfl rfl rfl ?_
        refine wq_iconst (pc := 37) dX2_dirtOf_37 ?_
        refine wq_icmp_ne (pc := 38) (tgt := 49) dX2_dirtOf_38 (by decide) (by first | (unfold inR; omega) | assumption) (by first | (unfold inR; omega) | assumption) (fun c5 => ?_) (fun c5 => ?_)
        · skip
          refine wq_iload_n (pc := 49) dX2_dirtOf_49 rfl rfl ?_
          refine wq_aload (pc := 50) dX2_dirtOf_50 rfl ?_
          refine wq_getI (pc := 52) (kk := 2) dX2_dirtOf_52 (gf_X2_89 _ rfl) (by with_reducible assumption) rfl rfl rfl ?_
          refine wq_iadd (pc := 55) dX2_dirtOf_55 ?_
          refine wq_istore_n (pc := 56) (L' := [(3, _), (5, _), (0, _), (1, _), (2, _), (4, _)]) dX2_dirtOf_56 rfl rfl (by decide) ?_
          refine wq_iload_n (pc := 57) dX2_dirtOf_57 rfl rfl ?_
          refine wq_aload_n (pc := 58) dX2_dirtOf_58 rfl rfl ?_
          refine wq_aload (pc := 59) dX2_dirtOf_59 rfl ?_
          refine cVK_1 (pc := 61) dX2_dirtOf_61 hs (cw_X2_86 _ rfl) (by decide) rfl ⟨by decide, by decide⟩ (Nat.le_of_ble_eq_true rfl) (sp_X2_isDead (CFz_of hC) hT hB (i := b * 16 + (k : Int)) (by omega) (by omega) rfl (fun hdd => ?_) (fun hdd => ?_))
          · skip
            refine kr_s ?_
            rw [fHid_0] at hdd
            refine wq_if_eq (pc := 64) (tgt := 75) dX2_dirtOf_64 (by decide) (by first | (unfold inR; omega) | assumption) (fun c => absurd c (by decide)) (fun _ => ?_)
            refine wq_aload (pc := 67) dX2_dirtOf_67 rfl ?_
            refine wq_getI (pc := 69) (kk := 2) dX2_dirtOf_69 (gf_X2_89 _ rfl) (by with_reducible assumption) rfl rfl rfl ?_
            refine wq_goto (pc := 72) (tgt := 76) dX2_dirtOf_72 (by decide) ?_
            refine wq_iadd (pc := 76) dX2_dirtOf_76 ?_
            refine wq_istore_n (pc := 77) (L' := [(2, _), (3, _), (5, _), (0, _), (1, _), (4, _)]) dX2_dirtOf_77 rfl rfl (by decide) ?_
            refine wq_iinc (pc := 78) (L' := [(4, _), (2, _), (3, _), (5, _), (0, _), (1, _)]) dX2_dirtOf_78 rfl rfl (by decide) ?_
            refine wq_goto (pc := 81) (tgt := 7) dX2_dirtOf_81 (by decide) ?_
            refine wq_sub1 (L' := [(0, _), (1, _), (2, _), (3, _), (4, _)]) ⟨rfl, rfl, rfl, rfl, rfl, trivial⟩ ?_
            refine ih (k + 1) _ _ _ (by omega) (by omega) (by omega) ?_ ?_ (by omega) (by omega)
            · rw [jDo_s, ← e1]
              first
                | (rw [if_pos ⟨by omega, by omega⟩]; omega)
                | (rw [if_neg (by omega), jDd_1 hdd]; omega)
                | (rw [if_neg (by omega), jDd_0 hdd] <;> omega)
            · rw [jAl_s, ← e2]
              first
                | (rw [if_pos ⟨by omega, by omega⟩]; omega)
                | (rw [if_neg (by omega)]; omega)
          · skip
            refine kr_s ?_
            rw [fHid_0] at hdd
            refine wq_if_eq (pc := 64) (tgt := 75) dX2_dirtOf_64 (by decide) (by first | (unfold inR; omega) | assumption) (fun _ => ?_) (fun c => absurd c (by decide))
            refine wq_iconst (pc := 75) dX2_dirtOf_75 ?_
            refine wq_iadd (pc := 76) dX2_dirtOf_76 ?_
            refine wq_istore_n (pc := 77) (L' := [(2, _), (3, _), (5, _), (0, _), (1, _), (4, _)]) dX2_dirtOf_77 rfl rfl (by decide) ?_
            refine wq_iinc (pc := 78) (L' := [(4, _), (2, _), (3, _), (5, _), (0, _), (1, _)]) dX2_dirtOf_78 rfl rfl (by decide) ?_
            refine wq_goto (pc := 81) (tgt := 7) dX2_dirtOf_81 (by decide) ?_
            refine wq_sub1 (L' := [(0, _), (1, _), (2, _), (3, _), (4, _)]) ⟨rfl, rfl, rfl, rfl, rfl, trivial⟩ ?_
            refine ih (k + 1) _ _ _ (by omega) (by omega) (by omega) ?_ ?_ (by omega) (by omega)
            · rw [jDo_s, ← e1]
              first
                | (rw [if_pos ⟨by omega, by omega⟩]; omega)
                | (rw [if_neg (by omega), jDd_1 hdd]; omega)
                | (rw [if_neg (by omega), jDd_0 hdd] <;> omega)
            · rw [jAl_s, ← e2]
              first
                | (rw [if_pos ⟨by omega, by omega⟩]; omega)
                | (rw [if_neg (by omega)]; omega)
        · skip
          refine wq_aload (pc := 41) dX2_dirtOf_41 rfl ?_
          refine cV_0 (pc := 43) dX2_dirtOf_43 (cw_X2_70 _ rfl) (by decide) (by with_reducible assumption) ⟨by decide, by decide⟩ (Nat.le_of_ble_eq_true rfl) (sp_X4_isWhole hkn hnb (fun hw => ?_) (fun hw => ?_))
          · skip
            refine kr_s ?_
            refine wq_if_ne (pc := 46) (tgt := 78) dX2_dirtOf_46 (by decide) (by first | (unfold inR; omega) | assumption) (fun _ => ?_) (fun c => absurd c (by decide))
            refine wq_iinc (pc := 78) (L' := [(4, _), (5, _), (0, _), (1, _), (2, _), (3, _)]) dX2_dirtOf_78 rfl rfl (by decide) ?_
            refine wq_goto (pc := 81) (tgt := 7) dX2_dirtOf_81 (by decide) ?_
            refine wq_sub1 (L' := [(0, _), (1, _), (2, _), (3, _), (4, _)]) ⟨rfl, rfl, rfl, rfl, rfl, trivial⟩ ?_
            refine ih (k + 1) _ _ _ (by omega) (by omega) (by omega) ?_ ?_ (by omega) (by omega)
            · rw [jDo_s, ← e1]
              first
                | (rw [if_pos ⟨by omega, by omega⟩]; omega)
                | (rw [if_neg (by omega), jDd_1 hdd]; omega)
                | (rw [if_neg (by omega), jDd_0 hdd] <;> omega)
            · rw [jAl_s, ← e2]
              first
                | (rw [if_pos ⟨by omega, by omega⟩]; omega)
                | (rw [if_neg (by omega)]; omega)
          · skip
            refine kr_s ?_
            refine wq_if_ne (pc := 46) (tgt := 78) dX2_dirtOf_46 (by decide) (by first | (unfold inR; omega) | assumption) (fun c => absurd c (by decide)) (fun _ => ?_)
            refine wq_iload_n (pc := 49) dX2_dirtOf_49 rfl rfl ?_
            refine wq_aload (pc := 50) dX2_dirtOf_50 rfl ?_
            refine wq_getI (pc := 52) (kk := 2) dX2_dirtOf_52 (gf_X2_89 _ rfl) (by with_reducible assumption) rfl rfl rfl ?_
            refine wq_iadd (pc := 55) dX2_dirtOf_55 ?_
            refine wq_istore_n (pc := 56) (L' := [(3, _), (5, _), (0, _), (1, _), (2, _), (4, _)]) dX2_dirtOf_56 rfl rfl (by decide) ?_
            refine wq_iload_n (pc := 57) dX2_dirtOf_57 rfl rfl ?_
            refine wq_aload_n (pc := 58) dX2_dirtOf_58 rfl rfl ?_
            refine wq_aload (pc := 59) dX2_dirtOf_59 rfl ?_
            refine cVK_1 (pc := 61) dX2_dirtOf_61 hs (cw_X2_86 _ rfl) (by decide) rfl ⟨by decide, by decide⟩ (Nat.le_of_ble_eq_true rfl) (sp_X2_isDead (CFz_of hC) hT hB (i := b * 16 + (k : Int)) (by omega) (by omega) rfl (fun hdd => ?_) (fun hdd => ?_))
            · skip
              refine kr_s ?_
              rw [fHid_0] at hdd
              refine wq_if_eq (pc := 64) (tgt := 75) dX2_dirtOf_64 (by decide) (by first | (unfold inR; omega) | assumption) (fun c => absurd c (by decide)) (fun _ => ?_)
              refine wq_aload (pc := 67) dX2_dirtOf_67 rfl ?_
              refine wq_getI (pc := 69) (kk := 2) dX2_dirtOf_69 (gf_X2_89 _ rfl) (by with_reducible assumption) rfl rfl rfl ?_
              refine wq_goto (pc := 72) (tgt := 76) dX2_dirtOf_72 (by decide) ?_
              refine wq_iadd (pc := 76) dX2_dirtOf_76 ?_
              refine wq_istore_n (pc := 77) (L' := [(2, _), (3, _), (5, _), (0, _), (1, _), (4, _)]) dX2_dirtOf_77 rfl rfl (by decide) ?_
              refine wq_iinc (pc := 78) (L' := [(4, _), (2, _), (3, _), (5, _), (0, _), (1, _)]) dX2_dirtOf_78 rfl rfl (by decide) ?_
              refine wq_goto (pc := 81) (tgt := 7) dX2_dirtOf_81 (by decide) ?_
              refine wq_sub1 (L' := [(0, _), (1, _), (2, _), (3, _), (4, _)]) ⟨rfl, rfl, rfl, rfl, rfl, trivial⟩ ?_
              refine ih (k + 1) _ _ _ (by omega) (by omega) (by omega) ?_ ?_ (by omega) (by omega)
              · rw [jDo_s, ← e1]
                first
                  | (rw [if_pos ⟨by omega, by omega⟩]; omega)
                  | (rw [if_neg (by omega), jDd_1 hdd]; omega)
                  | (rw [if_neg (by omega), jDd_0 hdd] <;> omega)
              · rw [jAl_s, ← e2]
                first
                  | (rw [if_pos ⟨by omega, by omega⟩]; omega)
                  | (rw [if_neg (by omega)]; omega)
            · skip
              refine kr_s ?_
              rw [fHid_0] at hdd
              refine wq_if_eq (pc := 64) (tgt := 75) dX2_dirtOf_64 (by decide) (by first | (unfold inR; omega) | assumption) (fun _ => ?_) (fun c => absurd c (by decide))
              refine wq_iconst (pc := 75) dX2_dirtOf_75 ?_
              refine wq_iadd (pc := 76) dX2_dirtOf_76 ?_
              refine wq_istore_n (pc := 77) (L' := [(2, _), (3, _), (5, _), (0, _), (1, _), (4, _)]) dX2_dirtOf_77 rfl rfl (by decide) ?_
              refine wq_iinc (pc := 78) (L' := [(4, _), (2, _), (3, _), (5, _), (0, _), (1, _)]) dX2_dirtOf_78 rfl rfl (by decide) ?_
              refine wq_goto (pc := 81) (tgt := 7) dX2_dirtOf_81 (by decide) ?_
              refine wq_sub1 (L' := [(0, _), (1, _), (2, _), (3, _), (4, _)]) ⟨rfl, rfl, rfl, rfl, rfl, trivial⟩ ?_
              refine ih (k + 1) _ _ _ (by omega) (by omega) (by omega) ?_ ?_ (by omega) (by omega)
              · rw [jDo_s, ← e1]
                first
                  | (rw [if_pos ⟨by omega, by omega⟩]; omega)
                  | (rw [if_neg (by omega), jDd_1 hdd]; omega)
                  | (rw [if_neg (by omega), jDd_0 hdd] <;> omega)
              · rw [jAl_s, ← e2]
                first
                  | (rw [if_pos ⟨by omega, by omega⟩]; omega)
                  | (rw [if_neg (by omega)]; omega)
  refine wq_sub1 (L' := [(0, _), (1, _), (2, _), (3, _), (4, _)]) ⟨rfl, rfl, rfl, rfl, rfl, trivial⟩ ?_
  exact loop1 ((fC F b).toNat + 1) 0 _ _ _ (by omega) (by omega) (by omega) rfl rfl (by omega) (by omega)
