theorem tNext_nl (S : Tr) (v : Int) : tNl (tNext S v) = tNl S := rfl
def rdS (F : Fl) (s : Int) : Nat → Int
  | 0 => 0
  | k + 1 => rdS F s k + uRd F k s
theorem rdS_s (F : Fl) (s : Int) (k : Nat) : rdS F s (k + 1) = rdS F s k + uRd F k s := rfl
noncomputable def actMount2 (A : AS) (v : Int) (F : Fl) (R : Fl × Lg × Bool) : Ans × AS := (.inl (if R.2.2 = false then -9 else v), (R.1, R.2.1, nxF F, vD F, vN F))
noncomputable def actMount (A : AS) (s : Int) : Ans × AS := actMount2 A (rdS (aF A) s 8) (fSetD (aF A) 0) (lBrk (fSetD (aF A) 0) (gOf (fSetD (aF A) 0)) 8)
theorem sameN_R {F F' : Fl} (h : ∀ j k, fN F' j k = fN F j k) : sameR F F' := fun j _ _ => ⟨by unfold rW; rw [h, h, h], fun _ k => h j k⟩
theorem CF_D2 {F : Fl} {g : Lg} {S : Tr} {m : nMem} {ε : nEnv} {v : Int} (h : C6 F g S m ε) : C6 (fSetD F v) g S (wr m 2 6 v) ε ∧ Fr6 m ε (wr m 2 6 v) ε := by
  have hf : FrX (fun x => x = 2) m ε (wr m 2 6 v) ε := FrX_wr rfl (by decide) (by decide)
  have h8 : ∀ x j, x ≠ 2 → wr m 2 6 v x j = m x j := fun x j q => wr_n _ _ (fun z => q z.1)
  exact ⟨⟨CF_D h.1, CL_mem h.2.1 ⟨h8 8 _ (by omega), h8 8 _ (by omega), h8 8 _ (by omega)⟩ (fun j => h8 10 j (by omega)) (fun j => h8 11 j (by omega)), (CT_FrX (X := fun x => x = 2) (fun x hx => by omega) h.2.2 h.1.2.1 hf).1⟩, Fr6_X (fun x hx => by omega) h.1.2.1 hf⟩
/-- behind a mount -/
theorem mount_ok {F : Fl} {nb vb : Int} {R : Fl × Lg × Bool} (hI : IB F nb vb) (hd : fD F = 0) (hnb : nb ≤ 2000) (hv : 0 ≤ vb ∧ vb ≤ 4000) (hR : R = lBrk F (gOf F) 8) : rsOK F ∧ tB (rs F) ∧
    (R.2.2 = true → ∃ fl, IP (R.1, R.2.1, nxF F, vD F, vN F) fl nb vb ∧ TSA (R.1, R.2.1, nxF F, vD F, vN F) fl (rs F)) ∧ (R.2.2 = false → fD R.1 = 1 ∧ IB R.1 nb vb) := by
  obtain ⟨hA, hU, hV, hl, fl, hf, hW⟩ := id hI
  obtain ⟨r1, r2, r3, r4, r5⟩ := rs_ok hA hU hf hW hV hv
  have hZ := gOf_ok hA hl
  obtain ⟨b1, b2, b3, b4, b5⟩ := lBrk_ok hA hZ 8 (Nat.le_refl _)
  rw [← hR] at b1 b2 b3 b4 b5
  have hlen : (tNl (rs F)).length ≤ 129 := by
    have hD := rsD_RIN (PA_NS hA) hW hf (by have := r3.2; omega) 129
    have e : tNl (rs F) = tNl (rsD F 129) := by
      unfold rs
      rw [tNext_nl, rsC_nl]
    rw [e]; exact RIN_len hD.1
  have tb : tB (rs F) := TSW_tB r2 r4 hlen (fun f => LN_b (PA_NS hA) f) (fun n => by
    have := r5 n
    exact ⟨⟨this.1.1, Int.le_trans this.1.2 (by omega)⟩, this.2.1, Int.le_trans this.2.2 (by omega)⟩)
  refine ⟨r1, tb, fun hr => ?_, fun hr => ?_⟩
  · obtain ⟨z1, z2, z3⟩ := b4 hr
    have hPL : PL R.1 R.2.1 := PZ_PL z1 (fun b b0 b1 => z3 b b0 (by omega))
    obtain ⟨n1, n2, n3, n4⟩ := same_N b2
    obtain ⟨t1, t2, t3⟩ := same_told b2
    have eT := (TG_fun t1).1
    refine ⟨fl, ⟨z2.trans hd, b1, n1 hU, hPL, n3 _ _ _ NV_mx, flOK_same b2 hf, ?_, r3, r5, fun n hn => vz hn⟩, ?_⟩
    · show WD (TG R.1) fl (nxF F)
      rw [eT]; exact r4
    · show TSW (TG R.1) fl (LN R.1) (BY R.1) (vD F) (vN F) (nxF F) (rs F)
      rw [eT, funext t2, show BY R.1 = BY F from funext (fun f => funext (fun p => t3 f p))]; exact r2
  · obtain ⟨z1, z2⟩ := b5 hr
    exact ⟨z1, IB_same b2 b1 z2 hI⟩
theorem sp_X6_mount {μ : nMem} {ε : nEnv} {Q : nOut → nMem → nEnv → Prop} {A : AS} {nb vb s : Int} {t : Nat} (hM : MC A nb vb μ ε) (hcap : Cap μ ε (t + 1)) (hnb : nb + 1 ≤ 2000) (hvb : vb + 2 ≤ 4000) (hvb0 : 0 ≤ vb ∧ vb ≤ 4000) (hs01 : s = 0 ∨ s = 1) (h : ∀ μ9 ε9, MC (actMount A s).2 (nb + 1) (vb + 2) μ9 ε9 → Cap μ9 ε9 t → FrN μ ε μ9 ε9 → Q (oc (actMount A s).1) μ9 ε9) : Sp mX6_mount [vR 1, vI s] μ ε Q := by
  refine Sp_of (L := [(0, vR 1), (1, vI s)]) (by decide) rfl rfl (Nat.le_of_ble_eq_true rfl) ?_
  obtain ⟨S, hC6, hB, hIB, hDD, h56, hon⟩ := hM
  obtain ⟨hC, hL, hT⟩ := id hC6
  have hs := hC.1
  have hsT := hT.1
  have h20 := (hs 20 5 0 [] rfl (by decide)).1
  have hroom := Cap_room hcap
  have hF6 := Fr6_refl μ ε
  have hC6c := hC6
  unfold actMount at h
  have hbd := PA_bd hIB.1
  refine wq_iconst (pc := 0) dX6_mount_0 ?_
  refine wq_istore_n (pc := 1) (L' := [(2, _), (0, _), (1, _)]) dX6_mount_1 rfl rfl (by decide) ?_
  refine wq_iconst (pc := 2) dX6_mount_2 ?_
  refine wq_istore_n (pc := 3) (L' := [(3, _), (2, _), (0, _), (1, _)]) dX6_mount_3 rfl rfl (by decide) ?_
  have loop1 : ∀ (n k : Nat), ∀ (i u : Int), k ≤ 8 → 8 < k + n → i = (k : Int) → u = rdS (aF A) s k → wp mX6_mount 4 [(0, vR 1), (1, vI s), (2, vI u), (3, vI i)] [] μ ε Q := by
    intro n
    induction n with
    | zero => intro k i u hk1 hk2 e0 e1; exact absurd hk2 (by omega)
    | succ n ih =>
      intro k i u hk1 hk2 e0 e1
      subst e0
      refine wq_iload_n (pc := 4) dX6_mount_4 rfl rfl ?_
      refine wq_bipush (pc := 5) dX6_mount_5 (by decide) (by decide) ?_
      refine wq_icmp_ge (pc := 7) (tgt := 25) dX6_mount_7 (by decide) (by first | (unfold inR; omega) | assumption) (by first | (unfold inR; omega) | assumption) (fun c2 => ?_) (fun c2 => ?_)
      · skip
        refine wq_aload_n (pc := 25) dX6_mount_25 rfl rfl ?_
        refine wq_getS (pc := 26) dX6_mount_26 hs (gf_X6_10 _ rfl) rfl rfl rfl rfl rfl ?_
        refine wq_iconst (pc := 29) dX6_mount_29 ?_
        refine wq_putZK (pc := 30) (kk := 6) dX6_mount_30 hs (gf_X6_190 _ rfl) rfl rfl rfl rfl rfl (by first | omega | (simp; done) | assumption) ?_
        obtain ⟨C61, R1⟩ := CF_D2 (v := 0) hC6
        have hcap1 := R1.2.2.2 _ hcap
        have hI1 : IB (fSetD (aF A) 0) nb vb := IB_same2 (F := aF A) (F' := fSetD (aF A) 0) (sameN_R (fun _ _ => rfl)) hIB.1 hIB.2.2.2.1 hIB
        have hbd1 := PA_bd hI1.1
        obtain ⟨hok, htb, hm1, hm2⟩ := mount_ok hI1 rfl (by omega) hvb0 rfl
        have e9 : u = rdS (aF A) s 8 := by rw [e1, show k = 8 by omega]
        rw [← e9] at h
        generalize wr μ 2 6 0 = m1 at C61 R1 hcap1 ⊢
        refine wq_aload_n (pc := 33) dX6_mount_33 rfl rfl ?_
        refine wq_getS (pc := 34) dX6_mount_34 hs (gf_X6_21 _ rfl) rfl rfl rfl rfl rfl ?_
        refine cVK_0 (pc := 37) dX6_mount_37 hs (cw_X6_193 _ rfl) (by decide) rfl ⟨by decide, by decide⟩ (Nat.le_of_ble_eq_true rfl) (sp_X3_restart C61.1 hbd1 (fun m2 C2 L2 X2 => ?_))
        refine kr_v ?_
        obtain ⟨C62, K2, R2⟩ := C6_X C61 C2 L2 X2
        have hcap2 := R2.2.2.2 _ hcap1
        refine wq_aload_n (pc := 40) dX6_mount_40 rfl rfl ?_
        refine wq_getS (pc := 41) dX6_mount_41 hs (gf_X6_28 _ rfl) rfl rfl rfl rfl rfl ?_
        refine wq_aload_n (pc := 44) dX6_mount_44 rfl rfl ?_
        refine wq_getS (pc := 45) dX6_mount_45 hs (gf_X6_10 _ rfl) rfl rfl rfl rfl rfl ?_
        refine cVK_1 (pc := 48) dX6_mount_48 hsT (cw_X6_196 _ rfl) (by decide) rfl ⟨by decide, by decide⟩ (Nat.le_of_ble_eq_true rfl) (sp_X5_restart C62.1 C62.2.2.1 C62.2.2.2.1 h56 hcap2 hok (fun m3 e3 T3 C3 F3 => ?_))
        refine kr_v ?_
        obtain ⟨C63, R3⟩ := C6_T C62 T3 F3
        have hs := C63.1.1
        have hsT := C63.2.2.1
        have h563 : eKind e3 25 ≠ 0 := by rw [(R3.2.1 25 h56).1]; exact h56
        have hcap3 := R3.2.2.2 _ hcap2
        refine wq_aload_n (pc := 51) dX6_mount_51 rfl rfl ?_
        refine wq_getS (pc := 52) dX6_mount_52 hs (gf_X6_21 _ rfl) rfl rfl rfl rfl rfl ?_
        refine cVK_0 (pc := 55) dX6_mount_55 hs (cw_X6_198 _ rfl) (by decide) rfl ⟨by decide, by decide⟩ (Nat.le_of_ble_eq_true rfl) (sr_X3_eraseBroken C63.1 C63.2.1 hbd1 hI1.2.2.2.1 (fun k hk => lBrk_hn hI1.1 (gOf_ok hI1.1 hI1.2.2.2.1) k hk) (fun hr9 m4 C4 L4 X4 => ?_) (fun hr9 m4 C4 L4 X4 => ?_))
        · skip
          refine kr_s ?_
          obtain ⟨C64, K4, R4⟩ := C6_X C63 C4 L4 X4
          generalize lBrk (fSetD (aF A) 0) (gOf (fSetD (aF A) 0)) 8 = R at hr9 C4 L4 C64 hm1 hm2 h
          obtain ⟨z1, z2⟩ := hm2 hr9
          unfold actMount2 at h
          rw [if_pos hr9] at h
          have fin : MC (R.1, R.2.1, nxF (fSetD (aF A) 0), vD (fSetD (aF A) 0), vN (fSetD (aF A) 0)) (nb + 1) (vb + 2) m4 e3 := MC_off C64 htb h563 z1 z2 (by omega) (by omega) (by omega)
          have fcap := Cap_mono (R4.2.2.2 _ hcap3) (Nat.le_succ t)
          have ffr := FrN_6 (Fr6_trans R1 (Fr6_trans R2 (Fr6_trans R3 R4)))
          refine wq_if_eq (pc := 58) (tgt := 65) dX6_mount_58 (by decide) (by first | (unfold inR; omega) | assumption) (fun _ => ?_) (fun c => absurd c (by decide))
          refine wq_bipush (pc := 65) dX6_mount_65 (by decide) (by decide) ?_
          refine wq_iret (pc := 67) dX6_mount_67 rfl ?_
          exact h _ _ fin fcap ffr
        · skip
          refine kr_s ?_
          obtain ⟨C64, K4, R4⟩ := C6_X C63 C4 L4 X4
          generalize lBrk (fSetD (aF A) 0) (gOf (fSetD (aF A) 0)) 8 = R at hr9 C4 L4 C64 hm1 hm2 h
          obtain ⟨fl, z1, z2⟩ := hm1 hr9
          unfold actMount2 at h
          rw [if_neg (show ¬ R.2.2 = false by rw [hr9]; decide)] at h
          have fin := MC_on (A := (R.1, R.2.1, nxF (fSetD (aF A) 0), vD (fSetD (aF A) 0), vN (fSetD (aF A) 0))) (nb := nb + 1) (vb := vb + 2) C64 h563 (IP_mono z1 (by omega) (by omega)) z2 (by omega) (by omega)
          have fcap := Cap_mono (R4.2.2.2 _ hcap3) (Nat.le_succ t)
          have ffr := FrN_6 (Fr6_trans R1 (Fr6_trans R2 (Fr6_trans R3 R4)))
          refine wq_if_eq (pc := 58) (tgt := 65) dX6_mount_58 (by decide) (by first | (unfold inR; omega) | assumption) (fun c => absurd c (by decide)) (fun _ => ?_)
          refine wq_iload_n (pc := 61) dX6_mount_61 rfl rfl ?_
          refine wq_goto (pc := 62) (tgt := 67) dX6_mount_62 (by decide) ?_
          refine wq_iret (pc := 67) dX6_mount_67 rfl ?_
          exact h _ _ fin fcap ffr
      · skip
        refine wq_iload_n (pc := 10) dX6_mount_10 rfl rfl ?_
        refine wq_aload_n (pc := 11) dX6_mount_11 rfl rfl ?_
        refine wq_iload_n (pc := 12) dX6_mount_12 rfl rfl ?_
        refine wq_iload_n (pc := 13) dX6_mount_13 rfl rfl ?_
        refine cVK_2 (pc := 14) dX6_mount_14 hs (cw_X6_186 _ rfl) (by decide) rfl ⟨by decide, by decide⟩ (Nat.le_of_ble_eq_true rfl) (sp_X6_unitsToRead hC (by omega) hbd hs01 ?_)
        refine kr_s ?_
        refine wq_iadd (pc := 17) dX6_mount_17 ?_
        refine wq_istore_n (pc := 18) (L' := [(2, _), (0, _), (1, _), (3, _)]) dX6_mount_18 rfl rfl (by decide) ?_
        refine wq_iinc (pc := 19) (L' := [(3, _), (2, _), (0, _), (1, _)]) dX6_mount_19 rfl rfl (by decide) ?_
        refine wq_goto (pc := 22) (tgt := 4) dX6_mount_22 (by decide) ?_
        refine wq_sub1 (L' := [(0, _), (1, _), (2, _), (3, _)]) ⟨rfl, rfl, rfl, rfl, trivial⟩ ?_
        exact ih (k + 1) _ _ (by omega) (by omega) (by omega) (by rw [rdS_s, e1])
  refine wq_sub1 (L' := [(0, _), (1, _), (2, _), (3, _)]) ⟨rfl, rfl, rfl, rfl, trivial⟩ ?_
  exact loop1 9 0 _ _ (by omega) (by omega) (by omega) rfl
