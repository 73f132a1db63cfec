/-! ### the law's wrappers -/
def kW (Es : List String) (Qw : Int → nMem → nEnv → Prop) : nOut → nMem → nEnv → Prop := fun o μ ε => (∃ v, o = .inl (some (vI v)) ∧ inR v ∧ (eKind ε 56 = 12 ∧ eLen ε 56 = 1) ∧ Qw 0 (wr μ 56 0 v) ε) ∨ (∃ (i : Nat) (E : String), o = .inr E ∧ i < Es.length ∧ Es[i]? = some E ∧ Qw (i + 1) μ ε)
def kWJ (Es : List String) (Qw : Int → nMem → nEnv → Prop) : nOut → nMem → nEnv → Prop := fun o μ ε => (∃ v, o = .inl (some (vJ v)) ∧ (eKind ε 56 = 12 ∧ eLen ε 56 = 1) ∧ Qw 0 (wr μ 56 0 v) ε) ∨ (∃ (i : Nat) (E : String), o = .inr E ∧ i < Es.length ∧ Es[i]? = some E ∧ Qw (i + 1) μ ε)
def oW (Qw : Int → nMem → nEnv → Prop) : nOut → nMem → nEnv → Prop := fun o μ ε => ∃ c, o = .inl (some (vI c)) ∧ Qw c μ ε
theorem mXI : xI ∈ nXs := by decide
theorem mXA : xA ∈ nXs := by decide
theorem mXS : xS ∈ nXs := by decide
theorem sw_create {μ : nMem} {ε : nEnv} {Qw : Int → nMem → nEnv → Prop} {a1 a2 : Int} (hk : eKind ε 1 = 7) (h : Sp mX6_create [vR 1, vI a1, vI a2] μ ε (kW [xI, xA, xS] Qw)) : SpH mL_create [(0, 10, 13, 13), (0, 10, 17, 15), (0, 10, 21, 17)] [vR 1, vI a1, vI a2, vR 56] μ ε (oW Qw) := by
  refine SpH_of (L := [(0, vR 1), (1, vI a1), (2, vI a2), (3, vR 56)]) (by decide) rfl rfl (Nat.le_of_ble_eq_true rfl) ?_
  refine wq_aload_n (pc := 0) dL_create_0 rfl rfl ?_
  refine wq_iconst (pc := 1) dL_create_1 ?_
  refine wq_aload_n (pc := 2) dL_create_2 rfl rfl ?_
  refine wq_iload_n (pc := 3) dL_create_3 rfl rfl ?_
  refine wq_iload_n (pc := 4) dL_create_4 rfl rfl ?_
  refine wq_callV (as := [vI a1, vI a2]) (rest := [vI 0, vR 56]) (pc := 5) dL_create_5 (cw_L_7 _ rfl) (by decide) hk ⟨by decide, by decide⟩ (Nat.le_of_ble_eq_true rfl) h (fun r m e q => ?_) (fun E m e q => ?_)
  · rcases q with ⟨v, e1, v1, ⟨k1, n1⟩, q⟩ | ⟨i, E, e1, -⟩
    · have e1 : r = some (vI v) := by injection e1
      subst e1
      refine wq_i2l (pc := 8) dL_create_8 v1 ?_
      refine wq_last (pc := 9) dL_create_9 k1 (by omega) (by omega) ?_
      refine wq_goto (pc := 10) (tgt := 25) dL_create_10 rfl ?_
      refine wq_iconst (pc := 25) dL_create_25 ?_
      exact wh_iret dL_create_26 rfl ⟨0, rfl, q⟩
    · exact absurd e1 (by intro z; cases z)
  · rcases q with ⟨v, e1, -⟩ | ⟨i, E', e1, hi, hE, q⟩
    · exact absurd e1 (by intro z; cases z)
    · have e1 : E = E' := by injection e1
      subst e1
      have hi : i < 3 := hi
      have hi2 : i = 0 ∨ i = 1 ∨ i = 2 := by omega
      rcases hi2 with e | e | e
      · subst e
        have hE : xI = E := by injection hE
        subst hE
        refine wx_catch (hp := 13) (i := 4) (ln := 2) [] ⟨0, 10, 13, 13⟩ [⟨0, 10, 17, 15⟩, ⟨0, 10, 21, 17⟩] rfl ?_ mXI (by decide) (by decide) kx_13.1 kx_13.2 rfl (Or.inr ⟨rfl, dL_create_13⟩) (by decide) ?_
        · exact fun z hz => absurd hz List.not_mem_nil
        · refine wq_iconst (pc := 15) dL_create_15 ?_
          exact wh_iret dL_create_16 rfl ⟨1, rfl, q⟩
      · subst e
        have hE : xA = E := by injection hE
        subst hE
        refine wx_catch (hp := 17) (i := 4) (ln := 2) [⟨0, 10, 13, 13⟩] ⟨0, 10, 17, 15⟩ [⟨0, 10, 21, 17⟩] rfl ?_ mXA (by decide) (by decide) kx_15.1 kx_15.2 rfl (Or.inr ⟨rfl, dL_create_17⟩) (by decide) ?_
        · exact fun z hz => by rw [List.mem_singleton] at hz; subst hz; exact ⟨by decide, xI, kx_13.1, by decide, by decide⟩
        · refine wq_iconst (pc := 19) dL_create_19 ?_
          exact wh_iret dL_create_20 rfl ⟨2, rfl, q⟩
      · subst e
        have hE : xS = E := by injection hE
        subst hE
        refine wx_catch (hp := 21) (i := 4) (ln := 2) [⟨0, 10, 13, 13⟩, ⟨0, 10, 17, 15⟩] ⟨0, 10, 21, 17⟩ [] rfl ?_ mXS (by decide) (by decide) kx_17.1 kx_17.2 rfl (Or.inr ⟨rfl, dL_create_21⟩) (by decide) ?_
        · intro z hz
          rcases List.mem_cons.mp hz with hz | hz
          · subst hz; exact ⟨by decide, xI, kx_13.1, by decide, by decide⟩
          · rw [List.mem_singleton] at hz; subst hz; exact ⟨by decide, xA, kx_15.1, by decide, by decide⟩
        · refine wq_iconst (pc := 23) dL_create_23 ?_
          exact wh_iret dL_create_24 rfl ⟨3, rfl, q⟩
theorem sw_makeDirectory {μ : nMem} {ε : nEnv} {Qw : Int → nMem → nEnv → Prop} {a1 a2 : Int} (hk : eKind ε 1 = 7) (h : Sp mX6_makeDirectory [vR 1, vI a1, vI a2] μ ε (kW [xI, xA, xS] Qw)) : SpH mL_makeDirectory [(0, 10, 13, 13), (0, 10, 17, 15), (0, 10, 21, 17)] [vR 1, vI a1, vI a2, vR 56] μ ε (oW Qw) := by
  refine SpH_of (L := [(0, vR 1), (1, vI a1), (2, vI a2), (3, vR 56)]) (by decide) rfl rfl (Nat.le_of_ble_eq_true rfl) ?_
  refine wq_aload_n (pc := 0) dL_makeDirectory_0 rfl rfl ?_
  refine wq_iconst (pc := 1) dL_makeDirectory_1 ?_
  refine wq_aload_n (pc := 2) dL_makeDirectory_2 rfl rfl ?_
  refine wq_iload_n (pc := 3) dL_makeDirectory_3 rfl rfl ?_
  refine wq_iload_n (pc := 4) dL_makeDirectory_4 rfl rfl ?_
  refine wq_callV (as := [vI a1, vI a2]) (rest := [vI 0, vR 56]) (pc := 5) dL_makeDirectory_5 (cw_L_19 _ rfl) (by decide) hk ⟨by decide, by decide⟩ (Nat.le_of_ble_eq_true rfl) h (fun r m e q => ?_) (fun E m e q => ?_)
  · rcases q with ⟨v, e1, v1, ⟨k1, n1⟩, q⟩ | ⟨i, E, e1, -⟩
    · have e1 : r = some (vI v) := by injection e1
      subst e1
      refine wq_i2l (pc := 8) dL_makeDirectory_8 v1 ?_
      refine wq_last (pc := 9) dL_makeDirectory_9 k1 (by omega) (by omega) ?_
      refine wq_goto (pc := 10) (tgt := 25) dL_makeDirectory_10 rfl ?_
      refine wq_iconst (pc := 25) dL_makeDirectory_25 ?_
      exact wh_iret dL_makeDirectory_26 rfl ⟨0, rfl, q⟩
    · exact absurd e1 (by intro z; cases z)
  · rcases q with ⟨v, e1, -⟩ | ⟨i, E', e1, hi, hE, q⟩
    · exact absurd e1 (by intro z; cases z)
    · have e1 : E = E' := by injection e1
      subst e1
      have hi : i < 3 := hi
      have hi2 : i = 0 ∨ i = 1 ∨ i = 2 := by omega
      rcases hi2 with e | e | e
      · subst e
        have hE : xI = E := by injection hE
        subst hE
        refine wx_catch (hp := 13) (i := 4) (ln := 2) [] ⟨0, 10, 13, 13⟩ [⟨0, 10, 17, 15⟩, ⟨0, 10, 21, 17⟩] rfl ?_ mXI (by decide) (by decide) kx_13.1 kx_13.2 rfl (Or.inr ⟨rfl, dL_makeDirectory_13⟩) (by decide) ?_
        · exact fun z hz => absurd hz List.not_mem_nil
        · refine wq_iconst (pc := 15) dL_makeDirectory_15 ?_
          exact wh_iret dL_makeDirectory_16 rfl ⟨1, rfl, q⟩
      · subst e
        have hE : xA = E := by injection hE
        subst hE
        refine wx_catch (hp := 17) (i := 4) (ln := 2) [⟨0, 10, 13, 13⟩] ⟨0, 10, 17, 15⟩ [⟨0, 10, 21, 17⟩] rfl ?_ mXA (by decide) (by decide) kx_15.1 kx_15.2 rfl (Or.inr ⟨rfl, dL_makeDirectory_17⟩) (by decide) ?_
        · exact fun z hz => by rw [List.mem_singleton] at hz; subst hz; exact ⟨by decide, xI, kx_13.1, by decide, by decide⟩
        · refine wq_iconst (pc := 19) dL_makeDirectory_19 ?_
          exact wh_iret dL_makeDirectory_20 rfl ⟨2, rfl, q⟩
      · subst e
        have hE : xS = E := by injection hE
        subst hE
        refine wx_catch (hp := 21) (i := 4) (ln := 2) [⟨0, 10, 13, 13⟩, ⟨0, 10, 17, 15⟩] ⟨0, 10, 21, 17⟩ [] rfl ?_ mXS (by decide) (by decide) kx_17.1 kx_17.2 rfl (Or.inr ⟨rfl, dL_makeDirectory_21⟩) (by decide) ?_
        · intro z hz
          rcases List.mem_cons.mp hz with hz | hz
          · subst hz; exact ⟨by decide, xI, kx_13.1, by decide, by decide⟩
          · rw [List.mem_singleton] at hz; subst hz; exact ⟨by decide, xA, kx_15.1, by decide, by decide⟩
        · refine wq_iconst (pc := 23) dL_makeDirectory_23 ?_
          exact wh_iret dL_makeDirectory_24 rfl ⟨3, rfl, q⟩
theorem sw_link {μ : nMem} {ε : nEnv} {Qw : Int → nMem → nEnv → Prop} {a1 a2 a3 : Int} (hk : eKind ε 1 = 7) (h : Sp mX6_link [vR 1, vI a1, vI a2, vI a3] μ ε (kW [xI, xA, xS] Qw)) : SpH mL_link [(0, 12, 15, 13), (0, 12, 19, 15), (0, 12, 23, 17)] [vR 1, vI a1, vI a2, vI a3, vR 56] μ ε (oW Qw) := by
  refine SpH_of (L := [(0, vR 1), (1, vI a1), (2, vI a2), (3, vI a3), (4, vR 56)]) (by decide) rfl rfl (Nat.le_of_ble_eq_true rfl) ?_
  refine wq_aload (pc := 0) dL_link_0 rfl ?_
  refine wq_iconst (pc := 2) dL_link_2 ?_
  refine wq_aload_n (pc := 3) dL_link_3 rfl rfl ?_
  refine wq_iload_n (pc := 4) dL_link_4 rfl rfl ?_
  refine wq_iload_n (pc := 5) dL_link_5 rfl rfl ?_
  refine wq_iload_n (pc := 6) dL_link_6 rfl rfl ?_
  refine wq_callV (as := [vI a1, vI a2, vI a3]) (rest := [vI 0, vR 56]) (pc := 7) dL_link_7 (cw_L_22 _ rfl) (by decide) hk ⟨by decide, by decide⟩ (Nat.le_of_ble_eq_true rfl) h (fun r m e q => ?_) (fun E m e q => ?_)
  · rcases q with ⟨v, e1, v1, ⟨k1, n1⟩, q⟩ | ⟨i, E, e1, -⟩
    · have e1 : r = some (vI v) := by injection e1
      subst e1
      refine wq_i2l (pc := 10) dL_link_10 v1 ?_
      refine wq_last (pc := 11) dL_link_11 k1 (by omega) (by omega) ?_
      refine wq_goto (pc := 12) (tgt := 27) dL_link_12 rfl ?_
      refine wq_iconst (pc := 27) dL_link_27 ?_
      exact wh_iret dL_link_28 rfl ⟨0, rfl, q⟩
    · exact absurd e1 (by intro z; cases z)
  · rcases q with ⟨v, e1, -⟩ | ⟨i, E', e1, hi, hE, q⟩
    · exact absurd e1 (by intro z; cases z)
    · have e1 : E = E' := by injection e1
      subst e1
      have hi : i < 3 := hi
      have hi2 : i = 0 ∨ i = 1 ∨ i = 2 := by omega
      rcases hi2 with e | e | e
      · subst e
        have hE : xI = E := by injection hE
        subst hE
        refine wx_catch (hp := 15) (i := 5) (ln := 2) [] ⟨0, 12, 15, 13⟩ [⟨0, 12, 19, 15⟩, ⟨0, 12, 23, 17⟩] rfl ?_ mXI (by decide) (by decide) kx_13.1 kx_13.2 rfl (Or.inr ⟨rfl, dL_link_15⟩) (by decide) ?_
        · exact fun z hz => absurd hz List.not_mem_nil
        · refine wq_iconst (pc := 17) dL_link_17 ?_
          exact wh_iret dL_link_18 rfl ⟨1, rfl, q⟩
      · subst e
        have hE : xA = E := by injection hE
        subst hE
        refine wx_catch (hp := 19) (i := 5) (ln := 2) [⟨0, 12, 15, 13⟩] ⟨0, 12, 19, 15⟩ [⟨0, 12, 23, 17⟩] rfl ?_ mXA (by decide) (by decide) kx_15.1 kx_15.2 rfl (Or.inr ⟨rfl, dL_link_19⟩) (by decide) ?_
        · exact fun z hz => by rw [List.mem_singleton] at hz; subst hz; exact ⟨by decide, xI, kx_13.1, by decide, by decide⟩
        · refine wq_iconst (pc := 21) dL_link_21 ?_
          exact wh_iret dL_link_22 rfl ⟨2, rfl, q⟩
      · subst e
        have hE : xS = E := by injection hE
        subst hE
        refine wx_catch (hp := 23) (i := 5) (ln := 2) [⟨0, 12, 15, 13⟩, ⟨0, 12, 19, 15⟩] ⟨0, 12, 23, 17⟩ [] rfl ?_ mXS (by decide) (by decide) kx_17.1 kx_17.2 rfl (Or.inr ⟨rfl, dL_link_23⟩) (by decide) ?_
        · intro z hz
          rcases List.mem_cons.mp hz with hz | hz
          · subst hz; exact ⟨by decide, xI, kx_13.1, by decide, by decide⟩
          · rw [List.mem_singleton] at hz; subst hz; exact ⟨by decide, xA, kx_15.1, by decide, by decide⟩
        · refine wq_iconst (pc := 25) dL_link_25 ?_
          exact wh_iret dL_link_26 rfl ⟨3, rfl, q⟩
theorem sw_unlink {μ : nMem} {ε : nEnv} {Qw : Int → nMem → nEnv → Prop} {a1 a2 : Int} (hk : eKind ε 1 = 7) (h : Sp mX6_unlink [vR 1, vI a1, vI a2] μ ε (kW [xI, xA, xS] Qw)) : SpH mL_unlink [(0, 10, 13, 13), (0, 10, 17, 15), (0, 10, 21, 17)] [vR 1, vI a1, vI a2, vR 56] μ ε (oW Qw) := by
  refine SpH_of (L := [(0, vR 1), (1, vI a1), (2, vI a2), (3, vR 56)]) (by decide) rfl rfl (Nat.le_of_ble_eq_true rfl) ?_
  refine wq_aload_n (pc := 0) dL_unlink_0 rfl rfl ?_
  refine wq_iconst (pc := 1) dL_unlink_1 ?_
  refine wq_aload_n (pc := 2) dL_unlink_2 rfl rfl ?_
  refine wq_iload_n (pc := 3) dL_unlink_3 rfl rfl ?_
  refine wq_iload_n (pc := 4) dL_unlink_4 rfl rfl ?_
  refine wq_callV (as := [vI a1, vI a2]) (rest := [vI 0, vR 56]) (pc := 5) dL_unlink_5 (cw_L_26 _ rfl) (by decide) hk ⟨by decide, by decide⟩ (Nat.le_of_ble_eq_true rfl) h (fun r m e q => ?_) (fun E m e q => ?_)
  · rcases q with ⟨v, e1, v1, ⟨k1, n1⟩, q⟩ | ⟨i, E, e1, -⟩
    · have e1 : r = some (vI v) := by injection e1
      subst e1
      refine wq_i2l (pc := 8) dL_unlink_8 v1 ?_
      refine wq_last (pc := 9) dL_unlink_9 k1 (by omega) (by omega) ?_
      refine wq_goto (pc := 10) (tgt := 25) dL_unlink_10 rfl ?_
      refine wq_iconst (pc := 25) dL_unlink_25 ?_
      exact wh_iret dL_unlink_26 rfl ⟨0, rfl, q⟩
    · exact absurd e1 (by intro z; cases z)
  · rcases q with ⟨v, e1, -⟩ | ⟨i, E', e1, hi, hE, q⟩
    · exact absurd e1 (by intro z; cases z)
    · have e1 : E = E' := by injection e1
      subst e1
      have hi : i < 3 := hi
      have hi2 : i = 0 ∨ i = 1 ∨ i = 2 := by omega
      rcases hi2 with e | e | e
      · subst e
        have hE : xI = E := by injection hE
        subst hE
        refine wx_catch (hp := 13) (i := 4) (ln := 2) [] ⟨0, 10, 13, 13⟩ [⟨0, 10, 17, 15⟩, ⟨0, 10, 21, 17⟩] rfl ?_ mXI (by decide) (by decide) kx_13.1 kx_13.2 rfl (Or.inr ⟨rfl, dL_unlink_13⟩) (by decide) ?_
        · exact fun z hz => absurd hz List.not_mem_nil
        · refine wq_iconst (pc := 15) dL_unlink_15 ?_
          exact wh_iret dL_unlink_16 rfl ⟨1, rfl, q⟩
      · subst e
        have hE : xA = E := by injection hE
        subst hE
        refine wx_catch (hp := 17) (i := 4) (ln := 2) [⟨0, 10, 13, 13⟩] ⟨0, 10, 17, 15⟩ [⟨0, 10, 21, 17⟩] rfl ?_ mXA (by decide) (by decide) kx_15.1 kx_15.2 rfl (Or.inr ⟨rfl, dL_unlink_17⟩) (by decide) ?_
        · exact fun z hz => by rw [List.mem_singleton] at hz; subst hz; exact ⟨by decide, xI, kx_13.1, by decide, by decide⟩
        · refine wq_iconst (pc := 19) dL_unlink_19 ?_
          exact wh_iret dL_unlink_20 rfl ⟨2, rfl, q⟩
      · subst e
        have hE : xS = E := by injection hE
        subst hE
        refine wx_catch (hp := 21) (i := 4) (ln := 2) [⟨0, 10, 13, 13⟩, ⟨0, 10, 17, 15⟩] ⟨0, 10, 21, 17⟩ [] rfl ?_ mXS (by decide) (by decide) kx_17.1 kx_17.2 rfl (Or.inr ⟨rfl, dL_unlink_21⟩) (by decide) ?_
        · intro z hz
          rcases List.mem_cons.mp hz with hz | hz
          · subst hz; exact ⟨by decide, xI, kx_13.1, by decide, by decide⟩
          · rw [List.mem_singleton] at hz; subst hz; exact ⟨by decide, xA, kx_15.1, by decide, by decide⟩
        · refine wq_iconst (pc := 23) dL_unlink_23 ?_
          exact wh_iret dL_unlink_24 rfl ⟨3, rfl, q⟩
theorem sw_rename {μ : nMem} {ε : nEnv} {Qw : Int → nMem → nEnv → Prop} {a1 a2 a3 a4 : Int} (hk : eKind ε 1 = 7) (h : Sp mX6_rename [vR 1, vI a1, vI a2, vI a3, vI a4] μ ε (kW [xI, xA, xS] Qw)) : SpH mL_rename [(0, 14, 17, 13), (0, 14, 21, 15), (0, 14, 25, 17)] [vR 1, vI a1, vI a2, vI a3, vI a4, vR 56] μ ε (oW Qw) := by
  refine SpH_of (L := [(0, vR 1), (1, vI a1), (2, vI a2), (3, vI a3), (4, vI a4), (5, vR 56)]) (by decide) rfl rfl (Nat.le_of_ble_eq_true rfl) ?_
  refine wq_aload (pc := 0) dL_rename_0 rfl ?_
  refine wq_iconst (pc := 2) dL_rename_2 ?_
  refine wq_aload_n (pc := 3) dL_rename_3 rfl rfl ?_
  refine wq_iload_n (pc := 4) dL_rename_4 rfl rfl ?_
  refine wq_iload_n (pc := 5) dL_rename_5 rfl rfl ?_
  refine wq_iload_n (pc := 6) dL_rename_6 rfl rfl ?_
  refine wq_iload (pc := 7) dL_rename_7 rfl ?_
  refine wq_callV (as := [vI a1, vI a2, vI a3, vI a4]) (rest := [vI 0, vR 56]) (pc := 9) dL_rename_9 (cw_L_29 _ rfl) (by decide) hk ⟨by decide, by decide⟩ (Nat.le_of_ble_eq_true rfl) h (fun r m e q => ?_) (fun E m e q => ?_)
  · rcases q with ⟨v, e1, v1, ⟨k1, n1⟩, q⟩ | ⟨i, E, e1, -⟩
    · have e1 : r = some (vI v) := by injection e1
      subst e1
      refine wq_i2l (pc := 12) dL_rename_12 v1 ?_
      refine wq_last (pc := 13) dL_rename_13 k1 (by omega) (by omega) ?_
      refine wq_goto (pc := 14) (tgt := 29) dL_rename_14 rfl ?_
      refine wq_iconst (pc := 29) dL_rename_29 ?_
      exact wh_iret dL_rename_30 rfl ⟨0, rfl, q⟩
    · exact absurd e1 (by intro z; cases z)
  · rcases q with ⟨v, e1, -⟩ | ⟨i, E', e1, hi, hE, q⟩
    · exact absurd e1 (by intro z; cases z)
    · have e1 : E = E' := by injection e1
      subst e1
      have hi : i < 3 := hi
      have hi2 : i = 0 ∨ i = 1 ∨ i = 2 := by omega
      rcases hi2 with e | e | e
      · subst e
        have hE : xI = E := by injection hE
        subst hE
        refine wx_catch (hp := 17) (i := 6) (ln := 2) [] ⟨0, 14, 17, 13⟩ [⟨0, 14, 21, 15⟩, ⟨0, 14, 25, 17⟩] rfl ?_ mXI (by decide) (by decide) kx_13.1 kx_13.2 rfl (Or.inr ⟨rfl, dL_rename_17⟩) (by decide) ?_
        · exact fun z hz => absurd hz List.not_mem_nil
        · refine wq_iconst (pc := 19) dL_rename_19 ?_
          exact wh_iret dL_rename_20 rfl ⟨1, rfl, q⟩
      · subst e
        have hE : xA = E := by injection hE
        subst hE
        refine wx_catch (hp := 21) (i := 6) (ln := 2) [⟨0, 14, 17, 13⟩] ⟨0, 14, 21, 15⟩ [⟨0, 14, 25, 17⟩] rfl ?_ mXA (by decide) (by decide) kx_15.1 kx_15.2 rfl (Or.inr ⟨rfl, dL_rename_21⟩) (by decide) ?_
        · exact fun z hz => by rw [List.mem_singleton] at hz; subst hz; exact ⟨by decide, xI, kx_13.1, by decide, by decide⟩
        · refine wq_iconst (pc := 23) dL_rename_23 ?_
          exact wh_iret dL_rename_24 rfl ⟨2, rfl, q⟩
      · subst e
        have hE : xS = E := by injection hE
        subst hE
        refine wx_catch (hp := 25) (i := 6) (ln := 2) [⟨0, 14, 17, 13⟩, ⟨0, 14, 21, 15⟩] ⟨0, 14, 25, 17⟩ [] rfl ?_ mXS (by decide) (by decide) kx_17.1 kx_17.2 rfl (Or.inr ⟨rfl, dL_rename_25⟩) (by decide) ?_
        · intro z hz
          rcases List.mem_cons.mp hz with hz | hz
          · subst hz; exact ⟨by decide, xI, kx_13.1, by decide, by decide⟩
          · rw [List.mem_singleton] at hz; subst hz; exact ⟨by decide, xA, kx_15.1, by decide, by decide⟩
        · refine wq_iconst (pc := 27) dL_rename_27 ?_
          exact wh_iret dL_rename_28 rfl ⟨3, rfl, q⟩
theorem sw_write {μ : nMem} {ε : nEnv} {Qw : Int → nMem → nEnv → Prop} {a1 a2 a3 a5 : Int} (hk : eKind ε 1 = 7) (h : Sp mX6_write [vR 1, vI a1, vI a2, vJ a3, vI a5] μ ε (kW [xI, xA, xS] Qw)) : SpH mL_write [(0, 14, 17, 13), (0, 14, 21, 15), (0, 14, 25, 17)] [vR 1, vI a1, vI a2, vJ a3, vI a5, vR 56] μ ε (oW Qw) := by
  refine SpH_of (L := [(0, vR 1), (1, vI a1), (2, vI a2), (3, vJ a3), (5, vI a5), (6, vR 56)]) (by decide) rfl rfl (Nat.le_of_ble_eq_true rfl) ?_
  refine wq_aload (pc := 0) dL_write_0 rfl ?_
  refine wq_iconst (pc := 2) dL_write_2 ?_
  refine wq_aload_n (pc := 3) dL_write_3 rfl rfl ?_
  refine wq_iload_n (pc := 4) dL_write_4 rfl rfl ?_
  refine wq_iload_n (pc := 5) dL_write_5 rfl rfl ?_
  refine wq_lload_n (pc := 6) dL_write_6 rfl rfl ?_
  refine wq_iload (pc := 7) dL_write_7 rfl ?_
  refine wq_callV (as := [vI a1, vI a2, vJ a3, vI a5]) (rest := [vI 0, vR 56]) (pc := 9) dL_write_9 (cw_L_33 _ rfl) (by decide) hk ⟨by decide, by decide⟩ (Nat.le_of_ble_eq_true rfl) h (fun r m e q => ?_) (fun E m e q => ?_)
  · rcases q with ⟨v, e1, v1, ⟨k1, n1⟩, q⟩ | ⟨i, E, e1, -⟩
    · have e1 : r = some (vI v) := by injection e1
      subst e1
      refine wq_i2l (pc := 12) dL_write_12 v1 ?_
      refine wq_last (pc := 13) dL_write_13 k1 (by omega) (by omega) ?_
      refine wq_goto (pc := 14) (tgt := 29) dL_write_14 rfl ?_
      refine wq_iconst (pc := 29) dL_write_29 ?_
      exact wh_iret dL_write_30 rfl ⟨0, rfl, q⟩
    · exact absurd e1 (by intro z; cases z)
  · rcases q with ⟨v, e1, -⟩ | ⟨i, E', e1, hi, hE, q⟩
    · exact absurd e1 (by intro z; cases z)
    · have e1 : E = E' := by injection e1
      subst e1
      have hi : i < 3 := hi
      have hi2 : i = 0 ∨ i = 1 ∨ i = 2 := by omega
      rcases hi2 with e | e | e
      · subst e
        have hE : xI = E := by injection hE
        subst hE
        refine wx_catch (hp := 17) (i := 7) (ln := 2) [] ⟨0, 14, 17, 13⟩ [⟨0, 14, 21, 15⟩, ⟨0, 14, 25, 17⟩] rfl ?_ mXI (by decide) (by decide) kx_13.1 kx_13.2 rfl (Or.inr ⟨rfl, dL_write_17⟩) (by decide) ?_
        · exact fun z hz => absurd hz List.not_mem_nil
        · refine wq_iconst (pc := 19) dL_write_19 ?_
          exact wh_iret dL_write_20 rfl ⟨1, rfl, q⟩
      · subst e
        have hE : xA = E := by injection hE
        subst hE
        refine wx_catch (hp := 21) (i := 7) (ln := 2) [⟨0, 14, 17, 13⟩] ⟨0, 14, 21, 15⟩ [⟨0, 14, 25, 17⟩] rfl ?_ mXA (by decide) (by decide) kx_15.1 kx_15.2 rfl (Or.inr ⟨rfl, dL_write_21⟩) (by decide) ?_
        · exact fun z hz => by rw [List.mem_singleton] at hz; subst hz; exact ⟨by decide, xI, kx_13.1, by decide, by decide⟩
        · refine wq_iconst (pc := 23) dL_write_23 ?_
          exact wh_iret dL_write_24 rfl ⟨2, rfl, q⟩
      · subst e
        have hE : xS = E := by injection hE
        subst hE
        refine wx_catch (hp := 25) (i := 7) (ln := 2) [⟨0, 14, 17, 13⟩, ⟨0, 14, 21, 15⟩] ⟨0, 14, 25, 17⟩ [] rfl ?_ mXS (by decide) (by decide) kx_17.1 kx_17.2 rfl (Or.inr ⟨rfl, dL_write_25⟩) (by decide) ?_
        · intro z hz
          rcases List.mem_cons.mp hz with hz | hz
          · subst hz; exact ⟨by decide, xI, kx_13.1, by decide, by decide⟩
          · rw [List.mem_singleton] at hz; subst hz; exact ⟨by decide, xA, kx_15.1, by decide, by decide⟩
        · refine wq_iconst (pc := 27) dL_write_27 ?_
          exact wh_iret dL_write_28 rfl ⟨3, rfl, q⟩
theorem sw_truncate {μ : nMem} {ε : nEnv} {Qw : Int → nMem → nEnv → Prop} {a1 a2 : Int} (hk : eKind ε 1 = 7) (h : Sp mX6_truncate [vR 1, vI a1, vI a2] μ ε (kW [xI, xA, xS] Qw)) : SpH mL_truncate [(0, 10, 13, 13), (0, 10, 17, 15), (0, 10, 21, 17)] [vR 1, vI a1, vI a2, vR 56] μ ε (oW Qw) := by
  refine SpH_of (L := [(0, vR 1), (1, vI a1), (2, vI a2), (3, vR 56)]) (by decide) rfl rfl (Nat.le_of_ble_eq_true rfl) ?_
  refine wq_aload_n (pc := 0) dL_truncate_0 rfl rfl ?_
  refine wq_iconst (pc := 1) dL_truncate_1 ?_
  refine wq_aload_n (pc := 2) dL_truncate_2 rfl rfl ?_
  refine wq_iload_n (pc := 3) dL_truncate_3 rfl rfl ?_
  refine wq_iload_n (pc := 4) dL_truncate_4 rfl rfl ?_
  refine wq_callV (as := [vI a1, vI a2]) (rest := [vI 0, vR 56]) (pc := 5) dL_truncate_5 (cw_L_37 _ rfl) (by decide) hk ⟨by decide, by decide⟩ (Nat.le_of_ble_eq_true rfl) h (fun r m e q => ?_) (fun E m e q => ?_)
  · rcases q with ⟨v, e1, v1, ⟨k1, n1⟩, q⟩ | ⟨i, E, e1, -⟩
    · have e1 : r = some (vI v) := by injection e1
      subst e1
      refine wq_i2l (pc := 8) dL_truncate_8 v1 ?_
      refine wq_last (pc := 9) dL_truncate_9 k1 (by omega) (by omega) ?_
      refine wq_goto (pc := 10) (tgt := 25) dL_truncate_10 rfl ?_
      refine wq_iconst (pc := 25) dL_truncate_25 ?_
      exact wh_iret dL_truncate_26 rfl ⟨0, rfl, q⟩
    · exact absurd e1 (by intro z; cases z)
  · rcases q with ⟨v, e1, -⟩ | ⟨i, E', e1, hi, hE, q⟩
    · exact absurd e1 (by intro z; cases z)
    · have e1 : E = E' := by injection e1
      subst e1
      have hi : i < 3 := hi
      have hi2 : i = 0 ∨ i = 1 ∨ i = 2 := by omega
      rcases hi2 with e | e | e
      · subst e
        have hE : xI = E := by injection hE
        subst hE
        refine wx_catch (hp := 13) (i := 4) (ln := 2) [] ⟨0, 10, 13, 13⟩ [⟨0, 10, 17, 15⟩, ⟨0, 10, 21, 17⟩] rfl ?_ mXI (by decide) (by decide) kx_13.1 kx_13.2 rfl (Or.inr ⟨rfl, dL_truncate_13⟩) (by decide) ?_
        · exact fun z hz => absurd hz List.not_mem_nil
        · refine wq_iconst (pc := 15) dL_truncate_15 ?_
          exact wh_iret dL_truncate_16 rfl ⟨1, rfl, q⟩
      · subst e
        have hE : xA = E := by injection hE
        subst hE
        refine wx_catch (hp := 17) (i := 4) (ln := 2) [⟨0, 10, 13, 13⟩] ⟨0, 10, 17, 15⟩ [⟨0, 10, 21, 17⟩] rfl ?_ mXA (by decide) (by decide) kx_15.1 kx_15.2 rfl (Or.inr ⟨rfl, dL_truncate_17⟩) (by decide) ?_
        · exact fun z hz => by rw [List.mem_singleton] at hz; subst hz; exact ⟨by decide, xI, kx_13.1, by decide, by decide⟩
        · refine wq_iconst (pc := 19) dL_truncate_19 ?_
          exact wh_iret dL_truncate_20 rfl ⟨2, rfl, q⟩
      · subst e
        have hE : xS = E := by injection hE
        subst hE
        refine wx_catch (hp := 21) (i := 4) (ln := 2) [⟨0, 10, 13, 13⟩, ⟨0, 10, 17, 15⟩] ⟨0, 10, 21, 17⟩ [] rfl ?_ mXS (by decide) (by decide) kx_17.1 kx_17.2 rfl (Or.inr ⟨rfl, dL_truncate_21⟩) (by decide) ?_
        · intro z hz
          rcases List.mem_cons.mp hz with hz | hz
          · subst hz; exact ⟨by decide, xI, kx_13.1, by decide, by decide⟩
          · rw [List.mem_singleton] at hz; subst hz; exact ⟨by decide, xA, kx_15.1, by decide, by decide⟩
        · refine wq_iconst (pc := 23) dL_truncate_23 ?_
          exact wh_iret dL_truncate_24 rfl ⟨3, rfl, q⟩
theorem sw_collect {μ : nMem} {ε : nEnv} {Qw : Int → nMem → nEnv → Prop} {a1 : Int} (hk : eKind ε 1 = 7) (h : Sp mX6_collect [vR 1, vI a1] μ ε (kW [xA, xS] Qw)) : SpH mL_collect [(0, 9, 12, 15), (0, 9, 15, 17)] [vR 1, vI a1, vR 56] μ ε (oW Qw) := by
  refine SpH_of (L := [(0, vR 1), (1, vI a1), (2, vR 56)]) (by decide) rfl rfl (Nat.le_of_ble_eq_true rfl) ?_
  refine wq_aload_n (pc := 0) dL_collect_0 rfl rfl ?_
  refine wq_iconst (pc := 1) dL_collect_1 ?_
  refine wq_aload_n (pc := 2) dL_collect_2 rfl rfl ?_
  refine wq_iload_n (pc := 3) dL_collect_3 rfl rfl ?_
  refine wq_callV (as := [vI a1]) (rest := [vI 0, vR 56]) (pc := 4) dL_collect_4 (cw_L_40 _ rfl) (by decide) hk ⟨by decide, by decide⟩ (Nat.le_of_ble_eq_true rfl) h (fun r m e q => ?_) (fun E m e q => ?_)
  · rcases q with ⟨v, e1, v1, ⟨k1, n1⟩, q⟩ | ⟨i, E, e1, -⟩
    · have e1 : r = some (vI v) := by injection e1
      subst e1
      refine wq_i2l (pc := 7) dL_collect_7 v1 ?_
      refine wq_last (pc := 8) dL_collect_8 k1 (by omega) (by omega) ?_
      refine wq_goto (pc := 9) (tgt := 18) dL_collect_9 rfl ?_
      refine wq_iconst (pc := 18) dL_collect_18 ?_
      exact wh_iret dL_collect_19 rfl ⟨0, rfl, q⟩
    · exact absurd e1 (by intro z; cases z)
  · rcases q with ⟨v, e1, -⟩ | ⟨i, E', e1, hi, hE, q⟩
    · exact absurd e1 (by intro z; cases z)
    · have e1 : E = E' := by injection e1
      subst e1
      have hi : i < 2 := hi
      have hi2 : i = 0 ∨ i = 1 := by omega
      rcases hi2 with e | e
      · subst e
        have hE : xA = E := by injection hE
        subst hE
        refine wx_catch (hp := 12) (i := 3) (ln := 1) [] ⟨0, 9, 12, 15⟩ [⟨0, 9, 15, 17⟩] rfl ?_ mXA (by decide) (by decide) kx_15.1 kx_15.2 rfl (Or.inl ⟨3, rfl, rfl, dL_collect_12⟩) (by decide) ?_
        · exact fun z hz => absurd hz List.not_mem_nil
        · refine wq_iconst (pc := 13) dL_collect_13 ?_
          exact wh_iret dL_collect_14 rfl ⟨1, rfl, q⟩
      · subst e
        have hE : xS = E := by injection hE
        subst hE
        refine wx_catch (hp := 15) (i := 3) (ln := 1) [⟨0, 9, 12, 15⟩] ⟨0, 9, 15, 17⟩ [] rfl ?_ mXS (by decide) (by decide) kx_17.1 kx_17.2 rfl (Or.inl ⟨3, rfl, rfl, dL_collect_15⟩) (by decide) ?_
        · exact fun z hz => by rw [List.mem_singleton] at hz; subst hz; exact ⟨by decide, xA, kx_15.1, by decide, by decide⟩
        · refine wq_iconst (pc := 16) dL_collect_16 ?_
          exact wh_iret dL_collect_17 rfl ⟨2, rfl, q⟩
theorem sw_cut {μ : nMem} {ε : nEnv} {Qw : Int → nMem → nEnv → Prop} {a1 : Int} (hk : eKind ε 1 = 7) (h : Sp mX6_cut [vR 1, vI a1] μ ε (kW [xA] Qw)) : SpH mL_cut [(0, 9, 12, 15)] [vR 1, vI a1, vR 56] μ ε (oW Qw) := by
  refine SpH_of (L := [(0, vR 1), (1, vI a1), (2, vR 56)]) (by decide) rfl rfl (Nat.le_of_ble_eq_true rfl) ?_
  refine wq_aload_n (pc := 0) dL_cut_0 rfl rfl ?_
  refine wq_iconst (pc := 1) dL_cut_1 ?_
  refine wq_aload_n (pc := 2) dL_cut_2 rfl rfl ?_
  refine wq_iload_n (pc := 3) dL_cut_3 rfl rfl ?_
  refine wq_callV (as := [vI a1]) (rest := [vI 0, vR 56]) (pc := 4) dL_cut_4 (cw_L_44 _ rfl) (by decide) hk ⟨by decide, by decide⟩ (Nat.le_of_ble_eq_true rfl) h (fun r m e q => ?_) (fun E m e q => ?_)
  · rcases q with ⟨v, e1, v1, ⟨k1, n1⟩, q⟩ | ⟨i, E, e1, -⟩
    · have e1 : r = some (vI v) := by injection e1
      subst e1
      refine wq_i2l (pc := 7) dL_cut_7 v1 ?_
      refine wq_last (pc := 8) dL_cut_8 k1 (by omega) (by omega) ?_
      refine wq_goto (pc := 9) (tgt := 15) dL_cut_9 rfl ?_
      refine wq_iconst (pc := 15) dL_cut_15 ?_
      exact wh_iret dL_cut_16 rfl ⟨0, rfl, q⟩
    · exact absurd e1 (by intro z; cases z)
  · rcases q with ⟨v, e1, -⟩ | ⟨i, E', e1, hi, hE, q⟩
    · exact absurd e1 (by intro z; cases z)
    · have e1 : E = E' := by injection e1
      subst e1
      have hi : i < 1 := hi
      have e : i = 0 := by omega
      subst e
      have hE : xA = E := by injection hE
      subst hE
      refine wx_catch (hp := 12) (i := 3) (ln := 1) [] ⟨0, 9, 12, 15⟩ [] rfl ?_ mXA (by decide) (by decide) kx_15.1 kx_15.2 rfl (Or.inl ⟨3, rfl, rfl, dL_cut_12⟩) (by decide) ?_
      · exact fun z hz => absurd hz List.not_mem_nil
      · refine wq_iconst (pc := 13) dL_cut_13 ?_
        exact wh_iret dL_cut_14 rfl ⟨1, rfl, q⟩
theorem sw_lookUp {μ : nMem} {ε : nEnv} {Qw : Int → nMem → nEnv → Prop} {a1 a2 : Int} (hk : eKind ε 1 = 7) (h : Sp mX6_lookUp [vR 1, vI a1, vI a2] μ ε (kW [xI, xA, xS] Qw)) : SpH mL_lookUp [(0, 10, 13, 13), (0, 10, 17, 15), (0, 10, 21, 17)] [vR 1, vI a1, vI a2, vR 56] μ ε (oW Qw) := by
  refine SpH_of (L := [(0, vR 1), (1, vI a1), (2, vI a2), (3, vR 56)]) (by decide) rfl rfl (Nat.le_of_ble_eq_true rfl) ?_
  refine wq_aload_n (pc := 0) dL_lookUp_0 rfl rfl ?_
  refine wq_iconst (pc := 1) dL_lookUp_1 ?_
  refine wq_aload_n (pc := 2) dL_lookUp_2 rfl rfl ?_
  refine wq_iload_n (pc := 3) dL_lookUp_3 rfl rfl ?_
  refine wq_iload_n (pc := 4) dL_lookUp_4 rfl rfl ?_
  refine wq_callV (as := [vI a1, vI a2]) (rest := [vI 0, vR 56]) (pc := 5) dL_lookUp_5 (cw_L_47 _ rfl) (by decide) hk ⟨by decide, by decide⟩ (Nat.le_of_ble_eq_true rfl) h (fun r m e q => ?_) (fun E m e q => ?_)
  · rcases q with ⟨v, e1, v1, ⟨k1, n1⟩, q⟩ | ⟨i, E, e1, -⟩
    · have e1 : r = some (vI v) := by injection e1
      subst e1
      refine wq_i2l (pc := 8) dL_lookUp_8 v1 ?_
      refine wq_last (pc := 9) dL_lookUp_9 k1 (by omega) (by omega) ?_
      refine wq_goto (pc := 10) (tgt := 25) dL_lookUp_10 rfl ?_
      refine wq_iconst (pc := 25) dL_lookUp_25 ?_
      exact wh_iret dL_lookUp_26 rfl ⟨0, rfl, q⟩
    · exact absurd e1 (by intro z; cases z)
  · rcases q with ⟨v, e1, -⟩ | ⟨i, E', e1, hi, hE, q⟩
    · exact absurd e1 (by intro z; cases z)
    · have e1 : E = E' := by injection e1
      subst e1
      have hi : i < 3 := hi
      have hi2 : i = 0 ∨ i = 1 ∨ i = 2 := by omega
      rcases hi2 with e | e | e
      · subst e
        have hE : xI = E := by injection hE
        subst hE
        refine wx_catch (hp := 13) (i := 4) (ln := 2) [] ⟨0, 10, 13, 13⟩ [⟨0, 10, 17, 15⟩, ⟨0, 10, 21, 17⟩] rfl ?_ mXI (by decide) (by decide) kx_13.1 kx_13.2 rfl (Or.inr ⟨rfl, dL_lookUp_13⟩) (by decide) ?_
        · exact fun z hz => absurd hz List.not_mem_nil
        · refine wq_iconst (pc := 15) dL_lookUp_15 ?_
          exact wh_iret dL_lookUp_16 rfl ⟨1, rfl, q⟩
      · subst e
        have hE : xA = E := by injection hE
        subst hE
        refine wx_catch (hp := 17) (i := 4) (ln := 2) [⟨0, 10, 13, 13⟩] ⟨0, 10, 17, 15⟩ [⟨0, 10, 21, 17⟩] rfl ?_ mXA (by decide) (by decide) kx_15.1 kx_15.2 rfl (Or.inr ⟨rfl, dL_lookUp_17⟩) (by decide) ?_
        · exact fun z hz => by rw [List.mem_singleton] at hz; subst hz; exact ⟨by decide, xI, kx_13.1, by decide, by decide⟩
        · refine wq_iconst (pc := 19) dL_lookUp_19 ?_
          exact wh_iret dL_lookUp_20 rfl ⟨2, rfl, q⟩
      · subst e
        have hE : xS = E := by injection hE
        subst hE
        refine wx_catch (hp := 21) (i := 4) (ln := 2) [⟨0, 10, 13, 13⟩, ⟨0, 10, 17, 15⟩] ⟨0, 10, 21, 17⟩ [] rfl ?_ mXS (by decide) (by decide) kx_17.1 kx_17.2 rfl (Or.inr ⟨rfl, dL_lookUp_21⟩) (by decide) ?_
        · intro z hz
          rcases List.mem_cons.mp hz with hz | hz
          · subst hz; exact ⟨by decide, xI, kx_13.1, by decide, by decide⟩
          · rw [List.mem_singleton] at hz; subst hz; exact ⟨by decide, xA, kx_15.1, by decide, by decide⟩
        · refine wq_iconst (pc := 23) dL_lookUp_23 ?_
          exact wh_iret dL_lookUp_24 rfl ⟨3, rfl, q⟩
theorem sw_names {μ : nMem} {ε : nEnv} {Qw : Int → nMem → nEnv → Prop} {a1 : Int} (hk : eKind ε 1 = 7) (h : Sp mX6_names [vR 1, vI a1] μ ε (kW [xI, xS] Qw)) : SpH mL_names [(0, 9, 12, 13), (0, 9, 15, 17)] [vR 1, vI a1, vR 56] μ ε (oW Qw) := by
  refine SpH_of (L := [(0, vR 1), (1, vI a1), (2, vR 56)]) (by decide) rfl rfl (Nat.le_of_ble_eq_true rfl) ?_
  refine wq_aload_n (pc := 0) dL_names_0 rfl rfl ?_
  refine wq_iconst (pc := 1) dL_names_1 ?_
  refine wq_aload_n (pc := 2) dL_names_2 rfl rfl ?_
  refine wq_iload_n (pc := 3) dL_names_3 rfl rfl ?_
  refine wq_callV (as := [vI a1]) (rest := [vI 0, vR 56]) (pc := 4) dL_names_4 (cw_L_50 _ rfl) (by decide) hk ⟨by decide, by decide⟩ (Nat.le_of_ble_eq_true rfl) h (fun r m e q => ?_) (fun E m e q => ?_)
  · rcases q with ⟨v, e1, v1, ⟨k1, n1⟩, q⟩ | ⟨i, E, e1, -⟩
    · have e1 : r = some (vI v) := by injection e1
      subst e1
      refine wq_i2l (pc := 7) dL_names_7 v1 ?_
      refine wq_last (pc := 8) dL_names_8 k1 (by omega) (by omega) ?_
      refine wq_goto (pc := 9) (tgt := 18) dL_names_9 rfl ?_
      refine wq_iconst (pc := 18) dL_names_18 ?_
      exact wh_iret dL_names_19 rfl ⟨0, rfl, q⟩
    · exact absurd e1 (by intro z; cases z)
  · rcases q with ⟨v, e1, -⟩ | ⟨i, E', e1, hi, hE, q⟩
    · exact absurd e1 (by intro z; cases z)
    · have e1 : E = E' := by injection e1
      subst e1
      have hi : i < 2 := hi
      have hi2 : i = 0 ∨ i = 1 := by omega
      rcases hi2 with e | e
      · subst e
        have hE : xI = E := by injection hE
        subst hE
        refine wx_catch (hp := 12) (i := 3) (ln := 1) [] ⟨0, 9, 12, 13⟩ [⟨0, 9, 15, 17⟩] rfl ?_ mXI (by decide) (by decide) kx_13.1 kx_13.2 rfl (Or.inl ⟨3, rfl, rfl, dL_names_12⟩) (by decide) ?_
        · exact fun z hz => absurd hz List.not_mem_nil
        · refine wq_iconst (pc := 13) dL_names_13 ?_
          exact wh_iret dL_names_14 rfl ⟨1, rfl, q⟩
      · subst e
        have hE : xS = E := by injection hE
        subst hE
        refine wx_catch (hp := 15) (i := 3) (ln := 1) [⟨0, 9, 12, 13⟩] ⟨0, 9, 15, 17⟩ [] rfl ?_ mXS (by decide) (by decide) kx_17.1 kx_17.2 rfl (Or.inl ⟨3, rfl, rfl, dL_names_15⟩) (by decide) ?_
        · exact fun z hz => by rw [List.mem_singleton] at hz; subst hz; exact ⟨by decide, xI, kx_13.1, by decide, by decide⟩
        · refine wq_iconst (pc := 16) dL_names_16 ?_
          exact wh_iret dL_names_17 rfl ⟨2, rfl, q⟩
theorem sw_nameAt {μ : nMem} {ε : nEnv} {Qw : Int → nMem → nEnv → Prop} {a1 a2 : Int} (hk : eKind ε 1 = 7) (h : Sp mX6_nameAt [vR 1, vI a1, vI a2] μ ε (kW [xI, xS] Qw)) : SpH mL_nameAt [(0, 10, 13, 13), (0, 10, 17, 17)] [vR 1, vI a1, vI a2, vR 56] μ ε (oW Qw) := by
  refine SpH_of (L := [(0, vR 1), (1, vI a1), (2, vI a2), (3, vR 56)]) (by decide) rfl rfl (Nat.le_of_ble_eq_true rfl) ?_
  refine wq_aload_n (pc := 0) dL_nameAt_0 rfl rfl ?_
  refine wq_iconst (pc := 1) dL_nameAt_1 ?_
  refine wq_aload_n (pc := 2) dL_nameAt_2 rfl rfl ?_
  refine wq_iload_n (pc := 3) dL_nameAt_3 rfl rfl ?_
  refine wq_iload_n (pc := 4) dL_nameAt_4 rfl rfl ?_
  refine wq_callV (as := [vI a1, vI a2]) (rest := [vI 0, vR 56]) (pc := 5) dL_nameAt_5 (cw_L_53 _ rfl) (by decide) hk ⟨by decide, by decide⟩ (Nat.le_of_ble_eq_true rfl) h (fun r m e q => ?_) (fun E m e q => ?_)
  · rcases q with ⟨v, e1, v1, ⟨k1, n1⟩, q⟩ | ⟨i, E, e1, -⟩
    · have e1 : r = some (vI v) := by injection e1
      subst e1
      refine wq_i2l (pc := 8) dL_nameAt_8 v1 ?_
      refine wq_last (pc := 9) dL_nameAt_9 k1 (by omega) (by omega) ?_
      refine wq_goto (pc := 10) (tgt := 21) dL_nameAt_10 rfl ?_
      refine wq_iconst (pc := 21) dL_nameAt_21 ?_
      exact wh_iret dL_nameAt_22 rfl ⟨0, rfl, q⟩
    · exact absurd e1 (by intro z; cases z)
  · rcases q with ⟨v, e1, -⟩ | ⟨i, E', e1, hi, hE, q⟩
    · exact absurd e1 (by intro z; cases z)
    · have e1 : E = E' := by injection e1
      subst e1
      have hi : i < 2 := hi
      have hi2 : i = 0 ∨ i = 1 := by omega
      rcases hi2 with e | e
      · subst e
        have hE : xI = E := by injection hE
        subst hE
        refine wx_catch (hp := 13) (i := 4) (ln := 2) [] ⟨0, 10, 13, 13⟩ [⟨0, 10, 17, 17⟩] rfl ?_ mXI (by decide) (by decide) kx_13.1 kx_13.2 rfl (Or.inr ⟨rfl, dL_nameAt_13⟩) (by decide) ?_
        · exact fun z hz => absurd hz List.not_mem_nil
        · refine wq_iconst (pc := 15) dL_nameAt_15 ?_
          exact wh_iret dL_nameAt_16 rfl ⟨1, rfl, q⟩
      · subst e
        have hE : xS = E := by injection hE
        subst hE
        refine wx_catch (hp := 17) (i := 4) (ln := 2) [⟨0, 10, 13, 13⟩] ⟨0, 10, 17, 17⟩ [] rfl ?_ mXS (by decide) (by decide) kx_17.1 kx_17.2 rfl (Or.inr ⟨rfl, dL_nameAt_17⟩) (by decide) ?_
        · exact fun z hz => by rw [List.mem_singleton] at hz; subst hz; exact ⟨by decide, xI, kx_13.1, by decide, by decide⟩
        · refine wq_iconst (pc := 19) dL_nameAt_19 ?_
          exact wh_iret dL_nameAt_20 rfl ⟨2, rfl, q⟩
theorem sw_links {μ : nMem} {ε : nEnv} {Qw : Int → nMem → nEnv → Prop} {a1 : Int} (hk : eKind ε 1 = 7) (h : Sp mX6_links [vR 1, vI a1] μ ε (kW [xI, xS] Qw)) : SpH mL_links [(0, 9, 12, 13), (0, 9, 15, 17)] [vR 1, vI a1, vR 56] μ ε (oW Qw) := by
  refine SpH_of (L := [(0, vR 1), (1, vI a1), (2, vR 56)]) (by decide) rfl rfl (Nat.le_of_ble_eq_true rfl) ?_
  refine wq_aload_n (pc := 0) dL_links_0 rfl rfl ?_
  refine wq_iconst (pc := 1) dL_links_1 ?_
  refine wq_aload_n (pc := 2) dL_links_2 rfl rfl ?_
  refine wq_iload_n (pc := 3) dL_links_3 rfl rfl ?_
  refine wq_callV (as := [vI a1]) (rest := [vI 0, vR 56]) (pc := 4) dL_links_4 (cw_L_60 _ rfl) (by decide) hk ⟨by decide, by decide⟩ (Nat.le_of_ble_eq_true rfl) h (fun r m e q => ?_) (fun E m e q => ?_)
  · rcases q with ⟨v, e1, v1, ⟨k1, n1⟩, q⟩ | ⟨i, E, e1, -⟩
    · have e1 : r = some (vI v) := by injection e1
      subst e1
      refine wq_i2l (pc := 7) dL_links_7 v1 ?_
      refine wq_last (pc := 8) dL_links_8 k1 (by omega) (by omega) ?_
      refine wq_goto (pc := 9) (tgt := 18) dL_links_9 rfl ?_
      refine wq_iconst (pc := 18) dL_links_18 ?_
      exact wh_iret dL_links_19 rfl ⟨0, rfl, q⟩
    · exact absurd e1 (by intro z; cases z)
  · rcases q with ⟨v, e1, -⟩ | ⟨i, E', e1, hi, hE, q⟩
    · exact absurd e1 (by intro z; cases z)
    · have e1 : E = E' := by injection e1
      subst e1
      have hi : i < 2 := hi
      have hi2 : i = 0 ∨ i = 1 := by omega
      rcases hi2 with e | e
      · subst e
        have hE : xI = E := by injection hE
        subst hE
        refine wx_catch (hp := 12) (i := 3) (ln := 1) [] ⟨0, 9, 12, 13⟩ [⟨0, 9, 15, 17⟩] rfl ?_ mXI (by decide) (by decide) kx_13.1 kx_13.2 rfl (Or.inl ⟨3, rfl, rfl, dL_links_12⟩) (by decide) ?_
        · exact fun z hz => absurd hz List.not_mem_nil
        · refine wq_iconst (pc := 13) dL_links_13 ?_
          exact wh_iret dL_links_14 rfl ⟨1, rfl, q⟩
      · subst e
        have hE : xS = E := by injection hE
        subst hE
        refine wx_catch (hp := 15) (i := 3) (ln := 1) [⟨0, 9, 12, 13⟩] ⟨0, 9, 15, 17⟩ [] rfl ?_ mXS (by decide) (by decide) kx_17.1 kx_17.2 rfl (Or.inl ⟨3, rfl, rfl, dL_links_15⟩) (by decide) ?_
        · exact fun z hz => by rw [List.mem_singleton] at hz; subst hz; exact ⟨by decide, xI, kx_13.1, by decide, by decide⟩
        · refine wq_iconst (pc := 16) dL_links_16 ?_
          exact wh_iret dL_links_17 rfl ⟨2, rfl, q⟩
theorem sw_length {μ : nMem} {ε : nEnv} {Qw : Int → nMem → nEnv → Prop} {a1 : Int} (hk : eKind ε 1 = 7) (h : Sp mX6_length [vR 1, vI a1] μ ε (kW [xI, xS] Qw)) : SpH mL_length [(0, 9, 12, 13), (0, 9, 15, 17)] [vR 1, vI a1, vR 56] μ ε (oW Qw) := by
  refine SpH_of (L := [(0, vR 1), (1, vI a1), (2, vR 56)]) (by decide) rfl rfl (Nat.le_of_ble_eq_true rfl) ?_
  refine wq_aload_n (pc := 0) dL_length_0 rfl rfl ?_
  refine wq_iconst (pc := 1) dL_length_1 ?_
  refine wq_aload_n (pc := 2) dL_length_2 rfl rfl ?_
  refine wq_iload_n (pc := 3) dL_length_3 rfl rfl ?_
  refine wq_callV (as := [vI a1]) (rest := [vI 0, vR 56]) (pc := 4) dL_length_4 (cw_L_63 _ rfl) (by decide) hk ⟨by decide, by decide⟩ (Nat.le_of_ble_eq_true rfl) h (fun r m e q => ?_) (fun E m e q => ?_)
  · rcases q with ⟨v, e1, v1, ⟨k1, n1⟩, q⟩ | ⟨i, E, e1, -⟩
    · have e1 : r = some (vI v) := by injection e1
      subst e1
      refine wq_i2l (pc := 7) dL_length_7 v1 ?_
      refine wq_last (pc := 8) dL_length_8 k1 (by omega) (by omega) ?_
      refine wq_goto (pc := 9) (tgt := 18) dL_length_9 rfl ?_
      refine wq_iconst (pc := 18) dL_length_18 ?_
      exact wh_iret dL_length_19 rfl ⟨0, rfl, q⟩
    · exact absurd e1 (by intro z; cases z)
  · rcases q with ⟨v, e1, -⟩ | ⟨i, E', e1, hi, hE, q⟩
    · exact absurd e1 (by intro z; cases z)
    · have e1 : E = E' := by injection e1
      subst e1
      have hi : i < 2 := hi
      have hi2 : i = 0 ∨ i = 1 := by omega
      rcases hi2 with e | e
      · subst e
        have hE : xI = E := by injection hE
        subst hE
        refine wx_catch (hp := 12) (i := 3) (ln := 1) [] ⟨0, 9, 12, 13⟩ [⟨0, 9, 15, 17⟩] rfl ?_ mXI (by decide) (by decide) kx_13.1 kx_13.2 rfl (Or.inl ⟨3, rfl, rfl, dL_length_12⟩) (by decide) ?_
        · exact fun z hz => absurd hz List.not_mem_nil
        · refine wq_iconst (pc := 13) dL_length_13 ?_
          exact wh_iret dL_length_14 rfl ⟨1, rfl, q⟩
      · subst e
        have hE : xS = E := by injection hE
        subst hE
        refine wx_catch (hp := 15) (i := 3) (ln := 1) [⟨0, 9, 12, 13⟩] ⟨0, 9, 15, 17⟩ [] rfl ?_ mXS (by decide) (by decide) kx_17.1 kx_17.2 rfl (Or.inl ⟨3, rfl, rfl, dL_length_15⟩) (by decide) ?_
        · exact fun z hz => by rw [List.mem_singleton] at hz; subst hz; exact ⟨by decide, xI, kx_13.1, by decide, by decide⟩
        · refine wq_iconst (pc := 16) dL_length_16 ?_
          exact wh_iret dL_length_17 rfl ⟨2, rfl, q⟩
theorem sw_byteAt {μ : nMem} {ε : nEnv} {Qw : Int → nMem → nEnv → Prop} {a1 a2 : Int} (hk : eKind ε 1 = 7) (h : Sp mX6_byteAt [vR 1, vI a1, vI a2] μ ε (kW [xI, xS] Qw)) : SpH mL_byteAt [(0, 10, 13, 13), (0, 10, 17, 17)] [vR 1, vI a1, vI a2, vR 56] μ ε (oW Qw) := by
  refine SpH_of (L := [(0, vR 1), (1, vI a1), (2, vI a2), (3, vR 56)]) (by decide) rfl rfl (Nat.le_of_ble_eq_true rfl) ?_
  refine wq_aload_n (pc := 0) dL_byteAt_0 rfl rfl ?_
  refine wq_iconst (pc := 1) dL_byteAt_1 ?_
  refine wq_aload_n (pc := 2) dL_byteAt_2 rfl rfl ?_
  refine wq_iload_n (pc := 3) dL_byteAt_3 rfl rfl ?_
  refine wq_iload_n (pc := 4) dL_byteAt_4 rfl rfl ?_
  refine wq_callV (as := [vI a1, vI a2]) (rest := [vI 0, vR 56]) (pc := 5) dL_byteAt_5 (cw_L_66 _ rfl) (by decide) hk ⟨by decide, by decide⟩ (Nat.le_of_ble_eq_true rfl) h (fun r m e q => ?_) (fun E m e q => ?_)
  · rcases q with ⟨v, e1, v1, ⟨k1, n1⟩, q⟩ | ⟨i, E, e1, -⟩
    · have e1 : r = some (vI v) := by injection e1
      subst e1
      refine wq_i2l (pc := 8) dL_byteAt_8 v1 ?_
      refine wq_last (pc := 9) dL_byteAt_9 k1 (by omega) (by omega) ?_
      refine wq_goto (pc := 10) (tgt := 21) dL_byteAt_10 rfl ?_
      refine wq_iconst (pc := 21) dL_byteAt_21 ?_
      exact wh_iret dL_byteAt_22 rfl ⟨0, rfl, q⟩
    · exact absurd e1 (by intro z; cases z)
  · rcases q with ⟨v, e1, -⟩ | ⟨i, E', e1, hi, hE, q⟩
    · exact absurd e1 (by intro z; cases z)
    · have e1 : E = E' := by injection e1
      subst e1
      have hi : i < 2 := hi
      have hi2 : i = 0 ∨ i = 1 := by omega
      rcases hi2 with e | e
      · subst e
        have hE : xI = E := by injection hE
        subst hE
        refine wx_catch (hp := 13) (i := 4) (ln := 2) [] ⟨0, 10, 13, 13⟩ [⟨0, 10, 17, 17⟩] rfl ?_ mXI (by decide) (by decide) kx_13.1 kx_13.2 rfl (Or.inr ⟨rfl, dL_byteAt_13⟩) (by decide) ?_
        · exact fun z hz => absurd hz List.not_mem_nil
        · refine wq_iconst (pc := 15) dL_byteAt_15 ?_
          exact wh_iret dL_byteAt_16 rfl ⟨1, rfl, q⟩
      · subst e
        have hE : xS = E := by injection hE
        subst hE
        refine wx_catch (hp := 17) (i := 4) (ln := 2) [⟨0, 10, 13, 13⟩] ⟨0, 10, 17, 17⟩ [] rfl ?_ mXS (by decide) (by decide) kx_17.1 kx_17.2 rfl (Or.inr ⟨rfl, dL_byteAt_17⟩) (by decide) ?_
        · exact fun z hz => by rw [List.mem_singleton] at hz; subst hz; exact ⟨by decide, xI, kx_13.1, by decide, by decide⟩
        · refine wq_iconst (pc := 19) dL_byteAt_19 ?_
          exact wh_iret dL_byteAt_20 rfl ⟨2, rfl, q⟩
theorem sw_byteByNodes {μ : nMem} {ε : nEnv} {Qw : Int → nMem → nEnv → Prop} {a1 a2 : Int} (hk : eKind ε 1 = 7) (h : Sp mX6_byteByNodes [vR 1, vI a1, vI a2] μ ε (kW [xI, xS] Qw)) : SpH mL_byteByNodes [(0, 10, 13, 13), (0, 10, 17, 17)] [vR 1, vI a1, vI a2, vR 56] μ ε (oW Qw) := by
  refine SpH_of (L := [(0, vR 1), (1, vI a1), (2, vI a2), (3, vR 56)]) (by decide) rfl rfl (Nat.le_of_ble_eq_true rfl) ?_
  refine wq_aload_n (pc := 0) dL_byteByNodes_0 rfl rfl ?_
  refine wq_iconst (pc := 1) dL_byteByNodes_1 ?_
  refine wq_aload_n (pc := 2) dL_byteByNodes_2 rfl rfl ?_
  refine wq_iload_n (pc := 3) dL_byteByNodes_3 rfl rfl ?_
  refine wq_iload_n (pc := 4) dL_byteByNodes_4 rfl rfl ?_
  refine wq_callV (as := [vI a1, vI a2]) (rest := [vI 0, vR 56]) (pc := 5) dL_byteByNodes_5 (cw_L_69 _ rfl) (by decide) hk ⟨by decide, by decide⟩ (Nat.le_of_ble_eq_true rfl) h (fun r m e q => ?_) (fun E m e q => ?_)
  · rcases q with ⟨v, e1, v1, ⟨k1, n1⟩, q⟩ | ⟨i, E, e1, -⟩
    · have e1 : r = some (vI v) := by injection e1
      subst e1
      refine wq_i2l (pc := 8) dL_byteByNodes_8 v1 ?_
      refine wq_last (pc := 9) dL_byteByNodes_9 k1 (by omega) (by omega) ?_
      refine wq_goto (pc := 10) (tgt := 21) dL_byteByNodes_10 rfl ?_
      refine wq_iconst (pc := 21) dL_byteByNodes_21 ?_
      exact wh_iret dL_byteByNodes_22 rfl ⟨0, rfl, q⟩
    · exact absurd e1 (by intro z; cases z)
  · rcases q with ⟨v, e1, -⟩ | ⟨i, E', e1, hi, hE, q⟩
    · exact absurd e1 (by intro z; cases z)
    · have e1 : E = E' := by injection e1
      subst e1
      have hi : i < 2 := hi
      have hi2 : i = 0 ∨ i = 1 := by omega
      rcases hi2 with e | e
      · subst e
        have hE : xI = E := by injection hE
        subst hE
        refine wx_catch (hp := 13) (i := 4) (ln := 2) [] ⟨0, 10, 13, 13⟩ [⟨0, 10, 17, 17⟩] rfl ?_ mXI (by decide) (by decide) kx_13.1 kx_13.2 rfl (Or.inr ⟨rfl, dL_byteByNodes_13⟩) (by decide) ?_
        · exact fun z hz => absurd hz List.not_mem_nil
        · refine wq_iconst (pc := 15) dL_byteByNodes_15 ?_
          exact wh_iret dL_byteByNodes_16 rfl ⟨1, rfl, q⟩
      · subst e
        have hE : xS = E := by injection hE
        subst hE
        refine wx_catch (hp := 17) (i := 4) (ln := 2) [⟨0, 10, 13, 13⟩] ⟨0, 10, 17, 17⟩ [] rfl ?_ mXS (by decide) (by decide) kx_17.1 kx_17.2 rfl (Or.inr ⟨rfl, dL_byteByNodes_17⟩) (by decide) ?_
        · exact fun z hz => by rw [List.mem_singleton] at hz; subst hz; exact ⟨by decide, xI, kx_13.1, by decide, by decide⟩
        · refine wq_iconst (pc := 19) dL_byteByNodes_19 ?_
          exact wh_iret dL_byteByNodes_20 rfl ⟨2, rfl, q⟩
theorem sw_state {μ : nMem} {ε : nEnv} {Qw : Int → nMem → nEnv → Prop} {a1 : Int} (hk : eKind ε 1 = 7) (h : Sp mX6_state [vR 1, vI a1] μ ε (kW [xI, xS] Qw)) : SpH mL_state [(0, 9, 12, 13), (0, 9, 15, 17)] [vR 1, vI a1, vR 56] μ ε (oW Qw) := by
  refine SpH_of (L := [(0, vR 1), (1, vI a1), (2, vR 56)]) (by decide) rfl rfl (Nat.le_of_ble_eq_true rfl) ?_
  refine wq_aload_n (pc := 0) dL_state_0 rfl rfl ?_
  refine wq_iconst (pc := 1) dL_state_1 ?_
  refine wq_aload_n (pc := 2) dL_state_2 rfl rfl ?_
  refine wq_iload_n (pc := 3) dL_state_3 rfl rfl ?_
  refine wq_callV (as := [vI a1]) (rest := [vI 0, vR 56]) (pc := 4) dL_state_4 (cw_L_72 _ rfl) (by decide) hk ⟨by decide, by decide⟩ (Nat.le_of_ble_eq_true rfl) h (fun r m e q => ?_) (fun E m e q => ?_)
  · rcases q with ⟨v, e1, v1, ⟨k1, n1⟩, q⟩ | ⟨i, E, e1, -⟩
    · have e1 : r = some (vI v) := by injection e1
      subst e1
      refine wq_i2l (pc := 7) dL_state_7 v1 ?_
      refine wq_last (pc := 8) dL_state_8 k1 (by omega) (by omega) ?_
      refine wq_goto (pc := 9) (tgt := 18) dL_state_9 rfl ?_
      refine wq_iconst (pc := 18) dL_state_18 ?_
      exact wh_iret dL_state_19 rfl ⟨0, rfl, q⟩
    · exact absurd e1 (by intro z; cases z)
  · rcases q with ⟨v, e1, -⟩ | ⟨i, E', e1, hi, hE, q⟩
    · exact absurd e1 (by intro z; cases z)
    · have e1 : E = E' := by injection e1
      subst e1
      have hi : i < 2 := hi
      have hi2 : i = 0 ∨ i = 1 := by omega
      rcases hi2 with e | e
      · subst e
        have hE : xI = E := by injection hE
        subst hE
        refine wx_catch (hp := 12) (i := 3) (ln := 1) [] ⟨0, 9, 12, 13⟩ [⟨0, 9, 15, 17⟩] rfl ?_ mXI (by decide) (by decide) kx_13.1 kx_13.2 rfl (Or.inl ⟨3, rfl, rfl, dL_state_12⟩) (by decide) ?_
        · exact fun z hz => absurd hz List.not_mem_nil
        · refine wq_iconst (pc := 13) dL_state_13 ?_
          exact wh_iret dL_state_14 rfl ⟨1, rfl, q⟩
      · subst e
        have hE : xS = E := by injection hE
        subst hE
        refine wx_catch (hp := 15) (i := 3) (ln := 1) [⟨0, 9, 12, 13⟩] ⟨0, 9, 15, 17⟩ [] rfl ?_ mXS (by decide) (by decide) kx_17.1 kx_17.2 rfl (Or.inl ⟨3, rfl, rfl, dL_state_15⟩) (by decide) ?_
        · exact fun z hz => by rw [List.mem_singleton] at hz; subst hz; exact ⟨by decide, xI, kx_13.1, by decide, by decide⟩
        · refine wq_iconst (pc := 16) dL_state_16 ?_
          exact wh_iret dL_state_17 rfl ⟨2, rfl, q⟩
theorem sw_dead {μ : nMem} {ε : nEnv} {Qw : Int → nMem → nEnv → Prop} {a1 : Int} (hk : eKind ε 1 = 7) (h : Sp mX6_dead [vR 1, vI a1] μ ε (kW [xI, xS] Qw)) : SpH mL_dead [(0, 9, 12, 13), (0, 9, 15, 17)] [vR 1, vI a1, vR 56] μ ε (oW Qw) := by
  refine SpH_of (L := [(0, vR 1), (1, vI a1), (2, vR 56)]) (by decide) rfl rfl (Nat.le_of_ble_eq_true rfl) ?_
  refine wq_aload_n (pc := 0) dL_dead_0 rfl rfl ?_
  refine wq_iconst (pc := 1) dL_dead_1 ?_
  refine wq_aload_n (pc := 2) dL_dead_2 rfl rfl ?_
  refine wq_iload_n (pc := 3) dL_dead_3 rfl rfl ?_
  refine wq_callV (as := [vI a1]) (rest := [vI 0, vR 56]) (pc := 4) dL_dead_4 (cw_L_75 _ rfl) (by decide) hk ⟨by decide, by decide⟩ (Nat.le_of_ble_eq_true rfl) h (fun r m e q => ?_) (fun E m e q => ?_)
  · rcases q with ⟨v, e1, v1, ⟨k1, n1⟩, q⟩ | ⟨i, E, e1, -⟩
    · have e1 : r = some (vI v) := by injection e1
      subst e1
      refine wq_i2l (pc := 7) dL_dead_7 v1 ?_
      refine wq_last (pc := 8) dL_dead_8 k1 (by omega) (by omega) ?_
      refine wq_goto (pc := 9) (tgt := 18) dL_dead_9 rfl ?_
      refine wq_iconst (pc := 18) dL_dead_18 ?_
      exact wh_iret dL_dead_19 rfl ⟨0, rfl, q⟩
    · exact absurd e1 (by intro z; cases z)
  · rcases q with ⟨v, e1, -⟩ | ⟨i, E', e1, hi, hE, q⟩
    · exact absurd e1 (by intro z; cases z)
    · have e1 : E = E' := by injection e1
      subst e1
      have hi : i < 2 := hi
      have hi2 : i = 0 ∨ i = 1 := by omega
      rcases hi2 with e | e
      · subst e
        have hE : xI = E := by injection hE
        subst hE
        refine wx_catch (hp := 12) (i := 3) (ln := 1) [] ⟨0, 9, 12, 13⟩ [⟨0, 9, 15, 17⟩] rfl ?_ mXI (by decide) (by decide) kx_13.1 kx_13.2 rfl (Or.inl ⟨3, rfl, rfl, dL_dead_12⟩) (by decide) ?_
        · exact fun z hz => absurd hz List.not_mem_nil
        · refine wq_iconst (pc := 13) dL_dead_13 ?_
          exact wh_iret dL_dead_14 rfl ⟨1, rfl, q⟩
      · subst e
        have hE : xS = E := by injection hE
        subst hE
        refine wx_catch (hp := 15) (i := 3) (ln := 1) [⟨0, 9, 12, 13⟩] ⟨0, 9, 15, 17⟩ [] rfl ?_ mXS (by decide) (by decide) kx_17.1 kx_17.2 rfl (Or.inl ⟨3, rfl, rfl, dL_dead_15⟩) (by decide) ?_
        · exact fun z hz => by rw [List.mem_singleton] at hz; subst hz; exact ⟨by decide, xI, kx_13.1, by decide, by decide⟩
        · refine wq_iconst (pc := 16) dL_dead_16 ?_
          exact wh_iret dL_dead_17 rfl ⟨2, rfl, q⟩
theorem sw_toCopy {μ : nMem} {ε : nEnv} {Qw : Int → nMem → nEnv → Prop} {a1 : Int} (hk : eKind ε 1 = 7) (h : Sp mX6_toCopy [vR 1, vI a1] μ ε (kW [xI, xS] Qw)) : SpH mL_toCopy [(0, 9, 12, 13), (0, 9, 15, 17)] [vR 1, vI a1, vR 56] μ ε (oW Qw) := by
  refine SpH_of (L := [(0, vR 1), (1, vI a1), (2, vR 56)]) (by decide) rfl rfl (Nat.le_of_ble_eq_true rfl) ?_
  refine wq_aload_n (pc := 0) dL_toCopy_0 rfl rfl ?_
  refine wq_iconst (pc := 1) dL_toCopy_1 ?_
  refine wq_aload_n (pc := 2) dL_toCopy_2 rfl rfl ?_
  refine wq_iload_n (pc := 3) dL_toCopy_3 rfl rfl ?_
  refine wq_callV (as := [vI a1]) (rest := [vI 0, vR 56]) (pc := 4) dL_toCopy_4 (cw_L_78 _ rfl) (by decide) hk ⟨by decide, by decide⟩ (Nat.le_of_ble_eq_true rfl) h (fun r m e q => ?_) (fun E m e q => ?_)
  · rcases q with ⟨v, e1, v1, ⟨k1, n1⟩, q⟩ | ⟨i, E, e1, -⟩
    · have e1 : r = some (vI v) := by injection e1
      subst e1
      refine wq_i2l (pc := 7) dL_toCopy_7 v1 ?_
      refine wq_last (pc := 8) dL_toCopy_8 k1 (by omega) (by omega) ?_
      refine wq_goto (pc := 9) (tgt := 18) dL_toCopy_9 rfl ?_
      refine wq_iconst (pc := 18) dL_toCopy_18 ?_
      exact wh_iret dL_toCopy_19 rfl ⟨0, rfl, q⟩
    · exact absurd e1 (by intro z; cases z)
  · rcases q with ⟨v, e1, -⟩ | ⟨i, E', e1, hi, hE, q⟩
    · exact absurd e1 (by intro z; cases z)
    · have e1 : E = E' := by injection e1
      subst e1
      have hi : i < 2 := hi
      have hi2 : i = 0 ∨ i = 1 := by omega
      rcases hi2 with e | e
      · subst e
        have hE : xI = E := by injection hE
        subst hE
        refine wx_catch (hp := 12) (i := 3) (ln := 1) [] ⟨0, 9, 12, 13⟩ [⟨0, 9, 15, 17⟩] rfl ?_ mXI (by decide) (by decide) kx_13.1 kx_13.2 rfl (Or.inl ⟨3, rfl, rfl, dL_toCopy_12⟩) (by decide) ?_
        · exact fun z hz => absurd hz List.not_mem_nil
        · refine wq_iconst (pc := 13) dL_toCopy_13 ?_
          exact wh_iret dL_toCopy_14 rfl ⟨1, rfl, q⟩
      · subst e
        have hE : xS = E := by injection hE
        subst hE
        refine wx_catch (hp := 15) (i := 3) (ln := 1) [⟨0, 9, 12, 13⟩] ⟨0, 9, 15, 17⟩ [] rfl ?_ mXS (by decide) (by decide) kx_17.1 kx_17.2 rfl (Or.inl ⟨3, rfl, rfl, dL_toCopy_15⟩) (by decide) ?_
        · exact fun z hz => by rw [List.mem_singleton] at hz; subst hz; exact ⟨by decide, xI, kx_13.1, by decide, by decide⟩
        · refine wq_iconst (pc := 16) dL_toCopy_16 ?_
          exact wh_iret dL_toCopy_17 rfl ⟨2, rfl, q⟩
theorem sw_written {μ : nMem} {ε : nEnv} {Qw : Int → nMem → nEnv → Prop} {a1 : Int} (hk : eKind ε 1 = 7) (h : Sp mX6_written [vR 1, vI a1] μ ε (kW [xI] Qw)) : SpH mL_written [(0, 9, 12, 13)] [vR 1, vI a1, vR 56] μ ε (oW Qw) := by
  refine SpH_of (L := [(0, vR 1), (1, vI a1), (2, vR 56)]) (by decide) rfl rfl (Nat.le_of_ble_eq_true rfl) ?_
  refine wq_aload_n (pc := 0) dL_written_0 rfl rfl ?_
  refine wq_iconst (pc := 1) dL_written_1 ?_
  refine wq_aload_n (pc := 2) dL_written_2 rfl rfl ?_
  refine wq_iload_n (pc := 3) dL_written_3 rfl rfl ?_
  refine wq_callV (as := [vI a1]) (rest := [vI 0, vR 56]) (pc := 4) dL_written_4 (cw_L_81 _ rfl) (by decide) hk ⟨by decide, by decide⟩ (Nat.le_of_ble_eq_true rfl) h (fun r m e q => ?_) (fun E m e q => ?_)
  · rcases q with ⟨v, e1, v1, ⟨k1, n1⟩, q⟩ | ⟨i, E, e1, -⟩
    · have e1 : r = some (vI v) := by injection e1
      subst e1
      refine wq_i2l (pc := 7) dL_written_7 v1 ?_
      refine wq_last (pc := 8) dL_written_8 k1 (by omega) (by omega) ?_
      refine wq_goto (pc := 9) (tgt := 15) dL_written_9 rfl ?_
      refine wq_iconst (pc := 15) dL_written_15 ?_
      exact wh_iret dL_written_16 rfl ⟨0, rfl, q⟩
    · exact absurd e1 (by intro z; cases z)
  · rcases q with ⟨v, e1, -⟩ | ⟨i, E', e1, hi, hE, q⟩
    · exact absurd e1 (by intro z; cases z)
    · have e1 : E = E' := by injection e1
      subst e1
      have hi : i < 1 := hi
      have e : i = 0 := by omega
      subst e
      have hE : xI = E := by injection hE
      subst hE
      refine wx_catch (hp := 12) (i := 3) (ln := 1) [] ⟨0, 9, 12, 13⟩ [] rfl ?_ mXI (by decide) (by decide) kx_13.1 kx_13.2 rfl (Or.inl ⟨3, rfl, rfl, dL_written_12⟩) (by decide) ?_
      · exact fun z hz => absurd hz List.not_mem_nil
      · refine wq_iconst (pc := 13) dL_written_13 ?_
        exact wh_iret dL_written_14 rfl ⟨1, rfl, q⟩
theorem sw_nodes {μ : nMem} {ε : nEnv} {Qw : Int → nMem → nEnv → Prop} {a1 : Int} (hk : eKind ε 1 = 7) (h : Sp mX6_nodes [vR 1, vI a1] μ ε (kW [xI] Qw)) : SpH mL_nodes [(0, 9, 12, 13)] [vR 1, vI a1, vR 56] μ ε (oW Qw) := by
  refine SpH_of (L := [(0, vR 1), (1, vI a1), (2, vR 56)]) (by decide) rfl rfl (Nat.le_of_ble_eq_true rfl) ?_
  refine wq_aload_n (pc := 0) dL_nodes_0 rfl rfl ?_
  refine wq_iconst (pc := 1) dL_nodes_1 ?_
  refine wq_aload_n (pc := 2) dL_nodes_2 rfl rfl ?_
  refine wq_iload_n (pc := 3) dL_nodes_3 rfl rfl ?_
  refine wq_callV (as := [vI a1]) (rest := [vI 0, vR 56]) (pc := 4) dL_nodes_4 (cw_L_84 _ rfl) (by decide) hk ⟨by decide, by decide⟩ (Nat.le_of_ble_eq_true rfl) h (fun r m e q => ?_) (fun E m e q => ?_)
  · rcases q with ⟨v, e1, v1, ⟨k1, n1⟩, q⟩ | ⟨i, E, e1, -⟩
    · have e1 : r = some (vI v) := by injection e1
      subst e1
      refine wq_i2l (pc := 7) dL_nodes_7 v1 ?_
      refine wq_last (pc := 8) dL_nodes_8 k1 (by omega) (by omega) ?_
      refine wq_goto (pc := 9) (tgt := 15) dL_nodes_9 rfl ?_
      refine wq_iconst (pc := 15) dL_nodes_15 ?_
      exact wh_iret dL_nodes_16 rfl ⟨0, rfl, q⟩
    · exact absurd e1 (by intro z; cases z)
  · rcases q with ⟨v, e1, -⟩ | ⟨i, E', e1, hi, hE, q⟩
    · exact absurd e1 (by intro z; cases z)
    · have e1 : E = E' := by injection e1
      subst e1
      have hi : i < 1 := hi
      have e : i = 0 := by omega
      subst e
      have hE : xI = E := by injection hE
      subst hE
      refine wx_catch (hp := 12) (i := 3) (ln := 1) [] ⟨0, 9, 12, 13⟩ [] rfl ?_ mXI (by decide) (by decide) kx_13.1 kx_13.2 rfl (Or.inl ⟨3, rfl, rfl, dL_nodes_12⟩) (by decide) ?_
      · exact fun z hz => absurd hz List.not_mem_nil
      · refine wq_iconst (pc := 13) dL_nodes_13 ?_
        exact wh_iret dL_nodes_14 rfl ⟨1, rfl, q⟩
theorem sw_node {μ : nMem} {ε : nEnv} {Qw : Int → nMem → nEnv → Prop} {a1 a2 : Int} (hk : eKind ε 1 = 7) (h : Sp mX6_node [vR 1, vI a1, vI a2] μ ε (kWJ [xI] Qw)) : SpH mL_node [(0, 9, 12, 13)] [vR 1, vI a1, vI a2, vR 56] μ ε (oW Qw) := by
  refine SpH_of (L := [(0, vR 1), (1, vI a1), (2, vI a2), (3, vR 56)]) (by decide) rfl rfl (Nat.le_of_ble_eq_true rfl) ?_
  refine wq_aload_n (pc := 0) dL_node_0 rfl rfl ?_
  refine wq_iconst (pc := 1) dL_node_1 ?_
  refine wq_aload_n (pc := 2) dL_node_2 rfl rfl ?_
  refine wq_iload_n (pc := 3) dL_node_3 rfl rfl ?_
  refine wq_iload_n (pc := 4) dL_node_4 rfl rfl ?_
  refine wq_callV (as := [vI a1, vI a2]) (rest := [vI 0, vR 56]) (pc := 5) dL_node_5 (cw_L_87 _ rfl) (by decide) hk ⟨by decide, by decide⟩ (Nat.le_of_ble_eq_true rfl) h (fun r m e q => ?_) (fun E m e q => ?_)
  · rcases q with ⟨v, e1, ⟨k1, n1⟩, q⟩ | ⟨i, E, e1, -⟩
    · have e1 : r = some (vJ v) := by injection e1
      subst e1
      refine wq_last (pc := 8) dL_node_8 k1 (by omega) (by omega) ?_
      refine wq_goto (pc := 9) (tgt := 16) dL_node_9 rfl ?_
      refine wq_iconst (pc := 16) dL_node_16 ?_
      exact wh_iret dL_node_17 rfl ⟨0, rfl, q⟩
    · exact absurd e1 (by intro z; cases z)
  · rcases q with ⟨v, e1, -⟩ | ⟨i, E', e1, hi, hE, q⟩
    · exact absurd e1 (by intro z; cases z)
    · have e1 : E = E' := by injection e1
      subst e1
      have hi : i < 1 := hi
      have e : i = 0 := by omega
      subst e
      have hE : xI = E := by injection hE
      subst hE
      refine wx_catch (hp := 12) (i := 4) (ln := 2) [] ⟨0, 9, 12, 13⟩ [] rfl ?_ mXI (by decide) (by decide) kx_13.1 kx_13.2 rfl (Or.inr ⟨rfl, dL_node_12⟩) (by decide) ?_
      · exact fun z hz => absurd hz List.not_mem_nil
      · refine wq_iconst (pc := 14) dL_node_14 ?_
        exact wh_iret dL_node_15 rfl ⟨1, rfl, q⟩
theorem sw_erased {μ : nMem} {ε : nEnv} {Qw : Int → nMem → nEnv → Prop} {a1 : Int} (hk : eKind ε 1 = 7) (h : Sp mX6_erased [vR 1, vI a1] μ ε (kW [xI] Qw)) : SpH mL_erased [(0, 9, 12, 13)] [vR 1, vI a1, vR 56] μ ε (oW Qw) := by
  refine SpH_of (L := [(0, vR 1), (1, vI a1), (2, vR 56)]) (by decide) rfl rfl (Nat.le_of_ble_eq_true rfl) ?_
  refine wq_aload_n (pc := 0) dL_erased_0 rfl rfl ?_
  refine wq_iconst (pc := 1) dL_erased_1 ?_
  refine wq_aload_n (pc := 2) dL_erased_2 rfl rfl ?_
  refine wq_iload_n (pc := 3) dL_erased_3 rfl rfl ?_
  refine wq_callV (as := [vI a1]) (rest := [vI 0, vR 56]) (pc := 4) dL_erased_4 (cw_L_91 _ rfl) (by decide) hk ⟨by decide, by decide⟩ (Nat.le_of_ble_eq_true rfl) h (fun r m e q => ?_) (fun E m e q => ?_)
  · rcases q with ⟨v, e1, v1, ⟨k1, n1⟩, q⟩ | ⟨i, E, e1, -⟩
    · have e1 : r = some (vI v) := by injection e1
      subst e1
      refine wq_i2l (pc := 7) dL_erased_7 v1 ?_
      refine wq_last (pc := 8) dL_erased_8 k1 (by omega) (by omega) ?_
      refine wq_goto (pc := 9) (tgt := 15) dL_erased_9 rfl ?_
      refine wq_iconst (pc := 15) dL_erased_15 ?_
      exact wh_iret dL_erased_16 rfl ⟨0, rfl, q⟩
    · exact absurd e1 (by intro z; cases z)
  · rcases q with ⟨v, e1, -⟩ | ⟨i, E', e1, hi, hE, q⟩
    · exact absurd e1 (by intro z; cases z)
    · have e1 : E = E' := by injection e1
      subst e1
      have hi : i < 1 := hi
      have e : i = 0 := by omega
      subst e
      have hE : xI = E := by injection hE
      subst hE
      refine wx_catch (hp := 12) (i := 3) (ln := 1) [] ⟨0, 9, 12, 13⟩ [] rfl ?_ mXI (by decide) (by decide) kx_13.1 kx_13.2 rfl (Or.inl ⟨3, rfl, rfl, dL_erased_12⟩) (by decide) ?_
      · exact fun z hz => absurd hz List.not_mem_nil
      · refine wq_iconst (pc := 13) dL_erased_13 ?_
        exact wh_iret dL_erased_14 rfl ⟨1, rfl, q⟩
theorem sw_isDirectory {μ : nMem} {ε : nEnv} {Qw : Int → nMem → nEnv → Prop} {a1 : Int} (hk : eKind ε 1 = 7) (h : Sp mX6_isDirectory [vR 1, vI a1] μ ε (fun o μ ε => kW [xI, xS] Qw o μ ε ∧ ∀ v, o = .inl (some (vI v)) → v = 0 ∨ v = 1)) : SpH mL_isDirectory [(0, 16, 19, 13), (0, 16, 22, 17)] [vR 1, vI a1, vR 56] μ ε (oW Qw) := by
  refine SpH_of (L := [(0, vR 1), (1, vI a1), (2, vR 56)]) (by decide) rfl rfl (Nat.le_of_ble_eq_true rfl) ?_
  refine wq_aload_n (pc := 0) dL_isDirectory_0 rfl rfl ?_
  refine wq_iconst (pc := 1) dL_isDirectory_1 ?_
  refine wq_aload_n (pc := 2) dL_isDirectory_2 rfl rfl ?_
  refine wq_iload_n (pc := 3) dL_isDirectory_3 rfl rfl ?_
  refine wq_callV (as := [vI a1]) (rest := [vI 0, vR 56]) (pc := 4) dL_isDirectory_4 (cw_L_56 _ rfl) (by decide) hk ⟨by decide, by decide⟩ (Nat.le_of_ble_eq_true rfl) h (fun r m e q => ?_) (fun E m e q => ?_)
  · obtain ⟨q, q01⟩ := q
    rcases q with ⟨v, e1, v1, ⟨k1, n1⟩, q⟩ | ⟨i, E, e1, -⟩
    · have v01 := q01 v e1
      have e1 : r = some (vI v) := by injection e1
      subst e1
      refine wq_if_eq (pc := 7) (tgt := 14) dL_isDirectory_7 (by decide) (by first | (unfold inR; omega) | assumption) (fun c => ?_) (fun c => ?_)
      · subst c
        refine wq_lconst (pc := 14) (v := 0) dL_isDirectory_14 rfl ?_
        refine wq_last (pc := 15) dL_isDirectory_15 k1 (by omega) (by omega) ?_
        refine wq_goto (pc := 16) (tgt := 25) dL_isDirectory_16 rfl ?_
        refine wq_iconst (pc := 25) dL_isDirectory_25 ?_
        exact wh_iret dL_isDirectory_26 rfl ⟨0, rfl, q⟩
      · have c1 : v = 1 := by rcases v01 with z | z; exact absurd z c; exact z
        subst c1
        refine wq_lconst (pc := 10) (v := 1) dL_isDirectory_10 rfl ?_
        refine wq_goto (pc := 11) (tgt := 15) dL_isDirectory_11 rfl ?_
        refine wq_last (pc := 15) dL_isDirectory_15 k1 (by omega) (by omega) ?_
        refine wq_goto (pc := 16) (tgt := 25) dL_isDirectory_16 rfl ?_
        refine wq_iconst (pc := 25) dL_isDirectory_25 ?_
        exact wh_iret dL_isDirectory_26 rfl ⟨0, rfl, q⟩
    · exact absurd e1 (by intro z; cases z)
  · obtain ⟨q, -⟩ := q
    rcases q with ⟨v, e1, -⟩ | ⟨i, E', e1, hi, hE, q⟩
    · exact absurd e1 (by intro z; cases z)
    · have e1 : E = E' := by injection e1
      subst e1
      have hi : i < 2 := hi
      have hi2 : i = 0 ∨ i = 1 := by omega
      rcases hi2 with e | e
      · subst e
        have hE : xI = E := by injection hE
        subst hE
        refine wx_catch (hp := 19) (i := 3) (ln := 1) [] ⟨0, 16, 19, 13⟩ [⟨0, 16, 22, 17⟩] rfl ?_ mXI (by decide) (by decide) kx_13.1 kx_13.2 rfl (Or.inl ⟨3, rfl, rfl, dL_isDirectory_19⟩) (by decide) ?_
        · exact fun z hz => absurd hz List.not_mem_nil
        · refine wq_iconst (pc := 20) dL_isDirectory_20 ?_
          exact wh_iret dL_isDirectory_21 rfl ⟨1, rfl, q⟩
      · subst e
        have hE : xS = E := by injection hE
        subst hE
        refine wx_catch (hp := 22) (i := 3) (ln := 1) [⟨0, 16, 19, 13⟩] ⟨0, 16, 22, 17⟩ [] rfl ?_ mXS (by decide) (by decide) kx_17.1 kx_17.2 rfl (Or.inl ⟨3, rfl, rfl, dL_isDirectory_22⟩) (by decide) ?_
        · exact fun z hz => by rw [List.mem_singleton] at hz; subst hz; exact ⟨by decide, xI, kx_13.1, by decide, by decide⟩
        · refine wq_iconst (pc := 23) dL_isDirectory_23 ?_
          exact wh_iret dL_isDirectory_24 rfl ⟨2, rfl, q⟩
