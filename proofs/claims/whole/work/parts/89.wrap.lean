/-! ### the law's wrappers -/
def xcode (E : String) : Int := if E = xI then 1 else if E = xA then 2 else 3
def kW (Qw : Int → nMem → nEnv → Prop) : nOut → nMem → nEnv → Prop := fun o μ ε => (∃ v, o = .inl (some (vI v)) ∧ inR v ∧ (eKind ε 56 = 12 ∧ eLen ε 56 = 1) ∧ Qw 0 (wr μ 56 0 v) ε) ∨ (∃ E, o = .inr E ∧ E ∈ nXs ∧ Qw (xcode E) μ ε)
def oW (Qw : Int → nMem → nEnv → Prop) : nOut → nMem → nEnv → Prop := fun o μ ε => ∃ c, o = .inl (some (vI c)) ∧ Qw c μ ε
abbrev hL10 : List (Nat × Nat × Nat × Nat) := [(0, 10, 13, 13), (0, 10, 17, 15), (0, 10, 21, 17)]
theorem sw_create {μ : nMem} {ε : nEnv} {Qw : Int → nMem → nEnv → Prop} {d nm : Int} (hk : eKind ε 1 = 7) (h : Sp mX6_create [vR 1, vI d, vI nm] μ ε (kW Qw)) : SpH mL_create hL10 [vR 1, vI d, vI nm, vR 56] μ ε (oW Qw) := by
  refine SpH_of (L := [(0, vR 1), (1, vI d), (2, vI nm), (3, vR 56)]) (by decide) rfl rfl (Nat.le_of_ble_eq_true rfl) ?_
  refine wq_aload_n (pc := 0) dL_create_0 rfl rfl ?_
  refine wq_iconst (pc := 1) dL_create_1 ?_
  refine wq_aload_n (pc := 2) dL_create_2 rfl rfl ?_
  refine wq_iload_n (pc := 3) dL_create_3 rfl rfl ?_
  refine wq_iload_n (pc := 4) dL_create_4 rfl rfl ?_
  refine wq_callV (as := [vI d, vI nm]) (rest := [vI 0, vR 56]) (pc := 5) dL_create_5 (cw_L_7 _ rfl) (by decide) hk ⟨by decide, by decide⟩ (Nat.le_of_ble_eq_true rfl) h (fun r m e q => ?_) (fun E m e q => ?_)
  · rcases q with ⟨v, e1, v1, ⟨k1, n1⟩, q⟩ | ⟨E, e1, -⟩
    · have e1 : r = some (vI v) := by injection e1
      subst e1
      refine wq_i2l (pc := 8) dL_create_8 v1 ?_
      refine wq_last (pc := 9) dL_create_9 k1 (by omega) (by omega) ?_
      refine wq_goto (pc := 10) (tgt := 25) dL_create_10 rfl ?_
      refine wq_iconst (pc := 25) dL_create_25 ?_
      exact wh_iret dL_create_26 rfl ⟨0, rfl, q⟩
    · exact absurd e1 (by intro z; cases z)
  · rcases q with ⟨v, e1, -⟩ | ⟨E', e1, hE, q⟩
    · exact absurd e1 (by intro z; cases z)
    · have e1 : E = E' := by injection e1
      subst e1
      have hE2 : E = xI ∨ E = xA ∨ E = xS := by simpa [nXs] using hE
      rcases hE2 with e | e | e <;> subst e
      · refine wx_catch (hp := 13) (i := 4) (ln := 2) [] ⟨0, 10, 13, 13⟩ [⟨0, 10, 17, 15⟩, ⟨0, 10, 21, 17⟩] rfl (fun z hz => absurd hz List.not_mem_nil) hE (by decide) (by decide) kx_13.1 kx_13.2 rfl (Or.inr ⟨rfl, dL_create_13⟩) (by decide) ?_
        refine wq_iconst (pc := 15) dL_create_15 ?_
        exact wh_iret dL_create_16 rfl ⟨1, rfl, q⟩
      · refine wx_catch (hp := 17) (i := 4) (ln := 2) [⟨0, 10, 13, 13⟩] ⟨0, 10, 17, 15⟩ [⟨0, 10, 21, 17⟩] rfl (fun z hz => by rw [List.mem_singleton] at hz; subst hz; exact ⟨by decide, xI, kx_13.1, by decide, by decide⟩) hE (by decide) (by decide) kx_15.1 kx_15.2 rfl (Or.inr ⟨rfl, dL_create_17⟩) (by decide) ?_
        refine wq_iconst (pc := 19) dL_create_19 ?_
        exact wh_iret dL_create_20 rfl ⟨2, rfl, q⟩
      · refine wx_catch (hp := 21) (i := 4) (ln := 2) [⟨0, 10, 13, 13⟩, ⟨0, 10, 17, 15⟩] ⟨0, 10, 21, 17⟩ [] rfl (fun z hz => ?_) hE (by decide) (by decide) kx_17.1 kx_17.2 rfl (Or.inr ⟨rfl, dL_create_21⟩) (by decide) ?_
        · rcases List.mem_cons.mp hz with hz | hz
          · subst hz; exact ⟨by decide, xI, kx_13.1, by decide, by decide⟩
          · rw [List.mem_singleton] at hz; subst hz; exact ⟨by decide, xA, kx_15.1, by decide, by decide⟩
        · refine wq_iconst (pc := 23) dL_create_23 ?_
          exact wh_iret dL_create_24 rfl ⟨3, rfl, q⟩
