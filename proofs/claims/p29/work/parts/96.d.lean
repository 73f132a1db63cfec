/-! ### the law's calls with handlers -/
def ansI (a : Ans) : Int := match a with
  | .inl v => v
  | .inr E => if E = xI then -11 else if E = xA then -12 else -13
def okA (a : Ans) : Prop := ∀ E, a = .inr E → E = xI ∨ E = xA ∨ E = xS
theorem okA_v (v : Int) : okA (.inl v) := fun E h => by cases h
theorem okA_I : okA (.inr xI) := fun E h => by injection h with h; exact Or.inl h.symm
theorem okA_A : okA (.inr xA) := fun E h => by injection h with h; exact Or.inr (Or.inl h.symm)
theorem okA_S : okA (.inr xS) := fun E h => by injection h with h; exact Or.inr (Or.inr h.symm)
theorem okA_p {c : Prop} {a b : Ans × AS} (h1 : okA a.1) (h2 : okA b.1) : okA (pI c a b).1 := by
  by_cases q : c
  · rw [pI_1 q]; exact h1
  · rw [pI_0 q]; exact h2
theorem okA_q {c : Prop} {a b : Ans} (h1 : okA a) (h2 : okA b) : okA (pI c a b) := by
  by_cases q : c
  · rw [pI_1 q]; exact h1
  · rw [pI_0 q]; exact h2
theorem okA_f {c : Prop} (hc : Decidable c) {a b : Ans × AS} (h1 : okA a.1) (h2 : okA b.1) : okA (@ite (Ans × AS) c hc a b).1 := by
  by_cases q : c
  · rw [if_pos q]; exact h1
  · rw [if_neg q]; exact h2
def oD (Qw : Int → nMem → nEnv → Prop) : nOut → nMem → nEnv → Prop := fun o μ ε => ∃ c, o = .inl (some (vI c)) ∧ Qw c μ ε
def kD (Qw : Int → nMem → nEnv → Prop) : nOut → nMem → nEnv → Prop := fun o μ ε => (∃ v, o = .inl (some (vI v)) ∧ Qw v μ ε) ∨ (o = .inr xI ∧ Qw (-11) μ ε) ∨ (o = .inr xA ∧ Qw (-12) μ ε) ∨ (o = .inr xS ∧ Qw (-13) μ ε)
theorem kD_of {Qw : Int → nMem → nEnv → Prop} {a : Ans} {m : nMem} {e : nEnv} (h : okA a) (q : Qw (ansI a) m e) : kD Qw (oc a) m e := by
  rcases a with v | E
  · exact Or.inl ⟨v, rfl, q⟩
  · rcases h E rfl with h | h | h <;> subst h
    · exact Or.inr (Or.inl ⟨rfl, q⟩)
    · exact Or.inr (Or.inr (Or.inl ⟨rfl, q⟩))
    · exact Or.inr (Or.inr (Or.inr ⟨rfl, q⟩))
theorem mXI : xI ∈ nXs := by decide
theorem mXA : xA ∈ nXs := by decide
theorem mXS : xS ∈ nXs := by decide
theorem ct_does {pc : Nat} {L : List (Nat × nV)} {st : List nV} {μ : nMem} {ε : nEnv} {Qw : Int → nMem → nEnv → Prop} {E : String} (c0 : covers ⟨0, 133, 134, 55⟩ pc = true) (c1 : covers ⟨0, 133, 139, 57⟩ pc = true) (c2 : covers ⟨0, 133, 144, 59⟩ pc = true) (h : kD Qw (.inr E) μ ε) : wxF mL_does pc L st μ ε E (fun tb => tb = tableOf [(0, 133, 134, 55), (0, 133, 139, 57), (0, 133, 144, 59)]) (nFin (oD Qw)) := by
  rcases h with ⟨v, e, -⟩ | ⟨e, q⟩ | ⟨e, q⟩ | ⟨e, q⟩
  · cases e
  · have e : E = xI := by injection e
    subst e
    refine wx_catch (hp := 134) (i := 5) (ln := 2) [] ⟨0, 133, 134, 55⟩ [⟨0, 133, 139, 57⟩, ⟨0, 133, 144, 59⟩] rfl ?_ mXI c0 (by decide) kx_55.1 kx_55.2 rfl (Or.inr ⟨rfl, dL_does_134⟩) (by decide) ?_
    · exact fun z hz => absurd hz List.not_mem_nil
    · refine wq_bipush (pc := 136) dL_does_136 (by decide) (by decide) ?_
      exact wh_iret dL_does_138 rfl ⟨_, rfl, q⟩
  · have e : E = xA := by injection e
    subst e
    refine wx_catch (hp := 139) (i := 5) (ln := 2) [⟨0, 133, 134, 55⟩] ⟨0, 133, 139, 57⟩ [⟨0, 133, 144, 59⟩] rfl ?_ mXA c1 (by decide) kx_57.1 kx_57.2 rfl (Or.inr ⟨rfl, dL_does_139⟩) (by decide) ?_
    · exact fun z hz => by rw [List.mem_singleton] at hz; subst hz; exact ⟨by decide, xI, kx_55.1, by decide, by decide⟩
    · refine wq_bipush (pc := 141) dL_does_141 (by decide) (by decide) ?_
      exact wh_iret dL_does_143 rfl ⟨_, rfl, q⟩
  · have e : E = xS := by injection e
    subst e
    refine wx_catch (hp := 144) (i := 5) (ln := 2) [⟨0, 133, 134, 55⟩, ⟨0, 133, 139, 57⟩] ⟨0, 133, 144, 59⟩ [] rfl ?_ mXS c2 (by decide) kx_59.1 kx_59.2 rfl (Or.inr ⟨rfl, dL_does_144⟩) (by decide) ?_
    · intro z hz
      rcases List.mem_cons.mp hz with hz | hz
      · subst hz; exact ⟨by decide, xI, kx_55.1, by decide, by decide⟩
      · rw [List.mem_singleton] at hz; subst hz; exact ⟨by decide, xA, kx_57.1, by decide, by decide⟩
    · refine wq_bipush (pc := 146) dL_does_146 (by decide) (by decide) ?_
      exact wh_iret dL_does_148 rfl ⟨_, rfl, q⟩
theorem ct_renames {pc : Nat} {L : List (Nat × nV)} {st : List nV} {μ : nMem} {ε : nEnv} {Qw : Int → nMem → nEnv → Prop} {E : String} (c0 : covers ⟨0, 9, 10, 55⟩ pc = true) (c1 : covers ⟨0, 9, 15, 57⟩ pc = true) (c2 : covers ⟨0, 9, 20, 59⟩ pc = true) (h : kD Qw (.inr E) μ ε) : wxF mL_renames pc L st μ ε E (fun tb => tb = tableOf [(0, 9, 10, 55), (0, 9, 15, 57), (0, 9, 20, 59)]) (nFin (oD Qw)) := by
  rcases h with ⟨v, e, -⟩ | ⟨e, q⟩ | ⟨e, q⟩ | ⟨e, q⟩
  · cases e
  · have e : E = xI := by injection e
    subst e
    refine wx_catch (hp := 10) (i := 5) (ln := 2) [] ⟨0, 9, 10, 55⟩ [⟨0, 9, 15, 57⟩, ⟨0, 9, 20, 59⟩] rfl ?_ mXI c0 (by decide) kx_55.1 kx_55.2 rfl (Or.inr ⟨rfl, dL_renames_10⟩) (by decide) ?_
    · exact fun z hz => absurd hz List.not_mem_nil
    · refine wq_bipush (pc := 12) dL_renames_12 (by decide) (by decide) ?_
      exact wh_iret dL_renames_14 rfl ⟨_, rfl, q⟩
  · have e : E = xA := by injection e
    subst e
    refine wx_catch (hp := 15) (i := 5) (ln := 2) [⟨0, 9, 10, 55⟩] ⟨0, 9, 15, 57⟩ [⟨0, 9, 20, 59⟩] rfl ?_ mXA c1 (by decide) kx_57.1 kx_57.2 rfl (Or.inr ⟨rfl, dL_renames_15⟩) (by decide) ?_
    · exact fun z hz => by rw [List.mem_singleton] at hz; subst hz; exact ⟨by decide, xI, kx_55.1, by decide, by decide⟩
    · refine wq_bipush (pc := 17) dL_renames_17 (by decide) (by decide) ?_
      exact wh_iret dL_renames_19 rfl ⟨_, rfl, q⟩
  · have e : E = xS := by injection e
    subst e
    refine wx_catch (hp := 20) (i := 5) (ln := 2) [⟨0, 9, 10, 55⟩, ⟨0, 9, 15, 57⟩] ⟨0, 9, 20, 59⟩ [] rfl ?_ mXS c2 (by decide) kx_59.1 kx_59.2 rfl (Or.inr ⟨rfl, dL_renames_20⟩) (by decide) ?_
    · intro z hz
      rcases List.mem_cons.mp hz with hz | hz
      · subst hz; exact ⟨by decide, xI, kx_55.1, by decide, by decide⟩
      · rw [List.mem_singleton] at hz; subst hz; exact ⟨by decide, xA, kx_57.1, by decide, by decide⟩
    · refine wq_bipush (pc := 22) dL_renames_22 (by decide) (by decide) ?_
      exact wh_iret dL_renames_24 rfl ⟨_, rfl, q⟩
theorem ct_writes {pc : Nat} {L : List (Nat × nV)} {st : List nV} {μ : nMem} {ε : nEnv} {Qw : Int → nMem → nEnv → Prop} {E : String} (c0 : covers ⟨0, 9, 10, 55⟩ pc = true) (c1 : covers ⟨0, 9, 15, 57⟩ pc = true) (c2 : covers ⟨0, 9, 20, 59⟩ pc = true) (h : kD Qw (.inr E) μ ε) : wxF mL_writes pc L st μ ε E (fun tb => tb = tableOf [(0, 9, 10, 55), (0, 9, 15, 57), (0, 9, 20, 59)]) (nFin (oD Qw)) := by
  rcases h with ⟨v, e, -⟩ | ⟨e, q⟩ | ⟨e, q⟩ | ⟨e, q⟩
  · cases e
  · have e : E = xI := by injection e
    subst e
    refine wx_catch (hp := 10) (i := 6) (ln := 2) [] ⟨0, 9, 10, 55⟩ [⟨0, 9, 15, 57⟩, ⟨0, 9, 20, 59⟩] rfl ?_ mXI c0 (by decide) kx_55.1 kx_55.2 rfl (Or.inr ⟨rfl, dL_writes_10⟩) (by decide) ?_
    · exact fun z hz => absurd hz List.not_mem_nil
    · refine wq_bipush (pc := 12) dL_writes_12 (by decide) (by decide) ?_
      exact wh_iret dL_writes_14 rfl ⟨_, rfl, q⟩
  · have e : E = xA := by injection e
    subst e
    refine wx_catch (hp := 15) (i := 6) (ln := 2) [⟨0, 9, 10, 55⟩] ⟨0, 9, 15, 57⟩ [⟨0, 9, 20, 59⟩] rfl ?_ mXA c1 (by decide) kx_57.1 kx_57.2 rfl (Or.inr ⟨rfl, dL_writes_15⟩) (by decide) ?_
    · exact fun z hz => by rw [List.mem_singleton] at hz; subst hz; exact ⟨by decide, xI, kx_55.1, by decide, by decide⟩
    · refine wq_bipush (pc := 17) dL_writes_17 (by decide) (by decide) ?_
      exact wh_iret dL_writes_19 rfl ⟨_, rfl, q⟩
  · have e : E = xS := by injection e
    subst e
    refine wx_catch (hp := 20) (i := 6) (ln := 2) [⟨0, 9, 10, 55⟩, ⟨0, 9, 15, 57⟩] ⟨0, 9, 20, 59⟩ [] rfl ?_ mXS c2 (by decide) kx_59.1 kx_59.2 rfl (Or.inr ⟨rfl, dL_writes_20⟩) (by decide) ?_
    · intro z hz
      rcases List.mem_cons.mp hz with hz | hz
      · subst hz; exact ⟨by decide, xI, kx_55.1, by decide, by decide⟩
      · rw [List.mem_singleton] at hz; subst hz; exact ⟨by decide, xA, kx_57.1, by decide, by decide⟩
    · refine wq_bipush (pc := 22) dL_writes_22 (by decide) (by decide) ?_
      exact wh_iret dL_writes_24 rfl ⟨_, rfl, q⟩
theorem ok_create {A : AS} {d nm : Int} : okA (actCreate A d nm).1 := okA_p okA_S (okA_p okA_I (okA_p okA_A (okA_p okA_S (okA_p okA_S (okA_f _ (okA_v _) (okA_f _ (okA_v _) (okA_v _)))))))
theorem sd_create {N : Int} {A : AS} {nb vb : Int} {t : Nat} {X μ : nMem} {ε : nEnv} {Qw : Int → nMem → nEnv → Prop} {d nm x0 : Int} (hW : Wd N A nb vb (t + 1) X μ ε) (hnb : nb + 1 ≤ 2000) (hvb : vb + 2 ≤ 4000) (r0 : inR d) (r1 : inR nm) (h : ∀ μ9 ε9, Wd N (actCreate A d nm).2 (nb + 1) (vb + 2) t X μ9 ε9 → Qw (ansI (actCreate A d nm).1) μ9 ε9) : SpH mL_does [(0, 133, 134, 55), (0, 133, 139, 57), (0, 133, 144, 59)] [vR 1, vI 0, vI d, vI nm, vI x0] μ ε (oD Qw) := by
  have h1 := Wd_1 hW
  refine SpH_of (L := [(0, vR 1), (1, vI 0), (2, vI d), (3, vI nm), (4, vI x0)]) (by decide) rfl rfl (Nat.le_of_ble_eq_true rfl) ?_
  refine wq_iload_n (pc := 0) dL_does_0 rfl rfl ?_
  refine wq_if_ne (pc := 1) (tgt := 13) dL_does_1 (by decide) (by unfold inR; omega) (fun c => absurd c (by decide)) (fun _ => ?_)
  refine wq_aload_n (pc := 4) dL_does_4 rfl rfl ?_
  refine wq_iload_n (pc := 5) dL_does_5 rfl rfl ?_
  refine wq_iload_n (pc := 6) dL_does_6 rfl rfl ?_
  refine wq_callV (as := [vI d, vI nm]) (rest := []) (pc := 7) dL_does_7 (cw_L_20 _ rfl) (by decide) h1 ⟨by decide, by decide⟩ (Nat.le_of_ble_eq_true rfl) (cl_create (Q := kD Qw) hW hnb hvb r0 r1 (fun μ9 ε9 w => kD_of ok_create (h μ9 ε9 w))) (fun r m e q => ?_) (fun E m e q => ct_does (by decide) (by decide) (by decide) q)
  rcases q with ⟨v, e1, q⟩ | ⟨e1, -⟩ | ⟨e1, -⟩ | ⟨e1, -⟩
  · have e1 : r = some (vI v) := by injection e1
    subst e1
    refine wq_goto (pc := 10) (tgt := 133) dL_does_10 rfl ?_
    exact wh_iret dL_does_133 rfl ⟨v, rfl, q⟩
  · cases e1
  · cases e1
  · cases e1
theorem ok_makeDirectory {A : AS} {d nm : Int} : okA (actMkdir A d nm).1 := okA_p okA_S (okA_p okA_I (okA_p okA_A (okA_p okA_S (okA_p okA_S (okA_f _ (okA_v _) (okA_v _))))))
theorem sd_makeDirectory {N : Int} {A : AS} {nb vb : Int} {t : Nat} {X μ : nMem} {ε : nEnv} {Qw : Int → nMem → nEnv → Prop} {d nm x0 : Int} (hW : Wd N A nb vb (t + 1) X μ ε) (hnb : nb + 1 ≤ 2000) (hvb : vb + 2 ≤ 4000) (r0 : inR d) (r1 : inR nm) (h : ∀ μ9 ε9, Wd N (actMkdir A d nm).2 (nb + 1) (vb + 2) t X μ9 ε9 → Qw (ansI (actMkdir A d nm).1) μ9 ε9) : SpH mL_does [(0, 133, 134, 55), (0, 133, 139, 57), (0, 133, 144, 59)] [vR 1, vI 1, vI d, vI nm, vI x0] μ ε (oD Qw) := by
  have h1 := Wd_1 hW
  refine SpH_of (L := [(0, vR 1), (1, vI 1), (2, vI d), (3, vI nm), (4, vI x0)]) (by decide) rfl rfl (Nat.le_of_ble_eq_true rfl) ?_
  refine wq_iload_n (pc := 0) dL_does_0 rfl rfl ?_
  refine wq_if_ne (pc := 1) (tgt := 13) dL_does_1 (by decide) (by unfold inR; omega) (fun _ => ?_) (fun c => absurd c (by decide))
  refine wq_iload_n (pc := 13) dL_does_13 rfl rfl ?_
  refine wq_iconst (pc := 14) dL_does_14 ?_
  refine wq_icmp_ne (pc := 15) (tgt := 27) dL_does_15 (by decide) (by unfold inR; omega) (by unfold inR; omega) (fun c => absurd c (by decide)) (fun _ => ?_)
  refine wq_aload_n (pc := 18) dL_does_18 rfl rfl ?_
  refine wq_iload_n (pc := 19) dL_does_19 rfl rfl ?_
  refine wq_iload_n (pc := 20) dL_does_20 rfl rfl ?_
  refine wq_callV (as := [vI d, vI nm]) (rest := []) (pc := 21) dL_does_21 (cw_L_26 _ rfl) (by decide) h1 ⟨by decide, by decide⟩ (Nat.le_of_ble_eq_true rfl) (cl_makeDirectory (Q := kD Qw) hW hnb hvb r0 r1 (fun μ9 ε9 w => kD_of ok_makeDirectory (h μ9 ε9 w))) (fun r m e q => ?_) (fun E m e q => ct_does (by decide) (by decide) (by decide) q)
  rcases q with ⟨v, e1, q⟩ | ⟨e1, -⟩ | ⟨e1, -⟩ | ⟨e1, -⟩
  · have e1 : r = some (vI v) := by injection e1
    subst e1
    refine wq_goto (pc := 24) (tgt := 133) dL_does_24 rfl ?_
    exact wh_iret dL_does_133 rfl ⟨v, rfl, q⟩
  · cases e1
  · cases e1
  · cases e1
theorem ok_link {A : AS} {d nm f : Int} : okA (actLink A d nm f).1 := okA_p okA_S (okA_p okA_I (okA_p okA_I (okA_p okA_A (okA_p okA_S (okA_p okA_S (okA_f _ (okA_v _) (okA_v _)))))))
theorem sd_link {N : Int} {A : AS} {nb vb : Int} {t : Nat} {X μ : nMem} {ε : nEnv} {Qw : Int → nMem → nEnv → Prop} {d nm f : Int} (hW : Wd N A nb vb (t + 1) X μ ε) (hnb : nb + 1 ≤ 2000) (hvb : vb + 2 ≤ 4000) (r0 : inR d) (r1 : inR nm) (r2 : inR f) (h : ∀ μ9 ε9, Wd N (actLink A d nm f).2 (nb + 1) (vb + 2) t X μ9 ε9 → Qw (ansI (actLink A d nm f).1) μ9 ε9) : SpH mL_does [(0, 133, 134, 55), (0, 133, 139, 57), (0, 133, 144, 59)] [vR 1, vI 2, vI d, vI nm, vI f] μ ε (oD Qw) := by
  have h1 := Wd_1 hW
  refine SpH_of (L := [(0, vR 1), (1, vI 2), (2, vI d), (3, vI nm), (4, vI f)]) (by decide) rfl rfl (Nat.le_of_ble_eq_true rfl) ?_
  refine wq_iload_n (pc := 0) dL_does_0 rfl rfl ?_
  refine wq_if_ne (pc := 1) (tgt := 13) dL_does_1 (by decide) (by unfold inR; omega) (fun _ => ?_) (fun c => absurd c (by decide))
  refine wq_iload_n (pc := 13) dL_does_13 rfl rfl ?_
  refine wq_iconst (pc := 14) dL_does_14 ?_
  refine wq_icmp_ne (pc := 15) (tgt := 27) dL_does_15 (by decide) (by unfold inR; omega) (by unfold inR; omega) (fun _ => ?_) (fun c => absurd c (by decide))
  refine wq_iload_n (pc := 27) dL_does_27 rfl rfl ?_
  refine wq_iconst (pc := 28) dL_does_28 ?_
  refine wq_icmp_ne (pc := 29) (tgt := 43) dL_does_29 (by decide) (by unfold inR; omega) (by unfold inR; omega) (fun c => absurd c (by decide)) (fun _ => ?_)
  refine wq_aload_n (pc := 32) dL_does_32 rfl rfl ?_
  refine wq_iload_n (pc := 33) dL_does_33 rfl rfl ?_
  refine wq_iload_n (pc := 34) dL_does_34 rfl rfl ?_
  refine wq_iload (pc := 35) dL_does_35 rfl ?_
  refine wq_callV (as := [vI d, vI nm, vI f]) (rest := []) (pc := 37) dL_does_37 (cw_L_29 _ rfl) (by decide) h1 ⟨by decide, by decide⟩ (Nat.le_of_ble_eq_true rfl) (cl_link (Q := kD Qw) hW hnb hvb r0 r1 r2 (fun μ9 ε9 w => kD_of ok_link (h μ9 ε9 w))) (fun r m e q => ?_) (fun E m e q => ct_does (by decide) (by decide) (by decide) q)
  rcases q with ⟨v, e1, q⟩ | ⟨e1, -⟩ | ⟨e1, -⟩ | ⟨e1, -⟩
  · have e1 : r = some (vI v) := by injection e1
    subst e1
    refine wq_goto (pc := 40) (tgt := 133) dL_does_40 rfl ?_
    exact wh_iret dL_does_133 rfl ⟨v, rfl, q⟩
  · cases e1
  · cases e1
  · cases e1
theorem ok_unlink {A : AS} {d nm : Int} : okA (actUnlink A d nm).1 := okA_p okA_S (okA_p okA_I (okA_p okA_A (okA_p okA_S (okA_p okA_S (okA_p okA_S (okA_f _ (okA_v _) (okA_v _)))))))
theorem sd_unlink {N : Int} {A : AS} {nb vb : Int} {t : Nat} {X μ : nMem} {ε : nEnv} {Qw : Int → nMem → nEnv → Prop} {d nm x0 : Int} (hW : Wd N A nb vb (t + 1) X μ ε) (hnb : nb + 1 ≤ 2000) (hvb : vb + 2 ≤ 4000) (r0 : inR d) (r1 : inR nm) (h : ∀ μ9 ε9, Wd N (actUnlink A d nm).2 (nb + 1) (vb + 2) t X μ9 ε9 → Qw (ansI (actUnlink A d nm).1) μ9 ε9) : SpH mL_does [(0, 133, 134, 55), (0, 133, 139, 57), (0, 133, 144, 59)] [vR 1, vI 3, vI d, vI nm, vI x0] μ ε (oD Qw) := by
  have h1 := Wd_1 hW
  refine SpH_of (L := [(0, vR 1), (1, vI 3), (2, vI d), (3, vI nm), (4, vI x0)]) (by decide) rfl rfl (Nat.le_of_ble_eq_true rfl) ?_
  refine wq_iload_n (pc := 0) dL_does_0 rfl rfl ?_
  refine wq_if_ne (pc := 1) (tgt := 13) dL_does_1 (by decide) (by unfold inR; omega) (fun _ => ?_) (fun c => absurd c (by decide))
  refine wq_iload_n (pc := 13) dL_does_13 rfl rfl ?_
  refine wq_iconst (pc := 14) dL_does_14 ?_
  refine wq_icmp_ne (pc := 15) (tgt := 27) dL_does_15 (by decide) (by unfold inR; omega) (by unfold inR; omega) (fun _ => ?_) (fun c => absurd c (by decide))
  refine wq_iload_n (pc := 27) dL_does_27 rfl rfl ?_
  refine wq_iconst (pc := 28) dL_does_28 ?_
  refine wq_icmp_ne (pc := 29) (tgt := 43) dL_does_29 (by decide) (by unfold inR; omega) (by unfold inR; omega) (fun _ => ?_) (fun c => absurd c (by decide))
  refine wq_iload_n (pc := 43) dL_does_43 rfl rfl ?_
  refine wq_iconst (pc := 44) dL_does_44 ?_
  refine wq_icmp_ne (pc := 45) (tgt := 57) dL_does_45 (by decide) (by unfold inR; omega) (by unfold inR; omega) (fun c => absurd c (by decide)) (fun _ => ?_)
  refine wq_aload_n (pc := 48) dL_does_48 rfl rfl ?_
  refine wq_iload_n (pc := 49) dL_does_49 rfl rfl ?_
  refine wq_iload_n (pc := 50) dL_does_50 rfl rfl ?_
  refine wq_callV (as := [vI d, vI nm]) (rest := []) (pc := 51) dL_does_51 (cw_L_33 _ rfl) (by decide) h1 ⟨by decide, by decide⟩ (Nat.le_of_ble_eq_true rfl) (cl_unlink (Q := kD Qw) hW hnb hvb r0 r1 (fun μ9 ε9 w => kD_of ok_unlink (h μ9 ε9 w))) (fun r m e q => ?_) (fun E m e q => ct_does (by decide) (by decide) (by decide) q)
  rcases q with ⟨v, e1, q⟩ | ⟨e1, -⟩ | ⟨e1, -⟩ | ⟨e1, -⟩
  · have e1 : r = some (vI v) := by injection e1
    subst e1
    refine wq_goto (pc := 54) (tgt := 133) dL_does_54 rfl ?_
    exact wh_iret dL_does_133 rfl ⟨v, rfl, q⟩
  · cases e1
  · cases e1
  · cases e1
theorem ok_truncate {A : AS} {f z : Int} : okA (actTrunc A f z).1 := okA_p okA_S (okA_p okA_I (okA_p okA_A (okA_p okA_S (okA_f _ (okA_v _) (okA_v _)))))
theorem sd_truncate {N : Int} {A : AS} {nb vb : Int} {t : Nat} {X μ : nMem} {ε : nEnv} {Qw : Int → nMem → nEnv → Prop} {f z x0 : Int} (hW : Wd N A nb vb (t + 1) X μ ε) (hnb : nb + 1 ≤ 2000) (hvb : vb + 2 ≤ 4000) (r0 : inR f) (r1 : inR z) (h : ∀ μ9 ε9, Wd N (actTrunc A f z).2 (nb + 1) (vb + 2) t X μ9 ε9 → Qw (ansI (actTrunc A f z).1) μ9 ε9) : SpH mL_does [(0, 133, 134, 55), (0, 133, 139, 57), (0, 133, 144, 59)] [vR 1, vI 4, vI f, vI z, vI x0] μ ε (oD Qw) := by
  have h1 := Wd_1 hW
  refine SpH_of (L := [(0, vR 1), (1, vI 4), (2, vI f), (3, vI z), (4, vI x0)]) (by decide) rfl rfl (Nat.le_of_ble_eq_true rfl) ?_
  refine wq_iload_n (pc := 0) dL_does_0 rfl rfl ?_
  refine wq_if_ne (pc := 1) (tgt := 13) dL_does_1 (by decide) (by unfold inR; omega) (fun _ => ?_) (fun c => absurd c (by decide))
  refine wq_iload_n (pc := 13) dL_does_13 rfl rfl ?_
  refine wq_iconst (pc := 14) dL_does_14 ?_
  refine wq_icmp_ne (pc := 15) (tgt := 27) dL_does_15 (by decide) (by unfold inR; omega) (by unfold inR; omega) (fun _ => ?_) (fun c => absurd c (by decide))
  refine wq_iload_n (pc := 27) dL_does_27 rfl rfl ?_
  refine wq_iconst (pc := 28) dL_does_28 ?_
  refine wq_icmp_ne (pc := 29) (tgt := 43) dL_does_29 (by decide) (by unfold inR; omega) (by unfold inR; omega) (fun _ => ?_) (fun c => absurd c (by decide))
  refine wq_iload_n (pc := 43) dL_does_43 rfl rfl ?_
  refine wq_iconst (pc := 44) dL_does_44 ?_
  refine wq_icmp_ne (pc := 45) (tgt := 57) dL_does_45 (by decide) (by unfold inR; omega) (by unfold inR; omega) (fun _ => ?_) (fun c => absurd c (by decide))
  refine wq_iload_n (pc := 57) dL_does_57 rfl rfl ?_
  refine wq_iconst (pc := 58) dL_does_58 ?_
  refine wq_icmp_ne (pc := 59) (tgt := 71) dL_does_59 (by decide) (by unfold inR; omega) (by unfold inR; omega) (fun c => absurd c (by decide)) (fun _ => ?_)
  refine wq_aload_n (pc := 62) dL_does_62 rfl rfl ?_
  refine wq_iload_n (pc := 63) dL_does_63 rfl rfl ?_
  refine wq_iload_n (pc := 64) dL_does_64 rfl rfl ?_
  refine wq_callV (as := [vI f, vI z]) (rest := []) (pc := 65) dL_does_65 (cw_L_36 _ rfl) (by decide) h1 ⟨by decide, by decide⟩ (Nat.le_of_ble_eq_true rfl) (cl_truncate (Q := kD Qw) hW hnb hvb r0 r1 (fun μ9 ε9 w => kD_of ok_truncate (h μ9 ε9 w))) (fun r m e q => ?_) (fun E m e q => ct_does (by decide) (by decide) (by decide) q)
  rcases q with ⟨v, e1, q⟩ | ⟨e1, -⟩ | ⟨e1, -⟩ | ⟨e1, -⟩
  · have e1 : r = some (vI v) := by injection e1
    subst e1
    refine wq_goto (pc := 68) (tgt := 133) dL_does_68 rfl ?_
    exact wh_iret dL_does_133 rfl ⟨v, rfl, q⟩
  · cases e1
  · cases e1
  · cases e1
theorem ok_collect {A : AS} {dr : Int} : okA (actCollect A dr).1 := okA_p okA_S (okA_p okA_A (okA_p okA_S (okA_p okA_S (okA_f _ (okA_v _) (okA_f _ (okA_v _) (okA_v _))))))
theorem sd_collect {N : Int} {A : AS} {nb vb : Int} {t : Nat} {X μ : nMem} {ε : nEnv} {Qw : Int → nMem → nEnv → Prop} {dr x0 x1 : Int} (hW : Wd N A nb vb (t + 1) X μ ε) (hnb : nb + 1 ≤ 2000) (hvb : vb + 2 ≤ 4000) (r0 : inR dr) (h : ∀ μ9 ε9, Wd N (actCollect A dr).2 (nb + 1) (vb + 2) t X μ9 ε9 → Qw (ansI (actCollect A dr).1) μ9 ε9) : SpH mL_does [(0, 133, 134, 55), (0, 133, 139, 57), (0, 133, 144, 59)] [vR 1, vI 5, vI dr, vI x0, vI x1] μ ε (oD Qw) := by
  have h1 := Wd_1 hW
  refine SpH_of (L := [(0, vR 1), (1, vI 5), (2, vI dr), (3, vI x0), (4, vI x1)]) (by decide) rfl rfl (Nat.le_of_ble_eq_true rfl) ?_
  refine wq_iload_n (pc := 0) dL_does_0 rfl rfl ?_
  refine wq_if_ne (pc := 1) (tgt := 13) dL_does_1 (by decide) (by unfold inR; omega) (fun _ => ?_) (fun c => absurd c (by decide))
  refine wq_iload_n (pc := 13) dL_does_13 rfl rfl ?_
  refine wq_iconst (pc := 14) dL_does_14 ?_
  refine wq_icmp_ne (pc := 15) (tgt := 27) dL_does_15 (by decide) (by unfold inR; omega) (by unfold inR; omega) (fun _ => ?_) (fun c => absurd c (by decide))
  refine wq_iload_n (pc := 27) dL_does_27 rfl rfl ?_
  refine wq_iconst (pc := 28) dL_does_28 ?_
  refine wq_icmp_ne (pc := 29) (tgt := 43) dL_does_29 (by decide) (by unfold inR; omega) (by unfold inR; omega) (fun _ => ?_) (fun c => absurd c (by decide))
  refine wq_iload_n (pc := 43) dL_does_43 rfl rfl ?_
  refine wq_iconst (pc := 44) dL_does_44 ?_
  refine wq_icmp_ne (pc := 45) (tgt := 57) dL_does_45 (by decide) (by unfold inR; omega) (by unfold inR; omega) (fun _ => ?_) (fun c => absurd c (by decide))
  refine wq_iload_n (pc := 57) dL_does_57 rfl rfl ?_
  refine wq_iconst (pc := 58) dL_does_58 ?_
  refine wq_icmp_ne (pc := 59) (tgt := 71) dL_does_59 (by decide) (by unfold inR; omega) (by unfold inR; omega) (fun _ => ?_) (fun c => absurd c (by decide))
  refine wq_iload_n (pc := 71) dL_does_71 rfl rfl ?_
  refine wq_iconst (pc := 72) dL_does_72 ?_
  refine wq_icmp_ne (pc := 73) (tgt := 84) dL_does_73 (by decide) (by unfold inR; omega) (by unfold inR; omega) (fun c => absurd c (by decide)) (fun _ => ?_)
  refine wq_aload_n (pc := 76) dL_does_76 rfl rfl ?_
  refine wq_iload_n (pc := 77) dL_does_77 rfl rfl ?_
  refine wq_callV (as := [vI dr]) (rest := []) (pc := 78) dL_does_78 (cw_L_39 _ rfl) (by decide) h1 ⟨by decide, by decide⟩ (Nat.le_of_ble_eq_true rfl) (cl_collect (Q := kD Qw) hW hnb hvb r0 (fun μ9 ε9 w => kD_of ok_collect (h μ9 ε9 w))) (fun r m e q => ?_) (fun E m e q => ct_does (by decide) (by decide) (by decide) q)
  rcases q with ⟨v, e1, q⟩ | ⟨e1, -⟩ | ⟨e1, -⟩ | ⟨e1, -⟩
  · have e1 : r = some (vI v) := by injection e1
    subst e1
    refine wq_goto (pc := 81) (tgt := 133) dL_does_81 rfl ?_
    exact wh_iret dL_does_133 rfl ⟨v, rfl, q⟩
  · cases e1
  · cases e1
  · cases e1
theorem ok_lookUp {A : AS} {d nm : Int} : okA (actLookUp A d nm).1 := okA_p okA_S (okA_p okA_I (okA_q okA_A (okA_v _)))
theorem sd_lookUp {N : Int} {A : AS} {nb vb : Int} {t : Nat} {X μ : nMem} {ε : nEnv} {Qw : Int → nMem → nEnv → Prop} {d nm x0 : Int} (hW : Wd N A nb vb (t + 1) X μ ε) (hnb : nb + 1 ≤ 2000) (hvb : vb + 2 ≤ 4000) (r0 : inR d) (r1 : inR nm) (h : ∀ μ9 ε9, Wd N A nb vb t X μ9 ε9 → Qw (ansI (actLookUp A d nm).1) μ9 ε9) : SpH mL_does [(0, 133, 134, 55), (0, 133, 139, 57), (0, 133, 144, 59)] [vR 1, vI 6, vI d, vI nm, vI x0] μ ε (oD Qw) := by
  have h1 := Wd_1 hW
  refine SpH_of (L := [(0, vR 1), (1, vI 6), (2, vI d), (3, vI nm), (4, vI x0)]) (by decide) rfl rfl (Nat.le_of_ble_eq_true rfl) ?_
  refine wq_iload_n (pc := 0) dL_does_0 rfl rfl ?_
  refine wq_if_ne (pc := 1) (tgt := 13) dL_does_1 (by decide) (by unfold inR; omega) (fun _ => ?_) (fun c => absurd c (by decide))
  refine wq_iload_n (pc := 13) dL_does_13 rfl rfl ?_
  refine wq_iconst (pc := 14) dL_does_14 ?_
  refine wq_icmp_ne (pc := 15) (tgt := 27) dL_does_15 (by decide) (by unfold inR; omega) (by unfold inR; omega) (fun _ => ?_) (fun c => absurd c (by decide))
  refine wq_iload_n (pc := 27) dL_does_27 rfl rfl ?_
  refine wq_iconst (pc := 28) dL_does_28 ?_
  refine wq_icmp_ne (pc := 29) (tgt := 43) dL_does_29 (by decide) (by unfold inR; omega) (by unfold inR; omega) (fun _ => ?_) (fun c => absurd c (by decide))
  refine wq_iload_n (pc := 43) dL_does_43 rfl rfl ?_
  refine wq_iconst (pc := 44) dL_does_44 ?_
  refine wq_icmp_ne (pc := 45) (tgt := 57) dL_does_45 (by decide) (by unfold inR; omega) (by unfold inR; omega) (fun _ => ?_) (fun c => absurd c (by decide))
  refine wq_iload_n (pc := 57) dL_does_57 rfl rfl ?_
  refine wq_iconst (pc := 58) dL_does_58 ?_
  refine wq_icmp_ne (pc := 59) (tgt := 71) dL_does_59 (by decide) (by unfold inR; omega) (by unfold inR; omega) (fun _ => ?_) (fun c => absurd c (by decide))
  refine wq_iload_n (pc := 71) dL_does_71 rfl rfl ?_
  refine wq_iconst (pc := 72) dL_does_72 ?_
  refine wq_icmp_ne (pc := 73) (tgt := 84) dL_does_73 (by decide) (by unfold inR; omega) (by unfold inR; omega) (fun _ => ?_) (fun c => absurd c (by decide))
  refine wq_iload_n (pc := 84) dL_does_84 rfl rfl ?_
  refine wq_bipush (pc := 85) dL_does_85 (by decide) (by decide) ?_
  refine wq_icmp_ne (pc := 87) (tgt := 99) dL_does_87 (by decide) (by unfold inR; omega) (by unfold inR; omega) (fun c => absurd c (by decide)) (fun _ => ?_)
  refine wq_aload_n (pc := 90) dL_does_90 rfl rfl ?_
  refine wq_iload_n (pc := 91) dL_does_91 rfl rfl ?_
  refine wq_iload_n (pc := 92) dL_does_92 rfl rfl ?_
  refine wq_callV (as := [vI d, vI nm]) (rest := []) (pc := 93) dL_does_93 (cw_L_43 _ rfl) (by decide) h1 ⟨by decide, by decide⟩ (Nat.le_of_ble_eq_true rfl) (cl_lookUp (Q := kD Qw) hW hnb hvb r0 r1 (fun μ9 ε9 w => kD_of ok_lookUp (h μ9 ε9 w))) (fun r m e q => ?_) (fun E m e q => ct_does (by decide) (by decide) (by decide) q)
  rcases q with ⟨v, e1, q⟩ | ⟨e1, -⟩ | ⟨e1, -⟩ | ⟨e1, -⟩
  · have e1 : r = some (vI v) := by injection e1
    subst e1
    refine wq_goto (pc := 96) (tgt := 133) dL_does_96 rfl ?_
    exact wh_iret dL_does_133 rfl ⟨v, rfl, q⟩
  · cases e1
  · cases e1
  · cases e1
theorem ok_names {A : AS} {d : Int} : okA (actNames A d).1 := okA_p okA_S (okA_p okA_I (okA_v _))
theorem sd_names {N : Int} {A : AS} {nb vb : Int} {t : Nat} {X μ : nMem} {ε : nEnv} {Qw : Int → nMem → nEnv → Prop} {d x0 x1 : Int} (hW : Wd N A nb vb (t + 1) X μ ε) (hnb : nb + 1 ≤ 2000) (hvb : vb + 2 ≤ 4000) (r0 : inR d) (h : ∀ μ9 ε9, Wd N A nb vb t X μ9 ε9 → Qw (ansI (actNames A d).1) μ9 ε9) : SpH mL_does [(0, 133, 134, 55), (0, 133, 139, 57), (0, 133, 144, 59)] [vR 1, vI 7, vI d, vI x0, vI x1] μ ε (oD Qw) := by
  have h1 := Wd_1 hW
  refine SpH_of (L := [(0, vR 1), (1, vI 7), (2, vI d), (3, vI x0), (4, vI x1)]) (by decide) rfl rfl (Nat.le_of_ble_eq_true rfl) ?_
  refine wq_iload_n (pc := 0) dL_does_0 rfl rfl ?_
  refine wq_if_ne (pc := 1) (tgt := 13) dL_does_1 (by decide) (by unfold inR; omega) (fun _ => ?_) (fun c => absurd c (by decide))
  refine wq_iload_n (pc := 13) dL_does_13 rfl rfl ?_
  refine wq_iconst (pc := 14) dL_does_14 ?_
  refine wq_icmp_ne (pc := 15) (tgt := 27) dL_does_15 (by decide) (by unfold inR; omega) (by unfold inR; omega) (fun _ => ?_) (fun c => absurd c (by decide))
  refine wq_iload_n (pc := 27) dL_does_27 rfl rfl ?_
  refine wq_iconst (pc := 28) dL_does_28 ?_
  refine wq_icmp_ne (pc := 29) (tgt := 43) dL_does_29 (by decide) (by unfold inR; omega) (by unfold inR; omega) (fun _ => ?_) (fun c => absurd c (by decide))
  refine wq_iload_n (pc := 43) dL_does_43 rfl rfl ?_
  refine wq_iconst (pc := 44) dL_does_44 ?_
  refine wq_icmp_ne (pc := 45) (tgt := 57) dL_does_45 (by decide) (by unfold inR; omega) (by unfold inR; omega) (fun _ => ?_) (fun c => absurd c (by decide))
  refine wq_iload_n (pc := 57) dL_does_57 rfl rfl ?_
  refine wq_iconst (pc := 58) dL_does_58 ?_
  refine wq_icmp_ne (pc := 59) (tgt := 71) dL_does_59 (by decide) (by unfold inR; omega) (by unfold inR; omega) (fun _ => ?_) (fun c => absurd c (by decide))
  refine wq_iload_n (pc := 71) dL_does_71 rfl rfl ?_
  refine wq_iconst (pc := 72) dL_does_72 ?_
  refine wq_icmp_ne (pc := 73) (tgt := 84) dL_does_73 (by decide) (by unfold inR; omega) (by unfold inR; omega) (fun _ => ?_) (fun c => absurd c (by decide))
  refine wq_iload_n (pc := 84) dL_does_84 rfl rfl ?_
  refine wq_bipush (pc := 85) dL_does_85 (by decide) (by decide) ?_
  refine wq_icmp_ne (pc := 87) (tgt := 99) dL_does_87 (by decide) (by unfold inR; omega) (by unfold inR; omega) (fun _ => ?_) (fun c => absurd c (by decide))
  refine wq_iload_n (pc := 99) dL_does_99 rfl rfl ?_
  refine wq_bipush (pc := 100) dL_does_100 (by decide) (by decide) ?_
  refine wq_icmp_ne (pc := 102) (tgt := 113) dL_does_102 (by decide) (by unfold inR; omega) (by unfold inR; omega) (fun c => absurd c (by decide)) (fun _ => ?_)
  refine wq_aload_n (pc := 105) dL_does_105 rfl rfl ?_
  refine wq_iload_n (pc := 106) dL_does_106 rfl rfl ?_
  refine wq_callV (as := [vI d]) (rest := []) (pc := 107) dL_does_107 (cw_L_46 _ rfl) (by decide) h1 ⟨by decide, by decide⟩ (Nat.le_of_ble_eq_true rfl) (cl_names (Q := kD Qw) hW hnb hvb r0 (fun μ9 ε9 w => kD_of ok_names (h μ9 ε9 w))) (fun r m e q => ?_) (fun E m e q => ct_does (by decide) (by decide) (by decide) q)
  rcases q with ⟨v, e1, q⟩ | ⟨e1, -⟩ | ⟨e1, -⟩ | ⟨e1, -⟩
  · have e1 : r = some (vI v) := by injection e1
    subst e1
    refine wq_goto (pc := 110) (tgt := 133) dL_does_110 rfl ?_
    exact wh_iret dL_does_133 rfl ⟨v, rfl, q⟩
  · cases e1
  · cases e1
  · cases e1
theorem ok_nameAt {A : AS} {d p : Int} : okA (actNameAt A d p).1 := okA_p okA_S (okA_p okA_I (okA_q okA_I (okA_v _)))
theorem sd_nameAt {N : Int} {A : AS} {nb vb : Int} {t : Nat} {X μ : nMem} {ε : nEnv} {Qw : Int → nMem → nEnv → Prop} {d p x0 : Int} (hW : Wd N A nb vb (t + 1) X μ ε) (hnb : nb + 1 ≤ 2000) (hvb : vb + 2 ≤ 4000) (r0 : inR d) (r1 : inR p) (h : ∀ μ9 ε9, Wd N A nb vb t X μ9 ε9 → Qw (ansI (actNameAt A d p).1) μ9 ε9) : SpH mL_does [(0, 133, 134, 55), (0, 133, 139, 57), (0, 133, 144, 59)] [vR 1, vI 8, vI d, vI p, vI x0] μ ε (oD Qw) := by
  have h1 := Wd_1 hW
  refine SpH_of (L := [(0, vR 1), (1, vI 8), (2, vI d), (3, vI p), (4, vI x0)]) (by decide) rfl rfl (Nat.le_of_ble_eq_true rfl) ?_
  refine wq_iload_n (pc := 0) dL_does_0 rfl rfl ?_
  refine wq_if_ne (pc := 1) (tgt := 13) dL_does_1 (by decide) (by unfold inR; omega) (fun _ => ?_) (fun c => absurd c (by decide))
  refine wq_iload_n (pc := 13) dL_does_13 rfl rfl ?_
  refine wq_iconst (pc := 14) dL_does_14 ?_
  refine wq_icmp_ne (pc := 15) (tgt := 27) dL_does_15 (by decide) (by unfold inR; omega) (by unfold inR; omega) (fun _ => ?_) (fun c => absurd c (by decide))
  refine wq_iload_n (pc := 27) dL_does_27 rfl rfl ?_
  refine wq_iconst (pc := 28) dL_does_28 ?_
  refine wq_icmp_ne (pc := 29) (tgt := 43) dL_does_29 (by decide) (by unfold inR; omega) (by unfold inR; omega) (fun _ => ?_) (fun c => absurd c (by decide))
  refine wq_iload_n (pc := 43) dL_does_43 rfl rfl ?_
  refine wq_iconst (pc := 44) dL_does_44 ?_
  refine wq_icmp_ne (pc := 45) (tgt := 57) dL_does_45 (by decide) (by unfold inR; omega) (by unfold inR; omega) (fun _ => ?_) (fun c => absurd c (by decide))
  refine wq_iload_n (pc := 57) dL_does_57 rfl rfl ?_
  refine wq_iconst (pc := 58) dL_does_58 ?_
  refine wq_icmp_ne (pc := 59) (tgt := 71) dL_does_59 (by decide) (by unfold inR; omega) (by unfold inR; omega) (fun _ => ?_) (fun c => absurd c (by decide))
  refine wq_iload_n (pc := 71) dL_does_71 rfl rfl ?_
  refine wq_iconst (pc := 72) dL_does_72 ?_
  refine wq_icmp_ne (pc := 73) (tgt := 84) dL_does_73 (by decide) (by unfold inR; omega) (by unfold inR; omega) (fun _ => ?_) (fun c => absurd c (by decide))
  refine wq_iload_n (pc := 84) dL_does_84 rfl rfl ?_
  refine wq_bipush (pc := 85) dL_does_85 (by decide) (by decide) ?_
  refine wq_icmp_ne (pc := 87) (tgt := 99) dL_does_87 (by decide) (by unfold inR; omega) (by unfold inR; omega) (fun _ => ?_) (fun c => absurd c (by decide))
  refine wq_iload_n (pc := 99) dL_does_99 rfl rfl ?_
  refine wq_bipush (pc := 100) dL_does_100 (by decide) (by decide) ?_
  refine wq_icmp_ne (pc := 102) (tgt := 113) dL_does_102 (by decide) (by unfold inR; omega) (by unfold inR; omega) (fun _ => ?_) (fun c => absurd c (by decide))
  refine wq_iload_n (pc := 113) dL_does_113 rfl rfl ?_
  refine wq_bipush (pc := 114) dL_does_114 (by decide) (by decide) ?_
  refine wq_icmp_ne (pc := 116) (tgt := 128) dL_does_116 (by decide) (by unfold inR; omega) (by unfold inR; omega) (fun c => absurd c (by decide)) (fun _ => ?_)
  refine wq_aload_n (pc := 119) dL_does_119 rfl rfl ?_
  refine wq_iload_n (pc := 120) dL_does_120 rfl rfl ?_
  refine wq_iload_n (pc := 121) dL_does_121 rfl rfl ?_
  refine wq_callV (as := [vI d, vI p]) (rest := []) (pc := 122) dL_does_122 (cw_L_49 _ rfl) (by decide) h1 ⟨by decide, by decide⟩ (Nat.le_of_ble_eq_true rfl) (cl_nameAt (Q := kD Qw) hW hnb hvb r0 r1 (fun μ9 ε9 w => kD_of ok_nameAt (h μ9 ε9 w))) (fun r m e q => ?_) (fun E m e q => ct_does (by decide) (by decide) (by decide) q)
  rcases q with ⟨v, e1, q⟩ | ⟨e1, -⟩ | ⟨e1, -⟩ | ⟨e1, -⟩
  · have e1 : r = some (vI v) := by injection e1
    subst e1
    refine wq_goto (pc := 125) (tgt := 133) dL_does_125 rfl ?_
    exact wh_iret dL_does_133 rfl ⟨v, rfl, q⟩
  · cases e1
  · cases e1
  · cases e1
theorem ok_length {A : AS} {f : Int} : okA (actLength A f).1 := okA_p okA_S (okA_p okA_I (okA_v _))
theorem sd_length {N : Int} {A : AS} {nb vb : Int} {t : Nat} {X μ : nMem} {ε : nEnv} {Qw : Int → nMem → nEnv → Prop} {f x0 x1 : Int} (hW : Wd N A nb vb (t + 1) X μ ε) (hnb : nb + 1 ≤ 2000) (hvb : vb + 2 ≤ 4000) (r0 : inR f) (h : ∀ μ9 ε9, Wd N A nb vb t X μ9 ε9 → Qw (ansI (actLength A f).1) μ9 ε9) : SpH mL_does [(0, 133, 134, 55), (0, 133, 139, 57), (0, 133, 144, 59)] [vR 1, vI 9, vI f, vI x0, vI x1] μ ε (oD Qw) := by
  have h1 := Wd_1 hW
  refine SpH_of (L := [(0, vR 1), (1, vI 9), (2, vI f), (3, vI x0), (4, vI x1)]) (by decide) rfl rfl (Nat.le_of_ble_eq_true rfl) ?_
  refine wq_iload_n (pc := 0) dL_does_0 rfl rfl ?_
  refine wq_if_ne (pc := 1) (tgt := 13) dL_does_1 (by decide) (by unfold inR; omega) (fun _ => ?_) (fun c => absurd c (by decide))
  refine wq_iload_n (pc := 13) dL_does_13 rfl rfl ?_
  refine wq_iconst (pc := 14) dL_does_14 ?_
  refine wq_icmp_ne (pc := 15) (tgt := 27) dL_does_15 (by decide) (by unfold inR; omega) (by unfold inR; omega) (fun _ => ?_) (fun c => absurd c (by decide))
  refine wq_iload_n (pc := 27) dL_does_27 rfl rfl ?_
  refine wq_iconst (pc := 28) dL_does_28 ?_
  refine wq_icmp_ne (pc := 29) (tgt := 43) dL_does_29 (by decide) (by unfold inR; omega) (by unfold inR; omega) (fun _ => ?_) (fun c => absurd c (by decide))
  refine wq_iload_n (pc := 43) dL_does_43 rfl rfl ?_
  refine wq_iconst (pc := 44) dL_does_44 ?_
  refine wq_icmp_ne (pc := 45) (tgt := 57) dL_does_45 (by decide) (by unfold inR; omega) (by unfold inR; omega) (fun _ => ?_) (fun c => absurd c (by decide))
  refine wq_iload_n (pc := 57) dL_does_57 rfl rfl ?_
  refine wq_iconst (pc := 58) dL_does_58 ?_
  refine wq_icmp_ne (pc := 59) (tgt := 71) dL_does_59 (by decide) (by unfold inR; omega) (by unfold inR; omega) (fun _ => ?_) (fun c => absurd c (by decide))
  refine wq_iload_n (pc := 71) dL_does_71 rfl rfl ?_
  refine wq_iconst (pc := 72) dL_does_72 ?_
  refine wq_icmp_ne (pc := 73) (tgt := 84) dL_does_73 (by decide) (by unfold inR; omega) (by unfold inR; omega) (fun _ => ?_) (fun c => absurd c (by decide))
  refine wq_iload_n (pc := 84) dL_does_84 rfl rfl ?_
  refine wq_bipush (pc := 85) dL_does_85 (by decide) (by decide) ?_
  refine wq_icmp_ne (pc := 87) (tgt := 99) dL_does_87 (by decide) (by unfold inR; omega) (by unfold inR; omega) (fun _ => ?_) (fun c => absurd c (by decide))
  refine wq_iload_n (pc := 99) dL_does_99 rfl rfl ?_
  refine wq_bipush (pc := 100) dL_does_100 (by decide) (by decide) ?_
  refine wq_icmp_ne (pc := 102) (tgt := 113) dL_does_102 (by decide) (by unfold inR; omega) (by unfold inR; omega) (fun _ => ?_) (fun c => absurd c (by decide))
  refine wq_iload_n (pc := 113) dL_does_113 rfl rfl ?_
  refine wq_bipush (pc := 114) dL_does_114 (by decide) (by decide) ?_
  refine wq_icmp_ne (pc := 116) (tgt := 128) dL_does_116 (by decide) (by unfold inR; omega) (by unfold inR; omega) (fun _ => ?_) (fun c => absurd c (by decide))
  refine wq_aload_n (pc := 128) dL_does_128 rfl rfl ?_
  refine wq_iload_n (pc := 129) dL_does_129 rfl rfl ?_
  refine wq_callV (as := [vI f]) (rest := []) (pc := 130) dL_does_130 (cw_L_52 _ rfl) (by decide) h1 ⟨by decide, by decide⟩ (Nat.le_of_ble_eq_true rfl) (cl_length (Q := kD Qw) hW hnb hvb r0 (fun μ9 ε9 w => kD_of ok_length (h μ9 ε9 w))) (fun r m e q => ?_) (fun E m e q => ct_does (by decide) (by decide) (by decide) q)
  rcases q with ⟨v, e1, q⟩ | ⟨e1, -⟩ | ⟨e1, -⟩ | ⟨e1, -⟩
  · have e1 : r = some (vI v) := by injection e1
    subst e1
    exact wh_iret dL_does_133 rfl ⟨v, rfl, q⟩
  · cases e1
  · cases e1
  · cases e1
theorem ok_rename {A : AS} {d nm d2 nm2 : Int} : okA (actRename A d nm d2 nm2).1 := okA_p okA_S (okA_p okA_I (okA_p okA_I (okA_p okA_A (okA_p okA_A (okA_p okA_S (okA_p okA_S (okA_p okA_S (okA_f _ (okA_v _) (okA_f _ (okA_v _) (okA_v _))))))))))
theorem sd_rename {N : Int} {A : AS} {nb vb : Int} {t : Nat} {X μ : nMem} {ε : nEnv} {Qw : Int → nMem → nEnv → Prop} {d nm d2 nm2 : Int} (hW : Wd N A nb vb (t + 1) X μ ε) (hnb : nb + 1 ≤ 2000) (hvb : vb + 2 ≤ 4000) (r0 : inR d) (r1 : inR nm) (r2 : inR d2) (r3 : inR nm2) (h : ∀ μ9 ε9, Wd N (actRename A d nm d2 nm2).2 (nb + 1) (vb + 2) t X μ9 ε9 → Qw (ansI (actRename A d nm d2 nm2).1) μ9 ε9) : SpH mL_renames [(0, 9, 10, 55), (0, 9, 15, 57), (0, 9, 20, 59)] [vR 1, vI d, vI nm, vI d2, vI nm2] μ ε (oD Qw) := by
  have h1 := Wd_1 hW
  refine SpH_of (L := [(0, vR 1), (1, vI d), (2, vI nm), (3, vI d2), (4, vI nm2)]) (by decide) rfl rfl (Nat.le_of_ble_eq_true rfl) ?_
  refine wq_aload_n (pc := 0) dL_renames_0 rfl rfl ?_
  refine wq_iload_n (pc := 1) dL_renames_1 rfl rfl ?_
  refine wq_iload_n (pc := 2) dL_renames_2 rfl rfl ?_
  refine wq_iload_n (pc := 3) dL_renames_3 rfl rfl ?_
  refine wq_iload (pc := 4) dL_renames_4 rfl ?_
  refine wq_callV (as := [vI d, vI nm, vI d2, vI nm2]) (rest := []) (pc := 6) dL_renames_6 (cw_L_61 _ rfl) (by decide) h1 ⟨by decide, by decide⟩ (Nat.le_of_ble_eq_true rfl) (cl_rename (Q := kD Qw) hW hnb hvb r0 r1 r2 r3 (fun μ9 ε9 w => kD_of ok_rename (h μ9 ε9 w))) (fun r m e q => ?_) (fun E m e q => ct_renames (by decide) (by decide) (by decide) q)
  rcases q with ⟨v, e1, q⟩ | ⟨e1, -⟩ | ⟨e1, -⟩ | ⟨e1, -⟩
  · have e1 : r = some (vI v) := by injection e1
    subst e1
    exact wh_iret dL_renames_9 rfl ⟨v, rfl, q⟩
  · cases e1
  · cases e1
  · cases e1
theorem ok_write {A : AS} {f off b n : Int} : okA (actWrite A f off b n).1 := okA_p okA_S (okA_p okA_I (okA_p okA_A (okA_p okA_S (okA_f _ (okA_v _) (okA_v _)))))
theorem sd_write {N : Int} {A : AS} {nb vb : Int} {t : Nat} {X μ : nMem} {ε : nEnv} {Qw : Int → nMem → nEnv → Prop} {f off b n : Int} (hW : Wd N A nb vb (t + 1) X μ ε) (hnb : nb + 1 ≤ 2000) (hvb : vb + 2 ≤ 4000) (r0 : inR f) (r1 : inR off) (r2 : inR n) (h : ∀ μ9 ε9, Wd N (actWrite A f off b n).2 (nb + 1) (vb + 2) t X μ9 ε9 → Qw (ansI (actWrite A f off b n).1) μ9 ε9) : SpH mL_writes [(0, 9, 10, 55), (0, 9, 15, 57), (0, 9, 20, 59)] [vR 1, vI f, vI off, vJ b, vI n] μ ε (oD Qw) := by
  have h1 := Wd_1 hW
  refine SpH_of (L := [(0, vR 1), (1, vI f), (2, vI off), (3, vJ b), (5, vI n)]) (by decide) rfl rfl (Nat.le_of_ble_eq_true rfl) ?_
  refine wq_aload_n (pc := 0) dL_writes_0 rfl rfl ?_
  refine wq_iload_n (pc := 1) dL_writes_1 rfl rfl ?_
  refine wq_iload_n (pc := 2) dL_writes_2 rfl rfl ?_
  refine wq_lload_n (pc := 3) dL_writes_3 rfl rfl ?_
  refine wq_iload (pc := 4) dL_writes_4 rfl ?_
  refine wq_callV (as := [vI f, vI off, vJ b, vI n]) (rest := []) (pc := 6) dL_writes_6 (cw_L_65 _ rfl) (by decide) h1 ⟨by decide, by decide⟩ (Nat.le_of_ble_eq_true rfl) (cl_write (Q := kD Qw) hW hnb hvb r0 r1 r2 (fun μ9 ε9 w => kD_of ok_write (h μ9 ε9 w))) (fun r m e q => ?_) (fun E m e q => ct_writes (by decide) (by decide) (by decide) q)
  rcases q with ⟨v, e1, q⟩ | ⟨e1, -⟩ | ⟨e1, -⟩ | ⟨e1, -⟩
  · have e1 : r = some (vI v) := by injection e1
    subst e1
    exact wh_iret dL_writes_9 rfl ⟨v, rfl, q⟩
  · cases e1
  · cases e1
  · cases e1
/-- a call of such a method -/
theorem cW_5 {M M' : nM} {hh : List (Nat × Nat × Nat × Nat)} {pc idx : Nat} {L : List (Nat × nV)} {rest : List nV} {μ : nMem} {ε : nEnv} {tb : List ExceptionTableEntry → Prop} {Fn : nG → Nat → Nat → List Frame → Array Value → State → State → Prop} {a1 a2 a3 a4 a5 : nV} (hd : decode (mCode M) pc = .ok (.invokestatic idx, 3)) (hw : cxW M idx M' hh 5) (hfr : mFr M' + 1 ≤ mFr M ∧ 8 + (mMax M' + 11) + mLo M' ≤ mLo M) (hst8 : (rest.map nCat).sum ≤ 8) (h : SpH M' hh [a1, a2, a3, a4, a5] μ ε (oD (fun c m e => wpF M (pc + 3) L (vI c :: rest) m e tb Fn))) : wpF M pc L (a5 :: a4 :: a3 :: a2 :: a1 :: rest) μ ε tb Fn :=
  wq_callW (as := [a1, a2, a3, a4, a5]) hd hw hfr hst8 h (fun r m e q => by
    obtain ⟨c, e1, q⟩ := q
    have e1 : r = some (vI c) := by injection e1
    subst e1; exact q) (fun E m e q => by obtain ⟨c, e1, -⟩ := q; cases e1)
