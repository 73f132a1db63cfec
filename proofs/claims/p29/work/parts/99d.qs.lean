/-! ### questions of the law's methods: their answers -/
section
variable {N : Int} {A : AS} {nb vb : Int} {t : Nat} {X μ : nMem} {ε : nEnv} {Q : nOut → nMem → nEnv → Prop}
theorem GA_D {A : AS} {X : nMem} (h : GA A X) : fD (aF A) ≠ 1 := h.1.1
theorem qs_isDark (hW : Wd N A nb vb (t + 1) X μ ε) (hn : nb + 1 ≤ 2000) (hv : vb + 2 ≤ 4000) (h : ∀ m e, Wd N A nb vb t X m e → Q (.inl (some (vI (fD (aF A))))) m e) : Sp mX6_isDark [vR 1] μ ε Q :=
  cl_isDark hW hn hv (fun m e w => h m e w)
theorem qs_names {d : Int} (hW : Wd N A nb vb (t + 1) X μ ε) (hn : nb + 1 ≤ 2000) (hv : vb + 2 ≤ 4000) (hG : GA A X) (hd : isDr A d) (h : ∀ m e, Wd N A nb vb t X m e → Q (.inl (some (vI (cR (pD (X 22) d) (X 21 0).toNat)))) m e) : Sp mX6_names [vR 1, vI d] μ ε Q := by
  have hb := hG.2.1 d hd
  refine cl_names hW hn hv (by unfold inR; omega) (fun m e w => ?_)
  have e1 : (actNames A d).1 = .inl (cR (pD (X 22) d) (X 21 0).toNat) := by
    unfold actNames qD
    rw [pI_0 hG.1.1, pI_0 (fun z => z hd), GA_names hG hd]
  rw [e1]; exact h m e w
theorem qs_links {v : Int} (hW : Wd N A nb vb (t + 1) X μ ε) (hn : nb + 1 ≤ 2000) (hv : vb + 2 ≤ 4000) (hG : GA A X) (hd : isDr A v ∨ isFl A v) (hv0 : 2 ≤ v ∧ v < 2000) (h : ∀ m e, Wd N A nb vb t X m e → Q (.inl (some (vI (cR (pT (X 22) v) (X 21 0).toNat)))) m e) : Sp mX6_links [vR 1, vI v] μ ε Q := by
  refine cl_links hW hn hv (by unfold inR; omega) (fun m e w => ?_)
  have e1 : (actLinks A v).1 = .inl (cR (pT (X 22) v) (X 21 0).toNat) := by
    unfold actLinks
    rw [pI_0 hG.1.1, pI_0 (fun z => z hd), GA_links hG (by omega)]
  rw [e1]; exact h m e w
theorem qs_links1 (hW : Wd N A nb vb (t + 1) X μ ε) (hn : nb + 1 ≤ 2000) (hv : vb + 2 ≤ 4000) (hG : GA A X) (h : ∀ m e, Wd N A nb vb t X m e → Q (.inl (some (vI 0))) m e) : Sp mX6_links [vR 1, vI 1] μ ε Q := by
  refine cl_links hW hn hv (by unfold inR; omega) (fun m e w => ?_)
  have e1 : (actLinks A 1).1 = .inl 0 := by
    unfold actLinks
    rw [pI_0 hG.1.1, pI_0 (fun z => z (Or.inl (isDr_1 A))), GA_links1 hG]
  rw [e1]; exact h m e w
theorem qs_isDir {v k : Int} (hW : Wd N A nb vb (t + 1) X μ ε) (hn : nb + 1 ≤ 2000) (hv : vb + 2 ≤ 4000) (hG : GA A X) (hk : (k = 1 ∧ isDr A v) ∨ (k = 0 ∧ isFl A v ∧ ¬ isDr A v)) (hv0 : 1 ≤ v ∧ v < 2000) (h : ∀ m e, Wd N A nb vb t X m e → Q (.inl (some (vI k))) m e) : Sp mX6_isDirectory [vR 1, vI v] μ ε Q := by
  refine cl_isDirectory hW hn hv (by unfold inR; omega) (fun m e w => ?_)
  have e1 : (actIsDir A v).1 = .inl k := by
    unfold actIsDir
    rcases hk with ⟨k1, k2⟩ | ⟨k1, k2, k3⟩
    · rw [pI_0 hG.1.1, pI_0 (fun z => z (Or.inl k2)), pI_1 k2, k1]
    · rw [pI_0 hG.1.1, pI_0 (fun z => z (Or.inr k2)), pI_0 k3, k1]
  rw [e1]; exact h m e w
theorem an_lookUp {d nm : Int} (hG : GA A X) (hd : isDr A d) (hm : nmR nm) : (actLookUp A d nm).1 = .inl (if TG (aF A) d nm = 0 then -1 else TG (aF A) d nm) := by
  unfold actLookUp qD
  rw [pI_0 hG.1.1, pI_0 (fun z => z hd), pI_0 (fun z => z hm)]
theorem qs_lookUp {d nm u : Int} (hW : Wd N A nb vb (t + 1) X μ ε) (hn : nb + 1 ≤ 2000) (hv : vb + 2 ≤ 4000) (hG : GA A X) (hd : isDr A d) (hm : nmR nm) (hu : TG (aF A) d nm = u) (hu0 : u ≠ 0) (h : ∀ m e, Wd N A nb vb t X m e → Q (.inl (some (vI u))) m e) : Sp mX6_lookUp [vR 1, vI d, vI nm] μ ε Q := by
  have hb := hG.2.1 d hd
  refine cl_lookUp hW hn hv (by unfold inR; omega) (by unfold inR; omega) (fun m e w => ?_)
  have e1 := an_lookUp hG hd hm
  rw [hu, if_neg hu0] at e1
  rw [e1]; exact h m e w
theorem qs_lookUp2 {d nm : Int} (hW : Wd N A nb vb (t + 1) X μ ε) (hn : nb + 1 ≤ 2000) (hv : vb + 2 ≤ 4000) (hD : ¬ dk A) (hd : isDr A d) (hdb : 1 ≤ d ∧ d < 2000) (hm : nmR nm) (h : ∀ m e, Wd N A nb vb t X m e → Q (.inl (some (vI (if TG (aF A) d nm = 0 then -1 else TG (aF A) d nm)))) m e) : Sp mX6_lookUp [vR 1, vI d, vI nm] μ ε Q := by
  refine cl_lookUp hW hn hv (by unfold inR; omega) (by unfold inR; omega) (fun m e w => ?_)
  have e1 : (actLookUp A d nm).1 = .inl (if TG (aF A) d nm = 0 then -1 else TG (aF A) d nm) := by
    unfold actLookUp qD
    rw [pI_0 hD, pI_0 (fun z => z hd), pI_0 (fun z => z hm)]
  rw [e1]; exact h m e w
theorem qs_nameAt {d p v : Int} (hW : Wd N A nb vb (t + 1) X μ ε) (hn : nb + 1 ≤ 2000) (hv : vb + 2 ≤ 4000) (hG : GA A X) (hd : isDr A d) (hp : 0 ≤ p ∧ p < cntN (TG (aF A) d) 99) (rp : inR p) (hx : nmAt (TG (aF A) d) p 99 = v) (h : ∀ m e, Wd N A nb vb t X m e → Q (.inl (some (vI v))) m e) : Sp mX6_nameAt [vR 1, vI d, vI p] μ ε Q := by
  have hb := hG.2.1 d hd
  refine cl_nameAt hW hn hv (by unfold inR; omega) rp (fun m e w => ?_)
  have e1 : (actNameAt A d p).1 = .inl v := by
    unfold actNameAt qD
    rw [pI_0 hG.1.1, pI_0 (fun z => z hd), pI_0 (fun z => z hp), hx]
  rw [e1]; exact h m e w
theorem qs_length {f : Int} (hW : Wd N A nb vb (t + 1) X μ ε) (hn : nb + 1 ≤ 2000) (hv : vb + 2 ≤ 4000) (hG : GA A X) (hf : isFl A f) (hb : 2 ≤ f ∧ f < 2000) (h : ∀ m e, Wd N A nb vb t X m e → Q (.inl (some (vI (LN (aF A) f)))) m e) : Sp mX6_length [vR 1, vI f] μ ε Q := by
  refine cl_length hW hn hv (by unfold inR; omega) (fun m e w => ?_)
  have e1 : (actLength A f).1 = .inl (LN (aF A) f) := by
    unfold actLength qF
    rw [pI_0 hG.1.1, pI_0 (fun z => z hf)]
  rw [e1]; exact h m e w
theorem an_byteAt {f p : Int} (hG : GA A X) (hf : isFl A f) (hp : 0 ≤ p ∧ p < LN (aF A) f) : (actByteAt A f p).1 = .inl (BY (aF A) f p) := by
  unfold actByteAt qF
  rw [pI_0 hG.1.1, pI_0 (fun z => z hf), pI_0 (fun z => z hp)]
theorem qs_byteAt {f p u : Int} (hW : Wd N A nb vb (t + 1) X μ ε) (hn : nb + 1 ≤ 2000) (hv : vb + 2 ≤ 4000) (hG : GA A X) (hf : isFl A f) (hb : 2 ≤ f ∧ f < 2000) (hp : 0 ≤ p ∧ p < LN (aF A) f) (hu : BY (aF A) f p = u) (h : ∀ m e, Wd N A nb vb t X m e → Q (.inl (some (vI u))) m e) : Sp mX6_byteAt [vR 1, vI f, vI p] μ ε Q := by
  have hL := hG.2.2.2.2 f
  refine cl_byteAt hW hn hv (by unfold inR; omega) (by unfold inR; omega) (fun m e w => ?_)
  rw [an_byteAt hG hf hp, hu]; exact h m e w
theorem qs_byteByNodes {f p u : Int} (hW : Wd N A nb vb (t + 1) X μ ε) (hn : nb + 1 ≤ 2000) (hv : vb + 2 ≤ 4000) (hG : GA A X) (hf : isFl A f) (hb : 2 ≤ f ∧ f < 2000) (hp : 0 ≤ p ∧ p < LN (aF A) f) (hu : BY (aF A) f p = u) (h : ∀ m e, Wd N A nb vb t X m e → Q (.inl (some (vI u))) m e) : Sp mX6_byteByNodes [vR 1, vI f, vI p] μ ε Q := by
  have hL := hG.2.2.2.2 f
  refine cl_byteByNodes hW hn hv (by unfold inR; omega) (by unfold inR; omega) (fun m e w => ?_)
  rw [an_byteAt hG hf hp, hu]; exact h m e w
/-- a block's state is 0 just for free ones, above 1 just for closed ones -/
theorem qs_state {b : Int} (hW : Wd N A nb vb (t + 1) X μ ε) (hn : nb + 1 ≤ 2000) (hv : vb + 2 ≤ 4000) (hD : ¬ dk A) (hb : 0 ≤ b ∧ b < 8) (h : ∀ m e s, Wd N A nb vb t X m e → (0 ≤ s ∧ s ≤ 4) → (s = 0 ↔ b ∈ (aG A).2.1) → (1 < s ↔ b ∉ (aG A).2.1 ∧ b ≠ (aG A).1) → Q (.inl (some (vI s))) m e) : Sp mX6_state [vR 1, vI b] μ ε Q := by
  refine cl_state hW hn hv (by unfold inR; omega) (fun m e w => ?_)
  have e1 : (actState A b).1 = .inl (if b ∈ (aG A).2.1 then 0 else if b = (aG A).1 then 1 else jDirt (aF A) (tS (aF A)) b) := by
    unfold actState qB
    rw [pI_0 hD, pI_0 (fun z => z hb)]
  rw [e1]
  have hj := jDirt_r (aF A) (tS (aF A)) b
  by_cases c : b ∈ (aG A).2.1
  · rw [if_pos c]; exact h m e 0 w (by omega) ⟨fun _ => c, fun _ => rfl⟩ ⟨fun z => by omega, fun z => absurd c z.1⟩
  · by_cases c2 : b = (aG A).1
    · rw [if_neg c, if_pos c2]; exact h m e 1 w (by omega) ⟨fun z => by omega, fun z => absurd z c⟩ ⟨fun z => by omega, fun z => absurd c2 z.2⟩
    · rw [if_neg c, if_neg c2]; exact h m e _ w (by omega) ⟨fun z => by omega, fun z => absurd z c⟩ ⟨fun _ => ⟨c, c2⟩, fun _ => by omega⟩
variable {Qw : Int → nMem → nEnv → Prop}
theorem qd_names {v k x1 x2 : Int} (hW : Wd N A nb vb (t + 1) X μ ε) (hn : nb + 1 ≤ 2000) (hv : vb + 2 ≤ 4000) (hG : GA A X) (hk : (k = 1 ∧ isDr A v) ∨ (k = 0 ∧ isFl A v ∧ ¬ isDr A v)) (hv0 : 1 ≤ v ∧ v < 2000) (h : ∀ m e, Wd N A nb vb t X m e → Qw (if k = 1 then cR (pD (X 22) v) (X 21 0).toNat else -11) m e) : SpH mL_does [(0, 133, 134, 55), (0, 133, 139, 57), (0, 133, 144, 59)] [vR 1, vI 7, vI v, vI x1, vI x2] μ ε (oD Qw) := by
  refine sd_names hW hn hv (by unfold inR; omega) (fun m e w => ?_)
  have e1 : ansI (actNames A v).1 = if k = 1 then cR (pD (X 22) v) (X 21 0).toNat else -11 := by
    unfold actNames qD
    rcases hk with ⟨k1, k2⟩ | ⟨k1, k2, k3⟩
    · rw [pI_0 hG.1.1, pI_0 (fun z => z k2), GA_names hG k2, if_pos k1]; rfl
    · rw [pI_0 hG.1.1, pI_1 k3, if_neg (by omega)]; rfl
  rw [e1]; exact h m e w
theorem qd_nameAt {d x1 : Int} (hW : Wd N A nb vb (t + 1) X μ ε) (hn : nb + 1 ≤ 2000) (hv : vb + 2 ≤ 4000) (hG : GA A X) (hd : isDr A d) (h : ∀ m e, Wd N A nb vb t X m e → Qw (-11) m e) : SpH mL_does [(0, 133, 134, 55), (0, 133, 139, 57), (0, 133, 144, 59)] [vR 1, vI 8, vI d, vI (cR (pD (X 22) d) (X 21 0).toNat), vI x1] μ ε (oD Qw) := by
  have hb := hG.2.1 d hd
  refine sd_nameAt hW hn hv (by unfold inR; omega) (cR_r hG.1.2.2.1.2) (fun m e w => ?_)
  have e1 : ansI (actNameAt A d (cR (pD (X 22) d) (X 21 0).toNat)).1 = -11 := by
    unfold actNameAt qD
    rw [pI_0 hG.1.1, pI_0 (fun z => z hd), pI_1 (fun z => by have := GA_names hG hd; omega)]; rfl
  rw [e1]; exact h m e w
theorem qd_lookUp {nm x1 : Int} (hW : Wd N A nb vb (t + 1) X μ ε) (hn : nb + 1 ≤ 2000) (hv : vb + 2 ≤ 4000) (hG : GA A X) (hm : nmR nm) (h : ∀ m e, Wd N A nb vb t X m e → Qw (if TG (aF A) 1 nm = 0 then -1 else TG (aF A) 1 nm) m e) : SpH mL_does [(0, 133, 134, 55), (0, 133, 139, 57), (0, 133, 144, 59)] [vR 1, vI 6, vI 1, vI nm, vI x1] μ ε (oD Qw) := by
  refine sd_lookUp hW hn hv (by unfold inR; omega) (by unfold inR; omega) (fun m e w => ?_)
  rw [an_lookUp hG (isDr_1 A) hm]; exact h m e w
/-- in the dark -/
theorem qd_dark6 {x1 : Int} (hW : Wd N A nb vb (t + 1) X μ ε) (hn : nb + 1 ≤ 2000) (hv : vb + 2 ≤ 4000) (hD : dk A) (h : ∀ m e, Wd N A nb vb t X m e → Qw (-13) m e) : SpH mL_does [(0, 133, 134, 55), (0, 133, 139, 57), (0, 133, 144, 59)] [vR 1, vI 6, vI 1, vI 1, vI x1] μ ε (oD Qw) := by
  refine sd_lookUp hW hn hv (by unfold inR; omega) (by unfold inR; omega) (fun m e w => ?_)
  have e1 : ansI (actLookUp A 1 1).1 = -13 := by
    unfold actLookUp qD
    rw [pI_1 hD]; rfl
  rw [e1]; exact h m e w
theorem qd_dark5 {x1 x2 : Int} (hW : Wd N A nb vb (t + 1) X μ ε) (hn : nb + 1 ≤ 2000) (hv : vb + 2 ≤ 4000) (hD : dk A) (h : ∀ m e, Wd N A nb vb t X m e → Qw (-13) m e) : SpH mL_does [(0, 133, 134, 55), (0, 133, 139, 57), (0, 133, 144, 59)] [vR 1, vI 5, vI 500, vI x1, vI x2] μ ε (oD Qw) := by
  have e2 : actCollect A 500 = (.inr xS, A) := by unfold actCollect; rw [pI_1 hD]
  refine sd_collect hW hn hv (by unfold inR; omega) (fun m e w => ?_)
  rw [e2] at w ⊢
  refine h m e ⟨MC_keep hW.1 w.1, w.2⟩
end
