/-! ### the law's calls, one by one -/
def exJ (Es : List String) (a : Ans) : Prop := (∃ v, a = .inl v ∧ inL v) ∨ (∃ (i : Nat) (E : String), a = .inr E ∧ Es[i]? = some E)
def AJ (Es : List String) (a : Ans) (k : Int) (m : nMem) : Prop := (∃ v, a = .inl v ∧ inL v ∧ k = 0 ∧ m 56 0 = v) ∨ (∃ (i : Nat) (E : String), a = .inr E ∧ Es[i]? = some E ∧ k = (i : Int) + 1 ∧ i < Es.length)
theorem kWJ_of {μ0 μ9 : nMem} {N : Int} {c : Nat} {A A' : AS} {ε9 : nEnv} {Es : List String} {a : Ans} (hx : exJ Es a) (h : nL1 μ0 N c A A' μ9 ε9) : kWJ Es (fun k m e => AJ Es a k m ∧ nL1 μ0 N c A A' m e) (ocJ a) μ9 ε9 := by
  rcases hx with ⟨v, e, hv⟩ | ⟨i, E, e, hi⟩
  · subst e
    exact Or.inl ⟨v, rfl, h.2.2.1, Or.inl ⟨v, rfl, hv, rfl, wr_s _ _ _ _⟩, nL1_56 h⟩
  · subst e
    have hl : i < Es.length := by
      by_cases q : i < Es.length
      · exact q
      · rw [List.getElem?_eq_none (by omega)] at hi; exact absurd hi (by simp)
    exact Or.inr ⟨i, E, rfl, hl, hi, Or.inr ⟨i, E, rfl, hi, rfl, hl⟩, h⟩
theorem tie_aj {Es : List String} {a : Ans} {k v : Int} {m1 m2 : nMem} (hn : Es.Nodup) (h3 : Es.length ≤ 3) (h : AJ Es a k m1) (g : anM a Es v m2) : m2 21 25 = k ∧ (0 ≤ k ∧ k ≤ 3) ∧ (k = 0 → m1 56 0 = v ∧ inL v) := by
  rcases h with ⟨v1, e, hv, hk, hm⟩ | ⟨i, E, e, hi, hk, hl⟩
  · rcases g with ⟨z, e2, hz, ht⟩ | ⟨i2, E2, e2, -, -⟩
    · rw [e] at e2
      injection e2 with e2
      subst e2
      exact ⟨by omega, by omega, fun _ => ⟨by omega, by rw [hz]; exact hv⟩⟩
    · rw [e] at e2; cases e2
  · rcases g with ⟨z, e2, hz, ht⟩ | ⟨i2, E2, e2, hi2, ht⟩
    · rw [e] at e2; cases e2
    · rw [e] at e2
      injection e2 with e2
      subst e2
      have : i = i2 := (List.getElem?_inj hl hn).mp (hi.trans hi2.symm)
      subst this
      exact ⟨by omega, by omega, fun q => by omega⟩
theorem row_all {F : Fl} (hA : PA F) {i : Int} (i0 : 0 ≤ i) (i1 : i < 128) : (0 ≤ fN F i 0 ∧ fN F i 0 ≤ 3) ∧ (0 ≤ fN F i 2 ∧ fN F i 2 ≤ 20) ∧ (0 ≤ fN F i 3 ∧ fN F i 3 ≤ 2000) ∧ 0 ≤ fN F i 4 ∧ fN F i 4 ≤ 4000 := by
  have p := puts_b hA i0 i1
  by_cases h : i % 16 < fC F (i / 16)
  · obtain ⟨a, b, c⟩ := PA_in hA i0 i1 h
    rcases a with q | q
    · have := sOK_k q; omega
    · have z0 := q.1
      have z3 := q.2.2 3 (by decide) (by decide)
      have z4 := q.2.2 4 (by decide) (by decide)
      omega
  · have z0 := PA_out hA i0 i1 h 0 (by decide) (by decide)
    have z3 := PA_out hA i0 i1 h 3 (by decide) (by decide)
    have z4 := PA_out hA i0 i1 h 4 (by decide) (by decide)
    omega
theorem ex_node {A : AS} {nb vb : Int} (hO : AOK A nb vb) (b p : Int) : exJ [xI] (actNode A b p).1 := by
  unfold actNode qb
  by_cases c : ¬ (0 ≤ b ∧ b < 8)
  · rw [pI_1 c]; exact Or.inr ⟨0, xI, rfl, rfl⟩
  · rw [pI_0 c]
    have hb := Classical.not_not.mp c
    by_cases d : ¬ (0 ≤ p ∧ p < fC (aF A) b)
    · rw [pI_1 d]; exact Or.inr ⟨0, xI, rfl, rfl⟩
    · rw [pI_0 d]
      have hp := Classical.not_not.mp d
      have hc := (hO.1.1 b hb.1 hb.2).1.1
      have r := row_all hO.1.1 (i := b * 16 + p) (by omega) (by omega)
      refine Or.inl ⟨_, rfl, ?_⟩
      unfold inL
      split <;> omega
theorem inL_R {x : Int} (h : inR x) : inL x := by unfold inR at h; unfold inL; omega
theorem nCmp_same (v : Int) : nCmp v v = 0 := by unfold nCmp; rw [if_neg (by omega), if_pos rfl]
theorem lc_create {μ0 : nMem} {N : Int} {c : Nat} {A : AS} {μ : nMem} {ε : nEnv} (hs0 : ∀ j, inR (μ0 (-1) j)) (hN : 0 ≤ N ∧ N ≤ 3072) (hc : 6 * (c : Int) + 6 ≤ N) (hLS : nLS μ0 N c A μ ε) (END : ∀ A2 m e, nLS μ0 N (c + 1) A2 m e → wpL 1800 [(4, vI (6 * (c : Int))), (3, vR 56), (2, vR 21), (1, vR 1), (0, vR (-1))] [] m e Qlaw) : wpL 160 [(4, vI (6 * (c : Int))), (3, vR 56), (2, vR 21), (1, vR 1), (0, vR (-1))] [] μ ε Qlaw := by
  obtain ⟨⟨hM, hCM, hcap⟩, ⟨h4, h5, h6, h7, h8⟩, hfe⟩ := id hLS
  have hO := MC_AOK hM
  have hnb : 2 + (c : Int) + 1 ≤ 2000 := by omega
  have hvb : 2 * (c : Int) + 2 ≤ 4000 := by omega
  have hcc : 600000 - (c + 1) + 1 = 600000 - c := by omega
  have hcap2 : Cap μ ε (600000 - (c + 1) + 1) := by rw [hcc]; exact hcap
  have hfE : ∀ b, 0 ≤ b → b < 8 → 0 ≤ fE (aF A) b ∧ fE (aF A) b ≤ 190000 := fun b b0 b1 => by have := hfe b b0 b1; omega
  refine wq_aload_n (pc := 160) dL_law_160 rfl rfl ?_
  refine wq_aload_n (pc := 161) dL_law_161 rfl rfl ?_
  refine wq_iload (pc := 162) dL_law_162 rfl ?_
  refine wq_iconst (pc := 164) dL_law_164 ?_
  refine wq_iadd (pc := 165) dL_law_165 ?_
  refine wq_sld (pc := 166) dL_law_166 (by omega) (by rw [h8]; omega) ?_
  rw [h7]
  refine wq_aload_n (pc := 167) dL_law_167 rfl rfl ?_
  refine wq_iload (pc := 168) dL_law_168 rfl ?_
  refine wq_iconst (pc := 170) dL_law_170 ?_
  refine wq_iadd (pc := 171) dL_law_171 ?_
  refine wq_sld (pc := 172) dL_law_172 (by omega) (by rw [h8]; omega) ?_
  rw [h7]
  refine wq_aload_n (pc := 173) dL_law_173 rfl rfl ?_
  refine wq_callW (as := [vR 1, vI (μ0 (-1) (6 * (c : Int) + 1)), vI (μ0 (-1) (6 * (c : Int) + 2)), vR 56]) (rest := []) (pc := 174) dL_law_174 (cw_L_98 _ rfl) ⟨by decide, by decide⟩ (Nat.le_of_ble_eq_true rfl) (sw_create h6 (sp_X6_create (t := 600000 - (c + 1)) hM hcap2 hnb hvb (hs0 _) (hs0 _) (fun μ9 ε9 hM9 hc9 hF9 => kW_of (ex_create hO (by omega) _ _) (nL1_of hLS hM9 hc9 hF9)))) (fun r m1 e1 hq => ?_) (fun E m1 e1 hq => by obtain ⟨k, hk, -⟩ := hq; cases hk)
  obtain ⟨k, hk, hAW, hL1⟩ := hq
  cases hk
  show wpL 177 _ [vI k] _ _ _
  refine wq_istore (pc := 177) (L' := [(5, _), (4, _), (3, _), (2, _), (1, _), (0, _)]) dL_law_177 rfl (by decide) ?_
  obtain ⟨⟨gM, gC, gcap⟩, gR, g5, g6, g7, g8⟩ := id hL1
  refine wq_aload_n (pc := 179) dL_law_179 rfl rfl ?_
  refine wq_aload_n (pc := 180) dL_law_180 rfl rfl ?_
  refine wq_iload (pc := 181) dL_law_181 rfl ?_
  refine wq_iconst (pc := 183) dL_law_183 ?_
  refine wq_iadd (pc := 184) dL_law_184 ?_
  refine wq_sld (pc := 185) dL_law_185 (by omega) (by rw [g8]; omega) ?_
  rw [g7]
  refine wq_aload_n (pc := 186) dL_law_186 rfl rfl ?_
  refine wq_iload (pc := 187) dL_law_187 rfl ?_
  refine wq_iconst (pc := 189) dL_law_189 ?_
  refine wq_iadd (pc := 190) dL_law_190 ?_
  refine wq_sld (pc := 191) dL_law_191 (by omega) (by rw [g8]; omega) ?_
  rw [g7]
  refine wl_callV (as := [vI (μ0 (-1) (6 * (c : Int) + 1)), vI (μ0 (-1) (6 * (c : Int) + 2))]) (rest := []) (ci := 7) (pc := 192) dL_law_192 (cw_L_103 _ rfl) (by decide) gR.1.1 ⟨by decide, by decide⟩ (Nat.le_of_ble_eq_true rfl) (sp_X7_create gC hO hnb hvb (hs0 _) (hs0 _) (fun m2 v hC2 hF2 ha2 => ?_))
  show wpL 195 _ [vI v] _ _ _
  refine wq_istore (pc := 195) (L' := [(6, _), (5, _), (4, _), (3, _), (2, _), (1, _), (0, _)]) dL_law_195 rfl (by decide) ?_
  obtain ⟨t1, t2, t3⟩ := tie_an (by decide) (by decide) hAW ha2
  refine wq_aload_n (pc := 197) dL_law_197 rfl rfl ?_
  refine wl_callV0 (ci := 7) (pc := 198) dL_law_198 (cw_L_104 _ rfl) (by decide) gR.1.1 ⟨by decide, by decide⟩ (Nat.le_of_ble_eq_true rfl) (sp_X7_thrown (skM_of gR) ?_)
  show wpL 201 _ [vI (m2 21 25)] _ _ _
  refine wq_iload (pc := 201) dL_law_201 rfl ?_
  refine wq_icmp_eq (pc := 203) (tgt := 208) dL_law_203 (by decide) (by unfold inR; omega) (by unfold inR; omega) (fun c1 => ?_) (fun c1 => by exfalso; omega)
  refine wq_iload (pc := 208) dL_law_208 rfl ?_
  refine wq_if_ne (pc := 210) (tgt := 225) dL_law_210 (by decide) (by unfold inR; omega) (fun c2 => ?_) (fun c2 => ?_)
  · refine wq_goto (pc := 225) (tgt := 1800) dL_law_225 (by decide) ?_
    refine wq_sub1 (L' := [(4, _), (3, _), (2, _), (1, _), (0, _)]) ⟨rfl, rfl, rfl, rfl, rfl, trivial⟩ ?_
    exact END _ _ _ (nLS_of hLS hL1 hC2 hF2 (fe_create A _ _))
  · refine wq_aload_n (pc := 213) dL_law_213 rfl rfl ?_
    refine wq_iconst (pc := 214) dL_law_214 ?_
    refine wq_lald (pc := 215) dL_law_215 g5.1 (by omega) (by rw [g5.2]; omega) ?_
    have e56 : m2 56 0 = v := (hF2 56 0 (by omega)).trans (t3 (by omega)).1
    rw [e56]
    refine wq_iload (pc := 216) dL_law_216 rfl ?_
    refine wq_i2l (pc := 218) dL_law_218 (t3 (by omega)).2 ?_
    refine wq_lcmp (pc := 219) dL_law_219 (inL_R (t3 (by omega)).2) (inL_R (t3 (by omega)).2) ?_
    rw [nCmp_same]
    refine wq_if_eq (pc := 220) (tgt := 225) dL_law_220 (by decide) (by unfold inR; omega) (fun _ => ?_) (fun c4 => absurd rfl c4)
    refine wq_goto (pc := 225) (tgt := 1800) dL_law_225 (by decide) ?_
    refine wq_sub1 (L' := [(4, _), (3, _), (2, _), (1, _), (0, _)]) ⟨rfl, rfl, rfl, rfl, rfl, trivial⟩ ?_
    exact END _ _ _ (nLS_of hLS hL1 hC2 hF2 (fe_create A _ _))
theorem lc_makeDirectory {μ0 : nMem} {N : Int} {c : Nat} {A : AS} {μ : nMem} {ε : nEnv} (hs0 : ∀ j, inR (μ0 (-1) j)) (hN : 0 ≤ N ∧ N ≤ 3072) (hc : 6 * (c : Int) + 6 ≤ N) (hLS : nLS μ0 N c A μ ε) (END : ∀ A2 m e, nLS μ0 N (c + 1) A2 m e → wpL 1800 [(4, vI (6 * (c : Int))), (3, vR 56), (2, vR 21), (1, vR 1), (0, vR (-1))] [] m e Qlaw) : wpL 228 [(4, vI (6 * (c : Int))), (3, vR 56), (2, vR 21), (1, vR 1), (0, vR (-1))] [] μ ε Qlaw := by
  obtain ⟨⟨hM, hCM, hcap⟩, ⟨h4, h5, h6, h7, h8⟩, hfe⟩ := id hLS
  have hO := MC_AOK hM
  have hnb : 2 + (c : Int) + 1 ≤ 2000 := by omega
  have hvb : 2 * (c : Int) + 2 ≤ 4000 := by omega
  have hcc : 600000 - (c + 1) + 1 = 600000 - c := by omega
  have hcap2 : Cap μ ε (600000 - (c + 1) + 1) := by rw [hcc]; exact hcap
  have hfE : ∀ b, 0 ≤ b → b < 8 → 0 ≤ fE (aF A) b ∧ fE (aF A) b ≤ 190000 := fun b b0 b1 => by have := hfe b b0 b1; omega
  refine wq_aload_n (pc := 228) dL_law_228 rfl rfl ?_
  refine wq_aload_n (pc := 229) dL_law_229 rfl rfl ?_
  refine wq_iload (pc := 230) dL_law_230 rfl ?_
  refine wq_iconst (pc := 232) dL_law_232 ?_
  refine wq_iadd (pc := 233) dL_law_233 ?_
  refine wq_sld (pc := 234) dL_law_234 (by omega) (by rw [h8]; omega) ?_
  rw [h7]
  refine wq_aload_n (pc := 235) dL_law_235 rfl rfl ?_
  refine wq_iload (pc := 236) dL_law_236 rfl ?_
  refine wq_iconst (pc := 238) dL_law_238 ?_
  refine wq_iadd (pc := 239) dL_law_239 ?_
  refine wq_sld (pc := 240) dL_law_240 (by omega) (by rw [h8]; omega) ?_
  rw [h7]
  refine wq_aload_n (pc := 241) dL_law_241 rfl rfl ?_
  refine wq_callW (as := [vR 1, vI (μ0 (-1) (6 * (c : Int) + 1)), vI (μ0 (-1) (6 * (c : Int) + 2)), vR 56]) (rest := []) (pc := 242) dL_law_242 (cw_L_108 _ rfl) ⟨by decide, by decide⟩ (Nat.le_of_ble_eq_true rfl) (sw_makeDirectory h6 (sp_X6_makeDirectory (t := 600000 - (c + 1)) hM hcap2 hnb hvb (hs0 _) (hs0 _) (fun μ9 ε9 hM9 hc9 hF9 => kW_of (ex_mkdir hO (by omega) _ _) (nL1_of hLS hM9 hc9 hF9)))) (fun r m1 e1 hq => ?_) (fun E m1 e1 hq => by obtain ⟨k, hk, -⟩ := hq; cases hk)
  obtain ⟨k, hk, hAW, hL1⟩ := hq
  cases hk
  show wpL 245 _ [vI k] _ _ _
  refine wq_istore (pc := 245) (L' := [(5, _), (4, _), (3, _), (2, _), (1, _), (0, _)]) dL_law_245 rfl (by decide) ?_
  obtain ⟨⟨gM, gC, gcap⟩, gR, g5, g6, g7, g8⟩ := id hL1
  refine wq_aload_n (pc := 247) dL_law_247 rfl rfl ?_
  refine wq_aload_n (pc := 248) dL_law_248 rfl rfl ?_
  refine wq_iload (pc := 249) dL_law_249 rfl ?_
  refine wq_iconst (pc := 251) dL_law_251 ?_
  refine wq_iadd (pc := 252) dL_law_252 ?_
  refine wq_sld (pc := 253) dL_law_253 (by omega) (by rw [g8]; omega) ?_
  rw [g7]
  refine wq_aload_n (pc := 254) dL_law_254 rfl rfl ?_
  refine wq_iload (pc := 255) dL_law_255 rfl ?_
  refine wq_iconst (pc := 257) dL_law_257 ?_
  refine wq_iadd (pc := 258) dL_law_258 ?_
  refine wq_sld (pc := 259) dL_law_259 (by omega) (by rw [g8]; omega) ?_
  rw [g7]
  refine wl_callV (as := [vI (μ0 (-1) (6 * (c : Int) + 1)), vI (μ0 (-1) (6 * (c : Int) + 2))]) (rest := []) (ci := 7) (pc := 260) dL_law_260 (cw_L_110 _ rfl) (by decide) gR.1.1 ⟨by decide, by decide⟩ (Nat.le_of_ble_eq_true rfl) (sp_X7_makeDirectory gC hO hnb hvb (hs0 _) (hs0 _) (fun m2 v hC2 hF2 ha2 => ?_))
  show wpL 263 _ [vI v] _ _ _
  refine wq_istore (pc := 263) (L' := [(6, _), (5, _), (4, _), (3, _), (2, _), (1, _), (0, _)]) dL_law_263 rfl (by decide) ?_
  obtain ⟨t1, t2, t3⟩ := tie_an (by decide) (by decide) hAW ha2
  refine wq_aload_n (pc := 265) dL_law_265 rfl rfl ?_
  refine wl_callV0 (ci := 7) (pc := 266) dL_law_266 (cw_L_104 _ rfl) (by decide) gR.1.1 ⟨by decide, by decide⟩ (Nat.le_of_ble_eq_true rfl) (sp_X7_thrown (skM_of gR) ?_)
  show wpL 269 _ [vI (m2 21 25)] _ _ _
  refine wq_iload (pc := 269) dL_law_269 rfl ?_
  refine wq_icmp_eq (pc := 271) (tgt := 276) dL_law_271 (by decide) (by unfold inR; omega) (by unfold inR; omega) (fun c1 => ?_) (fun c1 => by exfalso; omega)
  refine wq_iload (pc := 276) dL_law_276 rfl ?_
  refine wq_if_ne (pc := 278) (tgt := 293) dL_law_278 (by decide) (by unfold inR; omega) (fun c2 => ?_) (fun c2 => ?_)
  · refine wq_goto (pc := 293) (tgt := 1800) dL_law_293 (by decide) ?_
    refine wq_sub1 (L' := [(4, _), (3, _), (2, _), (1, _), (0, _)]) ⟨rfl, rfl, rfl, rfl, rfl, trivial⟩ ?_
    exact END _ _ _ (nLS_of hLS hL1 hC2 hF2 (fe_mkdir A _ _))
  · refine wq_aload_n (pc := 281) dL_law_281 rfl rfl ?_
    refine wq_iconst (pc := 282) dL_law_282 ?_
    refine wq_lald (pc := 283) dL_law_283 g5.1 (by omega) (by rw [g5.2]; omega) ?_
    have e56 : m2 56 0 = v := (hF2 56 0 (by omega)).trans (t3 (by omega)).1
    rw [e56]
    refine wq_iload (pc := 284) dL_law_284 rfl ?_
    refine wq_i2l (pc := 286) dL_law_286 (t3 (by omega)).2 ?_
    refine wq_lcmp (pc := 287) dL_law_287 (inL_R (t3 (by omega)).2) (inL_R (t3 (by omega)).2) ?_
    rw [nCmp_same]
    refine wq_if_eq (pc := 288) (tgt := 293) dL_law_288 (by decide) (by unfold inR; omega) (fun _ => ?_) (fun c4 => absurd rfl c4)
    refine wq_goto (pc := 293) (tgt := 1800) dL_law_293 (by decide) ?_
    refine wq_sub1 (L' := [(4, _), (3, _), (2, _), (1, _), (0, _)]) ⟨rfl, rfl, rfl, rfl, rfl, trivial⟩ ?_
    exact END _ _ _ (nLS_of hLS hL1 hC2 hF2 (fe_mkdir A _ _))
theorem lc_link {μ0 : nMem} {N : Int} {c : Nat} {A : AS} {μ : nMem} {ε : nEnv} (hs0 : ∀ j, inR (μ0 (-1) j)) (hN : 0 ≤ N ∧ N ≤ 3072) (hc : 6 * (c : Int) + 6 ≤ N) (hLS : nLS μ0 N c A μ ε) (END : ∀ A2 m e, nLS μ0 N (c + 1) A2 m e → wpL 1800 [(4, vI (6 * (c : Int))), (3, vR 56), (2, vR 21), (1, vR 1), (0, vR (-1))] [] m e Qlaw) : wpL 296 [(4, vI (6 * (c : Int))), (3, vR 56), (2, vR 21), (1, vR 1), (0, vR (-1))] [] μ ε Qlaw := by
  obtain ⟨⟨hM, hCM, hcap⟩, ⟨h4, h5, h6, h7, h8⟩, hfe⟩ := id hLS
  have hO := MC_AOK hM
  have hnb : 2 + (c : Int) + 1 ≤ 2000 := by omega
  have hvb : 2 * (c : Int) + 2 ≤ 4000 := by omega
  have hcc : 600000 - (c + 1) + 1 = 600000 - c := by omega
  have hcap2 : Cap μ ε (600000 - (c + 1) + 1) := by rw [hcc]; exact hcap
  have hfE : ∀ b, 0 ≤ b → b < 8 → 0 ≤ fE (aF A) b ∧ fE (aF A) b ≤ 190000 := fun b b0 b1 => by have := hfe b b0 b1; omega
  refine wq_aload_n (pc := 296) dL_law_296 rfl rfl ?_
  refine wq_aload_n (pc := 297) dL_law_297 rfl rfl ?_
  refine wq_iload (pc := 298) dL_law_298 rfl ?_
  refine wq_iconst (pc := 300) dL_law_300 ?_
  refine wq_iadd (pc := 301) dL_law_301 ?_
  refine wq_sld (pc := 302) dL_law_302 (by omega) (by rw [h8]; omega) ?_
  rw [h7]
  refine wq_aload_n (pc := 303) dL_law_303 rfl rfl ?_
  refine wq_iload (pc := 304) dL_law_304 rfl ?_
  refine wq_iconst (pc := 306) dL_law_306 ?_
  refine wq_iadd (pc := 307) dL_law_307 ?_
  refine wq_sld (pc := 308) dL_law_308 (by omega) (by rw [h8]; omega) ?_
  rw [h7]
  refine wq_aload_n (pc := 309) dL_law_309 rfl rfl ?_
  refine wq_iload (pc := 310) dL_law_310 rfl ?_
  refine wq_iconst (pc := 312) dL_law_312 ?_
  refine wq_iadd (pc := 313) dL_law_313 ?_
  refine wq_sld (pc := 314) dL_law_314 (by omega) (by rw [h8]; omega) ?_
  rw [h7]
  refine wq_aload_n (pc := 315) dL_law_315 rfl rfl ?_
  refine wq_callW (as := [vR 1, vI (μ0 (-1) (6 * (c : Int) + 1)), vI (μ0 (-1) (6 * (c : Int) + 2)), vI (μ0 (-1) (6 * (c : Int) + 3)), vR 56]) (rest := []) (pc := 316) dL_law_316 (cw_L_111 _ rfl) ⟨by decide, by decide⟩ (Nat.le_of_ble_eq_true rfl) (sw_link h6 (sp_X6_link (t := 600000 - (c + 1)) hM hcap2 hnb hvb (hs0 _) (hs0 _) (hs0 _) (fun μ9 ε9 hM9 hc9 hF9 => kW_of (ex_link _ _ _) (nL1_of hLS hM9 hc9 hF9)))) (fun r m1 e1 hq => ?_) (fun E m1 e1 hq => by obtain ⟨k, hk, -⟩ := hq; cases hk)
  obtain ⟨k, hk, hAW, hL1⟩ := hq
  cases hk
  show wpL 319 _ [vI k] _ _ _
  refine wq_istore (pc := 319) (L' := [(5, _), (4, _), (3, _), (2, _), (1, _), (0, _)]) dL_law_319 rfl (by decide) ?_
  obtain ⟨⟨gM, gC, gcap⟩, gR, g5, g6, g7, g8⟩ := id hL1
  have hO2 := MC_AOK gM
  rw [show 2 + ((c + 1 : Nat) : Int) = 2 + (c : Int) + 1 by omega, show 2 * ((c + 1 : Nat) : Int) = 2 * (c : Int) + 2 by omega] at hO2
  refine wq_aload_n (pc := 321) dL_law_321 rfl rfl ?_
  refine wq_aload_n (pc := 322) dL_law_322 rfl rfl ?_
  refine wq_iload (pc := 323) dL_law_323 rfl ?_
  refine wq_iconst (pc := 325) dL_law_325 ?_
  refine wq_iadd (pc := 326) dL_law_326 ?_
  refine wq_sld (pc := 327) dL_law_327 (by omega) (by rw [g8]; omega) ?_
  rw [g7]
  refine wq_aload_n (pc := 328) dL_law_328 rfl rfl ?_
  refine wq_iload (pc := 329) dL_law_329 rfl ?_
  refine wq_iconst (pc := 331) dL_law_331 ?_
  refine wq_iadd (pc := 332) dL_law_332 ?_
  refine wq_sld (pc := 333) dL_law_333 (by omega) (by rw [g8]; omega) ?_
  rw [g7]
  refine wq_aload_n (pc := 334) dL_law_334 rfl rfl ?_
  refine wq_iload (pc := 335) dL_law_335 rfl ?_
  refine wq_iconst (pc := 337) dL_law_337 ?_
  refine wq_iadd (pc := 338) dL_law_338 ?_
  refine wq_sld (pc := 339) dL_law_339 (by omega) (by rw [g8]; omega) ?_
  rw [g7]
  refine wl_callV (as := [vI (μ0 (-1) (6 * (c : Int) + 1)), vI (μ0 (-1) (6 * (c : Int) + 2)), vI (μ0 (-1) (6 * (c : Int) + 3))]) (rest := []) (ci := 7) (pc := 340) dL_law_340 (cw_L_114 _ rfl) (by decide) gR.1.1 ⟨by decide, by decide⟩ (Nat.le_of_ble_eq_true rfl) (sp_X7_link gC hO hnb hvb hO2 (hs0 _) (hs0 _) (hs0 _) (fun m2 v hC2 hF2 ha2 => ?_))
  show wpL 343 _ [vI v] _ _ _
  refine wq_istore (pc := 343) (L' := [(6, _), (5, _), (4, _), (3, _), (2, _), (1, _), (0, _)]) dL_law_343 rfl (by decide) ?_
  obtain ⟨t1, t2, t3⟩ := tie_an (by decide) (by decide) hAW ha2
  refine wq_aload_n (pc := 345) dL_law_345 rfl rfl ?_
  refine wl_callV0 (ci := 7) (pc := 346) dL_law_346 (cw_L_104 _ rfl) (by decide) gR.1.1 ⟨by decide, by decide⟩ (Nat.le_of_ble_eq_true rfl) (sp_X7_thrown (skM_of gR) ?_)
  show wpL 349 _ [vI (m2 21 25)] _ _ _
  refine wq_iload (pc := 349) dL_law_349 rfl ?_
  refine wq_icmp_eq (pc := 351) (tgt := 356) dL_law_351 (by decide) (by unfold inR; omega) (by unfold inR; omega) (fun c1 => ?_) (fun c1 => by exfalso; omega)
  refine wq_iload (pc := 356) dL_law_356 rfl ?_
  refine wq_if_ne (pc := 358) (tgt := 373) dL_law_358 (by decide) (by unfold inR; omega) (fun c2 => ?_) (fun c2 => ?_)
  · refine wq_goto (pc := 373) (tgt := 1800) dL_law_373 (by decide) ?_
    refine wq_sub1 (L' := [(4, _), (3, _), (2, _), (1, _), (0, _)]) ⟨rfl, rfl, rfl, rfl, rfl, trivial⟩ ?_
    exact END _ _ _ (nLS_of hLS hL1 hC2 hF2 (fe_link A _ _ _))
  · refine wq_aload_n (pc := 361) dL_law_361 rfl rfl ?_
    refine wq_iconst (pc := 362) dL_law_362 ?_
    refine wq_lald (pc := 363) dL_law_363 g5.1 (by omega) (by rw [g5.2]; omega) ?_
    have e56 : m2 56 0 = v := (hF2 56 0 (by omega)).trans (t3 (by omega)).1
    rw [e56]
    refine wq_iload (pc := 364) dL_law_364 rfl ?_
    refine wq_i2l (pc := 366) dL_law_366 (t3 (by omega)).2 ?_
    refine wq_lcmp (pc := 367) dL_law_367 (inL_R (t3 (by omega)).2) (inL_R (t3 (by omega)).2) ?_
    rw [nCmp_same]
    refine wq_if_eq (pc := 368) (tgt := 373) dL_law_368 (by decide) (by unfold inR; omega) (fun _ => ?_) (fun c4 => absurd rfl c4)
    refine wq_goto (pc := 373) (tgt := 1800) dL_law_373 (by decide) ?_
    refine wq_sub1 (L' := [(4, _), (3, _), (2, _), (1, _), (0, _)]) ⟨rfl, rfl, rfl, rfl, rfl, trivial⟩ ?_
    exact END _ _ _ (nLS_of hLS hL1 hC2 hF2 (fe_link A _ _ _))
theorem lc_unlink {μ0 : nMem} {N : Int} {c : Nat} {A : AS} {μ : nMem} {ε : nEnv} (hs0 : ∀ j, inR (μ0 (-1) j)) (hN : 0 ≤ N ∧ N ≤ 3072) (hc : 6 * (c : Int) + 6 ≤ N) (hLS : nLS μ0 N c A μ ε) (END : ∀ A2 m e, nLS μ0 N (c + 1) A2 m e → wpL 1800 [(4, vI (6 * (c : Int))), (3, vR 56), (2, vR 21), (1, vR 1), (0, vR (-1))] [] m e Qlaw) : wpL 376 [(4, vI (6 * (c : Int))), (3, vR 56), (2, vR 21), (1, vR 1), (0, vR (-1))] [] μ ε Qlaw := by
  obtain ⟨⟨hM, hCM, hcap⟩, ⟨h4, h5, h6, h7, h8⟩, hfe⟩ := id hLS
  have hO := MC_AOK hM
  have hnb : 2 + (c : Int) + 1 ≤ 2000 := by omega
  have hvb : 2 * (c : Int) + 2 ≤ 4000 := by omega
  have hcc : 600000 - (c + 1) + 1 = 600000 - c := by omega
  have hcap2 : Cap μ ε (600000 - (c + 1) + 1) := by rw [hcc]; exact hcap
  have hfE : ∀ b, 0 ≤ b → b < 8 → 0 ≤ fE (aF A) b ∧ fE (aF A) b ≤ 190000 := fun b b0 b1 => by have := hfe b b0 b1; omega
  refine wq_aload_n (pc := 376) dL_law_376 rfl rfl ?_
  refine wq_aload_n (pc := 377) dL_law_377 rfl rfl ?_
  refine wq_iload (pc := 378) dL_law_378 rfl ?_
  refine wq_iconst (pc := 380) dL_law_380 ?_
  refine wq_iadd (pc := 381) dL_law_381 ?_
  refine wq_sld (pc := 382) dL_law_382 (by omega) (by rw [h8]; omega) ?_
  rw [h7]
  refine wq_aload_n (pc := 383) dL_law_383 rfl rfl ?_
  refine wq_iload (pc := 384) dL_law_384 rfl ?_
  refine wq_iconst (pc := 386) dL_law_386 ?_
  refine wq_iadd (pc := 387) dL_law_387 ?_
  refine wq_sld (pc := 388) dL_law_388 (by omega) (by rw [h8]; omega) ?_
  rw [h7]
  refine wq_aload_n (pc := 389) dL_law_389 rfl rfl ?_
  refine wq_callW (as := [vR 1, vI (μ0 (-1) (6 * (c : Int) + 1)), vI (μ0 (-1) (6 * (c : Int) + 2)), vR 56]) (rest := []) (pc := 390) dL_law_390 (cw_L_115 _ rfl) ⟨by decide, by decide⟩ (Nat.le_of_ble_eq_true rfl) (sw_unlink h6 (sp_X6_unlink (t := 600000 - (c + 1)) hM hcap2 hnb hvb (hs0 _) (hs0 _) (fun μ9 ε9 hM9 hc9 hF9 => kW_of (ex_unlink hO _ _) (nL1_of hLS hM9 hc9 hF9)))) (fun r m1 e1 hq => ?_) (fun E m1 e1 hq => by obtain ⟨k, hk, -⟩ := hq; cases hk)
  obtain ⟨k, hk, hAW, hL1⟩ := hq
  cases hk
  show wpL 393 _ [vI k] _ _ _
  refine wq_istore (pc := 393) (L' := [(5, _), (4, _), (3, _), (2, _), (1, _), (0, _)]) dL_law_393 rfl (by decide) ?_
  obtain ⟨⟨gM, gC, gcap⟩, gR, g5, g6, g7, g8⟩ := id hL1
  refine wq_aload_n (pc := 395) dL_law_395 rfl rfl ?_
  refine wq_aload_n (pc := 396) dL_law_396 rfl rfl ?_
  refine wq_iload (pc := 397) dL_law_397 rfl ?_
  refine wq_iconst (pc := 399) dL_law_399 ?_
  refine wq_iadd (pc := 400) dL_law_400 ?_
  refine wq_sld (pc := 401) dL_law_401 (by omega) (by rw [g8]; omega) ?_
  rw [g7]
  refine wq_aload_n (pc := 402) dL_law_402 rfl rfl ?_
  refine wq_iload (pc := 403) dL_law_403 rfl ?_
  refine wq_iconst (pc := 405) dL_law_405 ?_
  refine wq_iadd (pc := 406) dL_law_406 ?_
  refine wq_sld (pc := 407) dL_law_407 (by omega) (by rw [g8]; omega) ?_
  rw [g7]
  refine wl_callV (as := [vI (μ0 (-1) (6 * (c : Int) + 1)), vI (μ0 (-1) (6 * (c : Int) + 2))]) (rest := []) (ci := 7) (pc := 408) dL_law_408 (cw_L_117 _ rfl) (by decide) gR.1.1 ⟨by decide, by decide⟩ (Nat.le_of_ble_eq_true rfl) (sp_X7_unlink gC hO hnb hvb (hs0 _) (hs0 _) (fun m2 v hC2 hF2 ha2 => ?_))
  show wpL 411 _ [vI v] _ _ _
  refine wq_istore (pc := 411) (L' := [(6, _), (5, _), (4, _), (3, _), (2, _), (1, _), (0, _)]) dL_law_411 rfl (by decide) ?_
  obtain ⟨t1, t2, t3⟩ := tie_an (by decide) (by decide) hAW ha2
  refine wq_aload_n (pc := 413) dL_law_413 rfl rfl ?_
  refine wl_callV0 (ci := 7) (pc := 414) dL_law_414 (cw_L_104 _ rfl) (by decide) gR.1.1 ⟨by decide, by decide⟩ (Nat.le_of_ble_eq_true rfl) (sp_X7_thrown (skM_of gR) ?_)
  show wpL 417 _ [vI (m2 21 25)] _ _ _
  refine wq_iload (pc := 417) dL_law_417 rfl ?_
  refine wq_icmp_eq (pc := 419) (tgt := 424) dL_law_419 (by decide) (by unfold inR; omega) (by unfold inR; omega) (fun c1 => ?_) (fun c1 => by exfalso; omega)
  refine wq_iload (pc := 424) dL_law_424 rfl ?_
  refine wq_if_ne (pc := 426) (tgt := 441) dL_law_426 (by decide) (by unfold inR; omega) (fun c2 => ?_) (fun c2 => ?_)
  · refine wq_goto (pc := 441) (tgt := 1800) dL_law_441 (by decide) ?_
    refine wq_sub1 (L' := [(4, _), (3, _), (2, _), (1, _), (0, _)]) ⟨rfl, rfl, rfl, rfl, rfl, trivial⟩ ?_
    exact END _ _ _ (nLS_of hLS hL1 hC2 hF2 (fe_unlink A _ _))
  · refine wq_aload_n (pc := 429) dL_law_429 rfl rfl ?_
    refine wq_iconst (pc := 430) dL_law_430 ?_
    refine wq_lald (pc := 431) dL_law_431 g5.1 (by omega) (by rw [g5.2]; omega) ?_
    have e56 : m2 56 0 = v := (hF2 56 0 (by omega)).trans (t3 (by omega)).1
    rw [e56]
    refine wq_iload (pc := 432) dL_law_432 rfl ?_
    refine wq_i2l (pc := 434) dL_law_434 (t3 (by omega)).2 ?_
    refine wq_lcmp (pc := 435) dL_law_435 (inL_R (t3 (by omega)).2) (inL_R (t3 (by omega)).2) ?_
    rw [nCmp_same]
    refine wq_if_eq (pc := 436) (tgt := 441) dL_law_436 (by decide) (by unfold inR; omega) (fun _ => ?_) (fun c4 => absurd rfl c4)
    refine wq_goto (pc := 441) (tgt := 1800) dL_law_441 (by decide) ?_
    refine wq_sub1 (L' := [(4, _), (3, _), (2, _), (1, _), (0, _)]) ⟨rfl, rfl, rfl, rfl, rfl, trivial⟩ ?_
    exact END _ _ _ (nLS_of hLS hL1 hC2 hF2 (fe_unlink A _ _))
theorem lc_rename {μ0 : nMem} {N : Int} {c : Nat} {A : AS} {μ : nMem} {ε : nEnv} (hs0 : ∀ j, inR (μ0 (-1) j)) (hN : 0 ≤ N ∧ N ≤ 3072) (hc : 6 * (c : Int) + 6 ≤ N) (hLS : nLS μ0 N c A μ ε) (END : ∀ A2 m e, nLS μ0 N (c + 1) A2 m e → wpL 1800 [(4, vI (6 * (c : Int))), (3, vR 56), (2, vR 21), (1, vR 1), (0, vR (-1))] [] m e Qlaw) : wpL 444 [(4, vI (6 * (c : Int))), (3, vR 56), (2, vR 21), (1, vR 1), (0, vR (-1))] [] μ ε Qlaw := by
  obtain ⟨⟨hM, hCM, hcap⟩, ⟨h4, h5, h6, h7, h8⟩, hfe⟩ := id hLS
  have hO := MC_AOK hM
  have hnb : 2 + (c : Int) + 1 ≤ 2000 := by omega
  have hvb : 2 * (c : Int) + 2 ≤ 4000 := by omega
  have hcc : 600000 - (c + 1) + 1 = 600000 - c := by omega
  have hcap2 : Cap μ ε (600000 - (c + 1) + 1) := by rw [hcc]; exact hcap
  have hfE : ∀ b, 0 ≤ b → b < 8 → 0 ≤ fE (aF A) b ∧ fE (aF A) b ≤ 190000 := fun b b0 b1 => by have := hfe b b0 b1; omega
  refine wq_aload_n (pc := 444) dL_law_444 rfl rfl ?_
  refine wq_aload_n (pc := 445) dL_law_445 rfl rfl ?_
  refine wq_iload (pc := 446) dL_law_446 rfl ?_
  refine wq_iconst (pc := 448) dL_law_448 ?_
  refine wq_iadd (pc := 449) dL_law_449 ?_
  refine wq_sld (pc := 450) dL_law_450 (by omega) (by rw [h8]; omega) ?_
  rw [h7]
  refine wq_aload_n (pc := 451) dL_law_451 rfl rfl ?_
  refine wq_iload (pc := 452) dL_law_452 rfl ?_
  refine wq_iconst (pc := 454) dL_law_454 ?_
  refine wq_iadd (pc := 455) dL_law_455 ?_
  refine wq_sld (pc := 456) dL_law_456 (by omega) (by rw [h8]; omega) ?_
  rw [h7]
  refine wq_aload_n (pc := 457) dL_law_457 rfl rfl ?_
  refine wq_iload (pc := 458) dL_law_458 rfl ?_
  refine wq_iconst (pc := 460) dL_law_460 ?_
  refine wq_iadd (pc := 461) dL_law_461 ?_
  refine wq_sld (pc := 462) dL_law_462 (by omega) (by rw [h8]; omega) ?_
  rw [h7]
  refine wq_aload_n (pc := 463) dL_law_463 rfl rfl ?_
  refine wq_iload (pc := 464) dL_law_464 rfl ?_
  refine wq_iconst (pc := 466) dL_law_466 ?_
  refine wq_iadd (pc := 467) dL_law_467 ?_
  refine wq_sld (pc := 468) dL_law_468 (by omega) (by rw [h8]; omega) ?_
  rw [h7]
  refine wq_aload_n (pc := 469) dL_law_469 rfl rfl ?_
  refine wq_callW (as := [vR 1, vI (μ0 (-1) (6 * (c : Int) + 1)), vI (μ0 (-1) (6 * (c : Int) + 2)), vI (μ0 (-1) (6 * (c : Int) + 3)), vI (μ0 (-1) (6 * (c : Int) + 4)), vR 56]) (rest := []) (pc := 470) dL_law_470 (cw_L_118 _ rfl) ⟨by decide, by decide⟩ (Nat.le_of_ble_eq_true rfl) (sw_rename h6 (sp_X6_rename (t := 600000 - (c + 1)) hM hcap2 hnb hvb (hs0 _) (hs0 _) (hs0 _) (hs0 _) (fun μ9 ε9 hM9 hc9 hF9 => kW_of (ex_rename hO _ _ _ _) (nL1_of hLS hM9 hc9 hF9)))) (fun r m1 e1 hq => ?_) (fun E m1 e1 hq => by obtain ⟨k, hk, -⟩ := hq; cases hk)
  obtain ⟨k, hk, hAW, hL1⟩ := hq
  cases hk
  show wpL 473 _ [vI k] _ _ _
  refine wq_istore (pc := 473) (L' := [(5, _), (4, _), (3, _), (2, _), (1, _), (0, _)]) dL_law_473 rfl (by decide) ?_
  obtain ⟨⟨gM, gC, gcap⟩, gR, g5, g6, g7, g8⟩ := id hL1
  refine wq_aload_n (pc := 475) dL_law_475 rfl rfl ?_
  refine wq_aload_n (pc := 476) dL_law_476 rfl rfl ?_
  refine wq_iload (pc := 477) dL_law_477 rfl ?_
  refine wq_iconst (pc := 479) dL_law_479 ?_
  refine wq_iadd (pc := 480) dL_law_480 ?_
  refine wq_sld (pc := 481) dL_law_481 (by omega) (by rw [g8]; omega) ?_
  rw [g7]
  refine wq_aload_n (pc := 482) dL_law_482 rfl rfl ?_
  refine wq_iload (pc := 483) dL_law_483 rfl ?_
  refine wq_iconst (pc := 485) dL_law_485 ?_
  refine wq_iadd (pc := 486) dL_law_486 ?_
  refine wq_sld (pc := 487) dL_law_487 (by omega) (by rw [g8]; omega) ?_
  rw [g7]
  refine wq_aload_n (pc := 488) dL_law_488 rfl rfl ?_
  refine wq_iload (pc := 489) dL_law_489 rfl ?_
  refine wq_iconst (pc := 491) dL_law_491 ?_
  refine wq_iadd (pc := 492) dL_law_492 ?_
  refine wq_sld (pc := 493) dL_law_493 (by omega) (by rw [g8]; omega) ?_
  rw [g7]
  refine wq_aload_n (pc := 494) dL_law_494 rfl rfl ?_
  refine wq_iload (pc := 495) dL_law_495 rfl ?_
  refine wq_iconst (pc := 497) dL_law_497 ?_
  refine wq_iadd (pc := 498) dL_law_498 ?_
  refine wq_sld (pc := 499) dL_law_499 (by omega) (by rw [g8]; omega) ?_
  rw [g7]
  refine wl_callV (as := [vI (μ0 (-1) (6 * (c : Int) + 1)), vI (μ0 (-1) (6 * (c : Int) + 2)), vI (μ0 (-1) (6 * (c : Int) + 3)), vI (μ0 (-1) (6 * (c : Int) + 4))]) (rest := []) (ci := 7) (pc := 500) dL_law_500 (cw_L_121 _ rfl) (by decide) gR.1.1 ⟨by decide, by decide⟩ (Nat.le_of_ble_eq_true rfl) (sp_X7_rename gC hO hnb hvb (hs0 _) (hs0 _) (hs0 _) (hs0 _) (fun m2 v hC2 hF2 ha2 => ?_))
  show wpL 503 _ [vI v] _ _ _
  refine wq_istore (pc := 503) (L' := [(6, _), (5, _), (4, _), (3, _), (2, _), (1, _), (0, _)]) dL_law_503 rfl (by decide) ?_
  obtain ⟨t1, t2, t3⟩ := tie_an (by decide) (by decide) hAW ha2
  refine wq_aload_n (pc := 505) dL_law_505 rfl rfl ?_
  refine wl_callV0 (ci := 7) (pc := 506) dL_law_506 (cw_L_104 _ rfl) (by decide) gR.1.1 ⟨by decide, by decide⟩ (Nat.le_of_ble_eq_true rfl) (sp_X7_thrown (skM_of gR) ?_)
  show wpL 509 _ [vI (m2 21 25)] _ _ _
  refine wq_iload (pc := 509) dL_law_509 rfl ?_
  refine wq_icmp_eq (pc := 511) (tgt := 516) dL_law_511 (by decide) (by unfold inR; omega) (by unfold inR; omega) (fun c1 => ?_) (fun c1 => by exfalso; omega)
  refine wq_iload (pc := 516) dL_law_516 rfl ?_
  refine wq_if_ne (pc := 518) (tgt := 533) dL_law_518 (by decide) (by unfold inR; omega) (fun c2 => ?_) (fun c2 => ?_)
  · refine wq_goto (pc := 533) (tgt := 1800) dL_law_533 (by decide) ?_
    refine wq_sub1 (L' := [(4, _), (3, _), (2, _), (1, _), (0, _)]) ⟨rfl, rfl, rfl, rfl, rfl, trivial⟩ ?_
    exact END _ _ _ (nLS_of hLS hL1 hC2 hF2 (fe_rename A _ _ _ _))
  · refine wq_aload_n (pc := 521) dL_law_521 rfl rfl ?_
    refine wq_iconst (pc := 522) dL_law_522 ?_
    refine wq_lald (pc := 523) dL_law_523 g5.1 (by omega) (by rw [g5.2]; omega) ?_
    have e56 : m2 56 0 = v := (hF2 56 0 (by omega)).trans (t3 (by omega)).1
    rw [e56]
    refine wq_iload (pc := 524) dL_law_524 rfl ?_
    refine wq_i2l (pc := 526) dL_law_526 (t3 (by omega)).2 ?_
    refine wq_lcmp (pc := 527) dL_law_527 (inL_R (t3 (by omega)).2) (inL_R (t3 (by omega)).2) ?_
    rw [nCmp_same]
    refine wq_if_eq (pc := 528) (tgt := 533) dL_law_528 (by decide) (by unfold inR; omega) (fun _ => ?_) (fun c4 => absurd rfl c4)
    refine wq_goto (pc := 533) (tgt := 1800) dL_law_533 (by decide) ?_
    refine wq_sub1 (L' := [(4, _), (3, _), (2, _), (1, _), (0, _)]) ⟨rfl, rfl, rfl, rfl, rfl, trivial⟩ ?_
    exact END _ _ _ (nLS_of hLS hL1 hC2 hF2 (fe_rename A _ _ _ _))
theorem lc_write {μ0 : nMem} {N : Int} {c : Nat} {A : AS} {μ : nMem} {ε : nEnv} (hs0 : ∀ j, inR (μ0 (-1) j)) (hN : 0 ≤ N ∧ N ≤ 3072) (hc : 6 * (c : Int) + 6 ≤ N) (hLS : nLS μ0 N c A μ ε) (END : ∀ A2 m e, nLS μ0 N (c + 1) A2 m e → wpL 1800 [(4, vI (6 * (c : Int))), (3, vR 56), (2, vR 21), (1, vR 1), (0, vR (-1))] [] m e Qlaw) : wpL 536 [(4, vI (6 * (c : Int))), (3, vR 56), (2, vR 21), (1, vR 1), (0, vR (-1))] [] μ ε Qlaw := by
  obtain ⟨⟨hM, hCM, hcap⟩, ⟨h4, h5, h6, h7, h8⟩, hfe⟩ := id hLS
  have hO := MC_AOK hM
  have hnb : 2 + (c : Int) + 1 ≤ 2000 := by omega
  have hvb : 2 * (c : Int) + 2 ≤ 4000 := by omega
  have hcc : 600000 - (c + 1) + 1 = 600000 - c := by omega
  have hcap2 : Cap μ ε (600000 - (c + 1) + 1) := by rw [hcc]; exact hcap
  have hfE : ∀ b, 0 ≤ b → b < 8 → 0 ≤ fE (aF A) b ∧ fE (aF A) b ≤ 190000 := fun b b0 b1 => by have := hfe b b0 b1; omega
  refine wq_aload_n (pc := 536) dL_law_536 rfl rfl ?_
  refine wq_aload_n (pc := 537) dL_law_537 rfl rfl ?_
  refine wq_iload (pc := 538) dL_law_538 rfl ?_
  refine wq_iconst (pc := 540) dL_law_540 ?_
  refine wq_iadd (pc := 541) dL_law_541 ?_
  refine wq_sld (pc := 542) dL_law_542 (by omega) (by rw [h8]; omega) ?_
  rw [h7]
  refine wq_aload_n (pc := 543) dL_law_543 rfl rfl ?_
  refine wq_iload (pc := 544) dL_law_544 rfl ?_
  refine wq_iconst (pc := 546) dL_law_546 ?_
  refine wq_iadd (pc := 547) dL_law_547 ?_
  refine wq_sld (pc := 548) dL_law_548 (by omega) (by rw [h8]; omega) ?_
  rw [h7]
  refine wq_aload_n (pc := 549) dL_law_549 rfl rfl ?_
  refine wq_iload (pc := 550) dL_law_550 rfl ?_
  refine wq_iconst (pc := 552) dL_law_552 ?_
  refine wq_iadd (pc := 553) dL_law_553 ?_
  refine wq_sld (pc := 554) dL_law_554 (by omega) (by rw [h8]; omega) ?_
  rw [h7]
  refine wq_i2l (pc := 555) dL_law_555 (hs0 _) ?_
  refine wq_bipush (pc := 556) dL_law_556 (by decide) (by decide) ?_
  refine wq_lshl (pc := 558) dL_law_558 ?_
  refine wq_aload_n (pc := 559) dL_law_559 rfl rfl ?_
  refine wq_iload (pc := 560) dL_law_560 rfl ?_
  refine wq_iconst (pc := 562) dL_law_562 ?_
  refine wq_iadd (pc := 563) dL_law_563 ?_
  refine wq_sld (pc := 564) dL_law_564 (by omega) (by rw [h8]; omega) ?_
  rw [h7]
  refine wq_i2l (pc := 565) dL_law_565 (hs0 _) ?_
  refine wq_ldc2 (pc := 566) dL_law_566 (kc_L_122 _ rfl) ?_
  refine wq_land (pc := 569) dL_law_569 ?_
  refine wq_lor (pc := 570) dL_law_570 ?_
  refine wq_aload_n (pc := 571) dL_law_571 rfl rfl ?_
  refine wq_iload (pc := 572) dL_law_572 rfl ?_
  refine wq_iconst (pc := 574) dL_law_574 ?_
  refine wq_iadd (pc := 575) dL_law_575 ?_
  refine wq_sld (pc := 576) dL_law_576 (by omega) (by rw [h8]; omega) ?_
  rw [h7]
  refine wq_aload_n (pc := 577) dL_law_577 rfl rfl ?_
  refine wq_callW (as := [vR 1, vI (μ0 (-1) (6 * (c : Int) + 1)), vI (μ0 (-1) (6 * (c : Int) + 2)), vJ (jOr (jShl (μ0 (-1) (6 * (c : Int) + 3)) 32) (jAnd (μ0 (-1) (6 * (c : Int) + 4)) 4294967295)), vI (μ0 (-1) (6 * (c : Int) + 5)), vR 56]) (rest := []) (pc := 578) dL_law_578 (cw_L_124 _ rfl) ⟨by decide, by decide⟩ (Nat.le_of_ble_eq_true rfl) (sw_write h6 (sp_X6_write (t := 600000 - (c + 1)) hM hcap2 hnb hvb (hs0 _) (hs0 _) (hs0 _) (fun μ9 ε9 hM9 hc9 hF9 => kW_of (ex_write hO _ _ _ _) (nL1_of hLS hM9 hc9 hF9)))) (fun r m1 e1 hq => ?_) (fun E m1 e1 hq => by obtain ⟨k, hk, -⟩ := hq; cases hk)
  obtain ⟨k, hk, hAW, hL1⟩ := hq
  cases hk
  show wpL 581 _ [vI k] _ _ _
  refine wq_istore (pc := 581) (L' := [(5, _), (4, _), (3, _), (2, _), (1, _), (0, _)]) dL_law_581 rfl (by decide) ?_
  obtain ⟨⟨gM, gC, gcap⟩, gR, g5, g6, g7, g8⟩ := id hL1
  refine wq_aload_n (pc := 583) dL_law_583 rfl rfl ?_
  refine wq_aload_n (pc := 584) dL_law_584 rfl rfl ?_
  refine wq_iload (pc := 585) dL_law_585 rfl ?_
  refine wq_iconst (pc := 587) dL_law_587 ?_
  refine wq_iadd (pc := 588) dL_law_588 ?_
  refine wq_sld (pc := 589) dL_law_589 (by omega) (by rw [g8]; omega) ?_
  rw [g7]
  refine wq_aload_n (pc := 590) dL_law_590 rfl rfl ?_
  refine wq_iload (pc := 591) dL_law_591 rfl ?_
  refine wq_iconst (pc := 593) dL_law_593 ?_
  refine wq_iadd (pc := 594) dL_law_594 ?_
  refine wq_sld (pc := 595) dL_law_595 (by omega) (by rw [g8]; omega) ?_
  rw [g7]
  refine wq_aload_n (pc := 596) dL_law_596 rfl rfl ?_
  refine wq_iload (pc := 597) dL_law_597 rfl ?_
  refine wq_iconst (pc := 599) dL_law_599 ?_
  refine wq_iadd (pc := 600) dL_law_600 ?_
  refine wq_sld (pc := 601) dL_law_601 (by omega) (by rw [g8]; omega) ?_
  rw [g7]
  refine wq_i2l (pc := 602) dL_law_602 (hs0 _) ?_
  refine wq_bipush (pc := 603) dL_law_603 (by decide) (by decide) ?_
  refine wq_lshl (pc := 605) dL_law_605 ?_
  refine wq_aload_n (pc := 606) dL_law_606 rfl rfl ?_
  refine wq_iload (pc := 607) dL_law_607 rfl ?_
  refine wq_iconst (pc := 609) dL_law_609 ?_
  refine wq_iadd (pc := 610) dL_law_610 ?_
  refine wq_sld (pc := 611) dL_law_611 (by omega) (by rw [g8]; omega) ?_
  rw [g7]
  refine wq_i2l (pc := 612) dL_law_612 (hs0 _) ?_
  refine wq_ldc2 (pc := 613) dL_law_613 (kc_L_122 _ rfl) ?_
  refine wq_land (pc := 616) dL_law_616 ?_
  refine wq_lor (pc := 617) dL_law_617 ?_
  refine wq_aload_n (pc := 618) dL_law_618 rfl rfl ?_
  refine wq_iload (pc := 619) dL_law_619 rfl ?_
  refine wq_iconst (pc := 621) dL_law_621 ?_
  refine wq_iadd (pc := 622) dL_law_622 ?_
  refine wq_sld (pc := 623) dL_law_623 (by omega) (by rw [g8]; omega) ?_
  rw [g7]
  refine wl_callV (as := [vI (μ0 (-1) (6 * (c : Int) + 1)), vI (μ0 (-1) (6 * (c : Int) + 2)), vJ (jOr (jShl (μ0 (-1) (6 * (c : Int) + 3)) 32) (jAnd (μ0 (-1) (6 * (c : Int) + 4)) 4294967295)), vI (μ0 (-1) (6 * (c : Int) + 5))]) (rest := []) (ci := 7) (pc := 624) dL_law_624 (cw_L_127 _ rfl) (by decide) gR.1.1 ⟨by decide, by decide⟩ (Nat.le_of_ble_eq_true rfl) (sp_X7_write gC hO hnb hvb (hs0 _) (hs0 _) (hs0 _) (fun m2 v hC2 hF2 ha2 => ?_))
  show wpL 627 _ [vI v] _ _ _
  refine wq_istore (pc := 627) (L' := [(6, _), (5, _), (4, _), (3, _), (2, _), (1, _), (0, _)]) dL_law_627 rfl (by decide) ?_
  obtain ⟨t1, t2, t3⟩ := tie_an (by decide) (by decide) hAW ha2
  refine wq_aload_n (pc := 629) dL_law_629 rfl rfl ?_
  refine wl_callV0 (ci := 7) (pc := 630) dL_law_630 (cw_L_104 _ rfl) (by decide) gR.1.1 ⟨by decide, by decide⟩ (Nat.le_of_ble_eq_true rfl) (sp_X7_thrown (skM_of gR) ?_)
  show wpL 633 _ [vI (m2 21 25)] _ _ _
  refine wq_iload (pc := 633) dL_law_633 rfl ?_
  refine wq_icmp_eq (pc := 635) (tgt := 640) dL_law_635 (by decide) (by unfold inR; omega) (by unfold inR; omega) (fun c1 => ?_) (fun c1 => by exfalso; omega)
  refine wq_iload (pc := 640) dL_law_640 rfl ?_
  refine wq_if_ne (pc := 642) (tgt := 657) dL_law_642 (by decide) (by unfold inR; omega) (fun c2 => ?_) (fun c2 => ?_)
  · refine wq_goto (pc := 657) (tgt := 1800) dL_law_657 (by decide) ?_
    refine wq_sub1 (L' := [(4, _), (3, _), (2, _), (1, _), (0, _)]) ⟨rfl, rfl, rfl, rfl, rfl, trivial⟩ ?_
    exact END _ _ _ (nLS_of hLS hL1 hC2 hF2 (fe_write A _ _ _ _))
  · refine wq_aload_n (pc := 645) dL_law_645 rfl rfl ?_
    refine wq_iconst (pc := 646) dL_law_646 ?_
    refine wq_lald (pc := 647) dL_law_647 g5.1 (by omega) (by rw [g5.2]; omega) ?_
    have e56 : m2 56 0 = v := (hF2 56 0 (by omega)).trans (t3 (by omega)).1
    rw [e56]
    refine wq_iload (pc := 648) dL_law_648 rfl ?_
    refine wq_i2l (pc := 650) dL_law_650 (t3 (by omega)).2 ?_
    refine wq_lcmp (pc := 651) dL_law_651 (inL_R (t3 (by omega)).2) (inL_R (t3 (by omega)).2) ?_
    rw [nCmp_same]
    refine wq_if_eq (pc := 652) (tgt := 657) dL_law_652 (by decide) (by unfold inR; omega) (fun _ => ?_) (fun c4 => absurd rfl c4)
    refine wq_goto (pc := 657) (tgt := 1800) dL_law_657 (by decide) ?_
    refine wq_sub1 (L' := [(4, _), (3, _), (2, _), (1, _), (0, _)]) ⟨rfl, rfl, rfl, rfl, rfl, trivial⟩ ?_
    exact END _ _ _ (nLS_of hLS hL1 hC2 hF2 (fe_write A _ _ _ _))
theorem lc_truncate {μ0 : nMem} {N : Int} {c : Nat} {A : AS} {μ : nMem} {ε : nEnv} (hs0 : ∀ j, inR (μ0 (-1) j)) (hN : 0 ≤ N ∧ N ≤ 3072) (hc : 6 * (c : Int) + 6 ≤ N) (hLS : nLS μ0 N c A μ ε) (END : ∀ A2 m e, nLS μ0 N (c + 1) A2 m e → wpL 1800 [(4, vI (6 * (c : Int))), (3, vR 56), (2, vR 21), (1, vR 1), (0, vR (-1))] [] m e Qlaw) : wpL 660 [(4, vI (6 * (c : Int))), (3, vR 56), (2, vR 21), (1, vR 1), (0, vR (-1))] [] μ ε Qlaw := by
  obtain ⟨⟨hM, hCM, hcap⟩, ⟨h4, h5, h6, h7, h8⟩, hfe⟩ := id hLS
  have hO := MC_AOK hM
  have hnb : 2 + (c : Int) + 1 ≤ 2000 := by omega
  have hvb : 2 * (c : Int) + 2 ≤ 4000 := by omega
  have hcc : 600000 - (c + 1) + 1 = 600000 - c := by omega
  have hcap2 : Cap μ ε (600000 - (c + 1) + 1) := by rw [hcc]; exact hcap
  have hfE : ∀ b, 0 ≤ b → b < 8 → 0 ≤ fE (aF A) b ∧ fE (aF A) b ≤ 190000 := fun b b0 b1 => by have := hfe b b0 b1; omega
  refine wq_aload_n (pc := 660) dL_law_660 rfl rfl ?_
  refine wq_aload_n (pc := 661) dL_law_661 rfl rfl ?_
  refine wq_iload (pc := 662) dL_law_662 rfl ?_
  refine wq_iconst (pc := 664) dL_law_664 ?_
  refine wq_iadd (pc := 665) dL_law_665 ?_
  refine wq_sld (pc := 666) dL_law_666 (by omega) (by rw [h8]; omega) ?_
  rw [h7]
  refine wq_aload_n (pc := 667) dL_law_667 rfl rfl ?_
  refine wq_iload (pc := 668) dL_law_668 rfl ?_
  refine wq_iconst (pc := 670) dL_law_670 ?_
  refine wq_iadd (pc := 671) dL_law_671 ?_
  refine wq_sld (pc := 672) dL_law_672 (by omega) (by rw [h8]; omega) ?_
  rw [h7]
  refine wq_aload_n (pc := 673) dL_law_673 rfl rfl ?_
  refine wq_callW (as := [vR 1, vI (μ0 (-1) (6 * (c : Int) + 1)), vI (μ0 (-1) (6 * (c : Int) + 2)), vR 56]) (rest := []) (pc := 674) dL_law_674 (cw_L_128 _ rfl) ⟨by decide, by decide⟩ (Nat.le_of_ble_eq_true rfl) (sw_truncate h6 (sp_X6_truncate (t := 600000 - (c + 1)) hM hcap2 hnb hvb (hs0 _) (hs0 _) (fun μ9 ε9 hM9 hc9 hF9 => kW_of (ex_trunc hO _ _) (nL1_of hLS hM9 hc9 hF9)))) (fun r m1 e1 hq => ?_) (fun E m1 e1 hq => by obtain ⟨k, hk, -⟩ := hq; cases hk)
  obtain ⟨k, hk, hAW, hL1⟩ := hq
  cases hk
  show wpL 677 _ [vI k] _ _ _
  refine wq_istore (pc := 677) (L' := [(5, _), (4, _), (3, _), (2, _), (1, _), (0, _)]) dL_law_677 rfl (by decide) ?_
  obtain ⟨⟨gM, gC, gcap⟩, gR, g5, g6, g7, g8⟩ := id hL1
  refine wq_aload_n (pc := 679) dL_law_679 rfl rfl ?_
  refine wq_aload_n (pc := 680) dL_law_680 rfl rfl ?_
  refine wq_iload (pc := 681) dL_law_681 rfl ?_
  refine wq_iconst (pc := 683) dL_law_683 ?_
  refine wq_iadd (pc := 684) dL_law_684 ?_
  refine wq_sld (pc := 685) dL_law_685 (by omega) (by rw [g8]; omega) ?_
  rw [g7]
  refine wq_aload_n (pc := 686) dL_law_686 rfl rfl ?_
  refine wq_iload (pc := 687) dL_law_687 rfl ?_
  refine wq_iconst (pc := 689) dL_law_689 ?_
  refine wq_iadd (pc := 690) dL_law_690 ?_
  refine wq_sld (pc := 691) dL_law_691 (by omega) (by rw [g8]; omega) ?_
  rw [g7]
  refine wl_callV (as := [vI (μ0 (-1) (6 * (c : Int) + 1)), vI (μ0 (-1) (6 * (c : Int) + 2))]) (rest := []) (ci := 7) (pc := 692) dL_law_692 (cw_L_130 _ rfl) (by decide) gR.1.1 ⟨by decide, by decide⟩ (Nat.le_of_ble_eq_true rfl) (sp_X7_truncate gC hO hnb hvb (hs0 _) (hs0 _) (fun m2 v hC2 hF2 ha2 => ?_))
  show wpL 695 _ [vI v] _ _ _
  refine wq_istore (pc := 695) (L' := [(6, _), (5, _), (4, _), (3, _), (2, _), (1, _), (0, _)]) dL_law_695 rfl (by decide) ?_
  obtain ⟨t1, t2, t3⟩ := tie_an (by decide) (by decide) hAW ha2
  refine wq_aload_n (pc := 697) dL_law_697 rfl rfl ?_
  refine wl_callV0 (ci := 7) (pc := 698) dL_law_698 (cw_L_104 _ rfl) (by decide) gR.1.1 ⟨by decide, by decide⟩ (Nat.le_of_ble_eq_true rfl) (sp_X7_thrown (skM_of gR) ?_)
  show wpL 701 _ [vI (m2 21 25)] _ _ _
  refine wq_iload (pc := 701) dL_law_701 rfl ?_
  refine wq_icmp_eq (pc := 703) (tgt := 708) dL_law_703 (by decide) (by unfold inR; omega) (by unfold inR; omega) (fun c1 => ?_) (fun c1 => by exfalso; omega)
  refine wq_iload (pc := 708) dL_law_708 rfl ?_
  refine wq_if_ne (pc := 710) (tgt := 725) dL_law_710 (by decide) (by unfold inR; omega) (fun c2 => ?_) (fun c2 => ?_)
  · refine wq_goto (pc := 725) (tgt := 1800) dL_law_725 (by decide) ?_
    refine wq_sub1 (L' := [(4, _), (3, _), (2, _), (1, _), (0, _)]) ⟨rfl, rfl, rfl, rfl, rfl, trivial⟩ ?_
    exact END _ _ _ (nLS_of hLS hL1 hC2 hF2 (fe_trunc A _ _))
  · refine wq_aload_n (pc := 713) dL_law_713 rfl rfl ?_
    refine wq_iconst (pc := 714) dL_law_714 ?_
    refine wq_lald (pc := 715) dL_law_715 g5.1 (by omega) (by rw [g5.2]; omega) ?_
    have e56 : m2 56 0 = v := (hF2 56 0 (by omega)).trans (t3 (by omega)).1
    rw [e56]
    refine wq_iload (pc := 716) dL_law_716 rfl ?_
    refine wq_i2l (pc := 718) dL_law_718 (t3 (by omega)).2 ?_
    refine wq_lcmp (pc := 719) dL_law_719 (inL_R (t3 (by omega)).2) (inL_R (t3 (by omega)).2) ?_
    rw [nCmp_same]
    refine wq_if_eq (pc := 720) (tgt := 725) dL_law_720 (by decide) (by unfold inR; omega) (fun _ => ?_) (fun c4 => absurd rfl c4)
    refine wq_goto (pc := 725) (tgt := 1800) dL_law_725 (by decide) ?_
    refine wq_sub1 (L' := [(4, _), (3, _), (2, _), (1, _), (0, _)]) ⟨rfl, rfl, rfl, rfl, rfl, trivial⟩ ?_
    exact END _ _ _ (nLS_of hLS hL1 hC2 hF2 (fe_trunc A _ _))
theorem lc_collect {μ0 : nMem} {N : Int} {c : Nat} {A : AS} {μ : nMem} {ε : nEnv} (hs0 : ∀ j, inR (μ0 (-1) j)) (hN : 0 ≤ N ∧ N ≤ 3072) (hc : 6 * (c : Int) + 6 ≤ N) (hLS : nLS μ0 N c A μ ε) (END : ∀ A2 m e, nLS μ0 N (c + 1) A2 m e → wpL 1800 [(4, vI (6 * (c : Int))), (3, vR 56), (2, vR 21), (1, vR 1), (0, vR (-1))] [] m e Qlaw) : wpL 728 [(4, vI (6 * (c : Int))), (3, vR 56), (2, vR 21), (1, vR 1), (0, vR (-1))] [] μ ε Qlaw := by
  obtain ⟨⟨hM, hCM, hcap⟩, ⟨h4, h5, h6, h7, h8⟩, hfe⟩ := id hLS
  have hO := MC_AOK hM
  have hnb : 2 + (c : Int) + 1 ≤ 2000 := by omega
  have hvb : 2 * (c : Int) + 2 ≤ 4000 := by omega
  have hcc : 600000 - (c + 1) + 1 = 600000 - c := by omega
  have hcap2 : Cap μ ε (600000 - (c + 1) + 1) := by rw [hcc]; exact hcap
  have hfE : ∀ b, 0 ≤ b → b < 8 → 0 ≤ fE (aF A) b ∧ fE (aF A) b ≤ 190000 := fun b b0 b1 => by have := hfe b b0 b1; omega
  refine wq_aload_n (pc := 728) dL_law_728 rfl rfl ?_
  refine wq_aload_n (pc := 729) dL_law_729 rfl rfl ?_
  refine wq_iload (pc := 730) dL_law_730 rfl ?_
  refine wq_iconst (pc := 732) dL_law_732 ?_
  refine wq_iadd (pc := 733) dL_law_733 ?_
  refine wq_sld (pc := 734) dL_law_734 (by omega) (by rw [h8]; omega) ?_
  rw [h7]
  refine wq_aload_n (pc := 735) dL_law_735 rfl rfl ?_
  refine wq_callW (as := [vR 1, vI (μ0 (-1) (6 * (c : Int) + 1)), vR 56]) (rest := []) (pc := 736) dL_law_736 (cw_L_131 _ rfl) ⟨by decide, by decide⟩ (Nat.le_of_ble_eq_true rfl) (sw_collect h6 (sp_X6_collect (t := 600000 - (c + 1)) hM hcap2 hnb hvb (hs0 _) (fun μ9 ε9 hM9 hc9 hF9 => kW_of (ex_collect hO _) (nL1_of hLS hM9 hc9 hF9)))) (fun r m1 e1 hq => ?_) (fun E m1 e1 hq => by obtain ⟨k, hk, -⟩ := hq; cases hk)
  obtain ⟨k, hk, hAW, hL1⟩ := hq
  cases hk
  show wpL 739 _ [vI k] _ _ _
  refine wq_istore (pc := 739) (L' := [(5, _), (4, _), (3, _), (2, _), (1, _), (0, _)]) dL_law_739 rfl (by decide) ?_
  obtain ⟨⟨gM, gC, gcap⟩, gR, g5, g6, g7, g8⟩ := id hL1
  refine wq_aload_n (pc := 741) dL_law_741 rfl rfl ?_
  refine wq_aload_n (pc := 742) dL_law_742 rfl rfl ?_
  refine wq_iload (pc := 743) dL_law_743 rfl ?_
  refine wq_iconst (pc := 745) dL_law_745 ?_
  refine wq_iadd (pc := 746) dL_law_746 ?_
  refine wq_sld (pc := 747) dL_law_747 (by omega) (by rw [g8]; omega) ?_
  rw [g7]
  refine wl_callV (as := [vI (μ0 (-1) (6 * (c : Int) + 1))]) (rest := []) (ci := 7) (pc := 748) dL_law_748 (cw_L_134 _ rfl) (by decide) gR.1.1 ⟨by decide, by decide⟩ (Nat.le_of_ble_eq_true rfl) (sp_X7_collect gC hO (hs0 _) hfE (fun m2 v hC2 hF2 ha2 => ?_))
  show wpL 751 _ [vI v] _ _ _
  refine wq_istore (pc := 751) (L' := [(6, _), (5, _), (4, _), (3, _), (2, _), (1, _), (0, _)]) dL_law_751 rfl (by decide) ?_
  obtain ⟨t1, t2, t3⟩ := tie_an (by decide) (by decide) hAW ha2
  refine wq_aload_n (pc := 753) dL_law_753 rfl rfl ?_
  refine wl_callV0 (ci := 7) (pc := 754) dL_law_754 (cw_L_104 _ rfl) (by decide) gR.1.1 ⟨by decide, by decide⟩ (Nat.le_of_ble_eq_true rfl) (sp_X7_thrown (skM_of gR) ?_)
  show wpL 757 _ [vI (m2 21 25)] _ _ _
  refine wq_iload (pc := 757) dL_law_757 rfl ?_
  refine wq_icmp_eq (pc := 759) (tgt := 764) dL_law_759 (by decide) (by unfold inR; omega) (by unfold inR; omega) (fun c1 => ?_) (fun c1 => by exfalso; omega)
  refine wq_iload (pc := 764) dL_law_764 rfl ?_
  refine wq_if_ne (pc := 766) (tgt := 781) dL_law_766 (by decide) (by unfold inR; omega) (fun c2 => ?_) (fun c2 => ?_)
  · refine wq_goto (pc := 781) (tgt := 1800) dL_law_781 (by decide) ?_
    refine wq_sub1 (L' := [(4, _), (3, _), (2, _), (1, _), (0, _)]) ⟨rfl, rfl, rfl, rfl, rfl, trivial⟩ ?_
    exact END _ _ _ (nLS_of hLS hL1 hC2 hF2 (fe_collect A _))
  · refine wq_aload_n (pc := 769) dL_law_769 rfl rfl ?_
    refine wq_iconst (pc := 770) dL_law_770 ?_
    refine wq_lald (pc := 771) dL_law_771 g5.1 (by omega) (by rw [g5.2]; omega) ?_
    have e56 : m2 56 0 = v := (hF2 56 0 (by omega)).trans (t3 (by omega)).1
    rw [e56]
    refine wq_iload (pc := 772) dL_law_772 rfl ?_
    refine wq_i2l (pc := 774) dL_law_774 (t3 (by omega)).2 ?_
    refine wq_lcmp (pc := 775) dL_law_775 (inL_R (t3 (by omega)).2) (inL_R (t3 (by omega)).2) ?_
    rw [nCmp_same]
    refine wq_if_eq (pc := 776) (tgt := 781) dL_law_776 (by decide) (by unfold inR; omega) (fun _ => ?_) (fun c4 => absurd rfl c4)
    refine wq_goto (pc := 781) (tgt := 1800) dL_law_781 (by decide) ?_
    refine wq_sub1 (L' := [(4, _), (3, _), (2, _), (1, _), (0, _)]) ⟨rfl, rfl, rfl, rfl, rfl, trivial⟩ ?_
    exact END _ _ _ (nLS_of hLS hL1 hC2 hF2 (fe_collect A _))
theorem lc_cut {μ0 : nMem} {N : Int} {c : Nat} {A : AS} {μ : nMem} {ε : nEnv} (hs0 : ∀ j, inR (μ0 (-1) j)) (hN : 0 ≤ N ∧ N ≤ 3072) (hc : 6 * (c : Int) + 6 ≤ N) (hLS : nLS μ0 N c A μ ε) (END : ∀ A2 m e, nLS μ0 N (c + 1) A2 m e → wpL 1800 [(4, vI (6 * (c : Int))), (3, vR 56), (2, vR 21), (1, vR 1), (0, vR (-1))] [] m e Qlaw) : wpL 784 [(4, vI (6 * (c : Int))), (3, vR 56), (2, vR 21), (1, vR 1), (0, vR (-1))] [] μ ε Qlaw := by
  obtain ⟨⟨hM, hCM, hcap⟩, ⟨h4, h5, h6, h7, h8⟩, hfe⟩ := id hLS
  have hO := MC_AOK hM
  have hnb : 2 + (c : Int) + 1 ≤ 2000 := by omega
  have hvb : 2 * (c : Int) + 2 ≤ 4000 := by omega
  have hcc : 600000 - (c + 1) + 1 = 600000 - c := by omega
  have hcap2 : Cap μ ε (600000 - (c + 1) + 1) := by rw [hcc]; exact hcap
  have hfE : ∀ b, 0 ≤ b → b < 8 → 0 ≤ fE (aF A) b ∧ fE (aF A) b ≤ 190000 := fun b b0 b1 => by have := hfe b b0 b1; omega
  refine wq_aload_n (pc := 784) dL_law_784 rfl rfl ?_
  refine wq_aload_n (pc := 785) dL_law_785 rfl rfl ?_
  refine wq_iload (pc := 786) dL_law_786 rfl ?_
  refine wq_iconst (pc := 788) dL_law_788 ?_
  refine wq_iadd (pc := 789) dL_law_789 ?_
  refine wq_sld (pc := 790) dL_law_790 (by omega) (by rw [h8]; omega) ?_
  rw [h7]
  refine wq_aload_n (pc := 791) dL_law_791 rfl rfl ?_
  refine wq_callW (as := [vR 1, vI (μ0 (-1) (6 * (c : Int) + 1)), vR 56]) (rest := []) (pc := 792) dL_law_792 (cw_L_135 _ rfl) ⟨by decide, by decide⟩ (Nat.le_of_ble_eq_true rfl) (sw_cut h6 (sp_X6_cut (t := 600000 - (c + 1)) hM hcap2 hnb hvb (hs0 _) (fun μ9 ε9 hM9 hc9 hF9 => kW_of (ex_cut hO _) (nL1_of hLS hM9 hc9 hF9)))) (fun r m1 e1 hq => ?_) (fun E m1 e1 hq => by obtain ⟨k, hk, -⟩ := hq; cases hk)
  obtain ⟨k, hk, hAW, hL1⟩ := hq
  cases hk
  show wpL 795 _ [vI k] _ _ _
  refine wq_istore (pc := 795) (L' := [(5, _), (4, _), (3, _), (2, _), (1, _), (0, _)]) dL_law_795 rfl (by decide) ?_
  obtain ⟨⟨gM, gC, gcap⟩, gR, g5, g6, g7, g8⟩ := id hL1
  refine wq_aload_n (pc := 797) dL_law_797 rfl rfl ?_
  refine wq_aload_n (pc := 798) dL_law_798 rfl rfl ?_
  refine wq_iload (pc := 799) dL_law_799 rfl ?_
  refine wq_iconst (pc := 801) dL_law_801 ?_
  refine wq_iadd (pc := 802) dL_law_802 ?_
  refine wq_sld (pc := 803) dL_law_803 (by omega) (by rw [g8]; omega) ?_
  rw [g7]
  refine wl_callV (as := [vI (μ0 (-1) (6 * (c : Int) + 1))]) (rest := []) (ci := 7) (pc := 804) dL_law_804 (cw_L_137 _ rfl) (by decide) gR.1.1 ⟨by decide, by decide⟩ (Nat.le_of_ble_eq_true rfl) (sp_X7_cut gC (hs0 _) (fun m2 v hC2 hF2 ha2 => ?_))
  show wpL 807 _ [vI v] _ _ _
  refine wq_istore (pc := 807) (L' := [(6, _), (5, _), (4, _), (3, _), (2, _), (1, _), (0, _)]) dL_law_807 rfl (by decide) ?_
  obtain ⟨t1, t2, t3⟩ := tie_an (by decide) (by decide) hAW ha2
  refine wq_aload_n (pc := 809) dL_law_809 rfl rfl ?_
  refine wl_callV0 (ci := 7) (pc := 810) dL_law_810 (cw_L_104 _ rfl) (by decide) gR.1.1 ⟨by decide, by decide⟩ (Nat.le_of_ble_eq_true rfl) (sp_X7_thrown (skM_of gR) ?_)
  show wpL 813 _ [vI (m2 21 25)] _ _ _
  refine wq_iload (pc := 813) dL_law_813 rfl ?_
  refine wq_icmp_eq (pc := 815) (tgt := 820) dL_law_815 (by decide) (by unfold inR; omega) (by unfold inR; omega) (fun c1 => ?_) (fun c1 => by exfalso; omega)
  refine wq_iload (pc := 820) dL_law_820 rfl ?_
  refine wq_if_ne (pc := 822) (tgt := 837) dL_law_822 (by decide) (by unfold inR; omega) (fun c2 => ?_) (fun c2 => ?_)
  · refine wq_goto (pc := 837) (tgt := 1800) dL_law_837 (by decide) ?_
    refine wq_sub1 (L' := [(4, _), (3, _), (2, _), (1, _), (0, _)]) ⟨rfl, rfl, rfl, rfl, rfl, trivial⟩ ?_
    exact END _ _ _ (nLS_of hLS hL1 hC2 hF2 (fe_cut A _))
  · refine wq_aload_n (pc := 825) dL_law_825 rfl rfl ?_
    refine wq_iconst (pc := 826) dL_law_826 ?_
    refine wq_lald (pc := 827) dL_law_827 g5.1 (by omega) (by rw [g5.2]; omega) ?_
    have e56 : m2 56 0 = v := (hF2 56 0 (by omega)).trans (t3 (by omega)).1
    rw [e56]
    refine wq_iload (pc := 828) dL_law_828 rfl ?_
    refine wq_i2l (pc := 830) dL_law_830 (t3 (by omega)).2 ?_
    refine wq_lcmp (pc := 831) dL_law_831 (inL_R (t3 (by omega)).2) (inL_R (t3 (by omega)).2) ?_
    rw [nCmp_same]
    refine wq_if_eq (pc := 832) (tgt := 837) dL_law_832 (by decide) (by unfold inR; omega) (fun _ => ?_) (fun c4 => absurd rfl c4)
    refine wq_goto (pc := 837) (tgt := 1800) dL_law_837 (by decide) ?_
    refine wq_sub1 (L' := [(4, _), (3, _), (2, _), (1, _), (0, _)]) ⟨rfl, rfl, rfl, rfl, rfl, trivial⟩ ?_
    exact END _ _ _ (nLS_of hLS hL1 hC2 hF2 (fe_cut A _))
theorem lc_lookUp {μ0 : nMem} {N : Int} {c : Nat} {A : AS} {μ : nMem} {ε : nEnv} (hs0 : ∀ j, inR (μ0 (-1) j)) (hN : 0 ≤ N ∧ N ≤ 3072) (hc : 6 * (c : Int) + 6 ≤ N) (hLS : nLS μ0 N c A μ ε) (END : ∀ A2 m e, nLS μ0 N (c + 1) A2 m e → wpL 1800 [(4, vI (6 * (c : Int))), (3, vR 56), (2, vR 21), (1, vR 1), (0, vR (-1))] [] m e Qlaw) : wpL 894 [(4, vI (6 * (c : Int))), (3, vR 56), (2, vR 21), (1, vR 1), (0, vR (-1))] [] μ ε Qlaw := by
  obtain ⟨⟨hM, hCM, hcap⟩, ⟨h4, h5, h6, h7, h8⟩, hfe⟩ := id hLS
  have hO := MC_AOK hM
  have hnb : 2 + (c : Int) + 1 ≤ 2000 := by omega
  have hvb : 2 * (c : Int) + 2 ≤ 4000 := by omega
  have hcc : 600000 - (c + 1) + 1 = 600000 - c := by omega
  have hcap2 : Cap μ ε (600000 - (c + 1) + 1) := by rw [hcc]; exact hcap
  have hfE : ∀ b, 0 ≤ b → b < 8 → 0 ≤ fE (aF A) b ∧ fE (aF A) b ≤ 190000 := fun b b0 b1 => by have := hfe b b0 b1; omega
  refine wq_aload_n (pc := 894) dL_law_894 rfl rfl ?_
  refine wq_aload_n (pc := 895) dL_law_895 rfl rfl ?_
  refine wq_iload (pc := 896) dL_law_896 rfl ?_
  refine wq_iconst (pc := 898) dL_law_898 ?_
  refine wq_iadd (pc := 899) dL_law_899 ?_
  refine wq_sld (pc := 900) dL_law_900 (by omega) (by rw [h8]; omega) ?_
  rw [h7]
  refine wq_aload_n (pc := 901) dL_law_901 rfl rfl ?_
  refine wq_iload (pc := 902) dL_law_902 rfl ?_
  refine wq_iconst (pc := 904) dL_law_904 ?_
  refine wq_iadd (pc := 905) dL_law_905 ?_
  refine wq_sld (pc := 906) dL_law_906 (by omega) (by rw [h8]; omega) ?_
  rw [h7]
  refine wq_aload_n (pc := 907) dL_law_907 rfl rfl ?_
  refine wq_callW (as := [vR 1, vI (μ0 (-1) (6 * (c : Int) + 1)), vI (μ0 (-1) (6 * (c : Int) + 2)), vR 56]) (rest := []) (pc := 908) dL_law_908 (cw_L_148 _ rfl) ⟨by decide, by decide⟩ (Nat.le_of_ble_eq_true rfl) (sw_lookUp h6 (sp_X6_lookUp (t := 600000 - (c + 1)) hM hcap2 hnb hvb (hs0 _) (hs0 _) (fun μ9 ε9 hM9 hc9 hF9 => kW_of (ex_lookUp hO _ _) (nL1_of hLS hM9 hc9 hF9)))) (fun r m1 e1 hq => ?_) (fun E m1 e1 hq => by obtain ⟨k, hk, -⟩ := hq; cases hk)
  obtain ⟨k, hk, hAW, hL1⟩ := hq
  cases hk
  show wpL 911 _ [vI k] _ _ _
  refine wq_istore (pc := 911) (L' := [(5, _), (4, _), (3, _), (2, _), (1, _), (0, _)]) dL_law_911 rfl (by decide) ?_
  obtain ⟨⟨gM, gC, gcap⟩, gR, g5, g6, g7, g8⟩ := id hL1
  refine wq_aload_n (pc := 913) dL_law_913 rfl rfl ?_
  refine wq_aload_n (pc := 914) dL_law_914 rfl rfl ?_
  refine wq_iload (pc := 915) dL_law_915 rfl ?_
  refine wq_iconst (pc := 917) dL_law_917 ?_
  refine wq_iadd (pc := 918) dL_law_918 ?_
  refine wq_sld (pc := 919) dL_law_919 (by omega) (by rw [g8]; omega) ?_
  rw [g7]
  refine wq_aload_n (pc := 920) dL_law_920 rfl rfl ?_
  refine wq_iload (pc := 921) dL_law_921 rfl ?_
  refine wq_iconst (pc := 923) dL_law_923 ?_
  refine wq_iadd (pc := 924) dL_law_924 ?_
  refine wq_sld (pc := 925) dL_law_925 (by omega) (by rw [g8]; omega) ?_
  rw [g7]
  refine wl_callV (as := [vI (μ0 (-1) (6 * (c : Int) + 1)), vI (μ0 (-1) (6 * (c : Int) + 2))]) (rest := []) (ci := 7) (pc := 926) dL_law_926 (cw_L_150 _ rfl) (by decide) gR.1.1 ⟨by decide, by decide⟩ (Nat.le_of_ble_eq_true rfl) (sp_X7_lookUp gC hO (hs0 _) (hs0 _) (fun m2 v hC2 hF2 ha2 => ?_))
  show wpL 929 _ [vI v] _ _ _
  refine wq_istore (pc := 929) (L' := [(6, _), (5, _), (4, _), (3, _), (2, _), (1, _), (0, _)]) dL_law_929 rfl (by decide) ?_
  obtain ⟨t1, t2, t3⟩ := tie_an (by decide) (by decide) hAW ha2
  refine wq_aload_n (pc := 931) dL_law_931 rfl rfl ?_
  refine wl_callV0 (ci := 7) (pc := 932) dL_law_932 (cw_L_104 _ rfl) (by decide) gR.1.1 ⟨by decide, by decide⟩ (Nat.le_of_ble_eq_true rfl) (sp_X7_thrown (skM_of gR) ?_)
  show wpL 935 _ [vI (m2 21 25)] _ _ _
  refine wq_iload (pc := 935) dL_law_935 rfl ?_
  refine wq_icmp_eq (pc := 937) (tgt := 942) dL_law_937 (by decide) (by unfold inR; omega) (by unfold inR; omega) (fun c1 => ?_) (fun c1 => by exfalso; omega)
  refine wq_iload (pc := 942) dL_law_942 rfl ?_
  refine wq_if_ne (pc := 944) (tgt := 959) dL_law_944 (by decide) (by unfold inR; omega) (fun c2 => ?_) (fun c2 => ?_)
  · refine wq_goto (pc := 959) (tgt := 1800) dL_law_959 (by decide) ?_
    refine wq_sub1 (L' := [(4, _), (3, _), (2, _), (1, _), (0, _)]) ⟨rfl, rfl, rfl, rfl, rfl, trivial⟩ ?_
    exact END _ _ _ (nLS_of hLS hL1 hC2 hF2 (fe_qD A _ _))
  · refine wq_aload_n (pc := 947) dL_law_947 rfl rfl ?_
    refine wq_iconst (pc := 948) dL_law_948 ?_
    refine wq_lald (pc := 949) dL_law_949 g5.1 (by omega) (by rw [g5.2]; omega) ?_
    have e56 : m2 56 0 = v := (hF2 56 0 (by omega)).trans (t3 (by omega)).1
    rw [e56]
    refine wq_iload (pc := 950) dL_law_950 rfl ?_
    refine wq_i2l (pc := 952) dL_law_952 (t3 (by omega)).2 ?_
    refine wq_lcmp (pc := 953) dL_law_953 (inL_R (t3 (by omega)).2) (inL_R (t3 (by omega)).2) ?_
    rw [nCmp_same]
    refine wq_if_eq (pc := 954) (tgt := 959) dL_law_954 (by decide) (by unfold inR; omega) (fun _ => ?_) (fun c4 => absurd rfl c4)
    refine wq_goto (pc := 959) (tgt := 1800) dL_law_959 (by decide) ?_
    refine wq_sub1 (L' := [(4, _), (3, _), (2, _), (1, _), (0, _)]) ⟨rfl, rfl, rfl, rfl, rfl, trivial⟩ ?_
    exact END _ _ _ (nLS_of hLS hL1 hC2 hF2 (fe_qD A _ _))
theorem lc_names {μ0 : nMem} {N : Int} {c : Nat} {A : AS} {μ : nMem} {ε : nEnv} (hs0 : ∀ j, inR (μ0 (-1) j)) (hN : 0 ≤ N ∧ N ≤ 3072) (hc : 6 * (c : Int) + 6 ≤ N) (hLS : nLS μ0 N c A μ ε) (END : ∀ A2 m e, nLS μ0 N (c + 1) A2 m e → wpL 1800 [(4, vI (6 * (c : Int))), (3, vR 56), (2, vR 21), (1, vR 1), (0, vR (-1))] [] m e Qlaw) : wpL 962 [(4, vI (6 * (c : Int))), (3, vR 56), (2, vR 21), (1, vR 1), (0, vR (-1))] [] μ ε Qlaw := by
  obtain ⟨⟨hM, hCM, hcap⟩, ⟨h4, h5, h6, h7, h8⟩, hfe⟩ := id hLS
  have hO := MC_AOK hM
  have hnb : 2 + (c : Int) + 1 ≤ 2000 := by omega
  have hvb : 2 * (c : Int) + 2 ≤ 4000 := by omega
  have hcc : 600000 - (c + 1) + 1 = 600000 - c := by omega
  have hcap2 : Cap μ ε (600000 - (c + 1) + 1) := by rw [hcc]; exact hcap
  have hfE : ∀ b, 0 ≤ b → b < 8 → 0 ≤ fE (aF A) b ∧ fE (aF A) b ≤ 190000 := fun b b0 b1 => by have := hfe b b0 b1; omega
  refine wq_aload_n (pc := 962) dL_law_962 rfl rfl ?_
  refine wq_aload_n (pc := 963) dL_law_963 rfl rfl ?_
  refine wq_iload (pc := 964) dL_law_964 rfl ?_
  refine wq_iconst (pc := 966) dL_law_966 ?_
  refine wq_iadd (pc := 967) dL_law_967 ?_
  refine wq_sld (pc := 968) dL_law_968 (by omega) (by rw [h8]; omega) ?_
  rw [h7]
  refine wq_aload_n (pc := 969) dL_law_969 rfl rfl ?_
  refine wq_callW (as := [vR 1, vI (μ0 (-1) (6 * (c : Int) + 1)), vR 56]) (rest := []) (pc := 970) dL_law_970 (cw_L_151 _ rfl) ⟨by decide, by decide⟩ (Nat.le_of_ble_eq_true rfl) (sw_names h6 (sp_X6_names (t := 600000 - (c + 1)) hM hcap2 hnb hvb (hs0 _) (fun μ9 ε9 hM9 hc9 hF9 => kW_of (ex_names _) (nL1_of hLS hM9 hc9 hF9)))) (fun r m1 e1 hq => ?_) (fun E m1 e1 hq => by obtain ⟨k, hk, -⟩ := hq; cases hk)
  obtain ⟨k, hk, hAW, hL1⟩ := hq
  cases hk
  show wpL 973 _ [vI k] _ _ _
  refine wq_istore (pc := 973) (L' := [(5, _), (4, _), (3, _), (2, _), (1, _), (0, _)]) dL_law_973 rfl (by decide) ?_
  obtain ⟨⟨gM, gC, gcap⟩, gR, g5, g6, g7, g8⟩ := id hL1
  refine wq_aload_n (pc := 975) dL_law_975 rfl rfl ?_
  refine wq_aload_n (pc := 976) dL_law_976 rfl rfl ?_
  refine wq_iload (pc := 977) dL_law_977 rfl ?_
  refine wq_iconst (pc := 979) dL_law_979 ?_
  refine wq_iadd (pc := 980) dL_law_980 ?_
  refine wq_sld (pc := 981) dL_law_981 (by omega) (by rw [g8]; omega) ?_
  rw [g7]
  refine wl_callV (as := [vI (μ0 (-1) (6 * (c : Int) + 1))]) (rest := []) (ci := 7) (pc := 982) dL_law_982 (cw_L_153 _ rfl) (by decide) gR.1.1 ⟨by decide, by decide⟩ (Nat.le_of_ble_eq_true rfl) (sp_X7_names gC hO (hs0 _) (fun m2 v hC2 hF2 ha2 => ?_))
  show wpL 985 _ [vI v] _ _ _
  refine wq_istore (pc := 985) (L' := [(6, _), (5, _), (4, _), (3, _), (2, _), (1, _), (0, _)]) dL_law_985 rfl (by decide) ?_
  obtain ⟨t1, t2, t3⟩ := tie_an (by decide) (by decide) hAW ha2
  refine wq_aload_n (pc := 987) dL_law_987 rfl rfl ?_
  refine wl_callV0 (ci := 7) (pc := 988) dL_law_988 (cw_L_104 _ rfl) (by decide) gR.1.1 ⟨by decide, by decide⟩ (Nat.le_of_ble_eq_true rfl) (sp_X7_thrown (skM_of gR) ?_)
  show wpL 991 _ [vI (m2 21 25)] _ _ _
  refine wq_iload (pc := 991) dL_law_991 rfl ?_
  refine wq_icmp_eq (pc := 993) (tgt := 998) dL_law_993 (by decide) (by unfold inR; omega) (by unfold inR; omega) (fun c1 => ?_) (fun c1 => by exfalso; omega)
  refine wq_iload (pc := 998) dL_law_998 rfl ?_
  refine wq_if_ne (pc := 1000) (tgt := 1015) dL_law_1000 (by decide) (by unfold inR; omega) (fun c2 => ?_) (fun c2 => ?_)
  · refine wq_goto (pc := 1015) (tgt := 1800) dL_law_1015 (by decide) ?_
    refine wq_sub1 (L' := [(4, _), (3, _), (2, _), (1, _), (0, _)]) ⟨rfl, rfl, rfl, rfl, rfl, trivial⟩ ?_
    exact END _ _ _ (nLS_of hLS hL1 hC2 hF2 (fe_qD A _ _))
  · refine wq_aload_n (pc := 1003) dL_law_1003 rfl rfl ?_
    refine wq_iconst (pc := 1004) dL_law_1004 ?_
    refine wq_lald (pc := 1005) dL_law_1005 g5.1 (by omega) (by rw [g5.2]; omega) ?_
    have e56 : m2 56 0 = v := (hF2 56 0 (by omega)).trans (t3 (by omega)).1
    rw [e56]
    refine wq_iload (pc := 1006) dL_law_1006 rfl ?_
    refine wq_i2l (pc := 1008) dL_law_1008 (t3 (by omega)).2 ?_
    refine wq_lcmp (pc := 1009) dL_law_1009 (inL_R (t3 (by omega)).2) (inL_R (t3 (by omega)).2) ?_
    rw [nCmp_same]
    refine wq_if_eq (pc := 1010) (tgt := 1015) dL_law_1010 (by decide) (by unfold inR; omega) (fun _ => ?_) (fun c4 => absurd rfl c4)
    refine wq_goto (pc := 1015) (tgt := 1800) dL_law_1015 (by decide) ?_
    refine wq_sub1 (L' := [(4, _), (3, _), (2, _), (1, _), (0, _)]) ⟨rfl, rfl, rfl, rfl, rfl, trivial⟩ ?_
    exact END _ _ _ (nLS_of hLS hL1 hC2 hF2 (fe_qD A _ _))
theorem lc_nameAt {μ0 : nMem} {N : Int} {c : Nat} {A : AS} {μ : nMem} {ε : nEnv} (hs0 : ∀ j, inR (μ0 (-1) j)) (hN : 0 ≤ N ∧ N ≤ 3072) (hc : 6 * (c : Int) + 6 ≤ N) (hLS : nLS μ0 N c A μ ε) (END : ∀ A2 m e, nLS μ0 N (c + 1) A2 m e → wpL 1800 [(4, vI (6 * (c : Int))), (3, vR 56), (2, vR 21), (1, vR 1), (0, vR (-1))] [] m e Qlaw) : wpL 1018 [(4, vI (6 * (c : Int))), (3, vR 56), (2, vR 21), (1, vR 1), (0, vR (-1))] [] μ ε Qlaw := by
  obtain ⟨⟨hM, hCM, hcap⟩, ⟨h4, h5, h6, h7, h8⟩, hfe⟩ := id hLS
  have hO := MC_AOK hM
  have hnb : 2 + (c : Int) + 1 ≤ 2000 := by omega
  have hvb : 2 * (c : Int) + 2 ≤ 4000 := by omega
  have hcc : 600000 - (c + 1) + 1 = 600000 - c := by omega
  have hcap2 : Cap μ ε (600000 - (c + 1) + 1) := by rw [hcc]; exact hcap
  have hfE : ∀ b, 0 ≤ b → b < 8 → 0 ≤ fE (aF A) b ∧ fE (aF A) b ≤ 190000 := fun b b0 b1 => by have := hfe b b0 b1; omega
  refine wq_aload_n (pc := 1018) dL_law_1018 rfl rfl ?_
  refine wq_aload_n (pc := 1019) dL_law_1019 rfl rfl ?_
  refine wq_iload (pc := 1020) dL_law_1020 rfl ?_
  refine wq_iconst (pc := 1022) dL_law_1022 ?_
  refine wq_iadd (pc := 1023) dL_law_1023 ?_
  refine wq_sld (pc := 1024) dL_law_1024 (by omega) (by rw [h8]; omega) ?_
  rw [h7]
  refine wq_aload_n (pc := 1025) dL_law_1025 rfl rfl ?_
  refine wq_iload (pc := 1026) dL_law_1026 rfl ?_
  refine wq_iconst (pc := 1028) dL_law_1028 ?_
  refine wq_iadd (pc := 1029) dL_law_1029 ?_
  refine wq_sld (pc := 1030) dL_law_1030 (by omega) (by rw [h8]; omega) ?_
  rw [h7]
  refine wq_aload_n (pc := 1031) dL_law_1031 rfl rfl ?_
  refine wq_callW (as := [vR 1, vI (μ0 (-1) (6 * (c : Int) + 1)), vI (μ0 (-1) (6 * (c : Int) + 2)), vR 56]) (rest := []) (pc := 1032) dL_law_1032 (cw_L_154 _ rfl) ⟨by decide, by decide⟩ (Nat.le_of_ble_eq_true rfl) (sw_nameAt h6 (sp_X6_nameAt (t := 600000 - (c + 1)) hM hcap2 hnb hvb (hs0 _) (hs0 _) (fun μ9 ε9 hM9 hc9 hF9 => kW_of (ex_nameAt _ _) (nL1_of hLS hM9 hc9 hF9)))) (fun r m1 e1 hq => ?_) (fun E m1 e1 hq => by obtain ⟨k, hk, -⟩ := hq; cases hk)
  obtain ⟨k, hk, hAW, hL1⟩ := hq
  cases hk
  show wpL 1035 _ [vI k] _ _ _
  refine wq_istore (pc := 1035) (L' := [(5, _), (4, _), (3, _), (2, _), (1, _), (0, _)]) dL_law_1035 rfl (by decide) ?_
  obtain ⟨⟨gM, gC, gcap⟩, gR, g5, g6, g7, g8⟩ := id hL1
  refine wq_aload_n (pc := 1037) dL_law_1037 rfl rfl ?_
  refine wq_aload_n (pc := 1038) dL_law_1038 rfl rfl ?_
  refine wq_iload (pc := 1039) dL_law_1039 rfl ?_
  refine wq_iconst (pc := 1041) dL_law_1041 ?_
  refine wq_iadd (pc := 1042) dL_law_1042 ?_
  refine wq_sld (pc := 1043) dL_law_1043 (by omega) (by rw [g8]; omega) ?_
  rw [g7]
  refine wq_aload_n (pc := 1044) dL_law_1044 rfl rfl ?_
  refine wq_iload (pc := 1045) dL_law_1045 rfl ?_
  refine wq_iconst (pc := 1047) dL_law_1047 ?_
  refine wq_iadd (pc := 1048) dL_law_1048 ?_
  refine wq_sld (pc := 1049) dL_law_1049 (by omega) (by rw [g8]; omega) ?_
  rw [g7]
  refine wl_callV (as := [vI (μ0 (-1) (6 * (c : Int) + 1)), vI (μ0 (-1) (6 * (c : Int) + 2))]) (rest := []) (ci := 7) (pc := 1050) dL_law_1050 (cw_L_156 _ rfl) (by decide) gR.1.1 ⟨by decide, by decide⟩ (Nat.le_of_ble_eq_true rfl) (sp_X7_nameAt gC hO (hs0 _) (hs0 _) (fun m2 v hC2 hF2 ha2 => ?_))
  show wpL 1053 _ [vI v] _ _ _
  refine wq_istore (pc := 1053) (L' := [(6, _), (5, _), (4, _), (3, _), (2, _), (1, _), (0, _)]) dL_law_1053 rfl (by decide) ?_
  obtain ⟨t1, t2, t3⟩ := tie_an (by decide) (by decide) hAW ha2
  refine wq_aload_n (pc := 1055) dL_law_1055 rfl rfl ?_
  refine wl_callV0 (ci := 7) (pc := 1056) dL_law_1056 (cw_L_104 _ rfl) (by decide) gR.1.1 ⟨by decide, by decide⟩ (Nat.le_of_ble_eq_true rfl) (sp_X7_thrown (skM_of gR) ?_)
  show wpL 1059 _ [vI (m2 21 25)] _ _ _
  refine wq_iload (pc := 1059) dL_law_1059 rfl ?_
  refine wq_icmp_eq (pc := 1061) (tgt := 1066) dL_law_1061 (by decide) (by unfold inR; omega) (by unfold inR; omega) (fun c1 => ?_) (fun c1 => by exfalso; omega)
  refine wq_iload (pc := 1066) dL_law_1066 rfl ?_
  refine wq_if_ne (pc := 1068) (tgt := 1083) dL_law_1068 (by decide) (by unfold inR; omega) (fun c2 => ?_) (fun c2 => ?_)
  · refine wq_goto (pc := 1083) (tgt := 1800) dL_law_1083 (by decide) ?_
    refine wq_sub1 (L' := [(4, _), (3, _), (2, _), (1, _), (0, _)]) ⟨rfl, rfl, rfl, rfl, rfl, trivial⟩ ?_
    exact END _ _ _ (nLS_of hLS hL1 hC2 hF2 (fe_qD A _ _))
  · refine wq_aload_n (pc := 1071) dL_law_1071 rfl rfl ?_
    refine wq_iconst (pc := 1072) dL_law_1072 ?_
    refine wq_lald (pc := 1073) dL_law_1073 g5.1 (by omega) (by rw [g5.2]; omega) ?_
    have e56 : m2 56 0 = v := (hF2 56 0 (by omega)).trans (t3 (by omega)).1
    rw [e56]
    refine wq_iload (pc := 1074) dL_law_1074 rfl ?_
    refine wq_i2l (pc := 1076) dL_law_1076 (t3 (by omega)).2 ?_
    refine wq_lcmp (pc := 1077) dL_law_1077 (inL_R (t3 (by omega)).2) (inL_R (t3 (by omega)).2) ?_
    rw [nCmp_same]
    refine wq_if_eq (pc := 1078) (tgt := 1083) dL_law_1078 (by decide) (by unfold inR; omega) (fun _ => ?_) (fun c4 => absurd rfl c4)
    refine wq_goto (pc := 1083) (tgt := 1800) dL_law_1083 (by decide) ?_
    refine wq_sub1 (L' := [(4, _), (3, _), (2, _), (1, _), (0, _)]) ⟨rfl, rfl, rfl, rfl, rfl, trivial⟩ ?_
    exact END _ _ _ (nLS_of hLS hL1 hC2 hF2 (fe_qD A _ _))
theorem lc_isDirectory {μ0 : nMem} {N : Int} {c : Nat} {A : AS} {μ : nMem} {ε : nEnv} (hs0 : ∀ j, inR (μ0 (-1) j)) (hN : 0 ≤ N ∧ N ≤ 3072) (hc : 6 * (c : Int) + 6 ≤ N) (hLS : nLS μ0 N c A μ ε) (END : ∀ A2 m e, nLS μ0 N (c + 1) A2 m e → wpL 1800 [(4, vI (6 * (c : Int))), (3, vR 56), (2, vR 21), (1, vR 1), (0, vR (-1))] [] m e Qlaw) : wpL 1086 [(4, vI (6 * (c : Int))), (3, vR 56), (2, vR 21), (1, vR 1), (0, vR (-1))] [] μ ε Qlaw := by
  obtain ⟨⟨hM, hCM, hcap⟩, ⟨h4, h5, h6, h7, h8⟩, hfe⟩ := id hLS
  have hO := MC_AOK hM
  have hnb : 2 + (c : Int) + 1 ≤ 2000 := by omega
  have hvb : 2 * (c : Int) + 2 ≤ 4000 := by omega
  have hcc : 600000 - (c + 1) + 1 = 600000 - c := by omega
  have hcap2 : Cap μ ε (600000 - (c + 1) + 1) := by rw [hcc]; exact hcap
  have hfE : ∀ b, 0 ≤ b → b < 8 → 0 ≤ fE (aF A) b ∧ fE (aF A) b ≤ 190000 := fun b b0 b1 => by have := hfe b b0 b1; omega
  refine wq_aload_n (pc := 1086) dL_law_1086 rfl rfl ?_
  refine wq_aload_n (pc := 1087) dL_law_1087 rfl rfl ?_
  refine wq_iload (pc := 1088) dL_law_1088 rfl ?_
  refine wq_iconst (pc := 1090) dL_law_1090 ?_
  refine wq_iadd (pc := 1091) dL_law_1091 ?_
  refine wq_sld (pc := 1092) dL_law_1092 (by omega) (by rw [h8]; omega) ?_
  rw [h7]
  refine wq_aload_n (pc := 1093) dL_law_1093 rfl rfl ?_
  refine wq_callW (as := [vR 1, vI (μ0 (-1) (6 * (c : Int) + 1)), vR 56]) (rest := []) (pc := 1094) dL_law_1094 (cw_L_157 _ rfl) ⟨by decide, by decide⟩ (Nat.le_of_ble_eq_true rfl) (sw_isDirectory h6 (sp_X6_isDirectory (t := 600000 - (c + 1)) hM hcap2 hnb hvb (hs0 _) (fun μ9 ε9 hM9 hc9 hF9 => ⟨kW_of (ex_isDir _) (nL1_of hLS hM9 hc9 hF9), is01 A _⟩))) (fun r m1 e1 hq => ?_) (fun E m1 e1 hq => by obtain ⟨k, hk, -⟩ := hq; cases hk)
  obtain ⟨k, hk, hAW, hL1⟩ := hq
  cases hk
  show wpL 1097 _ [vI k] _ _ _
  refine wq_istore (pc := 1097) (L' := [(5, _), (4, _), (3, _), (2, _), (1, _), (0, _)]) dL_law_1097 rfl (by decide) ?_
  obtain ⟨⟨gM, gC, gcap⟩, gR, g5, g6, g7, g8⟩ := id hL1
  refine wq_aload_n (pc := 1099) dL_law_1099 rfl rfl ?_
  refine wq_aload_n (pc := 1100) dL_law_1100 rfl rfl ?_
  refine wq_iload (pc := 1101) dL_law_1101 rfl ?_
  refine wq_iconst (pc := 1103) dL_law_1103 ?_
  refine wq_iadd (pc := 1104) dL_law_1104 ?_
  refine wq_sld (pc := 1105) dL_law_1105 (by omega) (by rw [g8]; omega) ?_
  rw [g7]
  refine wl_callV (as := [vI (μ0 (-1) (6 * (c : Int) + 1))]) (rest := []) (ci := 7) (pc := 1106) dL_law_1106 (cw_L_159 _ rfl) (by decide) gR.1.1 ⟨by decide, by decide⟩ (Nat.le_of_ble_eq_true rfl) (sp_X7_isDirectory gC hO (hs0 _) (fun m2 v hC2 hF2 ha2 => ?_))
  show wpL 1109 _ [vI v] _ _ _
  refine wq_istore (pc := 1109) (L' := [(6, _), (5, _), (4, _), (3, _), (2, _), (1, _), (0, _)]) dL_law_1109 rfl (by decide) ?_
  obtain ⟨t1, t2, t3⟩ := tie_an (by decide) (by decide) hAW ha2
  refine wq_aload_n (pc := 1111) dL_law_1111 rfl rfl ?_
  refine wl_callV0 (ci := 7) (pc := 1112) dL_law_1112 (cw_L_104 _ rfl) (by decide) gR.1.1 ⟨by decide, by decide⟩ (Nat.le_of_ble_eq_true rfl) (sp_X7_thrown (skM_of gR) ?_)
  show wpL 1115 _ [vI (m2 21 25)] _ _ _
  refine wq_iload (pc := 1115) dL_law_1115 rfl ?_
  refine wq_icmp_eq (pc := 1117) (tgt := 1122) dL_law_1117 (by decide) (by unfold inR; omega) (by unfold inR; omega) (fun c1 => ?_) (fun c1 => by exfalso; omega)
  refine wq_iload (pc := 1122) dL_law_1122 rfl ?_
  refine wq_if_ne (pc := 1124) (tgt := 1146) dL_law_1124 (by decide) (by unfold inR; omega) (fun c2 => ?_) (fun c2 => ?_)
  · refine wq_goto (pc := 1146) (tgt := 1800) dL_law_1146 (by decide) ?_
    refine wq_sub1 (L' := [(4, _), (3, _), (2, _), (1, _), (0, _)]) ⟨rfl, rfl, rfl, rfl, rfl, trivial⟩ ?_
    exact END _ _ _ (nLS_of hLS hL1 hC2 hF2 (fe_isDir A _))
  · refine wq_aload_n (pc := 1127) dL_law_1127 rfl rfl ?_
    refine wq_iconst (pc := 1128) dL_law_1128 ?_
    refine wq_lald (pc := 1129) dL_law_1129 g5.1 (by omega) (by rw [g5.2]; omega) ?_
    have e56 : m2 56 0 = v := (hF2 56 0 (by omega)).trans (t3 (by omega)).1
    rw [e56]
    refine wq_iload (pc := 1130) dL_law_1130 rfl ?_
    have hv01 : v = 0 ∨ v = 1 := by
      rcases ha2 with ⟨z, ez, hz, -⟩ | ⟨i, E, ez, -, hz⟩
      · exact is01 A _ v (by rw [ez, hz]; rfl)
      · omega
    refine wq_if_eq (pc := 1132) (tgt := 1139) dL_law_1132 (by decide) (t3 (by omega)).2 (fun c3 => ?_) (fun c3 => ?_)
    · refine wq_lconst (pc := 1139) (v := 0) dL_law_1139 rfl ?_
      refine wq_lcmp (pc := 1140) dL_law_1140 (inL_R (t3 (by omega)).2) (by unfold inL; omega) ?_
      rw [show nCmp v 0 = 0 by rw [show v = 0 by omega]; exact nCmp_same _]
      refine wq_if_eq (pc := 1141) (tgt := 1146) dL_law_1141 (by decide) (by unfold inR; omega) (fun _ => ?_) (fun c4 => absurd rfl c4)
      refine wq_goto (pc := 1146) (tgt := 1800) dL_law_1146 (by decide) ?_
      refine wq_sub1 (L' := [(4, _), (3, _), (2, _), (1, _), (0, _)]) ⟨rfl, rfl, rfl, rfl, rfl, trivial⟩ ?_
      exact END _ _ _ (nLS_of hLS hL1 hC2 hF2 (fe_isDir A _))
    · refine wq_lconst (pc := 1135) (v := 1) dL_law_1135 rfl ?_
      refine wq_goto (pc := 1136) (tgt := 1140) dL_law_1136 (by decide) ?_
      refine wq_lcmp (pc := 1140) dL_law_1140 (inL_R (t3 (by omega)).2) (by unfold inL; omega) ?_
      rw [show nCmp v 1 = 0 by rw [show v = 1 by omega]; exact nCmp_same _]
      refine wq_if_eq (pc := 1141) (tgt := 1146) dL_law_1141 (by decide) (by unfold inR; omega) (fun _ => ?_) (fun c4 => absurd rfl c4)
      refine wq_goto (pc := 1146) (tgt := 1800) dL_law_1146 (by decide) ?_
      refine wq_sub1 (L' := [(4, _), (3, _), (2, _), (1, _), (0, _)]) ⟨rfl, rfl, rfl, rfl, rfl, trivial⟩ ?_
      exact END _ _ _ (nLS_of hLS hL1 hC2 hF2 (fe_isDir A _))
theorem lc_links {μ0 : nMem} {N : Int} {c : Nat} {A : AS} {μ : nMem} {ε : nEnv} (hs0 : ∀ j, inR (μ0 (-1) j)) (hN : 0 ≤ N ∧ N ≤ 3072) (hc : 6 * (c : Int) + 6 ≤ N) (hLS : nLS μ0 N c A μ ε) (END : ∀ A2 m e, nLS μ0 N (c + 1) A2 m e → wpL 1800 [(4, vI (6 * (c : Int))), (3, vR 56), (2, vR 21), (1, vR 1), (0, vR (-1))] [] m e Qlaw) : wpL 1149 [(4, vI (6 * (c : Int))), (3, vR 56), (2, vR 21), (1, vR 1), (0, vR (-1))] [] μ ε Qlaw := by
  obtain ⟨⟨hM, hCM, hcap⟩, ⟨h4, h5, h6, h7, h8⟩, hfe⟩ := id hLS
  have hO := MC_AOK hM
  have hnb : 2 + (c : Int) + 1 ≤ 2000 := by omega
  have hvb : 2 * (c : Int) + 2 ≤ 4000 := by omega
  have hcc : 600000 - (c + 1) + 1 = 600000 - c := by omega
  have hcap2 : Cap μ ε (600000 - (c + 1) + 1) := by rw [hcc]; exact hcap
  have hfE : ∀ b, 0 ≤ b → b < 8 → 0 ≤ fE (aF A) b ∧ fE (aF A) b ≤ 190000 := fun b b0 b1 => by have := hfe b b0 b1; omega
  refine wq_aload_n (pc := 1149) dL_law_1149 rfl rfl ?_
  refine wq_aload_n (pc := 1150) dL_law_1150 rfl rfl ?_
  refine wq_iload (pc := 1151) dL_law_1151 rfl ?_
  refine wq_iconst (pc := 1153) dL_law_1153 ?_
  refine wq_iadd (pc := 1154) dL_law_1154 ?_
  refine wq_sld (pc := 1155) dL_law_1155 (by omega) (by rw [h8]; omega) ?_
  rw [h7]
  refine wq_aload_n (pc := 1156) dL_law_1156 rfl rfl ?_
  refine wq_callW (as := [vR 1, vI (μ0 (-1) (6 * (c : Int) + 1)), vR 56]) (rest := []) (pc := 1157) dL_law_1157 (cw_L_160 _ rfl) ⟨by decide, by decide⟩ (Nat.le_of_ble_eq_true rfl) (sw_links h6 (sp_X6_links (t := 600000 - (c + 1)) hM hcap2 hnb hvb (hs0 _) (fun μ9 ε9 hM9 hc9 hF9 => kW_of (ex_links _) (nL1_of hLS hM9 hc9 hF9)))) (fun r m1 e1 hq => ?_) (fun E m1 e1 hq => by obtain ⟨k, hk, -⟩ := hq; cases hk)
  obtain ⟨k, hk, hAW, hL1⟩ := hq
  cases hk
  show wpL 1160 _ [vI k] _ _ _
  refine wq_istore (pc := 1160) (L' := [(5, _), (4, _), (3, _), (2, _), (1, _), (0, _)]) dL_law_1160 rfl (by decide) ?_
  obtain ⟨⟨gM, gC, gcap⟩, gR, g5, g6, g7, g8⟩ := id hL1
  refine wq_aload_n (pc := 1162) dL_law_1162 rfl rfl ?_
  refine wq_aload_n (pc := 1163) dL_law_1163 rfl rfl ?_
  refine wq_iload (pc := 1164) dL_law_1164 rfl ?_
  refine wq_iconst (pc := 1166) dL_law_1166 ?_
  refine wq_iadd (pc := 1167) dL_law_1167 ?_
  refine wq_sld (pc := 1168) dL_law_1168 (by omega) (by rw [g8]; omega) ?_
  rw [g7]
  refine wl_callV (as := [vI (μ0 (-1) (6 * (c : Int) + 1))]) (rest := []) (ci := 7) (pc := 1169) dL_law_1169 (cw_L_162 _ rfl) (by decide) gR.1.1 ⟨by decide, by decide⟩ (Nat.le_of_ble_eq_true rfl) (sp_X7_links gC hO (hs0 _) (fun m2 v hC2 hF2 ha2 => ?_))
  show wpL 1172 _ [vI v] _ _ _
  refine wq_istore (pc := 1172) (L' := [(6, _), (5, _), (4, _), (3, _), (2, _), (1, _), (0, _)]) dL_law_1172 rfl (by decide) ?_
  obtain ⟨t1, t2, t3⟩ := tie_an (by decide) (by decide) hAW ha2
  refine wq_aload_n (pc := 1174) dL_law_1174 rfl rfl ?_
  refine wl_callV0 (ci := 7) (pc := 1175) dL_law_1175 (cw_L_104 _ rfl) (by decide) gR.1.1 ⟨by decide, by decide⟩ (Nat.le_of_ble_eq_true rfl) (sp_X7_thrown (skM_of gR) ?_)
  show wpL 1178 _ [vI (m2 21 25)] _ _ _
  refine wq_iload (pc := 1178) dL_law_1178 rfl ?_
  refine wq_icmp_eq (pc := 1180) (tgt := 1185) dL_law_1180 (by decide) (by unfold inR; omega) (by unfold inR; omega) (fun c1 => ?_) (fun c1 => by exfalso; omega)
  refine wq_iload (pc := 1185) dL_law_1185 rfl ?_
  refine wq_if_ne (pc := 1187) (tgt := 1202) dL_law_1187 (by decide) (by unfold inR; omega) (fun c2 => ?_) (fun c2 => ?_)
  · refine wq_goto (pc := 1202) (tgt := 1800) dL_law_1202 (by decide) ?_
    refine wq_sub1 (L' := [(4, _), (3, _), (2, _), (1, _), (0, _)]) ⟨rfl, rfl, rfl, rfl, rfl, trivial⟩ ?_
    exact END _ _ _ (nLS_of hLS hL1 hC2 hF2 (fe_links A _))
  · refine wq_aload_n (pc := 1190) dL_law_1190 rfl rfl ?_
    refine wq_iconst (pc := 1191) dL_law_1191 ?_
    refine wq_lald (pc := 1192) dL_law_1192 g5.1 (by omega) (by rw [g5.2]; omega) ?_
    have e56 : m2 56 0 = v := (hF2 56 0 (by omega)).trans (t3 (by omega)).1
    rw [e56]
    refine wq_iload (pc := 1193) dL_law_1193 rfl ?_
    refine wq_i2l (pc := 1195) dL_law_1195 (t3 (by omega)).2 ?_
    refine wq_lcmp (pc := 1196) dL_law_1196 (inL_R (t3 (by omega)).2) (inL_R (t3 (by omega)).2) ?_
    rw [nCmp_same]
    refine wq_if_eq (pc := 1197) (tgt := 1202) dL_law_1197 (by decide) (by unfold inR; omega) (fun _ => ?_) (fun c4 => absurd rfl c4)
    refine wq_goto (pc := 1202) (tgt := 1800) dL_law_1202 (by decide) ?_
    refine wq_sub1 (L' := [(4, _), (3, _), (2, _), (1, _), (0, _)]) ⟨rfl, rfl, rfl, rfl, rfl, trivial⟩ ?_
    exact END _ _ _ (nLS_of hLS hL1 hC2 hF2 (fe_links A _))
theorem lc_length {μ0 : nMem} {N : Int} {c : Nat} {A : AS} {μ : nMem} {ε : nEnv} (hs0 : ∀ j, inR (μ0 (-1) j)) (hN : 0 ≤ N ∧ N ≤ 3072) (hc : 6 * (c : Int) + 6 ≤ N) (hLS : nLS μ0 N c A μ ε) (END : ∀ A2 m e, nLS μ0 N (c + 1) A2 m e → wpL 1800 [(4, vI (6 * (c : Int))), (3, vR 56), (2, vR 21), (1, vR 1), (0, vR (-1))] [] m e Qlaw) : wpL 1205 [(4, vI (6 * (c : Int))), (3, vR 56), (2, vR 21), (1, vR 1), (0, vR (-1))] [] μ ε Qlaw := by
  obtain ⟨⟨hM, hCM, hcap⟩, ⟨h4, h5, h6, h7, h8⟩, hfe⟩ := id hLS
  have hO := MC_AOK hM
  have hnb : 2 + (c : Int) + 1 ≤ 2000 := by omega
  have hvb : 2 * (c : Int) + 2 ≤ 4000 := by omega
  have hcc : 600000 - (c + 1) + 1 = 600000 - c := by omega
  have hcap2 : Cap μ ε (600000 - (c + 1) + 1) := by rw [hcc]; exact hcap
  have hfE : ∀ b, 0 ≤ b → b < 8 → 0 ≤ fE (aF A) b ∧ fE (aF A) b ≤ 190000 := fun b b0 b1 => by have := hfe b b0 b1; omega
  refine wq_aload_n (pc := 1205) dL_law_1205 rfl rfl ?_
  refine wq_aload_n (pc := 1206) dL_law_1206 rfl rfl ?_
  refine wq_iload (pc := 1207) dL_law_1207 rfl ?_
  refine wq_iconst (pc := 1209) dL_law_1209 ?_
  refine wq_iadd (pc := 1210) dL_law_1210 ?_
  refine wq_sld (pc := 1211) dL_law_1211 (by omega) (by rw [h8]; omega) ?_
  rw [h7]
  refine wq_aload_n (pc := 1212) dL_law_1212 rfl rfl ?_
  refine wq_callW (as := [vR 1, vI (μ0 (-1) (6 * (c : Int) + 1)), vR 56]) (rest := []) (pc := 1213) dL_law_1213 (cw_L_163 _ rfl) ⟨by decide, by decide⟩ (Nat.le_of_ble_eq_true rfl) (sw_length h6 (sp_X6_length (t := 600000 - (c + 1)) hM hcap2 hnb hvb (hs0 _) (fun μ9 ε9 hM9 hc9 hF9 => kW_of (ex_length hO _) (nL1_of hLS hM9 hc9 hF9)))) (fun r m1 e1 hq => ?_) (fun E m1 e1 hq => by obtain ⟨k, hk, -⟩ := hq; cases hk)
  obtain ⟨k, hk, hAW, hL1⟩ := hq
  cases hk
  show wpL 1216 _ [vI k] _ _ _
  refine wq_istore (pc := 1216) (L' := [(5, _), (4, _), (3, _), (2, _), (1, _), (0, _)]) dL_law_1216 rfl (by decide) ?_
  obtain ⟨⟨gM, gC, gcap⟩, gR, g5, g6, g7, g8⟩ := id hL1
  refine wq_aload_n (pc := 1218) dL_law_1218 rfl rfl ?_
  refine wq_aload_n (pc := 1219) dL_law_1219 rfl rfl ?_
  refine wq_iload (pc := 1220) dL_law_1220 rfl ?_
  refine wq_iconst (pc := 1222) dL_law_1222 ?_
  refine wq_iadd (pc := 1223) dL_law_1223 ?_
  refine wq_sld (pc := 1224) dL_law_1224 (by omega) (by rw [g8]; omega) ?_
  rw [g7]
  refine wl_callV (as := [vI (μ0 (-1) (6 * (c : Int) + 1))]) (rest := []) (ci := 7) (pc := 1225) dL_law_1225 (cw_L_165 _ rfl) (by decide) gR.1.1 ⟨by decide, by decide⟩ (Nat.le_of_ble_eq_true rfl) (sq_X7_length gC hO (hs0 _) (fun m2 v hC2 hF2 ha2 => ?_))
  show wpL 1228 _ [vI v] _ _ _
  refine wq_istore (pc := 1228) (L' := [(6, _), (5, _), (4, _), (3, _), (2, _), (1, _), (0, _)]) dL_law_1228 rfl (by decide) ?_
  obtain ⟨t1, t2, t3⟩ := tie_an (by decide) (by decide) hAW ha2
  refine wq_aload_n (pc := 1230) dL_law_1230 rfl rfl ?_
  refine wl_callV0 (ci := 7) (pc := 1231) dL_law_1231 (cw_L_104 _ rfl) (by decide) gR.1.1 ⟨by decide, by decide⟩ (Nat.le_of_ble_eq_true rfl) (sp_X7_thrown (skM_of gR) ?_)
  show wpL 1234 _ [vI (m2 21 25)] _ _ _
  refine wq_iload (pc := 1234) dL_law_1234 rfl ?_
  refine wq_icmp_eq (pc := 1236) (tgt := 1241) dL_law_1236 (by decide) (by unfold inR; omega) (by unfold inR; omega) (fun c1 => ?_) (fun c1 => by exfalso; omega)
  refine wq_iload (pc := 1241) dL_law_1241 rfl ?_
  refine wq_if_ne (pc := 1243) (tgt := 1258) dL_law_1243 (by decide) (by unfold inR; omega) (fun c2 => ?_) (fun c2 => ?_)
  · refine wq_goto (pc := 1258) (tgt := 1800) dL_law_1258 (by decide) ?_
    refine wq_sub1 (L' := [(4, _), (3, _), (2, _), (1, _), (0, _)]) ⟨rfl, rfl, rfl, rfl, rfl, trivial⟩ ?_
    exact END _ _ _ (nLS_of hLS hL1 hC2 hF2 (fe_qF A _ _))
  · refine wq_aload_n (pc := 1246) dL_law_1246 rfl rfl ?_
    refine wq_iconst (pc := 1247) dL_law_1247 ?_
    refine wq_lald (pc := 1248) dL_law_1248 g5.1 (by omega) (by rw [g5.2]; omega) ?_
    have e56 : m2 56 0 = v := (hF2 56 0 (by omega)).trans (t3 (by omega)).1
    rw [e56]
    refine wq_iload (pc := 1249) dL_law_1249 rfl ?_
    refine wq_i2l (pc := 1251) dL_law_1251 (t3 (by omega)).2 ?_
    refine wq_lcmp (pc := 1252) dL_law_1252 (inL_R (t3 (by omega)).2) (inL_R (t3 (by omega)).2) ?_
    rw [nCmp_same]
    refine wq_if_eq (pc := 1253) (tgt := 1258) dL_law_1253 (by decide) (by unfold inR; omega) (fun _ => ?_) (fun c4 => absurd rfl c4)
    refine wq_goto (pc := 1258) (tgt := 1800) dL_law_1258 (by decide) ?_
    refine wq_sub1 (L' := [(4, _), (3, _), (2, _), (1, _), (0, _)]) ⟨rfl, rfl, rfl, rfl, rfl, trivial⟩ ?_
    exact END _ _ _ (nLS_of hLS hL1 hC2 hF2 (fe_qF A _ _))
theorem lc_byteAt {μ0 : nMem} {N : Int} {c : Nat} {A : AS} {μ : nMem} {ε : nEnv} (hs0 : ∀ j, inR (μ0 (-1) j)) (hN : 0 ≤ N ∧ N ≤ 3072) (hc : 6 * (c : Int) + 6 ≤ N) (hLS : nLS μ0 N c A μ ε) (END : ∀ A2 m e, nLS μ0 N (c + 1) A2 m e → wpL 1800 [(4, vI (6 * (c : Int))), (3, vR 56), (2, vR 21), (1, vR 1), (0, vR (-1))] [] m e Qlaw) : wpL 1261 [(4, vI (6 * (c : Int))), (3, vR 56), (2, vR 21), (1, vR 1), (0, vR (-1))] [] μ ε Qlaw := by
  obtain ⟨⟨hM, hCM, hcap⟩, ⟨h4, h5, h6, h7, h8⟩, hfe⟩ := id hLS
  have hO := MC_AOK hM
  have hnb : 2 + (c : Int) + 1 ≤ 2000 := by omega
  have hvb : 2 * (c : Int) + 2 ≤ 4000 := by omega
  have hcc : 600000 - (c + 1) + 1 = 600000 - c := by omega
  have hcap2 : Cap μ ε (600000 - (c + 1) + 1) := by rw [hcc]; exact hcap
  have hfE : ∀ b, 0 ≤ b → b < 8 → 0 ≤ fE (aF A) b ∧ fE (aF A) b ≤ 190000 := fun b b0 b1 => by have := hfe b b0 b1; omega
  refine wq_aload_n (pc := 1261) dL_law_1261 rfl rfl ?_
  refine wq_aload_n (pc := 1262) dL_law_1262 rfl rfl ?_
  refine wq_iload (pc := 1263) dL_law_1263 rfl ?_
  refine wq_iconst (pc := 1265) dL_law_1265 ?_
  refine wq_iadd (pc := 1266) dL_law_1266 ?_
  refine wq_sld (pc := 1267) dL_law_1267 (by omega) (by rw [h8]; omega) ?_
  rw [h7]
  refine wq_aload_n (pc := 1268) dL_law_1268 rfl rfl ?_
  refine wq_iload (pc := 1269) dL_law_1269 rfl ?_
  refine wq_iconst (pc := 1271) dL_law_1271 ?_
  refine wq_iadd (pc := 1272) dL_law_1272 ?_
  refine wq_sld (pc := 1273) dL_law_1273 (by omega) (by rw [h8]; omega) ?_
  rw [h7]
  refine wq_aload_n (pc := 1274) dL_law_1274 rfl rfl ?_
  refine wq_callW (as := [vR 1, vI (μ0 (-1) (6 * (c : Int) + 1)), vI (μ0 (-1) (6 * (c : Int) + 2)), vR 56]) (rest := []) (pc := 1275) dL_law_1275 (cw_L_166 _ rfl) ⟨by decide, by decide⟩ (Nat.le_of_ble_eq_true rfl) (sw_byteAt h6 (sp_X6_byteAt (t := 600000 - (c + 1)) hM hcap2 hnb hvb (hs0 _) (hs0 _) (fun μ9 ε9 hM9 hc9 hF9 => kW_of (ex_byteAt _ _) (nL1_of hLS hM9 hc9 hF9)))) (fun r m1 e1 hq => ?_) (fun E m1 e1 hq => by obtain ⟨k, hk, -⟩ := hq; cases hk)
  obtain ⟨k, hk, hAW, hL1⟩ := hq
  cases hk
  show wpL 1278 _ [vI k] _ _ _
  refine wq_istore (pc := 1278) (L' := [(5, _), (4, _), (3, _), (2, _), (1, _), (0, _)]) dL_law_1278 rfl (by decide) ?_
  obtain ⟨⟨gM, gC, gcap⟩, gR, g5, g6, g7, g8⟩ := id hL1
  refine wq_aload_n (pc := 1280) dL_law_1280 rfl rfl ?_
  refine wq_aload_n (pc := 1281) dL_law_1281 rfl rfl ?_
  refine wq_iload (pc := 1282) dL_law_1282 rfl ?_
  refine wq_iconst (pc := 1284) dL_law_1284 ?_
  refine wq_iadd (pc := 1285) dL_law_1285 ?_
  refine wq_sld (pc := 1286) dL_law_1286 (by omega) (by rw [g8]; omega) ?_
  rw [g7]
  refine wq_aload_n (pc := 1287) dL_law_1287 rfl rfl ?_
  refine wq_iload (pc := 1288) dL_law_1288 rfl ?_
  refine wq_iconst (pc := 1290) dL_law_1290 ?_
  refine wq_iadd (pc := 1291) dL_law_1291 ?_
  refine wq_sld (pc := 1292) dL_law_1292 (by omega) (by rw [g8]; omega) ?_
  rw [g7]
  refine wl_callV (as := [vI (μ0 (-1) (6 * (c : Int) + 1)), vI (μ0 (-1) (6 * (c : Int) + 2))]) (rest := []) (ci := 7) (pc := 1293) dL_law_1293 (cw_L_168 _ rfl) (by decide) gR.1.1 ⟨by decide, by decide⟩ (Nat.le_of_ble_eq_true rfl) (sp_X7_byteAt gC hO (hs0 _) (hs0 _) (fun m2 v hC2 hF2 ha2 => ?_))
  show wpL 1296 _ [vI v] _ _ _
  refine wq_istore (pc := 1296) (L' := [(6, _), (5, _), (4, _), (3, _), (2, _), (1, _), (0, _)]) dL_law_1296 rfl (by decide) ?_
  obtain ⟨t1, t2, t3⟩ := tie_an (by decide) (by decide) hAW ha2
  refine wq_aload_n (pc := 1298) dL_law_1298 rfl rfl ?_
  refine wl_callV0 (ci := 7) (pc := 1299) dL_law_1299 (cw_L_104 _ rfl) (by decide) gR.1.1 ⟨by decide, by decide⟩ (Nat.le_of_ble_eq_true rfl) (sp_X7_thrown (skM_of gR) ?_)
  show wpL 1302 _ [vI (m2 21 25)] _ _ _
  refine wq_iload (pc := 1302) dL_law_1302 rfl ?_
  refine wq_icmp_eq (pc := 1304) (tgt := 1309) dL_law_1304 (by decide) (by unfold inR; omega) (by unfold inR; omega) (fun c1 => ?_) (fun c1 => by exfalso; omega)
  refine wq_iload (pc := 1309) dL_law_1309 rfl ?_
  refine wq_if_ne (pc := 1311) (tgt := 1326) dL_law_1311 (by decide) (by unfold inR; omega) (fun c2 => ?_) (fun c2 => ?_)
  · refine wq_goto (pc := 1326) (tgt := 1800) dL_law_1326 (by decide) ?_
    refine wq_sub1 (L' := [(4, _), (3, _), (2, _), (1, _), (0, _)]) ⟨rfl, rfl, rfl, rfl, rfl, trivial⟩ ?_
    exact END _ _ _ (nLS_of hLS hL1 hC2 hF2 (fe_qF A _ _))
  · refine wq_aload_n (pc := 1314) dL_law_1314 rfl rfl ?_
    refine wq_iconst (pc := 1315) dL_law_1315 ?_
    refine wq_lald (pc := 1316) dL_law_1316 g5.1 (by omega) (by rw [g5.2]; omega) ?_
    have e56 : m2 56 0 = v := (hF2 56 0 (by omega)).trans (t3 (by omega)).1
    rw [e56]
    refine wq_iload (pc := 1317) dL_law_1317 rfl ?_
    refine wq_i2l (pc := 1319) dL_law_1319 (t3 (by omega)).2 ?_
    refine wq_lcmp (pc := 1320) dL_law_1320 (inL_R (t3 (by omega)).2) (inL_R (t3 (by omega)).2) ?_
    rw [nCmp_same]
    refine wq_if_eq (pc := 1321) (tgt := 1326) dL_law_1321 (by decide) (by unfold inR; omega) (fun _ => ?_) (fun c4 => absurd rfl c4)
    refine wq_goto (pc := 1326) (tgt := 1800) dL_law_1326 (by decide) ?_
    refine wq_sub1 (L' := [(4, _), (3, _), (2, _), (1, _), (0, _)]) ⟨rfl, rfl, rfl, rfl, rfl, trivial⟩ ?_
    exact END _ _ _ (nLS_of hLS hL1 hC2 hF2 (fe_qF A _ _))
theorem lc_byteByNodes {μ0 : nMem} {N : Int} {c : Nat} {A : AS} {μ : nMem} {ε : nEnv} (hs0 : ∀ j, inR (μ0 (-1) j)) (hN : 0 ≤ N ∧ N ≤ 3072) (hc : 6 * (c : Int) + 6 ≤ N) (hLS : nLS μ0 N c A μ ε) (END : ∀ A2 m e, nLS μ0 N (c + 1) A2 m e → wpL 1800 [(4, vI (6 * (c : Int))), (3, vR 56), (2, vR 21), (1, vR 1), (0, vR (-1))] [] m e Qlaw) : wpL 1329 [(4, vI (6 * (c : Int))), (3, vR 56), (2, vR 21), (1, vR 1), (0, vR (-1))] [] μ ε Qlaw := by
  obtain ⟨⟨hM, hCM, hcap⟩, ⟨h4, h5, h6, h7, h8⟩, hfe⟩ := id hLS
  have hO := MC_AOK hM
  have hnb : 2 + (c : Int) + 1 ≤ 2000 := by omega
  have hvb : 2 * (c : Int) + 2 ≤ 4000 := by omega
  have hcc : 600000 - (c + 1) + 1 = 600000 - c := by omega
  have hcap2 : Cap μ ε (600000 - (c + 1) + 1) := by rw [hcc]; exact hcap
  have hfE : ∀ b, 0 ≤ b → b < 8 → 0 ≤ fE (aF A) b ∧ fE (aF A) b ≤ 190000 := fun b b0 b1 => by have := hfe b b0 b1; omega
  refine wq_aload_n (pc := 1329) dL_law_1329 rfl rfl ?_
  refine wq_aload_n (pc := 1330) dL_law_1330 rfl rfl ?_
  refine wq_iload (pc := 1331) dL_law_1331 rfl ?_
  refine wq_iconst (pc := 1333) dL_law_1333 ?_
  refine wq_iadd (pc := 1334) dL_law_1334 ?_
  refine wq_sld (pc := 1335) dL_law_1335 (by omega) (by rw [h8]; omega) ?_
  rw [h7]
  refine wq_aload_n (pc := 1336) dL_law_1336 rfl rfl ?_
  refine wq_iload (pc := 1337) dL_law_1337 rfl ?_
  refine wq_iconst (pc := 1339) dL_law_1339 ?_
  refine wq_iadd (pc := 1340) dL_law_1340 ?_
  refine wq_sld (pc := 1341) dL_law_1341 (by omega) (by rw [h8]; omega) ?_
  rw [h7]
  refine wq_aload_n (pc := 1342) dL_law_1342 rfl rfl ?_
  refine wq_callW (as := [vR 1, vI (μ0 (-1) (6 * (c : Int) + 1)), vI (μ0 (-1) (6 * (c : Int) + 2)), vR 56]) (rest := []) (pc := 1343) dL_law_1343 (cw_L_169 _ rfl) ⟨by decide, by decide⟩ (Nat.le_of_ble_eq_true rfl) (sw_byteByNodes h6 (sp_X6_byteByNodes (t := 600000 - (c + 1)) hM hcap2 hnb hvb (hs0 _) (hs0 _) (fun μ9 ε9 hM9 hc9 hF9 => kW_of (ex_byteAt _ _) (nL1_of hLS hM9 hc9 hF9)))) (fun r m1 e1 hq => ?_) (fun E m1 e1 hq => by obtain ⟨k, hk, -⟩ := hq; cases hk)
  obtain ⟨k, hk, hAW, hL1⟩ := hq
  cases hk
  show wpL 1346 _ [vI k] _ _ _
  refine wq_istore (pc := 1346) (L' := [(5, _), (4, _), (3, _), (2, _), (1, _), (0, _)]) dL_law_1346 rfl (by decide) ?_
  obtain ⟨⟨gM, gC, gcap⟩, gR, g5, g6, g7, g8⟩ := id hL1
  refine wq_aload_n (pc := 1348) dL_law_1348 rfl rfl ?_
  refine wq_aload_n (pc := 1349) dL_law_1349 rfl rfl ?_
  refine wq_iload (pc := 1350) dL_law_1350 rfl ?_
  refine wq_iconst (pc := 1352) dL_law_1352 ?_
  refine wq_iadd (pc := 1353) dL_law_1353 ?_
  refine wq_sld (pc := 1354) dL_law_1354 (by omega) (by rw [g8]; omega) ?_
  rw [g7]
  refine wq_aload_n (pc := 1355) dL_law_1355 rfl rfl ?_
  refine wq_iload (pc := 1356) dL_law_1356 rfl ?_
  refine wq_iconst (pc := 1358) dL_law_1358 ?_
  refine wq_iadd (pc := 1359) dL_law_1359 ?_
  refine wq_sld (pc := 1360) dL_law_1360 (by omega) (by rw [g8]; omega) ?_
  rw [g7]
  refine wl_callV (as := [vI (μ0 (-1) (6 * (c : Int) + 1)), vI (μ0 (-1) (6 * (c : Int) + 2))]) (rest := []) (ci := 7) (pc := 1361) dL_law_1361 (cw_L_171 _ rfl) (by decide) gR.1.1 ⟨by decide, by decide⟩ (Nat.le_of_ble_eq_true rfl) (sp_X7_byteByNodes gC hO (hs0 _) (hs0 _) (fun m2 v hC2 hF2 ha2 => ?_))
  show wpL 1364 _ [vI v] _ _ _
  refine wq_istore (pc := 1364) (L' := [(6, _), (5, _), (4, _), (3, _), (2, _), (1, _), (0, _)]) dL_law_1364 rfl (by decide) ?_
  obtain ⟨t1, t2, t3⟩ := tie_an (by decide) (by decide) hAW ha2
  refine wq_aload_n (pc := 1366) dL_law_1366 rfl rfl ?_
  refine wl_callV0 (ci := 7) (pc := 1367) dL_law_1367 (cw_L_104 _ rfl) (by decide) gR.1.1 ⟨by decide, by decide⟩ (Nat.le_of_ble_eq_true rfl) (sp_X7_thrown (skM_of gR) ?_)
  show wpL 1370 _ [vI (m2 21 25)] _ _ _
  refine wq_iload (pc := 1370) dL_law_1370 rfl ?_
  refine wq_icmp_eq (pc := 1372) (tgt := 1377) dL_law_1372 (by decide) (by unfold inR; omega) (by unfold inR; omega) (fun c1 => ?_) (fun c1 => by exfalso; omega)
  refine wq_iload (pc := 1377) dL_law_1377 rfl ?_
  refine wq_if_ne (pc := 1379) (tgt := 1394) dL_law_1379 (by decide) (by unfold inR; omega) (fun c2 => ?_) (fun c2 => ?_)
  · refine wq_goto (pc := 1394) (tgt := 1800) dL_law_1394 (by decide) ?_
    refine wq_sub1 (L' := [(4, _), (3, _), (2, _), (1, _), (0, _)]) ⟨rfl, rfl, rfl, rfl, rfl, trivial⟩ ?_
    exact END _ _ _ (nLS_of hLS hL1 hC2 hF2 (fe_qF A _ _))
  · refine wq_aload_n (pc := 1382) dL_law_1382 rfl rfl ?_
    refine wq_iconst (pc := 1383) dL_law_1383 ?_
    refine wq_lald (pc := 1384) dL_law_1384 g5.1 (by omega) (by rw [g5.2]; omega) ?_
    have e56 : m2 56 0 = v := (hF2 56 0 (by omega)).trans (t3 (by omega)).1
    rw [e56]
    refine wq_iload (pc := 1385) dL_law_1385 rfl ?_
    refine wq_i2l (pc := 1387) dL_law_1387 (t3 (by omega)).2 ?_
    refine wq_lcmp (pc := 1388) dL_law_1388 (inL_R (t3 (by omega)).2) (inL_R (t3 (by omega)).2) ?_
    rw [nCmp_same]
    refine wq_if_eq (pc := 1389) (tgt := 1394) dL_law_1389 (by decide) (by unfold inR; omega) (fun _ => ?_) (fun c4 => absurd rfl c4)
    refine wq_goto (pc := 1394) (tgt := 1800) dL_law_1394 (by decide) ?_
    refine wq_sub1 (L' := [(4, _), (3, _), (2, _), (1, _), (0, _)]) ⟨rfl, rfl, rfl, rfl, rfl, trivial⟩ ?_
    exact END _ _ _ (nLS_of hLS hL1 hC2 hF2 (fe_qF A _ _))
theorem lc_state {μ0 : nMem} {N : Int} {c : Nat} {A : AS} {μ : nMem} {ε : nEnv} (hs0 : ∀ j, inR (μ0 (-1) j)) (hN : 0 ≤ N ∧ N ≤ 3072) (hc : 6 * (c : Int) + 6 ≤ N) (hLS : nLS μ0 N c A μ ε) (END : ∀ A2 m e, nLS μ0 N (c + 1) A2 m e → wpL 1800 [(4, vI (6 * (c : Int))), (3, vR 56), (2, vR 21), (1, vR 1), (0, vR (-1))] [] m e Qlaw) : wpL 1397 [(4, vI (6 * (c : Int))), (3, vR 56), (2, vR 21), (1, vR 1), (0, vR (-1))] [] μ ε Qlaw := by
  obtain ⟨⟨hM, hCM, hcap⟩, ⟨h4, h5, h6, h7, h8⟩, hfe⟩ := id hLS
  have hO := MC_AOK hM
  have hnb : 2 + (c : Int) + 1 ≤ 2000 := by omega
  have hvb : 2 * (c : Int) + 2 ≤ 4000 := by omega
  have hcc : 600000 - (c + 1) + 1 = 600000 - c := by omega
  have hcap2 : Cap μ ε (600000 - (c + 1) + 1) := by rw [hcc]; exact hcap
  have hfE : ∀ b, 0 ≤ b → b < 8 → 0 ≤ fE (aF A) b ∧ fE (aF A) b ≤ 190000 := fun b b0 b1 => by have := hfe b b0 b1; omega
  refine wq_aload_n (pc := 1397) dL_law_1397 rfl rfl ?_
  refine wq_aload_n (pc := 1398) dL_law_1398 rfl rfl ?_
  refine wq_iload (pc := 1399) dL_law_1399 rfl ?_
  refine wq_iconst (pc := 1401) dL_law_1401 ?_
  refine wq_iadd (pc := 1402) dL_law_1402 ?_
  refine wq_sld (pc := 1403) dL_law_1403 (by omega) (by rw [h8]; omega) ?_
  rw [h7]
  refine wq_aload_n (pc := 1404) dL_law_1404 rfl rfl ?_
  refine wq_callW (as := [vR 1, vI (μ0 (-1) (6 * (c : Int) + 1)), vR 56]) (rest := []) (pc := 1405) dL_law_1405 (cw_L_172 _ rfl) ⟨by decide, by decide⟩ (Nat.le_of_ble_eq_true rfl) (sw_state h6 (sp_X6_state (t := 600000 - (c + 1)) hM hcap2 hnb hvb (hs0 _) (fun μ9 ε9 hM9 hc9 hF9 => kW_of (ex_state _) (nL1_of hLS hM9 hc9 hF9)))) (fun r m1 e1 hq => ?_) (fun E m1 e1 hq => by obtain ⟨k, hk, -⟩ := hq; cases hk)
  obtain ⟨k, hk, hAW, hL1⟩ := hq
  cases hk
  show wpL 1408 _ [vI k] _ _ _
  refine wq_istore (pc := 1408) (L' := [(5, _), (4, _), (3, _), (2, _), (1, _), (0, _)]) dL_law_1408 rfl (by decide) ?_
  obtain ⟨⟨gM, gC, gcap⟩, gR, g5, g6, g7, g8⟩ := id hL1
  refine wq_aload_n (pc := 1410) dL_law_1410 rfl rfl ?_
  refine wq_aload_n (pc := 1411) dL_law_1411 rfl rfl ?_
  refine wq_iload (pc := 1412) dL_law_1412 rfl ?_
  refine wq_iconst (pc := 1414) dL_law_1414 ?_
  refine wq_iadd (pc := 1415) dL_law_1415 ?_
  refine wq_sld (pc := 1416) dL_law_1416 (by omega) (by rw [g8]; omega) ?_
  rw [g7]
  refine wl_callV (as := [vI (μ0 (-1) (6 * (c : Int) + 1))]) (rest := []) (ci := 7) (pc := 1417) dL_law_1417 (cw_L_174 _ rfl) (by decide) gR.1.1 ⟨by decide, by decide⟩ (Nat.le_of_ble_eq_true rfl) (sp_X7_state gC hO (hs0 _) (fun m2 v hC2 hF2 ha2 => ?_))
  show wpL 1420 _ [vI v] _ _ _
  refine wq_istore (pc := 1420) (L' := [(6, _), (5, _), (4, _), (3, _), (2, _), (1, _), (0, _)]) dL_law_1420 rfl (by decide) ?_
  obtain ⟨t1, t2, t3⟩ := tie_an (by decide) (by decide) hAW ha2
  refine wq_aload_n (pc := 1422) dL_law_1422 rfl rfl ?_
  refine wl_callV0 (ci := 7) (pc := 1423) dL_law_1423 (cw_L_104 _ rfl) (by decide) gR.1.1 ⟨by decide, by decide⟩ (Nat.le_of_ble_eq_true rfl) (sp_X7_thrown (skM_of gR) ?_)
  show wpL 1426 _ [vI (m2 21 25)] _ _ _
  refine wq_iload (pc := 1426) dL_law_1426 rfl ?_
  refine wq_icmp_eq (pc := 1428) (tgt := 1433) dL_law_1428 (by decide) (by unfold inR; omega) (by unfold inR; omega) (fun c1 => ?_) (fun c1 => by exfalso; omega)
  refine wq_iload (pc := 1433) dL_law_1433 rfl ?_
  refine wq_if_ne (pc := 1435) (tgt := 1450) dL_law_1435 (by decide) (by unfold inR; omega) (fun c2 => ?_) (fun c2 => ?_)
  · refine wq_goto (pc := 1450) (tgt := 1800) dL_law_1450 (by decide) ?_
    refine wq_sub1 (L' := [(4, _), (3, _), (2, _), (1, _), (0, _)]) ⟨rfl, rfl, rfl, rfl, rfl, trivial⟩ ?_
    exact END _ _ _ (nLS_of hLS hL1 hC2 hF2 (fe_qB A _ _))
  · refine wq_aload_n (pc := 1438) dL_law_1438 rfl rfl ?_
    refine wq_iconst (pc := 1439) dL_law_1439 ?_
    refine wq_lald (pc := 1440) dL_law_1440 g5.1 (by omega) (by rw [g5.2]; omega) ?_
    have e56 : m2 56 0 = v := (hF2 56 0 (by omega)).trans (t3 (by omega)).1
    rw [e56]
    refine wq_iload (pc := 1441) dL_law_1441 rfl ?_
    refine wq_i2l (pc := 1443) dL_law_1443 (t3 (by omega)).2 ?_
    refine wq_lcmp (pc := 1444) dL_law_1444 (inL_R (t3 (by omega)).2) (inL_R (t3 (by omega)).2) ?_
    rw [nCmp_same]
    refine wq_if_eq (pc := 1445) (tgt := 1450) dL_law_1445 (by decide) (by unfold inR; omega) (fun _ => ?_) (fun c4 => absurd rfl c4)
    refine wq_goto (pc := 1450) (tgt := 1800) dL_law_1450 (by decide) ?_
    refine wq_sub1 (L' := [(4, _), (3, _), (2, _), (1, _), (0, _)]) ⟨rfl, rfl, rfl, rfl, rfl, trivial⟩ ?_
    exact END _ _ _ (nLS_of hLS hL1 hC2 hF2 (fe_qB A _ _))
theorem lc_dead {μ0 : nMem} {N : Int} {c : Nat} {A : AS} {μ : nMem} {ε : nEnv} (hs0 : ∀ j, inR (μ0 (-1) j)) (hN : 0 ≤ N ∧ N ≤ 3072) (hc : 6 * (c : Int) + 6 ≤ N) (hLS : nLS μ0 N c A μ ε) (END : ∀ A2 m e, nLS μ0 N (c + 1) A2 m e → wpL 1800 [(4, vI (6 * (c : Int))), (3, vR 56), (2, vR 21), (1, vR 1), (0, vR (-1))] [] m e Qlaw) : wpL 1453 [(4, vI (6 * (c : Int))), (3, vR 56), (2, vR 21), (1, vR 1), (0, vR (-1))] [] μ ε Qlaw := by
  obtain ⟨⟨hM, hCM, hcap⟩, ⟨h4, h5, h6, h7, h8⟩, hfe⟩ := id hLS
  have hO := MC_AOK hM
  have hnb : 2 + (c : Int) + 1 ≤ 2000 := by omega
  have hvb : 2 * (c : Int) + 2 ≤ 4000 := by omega
  have hcc : 600000 - (c + 1) + 1 = 600000 - c := by omega
  have hcap2 : Cap μ ε (600000 - (c + 1) + 1) := by rw [hcc]; exact hcap
  have hfE : ∀ b, 0 ≤ b → b < 8 → 0 ≤ fE (aF A) b ∧ fE (aF A) b ≤ 190000 := fun b b0 b1 => by have := hfe b b0 b1; omega
  refine wq_aload_n (pc := 1453) dL_law_1453 rfl rfl ?_
  refine wq_aload_n (pc := 1454) dL_law_1454 rfl rfl ?_
  refine wq_iload (pc := 1455) dL_law_1455 rfl ?_
  refine wq_iconst (pc := 1457) dL_law_1457 ?_
  refine wq_iadd (pc := 1458) dL_law_1458 ?_
  refine wq_sld (pc := 1459) dL_law_1459 (by omega) (by rw [h8]; omega) ?_
  rw [h7]
  refine wq_aload_n (pc := 1460) dL_law_1460 rfl rfl ?_
  refine wq_callW (as := [vR 1, vI (μ0 (-1) (6 * (c : Int) + 1)), vR 56]) (rest := []) (pc := 1461) dL_law_1461 (cw_L_175 _ rfl) ⟨by decide, by decide⟩ (Nat.le_of_ble_eq_true rfl) (sw_dead h6 (sp_X6_dead (t := 600000 - (c + 1)) hM hcap2 hnb hvb (hs0 _) (fun μ9 ε9 hM9 hc9 hF9 => kW_of (ex_dead hO _) (nL1_of hLS hM9 hc9 hF9)))) (fun r m1 e1 hq => ?_) (fun E m1 e1 hq => by obtain ⟨k, hk, -⟩ := hq; cases hk)
  obtain ⟨k, hk, hAW, hL1⟩ := hq
  cases hk
  show wpL 1464 _ [vI k] _ _ _
  refine wq_istore (pc := 1464) (L' := [(5, _), (4, _), (3, _), (2, _), (1, _), (0, _)]) dL_law_1464 rfl (by decide) ?_
  obtain ⟨⟨gM, gC, gcap⟩, gR, g5, g6, g7, g8⟩ := id hL1
  refine wq_aload_n (pc := 1466) dL_law_1466 rfl rfl ?_
  refine wq_aload_n (pc := 1467) dL_law_1467 rfl rfl ?_
  refine wq_iload (pc := 1468) dL_law_1468 rfl ?_
  refine wq_iconst (pc := 1470) dL_law_1470 ?_
  refine wq_iadd (pc := 1471) dL_law_1471 ?_
  refine wq_sld (pc := 1472) dL_law_1472 (by omega) (by rw [g8]; omega) ?_
  rw [g7]
  refine wl_callV (as := [vI (μ0 (-1) (6 * (c : Int) + 1))]) (rest := []) (ci := 7) (pc := 1473) dL_law_1473 (cw_L_177 _ rfl) (by decide) gR.1.1 ⟨by decide, by decide⟩ (Nat.le_of_ble_eq_true rfl) (sp_X7_dead gC hO (hs0 _) (fun m2 v hC2 hF2 ha2 => ?_))
  show wpL 1476 _ [vI v] _ _ _
  refine wq_istore (pc := 1476) (L' := [(6, _), (5, _), (4, _), (3, _), (2, _), (1, _), (0, _)]) dL_law_1476 rfl (by decide) ?_
  obtain ⟨t1, t2, t3⟩ := tie_an (by decide) (by decide) hAW ha2
  refine wq_aload_n (pc := 1478) dL_law_1478 rfl rfl ?_
  refine wl_callV0 (ci := 7) (pc := 1479) dL_law_1479 (cw_L_104 _ rfl) (by decide) gR.1.1 ⟨by decide, by decide⟩ (Nat.le_of_ble_eq_true rfl) (sp_X7_thrown (skM_of gR) ?_)
  show wpL 1482 _ [vI (m2 21 25)] _ _ _
  refine wq_iload (pc := 1482) dL_law_1482 rfl ?_
  refine wq_icmp_eq (pc := 1484) (tgt := 1489) dL_law_1484 (by decide) (by unfold inR; omega) (by unfold inR; omega) (fun c1 => ?_) (fun c1 => by exfalso; omega)
  refine wq_iload (pc := 1489) dL_law_1489 rfl ?_
  refine wq_if_ne (pc := 1491) (tgt := 1506) dL_law_1491 (by decide) (by unfold inR; omega) (fun c2 => ?_) (fun c2 => ?_)
  · refine wq_goto (pc := 1506) (tgt := 1800) dL_law_1506 (by decide) ?_
    refine wq_sub1 (L' := [(4, _), (3, _), (2, _), (1, _), (0, _)]) ⟨rfl, rfl, rfl, rfl, rfl, trivial⟩ ?_
    exact END _ _ _ (nLS_of hLS hL1 hC2 hF2 (fe_qB A _ _))
  · refine wq_aload_n (pc := 1494) dL_law_1494 rfl rfl ?_
    refine wq_iconst (pc := 1495) dL_law_1495 ?_
    refine wq_lald (pc := 1496) dL_law_1496 g5.1 (by omega) (by rw [g5.2]; omega) ?_
    have e56 : m2 56 0 = v := (hF2 56 0 (by omega)).trans (t3 (by omega)).1
    rw [e56]
    refine wq_iload (pc := 1497) dL_law_1497 rfl ?_
    refine wq_i2l (pc := 1499) dL_law_1499 (t3 (by omega)).2 ?_
    refine wq_lcmp (pc := 1500) dL_law_1500 (inL_R (t3 (by omega)).2) (inL_R (t3 (by omega)).2) ?_
    rw [nCmp_same]
    refine wq_if_eq (pc := 1501) (tgt := 1506) dL_law_1501 (by decide) (by unfold inR; omega) (fun _ => ?_) (fun c4 => absurd rfl c4)
    refine wq_goto (pc := 1506) (tgt := 1800) dL_law_1506 (by decide) ?_
    refine wq_sub1 (L' := [(4, _), (3, _), (2, _), (1, _), (0, _)]) ⟨rfl, rfl, rfl, rfl, rfl, trivial⟩ ?_
    exact END _ _ _ (nLS_of hLS hL1 hC2 hF2 (fe_qB A _ _))
theorem lc_toCopy {μ0 : nMem} {N : Int} {c : Nat} {A : AS} {μ : nMem} {ε : nEnv} (hs0 : ∀ j, inR (μ0 (-1) j)) (hN : 0 ≤ N ∧ N ≤ 3072) (hc : 6 * (c : Int) + 6 ≤ N) (hLS : nLS μ0 N c A μ ε) (END : ∀ A2 m e, nLS μ0 N (c + 1) A2 m e → wpL 1800 [(4, vI (6 * (c : Int))), (3, vR 56), (2, vR 21), (1, vR 1), (0, vR (-1))] [] m e Qlaw) : wpL 1509 [(4, vI (6 * (c : Int))), (3, vR 56), (2, vR 21), (1, vR 1), (0, vR (-1))] [] μ ε Qlaw := by
  obtain ⟨⟨hM, hCM, hcap⟩, ⟨h4, h5, h6, h7, h8⟩, hfe⟩ := id hLS
  have hO := MC_AOK hM
  have hnb : 2 + (c : Int) + 1 ≤ 2000 := by omega
  have hvb : 2 * (c : Int) + 2 ≤ 4000 := by omega
  have hcc : 600000 - (c + 1) + 1 = 600000 - c := by omega
  have hcap2 : Cap μ ε (600000 - (c + 1) + 1) := by rw [hcc]; exact hcap
  have hfE : ∀ b, 0 ≤ b → b < 8 → 0 ≤ fE (aF A) b ∧ fE (aF A) b ≤ 190000 := fun b b0 b1 => by have := hfe b b0 b1; omega
  refine wq_aload_n (pc := 1509) dL_law_1509 rfl rfl ?_
  refine wq_aload_n (pc := 1510) dL_law_1510 rfl rfl ?_
  refine wq_iload (pc := 1511) dL_law_1511 rfl ?_
  refine wq_iconst (pc := 1513) dL_law_1513 ?_
  refine wq_iadd (pc := 1514) dL_law_1514 ?_
  refine wq_sld (pc := 1515) dL_law_1515 (by omega) (by rw [h8]; omega) ?_
  rw [h7]
  refine wq_aload_n (pc := 1516) dL_law_1516 rfl rfl ?_
  refine wq_callW (as := [vR 1, vI (μ0 (-1) (6 * (c : Int) + 1)), vR 56]) (rest := []) (pc := 1517) dL_law_1517 (cw_L_178 _ rfl) ⟨by decide, by decide⟩ (Nat.le_of_ble_eq_true rfl) (sw_toCopy h6 (sp_X6_toCopy (t := 600000 - (c + 1)) hM hcap2 hnb hvb (hs0 _) (fun μ9 ε9 hM9 hc9 hF9 => kW_of (ex_toCopy hO _) (nL1_of hLS hM9 hc9 hF9)))) (fun r m1 e1 hq => ?_) (fun E m1 e1 hq => by obtain ⟨k, hk, -⟩ := hq; cases hk)
  obtain ⟨k, hk, hAW, hL1⟩ := hq
  cases hk
  show wpL 1520 _ [vI k] _ _ _
  refine wq_istore (pc := 1520) (L' := [(5, _), (4, _), (3, _), (2, _), (1, _), (0, _)]) dL_law_1520 rfl (by decide) ?_
  obtain ⟨⟨gM, gC, gcap⟩, gR, g5, g6, g7, g8⟩ := id hL1
  refine wq_aload_n (pc := 1522) dL_law_1522 rfl rfl ?_
  refine wq_aload_n (pc := 1523) dL_law_1523 rfl rfl ?_
  refine wq_iload (pc := 1524) dL_law_1524 rfl ?_
  refine wq_iconst (pc := 1526) dL_law_1526 ?_
  refine wq_iadd (pc := 1527) dL_law_1527 ?_
  refine wq_sld (pc := 1528) dL_law_1528 (by omega) (by rw [g8]; omega) ?_
  rw [g7]
  refine wl_callV (as := [vI (μ0 (-1) (6 * (c : Int) + 1))]) (rest := []) (ci := 7) (pc := 1529) dL_law_1529 (cw_L_180 _ rfl) (by decide) gR.1.1 ⟨by decide, by decide⟩ (Nat.le_of_ble_eq_true rfl) (sp_X7_toCopy gC hO (hs0 _) (fun m2 v hC2 hF2 ha2 => ?_))
  show wpL 1532 _ [vI v] _ _ _
  refine wq_istore (pc := 1532) (L' := [(6, _), (5, _), (4, _), (3, _), (2, _), (1, _), (0, _)]) dL_law_1532 rfl (by decide) ?_
  obtain ⟨t1, t2, t3⟩ := tie_an (by decide) (by decide) hAW ha2
  refine wq_aload_n (pc := 1534) dL_law_1534 rfl rfl ?_
  refine wl_callV0 (ci := 7) (pc := 1535) dL_law_1535 (cw_L_104 _ rfl) (by decide) gR.1.1 ⟨by decide, by decide⟩ (Nat.le_of_ble_eq_true rfl) (sp_X7_thrown (skM_of gR) ?_)
  show wpL 1538 _ [vI (m2 21 25)] _ _ _
  refine wq_iload (pc := 1538) dL_law_1538 rfl ?_
  refine wq_icmp_eq (pc := 1540) (tgt := 1545) dL_law_1540 (by decide) (by unfold inR; omega) (by unfold inR; omega) (fun c1 => ?_) (fun c1 => by exfalso; omega)
  refine wq_iload (pc := 1545) dL_law_1545 rfl ?_
  refine wq_if_ne (pc := 1547) (tgt := 1562) dL_law_1547 (by decide) (by unfold inR; omega) (fun c2 => ?_) (fun c2 => ?_)
  · refine wq_goto (pc := 1562) (tgt := 1800) dL_law_1562 (by decide) ?_
    refine wq_sub1 (L' := [(4, _), (3, _), (2, _), (1, _), (0, _)]) ⟨rfl, rfl, rfl, rfl, rfl, trivial⟩ ?_
    exact END _ _ _ (nLS_of hLS hL1 hC2 hF2 (fe_qB A _ _))
  · refine wq_aload_n (pc := 1550) dL_law_1550 rfl rfl ?_
    refine wq_iconst (pc := 1551) dL_law_1551 ?_
    refine wq_lald (pc := 1552) dL_law_1552 g5.1 (by omega) (by rw [g5.2]; omega) ?_
    have e56 : m2 56 0 = v := (hF2 56 0 (by omega)).trans (t3 (by omega)).1
    rw [e56]
    refine wq_iload (pc := 1553) dL_law_1553 rfl ?_
    refine wq_i2l (pc := 1555) dL_law_1555 (t3 (by omega)).2 ?_
    refine wq_lcmp (pc := 1556) dL_law_1556 (inL_R (t3 (by omega)).2) (inL_R (t3 (by omega)).2) ?_
    rw [nCmp_same]
    refine wq_if_eq (pc := 1557) (tgt := 1562) dL_law_1557 (by decide) (by unfold inR; omega) (fun _ => ?_) (fun c4 => absurd rfl c4)
    refine wq_goto (pc := 1562) (tgt := 1800) dL_law_1562 (by decide) ?_
    refine wq_sub1 (L' := [(4, _), (3, _), (2, _), (1, _), (0, _)]) ⟨rfl, rfl, rfl, rfl, rfl, trivial⟩ ?_
    exact END _ _ _ (nLS_of hLS hL1 hC2 hF2 (fe_qB A _ _))
theorem lc_written {μ0 : nMem} {N : Int} {c : Nat} {A : AS} {μ : nMem} {ε : nEnv} (hs0 : ∀ j, inR (μ0 (-1) j)) (hN : 0 ≤ N ∧ N ≤ 3072) (hc : 6 * (c : Int) + 6 ≤ N) (hLS : nLS μ0 N c A μ ε) (END : ∀ A2 m e, nLS μ0 N (c + 1) A2 m e → wpL 1800 [(4, vI (6 * (c : Int))), (3, vR 56), (2, vR 21), (1, vR 1), (0, vR (-1))] [] m e Qlaw) : wpL 1565 [(4, vI (6 * (c : Int))), (3, vR 56), (2, vR 21), (1, vR 1), (0, vR (-1))] [] μ ε Qlaw := by
  obtain ⟨⟨hM, hCM, hcap⟩, ⟨h4, h5, h6, h7, h8⟩, hfe⟩ := id hLS
  have hO := MC_AOK hM
  have hnb : 2 + (c : Int) + 1 ≤ 2000 := by omega
  have hvb : 2 * (c : Int) + 2 ≤ 4000 := by omega
  have hcc : 600000 - (c + 1) + 1 = 600000 - c := by omega
  have hcap2 : Cap μ ε (600000 - (c + 1) + 1) := by rw [hcc]; exact hcap
  have hfE : ∀ b, 0 ≤ b → b < 8 → 0 ≤ fE (aF A) b ∧ fE (aF A) b ≤ 190000 := fun b b0 b1 => by have := hfe b b0 b1; omega
  refine wq_aload_n (pc := 1565) dL_law_1565 rfl rfl ?_
  refine wq_aload_n (pc := 1566) dL_law_1566 rfl rfl ?_
  refine wq_iload (pc := 1567) dL_law_1567 rfl ?_
  refine wq_iconst (pc := 1569) dL_law_1569 ?_
  refine wq_iadd (pc := 1570) dL_law_1570 ?_
  refine wq_sld (pc := 1571) dL_law_1571 (by omega) (by rw [h8]; omega) ?_
  rw [h7]
  refine wq_aload_n (pc := 1572) dL_law_1572 rfl rfl ?_
  refine wq_callW (as := [vR 1, vI (μ0 (-1) (6 * (c : Int) + 1)), vR 56]) (rest := []) (pc := 1573) dL_law_1573 (cw_L_181 _ rfl) ⟨by decide, by decide⟩ (Nat.le_of_ble_eq_true rfl) (sw_written h6 (sp_X6_written (t := 600000 - (c + 1)) hM hcap2 hnb hvb (hs0 _) (fun μ9 ε9 hM9 hc9 hF9 => kW_of (ex_written hO _) (nL1_of hLS hM9 hc9 hF9)))) (fun r m1 e1 hq => ?_) (fun E m1 e1 hq => by obtain ⟨k, hk, -⟩ := hq; cases hk)
  obtain ⟨k, hk, hAW, hL1⟩ := hq
  cases hk
  show wpL 1576 _ [vI k] _ _ _
  refine wq_istore (pc := 1576) (L' := [(5, _), (4, _), (3, _), (2, _), (1, _), (0, _)]) dL_law_1576 rfl (by decide) ?_
  obtain ⟨⟨gM, gC, gcap⟩, gR, g5, g6, g7, g8⟩ := id hL1
  refine wq_aload_n (pc := 1578) dL_law_1578 rfl rfl ?_
  refine wq_aload_n (pc := 1579) dL_law_1579 rfl rfl ?_
  refine wq_iload (pc := 1580) dL_law_1580 rfl ?_
  refine wq_iconst (pc := 1582) dL_law_1582 ?_
  refine wq_iadd (pc := 1583) dL_law_1583 ?_
  refine wq_sld (pc := 1584) dL_law_1584 (by omega) (by rw [g8]; omega) ?_
  rw [g7]
  refine wl_callV (as := [vI (μ0 (-1) (6 * (c : Int) + 1))]) (rest := []) (ci := 7) (pc := 1585) dL_law_1585 (cw_L_183 _ rfl) (by decide) gR.1.1 ⟨by decide, by decide⟩ (Nat.le_of_ble_eq_true rfl) (sp_X7_written gC (hs0 _) (fun m2 v hC2 hF2 ha2 => ?_))
  show wpL 1588 _ [vI v] _ _ _
  refine wq_istore (pc := 1588) (L' := [(6, _), (5, _), (4, _), (3, _), (2, _), (1, _), (0, _)]) dL_law_1588 rfl (by decide) ?_
  obtain ⟨t1, t2, t3⟩ := tie_an (by decide) (by decide) hAW ha2
  refine wq_aload_n (pc := 1590) dL_law_1590 rfl rfl ?_
  refine wl_callV0 (ci := 7) (pc := 1591) dL_law_1591 (cw_L_104 _ rfl) (by decide) gR.1.1 ⟨by decide, by decide⟩ (Nat.le_of_ble_eq_true rfl) (sp_X7_thrown (skM_of gR) ?_)
  show wpL 1594 _ [vI (m2 21 25)] _ _ _
  refine wq_iload (pc := 1594) dL_law_1594 rfl ?_
  refine wq_icmp_eq (pc := 1596) (tgt := 1601) dL_law_1596 (by decide) (by unfold inR; omega) (by unfold inR; omega) (fun c1 => ?_) (fun c1 => by exfalso; omega)
  refine wq_iload (pc := 1601) dL_law_1601 rfl ?_
  refine wq_if_ne (pc := 1603) (tgt := 1618) dL_law_1603 (by decide) (by unfold inR; omega) (fun c2 => ?_) (fun c2 => ?_)
  · refine wq_goto (pc := 1618) (tgt := 1800) dL_law_1618 (by decide) ?_
    refine wq_sub1 (L' := [(4, _), (3, _), (2, _), (1, _), (0, _)]) ⟨rfl, rfl, rfl, rfl, rfl, trivial⟩ ?_
    exact END _ _ _ (nLS_of hLS hL1 hC2 hF2 (fe_qb A _ _))
  · refine wq_aload_n (pc := 1606) dL_law_1606 rfl rfl ?_
    refine wq_iconst (pc := 1607) dL_law_1607 ?_
    refine wq_lald (pc := 1608) dL_law_1608 g5.1 (by omega) (by rw [g5.2]; omega) ?_
    have e56 : m2 56 0 = v := (hF2 56 0 (by omega)).trans (t3 (by omega)).1
    rw [e56]
    refine wq_iload (pc := 1609) dL_law_1609 rfl ?_
    refine wq_i2l (pc := 1611) dL_law_1611 (t3 (by omega)).2 ?_
    refine wq_lcmp (pc := 1612) dL_law_1612 (inL_R (t3 (by omega)).2) (inL_R (t3 (by omega)).2) ?_
    rw [nCmp_same]
    refine wq_if_eq (pc := 1613) (tgt := 1618) dL_law_1613 (by decide) (by unfold inR; omega) (fun _ => ?_) (fun c4 => absurd rfl c4)
    refine wq_goto (pc := 1618) (tgt := 1800) dL_law_1618 (by decide) ?_
    refine wq_sub1 (L' := [(4, _), (3, _), (2, _), (1, _), (0, _)]) ⟨rfl, rfl, rfl, rfl, rfl, trivial⟩ ?_
    exact END _ _ _ (nLS_of hLS hL1 hC2 hF2 (fe_qb A _ _))
theorem lc_nodes {μ0 : nMem} {N : Int} {c : Nat} {A : AS} {μ : nMem} {ε : nEnv} (hs0 : ∀ j, inR (μ0 (-1) j)) (hN : 0 ≤ N ∧ N ≤ 3072) (hc : 6 * (c : Int) + 6 ≤ N) (hLS : nLS μ0 N c A μ ε) (END : ∀ A2 m e, nLS μ0 N (c + 1) A2 m e → wpL 1800 [(4, vI (6 * (c : Int))), (3, vR 56), (2, vR 21), (1, vR 1), (0, vR (-1))] [] m e Qlaw) : wpL 1621 [(4, vI (6 * (c : Int))), (3, vR 56), (2, vR 21), (1, vR 1), (0, vR (-1))] [] μ ε Qlaw := by
  obtain ⟨⟨hM, hCM, hcap⟩, ⟨h4, h5, h6, h7, h8⟩, hfe⟩ := id hLS
  have hO := MC_AOK hM
  have hnb : 2 + (c : Int) + 1 ≤ 2000 := by omega
  have hvb : 2 * (c : Int) + 2 ≤ 4000 := by omega
  have hcc : 600000 - (c + 1) + 1 = 600000 - c := by omega
  have hcap2 : Cap μ ε (600000 - (c + 1) + 1) := by rw [hcc]; exact hcap
  have hfE : ∀ b, 0 ≤ b → b < 8 → 0 ≤ fE (aF A) b ∧ fE (aF A) b ≤ 190000 := fun b b0 b1 => by have := hfe b b0 b1; omega
  refine wq_aload_n (pc := 1621) dL_law_1621 rfl rfl ?_
  refine wq_aload_n (pc := 1622) dL_law_1622 rfl rfl ?_
  refine wq_iload (pc := 1623) dL_law_1623 rfl ?_
  refine wq_iconst (pc := 1625) dL_law_1625 ?_
  refine wq_iadd (pc := 1626) dL_law_1626 ?_
  refine wq_sld (pc := 1627) dL_law_1627 (by omega) (by rw [h8]; omega) ?_
  rw [h7]
  refine wq_aload_n (pc := 1628) dL_law_1628 rfl rfl ?_
  refine wq_callW (as := [vR 1, vI (μ0 (-1) (6 * (c : Int) + 1)), vR 56]) (rest := []) (pc := 1629) dL_law_1629 (cw_L_184 _ rfl) ⟨by decide, by decide⟩ (Nat.le_of_ble_eq_true rfl) (sw_nodes h6 (sp_X6_nodes (t := 600000 - (c + 1)) hM hcap2 hnb hvb (hs0 _) (fun μ9 ε9 hM9 hc9 hF9 => kW_of (ex_nodes hO _) (nL1_of hLS hM9 hc9 hF9)))) (fun r m1 e1 hq => ?_) (fun E m1 e1 hq => by obtain ⟨k, hk, -⟩ := hq; cases hk)
  obtain ⟨k, hk, hAW, hL1⟩ := hq
  cases hk
  show wpL 1632 _ [vI k] _ _ _
  refine wq_istore (pc := 1632) (L' := [(5, _), (4, _), (3, _), (2, _), (1, _), (0, _)]) dL_law_1632 rfl (by decide) ?_
  obtain ⟨⟨gM, gC, gcap⟩, gR, g5, g6, g7, g8⟩ := id hL1
  refine wq_aload_n (pc := 1634) dL_law_1634 rfl rfl ?_
  refine wq_aload_n (pc := 1635) dL_law_1635 rfl rfl ?_
  refine wq_iload (pc := 1636) dL_law_1636 rfl ?_
  refine wq_iconst (pc := 1638) dL_law_1638 ?_
  refine wq_iadd (pc := 1639) dL_law_1639 ?_
  refine wq_sld (pc := 1640) dL_law_1640 (by omega) (by rw [g8]; omega) ?_
  rw [g7]
  refine wl_callV (as := [vI (μ0 (-1) (6 * (c : Int) + 1))]) (rest := []) (ci := 7) (pc := 1641) dL_law_1641 (cw_L_186 _ rfl) (by decide) gR.1.1 ⟨by decide, by decide⟩ (Nat.le_of_ble_eq_true rfl) (sp_X7_nodes gC (hs0 _) (fun m2 v hC2 hF2 ha2 => ?_))
  show wpL 1644 _ [vI v] _ _ _
  refine wq_istore (pc := 1644) (L' := [(6, _), (5, _), (4, _), (3, _), (2, _), (1, _), (0, _)]) dL_law_1644 rfl (by decide) ?_
  obtain ⟨t1, t2, t3⟩ := tie_an (by decide) (by decide) hAW ha2
  refine wq_aload_n (pc := 1646) dL_law_1646 rfl rfl ?_
  refine wl_callV0 (ci := 7) (pc := 1647) dL_law_1647 (cw_L_104 _ rfl) (by decide) gR.1.1 ⟨by decide, by decide⟩ (Nat.le_of_ble_eq_true rfl) (sp_X7_thrown (skM_of gR) ?_)
  show wpL 1650 _ [vI (m2 21 25)] _ _ _
  refine wq_iload (pc := 1650) dL_law_1650 rfl ?_
  refine wq_icmp_eq (pc := 1652) (tgt := 1657) dL_law_1652 (by decide) (by unfold inR; omega) (by unfold inR; omega) (fun c1 => ?_) (fun c1 => by exfalso; omega)
  refine wq_iload (pc := 1657) dL_law_1657 rfl ?_
  refine wq_if_ne (pc := 1659) (tgt := 1674) dL_law_1659 (by decide) (by unfold inR; omega) (fun c2 => ?_) (fun c2 => ?_)
  · refine wq_goto (pc := 1674) (tgt := 1800) dL_law_1674 (by decide) ?_
    refine wq_sub1 (L' := [(4, _), (3, _), (2, _), (1, _), (0, _)]) ⟨rfl, rfl, rfl, rfl, rfl, trivial⟩ ?_
    exact END _ _ _ (nLS_of hLS hL1 hC2 hF2 (fe_qb A _ _))
  · refine wq_aload_n (pc := 1662) dL_law_1662 rfl rfl ?_
    refine wq_iconst (pc := 1663) dL_law_1663 ?_
    refine wq_lald (pc := 1664) dL_law_1664 g5.1 (by omega) (by rw [g5.2]; omega) ?_
    have e56 : m2 56 0 = v := (hF2 56 0 (by omega)).trans (t3 (by omega)).1
    rw [e56]
    refine wq_iload (pc := 1665) dL_law_1665 rfl ?_
    refine wq_i2l (pc := 1667) dL_law_1667 (t3 (by omega)).2 ?_
    refine wq_lcmp (pc := 1668) dL_law_1668 (inL_R (t3 (by omega)).2) (inL_R (t3 (by omega)).2) ?_
    rw [nCmp_same]
    refine wq_if_eq (pc := 1669) (tgt := 1674) dL_law_1669 (by decide) (by unfold inR; omega) (fun _ => ?_) (fun c4 => absurd rfl c4)
    refine wq_goto (pc := 1674) (tgt := 1800) dL_law_1674 (by decide) ?_
    refine wq_sub1 (L' := [(4, _), (3, _), (2, _), (1, _), (0, _)]) ⟨rfl, rfl, rfl, rfl, rfl, trivial⟩ ?_
    exact END _ _ _ (nLS_of hLS hL1 hC2 hF2 (fe_qb A _ _))
theorem lc_node {μ0 : nMem} {N : Int} {c : Nat} {A : AS} {μ : nMem} {ε : nEnv} (hs0 : ∀ j, inR (μ0 (-1) j)) (hN : 0 ≤ N ∧ N ≤ 3072) (hc : 6 * (c : Int) + 6 ≤ N) (hLS : nLS μ0 N c A μ ε) (END : ∀ A2 m e, nLS μ0 N (c + 1) A2 m e → wpL 1800 [(4, vI (6 * (c : Int))), (3, vR 56), (2, vR 21), (1, vR 1), (0, vR (-1))] [] m e Qlaw) : wpL 1677 [(4, vI (6 * (c : Int))), (3, vR 56), (2, vR 21), (1, vR 1), (0, vR (-1))] [] μ ε Qlaw := by
  obtain ⟨⟨hM, hCM, hcap⟩, ⟨h4, h5, h6, h7, h8⟩, hfe⟩ := id hLS
  have hO := MC_AOK hM
  have hnb : 2 + (c : Int) + 1 ≤ 2000 := by omega
  have hvb : 2 * (c : Int) + 2 ≤ 4000 := by omega
  have hcc : 600000 - (c + 1) + 1 = 600000 - c := by omega
  have hcap2 : Cap μ ε (600000 - (c + 1) + 1) := by rw [hcc]; exact hcap
  have hfE : ∀ b, 0 ≤ b → b < 8 → 0 ≤ fE (aF A) b ∧ fE (aF A) b ≤ 190000 := fun b b0 b1 => by have := hfe b b0 b1; omega
  refine wq_aload_n (pc := 1677) dL_law_1677 rfl rfl ?_
  refine wq_aload_n (pc := 1678) dL_law_1678 rfl rfl ?_
  refine wq_iload (pc := 1679) dL_law_1679 rfl ?_
  refine wq_iconst (pc := 1681) dL_law_1681 ?_
  refine wq_iadd (pc := 1682) dL_law_1682 ?_
  refine wq_sld (pc := 1683) dL_law_1683 (by omega) (by rw [h8]; omega) ?_
  rw [h7]
  refine wq_aload_n (pc := 1684) dL_law_1684 rfl rfl ?_
  refine wq_iload (pc := 1685) dL_law_1685 rfl ?_
  refine wq_iconst (pc := 1687) dL_law_1687 ?_
  refine wq_iadd (pc := 1688) dL_law_1688 ?_
  refine wq_sld (pc := 1689) dL_law_1689 (by omega) (by rw [h8]; omega) ?_
  rw [h7]
  refine wq_aload_n (pc := 1690) dL_law_1690 rfl rfl ?_
  refine wq_callW (as := [vR 1, vI (μ0 (-1) (6 * (c : Int) + 1)), vI (μ0 (-1) (6 * (c : Int) + 2)), vR 56]) (rest := []) (pc := 1691) dL_law_1691 (cw_L_187 _ rfl) ⟨by decide, by decide⟩ (Nat.le_of_ble_eq_true rfl) (sw_node h6 (sp_X6_node (t := 600000 - (c + 1)) hM hcap2 hnb hvb (hs0 _) (hs0 _) (fun μ9 ε9 hM9 hc9 hF9 => kWJ_of (ex_node hO _ _) (nL1_of hLS hM9 hc9 hF9)))) (fun r m1 e1 hq => ?_) (fun E m1 e1 hq => by obtain ⟨k, hk, -⟩ := hq; cases hk)
  obtain ⟨k, hk, hAW, hL1⟩ := hq
  cases hk
  show wpL 1694 _ [vI k] _ _ _
  refine wq_istore (pc := 1694) (L' := [(5, _), (4, _), (3, _), (2, _), (1, _), (0, _)]) dL_law_1694 rfl (by decide) ?_
  obtain ⟨⟨gM, gC, gcap⟩, gR, g5, g6, g7, g8⟩ := id hL1
  refine wq_aload_n (pc := 1696) dL_law_1696 rfl rfl ?_
  refine wq_aload_n (pc := 1697) dL_law_1697 rfl rfl ?_
  refine wq_iload (pc := 1698) dL_law_1698 rfl ?_
  refine wq_iconst (pc := 1700) dL_law_1700 ?_
  refine wq_iadd (pc := 1701) dL_law_1701 ?_
  refine wq_sld (pc := 1702) dL_law_1702 (by omega) (by rw [g8]; omega) ?_
  rw [g7]
  refine wq_aload_n (pc := 1703) dL_law_1703 rfl rfl ?_
  refine wq_iload (pc := 1704) dL_law_1704 rfl ?_
  refine wq_iconst (pc := 1706) dL_law_1706 ?_
  refine wq_iadd (pc := 1707) dL_law_1707 ?_
  refine wq_sld (pc := 1708) dL_law_1708 (by omega) (by rw [g8]; omega) ?_
  rw [g7]
  refine wl_callV (as := [vI (μ0 (-1) (6 * (c : Int) + 1)), vI (μ0 (-1) (6 * (c : Int) + 2))]) (rest := []) (ci := 7) (pc := 1709) dL_law_1709 (cw_L_189 _ rfl) (by decide) gR.1.1 ⟨by decide, by decide⟩ (Nat.le_of_ble_eq_true rfl) (sp_X7_node gC (AOK_KP hO) (hs0 _) (hs0 _) (fun m2 v hC2 hF2 ha2 => ?_))
  show wpL 1712 _ [vJ v] _ _ _
  refine wq_lstore (pc := 1712) (L' := [(6, _), (5, _), (4, _), (3, _), (2, _), (1, _), (0, _)]) dL_law_1712 rfl (by decide) ?_
  obtain ⟨t1, t2, t3⟩ := tie_aj (by decide) (by decide) hAW ha2
  refine wq_aload_n (pc := 1714) dL_law_1714 rfl rfl ?_
  refine wl_callV0 (ci := 7) (pc := 1715) dL_law_1715 (cw_L_104 _ rfl) (by decide) gR.1.1 ⟨by decide, by decide⟩ (Nat.le_of_ble_eq_true rfl) (sp_X7_thrown (skM_of gR) ?_)
  show wpL 1718 _ [vI (m2 21 25)] _ _ _
  refine wq_iload (pc := 1718) dL_law_1718 rfl ?_
  refine wq_icmp_eq (pc := 1720) (tgt := 1725) dL_law_1720 (by decide) (by unfold inR; omega) (by unfold inR; omega) (fun c1 => ?_) (fun c1 => by exfalso; omega)
  refine wq_iload (pc := 1725) dL_law_1725 rfl ?_
  refine wq_if_ne (pc := 1727) (tgt := 1741) dL_law_1727 (by decide) (by unfold inR; omega) (fun c2 => ?_) (fun c2 => ?_)
  · refine wq_goto (pc := 1741) (tgt := 1800) dL_law_1741 (by decide) ?_
    refine wq_sub1 (L' := [(4, _), (3, _), (2, _), (1, _), (0, _)]) ⟨rfl, rfl, rfl, rfl, rfl, trivial⟩ ?_
    exact END _ _ _ (nLS_of hLS hL1 hC2 hF2 (fe_qb A _ _))
  · refine wq_aload_n (pc := 1730) dL_law_1730 rfl rfl ?_
    refine wq_iconst (pc := 1731) dL_law_1731 ?_
    refine wq_lald (pc := 1732) dL_law_1732 g5.1 (by omega) (by rw [g5.2]; omega) ?_
    have e56 : m2 56 0 = v := (hF2 56 0 (by omega)).trans (t3 (by omega)).1
    rw [e56]
    refine wq_lload (pc := 1733) dL_law_1733 rfl ?_
    refine wq_lcmp (pc := 1735) dL_law_1735 (t3 (by omega)).2 (t3 (by omega)).2 ?_
    rw [nCmp_same]
    refine wq_if_eq (pc := 1736) (tgt := 1741) dL_law_1736 (by decide) (by unfold inR; omega) (fun _ => ?_) (fun c4 => absurd rfl c4)
    refine wq_goto (pc := 1741) (tgt := 1800) dL_law_1741 (by decide) ?_
    refine wq_sub1 (L' := [(4, _), (3, _), (2, _), (1, _), (0, _)]) ⟨rfl, rfl, rfl, rfl, rfl, trivial⟩ ?_
    exact END _ _ _ (nLS_of hLS hL1 hC2 hF2 (fe_qb A _ _))
theorem lc_erased {μ0 : nMem} {N : Int} {c : Nat} {A : AS} {μ : nMem} {ε : nEnv} (hs0 : ∀ j, inR (μ0 (-1) j)) (hN : 0 ≤ N ∧ N ≤ 3072) (hc : 6 * (c : Int) + 6 ≤ N) (hLS : nLS μ0 N c A μ ε) (END : ∀ A2 m e, nLS μ0 N (c + 1) A2 m e → wpL 1800 [(4, vI (6 * (c : Int))), (3, vR 56), (2, vR 21), (1, vR 1), (0, vR (-1))] [] m e Qlaw) : wpL 1744 [(4, vI (6 * (c : Int))), (3, vR 56), (2, vR 21), (1, vR 1), (0, vR (-1))] [] μ ε Qlaw := by
  obtain ⟨⟨hM, hCM, hcap⟩, ⟨h4, h5, h6, h7, h8⟩, hfe⟩ := id hLS
  have hO := MC_AOK hM
  have hnb : 2 + (c : Int) + 1 ≤ 2000 := by omega
  have hvb : 2 * (c : Int) + 2 ≤ 4000 := by omega
  have hcc : 600000 - (c + 1) + 1 = 600000 - c := by omega
  have hcap2 : Cap μ ε (600000 - (c + 1) + 1) := by rw [hcc]; exact hcap
  have hfE : ∀ b, 0 ≤ b → b < 8 → 0 ≤ fE (aF A) b ∧ fE (aF A) b ≤ 190000 := fun b b0 b1 => by have := hfe b b0 b1; omega
  refine wq_aload_n (pc := 1744) dL_law_1744 rfl rfl ?_
  refine wq_aload_n (pc := 1745) dL_law_1745 rfl rfl ?_
  refine wq_iload (pc := 1746) dL_law_1746 rfl ?_
  refine wq_iconst (pc := 1748) dL_law_1748 ?_
  refine wq_iadd (pc := 1749) dL_law_1749 ?_
  refine wq_sld (pc := 1750) dL_law_1750 (by omega) (by rw [h8]; omega) ?_
  rw [h7]
  refine wq_aload_n (pc := 1751) dL_law_1751 rfl rfl ?_
  refine wq_callW (as := [vR 1, vI (μ0 (-1) (6 * (c : Int) + 1)), vR 56]) (rest := []) (pc := 1752) dL_law_1752 (cw_L_190 _ rfl) ⟨by decide, by decide⟩ (Nat.le_of_ble_eq_true rfl) (sw_erased h6 (sp_X6_erased (t := 600000 - (c + 1)) hM hcap2 hnb hvb (hs0 _) (fun μ9 ε9 hM9 hc9 hF9 => kW_of (ex_erased hfE _) (nL1_of hLS hM9 hc9 hF9)))) (fun r m1 e1 hq => ?_) (fun E m1 e1 hq => by obtain ⟨k, hk, -⟩ := hq; cases hk)
  obtain ⟨k, hk, hAW, hL1⟩ := hq
  cases hk
  show wpL 1755 _ [vI k] _ _ _
  refine wq_istore (pc := 1755) (L' := [(5, _), (4, _), (3, _), (2, _), (1, _), (0, _)]) dL_law_1755 rfl (by decide) ?_
  obtain ⟨⟨gM, gC, gcap⟩, gR, g5, g6, g7, g8⟩ := id hL1
  refine wq_aload_n (pc := 1757) dL_law_1757 rfl rfl ?_
  refine wq_aload_n (pc := 1758) dL_law_1758 rfl rfl ?_
  refine wq_iload (pc := 1759) dL_law_1759 rfl ?_
  refine wq_iconst (pc := 1761) dL_law_1761 ?_
  refine wq_iadd (pc := 1762) dL_law_1762 ?_
  refine wq_sld (pc := 1763) dL_law_1763 (by omega) (by rw [g8]; omega) ?_
  rw [g7]
  refine wl_callV (as := [vI (μ0 (-1) (6 * (c : Int) + 1))]) (rest := []) (ci := 7) (pc := 1764) dL_law_1764 (cw_L_192 _ rfl) (by decide) gR.1.1 ⟨by decide, by decide⟩ (Nat.le_of_ble_eq_true rfl) (sp_X7_erased gC (hs0 _) (fun m2 v hC2 hF2 ha2 => ?_))
  show wpL 1767 _ [vI v] _ _ _
  refine wq_istore (pc := 1767) (L' := [(6, _), (5, _), (4, _), (3, _), (2, _), (1, _), (0, _)]) dL_law_1767 rfl (by decide) ?_
  obtain ⟨t1, t2, t3⟩ := tie_an (by decide) (by decide) hAW ha2
  refine wq_aload_n (pc := 1769) dL_law_1769 rfl rfl ?_
  refine wl_callV0 (ci := 7) (pc := 1770) dL_law_1770 (cw_L_104 _ rfl) (by decide) gR.1.1 ⟨by decide, by decide⟩ (Nat.le_of_ble_eq_true rfl) (sp_X7_thrown (skM_of gR) ?_)
  show wpL 1773 _ [vI (m2 21 25)] _ _ _
  refine wq_iload (pc := 1773) dL_law_1773 rfl ?_
  refine wq_icmp_eq (pc := 1775) (tgt := 1780) dL_law_1775 (by decide) (by unfold inR; omega) (by unfold inR; omega) (fun c1 => ?_) (fun c1 => by exfalso; omega)
  refine wq_iload (pc := 1780) dL_law_1780 rfl ?_
  refine wq_if_ne (pc := 1782) (tgt := 1797) dL_law_1782 (by decide) (by unfold inR; omega) (fun c2 => ?_) (fun c2 => ?_)
  · refine wq_goto (pc := 1797) (tgt := 1800) dL_law_1797 (by decide) ?_
    refine wq_sub1 (L' := [(4, _), (3, _), (2, _), (1, _), (0, _)]) ⟨rfl, rfl, rfl, rfl, rfl, trivial⟩ ?_
    exact END _ _ _ (nLS_of hLS hL1 hC2 hF2 (fe_qb A _ _))
  · refine wq_aload_n (pc := 1785) dL_law_1785 rfl rfl ?_
    refine wq_iconst (pc := 1786) dL_law_1786 ?_
    refine wq_lald (pc := 1787) dL_law_1787 g5.1 (by omega) (by rw [g5.2]; omega) ?_
    have e56 : m2 56 0 = v := (hF2 56 0 (by omega)).trans (t3 (by omega)).1
    rw [e56]
    refine wq_iload (pc := 1788) dL_law_1788 rfl ?_
    refine wq_i2l (pc := 1790) dL_law_1790 (t3 (by omega)).2 ?_
    refine wq_lcmp (pc := 1791) dL_law_1791 (inL_R (t3 (by omega)).2) (inL_R (t3 (by omega)).2) ?_
    rw [nCmp_same]
    refine wq_if_eq (pc := 1792) (tgt := 1797) dL_law_1792 (by decide) (by unfold inR; omega) (fun _ => ?_) (fun c4 => absurd rfl c4)
    refine wq_goto (pc := 1797) (tgt := 1800) dL_law_1797 (by decide) ?_
    refine wq_sub1 (L' := [(4, _), (3, _), (2, _), (1, _), (0, _)]) ⟨rfl, rfl, rfl, rfl, rfl, trivial⟩ ?_
    exact END _ _ _ (nLS_of hLS hL1 hC2 hF2 (fe_qb A _ _))
