theorem vx_ofWF {l : Launch} {y : MethodName} {ws ws' : List Cond} {rm : Room} {Pc : Array Value → State → Prop} {Qc : Array Value → State → Outcome → State → Prop} {XC : String → State → State → Prop} {mc ms : Nat} {free : Addr → Prop} {cc : ByteArray} {maxL : Nat} {ret : Option FieldType}
    (hy : plainFor y = true) (hw : ws = Cond.code y cc maxL ret :: ws')
    (body : ∀ p e s m args below meth c s₁, BodyLoose p l y (headSpec ws rm) cc maxL ret e s m args below meth c s₁ → c.maxLocals = maxL → (∀ x ∈ c.exceptionTable.toList, False) → Pc args s →
      W p l e (headSpec ws rm).room s m args below meth c s.heap [] 0 0 (vx_MQ below Qc XC args s mc ms free) (entryFrame m args maxL)) : vx_Met l y ws rm Pc Qc XC mc ms free := by
  refine MetFree.of_bodySF (code := cc) (maxLocals := maxL) (ret := ret) hy ?_ ?_
  · intro args s m h hn
    obtain ⟨meth, c, h1, h2, h3, h4, h5, h6, -, -⟩ := Cond.code_spec hn (atoms_spec (ws := ws) h _ (by rw [hw]; exact List.mem_cons_self))
    exact ⟨meth, c, h1, h2, h3, h4, h5, h6⟩
  · intro p e s m args below meth c s₁ B hml hP _
    have hh0 : s₁.heap = s.heap := by rw [B.state]; rfl
    have ht : ∀ x ∈ c.exceptionTable.toList, False := by
      obtain ⟨meth9, c9, h1, h2, -, -, -, -, h7, -⟩ := Cond.code_spec B.named (atoms_spec (ws := ws) B.pre _ (by rw [hw]; exact List.mem_cons_self))
      cases Option.some.inj (h1.symm.trans B.method)
      cases Option.some.inj (h2.symm.trans (Stand.of_body B).code)
      intro x hx
      rw [Array.isEmpty_iff.mp h7] at hx
      cases hx
    obtain ⟨t, a1, o, b1, b2, b3⟩ := body p e s m args below meth c s₁ B hml ht hP s₁ hh0 (Stand.of_body B)
    exact ⟨t, o, a1, b1, b2, b3⟩
theorem Sp_ofF {M : nM} {as : List nV} {L : List (Nat × nV)} {μ : nMem} {ε : nEnv} {Q : nOut → nMem → nEnv → Prop} (hp : plainFor (mNm M) = true) (hc : (mNm M).cls = mOwn M) (hL : nArgs 0 as = L) (hn : (as.map nCat).sum ≤ mMax M) (h : wp M 0 L [] μ ε Q) : Sp M as μ ε Q := by
  subst hL
  intro G hG l hst
  refine vx_ofWF (cc := mCode M) (maxL := mMax M) (ret := mRet M) hp rfl ?_
  intro p e s m args below meth c s₁ B hml hno hv
  obtain ⟨rfl, hR, hW⟩ := hv
  have hl := lv_entry (as.map (toV G)) (n := mMax M) (by rw [nSl_len]; exact hn)
  rw [lg_entry_eq]
  generalize (lg_sl (as.map (toV G)) ++ List.replicate (mMax M - (lg_sl (as.map (toV G))).length) Slot.unset).toArray = ls at hl ⊢
  rw [nArgs_v] at hl
  have hown : s.vm.findClass (mNm M).cls = some m.cls := findClass_of_methodNamed B.named
  have h9 := h G hG (eSz ε) (eSl ε) p l e (headSpec (nWs M) (nRm M ε)).room s m (as.map (toV G)).toArray below meth c
    ⟨B.exec, hst, B.bytes, hml, B.returns, B.notSynchronized, by rw [← hc]; exact hown, fun h8 => (name_of_methodNamed B.named B.method).1.trans h8, hW, rfl, hR.1, hR.2.1⟩ hno s.heap [] ls hR hl va_S.rf (Nat.le_refl _) (Nat.le_refl _)
  rw [Nat.sub_self, Nat.sub_self] at h9
  exact h9
