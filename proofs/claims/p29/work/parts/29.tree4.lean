/-- an item's array made -/
def eItm (ε : nEnv) (a : Int) : nEnv := wrF (alF ε 11 100 100) a 0 ((eSz ε : Int) + 1)
theorem sp_X1_init {μ : nMem} {ε : nEnv} {Q : nOut → nMem → nEnv → Prop} {a : Int} (ha : 1 ≤ a) (hk : eKind ε a = 2) (hroom : eSz ε + 1 ≤ 600086 ∧ eSl ε + 100 ≤ 7301442) (h : Q (.inl none) (zr μ ((eSz ε : Int) + 1)) (eItm ε a))  : Sp mX1_init [vR a] μ ε Q := by
  refine Sp_of (L := [(0, vR a)]) (by decide) rfl rfl (Nat.le_of_ble_eq_true rfl) ?_
  refine wq_env (fun hok => ?_)
  have hka : eKind (alF ε 11 100 100) a = 2 := ((al_ext hok 11 100 100) a (by rw [hk]; decide)).1.trans hk
  refine wq_aload_n (pc := 0) dX1_init_0 rfl rfl ?_
  refine wq_oinit (pc := 1) dX1_init_1 (by omega) (co_X1_3 mX1_init rfl).1 (co_X1_3 mX1_init rfl).2.1 (co_X1_3 mX1_init rfl).2.2 (by decide) (by decide) (Nat.le_of_ble_eq_true rfl) ?_
  refine wq_aload_n (pc := 4) dX1_init_4 rfl rfl ?_
  refine wq_bipush (pc := 5) dX1_init_5 (by decide) (by decide) ?_
  refine wq_newI (pc := 7) dX1_init_7 ka_int (by omega) (by omega) (by show eSz ε + 1 ≤ 600086 ∧ eSl ε + 100 ≤ 7301442; omega) ?_
  show wp mX1_init 9 _ _ (zr μ ((eSz ε : Int) + 1)) (alF ε 11 100 100) Q
  refine wq_putF (pc := 9) (ci := 1) (k := 0) dX1_init_9 (by with_reducible assumption) (by decide) (by decide) (wOK_1 229 (by decide +kernel) (by decide +kernel)) rfl rfl rfl rfl (fun _ => ⟨by first | rfl | exact (putOK_O _ _ _).1 | exact (putOK_A _ _ _).1, by first | rfl | exact (putOK_O _ _ _).2 | exact (putOK_A _ _ _).2⟩) ?_
  refine wq_vret (pc := 12) dX1_init_12 rfl ?_
  first | exact h | exact h rfl | exact h (by omega) | exact h1 (by omega) | exact h2 (by omega) | exact h3 (by omega) | exact h4 (by omega)
