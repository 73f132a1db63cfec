/-! ===== the values, the memory and the world of this proof ===== -/
abbrev nV : Type := Int ⊕ (Int ⊕ Int)
abbrev vI (x : Int) : nV := .inl x
abbrev vJ (x : Int) : nV := .inr (.inl x)
abbrev vR (x : Int) : nV := .inr (.inr x)
abbrev nMem : Type := Int → Int → Int
abbrev nEnv : Type := (Int → Int → Int) × (Int → Nat) × (Int → Int) × Nat × Nat
def eFin (ε : nEnv) : Int → Int → Int := ε.1
def eKind (ε : nEnv) : Int → Nat := ε.2.1
def eLen (ε : nEnv) : Int → Int := ε.2.2.1
def eSz (ε : nEnv) : Nat := ε.2.2.2.1
def eSl (ε : nEnv) : Nat := ε.2.2.2.2
abbrev nG : Type := Nat × Nat × va_G × State × Array Value × Nat
def gB (G : nG) : Nat := G.1
def gb (G : nG) : Nat := G.2.1
def gD (G : nG) : va_G := G.2.2.1
def gS (G : nG) : State := G.2.2.2.1
def gA (G : nG) : Array Value := G.2.2.2.2.1
def gT (G : nG) : Nat := G.2.2.2.2.2
def nRf (G : nG) (x : Int) : Option Nat := if x = 0 then none else if x < 0 then some (gb G) else some (gB G + x.toNat)
def toV (G : nG) (v : nV) : Value := match v with
  | .inl x => .int (Int32.ofInt x)
  | .inr (.inl x) => .long (Int64.ofInt x)
  | .inr (.inr x) => va_rf (nRf G x)
def nCat (v : nV) : Nat := match v with
  | .inl _ => 1
  | .inr (.inl _) => 2
  | .inr (.inr _) => 1
def tyV (t : Nat) (x : Int) : nV := if t = 0 then vI x else if t = 1 then vJ x else vR x
def inR (x : Int) : Prop := -2147483648 ≤ x ∧ x ≤ 2147483647
def inL (x : Int) : Prop := -9223372036854775808 ≤ x ∧ x ≤ 9223372036854775807
def tot (H : Heap) : Nat := (H.toList.map (fun c => c.slots.size)).sum
def nCAP : Nat := 600086
def nSCAP : Nat := 7301442
/-- one place of memory anew -/
def wr (μ : nMem) (a k v : Int) : nMem := fun x j => if x = a ∧ j = k then v else μ x j
/-- the fields' types: 0 int or boolean, 1 long, 2 reference -/
def nTy (d : String) : Nat := if d = "J" then 1 else if d = "I" then 0 else if d = "Z" then 0 else 2
def cTab (ci : Nat) : vw_C := (vwCl[ci]?).getD (RX0, TX0, 7)
def fTy (ci k : Nat) : Nat := nTy ((cTab ci).2.1 k).2.2.1
def fFi (ci k : Nat) : Bool := ((cTab ci).2.1 k).2.2.2
def fval (μ : nMem) (ε : nEnv) (x : Int) (ci k : Nat) : nV := tyV (fTy ci k) (if fFi ci k = true then eFin ε x k else μ x k)
def aTy (kd : Nat) : Nat := if kd = 11 then 0 else if kd = 12 then 1 else if kd = 13 then 0 else 2
def aFT (kd : Nat) : FieldType := if kd = 11 then .int else if kd = 12 then .long else if kd = 13 then .boolean else if kd = 14 then .object RX1 else .object RX4
def nAd (G : nG) (x : Int) : Nat := gB G + x.toNat
def nObj (G : nG) (μ : nMem) (ε : nEnv) (x : Int) (H : Heap) (ci : Nat) : Prop :=
  ∃ r : vw_C, vwCl[ci]? = some r ∧ t_OB (nAd G x) ((gD G).1 ci) r.2.2 ((gD G).2 ci) H (fun k => toV G (fval μ ε x ci k))
def nArr (G : nG) (μ : nMem) (ε : nEnv) (x : Int) (H : Heap) (kd : Nat) : Prop :=
  (∃ cA : ClassId, H[nAd G x]? = some (arrV cA (eLen ε x).toNat (fun j => toV G (tyV (aTy kd) (μ x j)))) ∧ ArrOfT (gS G) cA (aFT kd) ∧ va_RA (gS G) cA (aFT kd)) ∧ 0 ≤ eLen ε x ∧ eLen ε x < 2147483648
def nAt (G : nG) (μ : nMem) (ε : nEnv) (x : Int) (H : Heap) : Prop :=
  (∀ ci, eKind ε x = ci + 1 → ci < 7 → nObj G μ ε x H ci) ∧ (∀ kd, eKind ε x = kd → 8 < kd → nArr G μ ε x H kd)
def Rep (G : nG) (μ : nMem) (ε : nEnv) (H : Heap) : Prop :=
  H.size = gB G + 1 + eSz ε ∧ tot H = gT G + eSl ε ∧ (∀ x, eKind ε x ≠ 0 → 1 ≤ x ∧ x ≤ eSz ε ∧ nAt G μ ε x H) ∧
  (∀ q : Nat, q ≤ gB G → H[q]? = (gS G).heap[q]?) ∧ (eSz ε ≤ nCAP ∧ eSl ε ≤ nSCAP) ∧
  (va_X (gb G) (eLen ε (-1)).toNat (fun j => Int32.ofInt (μ (-1) j)) (gS G) (gS G).heap ∧ gb G ≤ gB G ∧ 0 ≤ eLen ε (-1) ∧ eLen ε (-1) < 2147483648)
def wOK (w : Cond) : Prop := w ∈ lw_tbl ∧ goodWord w = true
def nNew (G : nG) : Nat → Prop := fun q => gB G < q
/-- the texts of the exceptions -/
def nStrs : List (String × Nat × String) := [(RX6, 108, "the directory has names in it"), (RX6, 133, "the offset is not 0 to 63"), (RX6, 136, "n is out of range"), (RX6, 155, "the length is not 0 to 64"), (RX6, 160, "the draw is not 0 to 127"), (RX6, 165, "no block is closed"), (RX6, 181, "the units are not 0 to 1000, nor NONE"), (RX6, 204, "the directory has not so many names"), (RX6, 273, "it is dark"), (RX6, 275, "there is nothing with this number"), (RX6, 277, "this number is that of a file"), (RX6, 279, "this number is that of a directory"), (RX6, 281, "nothing has this name"), (RX6, 283, "the name is not 1 to 99"), (RX6, 285, "the name is taken"), (RX6, 287, "both names are those of the same number"), (RX6, 289, "the new name is taken"), (RX6, 295, "a directory would come into itself, or below itself"), (RX6, 297, "the file has no such byte"), (RX6, 299, "there is no such block"), (RX6, 310, "there is no room"), (RX6, 315, "there is no room for the copies")]
def nXs : List String := ["java/lang/IndexOutOfBoundsException", "java/lang/IllegalArgumentException", "java/lang/IllegalStateException"]
def GOK (G : nG) : Prop := (gS G).heap.size = gB G + 1 ∧ tot (gS G).heap = gT G ∧ va_K (gD G) vwCl [] (gS G) ∧ (∀ w ∈ lw_tbl, w.before (gA G) (gS G) = true) ∧
  vx_Zq Bundle.tN "UNASSIGNED_STACK" Bundle.steD (nNew G) (gS G) (gS G).heap ∧ vx_Zq Bundle.tN "SUPPRESSED_SENTINEL" Bundle.listD (nNew G) (gS G) (gS G).heap ∧
  (∀ q ∈ nStrs, ∃ sa, vk_R q.1 q.2.1 q.2.2 sa (gS G)) ∧ (∀ A ∈ nXs, ∀ B ∈ nXs, A ≠ B → va_Nc A B (gS G))
abbrev nOut : Type := Option nV ⊕ String
/-- a method: its class, its bytes, its locals' number, what it returns, its room of frames and of words, its name -/
abbrev nM : Type := String × ByteArray × Nat × Option FieldType × Nat × Nat × MethodName
def mOwn (M : nM) : String := M.1
def mCode (M : nM) : ByteArray := M.2.1
def mMax (M : nM) : Nat := M.2.2.1
def mRet (M : nM) : Option FieldType := M.2.2.2.1
def mFr (M : nM) : Nat := M.2.2.2.2.1
def mLo (M : nM) : Nat := M.2.2.2.2.2.1
def mNm (M : nM) : MethodName := M.2.2.2.2.2.2
def nWorld (G : nG) (μ : nMem) (ε : nEnv) (U : State) : Prop := Rep G μ ε U.heap ∧ (gS G).WarmedH U.vm
def Qr (G : nG) (Q : nOut → nMem → nEnv → Prop) : Array Value → State → Outcome → State → Prop := fun _ _ o t => ∃ (r : Option nV) (μ : nMem) (ε : nEnv), o = .returned (r.map (toV G)) ∧ Q (.inl r) μ ε ∧ Rep G μ ε t.heap
def Qx (G : nG) (Q : nOut → nMem → nEnv → Prop) : String → State → State → Prop := fun E _ t => ∃ (μ : nMem) (ε : nEnv), Q (.inr E) μ ε ∧ Rep G μ ε t.heap
/-- what holds in a method's frame: the machine, the method, where it began -/
def nCx (G : nG) (M : nM) (z0 n0 : Nat) (p : Program) (l : Launch) (R : Room) (s : State) (m : MethodId) (meth : Method) (c : Code) : Prop :=
  p.tables.exec = Jvm.exec ∧ l.stackTraces = false ∧ c.code = mCode M ∧ c.maxLocals = mMax M ∧ meth.sig.returnType = mRet M ∧ meth.locks = false ∧ s.vm.findClass (mOwn M) = some m.cls ∧ ((mNm M).name = "<init>" → meth.name = "<init>") ∧
  (gS G).WarmedH s.vm ∧ R = { frames := mFr M, cells := nCAP - z0, slots := nSCAP - n0, locals := mLo M } ∧ s.heap.size = gB G + 1 + z0 ∧ tot s.heap = gT G + n0
def nLv (G : nG) (L : List (Nat × nV)) : List (Nat × Value) := L.map (fun q => (q.1, toV G q.2))
def wpF (M : nM) (pc : Nat) (L : List (Nat × nV)) (st : List nV) (μ : nMem) (ε : nEnv) (tb : List ExceptionTableEntry → Prop) (Fin : nG → Nat → Nat → List Frame → Array Value → State → State → Prop) : Prop :=
  ∀ (G : nG), GOK G → ∀ (z0 n0 : Nat) (p : Program) (l : Launch) (e : Env) (R : Room) (s : State) (m : MethodId) (args : Array Value) (below : List Frame) (meth : Method) (c : Code),
    nCx G M z0 n0 p l R s m meth c → tb c.exceptionTable.toList → ∀ (H : Heap) (locs : List Loc) (ls : Array Slot), Rep G μ ε H → lv_has ls (mMax M) (nLv G L) → va_S (nNew G) s.heap H locs → z0 ≤ eSz ε → n0 ≤ eSl ε →
    W p l e R s m args below meth c H locs (eSz ε - z0) (eSl ε - n0) (Fin G z0 n0 below args s) (F0 m pc ls (st.map (toV G)))
def nFin (Q : nOut → nMem → nEnv → Prop) : nG → Nat → Nat → List Frame → Array Value → State → State → Prop := fun G z0 n0 below args s => vx_MQ below (Qr G Q) (Qx G Q) args s (nCAP - z0) (nSCAP - n0) (nNew G)
/-- the machine, at this place of the method, comes to an end that Q allows -/
abbrev wp (M : nM) (pc : Nat) (L : List (Nat × nV)) (st : List nV) (μ : nMem) (ε : nEnv) (Q : nOut → nMem → nEnv → Prop) : Prop :=
  wpF M pc L st μ ε (fun tb => ∀ x ∈ tb, False) (nFin Q)
def nRm (M : nM) (ε : nEnv) : Room := { frames := mFr M, cells := nCAP - eSz ε, slots := nSCAP - eSl ε, locals := mLo M }
def nWs (M : nM) : List Cond := [.code (mNm M) (mCode M) (mMax M) (mRet M)]
/-- a call of the method ends as Q allows -/
def Sp (M : nM) (as : List nV) (μ : nMem) (ε : nEnv) (Q : nOut → nMem → nEnv → Prop) : Prop :=
  ∀ (G : nG), GOK G → ∀ (l : Launch), l.stackTraces = false → vx_Met l (mNm M) (nWs M) (nRm M ε) (va_Pc (as.map (toV G)) (nWorld G μ ε)) (Qr G Q) (Qx G Q) (nCAP - eSz ε) (nSCAP - eSl ε) (nNew G)
/-- what comes behind a call -/
def kont (M : nM) (pc : Nat) (L : List (Nat × nV)) (st : List nV) (Q : nOut → nMem → nEnv → Prop) : nOut → nMem → nEnv → Prop := fun o μ ε => match o with
  | .inl (some r) => wp M pc L (r :: st) μ ε Q
  | .inl none => wp M pc L st μ ε Q
  | .inr E => Q (.inr E) μ ε
