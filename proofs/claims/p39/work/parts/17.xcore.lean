/-! an exception whose constructor names the one above at another place of its pool (NoSuchElementException(String) of JDK 17: 13): the walk follows the library's law of 'throw new E(text)' (JvmDerived/BundleOwnThrow.lean), with its own first link; less is said of the object -/
section NX
variable {p : Program} {l : Launch} {e : Env} {R : Room} {s : State} {m₀ : MethodId} {args : Array Value} {below : List Frame} {meth : Method} {c : Code} {W : State} {locs : List Loc} {cells slots : Nat}
def nxTail (own : String) (ic : Nat) (X : String) : List Cond := [.methodLink own ic (Bundle.initS X), .instantiable X 6, .castable X X, .selects X Bundle.tFill0 Bundle.tFill0, .selects X Bundle.tFill Bundle.tFill, .lays X Bundle.tN "cause" "Ljava/lang/Throwable;", .lays X Bundle.tN "stackTrace" Bundle.steD, .lays X Bundle.tN "suppressedExceptions" Bundle.listD, .lays X Bundle.tN "detailMessage" "Ljava/lang/String;", .isRef (.static Bundle.tN "UNASSIGNED_STACK" Bundle.steD), .isRef (.static Bundle.tN "SUPPRESSED_SENTINEL" Bundle.listD), .fieldLink Bundle.tN 198 Bundle.tN "backtrace" "Ljava/lang/Object;", .lays Bundle.tN Bundle.tN "backtrace" "Ljava/lang/Object;", .lays X Bundle.tN "backtrace" "Ljava/lang/Object;"]
def nxAtoms (own : String) (ic : Nat) (X : String) (ix : Nat) (rx : ByteArray) (Y : String) (r : List String) : List Cond := Bundle.throwableAtoms ++ (Bundle.throwableSAtoms ++ ((Bundle.passSAtoms X Y ix rx ++ Bundle.chainSAtoms Y r) ++ nxTail own ic X))
set_option maxHeartbeats 2000000 in
theorem nx_ctor (X : Stand p l e R s m₀ args below meth c W locs cells slots) (hexec : p.tables.exec = Jvm.exec) (htr : e.platform.stackTraces = false) {own cls Y : String} {r : List String} {ic ix : Nat} {rx : ByteArray}
    (x0 : decode rx 0 = .ok (.aload_n 0, 1)) (x1 : decode rx 1 = .ok (.aload_n 1, 1)) (x2 : decode rx 2 = .ok (.invokespecial ix, 3)) (x5 : decode rx 5 = .ok (.return_, 1))
    (hown : s.vm.findClass own = some m₀.cls) (hcls : Bundle.fit cls = true) (hY : Bundle.fit Y = true) (hnames : ∀ n ∈ r, Bundle.fit n = true)
    (h : ∀ a ∈ nxAtoms own ic cls ix rx Y r, a.before args s = true)
    (hlocs : ∀ x ∈ locs, ∀ cell, s.heap[x.base]? = some cell → cell.vm.isStatics = false)
    {a : Addr} {cX : ClassId} {kX : Class} (hfoundX : s.vm.findClass cls = some cX) (hkX : s.vm.classes[cX]? = some kX) (hcell : W.heap[a]? = some (freshCell cX kX)) (hnew : s.heap.size ≤ a)
    {msg : Value} (hmsg : msg.isRef = true)
    {g : JFrame} (hg : g.method = m₀) (hsize : g.locals.size = c.maxLocals) (hlocked : g.locked = none) (hentered : g.entered = []) {rest : List Value} (hstack : g.stack = msg :: .ref a :: .ref a :: rest)
    (hd6 : decode c.code g.pc = .ok (.invokespecial ic, 3)) (hd9 : decode c.code (g.pc + 3) = .ok (.athrow, 1)) (hout : ∀ x ∈ c.exceptionTable.toList, covers x (g.pc + 3) = false)
    (hRframes : r.length + 4 < R.frames) (hRlocals : 2 * g.monitorRoom + ((Value.ref a :: rest).map fun v => v.category).sum + (13 * (r.length + 2) + 42) ≤ R.locals) (hlocks : meth.locks = false) :
    ∃ U : State, Steps p.tables e below (W.setTop g) U ∧ U.status = .running ∧ Ended U below (.threw a) ∧ s.WarmedH U.vm ∧ s.sameButNew ({ U with vm := s.vm } : State) locs cells slots ∧
      ∃ ce, U.heap[a]? = some ce ∧ ce.vm = .none ∧ s.vm.findClass cls = some ce.cls := by
  have howns : e.platform.frameOwnsMonitors = true := by rw [X.admits.platform]
  have hfin : e.platform.finalization = false := by rw [X.admits.platform]
  have hpl : e.platform.magicAccessors = ({} : Platform).magicAccessors := by rw [X.admits.platform]
  have hT : ∀ x ∈ nxTail own ic cls, x.before args s = true := fun x hx => h x (List.mem_append_right _ (List.mem_append_right _ (List.mem_append_right _ hx)))
  have a' : ∀ x, x ∈ nxTail own ic cls → x.holds args s none s [] = true := fun x hx => hT x hx
  obtain ⟨T, Z0, L, -, Y0⟩ := ThrowableC.of_atoms (args := args) howns hfin hpl (fun x hx => h x (List.mem_append_left _ hx))
  obtain ⟨Z, M, LZ, LM, hnZ⟩ := Init0T.ofS_atoms (args := args) hpl L Y0 (fun x hx => h x (List.mem_append_right _ (List.mem_append_left _ hx)))
  have hC : ∀ x ∈ Bundle.passSAtoms cls Y ix rx ++ Bundle.chainSAtoms Y r, x.before args s = true := fun x hx => h x (List.mem_append_right _ (List.mem_append_right _ (List.mem_append_left _ hx)))
  obtain ⟨P1, L1, hP1m, hs1⟩ := PassC.ofS_atoms (args := args) (s := s) hpl (X := cls) (Y := Y) (Bundle.fit_spec hcls).1 (Bundle.fit_spec hY).2 x0 x1 x2 x5 (fun x hx => hC x (List.mem_append_left _ hx))
  obtain ⟨P2, Ps, hlen, L2, hL, hm2, hlink2, hpass⟩ := Bundle.chainS (args := args) hpl hnZ r Y hY hnames (fun x hx => hC x (List.mem_append_right _ hx))
  have hlink1 : P1.sup = P2.m := Option.some.inj (hs1.symm.trans hm2)
  have hfound : s.vm.findClass cls = some P1.m.cls := findClass_of_methodNamed hP1m
  cases Option.some.inj (hfoundX.symm.trans hfound)
  obtain ⟨c1, kX', hc1, hk, hord, -, -, hn6⟩ := Cond.instantiable_spec (a' (.instantiable cls 6) (by simp [nxTail]))
  cases Option.some.inj (hc1.symm.trans hfound)
  cases Option.some.inj (hkX.symm.trans hk)
  have hsel0 : selectMethod e.platform s.vm P1.m.cls T.fill0 = .method T.fill0 := by
    obtain ⟨c2, r2, m2, q1, q2, q3, q4, -⟩ := Cond.selects_spec (a' (.selects cls Bundle.tFill0 Bundle.tFill0) (by simp [nxTail]))
    cases Option.some.inj (q1.symm.trans hfound)
    cases Option.some.inj (q2.symm.trans (State.methodFound?_of_named Y0.fill0 (by decide)))
    cases Option.some.inj (q3.symm.trans Y0.fill0)
    rw [Launch.admits_selectMethod X.admits]; exact q4
  have hselF : selectMethod e.platform s.vm P1.m.cls T.fill = .method T.fill := by
    obtain ⟨c2, r2, m2, q1, q2, q3, q4, -⟩ := Cond.selects_spec (a' (.selects cls Bundle.tFill Bundle.tFill) (by simp [nxTail]))
    cases Option.some.inj (q1.symm.trans hfound)
    cases Option.some.inj (q2.symm.trans (State.methodFound?_of_named Y0.fill (by decide)))
    cases Option.some.inj (q3.symm.trans Y0.fill)
    rw [Launch.admits_selectMethod X.admits]; exact q4
  obtain ⟨cellS0, hcS0, hiss⟩ := Y0.statics
  obtain ⟨u0, hu0⟩ := Cond.staticRefV Y0.unassigned L.unassignedStatic L.statics hcS0 hiss (a' (.isRef (.static Bundle.tN "UNASSIGNED_STACK" Bundle.steD)) (by simp [nxTail]))
  obtain ⟨sen, hsen⟩ := Cond.staticRefV Y0.sentinel L.sentinelStatic L.statics hcS0 hiss (a' (.isRef (.static Bundle.tN "SUPPRESSED_SENTINEL" Bundle.listD)) (by simp [nxTail]))
  obtain ⟨ci198, i198, fB, hk198, hg198, ha198, hsB, -, hnB, htB, hffB⟩ := Cond.ownField (t := .object "java/lang/Object") Y0.found L.cls (by decide +kernel) (a' (.fieldLink Bundle.tN 198 Bundle.tN "backtrace" "Ljava/lang/Object;") (by simp [nxTail])) (a' (.lays Bundle.tN Bundle.tN "backtrace" "Ljava/lang/Object;") (by simp [nxTail])) e.platform hpl
  obtain ⟨cellS, hcS', heS, -, hkeep⟩ := X.same.2.2.2.2.2 T.aS cellS0 hcS0
  have hcellS : W.heap[T.aS]? = some cellS := hcS'
  have hout' : ∀ i, (⟨T.aS, i⟩ : Loc) ∉ locs := fun i hmem => by
    have := hlocs _ hmem cellS0 hcS0
    rw [hiss] at this; cases this
  have hknownS : cellS.vm ≠ .unknown := by
    rw [heS]; intro hu
    rw [show cellS0.vm = .unknown from hu] at hiss
    cases hiss
  have hneS : T.aS ≠ a := Nat.ne_of_lt (Nat.lt_of_lt_of_le (Array.getElem?_eq_some_iff.mp hcS0).1 hnew)
  obtain ⟨iM, hffM⟩ := Y0.msg
  obtain ⟨tyC, dC, hdC, hdnC⟩ := Cond.laysAt hfound hk Y0.cause (a' (.lays cls Bundle.tN "cause" "Ljava/lang/Throwable;") (by simp [nxTail]))
  obtain ⟨tyS, dS, hdS, hdnS⟩ := Cond.laysAt hfound hk Y0.stack (a' (.lays cls Bundle.tN "stackTrace" Bundle.steD) (by simp [nxTail]))
  obtain ⟨tyP, dP, hdP, hdnP⟩ := Cond.laysAt hfound hk Y0.supp (a' (.lays cls Bundle.tN "suppressedExceptions" Bundle.listD) (by simp [nxTail]))
  obtain ⟨tyM, dM, hdM, hdnM⟩ := Cond.laysAt hfound hk hffM (a' (.lays cls Bundle.tN "detailMessage" "Ljava/lang/String;") (by simp [nxTail]))
  obtain ⟨tyB, dB, hdB, hdnB⟩ := Cond.laysAt hfound hk hffB (a' (.lays cls Bundle.tN "backtrace" "Ljava/lang/Object;") (by simp [nxTail]))
  have bC := Cond.laysApart hdB hdC hdnB hdnC (by rw [hnB, Y0.causeName]; decide)
  have bS := Cond.laysApart hdB hdS hdnB hdnS (by rw [hnB, Y0.stackName]; decide)
  have bP := Cond.laysApart hdB hdP hdnB hdnP (by rw [hnB, Y0.suppName]; decide)
  have hskip : SkipFacts T e.platform s (fun u => u) u0 ((preparedCellV T.toThrowableT (freshCell P1.m.cls kX) a u0 sen).withEntry W.cur) :=
    ⟨{ ci198 := ci198, i198 := i198, fBack := fB }, ⟨hk198, hg198, ha198, hsB⟩, by
      have := fresh_default (c := P1.m.cls) tyB
      rw [htB] at this
      simpa [preparedCellV, Cell.setSlot, Cell.withEntry, Array.getElem?_setIfInBounds, bC, bS, bP, bC.symm, bS.symm, bP.symm, defaultValue] using this, fun _ _ => rfl⟩
  obtain ⟨tm, methC, cdC, kC, vm₁, hnC, -, -, -, -, -, -, -, hW₁, st1⟩ := Steps.initColdS (tb := p.tables) (e := e) (below := below) (s := s) (U := W) X.here hexec X.warmed hpl hown (t := Bundle.initS cls) rfl rfl (Bundle.fit_spec hcls).2
    (a' (.methodLink own ic (Bundle.initS cls)) (by simp [nxTail])) (hC (.instanceMethod (Bundle.initS cls)) (by simp [Bundle.passSAtoms])) (bytes := rx) (maxL := 2) (hC (.code (Bundle.initS cls) rx 2 none) (by simp [Bundle.passSAtoms]))
    (f := g) hg (a := a) (msg := msg) (rest := .ref a :: rest) hstack hd6
  cases Option.some.inj (hnC.symm.trans hP1m)
  have X₁ := X.noted hW₁
  obtain ⟨vm₂, X₂, st2⟩ := X₁.ctorMessageOffV hexec (g := { g with stack := .ref a :: rest }) hg hsize T L Z LZ M LM (P1 :: P2 :: Ps)
    (fun P hP => by rcases List.mem_cons.mp hP with rfl | hP; exact L1; rcases List.mem_cons.mp hP with rfl | hP; exact L2; exact hL P hP) ⟨hlink1, hlink2, hpass⟩ (u0 := u0) (sen := sen) (self := a) hmsg (cell := freshCell P1.m.cls kX) (cellS := cellS)
    hcell (fun _ => by simp) (by simp) rfl rfl hsel0 hselF hcellS hneS hknownS (by rw [hkeep _ (hout' _)]; exact hu0) (by rw [hkeep _ (hout' _)]; exact hsen)
    (Takes.of_laid hk hord tyC (by rw [Y0.causeType]; rfl)) (Takes.of_laid hk hord tyS (by rw [Y0.stackType]; exact fits_refV_array _ u0)) (Takes.of_laid hk hord tyP (by rw [Y0.suppType]; exact fits_refV_object _ sen))
    (Takes.of_laid hk hord tyM (by rw [Y0.msgType]; exact fits_refV_object _ ⟨msg, hmsg⟩)) Y0.objLocals hskip htr [] hd6
    (by simp only [List.length_cons, hlen]; omega) (by simp only [List.length_cons, hlen]; exact hRlocals)
  obtain ⟨hwalk, hrun, hended, hWU, hsame⟩ := X₂.athrowLeaves hexec (g := { g with stack := .ref a :: rest, pc := g.pc + 3 }) hg hlocked hentered hout (a := a) (rest := rest) rfl hd9
  have hlt : a < ((W.setVm vm₁).setVm vm₂).heap.size := (Array.getElem?_eq_some_iff.mp hcell).1
  have hU := heapAt_setCell_self (s := (W.setVm vm₁).setVm vm₂) (plainBareV T.toThrowableT (freshCell P1.m.cls kX) a u0 sen msg) hlt
  refine ⟨_, st1 _ (fun acts => ?_), hrun, hended, hWU, hsame.weaken (fun y hy hlt' => ?_) (Nat.le_refl _) (Nat.le_refl _), _, hU, rfl, hfound⟩
  · rw [doInvoke_state]
    exact st2 _ hwalk
  · rcases List.mem_append.mp hy with h1 | h1
    · exact h1
    · exfalso
      have hb : y.base = a := by
        simp only [List.mem_cons, List.not_mem_nil, or_false] at h1
        rcases h1 with rfl | rfl | rfl | rfl | rfl <;> rfl
      rw [hb] at hlt'
      exact Nat.not_lt.mpr hnew hlt'
def nxAtS (own : String) (ic : Nat) (X : String) (ix : Nat) (rx : ByteArray) (Y : String) (r : List String) : List Cond := (nxAtoms own ic X ix rx Y r).filter vx_no
end NX
/-! methods that throw: the pure answer is (kind, answer, memory); kind 0: it returns -/
abbrev kXr : Type := Nat × Int32 × kMem
def kE (n : Nat) : String := match n with
  | 1 => "java/lang/IllegalStateException"
  | 2 => "java/lang/IllegalArgumentException"
  | 3 => "java/lang/IndexOutOfBoundsException"
  | 4 => "java/lang/UnsupportedOperationException"
  | 5 => "java/util/NoSuchElementException"
  | _ => "java/lang/ArithmeticException"
def kNm : List String := ["java/lang/RuntimeException", "java/lang/Exception"]
def kTX : List (Nat × String) := [(67, "the text buffer is full"), (106, "the text is no family"), (114, "the text is no program"), (131, "a command is refused, for the reason that is kept"), (182, "there is no such colour"), (193, "the number of shots is out of range"), (201, "no family is mounted"), (228, "there is no such place"), (235, "there is no such family"), (246, "there is no such number of a family"), (251, "there is no such family or part"), (256, "there is no such part"), (261, "there is no such dryer"), (278, "there is no such number of a dryer"), (280, "there is no such part or colour"), (297, "there is no such number of a stock"), (314, "there is no such number of pieces"), (335, "there is no such number of an order"), (343, "the family that is mounted cannot make this order"), (348, "the week is negative"), (353, "the depth is negative"), (356, "there is no reason so far behind"), (370, "no pieces were made"), (376, "no order is delivered"), (411, "there is no such account"), (413, "there is nothing to undo"), (425, "there is no snapshot"), (430, "refused, for the reason that is kept"), (441, "this is no set of colours"), (446, "there is no such order")]
def kXN : List Cond := [.castable (kE 1) (kE 1), .castable (kE 2) (kE 2), .castable (kE 3) (kE 3), .castable (kE 4) (kE 4), .castable (kE 5) (kE 5), .castable (kE 6) (kE 6), .declares (Bundle.initS "java/lang/RuntimeException"), .declares (Bundle.initS "java/lang/Exception"), .declares (Bundle.initS Bundle.tN)]
theorem kXN_moved {s U : State} (hW : s.WarmedH U.vm) (h : ∀ z ∈ kXN, va_Nw z s) : ∀ z ∈ kXN, va_Nw z U := by
  intro z hz
  have h1 := h z hz
  simp only [kXN, List.mem_cons, List.not_mem_nil, or_false] at hz
  rcases hz with rfl | rfl | rfl | rfl | rfl | rfl | rfl | rfl | rfl
  all_goals first | exact va_Nw.warmC hW h1 | exact va_Nw.warmD hW h1
theorem kXN_ot {z : Cond} (hz : z ∈ kXN) : vx_ot z = true := by
  simp only [kXN, List.mem_cons, List.not_mem_nil, or_false] at hz
  rcases hz with rfl | rfl | rfl | rfl | rfl | rfl | rfl | rfl | rfl <;> rfl
theorem kXN_same {s U : State} (hW : s.vm = U.vm) (h : ∀ z ∈ kXN, va_Nw z s) : ∀ z ∈ kXN, va_Nw z U := fun z hz => va_Nw.same (List.all_eq_true.mp (show kXN.all (fun z => z.onTables) = true by decide +kernel) z hz) hW (h z hz)
def kXP (w : KW) (sz : Nat) (U : State) (H : Heap) : Prop := vx_Zq Bundle.tN "UNASSIGNED_STACK" Bundle.steD (kA w sz) U H ∧ vx_Zq Bundle.tN "SUPPRESSED_SENTINEL" Bundle.listD (kA w sz) U H ∧ (∀ q ∈ kTX, ∃ sa, vk_R RX11 q.1 q.2 sa U) ∧ ∀ z ∈ kXN, va_Nw z U
theorem kXP_to {w : KW} {sz sz' : Nat} {s U : State} {H H1 : Heap} (hsz : sz ≤ sz') (hW : s.WarmedH U.vm) (hq : ∀ a : Nat, a < H.size → ¬ kA w sz a → H1[a]? = H[a]?) (h : kXP w sz s H) : kXP w sz' U H1 :=
  ⟨((vx_Zq.moved hW.alike h.1).kept hq).narrow (fun q hq => kA_mono hsz hq), ((vx_Zq.moved hW.alike h.2.1).kept hq).narrow (fun q hq => kA_mono hsz hq), fun q hq => (h.2.2.1 q hq).elim fun sa ha => ⟨sa, vk_R.warm hW ha⟩, kXN_moved hW h.2.2.2⟩
def kxQ (w : KW) (ret : Option FieldType) (z : kXr) (sz : Nat) : Array Value → State → Outcome → State → Prop := fun _ st oc t => z.1 = 0 ∧ oc = .returned (krv ret z.2.1) ∧ va_P w.1.1 vwCl (kw w z.2.2) t.heap ∧ va_F (kA w sz) st t
def kxC (w : KW) (z : kXr) (sz : Nat) : String → State → State → Prop := fun E st t => z.1 ≠ 0 ∧ E = kE z.1 ∧ va_P w.1.1 vwCl (kw w z.2.2) t.heap ∧ va_F (kA w sz) st t
def kBx (w : KW) (f : kMem) (U : State) : Prop := kB w f U ∧ kXP w U.heap.size U U.heap
def kxMet (l : Launch) (w : KW) (y : MethodName) (b : ByteArray) (nL : Nat) (ret : Option FieldType) (d mc ms : Nat) (av : List Value) (f : kMem) (z : kXr) : Prop :=
  ∀ sz, vx_Met l y (.code y b nL ret :: kGT) (kRm d mc ms) (va_Pc av (fun U => U.heap.size = sz ∧ kBx w f U)) (kxQ w ret z sz) (kxC w z sz) mc ms (kA w sz)
def KCX (p : Program) (l : Launch) (e : Env) (R : Room) (s : State) (m : MethodId) (args : Array Value) (below : List Frame) (meth : Method) (c : Code) (w : KW) (own : String) (cc : ByteArray) (nL : Nat) (ret : Option FieldType) (d mc ms : Nat) : Prop :=
  KC p l e R s m args below meth c w own cc nL ret d mc ms ∧ kXP w s.heap.size s s.heap ∧ l.stackTraces = false ∧ (∀ x ∈ c.exceptionTable.toList, False)
def kxQF (below : List Frame) (w : KW) (ret : Option FieldType) (args : Array Value) (s : State) (mc ms : Nat) (z : kXr) : State → Prop := vx_MQ below (kxQ w ret z s.heap.size) (kxC w z s.heap.size) args s mc ms (kA w s.heap.size)
theorem kxMet_of {l : Launch} {w : KW} {y : MethodName} {b : ByteArray} {nL : Nat} {ret : Option FieldType} {d mc ms : Nat} {av : List Value} {lv : List (Nat × Value)} {f : kMem} {z : kXr} {X : Option kXr} {own : String} (hst : l.stackTraces = false)
    (hy : plainName y.cls = true) (how : y.cls = own) (hn : (lg_sl av).length ≤ nL) (hlv : lv_args 0 av = lv) (hX : X = some z)
    (body : ∀ (p : Program) (e : Env) (R : Room) (s : State) (m : MethodId) (args : Array Value) (below : List Frame) (meth : Method) (c : Code), KCX p l e R s m args below meth c w own b nL ret d mc ms → K p l e R s m args below meth c w nL (kxQF below w ret args s mc ms z) z 0 0 f 0 lv [] X) : kxMet l w y b nL ret d mc ms av f z := by
  intro sz
  refine vx_ofW (cc := b) (maxL := nL) (ret := ret) hy rfl ?_
  intro p e s m args below meth c s₁ B hml ht hv
  obtain ⟨rfl, hsz, ⟨hP, hK, hD0, hN, hST⟩, hXP⟩ := hv
  have hts := atoms_spec (ws := .code y b nL ret :: kGT) B.pre
  have hown : s.vm.findClass y.cls = some m.cls := findClass_of_methodNamed B.named
  subst hsz
  subst how
  have hl := lv_entry av (n := nL) hn
  rw [lg_entry_eq]
  rw [hlv] at hl
  exact body p e _ s m _ below meth c ⟨⟨⟨B.exec, B.bytes, hml, hown, fun w hw => hts w (List.mem_cons_of_mem _ hw)⟩, hK, hN, hST, kw_DA hD0, B.returns, B.notSynchronized, rfl⟩, hXP, hst, ht⟩ hX s.heap [] _ hP va_S.rf hl
theorem kxblind {w : KW} {f : kMem} {av : List Value} {sz : Nat} : FrameBlind (va_Pc av (fun U => U.heap.size = sz ∧ kBx w f U)) := fun a U g mk q => by
  obtain ⟨q0, q1, ⟨qP, qK, qD, qN, qS⟩, qX⟩ := q
  exact ⟨q0, q1, ⟨qP, va_K.moved (u := U) (U := U.calling g mk a) (Vm.Alike.refl U.vm) qK, qD, kNW_same (s := U) (U := U.calling g mk a) rfl qN, kS_to (s := U) (U := U.calling g mk a) (Nat.le_refl _) (Vm.Alike.refl U.vm) (fun _ _ _ => rfl) qS⟩, vx_Zq.moved (u := U) (U := U.calling g mk a) (Vm.Alike.refl U.vm) qX.1, vx_Zq.moved (u := U) (U := U.calling g mk a) (Vm.Alike.refl U.vm) qX.2.1, fun q hq => (qX.2.2.1 q hq).elim fun sa ha => ⟨sa, vk_R.same (u := U) (U := U.calling g mk a) rfl ha⟩, kXN_same (s := U) (U := U.calling g mk a) rfl qX.2.2.2⟩
/-- kinds of exceptions, as MouldFloor's pool names them -/
def kXok (kind ik ic : Nat) : Prop := kind ≠ 0 ∧ Bundle.fit (kE kind) = true ∧ Cond.classLink RX11 ik (kE kind) ∈ kGT ∧ Cond.initialized (kE kind) ∈ kGT ∧ (∀ w ∈ vx_atS RX11 ic (kE kind) kNm, w ∈ kGT ∨ w ∈ kXN)
theorem kXin {ws : List Cond} (is : List Nat) (h : ws = is.filterMap (fun i => lw_tbl[i]?)) (hg : ws.all (fun z => goodWord z || decide (z ∈ kXN)) = true) : ∀ w ∈ ws, w ∈ kGT ∨ w ∈ kXN := by
  intro w hw
  have h1 := List.all_eq_true.mp hg w hw
  rw [h] at hw
  obtain ⟨i, -, hi⟩ := List.mem_filterMap.mp hw
  simp only [Bool.or_eq_true, decide_eq_true_eq] at h1
  rcases h1 with h1 | h1
  · exact Or.inl (kgt (List.mem_of_getElem? hi) h1)
  · exact Or.inr h1
theorem kxw {w : Cond} {args : Array Value} {s : State} (h1 : ∀ z ∈ kGT, z.before args s = true) (h2 : ∀ z ∈ kXN, va_Nw z s) (h : w ∈ kGT ∨ w ∈ kXN) : w.before args s = true := h.elim (h1 w) (fun hz => va_Nw.use (List.all_eq_true.mp (show kXN.all (fun z => z.onTables) = true by decide +kernel) w hz) (h2 w hz))
theorem kgt_ot {w : Cond} (h : w ∈ kGT) : vx_ot w = true := by
  have := (List.mem_filter.mp h).2
  simp [vx_ot, this]
def rx5 : ByteArray := ⟨#[0x2a, 0x2b, 0xb7, 0x00, 0x0d, 0xb1]⟩
set_option maxRecDepth 20000 in
theorem kXok_1 : kXok 1 65 69 := ⟨by decide, by decide +kernel, kgt (List.mem_of_getElem? (i := 453) (by decide +kernel)) rfl, kgt (List.mem_of_getElem? (i := 36) (by decide +kernel)) rfl, kXin [33, 475, 484, 492, 495, 497, 476, 477, 63, 64, 478, 483, 493, 513, 465, 514, 467, 515, 469, 479, 481, 471, 509, 510, 512, 471, 500, 501, 502, 503, 457, 503, 504, 505, 506, 459, 506, 507, 508, 509, 461, 499, 454, 455, 462, 463, 464, 466, 468, 470, 474, 473, 472] (by decide +kernel) (by decide +kernel)⟩
set_option maxRecDepth 20000 in
theorem kXok_2 : kXok 2 104 108 := ⟨by decide, by decide +kernel, kgt (List.mem_of_getElem? (i := 648) (by decide +kernel)) rfl, kgt (List.mem_of_getElem? (i := 41) (by decide +kernel)) rfl, kXin [33, 475, 484, 492, 495, 497, 476, 477, 63, 64, 478, 483, 493, 513, 465, 514, 467, 515, 469, 479, 481, 471, 509, 510, 512, 471, 659, 660, 661, 503, 457, 503, 504, 505, 506, 459, 506, 507, 508, 509, 461, 658, 649, 650, 651, 488, 652, 653, 654, 655, 474, 473, 656] (by decide +kernel) (by decide +kernel)⟩
set_option maxRecDepth 20000 in
theorem kXok_3 : kXok 3 180 184 := ⟨by decide, by decide +kernel, kgt (List.mem_of_getElem? (i := 970) (by decide +kernel)) rfl, kgt (List.mem_of_getElem? (i := 42) (by decide +kernel)) rfl, kXin [33, 475, 484, 492, 495, 497, 476, 477, 63, 64, 478, 483, 493, 513, 465, 514, 467, 515, 469, 479, 481, 471, 509, 510, 512, 471, 947, 948, 949, 503, 457, 503, 504, 505, 506, 459, 506, 507, 508, 509, 461, 980, 971, 972, 973, 489, 974, 975, 976, 977, 474, 473, 978] (by decide +kernel) (by decide +kernel)⟩
set_option maxRecDepth 20000 in
theorem kXok_4 : kXok 4 129 133 := ⟨by decide, by decide +kernel, kgt (List.mem_of_getElem? (i := 561) (by decide +kernel)) rfl, kgt (List.mem_of_getElem? (i := 47) (by decide +kernel)) rfl, kXin [33, 475, 484, 492, 495, 497, 476, 477, 63, 64, 478, 483, 493, 513, 465, 514, 467, 515, 469, 479, 481, 471, 509, 510, 512, 471, 572, 573, 574, 503, 457, 503, 504, 505, 506, 459, 506, 507, 508, 509, 461, 571, 562, 563, 564, 490, 565, 566, 567, 568, 474, 473, 569] (by decide +kernel) (by decide +kernel)⟩
theorem kXok_5 : (Bundle.fit (kE 5) = true ∧ Cond.classLink RX11 226 (kE 5) ∈ kGT ∧ Cond.initialized (kE 5) ∈ kGT) := ⟨by decide +kernel, kgt (List.mem_of_getElem? (i := 919) (by decide +kernel)) rfl, kgt (List.mem_of_getElem? (i := 46) (by decide +kernel)) rfl⟩
set_option maxRecDepth 20000 in
theorem kXok_5w : ∀ w ∈ nxAtS RX11 230 (kE 5) 13 rx5 "java/lang/RuntimeException" ["java/lang/Exception"], w ∈ kGT ∨ w ∈ kXN := kXin [33, 475, 484, 492, 495, 497, 476, 477, 63, 64, 478, 483, 493, 513, 465, 514, 467, 515, 469, 479, 481, 471, 509, 510, 512, 471, 930, 931, 932, 503, 457, 503, 504, 505, 506, 459, 506, 507, 508, 509, 461, 929, 920, 921, 922, 491, 923, 924, 925, 926, 474, 473, 927] (by decide +kernel) (by decide +kernel)
set_option maxRecDepth 20000 in
theorem kXok_6 : kXok 6 368 372 := ⟨by decide, by decide +kernel, kgt (List.mem_of_getElem? (i := 1031) (by decide +kernel)) rfl, kgt (List.mem_of_getElem? (i := 39) (by decide +kernel)) rfl, kXin [33, 475, 484, 492, 495, 497, 476, 477, 63, 64, 478, 483, 493, 513, 465, 514, 467, 515, 469, 479, 481, 471, 509, 510, 512, 471, 1011, 1012, 1013, 503, 457, 503, 504, 505, 506, 459, 506, 507, 508, 509, 461, 1033, 1010, 1021, 1022, 486, 1016, 1017, 1019, 1015, 474, 473, 1014] (by decide +kernel) (by decide +kernel)⟩
section KXROWS
variable {p : Program} {l : Launch} {e : Env} {R : Room} {s : State} {m : MethodId} {args : Array Value} {below : List Frame} {meth : Method} {c : Code} {w : KW} {own : String} {cc : ByteArray} {nL : Nat} {ret : Option FieldType} {d mc ms : Nat} {zz : kXr} {k0 n0 : Nat} {f : kMem} {pc : Nat} {lv : List (Nat × Value)} {st : List Value} {X : Option kXr}
theorem K_xret (CX : KCX p l e R s m args below meth c w own cc nL ret d mc ms) {ty : FieldType} {v : Int32} (hret : ret = some ty) (hn : narrow ty (.int v) = .int v) (hk0 : k0 ≤ mc ∧ n0 ≤ ms) (hdg : decode cc pc = .ok (.ireturn, 1)) : K p l e R s m args below meth c w nL (kxQF below w ret args s mc ms zz) zz k0 n0 f pc lv [.int v] (some (0, v, f)) := by
  intro hX H locs ls hP hS hl
  have C := CX.1
  injection hX with hX
  subst hX; subst hret
  refine W.widen (k := mc) (n := ms) hk0.1 hk0.2 ?_
  refine vx_ret ?_
  exact W.zret C.1.1 C.1.2.1 C.2.2.2.2.2.1 hn (fun t ht hW => ⟨rfl, rfl, by rw [ht]; exact hP, hS.F ht⟩) hS.2.2 hdg C.2.2.2.2.2.2.1
theorem K_xbret (CX : KCX p l e R s m args below meth c w own cc nL ret d mc ms) {v : Int32} (hret : ret = some .boolean) (hk0 : k0 ≤ mc ∧ n0 ≤ ms) (hdg : decode cc pc = .ok (.ireturn, 1)) : K p l e R s m args below meth c w nL (kxQF below w ret args s mc ms zz) zz k0 n0 f pc lv [.int v] (kchk (kbool v) (some (0, v, f))) := fun hX => K_xret CX hret (kbool_n (kchk_some hX).1) hk0 hdg (kchk_some hX).2
theorem K_xvret (CX : KCX p l e R s m args below meth c w own cc nL ret d mc ms) (hret : ret = none) (hk0 : k0 ≤ mc ∧ n0 ≤ ms) (hdg : decode cc pc = .ok (.return_, 1)) : K p l e R s m args below meth c w nL (kxQF below w ret args s mc ms zz) zz k0 n0 f pc lv [] (some (0, 0, f)) := by
  intro hX H locs ls hP hS hl
  have C := CX.1
  injection hX with hX
  subst hX; subst hret
  refine W.widen (k := mc) (n := ms) hk0.1 hk0.2 ?_
  refine vx_ret ?_
  exact W.vret C.1.1 C.1.2.1 C.2.2.2.2.2.1 (fun t ht hW => ⟨rfl, rfl, by rw [ht]; exact hP, hS.F ht⟩) hS.2.2 hdg C.2.2.2.2.2.2.1
theorem kx_end {H : Heap} {locs : List Loc} {kind : Nat} (hk : kind ≠ 0) (hP : va_P w.1.1 vwCl (kw w f) H) (hS : va_S (kA w s.heap.size) s.heap H locs) : ∀ t : State, s.vm.Alike t.vm → H.size ≤ t.heap.size → (∀ q : Nat, q < H.size → t.heap[q]? = H[q]?) → kxC w (kind, 0, f) s.heap.size (kE kind) s t := fun t hvm hz hq =>
  ⟨hk, rfl, hP.kept (fun k q hkq => hq _ (hP k q hkq).lt), Nat.le_trans hS.1 hz, fun q h1 h2 => by rw [hq q (Nat.lt_of_lt_of_le h1 hS.1)]; exact hS.2.1 q h1 h2⟩
theorem K_throw (CX : KCX p l e R s m args below meth c w RX11 cc nL ret d mc ms) {kind ik ic is : Nat} {text : String} (hw : kXok kind ik ic) (htx : (is, text) ∈ kTX) (hd : 5 < d) (hk0 : k0 + 1 ≤ mc ∧ n0 + 6 ≤ ms) (hrest : (st.map fun v => v.category).sum ≤ 8)
    (d0 : decode cc pc = .ok (.new ik, 3)) (d3 : decode cc (pc + 3) = .ok (.dup, 1)) (d4 : decode cc (pc + 4) = .ok (.ldc is, 2)) (d6 : decode cc (pc + 6) = .ok (.invokespecial ic, 3)) (d9 : decode cc (pc + 9) = .ok (.athrow, 1)) :
    K p l e R s m args below meth c w nL (kxQF below w ret args s mc ms zz) zz k0 n0 f pc lv st (some (kind, 0, f)) := by
  intro hX H locs ls hP hS hl
  have C := CX.1
  injection hX with hX
  subst hX
  obtain ⟨sa, hsa⟩ := CX.2.1.2.2.1 _ htx
  have hts := C.1.2.2.2.2
  have hR : R = kRm d mc ms := C.2.2.2.2.2.2.2
  exact vx_throwS (cls := kE kind) (names := kNm) (A := kA w s.heap.size) C.1.1 C.1.2.1 CX.2.2.1 C.1.2.2.2.1 hw.2.1 (by decide +kernel) (hts _ hw.2.2.1) (hts _ hw.2.2.2.1) hsa (fun z hz => kxw hts CX.2.1.2.2.2 (hw.2.2.2.2 z hz)) (fun z hz => by
      rcases List.mem_cons.mp hz with rfl | hz
      · exact kgt_ot hw.2.2.1
      rcases List.mem_cons.mp hz with rfl | hz
      · exact kgt_ot hw.2.2.2.1
      · exact (hw.2.2.2.2 z hz).elim kgt_ot kXN_ot) CX.2.1.1 CX.2.1.2.1 hS (hl.1.trans C.1.2.2.1.symm) d0 d3 d4 d6 d9 (fun x hx => (CX.2.2.2 x hx).elim) (by rw [hR]; exact hd) (by rw [hR]; show _ + (13 * (2 + 1) + 43) ≤ 64 * d; omega) (by rw [hR]; exact hk0.1) (by rw [hR]; exact hk0.2) C.2.2.2.2.2.2.1 (kx_end hw.1 hP hS) hS.2.2 hk0.1 hk0.2
theorem K_throwW (CX : KCX p l e R s m args below meth c w RX11 cc nL ret d mc ms) {kind ik ic is : Nat} {text : String} (hw : kXok kind ik ic) (htx : (is, text) ∈ kTX) (hd : 5 < d) (hk0 : k0 + 1 ≤ mc ∧ n0 + 6 ≤ ms) (hrest : (st.map fun v => v.category).sum ≤ 8)
    (d0 : decode cc pc = .ok (.new ik, 3)) (d3 : decode cc (pc + 3) = .ok (.dup, 1)) (d4 : decode cc (pc + 4) = .ok (.ldc_w is, 3)) (d7 : decode cc (pc + 7) = .ok (.invokespecial ic, 3)) (d10 : decode cc (pc + 10) = .ok (.athrow, 1)) :
    K p l e R s m args below meth c w nL (kxQF below w ret args s mc ms zz) zz k0 n0 f pc lv st (some (kind, 0, f)) := by
  intro hX H locs ls hP hS hl
  have C := CX.1
  injection hX with hX
  subst hX
  obtain ⟨sa, hsa⟩ := CX.2.1.2.2.1 _ htx
  have hts := C.1.2.2.2.2
  have hR : R = kRm d mc ms := C.2.2.2.2.2.2.2
  exact vx_throwSW (cls := kE kind) (names := kNm) (A := kA w s.heap.size) C.1.1 C.1.2.1 CX.2.2.1 C.1.2.2.2.1 hw.2.1 (by decide +kernel) (hts _ hw.2.2.1) (hts _ hw.2.2.2.1) hsa (fun z hz => kxw hts CX.2.1.2.2.2 (hw.2.2.2.2 z hz)) (fun z hz => by
      rcases List.mem_cons.mp hz with rfl | hz
      · exact kgt_ot hw.2.2.1
      rcases List.mem_cons.mp hz with rfl | hz
      · exact kgt_ot hw.2.2.2.1
      · exact (hw.2.2.2.2 z hz).elim kgt_ot kXN_ot) CX.2.1.1 CX.2.1.2.1 hS (hl.1.trans C.1.2.2.1.symm) d0 d3 d4 d7 d10 (fun x hx => (CX.2.2.2 x hx).elim) (by rw [hR]; exact hd) (by rw [hR]; show _ + (13 * (2 + 1) + 43) ≤ 64 * d; omega) (by rw [hR]; exact hk0.1) (by rw [hR]; exact hk0.2) C.2.2.2.2.2.2.1 (kx_end hw.1 hP hS) hS.2.2 hk0.1 hk0.2
theorem nx_own {L : List Cond} (h1 : ∀ z ∈ L.filter vx_no, z.before args s = true) {A : Nat → Prop} (hU : vx_Zq Bundle.tN "UNASSIGNED_STACK" Bundle.steD A s s.heap) (hN : vx_Zq Bundle.tN "SUPPRESSED_SENTINEL" Bundle.listD A s s.heap) : ∀ z ∈ L, z.before args s = true := vx_own h1 (vx_isRefq hU.1) (vx_isRefq hN.1) hU.2.word hN.2.word
theorem nx_throw {own cls Y text : String} {r : List String} {ik is ic ix sa : Nat} {rx : ByteArray} {A : Nat → Prop} {H : Heap} {locs : List Loc} {ls : Array Slot} {cells slots : Nat} {rest : List Value} {free : Addr → Prop} {Qc : Array Value → State → Outcome → State → Prop} {XC : String → State → State → Prop} {ld : Nat} {li : Instr}
    (x0 : decode rx 0 = .ok (.aload_n 0, 1)) (x1 : decode rx 1 = .ok (.aload_n 1, 1)) (x2 : decode rx 2 = .ok (.invokespecial ix, 3)) (x5 : decode rx 5 = .ok (.return_, 1)) (hli : (li = .ldc is ∧ ld = 2) ∨ (li = .ldc_w is ∧ ld = 3))
    (hexec : p.tables.exec = Jvm.exec) (hb : c.code = cc) (hl : l.stackTraces = false) (hown : s.vm.findClass own = some m.cls) (hcls : Bundle.fit cls = true) (hY : Bundle.fit Y = true) (hnames : ∀ n ∈ r, Bundle.fit n = true)
    (hk : (Cond.classLink own ik cls).before args s = true) (hini : (Cond.initialized cls).before args s = true) (hstr : vk_R own is text sa s) (hat : ∀ z ∈ nxAtS own ic cls ix rx Y r, z.before args s = true)
    (hgood : ∀ z ∈ Cond.classLink own ik cls :: Cond.initialized cls :: nxAtS own ic cls ix rx Y r, vx_ot z = true)
    (hU : vx_Zq Bundle.tN "UNASSIGNED_STACK" Bundle.steD A s s.heap) (hN : vx_Zq Bundle.tN "SUPPRESSED_SENTINEL" Bundle.listD A s s.heap) (hS : va_S A s.heap H locs) (hsize : ls.size = c.maxLocals)
    (d0 : decode cc pc = .ok (.new ik, 3)) (d3 : decode cc (pc + 3) = .ok (.dup, 1)) (d4 : decode cc (pc + 4) = .ok (li, ld)) (d6 : decode cc (pc + 4 + ld) = .ok (.invokespecial ic, 3)) (d9 : decode cc (pc + 4 + ld + 3) = .ok (.athrow, 1))
    (hout : ∀ x ∈ c.exceptionTable.toList, covers x (pc + 4 + ld + 3) = false)
    (hRframes : r.length + 4 < R.frames) (hRlocals : (rest.map fun v => v.category).sum + (13 * (r.length + 2) + 43) ≤ R.locals) (hRcells : cells + 1 ≤ R.cells) (hRslots : slots + 6 ≤ R.slots) (hlocks : meth.locks = false)
    (hx : ∀ t : State, s.vm.Alike t.vm → H.size ≤ t.heap.size → (∀ q : Nat, q < H.size → t.heap[q]? = H[q]?) → XC cls s t)
    (hf : ∀ z ∈ locs, free z.base) (hc : cells + 1 ≤ mc) (hs : slots + 6 ≤ ms) :
    W p l e R s m args below meth c H locs cells slots (vx_MQ below Qc XC args s mc ms free) (F0 m pc ls rest) := by
  intro T hT X
  have htr : e.platform.stackTraces = false := (show e.platform.stackTraces = l.stackTraces by rw [X.admits.platform]).trans hl
  have Y9 := vx_rebase X (R' := { frames := R.frames, locals := R.locals, cells := 1, slots := 6 }) (Nat.le_refl _) (Nat.le_refl _) hRcells hRslots
  obtain ⟨s', hA⟩ : ∃ z, z = (T.setVm s.vm).setFrames (.invoking m args :: below) := ⟨_, rfl⟩
  rw [← hA] at Y9
  have hvm : s'.vm = s.vm := by rw [hA]; rfl
  have hhp : s'.heap = H := by rw [hA]; exact hT
  have hW0 : s.WarmedH s'.vm := by rw [hvm]; exact State.WarmedH.refl s
  have hat' : ∀ z ∈ nxAtS own ic cls ix rx Y r, z.before args s' = true := fun z hz => vx_ot_at hW0 hvm.symm (hgood z (List.mem_cons_of_mem _ (List.mem_cons_of_mem _ hz))) (hat z hz)
  have hk' : (Cond.classLink own ik cls).before args s' = true := vx_ot_at hW0 hvm.symm (hgood _ List.mem_cons_self) hk
  have hini' : (Cond.initialized cls).before args s' = true := vx_ot_at hW0 hvm.symm (hgood _ (List.mem_cons_of_mem _ List.mem_cons_self)) hini
  have hU' : vx_Zq Bundle.tN "UNASSIGNED_STACK" Bundle.steD A s' s'.heap := by rw [hhp]; exact vx_Zq.moved hW0.alike (hU.kept hS.2.1)
  have hN' : vx_Zq Bundle.tN "SUPPRESSED_SENTINEL" Bundle.listD A s' s'.heap := by rw [hhp]; exact vx_Zq.moved hW0.alike (hN.kept hS.2.1)
  have h : ∀ z ∈ nxAtoms own ic cls ix rx Y r, z.before args s' = true := nx_own hat' hU' hN'
  have hown' : s'.vm.findClass own = some m.cls := by rw [hvm]; exact hown
  have hins : (Cond.instantiable cls 6).before args s' = true := h _ (List.mem_append_right _ (List.mem_append_right _ (List.mem_append_right _ (by simp [nxTail]))))
  obtain ⟨vm₁, cX, kX, hfX, hkX, -, -, X₁, st1⟩ := Y9.newCold hexec (own := own) (C := cls) (index := ik) (n := 6) hown' hk' hins hini' (g := F0 m pc ls rest) rfl (by rw [hb]; exact d0) (Nat.le_refl _) (Nat.le_refl _)
  generalize hT1 : (T.setVm vm₁).pushCell { cls := cX, slots := kX.instanceTypes.map defaultValue, vm := .none } = T1 at X₁ st1
  have hcat : (Value.ref T.heap.size).category = 1 := rfl
  have hcellA : T1.heap[T.heap.size]? = some (freshCell cX kX) := by rw [← hT1]; exact State.heap_pushCell_size _ _
  have d3' : decode c.code (pc + 3) = .ok (.dup, 1) := by rw [hb]; exact d3
  have hstr' : vk_R own is text sa s' := vk_R.warm hW0 hstr
  obtain ⟨U, hsteps, hrun, hend, hW, hsame, ce, hce, hv, hcl9⟩ := nx_ctor X₁ hexec htr (own := own) (cls := cls) (ic := ic) x0 x1 x2 x5 hown' hcls hY hnames h (fun x hx => nomatch hx) hfX hkX hcellA (by rw [hhp, hT]; exact Nat.le_refl _) (msg := .ref sa) rfl
    (g := { method := m, pc := pc + 4 + ld, locals := ls, stack := .ref sa :: .ref T.heap.size :: .ref T.heap.size :: rest, locked := none }) rfl hsize rfl rfl (rest := rest) rfl
    (by rw [hb]; exact d6) (by rw [hb]; exact d9) hout hRframes (by simp only [List.map_cons, List.sum_cons, hcat]; omega) hlocks
  obtain ⟨f1, f2⟩ := vx_frame hsame
  rw [hhp] at f1 f2
  have hWs : s.WarmedH U.vm := State.WarmedH.trans hW0 hW
  have hcl : s.vm.findClass cls = some ce.cls := by
    rw [hvm] at hcl9
    exact hcl9
  have hall : s.sameButNew ({ U with vm := s.vm } : State) locs mc ms := by
    subst hA
    obtain ⟨e1, e2⟩ := hsame
    rw [State.setFrames_setFrames] at e1
    have h2 : (T.setVm s.vm).sameButNew ({ U with vm := s.vm } : State) [] (0 + 1) (0 + 6) := ⟨e1, e2⟩
    have h3 := X.same.trans h2
    rw [List.append_nil] at h3
    exact h3.mono hc hs
  refine ⟨U, ?_, .threw T.heap.size, hrun, hend, Or.inr ⟨T.heap.size, rfl, cls, ce, locs, hx U hWs.alike f1 (fun q hq => f2 q hq (fun z hz => nomatch hz)), hce, hv, hcl, hWs, hall, hf⟩⟩
  refine st1 _ ?_
  show Steps p.tables e below (T1.setTop { method := m, pc := pc + 3, locals := ls, stack := .ref T.heap.size :: rest, locked := none }) _
  jvm_step X₁.here [X₁.here.top, hexec, d3', Value.category]
  rcases hli with ⟨rfl, rfl⟩ | ⟨rfl, rfl⟩
  · exact X₁.ldcString hexec (own := own) (text := text) (index := is) (a := sa) hown' hstr'.1 hstr'.2
      (g := { method := m, pc := pc + 4, locals := ls, stack := .ref T.heap.size :: .ref T.heap.size :: rest, locked := none }) rfl (by rw [hb]; exact d4) _ hsteps
  · exact X₁.ldcStringW hexec (own := own) (text := text) (index := is) (a := sa) hown' hstr'.1 hstr'.2
      (g := { method := m, pc := pc + 4, locals := ls, stack := .ref T.heap.size :: .ref T.heap.size :: rest, locked := none }) rfl (by rw [hb]; exact d4) _ hsteps
theorem K_throw5 (CX : KCX p l e R s m args below meth c w RX11 cc nL ret d mc ms) {is ld : Nat} {li : Instr} {text : String} (hli : (li = .ldc is ∧ ld = 2) ∨ (li = .ldc_w is ∧ ld = 3)) (htx : (is, text) ∈ kTX) (hd : 5 < d) (hk0 : k0 + 1 ≤ mc ∧ n0 + 6 ≤ ms) (hrest : (st.map fun v => v.category).sum ≤ 8)
    (d0 : decode cc pc = .ok (.new 226, 3)) (d3 : decode cc (pc + 3) = .ok (.dup, 1)) (d4 : decode cc (pc + 4) = .ok (li, ld)) (d6 : decode cc (pc + 4 + ld) = .ok (.invokespecial 230, 3)) (d9 : decode cc (pc + 4 + ld + 3) = .ok (.athrow, 1)) :
    K p l e R s m args below meth c w nL (kxQF below w ret args s mc ms zz) zz k0 n0 f pc lv st (some (5, 0, f)) := by
  intro hX H locs ls hP hS hl
  have C := CX.1
  injection hX with hX
  subst hX
  obtain ⟨sa, hsa⟩ := CX.2.1.2.2.1 _ htx
  have hts := C.1.2.2.2.2
  have hR : R = kRm d mc ms := C.2.2.2.2.2.2.2
  exact nx_throw (cls := kE 5) (Y := "java/lang/RuntimeException") (r := ["java/lang/Exception"]) (ix := 13) (rx := rx5) (A := kA w s.heap.size) (by decide +kernel) (by decide +kernel) (by decide +kernel) (by decide +kernel) hli C.1.1 C.1.2.1 CX.2.2.1 C.1.2.2.2.1 kXok_5.1 (by decide +kernel) (by decide +kernel) (hts _ kXok_5.2.1) (hts _ kXok_5.2.2) hsa (fun z hz => kxw hts CX.2.1.2.2.2 (kXok_5w z hz)) (fun z hz => by
      rcases List.mem_cons.mp hz with rfl | hz
      · exact kgt_ot kXok_5.2.1
      rcases List.mem_cons.mp hz with rfl | hz
      · exact kgt_ot kXok_5.2.2
      · exact (kXok_5w z hz).elim kgt_ot kXN_ot) CX.2.1.1 CX.2.1.2.1 hS (hl.1.trans C.1.2.2.1.symm) d0 d3 d4 d6 d9 (fun x hx => (CX.2.2.2 x hx).elim) (by rw [hR]; exact hd) (by rw [hR]; show _ + (13 * (1 + 2) + 43) ≤ 64 * d; omega) (by rw [hR]; exact hk0.1) (by rw [hR]; exact hk0.2) C.2.2.2.2.2.2.1 (kx_end (by decide) hP hS) hS.2.2 hk0.1 hk0.2
def kxbind (Z : Option kXr) (Y : Int32 → kMem → Option kXr) : Option kXr := match Z with
  | none => none
  | some q => if q.1 = 0 then Y q.2.1 q.2.2 else some (q.1, 0, q.2.2)
theorem kxpre (CX : KCX p l e R s m args below meth c w own cc nL ret d mc ms) {H : Heap} {locs : List Loc} (hP : va_P w.1.1 vwCl (kw w f) H) (hS : va_S (kA w s.heap.size) s.heap H locs) (av : List Value) : ∀ U : State, U.heap = H → s.WarmedH U.vm → va_Pc av (fun U => U.heap.size = H.size ∧ kBx w f U) av.toArray U := by
  intro U hU hW
  have h := kpre CX.1 hP hS av U hU hW
  refine ⟨h.1, h.2.1, h.2.2, ?_⟩
  exact kXP_to (by rw [hU]; exact hS.1) hW (fun a h1 h2 => by rw [hU]; exact hS.2.1 a h1 h2) CX.2.1
theorem kxgo {ret1 : Option FieldType} {z1 : kXr} {H : Heap} {locs : List Loc} {ls : Array Slot} {st0 rest : List Value} {a : Array Value} {Q : State → Prop} {mc1 ms1 : Nat} (hr : vx_Run p l e R s m args below meth c H locs k0 n0 mc1 ms1 (F0 m pc ls st0) rest (kxQ w ret1 z1 H.size a) (kxC w z1 H.size) (kA w H.size)) (hS : va_S (kA w s.heap.size) s.heap H locs)
    (kk : z1.1 = 0 → ∀ (H1 : Heap) (locs1 : List Loc), va_P w.1.1 vwCl (kw w z1.2.2) H1 → va_S (kA w s.heap.size) s.heap H1 locs1 → W p l e R s m args below meth c H1 locs1 (k0 + mc1) (n0 + ms1) Q (F0 m (pc + 3) ls ((krv ret1 z1.2.1).toList ++ rest)))
    (kx : z1.1 ≠ 0 → ∀ (ce : Cell) (q9 : Addr) (H1 : Heap) (locs1 : List Loc), va_P w.1.1 vwCl (kw w z1.2.2) H1 → va_S (kA w s.heap.size) s.heap H1 locs1 → H1[q9]? = some ce → ce.vm = .none → s.vm.findClass (kE z1.1) = some ce.cls → vx_W p l e R s m args below meth c H1 locs1 (k0 + mc1) (n0 + ms1) Q (F0 m pc ls rest) q9) : W p l e R s m args below meth c H locs k0 n0 Q (F0 m pc ls st0) := by
  intro T hT X
  have go : ∀ (t T' : State) (L : List Loc), T'.heap = t.heap → (∀ q ∈ L, kA w H.size q.base) → H.size ≤ t.heap.size → (∀ q : Nat, q < H.size → ¬ kA w H.size q → t.heap[q]? = H[q]?) → va_S (kA w s.heap.size) s.heap T'.heap (locs ++ L) := fun t T' L e1 hL hz hk =>
    ⟨Nat.le_trans hS.1 (by rw [e1]; exact hz), fun q h1 h2 => by rw [e1, hk q (Nat.lt_of_lt_of_le h1 hS.1) (fun z => h2 (kA_mono hS.1 z))]; exact hS.2.1 q h1 h2, fun q hq => by
      rcases List.mem_append.mp hq with h | h
      · exact hS.2.2 q h
      · exact kA_mono hS.1 (hL q h)⟩
  rcases hr T hT X with ⟨v, st₀, t, T', L, h0, X', hL, e1, e2, ⟨hk9, hv, hp, hz, hk⟩, st⟩ | ⟨q, st₀, t, T', L, E, ce, h0, X', hL, e1, e2, ⟨hk9, hE, hp, hz, hk⟩, hce, hcv, hcl, st⟩
  · injection hv with hv
    subst hv
    rw [h0] at hz hk
    obtain ⟨t2, a1, b1⟩ := kk hk9 T'.heap (locs ++ L) (by rw [e1]; exact hp) (go t T' L e1 hL hz hk) T' rfl X'
    exact ⟨t2, st t2 a1, b1⟩
  · subst hE
    rw [h0] at hz hk
    obtain ⟨t2, a1, b1⟩ := kx hk9 ce q T'.heap (locs ++ L) (by rw [e1]; exact hp) (go t T' L e1 hL hz hk) (by rw [e1]; exact hce) hcv hcl T' rfl X'
    exact ⟨t2, st.trans a1, b1⟩
theorem K_callX (CX : KCX p l e R s m args below meth c w own cc nL ret d mc ms) {y : MethodName} {b1 : ByteArray} {nL1 : Nat} {ret1 : Option FieldType} {d1 mc1 ms1 idx n : Nat} {As rest : List Value} {Z : Option kXr} {Y : Int32 → kMem → Option kXr} {a ci : Nat} {fl : List (Option Nat)} {T1 : u_T} {N1 : Nat} (ha : a < kn w) (hsh : ksh w a = .inr (ci, fl)) (hci : vwCl[ci]? = some (y.cls, T1, N1)) (hY : kYV y b1 nL1 ret1 n) (hlink : Cond.methodLink own idx y ∈ kGT) (hd1 : d1 < d) (hk0 : k0 + mc1 ≤ mc ∧ n0 + ms1 ≤ ms) (hM : ∀ z1, Z = some z1 → kxMet l w y b1 nL1 ret1 d1 mc1 ms1 (.ref (kad w a) :: As) f z1) (hn : As.length = n) (hst : st = As.reverse ++ .ref (kad w a) :: rest) (hrest : (rest.map fun v => v.category).sum ≤ 8) (hdg : decode cc pc = .ok (.invokevirtual idx, 3)) (kk : ∀ (r1 : Int32) (f1 : kMem), K p l e R s m args below meth c w nL (kxQF below w ret args s mc ms zz) zz (k0 + mc1) (n0 + ms1) f1 (pc + 3) lv ((krv ret1 r1).toList ++ rest) (Y r1 f1)) : K p l e R s m args below meth c w nL (kxQF below w ret args s mc ms zz) zz k0 n0 f pc lv st (kxbind Z Y) := by
  intro hX H locs ls hP hS hl
  have C := CX.1
  subst hst
  obtain ⟨z1, hz1⟩ : ∃ z1, Z = some z1 := by
    cases Z with
    | none => cases hX
    | some q => exact ⟨q, rfl⟩
  subst hz1
  have hR : (kRm d1 mc1 ms1).frames + 1 ≤ R.frames ∧ 8 + (nL1 + 11) + (kRm d1 mc1 ms1).locals ≤ R.locals := by
    rw [C.2.2.2.2.2.2.2]
    have := hY.1.2.2.2
    exact ⟨hd1, by show 8 + (nL1 + 11) + 64 * d1 ≤ 64 * d; omega⟩
  have cf : CallFix p m c cc nL s args kGT own := C.1
  have hts := C.1.2.2.2.2
  refine kxgo (z1 := z1) (vx_runV (C := y.cls) (As := As) (rest := rest) cf (hM z1 rfl H.size) ⟨(callB_of n hts (kcode_in hY.1.1) rfl rfl rfl (hts _ hY.1.2.1) (hts _ hlink) hY.1.2.2.1 hR), hts _ hY.2.1, hts _ hY.2.2⟩ ⟨kxblind, va_recv C.2.1 hP hci (kw_obj ha hsh), kxpre CX hP hS _⟩ rfl hn (hl.1.trans rfl) rfl (lv_room hrest) hdg (by rw [C.2.2.2.2.2.2.2]; exact hk0)) hS (fun h0 H1 locs1 hP1 hS1 => ?_) (fun h0 ce q9 H1 locs1 hP1 hS1 hce hcv hcl => ?_)
  · have hX2 : Y z1.2.1 z1.2.2 = some zz := by
      have h9 : (if z1.1 = 0 then Y z1.2.1 z1.2.2 else some (z1.1, 0, z1.2.2)) = some zz := hX
      rwa [if_pos h0] at h9
    exact kk z1.2.1 z1.2.2 hX2 H1 locs1 ls hP1 hS1 hl
  · have hX2 : some (z1.1, (0 : Int32), z1.2.2) = some zz := by
      have h9 : (if z1.1 = 0 then Y z1.2.1 z1.2.2 else some (z1.1, 0, z1.2.2)) = some zz := hX
      rwa [if_neg h0] at h9
    injection hX2 with hX2
    subst hX2
    exact vx_out (fun x hx => (CX.2.2.2 x hx).elim) C.2.2.2.2.2.2.1 hce hcv hcl (fun t ht hvm => ⟨h0, rfl, by rw [ht]; exact hP1, hS1.F ht⟩) hS1.2.2 hk0.1 hk0.2
end KXROWS
