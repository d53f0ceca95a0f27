/-! the law's own helpers: they call the class, keep the answer in a row of one place, and tell what was thrown -/
theorem vD_cons {A : Nat → Prop} {x : Nat × va_E} {l : va_W} : va_D A (x :: l) ↔ A x.1 ∧ (∀ y ∈ l, x.1 ≠ y.1) ∧ va_D A l := by
  constructor
  · intro h
    refine ⟨h.2 0 x rfl, fun y hy e => ?_, fun i j p q hp hq e => ?_, fun i q hq => h.2 (i + 1) q (by simpa using hq)⟩
    · obtain ⟨j, hj⟩ := List.getElem?_of_mem hy
      have := h.1 0 (j + 1) x y rfl (by simpa using hj) e
      omega
    · have := h.1 (i + 1) (j + 1) p q (by simpa using hp) (by simpa using hq) e
      omega
  · rintro ⟨h1, h2, h3⟩
    refine ⟨fun i j p q hp hq e => ?_, fun i q hq => ?_⟩
    · cases i with
      | zero =>
        cases j with
        | zero => rfl
        | succ j =>
          simp at hp hq
          subst hp
          exact absurd e (h2 q (List.mem_of_getElem? hq))
      | succ i =>
        cases j with
        | zero =>
          simp at hp hq
          subst hq
          exact absurd e.symm (h2 p (List.mem_of_getElem? hp))
        | succ j =>
          simp at hp hq
          rw [h3.1 i j p q hp hq e]
    · cases i with
      | zero =>
        simp at hq
        subst hq
        exact h1
      | succ i => exact h3.2 i q (by simpa using hq)
theorem vP_mem {D : va_G} {cl : List vw_C} {ws : va_W} {H : Heap} : va_P D cl ws H ↔ ∀ q ∈ ws, va_at D cl q H := by
  constructor
  · intro h q hq
    obtain ⟨i, hi⟩ := List.getElem?_of_mem hq
    exact h i q hi
  · exact fun h i q hq => h q (List.mem_of_getElem? hq)
theorem vP_perm {D : va_G} {cl : List vw_C} {l1 l2 : va_W} {H : Heap} (h : l1.Perm l2) (hP : va_P D cl l1 H) : va_P D cl l2 H := vP_mem.mpr fun q hq => vP_mem.mp hP q (h.mem_iff.mpr hq)
theorem vD_perm {A : Nat → Prop} {l1 l2 : va_W} (h : l1.Perm l2) : va_D A l1 → va_D A l2 := by
  induction h with
  | nil => exact id
  | cons x h ih => exact fun hD => vD_cons.mpr ⟨(vD_cons.mp hD).1, fun y hy => (vD_cons.mp hD).2.1 y (h.mem_iff.mpr hy), ih (vD_cons.mp hD).2.2⟩
  | swap x y l =>
    intro hD
    obtain ⟨h1, h2, h3⟩ := vD_cons.mp hD
    obtain ⟨h4, h5, h6⟩ := vD_cons.mp h3
    refine vD_cons.mpr ⟨h4, fun z hz => ?_, vD_cons.mpr ⟨h1, fun z hz => h2 z (List.mem_cons_of_mem _ hz), h6⟩⟩
    rcases List.mem_cons.mp hz with rfl | hz
    · exact fun e => h2 x List.mem_cons_self e.symm
    · exact h5 z hz
  | trans _ _ ih1 ih2 => exact fun hD => ih2 (ih1 hD)
theorem vD_app {A : Nat → Prop} : ∀ {l1 l2 : va_W}, va_D A (l1 ++ l2) ↔ va_D A l1 ∧ va_D A l2 ∧ ∀ x ∈ l1, ∀ y ∈ l2, x.1 ≠ y.1
  | [], l2 => ⟨fun h => ⟨⟨fun i j p q hp => by simp at hp, fun i q hq => by simp at hq⟩, h, fun x hx => by simp at hx⟩, fun h => h.2.1⟩
  | x :: l1, l2 => by
    rw [List.cons_append, vD_cons, vD_app (l1 := l1), vD_cons]
    constructor
    · rintro ⟨h1, h2, h3, h4, h5⟩
      refine ⟨⟨h1, fun y hy => h2 y (List.mem_append_left _ hy), h3⟩, h4, fun y hy z hz => ?_⟩
      rcases List.mem_cons.mp hy with rfl | hy
      · exact h2 z (List.mem_append_right _ hz)
      · exact h5 y hy z hz
    · rintro ⟨⟨h1, h2, h3⟩, h4, h5⟩
      refine ⟨h1, fun y hy => ?_, h3, h4, fun y hy z hz => h5 y (List.mem_cons_of_mem _ hy) z hz⟩
      rcases List.mem_append.mp hy with hy | hy
      · exact h2 y hy
      · exact h5 x List.mem_cons_self y hy
theorem vframe {D : va_G} {cl : List vw_C} {A Ac : Nat → Prop} {wc wr wc1 : va_W} {H H1 : Heap} (hP : va_P D cl (wc ++ wr) H) (hD : va_D A (wc ++ wr)) (hk : ∀ q : Nat, q < H.size → ¬ Ac q → H1[q]? = H[q]?) (hAc : ∀ q, Ac q → (∃ x ∈ wc, x.1 = q) ∨ H.size ≤ q) (hP1 : va_P D cl wc1 H1) (hD1 : va_D A wc1) (hA1 : ∀ x ∈ wc1, Ac x.1) : va_P D cl (wc1 ++ wr) H1 ∧ va_D A (wc1 ++ wr) := by
  obtain ⟨h1, h2, h3⟩ := vD_app.mp hD
  have hr : ∀ y ∈ wr, va_at D cl y H ∧ ¬ Ac y.1 := fun y hy => by
    have hat := vP_mem.mp hP y (List.mem_append_right _ hy)
    refine ⟨hat, fun h => ?_⟩
    rcases hAc _ h with ⟨x, hx, e⟩ | h
    · exact h3 x hx y hy e
    · have := hat.lt
      omega
  refine ⟨vP_mem.mpr fun q hq => ?_, vD_app.mpr ⟨hD1, h2, fun x hx y hy e => (hr y hy).2 (e ▸ hA1 x hx)⟩⟩
  rcases List.mem_append.mp hq with h | h
  · exact vP_mem.mp hP1 q h
  · exact (hr q h).1.kept (hk _ (hr q h).1.lt (hr q h).2)
theorem kw_mem {w : KW} {f : kMem} {x : Nat × va_E} (h : x ∈ kw w f) : ∃ a, a < kn w ∧ x = (kad w a, kcell w f a) := by
  simp only [kw, List.mem_map, List.mem_range] at h
  obtain ⟨a, h1, h2⟩ := h
  exact ⟨a, h1, h2.symm⟩
theorem kw_in {w : KW} {f : kMem} {a : Nat} (h : a < kn w) : (kad w a, kcell w f a) ∈ kw w f := by
  simp only [kw, List.mem_map, List.mem_range]
  exact ⟨a, h, rfl⟩
/-- a call whose world is that of w, framed -/
theorem kframe {w : KW} {f f1 : kMem} {A : Nat → Prop} {wr : va_W} {H H1 : Heap} (hP : va_P w.1.1 vwCl (kw w f ++ wr) H) (hD : va_D A (kw w f ++ wr)) (hk : ∀ q : Nat, q < H.size → ¬ kA w H.size q → H1[q]? = H[q]?) (hP1 : va_P w.1.1 vwCl (kw w f1) H1) : va_P w.1.1 vwCl (kw w f1 ++ wr) H1 ∧ va_D A (kw w f1 ++ wr) := by
  refine vframe hP hD hk (fun q h => ?_) hP1 (kw_D (vD_app.mp hD).1) (fun x hx => ?_)
  · rcases h with ⟨a, ha, rfl⟩ | h
    · exact Or.inl ⟨_, kw_in ha, rfl⟩
    · exact Or.inr h
  · obtain ⟨a, ha, rfl⟩ := kw_mem hx
    exact Or.inl ⟨a, ha, rfl⟩
def ktyL (G : kG) (cL cD : ClassId) : List (ClassId × FieldType) := [(G.2.1, .int), (G.2.2.1, .char), (G.2.2.2, .object "MouldFloor$Floor"), (cL, .long), (cD, .double)]
def kSA1 (w : KW) (A : Nat → Prop) (n : String) (k : Nat) (U : State) (H : Heap) : Prop := va_Z "MouldFloor" n "[I" (.ref (kad w (1000 + k))) A U H ∧ va_T .int (kad w (1000 + k)) 4 (fun j => .int (kst k j)) A U H
def kSA (w : KW) (A : Nat → Prop) (U : State) (H : Heap) : Prop := kSA1 w A "LEAST_SETTINGS" 1 U H ∧ kSA1 w A "MOST_SETTINGS" 2 U H
theorem kSA1_to {w : KW} {A B : Nat → Prop} {n : String} {k : Nat} {s U : State} {H H1 : Heap} (hvm : s.vm.Alike U.vm) (hq : ∀ a : Nat, a < H.size → ¬ A a → H1[a]? = H[a]?) (hAB : ∀ q, B q → A q) (h : kSA1 w A n k s H) : kSA1 w B n k U H1 := ⟨((va_Z.moved hvm h.1).kept hq).narrow hAB, ((va_T.moved hvm h.2).kept hq).narrow hAB⟩
theorem kSA_to {w : KW} {A B : Nat → Prop} {s U : State} {H H1 : Heap} (hvm : s.vm.Alike U.vm) (hq : ∀ a : Nat, a < H.size → ¬ A a → H1[a]? = H[a]?) (hAB : ∀ q, B q → A q) (h : kSA w A s H) : kSA w B U H1 := ⟨kSA1_to hvm hq hAB h.1, kSA1_to hvm hq hAB h.2⟩
theorem kSA_kS {w : KW} {sz : Nat} {U : State} {H : Heap} (h : kSA w (kA w sz) U H) : kS w sz U H := h
def kXA (A : Nat → Prop) (U : State) (H : Heap) : Prop := vx_Zq Bundle.tN "UNASSIGNED_STACK" Bundle.steD A U H ∧ vx_Zq Bundle.tN "SUPPRESSED_SENTINEL" Bundle.listD A U H ∧ (∀ q ∈ kTX, ∃ sa, vk_R RX11 q.1 q.2 sa U) ∧ ∀ z ∈ kXN, va_Nw z U
theorem kXA_to {A B : Nat → Prop} {s U : State} {H H1 : Heap} (hW : s.WarmedH U.vm) (hq : ∀ a : Nat, a < H.size → ¬ A a → H1[a]? = H[a]?) (hAB : ∀ q, B q → A q) (h : kXA A s H) : kXA B U H1 := ⟨((vx_Zq.moved hW.alike h.1).kept hq).narrow hAB, ((vx_Zq.moved hW.alike h.2.1).kept hq).narrow hAB, fun q hq => (h.2.2.1 q hq).elim fun sa ha => ⟨sa, vk_R.warm hW ha⟩, kXN_moved hW h.2.2.2⟩
theorem kXA_same {A : Nat → Prop} {s U : State} {H : Heap} (hvm : U.vm = s.vm) (h : kXA A s H) : kXA A U H := ⟨vx_Zq.moved (by rw [hvm]; exact Vm.Alike.refl _) h.1, vx_Zq.moved (by rw [hvm]; exact Vm.Alike.refl _) h.2.1, fun q hq => (h.2.2.1 q hq).elim fun sa ha => ⟨sa, vk_R.same hvm ha⟩, kXN_same hvm.symm h.2.2.2⟩
def kNC (U : State) : Prop := ∀ a b, a ∈ [1, 2, 3, 4, 5, 6] → b ∈ [1, 2, 3, 4, 5, 6] → a ≠ b → va_Nc (kE a) (kE b) U
/-- what a helper needs beside its cells -/
def kLE (w : KW) (cL cD : ClassId) (A : Nat → Prop) (U : State) (H : Heap) : Prop := va_K w.1.1 vwCl (ktyL w.1 cL cD) U ∧ (∀ z ∈ kNW, va_Nw z U) ∧ kSA w A U H ∧ kXA A U H ∧ kNC U
theorem kLE_to {w : KW} {cL cD : ClassId} {A B : Nat → Prop} {s U : State} {H H1 : Heap} (hW : s.WarmedH U.vm) (hq : ∀ a : Nat, a < H.size → ¬ A a → H1[a]? = H[a]?) (hAB : ∀ q, B q → A q) (h : kLE w cL cD A s H) : kLE w cL cD B U H1 := ⟨va_K.moved hW.alike h.1, kNW_moved hW h.2.1, kSA_to hW.alike hq hAB h.2.2.1, kXA_to hW hq hAB h.2.2.2.1, fun a b ha hb hab => va_Nc.moved hW.alike (h.2.2.2.2 a b ha hb hab)⟩
theorem kLE_same {w : KW} {cL cD : ClassId} {A : Nat → Prop} {s U : State} {H : Heap} (hvm : U.vm = s.vm) (h : kLE w cL cD A s H) : kLE w cL cD A U H := ⟨va_K.moved (by rw [hvm]; exact Vm.Alike.refl _) h.1, kNW_same hvm.symm h.2.1, kSA_to (by rw [hvm]; exact Vm.Alike.refl _) (fun _ _ _ => rfl) (fun _ h => h) h.2.2.1, kXA_same hvm h.2.2.2.1, fun a b ha hb hab => va_Nc.moved (by rw [hvm]; exact Vm.Alike.refl _) (h.2.2.2.2 a b ha hb hab)⟩
def VA (w : KW) (qo sz : Nat) : Nat → Prop := fun q => kA w sz q ∨ q = qo
theorem kBx_of {w : KW} {cL cD : ClassId} {A : Nat → Prop} {s U : State} {H : Heap} {f : kMem} {wr : va_W} (hW : s.WarmedH U.vm) (hU : U.heap = H) (hE : kLE w cL cD A s s.heap) (hq : ∀ a : Nat, a < s.heap.size → ¬ A a → H[a]? = s.heap[a]?) (hsub : ∀ q, kA w H.size q → A q) {B : Nat → Prop} (hP : va_P w.1.1 vwCl (kw w f ++ wr) H) (hD : va_D B (kw w f ++ wr)) : kBx w f U := by
  have h := kLE_to (U := U) (H1 := H) hW hq hsub hE
  refine ⟨⟨by rw [hU]; exact vP_mem.mpr fun q hq => vP_mem.mp hP q (List.mem_append_left _ hq), h.1.sub [0, 1, 2] rfl, ⟨(vD_app.mp hD).1.1, fun _ _ _ => trivial⟩, h.2.1, by rw [hU]; exact h.2.2.1⟩, by rw [hU]; exact h.2.2.2.1⟩
theorem kxMetV_int {l : Launch} {w : KW} {y : MethodName} {b : ByteArray} {nL : Nat} {ty : FieldType} {d mc ms : Nat} {av : List Value} {f : kMem} {z : kXr} (h : kxMet l w y b nL (some ty) d mc ms av f z) : kxMetV l w y b nL (some ty) d mc ms av f (z.1, .int z.2.1, z.2.2) := by
  intro sz
  intro p e ha hc hk s m args below hf happ hP hK
  obtain ⟨n, o, h1, h2, h3, hQ⟩ := h sz p e ha hc hk s m args below hf happ hP hK
  exact ⟨n, o, h1, h2, h3, hQ⟩
def VC (p : Program) (l : Launch) (e : Env) (R : Room) (s : State) (m : MethodId) (args : Array Value) (below : List Frame) (meth : Method) (c : Code) (w : KW) (cL cD : ClassId) (qo : Nat) (cc : ByteArray) (nL : Nat) (hh : List (Nat × Nat × Nat × Nat)) (d : Nat) : Prop :=
  CallFix p m c cc nL s args kGT RL ∧ kLE w cL cD (VA w qo s.heap.size) s s.heap ∧ meth.sig.returnType = some .int ∧ meth.locks = false ∧ R = kRm d 2 12 ∧ c.exceptionTable.toList = tableOf hh ∧ l.stackTraces = false
def kLQ (w : KW) (qo : Nat) (kr : Int32) (fo : kMem) (oo : va_E) (sz : Nat) : Array Value → State → Outcome → State → Prop := fun _ st oc t => oc = .returned (some (.int kr)) ∧ va_P w.1.1 vwCl (kw w fo ++ [(qo, oo)]) t.heap ∧ va_F (VA w qo sz) st t
def kLMet (l : Launch) (w : KW) (cL cD : ClassId) (qo : Nat) (y : MethodName) (b : ByteArray) (nL : Nat) (hh : List (Nat × Nat × Nat × Nat)) (d : Nat) (av : List Value) (f : kMem) (o : va_E) (kr : Int32) (fo : kMem) (oo : va_E) : Prop :=
  ∀ sz, Met l y (.codeWith y b nL (some .int) hh :: kGT) (kRm d 2 12) (va_Pc av (fun U => U.heap.size = sz ∧ va_P w.1.1 vwCl (kw w f ++ [(qo, o)]) U.heap ∧ va_D (fun _ => True) (kw w f ++ [(qo, o)]) ∧ kLE w cL cD (VA w qo U.heap.size) U U.heap)) (kLQ w qo kr fo oo sz) 2 12 (VA w qo sz)
theorem VA_D {w : KW} {qo sz : Nat} {f : kMem} {o : va_E} {A : Nat → Prop} (h : va_D A (kw w f ++ [(qo, o)])) : va_D (VA w qo sz) (kw w f ++ [(qo, o)]) := ⟨h.1, fun i q hq => by
  rcases List.mem_append.mp (List.mem_of_getElem? hq) with h | h
  · obtain ⟨a, ha, rfl⟩ := kw_mem h
    exact Or.inl (Or.inl ⟨a, ha, rfl⟩)
  · simp at h
    rw [h]
    exact Or.inr rfl⟩
theorem kLMet_of {l : Launch} {w : KW} {cL cD : ClassId} {qo : Nat} {y : MethodName} {b : ByteArray} {nL : Nat} {hh : List (Nat × Nat × Nat × Nat)} {d : Nat} {av : List Value} {lv : List (Nat × Value)} {f : kMem} {o : va_E} {kr : Int32} {fo : kMem} {oo : va_E} (hst : l.stackTraces = false) (hy : plainName y.cls = true) (how : y.cls = RL) (hn : (lg_sl av).length ≤ nL) (hlv : lv_args 0 av = lv)
    (body : ∀ (p : Program) (e : Env) (R : Room) (s : State) (m : MethodId) (args : Array Value) (below : List Frame) (meth : Method) (c : Code) (ls : Array Slot), VC p l e R s m args below meth c w cL cD qo b nL hh d → va_P w.1.1 vwCl (kw w f ++ [(qo, o)]) s.heap → va_D (VA w qo s.heap.size) (kw w f ++ [(qo, o)]) → va_S (VA w qo s.heap.size) s.heap s.heap [] → lv_has ls nL lv → W p l e R s m args below meth c s.heap [] 0 0 (MQ below (kLQ w qo kr fo oo s.heap.size) args s 2 12 (VA w qo s.heap.size)) (F0 m 0 ls [])) : kLMet l w cL cD qo y b nL hh d av f o kr fo oo := by
  intro sz
  refine MetFree.of_bodyS (code := b) (maxLocals := nL) (ret := some .int) hy ?_ ?_
  · intro args s m h hn
    obtain ⟨m9, meth, c, hn9, h1, h2, h3, h4, -, h5, h6, -⟩ := Cond.codeWith_spec (atoms_spec (ws := .codeWith y b nL (some .int) hh :: kGT) h _ List.mem_cons_self)
    cases hn.symm.trans hn9
    exact ⟨meth, c, h1, h2, h3, h4, h5, h6⟩
  · intro p e s m args below meth c s₁ B hml hv _
    have hts := atoms_spec (ws := .codeWith y b nL (some .int) hh :: kGT) B.pre
    have htab := vx_table (x := y) B (hts _ List.mem_cons_self)
    have hh0 : s₁.heap = s.heap := by rw [B.state]; rfl
    obtain ⟨rfl, hsz, hP, hD, hE⟩ := hv
    have hown : s.vm.findClass y.cls = some m.cls := findClass_of_methodNamed B.named
    subst hsz
    rw [how] at hown
    have hl := lv_entry av (n := nL) hn
    rw [hlv] at hl
    have key := body p e _ s m _ below meth c _ ⟨⟨B.exec, B.bytes, hml, hown, fun w hw => hts w (List.mem_cons_of_mem _ hw)⟩, hE, B.returns, B.notSynchronized, rfl, htab, hst⟩ hP (VA_D hD) va_S.rf hl
    have K := key s₁ hh0 (Stand.of_body B)
    rw [← lg_entry_eq] at K
    obtain ⟨t, a1, o9, b1, b2, b3⟩ := K
    exact ⟨t, o9, a1, b1, b2, b3⟩
section VROWS
variable {p : Program} {l : Launch} {e : Env} {R : Room} {s : State} {m : MethodId} {args : Array Value} {below : List Frame} {meth : Method} {c : Code} {w : KW} {cL cD : ClassId} {qo : Nat} {cc : ByteArray} {nL : Nat} {hh : List (Nat × Nat × Nat × Nat)} {d : Nat} {Q : State → Prop} {f : kMem} {o : va_E} {pc : Nat} {H : Heap} {locs : List Loc} {ls : Array Slot} {st rest : List Value} {lv : List (Nat × Value)}
theorem V_call (C : VC p l e R s m args below meth c w cL cD qo cc nL hh d) {y : MethodName} {b1 : ByteArray} {nL1 : Nat} {ret1 : Option FieldType} {d1 idx n : Nat} {As : List Value} {z : Nat × Value × kMem} (hY : kYV y b1 nL1 ret1 n) (hcls : y.cls = RX11) (hlink : Cond.methodLink RL idx y ∈ kGT) (h291 : 291 < kn w) {fl : List (Option Nat)} (hsh : ksh w 291 = .inr (13, fl)) (hd1 : d1 < d) (hM : kxMetV l w y b1 nL1 ret1 d1 2 12 (.ref (kad w 291) :: As) f z) (hn : As.length = n) (hst : st = As.reverse ++ .ref (kad w 291) :: rest) (hrest : (rest.map fun v => v.category).sum ≤ 8) (hdg : decode cc pc = .ok (.invokevirtual idx, 3))
    (hP : va_P w.1.1 vwCl (kw w f ++ [(qo, o)]) H) (hD : va_D (VA w qo s.heap.size) (kw w f ++ [(qo, o)])) (hS : va_S (VA w qo s.heap.size) s.heap H locs) (hl : lv_has ls nL lv)
    (kk : z.1 = 0 → ∀ (H1 : Heap) (locs1 : List Loc), va_P w.1.1 vwCl (kw w z.2.2 ++ [(qo, o)]) H1 → va_D (VA w qo s.heap.size) (kw w z.2.2 ++ [(qo, o)]) → va_S (VA w qo s.heap.size) s.heap H1 locs1 → W p l e R s m args below meth c H1 locs1 2 12 Q (F0 m (pc + 3) ls (z.2.1 :: rest)))
    (kx : z.1 ≠ 0 → ∀ (ce : Cell) (q9 : Addr) (H1 : Heap) (locs1 : List Loc), va_P w.1.1 vwCl (kw w z.2.2 ++ [(qo, o)]) H1 → va_D (VA w qo s.heap.size) (kw w z.2.2 ++ [(qo, o)]) → va_S (VA w qo s.heap.size) s.heap H1 locs1 → H1[q9]? = some ce → ce.vm = .none → s.vm.findClass (kE z.1) = some ce.cls → vx_W p l e R s m args below meth c H1 locs1 2 12 Q (F0 m pc ls rest) q9) : W p l e R s m args below meth c H locs 0 0 Q (F0 m pc ls st) := by
  subst hst
  obtain ⟨cf, hE, hr, hlocks, hR9, htab, hst⟩ := C
  have hR : (kRm d1 2 12).frames + 1 ≤ R.frames ∧ 8 + (nL1 + 11) + (kRm d1 2 12).locals ≤ R.locals := by
    rw [hR9]
    have := hY.1.2.2.2
    exact ⟨hd1, by show 8 + (nL1 + 11) + 64 * d1 ≤ 64 * d; omega⟩
  have hts := cf.2.2.2.2
  have hsub : ∀ q, kA w H.size q → VA w qo s.heap.size q := fun q h => Or.inl (kA_mono hS.1 h)
  have hPw : va_P w.1.1 vwCl (kw w f) H := vP_mem.mpr fun q hq => vP_mem.mp hP q (List.mem_append_left _ hq)
  have hK3 : va_K w.1.1 vwCl (ktys w) s := hE.1.sub [0, 1, 2] rfl
  have hrun := vx_runV (C := y.cls) (As := As) (rest := rest) (g := F0 m pc ls (As.reverse ++ .ref (kad w 291) :: rest)) (H := H) (locs := locs) (cells := 0) (slots := 0) (e := e) (below := below) (meth := meth) cf (hM H.size) ⟨(callB_of n hts (kcode_in hY.1.1) rfl rfl rfl (hts _ hY.1.2.1) (hts _ hlink) hY.1.2.2.1 hR), hts _ hY.2.1, hts _ hY.2.2⟩ ⟨kxblind, (by rw [hcls]; exact va_recv hK3 hPw (ci := 13) rfl (kw_obj h291 hsh)), fun U hU hW => ⟨rfl, by rw [hU], kBx_of hW hU hE hS.2.1 hsub hP hD⟩⟩ rfl hn (hl.1.trans rfl) rfl (lv_room hrest) hdg (by rw [hR9]; exact ⟨Nat.le_refl 2, Nat.le_refl 12⟩)
  intro T hT X
  have go : ∀ (t T' : State) (L : List Loc), T'.heap = t.heap → (∀ q ∈ L, kA w H.size q.base) → H.size ≤ t.heap.size → (∀ q : Nat, q < H.size → ¬ kA w H.size q → t.heap[q]? = H[q]?) → va_S (VA w qo s.heap.size) s.heap T'.heap (locs ++ L) := fun t T' L e1 hL hz hk =>
    ⟨Nat.le_trans hS.1 (by rw [e1]; exact hz), fun q h1 h2 => by rw [e1, hk q (Nat.lt_of_lt_of_le h1 hS.1) (fun z => h2 (hsub q z))]; exact hS.2.1 q h1 h2, fun q hq => by
      rcases List.mem_append.mp hq with h | h
      · exact hS.2.2 q h
      · exact hsub _ (hL q h)⟩
  rcases hrun T hT X with ⟨v, st₀, t, T', L, h0, X', hL, e1, e2, ⟨hk9, hv, hp, hz, hk⟩, st⟩ | ⟨q, st₀, t, T', L, E, ce, h0, X', hL, e1, e2, ⟨hk9, hE9, hp, hz, hk⟩, hce, hcv, hcl, st⟩
  · injection hv with hv
    subst hv
    rw [h0] at hz hk
    obtain ⟨hP2, hD2⟩ := kframe hP hD (H1 := T'.heap) (fun q h1 h2 => by rw [e1]; exact hk q h1 h2) (by rw [e1]; exact hp)
    obtain ⟨t2, a1, b1⟩ := kk hk9 T'.heap (locs ++ L) hP2 hD2 (go t T' L e1 hL hz hk) T' rfl X'
    exact ⟨t2, st t2 a1, b1⟩
  · subst hE9
    rw [h0] at hz hk
    obtain ⟨hP2, hD2⟩ := kframe hP hD (H1 := T'.heap) (fun q h1 h2 => by rw [e1]; exact hk q h1 h2) (by rw [e1]; exact hp)
    obtain ⟨t2, a1, b1⟩ := kx hk9 ce q T'.heap (locs ++ L) hP2 hD2 (go t T' L e1 hL hz hk) (by rw [e1]; exact hce) hcv hcl T' rfl X'
    exact ⟨t2, st.trans a1, b1⟩
end VROWS
def oL (cL : ClassId) (lo : Nat → Int64) : va_E := .inl (cL, 1, .inr (.inl lo))
def oD (cD : ClassId) (ld : Nat → UInt64) : va_E := .inl (cD, 1, .inr (.inr (.inr (.inl ld))))
def kcd (ks : List Nat) (n : Nat) : Int32 := if n = 0 then 0 else Int32.ofNat (ks.idxOf n + 1)
theorem kw_last {w : KW} {f : kMem} {x : Nat × va_E} : (kw w f ++ [x])[kn w]? = some x := by
  have h : (kw w f).length = kn w := by simp [kw]
  rw [List.getElem?_append_right (by omega), h, Nat.sub_self]
  rfl
theorem kw_lset {w : KW} {f : kMem} {x y : Nat × va_E} : (kw w f ++ [x]).set (kn w) y = kw w f ++ [y] := by
  have h : (kw w f).length = kn w := by simp [kw]
  rw [List.set_append_right _ _ (by omega), h, Nat.sub_self]
  rfl
section VR2
variable {p : Program} {l : Launch} {e : Env} {R : Room} {s : State} {m : MethodId} {args : Array Value} {below : List Frame} {meth : Method} {c : Code} {w : KW} {cL cD : ClassId} {qo : Nat} {cc : ByteArray} {nL : Nat} {hh : List (Nat × Nat × Nat × Nat)} {d : Nat} {Q : State → Prop} {f : kMem} {o : va_E} {pc : Nat} {H : Heap} {locs : List Loc} {ls : Array Slot} {rest : List Value}
theorem V_last (C : VC p l e R s m args below meth c w cL cD qo cc nL hh d) {lo : Nat → Int64} {x : Int64} {k n : Nat} (hP : va_P w.1.1 vwCl (kw w f ++ [(qo, oL cL lo)]) H) (hD : va_D (VA w qo s.heap.size) (kw w f ++ [(qo, oL cL lo)])) (hS : va_S (VA w qo s.heap.size) s.heap H locs) (hdg : decode cc pc = .ok (.lastore, 1))
    (kk : ∀ (H1 : Heap) (locs1 : List Loc), va_P w.1.1 vwCl (kw w f ++ [(qo, oL cL (vp_updL lo 0 x))]) H1 → va_S (VA w qo s.heap.size) s.heap H1 locs1 → W p l e R s m args below meth c H1 locs1 k n Q (F0 m (pc + 1) ls rest)) : W p l e R s m args below meth c H locs k n Q (F0 m pc ls (.long x :: .int 0 :: .ref qo :: rest)) := by
  refine va_last C.1.1 C.1.2.1 C.2.1.1 hP hD hS (kn w) 3 kw_last rfl (kin_in (by decide)) hdg (fun H1 locs1 hP1 hD1 hS1 => ?_)
  rw [kw_lset] at hP1
  exact kk H1 locs1 hP1 hS1
theorem V_dast (C : VC p l e R s m args below meth c w cL cD qo cc nL hh d) {ld : Nat → UInt64} {x : UInt64} {k n : Nat} (hP : va_P w.1.1 vwCl (kw w f ++ [(qo, oD cD ld)]) H) (hD : va_D (VA w qo s.heap.size) (kw w f ++ [(qo, oD cD ld)])) (hS : va_S (VA w qo s.heap.size) s.heap H locs) (hdg : decode cc pc = .ok (.dastore, 1))
    (kk : ∀ (H1 : Heap) (locs1 : List Loc), va_P w.1.1 vwCl (kw w f ++ [(qo, oD cD (vf_upd ld 0 x))]) H1 → va_S (VA w qo s.heap.size) s.heap H1 locs1 → W p l e R s m args below meth c H1 locs1 k n Q (F0 m (pc + 1) ls rest)) : W p l e R s m args below meth c H locs k n Q (F0 m pc ls (.double x :: .int 0 :: .ref qo :: rest)) := by
  refine va_dast C.1.1 C.1.2.1 C.2.1.1 hP hD hS (kn w) 4 kw_last rfl (kin_in (by decide)) hdg (fun H1 locs1 hP1 hD1 hS1 => ?_)
  rw [kw_lset] at hP1
  exact kk H1 locs1 hP1 hS1
theorem V_ret (C : VC p l e R s m args below meth c w cL cD qo cc nL hh d) {kr : Int32} {fo : kMem} {oo : va_E} (hP : va_P w.1.1 vwCl (kw w fo ++ [(qo, oo)]) H) (hS : va_S (VA w qo s.heap.size) s.heap H locs) (hdg : decode cc pc = .ok (.ireturn, 1)) : W p l e R s m args below meth c H locs 2 12 (MQ below (kLQ w qo kr fo oo s.heap.size) args s 2 12 (VA w qo s.heap.size)) (F0 m pc ls [.int kr]) :=
  W.iret (v := kr) C.1.1 C.1.2.1 C.2.2.1 (fun t ht hW => ⟨rfl, by rw [ht]; exact hP, hS.F ht⟩) hS.2.2 hdg C.2.2.2.1
theorem V_cast (C : VC p l e R s m args below meth c w cL cD qo cc nL hh d) {k : Nat} (hk : Cond.castable (kE k) (kE k) ∈ kXN) : (Cond.castable (kE k) (kE k)).before args s = true := va_Nw.use rfl (C.2.1.2.2.2.1.2.2.2 _ hk)
end VR2
theorem wm_RL_7 : Cond.methodLink RL 7 yX11_append ∈ kGT := kgt (List.mem_of_getElem? (i := 471) (by decide +kernel)) rfl
theorem hy_X11_append : kYV yX11_append cX11_append 2 (some .int) 1 := ⟨⟨kgt (List.mem_of_getElem? (i := 474) (by decide +kernel)) rfl, kgt (List.mem_of_getElem? (i := 59) (by decide +kernel)) rfl, by decide +kernel, by decide⟩, kgt (List.mem_of_getElem? (i := 472) (by decide +kernel)) rfl, kgt (List.mem_of_getElem? (i := 473) (by decide +kernel)) rfl⟩
theorem wcl_RL_13 : Cond.classLink RL 13 (kE 1) ∈ kGT := kgt (List.mem_of_getElem? (i := 470) (by decide +kernel)) rfl
set_option maxRecDepth 100000 in
set_option maxHeartbeats 4000000 in
theorem wl_append (l : Launch) (hst : l.stackTraces = false) (G : kG) (ad : Nat → Nat) (cL cD : ClassId) (qo : Nat) (f : kMem) (x1 : Int32) (lo : Nat → Int64) (z : kXr) (h : cx_X11_append f x1 = some z) (hz : z.1 = 0 ∨ z.1 = 1) : kLMet l (wC G ad) cL cD qo yL_append cL_append 4 [(0, 9, 12, 13)] 7 [.ref (kad (wC G ad) 291), .int x1, .ref qo] f (oL cL lo) (kcd [1] z.1) z.2.2 (if z.1 = 0 then oL cL (vp_updL lo 0 z.2.1.toInt64) else oL cL lo) := by
  refine kLMet_of (lv := [(0, .ref (kad (wC G ad) 291)), (1, .int x1), (2, .ref qo)]) hst (by decide) rfl (Nat.le_of_ble_eq_true rfl) rfl ?_
  intro p e R s m args below meth c ls C hP hD hS hl
  have hx := C.1.1
  have hb := C.1.2.1
  refine lv_aload_n hx hb dL_append_0 rfl (lv_at hl 2 rfl) ?_
  refine lv_iconst (v := 0) hx hb dL_append_1 (by decide) ?_
  refine lv_aload_n hx hb dL_append_2 rfl (lv_at hl 0 rfl) ?_
  refine lv_iload_n hx hb dL_append_3 rfl (lv_at hl 1 rfl) ?_
  refine V_call C hy_X11_append rfl wm_RL_7 (Nat.le_of_ble_eq_true rfl) (shC_291 G ad) (by decide) (kxMetV_int (kmx_X11_append l hst G ad f x1 z h)) (As := [.int x1]) (rest := [.int 0, .ref qo]) rfl rfl (Nat.le_of_ble_eq_true rfl) dL_append_4 hP hD hS hl (fun h0 H1 locs1 hP1 hD1 hS1 => ?_) (fun h0 ce q9 H1 locs1 hP1 hD1 hS1 hce hcv hcl => ?_)
  · refine lv_i2l hx hb dL_append_7 rfl ?_
    refine V_last C hP1 hD1 hS1 dL_append_8 (fun H2 locs2 hP2 hS2 => ?_)
    refine lv_goto (tgt := 15) hx hb dL_append_9 (by decide) ?_
    refine lv_iconst (v := 0) hx hb dL_append_15 (by decide) ?_
    rw [show kcd [1] z.1 = 0 by rw [h0]; rfl, if_pos h0]
    exact V_ret C hP2 hS2 dL_append_16
  · rw [if_neg h0]
    rcases hz with h9 | h9
    · exact absurd h9 h0
    · rw [h9] at hcl
      rw [show kcd [1] z.1 = 1 by rw [h9]; rfl]
      refine vx_catch (own := RL) (name := kE 1) (E := kE 1) C.1.2.2.2.1 [] ⟨0, 9, 12, 13⟩ [] C.2.2.2.2.2.1 (fun z9 hz9 => nomatch hz9) rfl (by decide) (C.1.2.2.2.2 _ wcl_RL_13) (V_cast C (by decide +kernel)) hce hcv hcl ?_
      refine lv_astore_n (lv' := [(3, .ref q9), (0, .ref (kad (wC G ad) 291)), (1, .int x1), (2, .ref qo)]) hx hb dL_append_12 rfl hl (by decide) rfl (fun ls hl => ?_)
      refine lv_iconst (v := 1) hx hb dL_append_13 (by decide) ?_
      exact V_ret C hP1 hS1 dL_append_14
theorem wm_RL_15 : Cond.methodLink RL 15 yX11_colour ∈ kGT := kgt (List.mem_of_getElem? (i := 555) (by decide +kernel)) rfl
theorem hy_X11_colour : kYV yX11_colour cX11_colour 2 (some .int) 1 := ⟨⟨kgt (List.mem_of_getElem? (i := 558) (by decide +kernel)) rfl, kgt (List.mem_of_getElem? (i := 59) (by decide +kernel)) rfl, by decide +kernel, by decide⟩, kgt (List.mem_of_getElem? (i := 556) (by decide +kernel)) rfl, kgt (List.mem_of_getElem? (i := 557) (by decide +kernel)) rfl⟩
theorem wcl_RL_19 : Cond.classLink RL 19 (kE 4) ∈ kGT := kgt (List.mem_of_getElem? (i := 554) (by decide +kernel)) rfl
set_option maxRecDepth 100000 in
set_option maxHeartbeats 4000000 in
theorem wl_colour (l : Launch) (hst : l.stackTraces = false) (G : kG) (ad : Nat → Nat) (cL cD : ClassId) (qo : Nat) (f : kMem) (x1 : Int32) (lo : Nat → Int64) (z : kXr) (h : cx_X11_colour f x1 = some z) (hz : z.1 = 0 ∨ z.1 = 4) : kLMet l (wC G ad) cL cD qo yL_colour cL_colour 4 [(0, 9, 12, 19)] 8 [.ref (kad (wC G ad) 291), .int x1, .ref qo] f (oL cL lo) (kcd [4] z.1) z.2.2 (if z.1 = 0 then oL cL (vp_updL lo 0 z.2.1.toInt64) else oL cL lo) := by
  refine kLMet_of (lv := [(0, .ref (kad (wC G ad) 291)), (1, .int x1), (2, .ref qo)]) hst (by decide) rfl (Nat.le_of_ble_eq_true rfl) rfl ?_
  intro p e R s m args below meth c ls C hP hD hS hl
  have hx := C.1.1
  have hb := C.1.2.1
  refine lv_aload_n hx hb dL_colour_0 rfl (lv_at hl 2 rfl) ?_
  refine lv_iconst (v := 0) hx hb dL_colour_1 (by decide) ?_
  refine lv_aload_n hx hb dL_colour_2 rfl (lv_at hl 0 rfl) ?_
  refine lv_iload_n hx hb dL_colour_3 rfl (lv_at hl 1 rfl) ?_
  refine V_call C hy_X11_colour rfl wm_RL_15 (Nat.le_of_ble_eq_true rfl) (shC_291 G ad) (by decide) (kxMetV_int (kmx_X11_colour l hst G ad f x1 z h)) (As := [.int x1]) (rest := [.int 0, .ref qo]) rfl rfl (Nat.le_of_ble_eq_true rfl) dL_colour_4 hP hD hS hl (fun h0 H1 locs1 hP1 hD1 hS1 => ?_) (fun h0 ce q9 H1 locs1 hP1 hD1 hS1 hce hcv hcl => ?_)
  · refine lv_i2l hx hb dL_colour_7 rfl ?_
    refine V_last C hP1 hD1 hS1 dL_colour_8 (fun H2 locs2 hP2 hS2 => ?_)
    refine lv_goto (tgt := 15) hx hb dL_colour_9 (by decide) ?_
    refine lv_iconst (v := 0) hx hb dL_colour_15 (by decide) ?_
    rw [show kcd [4] z.1 = 0 by rw [h0]; rfl, if_pos h0]
    exact V_ret C hP2 hS2 dL_colour_16
  · rw [if_neg h0]
    rcases hz with h9 | h9
    · exact absurd h9 h0
    · rw [h9] at hcl
      rw [show kcd [4] z.1 = 1 by rw [h9]; rfl]
      refine vx_catch (own := RL) (name := kE 4) (E := kE 4) C.1.2.2.2.1 [] ⟨0, 9, 12, 19⟩ [] C.2.2.2.2.2.1 (fun z9 hz9 => nomatch hz9) rfl (by decide) (C.1.2.2.2.2 _ wcl_RL_19) (V_cast C (by decide +kernel)) hce hcv hcl ?_
      refine lv_astore_n (lv' := [(3, .ref q9), (0, .ref (kad (wC G ad) 291)), (1, .int x1), (2, .ref qo)]) hx hb dL_colour_12 rfl hl (by decide) rfl (fun ls hl => ?_)
      refine lv_iconst (v := 1) hx hb dL_colour_13 (by decide) ?_
      exact V_ret C hP1 hS1 dL_colour_14
theorem wm_RL_21 : Cond.methodLink RL 21 yX11_part ∈ kGT := kgt (List.mem_of_getElem? (i := 610) (by decide +kernel)) rfl
theorem hy_X11_part : kYV yX11_part cX11_part 2 (some .int) 1 := ⟨⟨kgt (List.mem_of_getElem? (i := 613) (by decide +kernel)) rfl, kgt (List.mem_of_getElem? (i := 59) (by decide +kernel)) rfl, by decide +kernel, by decide⟩, kgt (List.mem_of_getElem? (i := 611) (by decide +kernel)) rfl, kgt (List.mem_of_getElem? (i := 612) (by decide +kernel)) rfl⟩
set_option maxRecDepth 100000 in
set_option maxHeartbeats 4000000 in
theorem wl_part (l : Launch) (hst : l.stackTraces = false) (G : kG) (ad : Nat → Nat) (cL cD : ClassId) (qo : Nat) (f : kMem) (x1 : Int32) (lo : Nat → Int64) (z : kXr) (h : cx_X11_part f x1 = some z) (hz : z.1 = 0 ∨ z.1 = 4) : kLMet l (wC G ad) cL cD qo yL_part cL_part 4 [(0, 9, 12, 19)] 8 [.ref (kad (wC G ad) 291), .int x1, .ref qo] f (oL cL lo) (kcd [4] z.1) z.2.2 (if z.1 = 0 then oL cL (vp_updL lo 0 z.2.1.toInt64) else oL cL lo) := by
  refine kLMet_of (lv := [(0, .ref (kad (wC G ad) 291)), (1, .int x1), (2, .ref qo)]) hst (by decide) rfl (Nat.le_of_ble_eq_true rfl) rfl ?_
  intro p e R s m args below meth c ls C hP hD hS hl
  have hx := C.1.1
  have hb := C.1.2.1
  refine lv_aload_n hx hb dL_part_0 rfl (lv_at hl 2 rfl) ?_
  refine lv_iconst (v := 0) hx hb dL_part_1 (by decide) ?_
  refine lv_aload_n hx hb dL_part_2 rfl (lv_at hl 0 rfl) ?_
  refine lv_iload_n hx hb dL_part_3 rfl (lv_at hl 1 rfl) ?_
  refine V_call C hy_X11_part rfl wm_RL_21 (Nat.le_of_ble_eq_true rfl) (shC_291 G ad) (by decide) (kxMetV_int (kmx_X11_part l hst G ad f x1 z h)) (As := [.int x1]) (rest := [.int 0, .ref qo]) rfl rfl (Nat.le_of_ble_eq_true rfl) dL_part_4 hP hD hS hl (fun h0 H1 locs1 hP1 hD1 hS1 => ?_) (fun h0 ce q9 H1 locs1 hP1 hD1 hS1 hce hcv hcl => ?_)
  · refine lv_i2l hx hb dL_part_7 rfl ?_
    refine V_last C hP1 hD1 hS1 dL_part_8 (fun H2 locs2 hP2 hS2 => ?_)
    refine lv_goto (tgt := 15) hx hb dL_part_9 (by decide) ?_
    refine lv_iconst (v := 0) hx hb dL_part_15 (by decide) ?_
    rw [show kcd [4] z.1 = 0 by rw [h0]; rfl, if_pos h0]
    exact V_ret C hP2 hS2 dL_part_16
  · rw [if_neg h0]
    rcases hz with h9 | h9
    · exact absurd h9 h0
    · rw [h9] at hcl
      rw [show kcd [4] z.1 = 1 by rw [h9]; rfl]
      refine vx_catch (own := RL) (name := kE 4) (E := kE 4) C.1.2.2.2.1 [] ⟨0, 9, 12, 19⟩ [] C.2.2.2.2.2.1 (fun z9 hz9 => nomatch hz9) rfl (by decide) (C.1.2.2.2.2 _ wcl_RL_19) (V_cast C (by decide +kernel)) hce hcv hcl ?_
      refine lv_astore_n (lv' := [(3, .ref q9), (0, .ref (kad (wC G ad) 291)), (1, .int x1), (2, .ref qo)]) hx hb dL_part_12 rfl hl (by decide) rfl (fun ls hl => ?_)
      refine lv_iconst (v := 1) hx hb dL_part_13 (by decide) ?_
      exact V_ret C hP1 hS1 dL_part_14
theorem wm_RL_24 : Cond.methodLink RL 24 yX11_family ∈ kGT := kgt (List.mem_of_getElem? (i := 622) (by decide +kernel)) rfl
theorem hy_X11_family : kYV yX11_family cX11_family 2 (some .int) 0 := ⟨⟨kgt (List.mem_of_getElem? (i := 625) (by decide +kernel)) rfl, kgt (List.mem_of_getElem? (i := 59) (by decide +kernel)) rfl, by decide +kernel, by decide⟩, kgt (List.mem_of_getElem? (i := 623) (by decide +kernel)) rfl, kgt (List.mem_of_getElem? (i := 624) (by decide +kernel)) rfl⟩
theorem wcl_RL_28 : Cond.classLink RL 28 (kE 2) ∈ kGT := kgt (List.mem_of_getElem? (i := 621) (by decide +kernel)) rfl
set_option maxRecDepth 100000 in
set_option maxHeartbeats 4000000 in
theorem wl_family (l : Launch) (hst : l.stackTraces = false) (G : kG) (ad : Nat → Nat) (cL cD : ClassId) (qo : Nat) (f : kMem) (lo : Nat → Int64) (z : kXr) (h : cx_X11_family f = some z) (hz : z.1 = 0 ∨ z.1 = 2 ∨ z.1 = 4) : kLMet l (wC G ad) cL cD qo yL_family cL_family 3 [(0, 8, 11, 28), (0, 8, 14, 19)] 8 [.ref (kad (wC G ad) 291), .ref qo] f (oL cL lo) (kcd [2, 4] z.1) z.2.2 (if z.1 = 0 then oL cL (vp_updL lo 0 z.2.1.toInt64) else oL cL lo) := by
  refine kLMet_of (lv := [(0, .ref (kad (wC G ad) 291)), (1, .ref qo)]) hst (by decide) rfl (Nat.le_of_ble_eq_true rfl) rfl ?_
  intro p e R s m args below meth c ls C hP hD hS hl
  have hx := C.1.1
  have hb := C.1.2.1
  refine lv_aload_n hx hb dL_family_0 rfl (lv_at hl 1 rfl) ?_
  refine lv_iconst (v := 0) hx hb dL_family_1 (by decide) ?_
  refine lv_aload_n hx hb dL_family_2 rfl (lv_at hl 0 rfl) ?_
  refine V_call C hy_X11_family rfl wm_RL_24 (Nat.le_of_ble_eq_true rfl) (shC_291 G ad) (by decide) (kxMetV_int (kmx_X11_family l hst G ad f z h)) (As := []) (rest := [.int 0, .ref qo]) rfl rfl (Nat.le_of_ble_eq_true rfl) dL_family_3 hP hD hS hl (fun h0 H1 locs1 hP1 hD1 hS1 => ?_) (fun h0 ce q9 H1 locs1 hP1 hD1 hS1 hce hcv hcl => ?_)
  · refine lv_i2l hx hb dL_family_6 rfl ?_
    refine V_last C hP1 hD1 hS1 dL_family_7 (fun H2 locs2 hP2 hS2 => ?_)
    refine lv_goto (tgt := 17) hx hb dL_family_8 (by decide) ?_
    refine lv_iconst (v := 0) hx hb dL_family_17 (by decide) ?_
    rw [show kcd [2, 4] z.1 = 0 by rw [h0]; rfl, if_pos h0]
    exact V_ret C hP2 hS2 dL_family_18
  · rw [if_neg h0]
    rcases hz with h9 | h9 | h9
    · exact absurd h9 h0
    · rw [h9] at hcl
      rw [show kcd [2, 4] z.1 = 1 by rw [h9]; rfl]
      refine vx_catch (own := RL) (name := kE 2) (E := kE 2) C.1.2.2.2.1 [] ⟨0, 8, 11, 28⟩ [⟨0, 8, 14, 19⟩] C.2.2.2.2.2.1 (fun z9 hz9 => nomatch hz9) rfl (by decide) (C.1.2.2.2.2 _ wcl_RL_28) (V_cast C (by decide +kernel)) hce hcv hcl ?_
      refine lv_astore_n (lv' := [(2, .ref q9), (0, .ref (kad (wC G ad) 291)), (1, .ref qo)]) hx hb dL_family_11 rfl hl (by decide) rfl (fun ls hl => ?_)
      refine lv_iconst (v := 1) hx hb dL_family_12 (by decide) ?_
      exact V_ret C hP1 hS1 dL_family_13
    · rw [h9] at hcl
      rw [show kcd [2, 4] z.1 = 2 by rw [h9]; rfl]
      refine vx_catch (own := RL) (name := kE 4) (E := kE 4) C.1.2.2.2.1 [⟨0, 8, 11, 28⟩] ⟨0, 8, 14, 19⟩ [] C.2.2.2.2.2.1 (fun z9 hz9 => by
      simp only [List.mem_cons, List.not_mem_nil, or_false] at hz9
      rcases hz9 with rfl
      · exact Or.inr ⟨by decide, kE 2, C.1.2.2.2.2 _ wcl_RL_28, C.2.1.2.2.2.2 4 2 (by decide) (by decide) (by decide)⟩) rfl (by decide) (C.1.2.2.2.2 _ wcl_RL_19) (V_cast C (by decide +kernel)) hce hcv hcl ?_
      refine lv_astore_n (lv' := [(2, .ref q9), (0, .ref (kad (wC G ad) 291)), (1, .ref qo)]) hx hb dL_family_14 rfl hl (by decide) rfl (fun ls hl => ?_)
      refine lv_iconst (v := 2) hx hb dL_family_15 (by decide) ?_
      exact V_ret C hP1 hS1 dL_family_16
theorem wm_RL_30 : Cond.methodLink RL 30 yX11_program ∈ kGT := kgt (List.mem_of_getElem? (i := 718) (by decide +kernel)) rfl
theorem hy_X11_program : kYV yX11_program cX11_program 3 (some .int) 0 := ⟨⟨kgt (List.mem_of_getElem? (i := 721) (by decide +kernel)) rfl, kgt (List.mem_of_getElem? (i := 59) (by decide +kernel)) rfl, by decide +kernel, by decide⟩, kgt (List.mem_of_getElem? (i := 719) (by decide +kernel)) rfl, kgt (List.mem_of_getElem? (i := 720) (by decide +kernel)) rfl⟩
set_option maxRecDepth 100000 in
set_option maxHeartbeats 4000000 in
theorem wl_program (l : Launch) (hst : l.stackTraces = false) (G : kG) (ad : Nat → Nat) (cL cD : ClassId) (qo : Nat) (f : kMem) (lo : Nat → Int64) (z : kXr) (h : cx_X11_program f = some z) (hz : z.1 = 0 ∨ z.1 = 2 ∨ z.1 = 4) : kLMet l (wC G ad) cL cD qo yL_program cL_program 3 [(0, 8, 11, 28), (0, 8, 14, 19)] 8 [.ref (kad (wC G ad) 291), .ref qo] f (oL cL lo) (kcd [2, 4] z.1) z.2.2 (if z.1 = 0 then oL cL (vp_updL lo 0 z.2.1.toInt64) else oL cL lo) := by
  refine kLMet_of (lv := [(0, .ref (kad (wC G ad) 291)), (1, .ref qo)]) hst (by decide) rfl (Nat.le_of_ble_eq_true rfl) rfl ?_
  intro p e R s m args below meth c ls C hP hD hS hl
  have hx := C.1.1
  have hb := C.1.2.1
  refine lv_aload_n hx hb dL_program_0 rfl (lv_at hl 1 rfl) ?_
  refine lv_iconst (v := 0) hx hb dL_program_1 (by decide) ?_
  refine lv_aload_n hx hb dL_program_2 rfl (lv_at hl 0 rfl) ?_
  refine V_call C hy_X11_program rfl wm_RL_30 (Nat.le_of_ble_eq_true rfl) (shC_291 G ad) (by decide) (kxMetV_int (kmx_X11_program l hst G ad f z h)) (As := []) (rest := [.int 0, .ref qo]) rfl rfl (Nat.le_of_ble_eq_true rfl) dL_program_3 hP hD hS hl (fun h0 H1 locs1 hP1 hD1 hS1 => ?_) (fun h0 ce q9 H1 locs1 hP1 hD1 hS1 hce hcv hcl => ?_)
  · refine lv_i2l hx hb dL_program_6 rfl ?_
    refine V_last C hP1 hD1 hS1 dL_program_7 (fun H2 locs2 hP2 hS2 => ?_)
    refine lv_goto (tgt := 17) hx hb dL_program_8 (by decide) ?_
    refine lv_iconst (v := 0) hx hb dL_program_17 (by decide) ?_
    rw [show kcd [2, 4] z.1 = 0 by rw [h0]; rfl, if_pos h0]
    exact V_ret C hP2 hS2 dL_program_18
  · rw [if_neg h0]
    rcases hz with h9 | h9 | h9
    · exact absurd h9 h0
    · rw [h9] at hcl
      rw [show kcd [2, 4] z.1 = 1 by rw [h9]; rfl]
      refine vx_catch (own := RL) (name := kE 2) (E := kE 2) C.1.2.2.2.1 [] ⟨0, 8, 11, 28⟩ [⟨0, 8, 14, 19⟩] C.2.2.2.2.2.1 (fun z9 hz9 => nomatch hz9) rfl (by decide) (C.1.2.2.2.2 _ wcl_RL_28) (V_cast C (by decide +kernel)) hce hcv hcl ?_
      refine lv_astore_n (lv' := [(2, .ref q9), (0, .ref (kad (wC G ad) 291)), (1, .ref qo)]) hx hb dL_program_11 rfl hl (by decide) rfl (fun ls hl => ?_)
      refine lv_iconst (v := 1) hx hb dL_program_12 (by decide) ?_
      exact V_ret C hP1 hS1 dL_program_13
    · rw [h9] at hcl
      rw [show kcd [2, 4] z.1 = 2 by rw [h9]; rfl]
      refine vx_catch (own := RL) (name := kE 4) (E := kE 4) C.1.2.2.2.1 [⟨0, 8, 11, 28⟩] ⟨0, 8, 14, 19⟩ [] C.2.2.2.2.2.1 (fun z9 hz9 => by
      simp only [List.mem_cons, List.not_mem_nil, or_false] at hz9
      rcases hz9 with rfl
      · exact Or.inr ⟨by decide, kE 2, C.1.2.2.2.2 _ wcl_RL_28, C.2.1.2.2.2.2 4 2 (by decide) (by decide) (by decide)⟩) rfl (by decide) (C.1.2.2.2.2 _ wcl_RL_19) (V_cast C (by decide +kernel)) hce hcv hcl ?_
      refine lv_astore_n (lv' := [(2, .ref q9), (0, .ref (kad (wC G ad) 291)), (1, .ref qo)]) hx hb dL_program_14 rfl hl (by decide) rfl (fun ls hl => ?_)
      refine lv_iconst (v := 2) hx hb dL_program_15 (by decide) ?_
      exact V_ret C hP1 hS1 dL_program_16
theorem wm_RL_33 : Cond.methodLink RL 33 yX11_mount ∈ kGT := kgt (List.mem_of_getElem? (i := 869) (by decide +kernel)) rfl
theorem hy_X11_mount : kYV yX11_mount cX11_mount 2 (some .int) 1 := ⟨⟨kgt (List.mem_of_getElem? (i := 872) (by decide +kernel)) rfl, kgt (List.mem_of_getElem? (i := 59) (by decide +kernel)) rfl, by decide +kernel, by decide⟩, kgt (List.mem_of_getElem? (i := 870) (by decide +kernel)) rfl, kgt (List.mem_of_getElem? (i := 871) (by decide +kernel)) rfl⟩
set_option maxRecDepth 100000 in
set_option maxHeartbeats 4000000 in
theorem wl_mount (l : Launch) (hst : l.stackTraces = false) (G : kG) (ad : Nat → Nat) (cL cD : ClassId) (qo : Nat) (f : kMem) (x1 : Int32) (lo : Nat → Int64) (z : kXr) (h : cx_X11_mount f x1 = some z) (hz : z.1 = 0 ∨ z.1 = 4) : kLMet l (wC G ad) cL cD qo yL_mount cL_mount 4 [(0, 9, 12, 19)] 8 [.ref (kad (wC G ad) 291), .int x1, .ref qo] f (oL cL lo) (kcd [4] z.1) z.2.2 (if z.1 = 0 then oL cL (vp_updL lo 0 z.2.1.toInt64) else oL cL lo) := by
  refine kLMet_of (lv := [(0, .ref (kad (wC G ad) 291)), (1, .int x1), (2, .ref qo)]) hst (by decide) rfl (Nat.le_of_ble_eq_true rfl) rfl ?_
  intro p e R s m args below meth c ls C hP hD hS hl
  have hx := C.1.1
  have hb := C.1.2.1
  refine lv_aload_n hx hb dL_mount_0 rfl (lv_at hl 2 rfl) ?_
  refine lv_iconst (v := 0) hx hb dL_mount_1 (by decide) ?_
  refine lv_aload_n hx hb dL_mount_2 rfl (lv_at hl 0 rfl) ?_
  refine lv_iload_n hx hb dL_mount_3 rfl (lv_at hl 1 rfl) ?_
  refine V_call C hy_X11_mount rfl wm_RL_33 (Nat.le_of_ble_eq_true rfl) (shC_291 G ad) (by decide) (kxMetV_int (kmx_X11_mount l hst G ad f x1 z h)) (As := [.int x1]) (rest := [.int 0, .ref qo]) rfl rfl (Nat.le_of_ble_eq_true rfl) dL_mount_4 hP hD hS hl (fun h0 H1 locs1 hP1 hD1 hS1 => ?_) (fun h0 ce q9 H1 locs1 hP1 hD1 hS1 hce hcv hcl => ?_)
  · refine lv_i2l hx hb dL_mount_7 rfl ?_
    refine V_last C hP1 hD1 hS1 dL_mount_8 (fun H2 locs2 hP2 hS2 => ?_)
    refine lv_goto (tgt := 15) hx hb dL_mount_9 (by decide) ?_
    refine lv_iconst (v := 0) hx hb dL_mount_15 (by decide) ?_
    rw [show kcd [4] z.1 = 0 by rw [h0]; rfl, if_pos h0]
    exact V_ret C hP2 hS2 dL_mount_16
  · rw [if_neg h0]
    rcases hz with h9 | h9
    · exact absurd h9 h0
    · rw [h9] at hcl
      rw [show kcd [4] z.1 = 1 by rw [h9]; rfl]
      refine vx_catch (own := RL) (name := kE 4) (E := kE 4) C.1.2.2.2.1 [] ⟨0, 9, 12, 19⟩ [] C.2.2.2.2.2.1 (fun z9 hz9 => nomatch hz9) rfl (by decide) (C.1.2.2.2.2 _ wcl_RL_19) (V_cast C (by decide +kernel)) hce hcv hcl ?_
      refine lv_astore_n (lv' := [(3, .ref q9), (0, .ref (kad (wC G ad) 291)), (1, .int x1), (2, .ref qo)]) hx hb dL_mount_12 rfl hl (by decide) rfl (fun ls hl => ?_)
      refine lv_iconst (v := 1) hx hb dL_mount_13 (by decide) ?_
      exact V_ret C hP1 hS1 dL_mount_14
theorem wm_RL_36 : Cond.methodLink RL 36 yX11_load ∈ kGT := kgt (List.mem_of_getElem? (i := 876) (by decide +kernel)) rfl
theorem hy_X11_load : kYV yX11_load cX11_load 4 (some .int) 3 := ⟨⟨kgt (List.mem_of_getElem? (i := 879) (by decide +kernel)) rfl, kgt (List.mem_of_getElem? (i := 59) (by decide +kernel)) rfl, by decide +kernel, by decide⟩, kgt (List.mem_of_getElem? (i := 877) (by decide +kernel)) rfl, kgt (List.mem_of_getElem? (i := 878) (by decide +kernel)) rfl⟩
set_option maxRecDepth 100000 in
set_option maxHeartbeats 4000000 in
theorem wl_load (l : Launch) (hst : l.stackTraces = false) (G : kG) (ad : Nat → Nat) (cL cD : ClassId) (qo : Nat) (f : kMem) (x1 x2 x3 : Int32) (lo : Nat → Int64) (z : kXr) (h : cx_X11_load f x1 x2 x3 = some z) (hz : z.1 = 0 ∨ z.1 = 4) : kLMet l (wC G ad) cL cD qo yL_load cL_load 6 [(0, 12, 15, 19)] 8 [.ref (kad (wC G ad) 291), .int x1, .int x2, .int x3, .ref qo] f (oL cL lo) (kcd [4] z.1) z.2.2 (if z.1 = 0 then oL cL (vp_updL lo 0 z.2.1.toInt64) else oL cL lo) := by
  refine kLMet_of (lv := [(0, .ref (kad (wC G ad) 291)), (1, .int x1), (2, .int x2), (3, .int x3), (4, .ref qo)]) hst (by decide) rfl (Nat.le_of_ble_eq_true rfl) rfl ?_
  intro p e R s m args below meth c ls C hP hD hS hl
  have hx := C.1.1
  have hb := C.1.2.1
  refine lv_aload hx hb dL_load_0 (lv_at hl 4 rfl) ?_
  refine lv_iconst (v := 0) hx hb dL_load_2 (by decide) ?_
  refine lv_aload_n hx hb dL_load_3 rfl (lv_at hl 0 rfl) ?_
  refine lv_iload_n hx hb dL_load_4 rfl (lv_at hl 1 rfl) ?_
  refine lv_iload_n hx hb dL_load_5 rfl (lv_at hl 2 rfl) ?_
  refine lv_iload_n hx hb dL_load_6 rfl (lv_at hl 3 rfl) ?_
  refine V_call C hy_X11_load rfl wm_RL_36 (Nat.le_of_ble_eq_true rfl) (shC_291 G ad) (by decide) (kxMetV_int (kmx_X11_load l hst G ad f x1 x2 x3 z h)) (As := [.int x1, .int x2, .int x3]) (rest := [.int 0, .ref qo]) rfl rfl (Nat.le_of_ble_eq_true rfl) dL_load_7 hP hD hS hl (fun h0 H1 locs1 hP1 hD1 hS1 => ?_) (fun h0 ce q9 H1 locs1 hP1 hD1 hS1 hce hcv hcl => ?_)
  · refine lv_i2l hx hb dL_load_10 rfl ?_
    refine V_last C hP1 hD1 hS1 dL_load_11 (fun H2 locs2 hP2 hS2 => ?_)
    refine lv_goto (tgt := 19) hx hb dL_load_12 (by decide) ?_
    refine lv_iconst (v := 0) hx hb dL_load_19 (by decide) ?_
    rw [show kcd [4] z.1 = 0 by rw [h0]; rfl, if_pos h0]
    exact V_ret C hP2 hS2 dL_load_20
  · rw [if_neg h0]
    rcases hz with h9 | h9
    · exact absurd h9 h0
    · rw [h9] at hcl
      rw [show kcd [4] z.1 = 1 by rw [h9]; rfl]
      refine vx_catch (own := RL) (name := kE 4) (E := kE 4) C.1.2.2.2.1 [] ⟨0, 12, 15, 19⟩ [] C.2.2.2.2.2.1 (fun z9 hz9 => nomatch hz9) rfl (by decide) (C.1.2.2.2.2 _ wcl_RL_19) (V_cast C (by decide +kernel)) hce hcv hcl ?_
      refine lv_astore (lv' := [(5, .ref q9), (0, .ref (kad (wC G ad) 291)), (1, .int x1), (2, .int x2), (3, .int x3), (4, .ref qo)]) hx hb dL_load_15 hl (by decide) rfl (fun ls hl => ?_)
      refine lv_iconst (v := 1) hx hb dL_load_17 (by decide) ?_
      exact V_ret C hP1 hS1 dL_load_18
theorem wm_RL_40 : Cond.methodLink RL 40 yX11_empty ∈ kGT := kgt (List.mem_of_getElem? (i := 883) (by decide +kernel)) rfl
theorem hy_X11_empty : kYV yX11_empty cX11_empty 2 (some .int) 1 := ⟨⟨kgt (List.mem_of_getElem? (i := 886) (by decide +kernel)) rfl, kgt (List.mem_of_getElem? (i := 59) (by decide +kernel)) rfl, by decide +kernel, by decide⟩, kgt (List.mem_of_getElem? (i := 884) (by decide +kernel)) rfl, kgt (List.mem_of_getElem? (i := 885) (by decide +kernel)) rfl⟩
set_option maxRecDepth 100000 in
set_option maxHeartbeats 4000000 in
theorem wl_empty (l : Launch) (hst : l.stackTraces = false) (G : kG) (ad : Nat → Nat) (cL cD : ClassId) (qo : Nat) (f : kMem) (x1 : Int32) (lo : Nat → Int64) (z : kXr) (h : cx_X11_empty f x1 = some z) (hz : z.1 = 0 ∨ z.1 = 4) : kLMet l (wC G ad) cL cD qo yL_empty cL_empty 4 [(0, 9, 12, 19)] 8 [.ref (kad (wC G ad) 291), .int x1, .ref qo] f (oL cL lo) (kcd [4] z.1) z.2.2 (if z.1 = 0 then oL cL (vp_updL lo 0 z.2.1.toInt64) else oL cL lo) := by
  refine kLMet_of (lv := [(0, .ref (kad (wC G ad) 291)), (1, .int x1), (2, .ref qo)]) hst (by decide) rfl (Nat.le_of_ble_eq_true rfl) rfl ?_
  intro p e R s m args below meth c ls C hP hD hS hl
  have hx := C.1.1
  have hb := C.1.2.1
  refine lv_aload_n hx hb dL_empty_0 rfl (lv_at hl 2 rfl) ?_
  refine lv_iconst (v := 0) hx hb dL_empty_1 (by decide) ?_
  refine lv_aload_n hx hb dL_empty_2 rfl (lv_at hl 0 rfl) ?_
  refine lv_iload_n hx hb dL_empty_3 rfl (lv_at hl 1 rfl) ?_
  refine V_call C hy_X11_empty rfl wm_RL_40 (Nat.le_of_ble_eq_true rfl) (shC_291 G ad) (by decide) (kxMetV_int (kmx_X11_empty l hst G ad f x1 z h)) (As := [.int x1]) (rest := [.int 0, .ref qo]) rfl rfl (Nat.le_of_ble_eq_true rfl) dL_empty_4 hP hD hS hl (fun h0 H1 locs1 hP1 hD1 hS1 => ?_) (fun h0 ce q9 H1 locs1 hP1 hD1 hS1 hce hcv hcl => ?_)
  · refine lv_i2l hx hb dL_empty_7 rfl ?_
    refine V_last C hP1 hD1 hS1 dL_empty_8 (fun H2 locs2 hP2 hS2 => ?_)
    refine lv_goto (tgt := 15) hx hb dL_empty_9 (by decide) ?_
    refine lv_iconst (v := 0) hx hb dL_empty_15 (by decide) ?_
    rw [show kcd [4] z.1 = 0 by rw [h0]; rfl, if_pos h0]
    exact V_ret C hP2 hS2 dL_empty_16
  · rw [if_neg h0]
    rcases hz with h9 | h9
    · exact absurd h9 h0
    · rw [h9] at hcl
      rw [show kcd [4] z.1 = 1 by rw [h9]; rfl]
      refine vx_catch (own := RL) (name := kE 4) (E := kE 4) C.1.2.2.2.1 [] ⟨0, 9, 12, 19⟩ [] C.2.2.2.2.2.1 (fun z9 hz9 => nomatch hz9) rfl (by decide) (C.1.2.2.2.2 _ wcl_RL_19) (V_cast C (by decide +kernel)) hce hcv hcl ?_
      refine lv_astore_n (lv' := [(3, .ref q9), (0, .ref (kad (wC G ad) 291)), (1, .int x1), (2, .ref qo)]) hx hb dL_empty_12 rfl hl (by decide) rfl (fun ls hl => ?_)
      refine lv_iconst (v := 1) hx hb dL_empty_13 (by decide) ?_
      exact V_ret C hP1 hS1 dL_empty_14
theorem wm_RL_43 : Cond.methodLink RL 43 yX11_pause ∈ kGT := kgt (List.mem_of_getElem? (i := 895) (by decide +kernel)) rfl
theorem hy_X11_pause : kYV yX11_pause cX11_pause 2 (some .int) 1 := ⟨⟨kgt (List.mem_of_getElem? (i := 898) (by decide +kernel)) rfl, kgt (List.mem_of_getElem? (i := 59) (by decide +kernel)) rfl, by decide +kernel, by decide⟩, kgt (List.mem_of_getElem? (i := 896) (by decide +kernel)) rfl, kgt (List.mem_of_getElem? (i := 897) (by decide +kernel)) rfl⟩
set_option maxRecDepth 100000 in
set_option maxHeartbeats 4000000 in
theorem wl_pause (l : Launch) (hst : l.stackTraces = false) (G : kG) (ad : Nat → Nat) (cL cD : ClassId) (qo : Nat) (f : kMem) (x1 : Int32) (lo : Nat → Int64) (z : kXr) (h : cx_X11_pause f x1 = some z) (hz : z.1 = 0 ∨ z.1 = 4) : kLMet l (wC G ad) cL cD qo yL_pause cL_pause 4 [(0, 9, 12, 19)] 8 [.ref (kad (wC G ad) 291), .int x1, .ref qo] f (oL cL lo) (kcd [4] z.1) z.2.2 (if z.1 = 0 then oL cL (vp_updL lo 0 z.2.1.toInt64) else oL cL lo) := by
  refine kLMet_of (lv := [(0, .ref (kad (wC G ad) 291)), (1, .int x1), (2, .ref qo)]) hst (by decide) rfl (Nat.le_of_ble_eq_true rfl) rfl ?_
  intro p e R s m args below meth c ls C hP hD hS hl
  have hx := C.1.1
  have hb := C.1.2.1
  refine lv_aload_n hx hb dL_pause_0 rfl (lv_at hl 2 rfl) ?_
  refine lv_iconst (v := 0) hx hb dL_pause_1 (by decide) ?_
  refine lv_aload_n hx hb dL_pause_2 rfl (lv_at hl 0 rfl) ?_
  refine lv_iload_n hx hb dL_pause_3 rfl (lv_at hl 1 rfl) ?_
  refine V_call C hy_X11_pause rfl wm_RL_43 (Nat.le_of_ble_eq_true rfl) (shC_291 G ad) (by decide) (kxMetV_int (kmx_X11_pause l hst G ad f x1 z h)) (As := [.int x1]) (rest := [.int 0, .ref qo]) rfl rfl (Nat.le_of_ble_eq_true rfl) dL_pause_4 hP hD hS hl (fun h0 H1 locs1 hP1 hD1 hS1 => ?_) (fun h0 ce q9 H1 locs1 hP1 hD1 hS1 hce hcv hcl => ?_)
  · refine lv_i2l hx hb dL_pause_7 rfl ?_
    refine V_last C hP1 hD1 hS1 dL_pause_8 (fun H2 locs2 hP2 hS2 => ?_)
    refine lv_goto (tgt := 15) hx hb dL_pause_9 (by decide) ?_
    refine lv_iconst (v := 0) hx hb dL_pause_15 (by decide) ?_
    rw [show kcd [4] z.1 = 0 by rw [h0]; rfl, if_pos h0]
    exact V_ret C hP2 hS2 dL_pause_16
  · rw [if_neg h0]
    rcases hz with h9 | h9
    · exact absurd h9 h0
    · rw [h9] at hcl
      rw [show kcd [4] z.1 = 1 by rw [h9]; rfl]
      refine vx_catch (own := RL) (name := kE 4) (E := kE 4) C.1.2.2.2.1 [] ⟨0, 9, 12, 19⟩ [] C.2.2.2.2.2.1 (fun z9 hz9 => nomatch hz9) rfl (by decide) (C.1.2.2.2.2 _ wcl_RL_19) (V_cast C (by decide +kernel)) hce hcv hcl ?_
      refine lv_astore_n (lv' := [(3, .ref q9), (0, .ref (kad (wC G ad) 291)), (1, .int x1), (2, .ref qo)]) hx hb dL_pause_12 rfl hl (by decide) rfl (fun ls hl => ?_)
      refine lv_iconst (v := 1) hx hb dL_pause_13 (by decide) ?_
      exact V_ret C hP1 hS1 dL_pause_14
theorem wm_RL_46 : Cond.methodLink RL 46 yX11_run ∈ kGT := kgt (List.mem_of_getElem? (i := 902) (by decide +kernel)) rfl
theorem hy_X11_run : kYV yX11_run cX11_run 3 (some .int) 2 := ⟨⟨kgt (List.mem_of_getElem? (i := 905) (by decide +kernel)) rfl, kgt (List.mem_of_getElem? (i := 59) (by decide +kernel)) rfl, by decide +kernel, by decide⟩, kgt (List.mem_of_getElem? (i := 903) (by decide +kernel)) rfl, kgt (List.mem_of_getElem? (i := 904) (by decide +kernel)) rfl⟩
set_option maxRecDepth 100000 in
set_option maxHeartbeats 4000000 in
theorem wl_run (l : Launch) (hst : l.stackTraces = false) (G : kG) (ad : Nat → Nat) (cL cD : ClassId) (qo : Nat) (f : kMem) (x1 x2 : Int32) (lo : Nat → Int64) (z : kXr) (h : cx_X11_run f x1 x2 = some z) (hz : z.1 = 0 ∨ z.1 = 4) : kLMet l (wC G ad) cL cD qo yL_run cL_run 5 [(0, 10, 13, 19)] 8 [.ref (kad (wC G ad) 291), .int x1, .int x2, .ref qo] f (oL cL lo) (kcd [4] z.1) z.2.2 (if z.1 = 0 then oL cL (vp_updL lo 0 z.2.1.toInt64) else oL cL lo) := by
  refine kLMet_of (lv := [(0, .ref (kad (wC G ad) 291)), (1, .int x1), (2, .int x2), (3, .ref qo)]) hst (by decide) rfl (Nat.le_of_ble_eq_true rfl) rfl ?_
  intro p e R s m args below meth c ls C hP hD hS hl
  have hx := C.1.1
  have hb := C.1.2.1
  refine lv_aload_n hx hb dL_run_0 rfl (lv_at hl 3 rfl) ?_
  refine lv_iconst (v := 0) hx hb dL_run_1 (by decide) ?_
  refine lv_aload_n hx hb dL_run_2 rfl (lv_at hl 0 rfl) ?_
  refine lv_iload_n hx hb dL_run_3 rfl (lv_at hl 1 rfl) ?_
  refine lv_iload_n hx hb dL_run_4 rfl (lv_at hl 2 rfl) ?_
  refine V_call C hy_X11_run rfl wm_RL_46 (Nat.le_of_ble_eq_true rfl) (shC_291 G ad) (by decide) (kxMetV_int (kmx_X11_run l hst G ad f x1 x2 z h)) (As := [.int x1, .int x2]) (rest := [.int 0, .ref qo]) rfl rfl (Nat.le_of_ble_eq_true rfl) dL_run_5 hP hD hS hl (fun h0 H1 locs1 hP1 hD1 hS1 => ?_) (fun h0 ce q9 H1 locs1 hP1 hD1 hS1 hce hcv hcl => ?_)
  · refine lv_i2l hx hb dL_run_8 rfl ?_
    refine V_last C hP1 hD1 hS1 dL_run_9 (fun H2 locs2 hP2 hS2 => ?_)
    refine lv_goto (tgt := 17) hx hb dL_run_10 (by decide) ?_
    refine lv_iconst (v := 0) hx hb dL_run_17 (by decide) ?_
    rw [show kcd [4] z.1 = 0 by rw [h0]; rfl, if_pos h0]
    exact V_ret C hP2 hS2 dL_run_18
  · rw [if_neg h0]
    rcases hz with h9 | h9
    · exact absurd h9 h0
    · rw [h9] at hcl
      rw [show kcd [4] z.1 = 1 by rw [h9]; rfl]
      refine vx_catch (own := RL) (name := kE 4) (E := kE 4) C.1.2.2.2.1 [] ⟨0, 10, 13, 19⟩ [] C.2.2.2.2.2.1 (fun z9 hz9 => nomatch hz9) rfl (by decide) (C.1.2.2.2.2 _ wcl_RL_19) (V_cast C (by decide +kernel)) hce hcv hcl ?_
      refine lv_astore (lv' := [(4, .ref q9), (0, .ref (kad (wC G ad) 291)), (1, .int x1), (2, .int x2), (3, .ref qo)]) hx hb dL_run_13 hl (by decide) rfl (fun ls hl => ?_)
      refine lv_iconst (v := 1) hx hb dL_run_15 (by decide) ?_
      exact V_ret C hP1 hS1 dL_run_16
theorem wm_RL_50 : Cond.methodLink RL 50 yX11_order ∈ kGT := kgt (List.mem_of_getElem? (i := 909) (by decide +kernel)) rfl
theorem hy_X11_order : kYV yX11_order cX11_order 5 (some .int) 4 := ⟨⟨kgt (List.mem_of_getElem? (i := 912) (by decide +kernel)) rfl, kgt (List.mem_of_getElem? (i := 59) (by decide +kernel)) rfl, by decide +kernel, by decide⟩, kgt (List.mem_of_getElem? (i := 910) (by decide +kernel)) rfl, kgt (List.mem_of_getElem? (i := 911) (by decide +kernel)) rfl⟩
set_option maxRecDepth 100000 in
set_option maxHeartbeats 4000000 in
theorem wl_order (l : Launch) (hst : l.stackTraces = false) (G : kG) (ad : Nat → Nat) (cL cD : ClassId) (qo : Nat) (f : kMem) (x1 x2 x3 x4 : Int32) (lo : Nat → Int64) (z : kXr) (h : cx_X11_order f x1 x2 x3 x4 = some z) (hz : z.1 = 0 ∨ z.1 = 4) : kLMet l (wC G ad) cL cD qo yL_order cL_order 7 [(0, 14, 17, 19)] 8 [.ref (kad (wC G ad) 291), .int x1, .int x2, .int x3, .int x4, .ref qo] f (oL cL lo) (kcd [4] z.1) z.2.2 (if z.1 = 0 then oL cL (vp_updL lo 0 z.2.1.toInt64) else oL cL lo) := by
  refine kLMet_of (lv := [(0, .ref (kad (wC G ad) 291)), (1, .int x1), (2, .int x2), (3, .int x3), (4, .int x4), (5, .ref qo)]) hst (by decide) rfl (Nat.le_of_ble_eq_true rfl) rfl ?_
  intro p e R s m args below meth c ls C hP hD hS hl
  have hx := C.1.1
  have hb := C.1.2.1
  refine lv_aload hx hb dL_order_0 (lv_at hl 5 rfl) ?_
  refine lv_iconst (v := 0) hx hb dL_order_2 (by decide) ?_
  refine lv_aload_n hx hb dL_order_3 rfl (lv_at hl 0 rfl) ?_
  refine lv_iload_n hx hb dL_order_4 rfl (lv_at hl 1 rfl) ?_
  refine lv_iload_n hx hb dL_order_5 rfl (lv_at hl 2 rfl) ?_
  refine lv_iload_n hx hb dL_order_6 rfl (lv_at hl 3 rfl) ?_
  refine lv_iload hx hb dL_order_7 (lv_at hl 4 rfl) ?_
  refine V_call C hy_X11_order rfl wm_RL_50 (Nat.le_of_ble_eq_true rfl) (shC_291 G ad) (by decide) (kxMetV_int (kmx_X11_order l hst G ad f x1 x2 x3 x4 z h)) (As := [.int x1, .int x2, .int x3, .int x4]) (rest := [.int 0, .ref qo]) rfl rfl (Nat.le_of_ble_eq_true rfl) dL_order_9 hP hD hS hl (fun h0 H1 locs1 hP1 hD1 hS1 => ?_) (fun h0 ce q9 H1 locs1 hP1 hD1 hS1 hce hcv hcl => ?_)
  · refine lv_i2l hx hb dL_order_12 rfl ?_
    refine V_last C hP1 hD1 hS1 dL_order_13 (fun H2 locs2 hP2 hS2 => ?_)
    refine lv_goto (tgt := 21) hx hb dL_order_14 (by decide) ?_
    refine lv_iconst (v := 0) hx hb dL_order_21 (by decide) ?_
    rw [show kcd [4] z.1 = 0 by rw [h0]; rfl, if_pos h0]
    exact V_ret C hP2 hS2 dL_order_22
  · rw [if_neg h0]
    rcases hz with h9 | h9
    · exact absurd h9 h0
    · rw [h9] at hcl
      rw [show kcd [4] z.1 = 1 by rw [h9]; rfl]
      refine vx_catch (own := RL) (name := kE 4) (E := kE 4) C.1.2.2.2.1 [] ⟨0, 14, 17, 19⟩ [] C.2.2.2.2.2.1 (fun z9 hz9 => nomatch hz9) rfl (by decide) (C.1.2.2.2.2 _ wcl_RL_19) (V_cast C (by decide +kernel)) hce hcv hcl ?_
      refine lv_astore (lv' := [(6, .ref q9), (0, .ref (kad (wC G ad) 291)), (1, .int x1), (2, .int x2), (3, .int x3), (4, .int x4), (5, .ref qo)]) hx hb dL_order_17 hl (by decide) rfl (fun ls hl => ?_)
      refine lv_iconst (v := 1) hx hb dL_order_19 (by decide) ?_
      exact V_ret C hP1 hS1 dL_order_20
theorem wm_RL_54 : Cond.methodLink RL 54 yX11_callOff ∈ kGT := kgt (List.mem_of_getElem? (i := 927) (by decide +kernel)) rfl
theorem hy_X11_callOff : kYV yX11_callOff cX11_callOff 2 (some .int) 1 := ⟨⟨kgt (List.mem_of_getElem? (i := 930) (by decide +kernel)) rfl, kgt (List.mem_of_getElem? (i := 59) (by decide +kernel)) rfl, by decide +kernel, by decide⟩, kgt (List.mem_of_getElem? (i := 928) (by decide +kernel)) rfl, kgt (List.mem_of_getElem? (i := 929) (by decide +kernel)) rfl⟩
set_option maxRecDepth 100000 in
set_option maxHeartbeats 4000000 in
theorem wl_callOff (l : Launch) (hst : l.stackTraces = false) (G : kG) (ad : Nat → Nat) (cL cD : ClassId) (qo : Nat) (f : kMem) (x1 : Int32) (lo : Nat → Int64) (z : kXr) (h : cx_X11_callOff f x1 = some z) (hz : z.1 = 0 ∨ z.1 = 4) : kLMet l (wC G ad) cL cD qo yL_callOff cL_callOff 4 [(0, 9, 12, 19)] 8 [.ref (kad (wC G ad) 291), .int x1, .ref qo] f (oL cL lo) (kcd [4] z.1) z.2.2 (if z.1 = 0 then oL cL (vp_updL lo 0 z.2.1.toInt64) else oL cL lo) := by
  refine kLMet_of (lv := [(0, .ref (kad (wC G ad) 291)), (1, .int x1), (2, .ref qo)]) hst (by decide) rfl (Nat.le_of_ble_eq_true rfl) rfl ?_
  intro p e R s m args below meth c ls C hP hD hS hl
  have hx := C.1.1
  have hb := C.1.2.1
  refine lv_aload_n hx hb dL_callOff_0 rfl (lv_at hl 2 rfl) ?_
  refine lv_iconst (v := 0) hx hb dL_callOff_1 (by decide) ?_
  refine lv_aload_n hx hb dL_callOff_2 rfl (lv_at hl 0 rfl) ?_
  refine lv_iload_n hx hb dL_callOff_3 rfl (lv_at hl 1 rfl) ?_
  refine V_call C hy_X11_callOff rfl wm_RL_54 (Nat.le_of_ble_eq_true rfl) (shC_291 G ad) (by decide) (kxMetV_int (kmx_X11_callOff l hst G ad f x1 z h)) (As := [.int x1]) (rest := [.int 0, .ref qo]) rfl rfl (Nat.le_of_ble_eq_true rfl) dL_callOff_4 hP hD hS hl (fun h0 H1 locs1 hP1 hD1 hS1 => ?_) (fun h0 ce q9 H1 locs1 hP1 hD1 hS1 hce hcv hcl => ?_)
  · refine lv_i2l hx hb dL_callOff_7 rfl ?_
    refine V_last C hP1 hD1 hS1 dL_callOff_8 (fun H2 locs2 hP2 hS2 => ?_)
    refine lv_goto (tgt := 15) hx hb dL_callOff_9 (by decide) ?_
    refine lv_iconst (v := 0) hx hb dL_callOff_15 (by decide) ?_
    rw [show kcd [4] z.1 = 0 by rw [h0]; rfl, if_pos h0]
    exact V_ret C hP2 hS2 dL_callOff_16
  · rw [if_neg h0]
    rcases hz with h9 | h9
    · exact absurd h9 h0
    · rw [h9] at hcl
      rw [show kcd [4] z.1 = 1 by rw [h9]; rfl]
      refine vx_catch (own := RL) (name := kE 4) (E := kE 4) C.1.2.2.2.1 [] ⟨0, 9, 12, 19⟩ [] C.2.2.2.2.2.1 (fun z9 hz9 => nomatch hz9) rfl (by decide) (C.1.2.2.2.2 _ wcl_RL_19) (V_cast C (by decide +kernel)) hce hcv hcl ?_
      refine lv_astore_n (lv' := [(3, .ref q9), (0, .ref (kad (wC G ad) 291)), (1, .int x1), (2, .ref qo)]) hx hb dL_callOff_12 rfl hl (by decide) rfl (fun ls hl => ?_)
      refine lv_iconst (v := 1) hx hb dL_callOff_13 (by decide) ?_
      exact V_ret C hP1 hS1 dL_callOff_14
theorem wm_RL_57 : Cond.methodLink RL 57 yX11_set ∈ kGT := kgt (List.mem_of_getElem? (i := 946) (by decide +kernel)) rfl
theorem hy_X11_set : kYV yX11_set cX11_set 3 (some .int) 2 := ⟨⟨kgt (List.mem_of_getElem? (i := 949) (by decide +kernel)) rfl, kgt (List.mem_of_getElem? (i := 59) (by decide +kernel)) rfl, by decide +kernel, by decide⟩, kgt (List.mem_of_getElem? (i := 947) (by decide +kernel)) rfl, kgt (List.mem_of_getElem? (i := 948) (by decide +kernel)) rfl⟩
set_option maxRecDepth 100000 in
set_option maxHeartbeats 4000000 in
theorem wl_set (l : Launch) (hst : l.stackTraces = false) (G : kG) (ad : Nat → Nat) (cL cD : ClassId) (qo : Nat) (f : kMem) (x1 x2 : Int32) (lo : Nat → Int64) (z : kXr) (h : cx_X11_set f x1 x2 = some z) (hz : z.1 = 0 ∨ z.1 = 4) : kLMet l (wC G ad) cL cD qo yL_set cL_set 5 [(0, 10, 13, 19)] 8 [.ref (kad (wC G ad) 291), .int x1, .int x2, .ref qo] f (oL cL lo) (kcd [4] z.1) z.2.2 (if z.1 = 0 then oL cL (vp_updL lo 0 z.2.1.toInt64) else oL cL lo) := by
  refine kLMet_of (lv := [(0, .ref (kad (wC G ad) 291)), (1, .int x1), (2, .int x2), (3, .ref qo)]) hst (by decide) rfl (Nat.le_of_ble_eq_true rfl) rfl ?_
  intro p e R s m args below meth c ls C hP hD hS hl
  have hx := C.1.1
  have hb := C.1.2.1
  refine lv_aload_n hx hb dL_set_0 rfl (lv_at hl 3 rfl) ?_
  refine lv_iconst (v := 0) hx hb dL_set_1 (by decide) ?_
  refine lv_aload_n hx hb dL_set_2 rfl (lv_at hl 0 rfl) ?_
  refine lv_iload_n hx hb dL_set_3 rfl (lv_at hl 1 rfl) ?_
  refine lv_iload_n hx hb dL_set_4 rfl (lv_at hl 2 rfl) ?_
  refine V_call C hy_X11_set rfl wm_RL_57 (Nat.le_of_ble_eq_true rfl) (shC_291 G ad) (by decide) (kxMetV_int (kmx_X11_set l hst G ad f x1 x2 z h)) (As := [.int x1, .int x2]) (rest := [.int 0, .ref qo]) rfl rfl (Nat.le_of_ble_eq_true rfl) dL_set_5 hP hD hS hl (fun h0 H1 locs1 hP1 hD1 hS1 => ?_) (fun h0 ce q9 H1 locs1 hP1 hD1 hS1 hce hcv hcl => ?_)
  · refine lv_i2l hx hb dL_set_8 rfl ?_
    refine V_last C hP1 hD1 hS1 dL_set_9 (fun H2 locs2 hP2 hS2 => ?_)
    refine lv_goto (tgt := 17) hx hb dL_set_10 (by decide) ?_
    refine lv_iconst (v := 0) hx hb dL_set_17 (by decide) ?_
    rw [show kcd [4] z.1 = 0 by rw [h0]; rfl, if_pos h0]
    exact V_ret C hP2 hS2 dL_set_18
  · rw [if_neg h0]
    rcases hz with h9 | h9
    · exact absurd h9 h0
    · rw [h9] at hcl
      rw [show kcd [4] z.1 = 1 by rw [h9]; rfl]
      refine vx_catch (own := RL) (name := kE 4) (E := kE 4) C.1.2.2.2.1 [] ⟨0, 10, 13, 19⟩ [] C.2.2.2.2.2.1 (fun z9 hz9 => nomatch hz9) rfl (by decide) (C.1.2.2.2.2 _ wcl_RL_19) (V_cast C (by decide +kernel)) hce hcv hcl ?_
      refine lv_astore (lv' := [(4, .ref q9), (0, .ref (kad (wC G ad) 291)), (1, .int x1), (2, .int x2), (3, .ref qo)]) hx hb dL_set_13 hl (by decide) rfl (fun ls hl => ?_)
      refine lv_iconst (v := 1) hx hb dL_set_15 (by decide) ?_
      exact V_ret C hP1 hS1 dL_set_16
theorem wm_RL_60 : Cond.methodLink RL 60 yX11_purge ∈ kGT := kgt (List.mem_of_getElem? (i := 985) (by decide +kernel)) rfl
theorem hy_X11_purge : kYV yX11_purge cX11_purge 3 (some .int) 2 := ⟨⟨kgt (List.mem_of_getElem? (i := 988) (by decide +kernel)) rfl, kgt (List.mem_of_getElem? (i := 59) (by decide +kernel)) rfl, by decide +kernel, by decide⟩, kgt (List.mem_of_getElem? (i := 986) (by decide +kernel)) rfl, kgt (List.mem_of_getElem? (i := 987) (by decide +kernel)) rfl⟩
theorem wcl_RL_63 : Cond.classLink RL 63 (kE 3) ∈ kGT := kgt (List.mem_of_getElem? (i := 961) (by decide +kernel)) rfl
set_option maxRecDepth 100000 in
set_option maxHeartbeats 4000000 in
theorem wl_purge (l : Launch) (hst : l.stackTraces = false) (G : kG) (ad : Nat → Nat) (cL cD : ClassId) (qo : Nat) (f : kMem) (x1 x2 : Int32) (lo : Nat → Int64) (z : kXr) (h : cx_X11_purge f x1 x2 = some z) (hz : z.1 = 0 ∨ z.1 = 3) : kLMet l (wC G ad) cL cD qo yL_purge cL_purge 5 [(0, 10, 13, 63)] 7 [.ref (kad (wC G ad) 291), .int x1, .int x2, .ref qo] f (oL cL lo) (kcd [3] z.1) z.2.2 (if z.1 = 0 then oL cL (vp_updL lo 0 z.2.1.toInt64) else oL cL lo) := by
  refine kLMet_of (lv := [(0, .ref (kad (wC G ad) 291)), (1, .int x1), (2, .int x2), (3, .ref qo)]) hst (by decide) rfl (Nat.le_of_ble_eq_true rfl) rfl ?_
  intro p e R s m args below meth c ls C hP hD hS hl
  have hx := C.1.1
  have hb := C.1.2.1
  refine lv_aload_n hx hb dL_purge_0 rfl (lv_at hl 3 rfl) ?_
  refine lv_iconst (v := 0) hx hb dL_purge_1 (by decide) ?_
  refine lv_aload_n hx hb dL_purge_2 rfl (lv_at hl 0 rfl) ?_
  refine lv_iload_n hx hb dL_purge_3 rfl (lv_at hl 1 rfl) ?_
  refine lv_iload_n hx hb dL_purge_4 rfl (lv_at hl 2 rfl) ?_
  refine V_call C hy_X11_purge rfl wm_RL_60 (Nat.le_of_ble_eq_true rfl) (shC_291 G ad) (by decide) (kxMetV_int (kmx_X11_purge l hst G ad f x1 x2 z h)) (As := [.int x1, .int x2]) (rest := [.int 0, .ref qo]) rfl rfl (Nat.le_of_ble_eq_true rfl) dL_purge_5 hP hD hS hl (fun h0 H1 locs1 hP1 hD1 hS1 => ?_) (fun h0 ce q9 H1 locs1 hP1 hD1 hS1 hce hcv hcl => ?_)
  · refine lv_i2l hx hb dL_purge_8 rfl ?_
    refine V_last C hP1 hD1 hS1 dL_purge_9 (fun H2 locs2 hP2 hS2 => ?_)
    refine lv_goto (tgt := 17) hx hb dL_purge_10 (by decide) ?_
    refine lv_iconst (v := 0) hx hb dL_purge_17 (by decide) ?_
    rw [show kcd [3] z.1 = 0 by rw [h0]; rfl, if_pos h0]
    exact V_ret C hP2 hS2 dL_purge_18
  · rw [if_neg h0]
    rcases hz with h9 | h9
    · exact absurd h9 h0
    · rw [h9] at hcl
      rw [show kcd [3] z.1 = 1 by rw [h9]; rfl]
      refine vx_catch (own := RL) (name := kE 3) (E := kE 3) C.1.2.2.2.1 [] ⟨0, 10, 13, 63⟩ [] C.2.2.2.2.2.1 (fun z9 hz9 => nomatch hz9) rfl (by decide) (C.1.2.2.2.2 _ wcl_RL_63) (V_cast C (by decide +kernel)) hce hcv hcl ?_
      refine lv_astore (lv' := [(4, .ref q9), (0, .ref (kad (wC G ad) 291)), (1, .int x1), (2, .int x2), (3, .ref qo)]) hx hb dL_purge_13 hl (by decide) rfl (fun ls hl => ?_)
      refine lv_iconst (v := 1) hx hb dL_purge_15 (by decide) ?_
      exact V_ret C hP1 hS1 dL_purge_16
theorem wm_RL_65 : Cond.methodLink RL 65 yX11_minutes ∈ kGT := kgt (List.mem_of_getElem? (i := 1007) (by decide +kernel)) rfl
theorem hy_X11_minutes : kYV yX11_minutes cX11_minutes 3 (some .int) 2 := ⟨⟨kgt (List.mem_of_getElem? (i := 1010) (by decide +kernel)) rfl, kgt (List.mem_of_getElem? (i := 59) (by decide +kernel)) rfl, by decide +kernel, by decide⟩, kgt (List.mem_of_getElem? (i := 1008) (by decide +kernel)) rfl, kgt (List.mem_of_getElem? (i := 1009) (by decide +kernel)) rfl⟩
set_option maxRecDepth 100000 in
set_option maxHeartbeats 4000000 in
theorem wl_minutes (l : Launch) (hst : l.stackTraces = false) (G : kG) (ad : Nat → Nat) (cL cD : ClassId) (qo : Nat) (f : kMem) (x1 x2 : Int32) (lo : Nat → Int64) (z : kXr) (h : cx_X11_minutes f x1 x2 = some z) (hz : z.1 = 0 ∨ z.1 = 3 ∨ z.1 = 2 ∨ z.1 = 1) : kLMet l (wC G ad) cL cD qo yL_minutes cL_minutes 5 [(0, 10, 13, 63), (0, 10, 17, 28), (0, 10, 21, 13)] 7 [.ref (kad (wC G ad) 291), .int x1, .int x2, .ref qo] f (oL cL lo) (kcd [3, 2, 1] z.1) z.2.2 (if z.1 = 0 then oL cL (vp_updL lo 0 z.2.1.toInt64) else oL cL lo) := by
  refine kLMet_of (lv := [(0, .ref (kad (wC G ad) 291)), (1, .int x1), (2, .int x2), (3, .ref qo)]) hst (by decide) rfl (Nat.le_of_ble_eq_true rfl) rfl ?_
  intro p e R s m args below meth c ls C hP hD hS hl
  have hx := C.1.1
  have hb := C.1.2.1
  refine lv_aload_n hx hb dL_minutes_0 rfl (lv_at hl 3 rfl) ?_
  refine lv_iconst (v := 0) hx hb dL_minutes_1 (by decide) ?_
  refine lv_aload_n hx hb dL_minutes_2 rfl (lv_at hl 0 rfl) ?_
  refine lv_iload_n hx hb dL_minutes_3 rfl (lv_at hl 1 rfl) ?_
  refine lv_iload_n hx hb dL_minutes_4 rfl (lv_at hl 2 rfl) ?_
  refine V_call C hy_X11_minutes rfl wm_RL_65 (Nat.le_of_ble_eq_true rfl) (shC_291 G ad) (by decide) (kxMetV_int (kmx_X11_minutes l hst G ad f x1 x2 z h)) (As := [.int x1, .int x2]) (rest := [.int 0, .ref qo]) rfl rfl (Nat.le_of_ble_eq_true rfl) dL_minutes_5 hP hD hS hl (fun h0 H1 locs1 hP1 hD1 hS1 => ?_) (fun h0 ce q9 H1 locs1 hP1 hD1 hS1 hce hcv hcl => ?_)
  · refine lv_i2l hx hb dL_minutes_8 rfl ?_
    refine V_last C hP1 hD1 hS1 dL_minutes_9 (fun H2 locs2 hP2 hS2 => ?_)
    refine lv_goto (tgt := 25) hx hb dL_minutes_10 (by decide) ?_
    refine lv_iconst (v := 0) hx hb dL_minutes_25 (by decide) ?_
    rw [show kcd [3, 2, 1] z.1 = 0 by rw [h0]; rfl, if_pos h0]
    exact V_ret C hP2 hS2 dL_minutes_26
  · rw [if_neg h0]
    rcases hz with h9 | h9 | h9 | h9
    · exact absurd h9 h0
    · rw [h9] at hcl
      rw [show kcd [3, 2, 1] z.1 = 1 by rw [h9]; rfl]
      refine vx_catch (own := RL) (name := kE 3) (E := kE 3) C.1.2.2.2.1 [] ⟨0, 10, 13, 63⟩ [⟨0, 10, 17, 28⟩, ⟨0, 10, 21, 13⟩] C.2.2.2.2.2.1 (fun z9 hz9 => nomatch hz9) rfl (by decide) (C.1.2.2.2.2 _ wcl_RL_63) (V_cast C (by decide +kernel)) hce hcv hcl ?_
      refine lv_astore (lv' := [(4, .ref q9), (0, .ref (kad (wC G ad) 291)), (1, .int x1), (2, .int x2), (3, .ref qo)]) hx hb dL_minutes_13 hl (by decide) rfl (fun ls hl => ?_)
      refine lv_iconst (v := 1) hx hb dL_minutes_15 (by decide) ?_
      exact V_ret C hP1 hS1 dL_minutes_16
    · rw [h9] at hcl
      rw [show kcd [3, 2, 1] z.1 = 2 by rw [h9]; rfl]
      refine vx_catch (own := RL) (name := kE 2) (E := kE 2) C.1.2.2.2.1 [⟨0, 10, 13, 63⟩] ⟨0, 10, 17, 28⟩ [⟨0, 10, 21, 13⟩] C.2.2.2.2.2.1 (fun z9 hz9 => by
      simp only [List.mem_cons, List.not_mem_nil, or_false] at hz9
      rcases hz9 with rfl
      · exact Or.inr ⟨by decide, kE 3, C.1.2.2.2.2 _ wcl_RL_63, C.2.1.2.2.2.2 2 3 (by decide) (by decide) (by decide)⟩) rfl (by decide) (C.1.2.2.2.2 _ wcl_RL_28) (V_cast C (by decide +kernel)) hce hcv hcl ?_
      refine lv_astore (lv' := [(4, .ref q9), (0, .ref (kad (wC G ad) 291)), (1, .int x1), (2, .int x2), (3, .ref qo)]) hx hb dL_minutes_17 hl (by decide) rfl (fun ls hl => ?_)
      refine lv_iconst (v := 2) hx hb dL_minutes_19 (by decide) ?_
      exact V_ret C hP1 hS1 dL_minutes_20
    · rw [h9] at hcl
      rw [show kcd [3, 2, 1] z.1 = 3 by rw [h9]; rfl]
      refine vx_catch (own := RL) (name := kE 1) (E := kE 1) C.1.2.2.2.1 [⟨0, 10, 13, 63⟩, ⟨0, 10, 17, 28⟩] ⟨0, 10, 21, 13⟩ [] C.2.2.2.2.2.1 (fun z9 hz9 => by
      simp only [List.mem_cons, List.not_mem_nil, or_false] at hz9
      rcases hz9 with rfl | rfl
      · exact Or.inr ⟨by decide, kE 3, C.1.2.2.2.2 _ wcl_RL_63, C.2.1.2.2.2.2 1 3 (by decide) (by decide) (by decide)⟩
      · exact Or.inr ⟨by decide, kE 2, C.1.2.2.2.2 _ wcl_RL_28, C.2.1.2.2.2.2 1 2 (by decide) (by decide) (by decide)⟩) rfl (by decide) (C.1.2.2.2.2 _ wcl_RL_13) (V_cast C (by decide +kernel)) hce hcv hcl ?_
      refine lv_astore (lv' := [(4, .ref q9), (0, .ref (kad (wC G ad) 291)), (1, .int x1), (2, .int x2), (3, .ref qo)]) hx hb dL_minutes_21 hl (by decide) rfl (fun ls hl => ?_)
      refine lv_iconst (v := 3) hx hb dL_minutes_23 (by decide) ?_
      exact V_ret C hP1 hS1 dL_minutes_24
theorem wm_RL_68 : Cond.methodLink RL 68 yX11_best ∈ kGT := kgt (List.mem_of_getElem? (i := 1018) (by decide +kernel)) rfl
theorem hy_X11_best : kYV yX11_best cX11_best 2 (some .int) 1 := ⟨⟨kgt (List.mem_of_getElem? (i := 1021) (by decide +kernel)) rfl, kgt (List.mem_of_getElem? (i := 59) (by decide +kernel)) rfl, by decide +kernel, by decide⟩, kgt (List.mem_of_getElem? (i := 1019) (by decide +kernel)) rfl, kgt (List.mem_of_getElem? (i := 1020) (by decide +kernel)) rfl⟩
set_option maxRecDepth 100000 in
set_option maxHeartbeats 4000000 in
theorem wl_best (l : Launch) (hst : l.stackTraces = false) (G : kG) (ad : Nat → Nat) (cL cD : ClassId) (qo : Nat) (f : kMem) (x1 : Int32) (lo : Nat → Int64) (z : kXr) (h : cx_X11_best f x1 = some z) (hz : z.1 = 0 ∨ z.1 = 2) : kLMet l (wC G ad) cL cD qo yL_best cL_best 4 [(0, 9, 12, 28)] 8 [.ref (kad (wC G ad) 291), .int x1, .ref qo] f (oL cL lo) (kcd [2] z.1) z.2.2 (if z.1 = 0 then oL cL (vp_updL lo 0 z.2.1.toInt64) else oL cL lo) := by
  refine kLMet_of (lv := [(0, .ref (kad (wC G ad) 291)), (1, .int x1), (2, .ref qo)]) hst (by decide) rfl (Nat.le_of_ble_eq_true rfl) rfl ?_
  intro p e R s m args below meth c ls C hP hD hS hl
  have hx := C.1.1
  have hb := C.1.2.1
  refine lv_aload_n hx hb dL_best_0 rfl (lv_at hl 2 rfl) ?_
  refine lv_iconst (v := 0) hx hb dL_best_1 (by decide) ?_
  refine lv_aload_n hx hb dL_best_2 rfl (lv_at hl 0 rfl) ?_
  refine lv_iload_n hx hb dL_best_3 rfl (lv_at hl 1 rfl) ?_
  refine V_call C hy_X11_best rfl wm_RL_68 (Nat.le_of_ble_eq_true rfl) (shC_291 G ad) (by decide) (kxMetV_int (kmx_X11_best l hst G ad f x1 z h)) (As := [.int x1]) (rest := [.int 0, .ref qo]) rfl rfl (Nat.le_of_ble_eq_true rfl) dL_best_4 hP hD hS hl (fun h0 H1 locs1 hP1 hD1 hS1 => ?_) (fun h0 ce q9 H1 locs1 hP1 hD1 hS1 hce hcv hcl => ?_)
  · refine lv_i2l hx hb dL_best_7 rfl ?_
    refine V_last C hP1 hD1 hS1 dL_best_8 (fun H2 locs2 hP2 hS2 => ?_)
    refine lv_goto (tgt := 15) hx hb dL_best_9 (by decide) ?_
    refine lv_iconst (v := 0) hx hb dL_best_15 (by decide) ?_
    rw [show kcd [2] z.1 = 0 by rw [h0]; rfl, if_pos h0]
    exact V_ret C hP2 hS2 dL_best_16
  · rw [if_neg h0]
    rcases hz with h9 | h9
    · exact absurd h9 h0
    · rw [h9] at hcl
      rw [show kcd [2] z.1 = 1 by rw [h9]; rfl]
      refine vx_catch (own := RL) (name := kE 2) (E := kE 2) C.1.2.2.2.1 [] ⟨0, 9, 12, 28⟩ [] C.2.2.2.2.2.1 (fun z9 hz9 => nomatch hz9) rfl (by decide) (C.1.2.2.2.2 _ wcl_RL_28) (V_cast C (by decide +kernel)) hce hcv hcl ?_
      refine lv_astore_n (lv' := [(3, .ref q9), (0, .ref (kad (wC G ad) 291)), (1, .int x1), (2, .ref qo)]) hx hb dL_best_12 rfl hl (by decide) rfl (fun ls hl => ?_)
      refine lv_iconst (v := 1) hx hb dL_best_13 (by decide) ?_
      exact V_ret C hP1 hS1 dL_best_14
theorem wm_RL_71 : Cond.methodLink RL 71 yX11_bestAgain ∈ kGT := kgt (List.mem_of_getElem? (i := 1052) (by decide +kernel)) rfl
theorem hy_X11_bestAgain : kYV yX11_bestAgain cX11_bestAgain 2 (some .int) 1 := ⟨⟨kgt (List.mem_of_getElem? (i := 1055) (by decide +kernel)) rfl, kgt (List.mem_of_getElem? (i := 59) (by decide +kernel)) rfl, by decide +kernel, by decide⟩, kgt (List.mem_of_getElem? (i := 1053) (by decide +kernel)) rfl, kgt (List.mem_of_getElem? (i := 1054) (by decide +kernel)) rfl⟩
set_option maxRecDepth 100000 in
set_option maxHeartbeats 4000000 in
theorem wl_bestAgain (l : Launch) (hst : l.stackTraces = false) (G : kG) (ad : Nat → Nat) (cL cD : ClassId) (qo : Nat) (f : kMem) (x1 : Int32) (lo : Nat → Int64) (z : kXr) (h : cx_X11_bestAgain f x1 = some z) (hz : z.1 = 0 ∨ z.1 = 2) : kLMet l (wC G ad) cL cD qo yL_bestAgain cL_bestAgain 4 [(0, 9, 12, 28)] 12 [.ref (kad (wC G ad) 291), .int x1, .ref qo] f (oL cL lo) (kcd [2] z.1) z.2.2 (if z.1 = 0 then oL cL (vp_updL lo 0 z.2.1.toInt64) else oL cL lo) := by
  refine kLMet_of (lv := [(0, .ref (kad (wC G ad) 291)), (1, .int x1), (2, .ref qo)]) hst (by decide) rfl (Nat.le_of_ble_eq_true rfl) rfl ?_
  intro p e R s m args below meth c ls C hP hD hS hl
  have hx := C.1.1
  have hb := C.1.2.1
  refine lv_aload_n hx hb dL_bestAgain_0 rfl (lv_at hl 2 rfl) ?_
  refine lv_iconst (v := 0) hx hb dL_bestAgain_1 (by decide) ?_
  refine lv_aload_n hx hb dL_bestAgain_2 rfl (lv_at hl 0 rfl) ?_
  refine lv_iload_n hx hb dL_bestAgain_3 rfl (lv_at hl 1 rfl) ?_
  refine V_call C hy_X11_bestAgain rfl wm_RL_71 (Nat.le_of_ble_eq_true rfl) (shC_291 G ad) (by decide) (kxMetV_int (kmx_X11_bestAgain l hst G ad f x1 z h)) (As := [.int x1]) (rest := [.int 0, .ref qo]) rfl rfl (Nat.le_of_ble_eq_true rfl) dL_bestAgain_4 hP hD hS hl (fun h0 H1 locs1 hP1 hD1 hS1 => ?_) (fun h0 ce q9 H1 locs1 hP1 hD1 hS1 hce hcv hcl => ?_)
  · refine lv_i2l hx hb dL_bestAgain_7 rfl ?_
    refine V_last C hP1 hD1 hS1 dL_bestAgain_8 (fun H2 locs2 hP2 hS2 => ?_)
    refine lv_goto (tgt := 15) hx hb dL_bestAgain_9 (by decide) ?_
    refine lv_iconst (v := 0) hx hb dL_bestAgain_15 (by decide) ?_
    rw [show kcd [2] z.1 = 0 by rw [h0]; rfl, if_pos h0]
    exact V_ret C hP2 hS2 dL_bestAgain_16
  · rw [if_neg h0]
    rcases hz with h9 | h9
    · exact absurd h9 h0
    · rw [h9] at hcl
      rw [show kcd [2] z.1 = 1 by rw [h9]; rfl]
      refine vx_catch (own := RL) (name := kE 2) (E := kE 2) C.1.2.2.2.1 [] ⟨0, 9, 12, 28⟩ [] C.2.2.2.2.2.1 (fun z9 hz9 => nomatch hz9) rfl (by decide) (C.1.2.2.2.2 _ wcl_RL_28) (V_cast C (by decide +kernel)) hce hcv hcl ?_
      refine lv_astore_n (lv' := [(3, .ref q9), (0, .ref (kad (wC G ad) 291)), (1, .int x1), (2, .ref qo)]) hx hb dL_bestAgain_12 rfl hl (by decide) rfl (fun ls hl => ?_)
      refine lv_iconst (v := 1) hx hb dL_bestAgain_13 (by decide) ?_
      exact V_ret C hP1 hS1 dL_bestAgain_14
theorem wm_RL_74 : Cond.methodLink RL 74 yX11_bestColour ∈ kGT := kgt (List.mem_of_getElem? (i := 1068) (by decide +kernel)) rfl
theorem hy_X11_bestColour : kYV yX11_bestColour cX11_bestColour 3 (some .int) 2 := ⟨⟨kgt (List.mem_of_getElem? (i := 1071) (by decide +kernel)) rfl, kgt (List.mem_of_getElem? (i := 59) (by decide +kernel)) rfl, by decide +kernel, by decide⟩, kgt (List.mem_of_getElem? (i := 1069) (by decide +kernel)) rfl, kgt (List.mem_of_getElem? (i := 1070) (by decide +kernel)) rfl⟩
theorem wcl_RL_77 : Cond.classLink RL 77 (kE 5) ∈ kGT := kgt (List.mem_of_getElem? (i := 1067) (by decide +kernel)) rfl
set_option maxRecDepth 100000 in
set_option maxHeartbeats 4000000 in
theorem wl_bestColour (l : Launch) (hst : l.stackTraces = false) (G : kG) (ad : Nat → Nat) (cL cD : ClassId) (qo : Nat) (f : kMem) (x1 x2 : Int32) (lo : Nat → Int64) (z : kXr) (h : cx_X11_bestColour f x1 x2 = some z) (hz : z.1 = 0 ∨ z.1 = 2 ∨ z.1 = 5) : kLMet l (wC G ad) cL cD qo yL_bestColour cL_bestColour 5 [(0, 10, 13, 28), (0, 10, 17, 77)] 8 [.ref (kad (wC G ad) 291), .int x1, .int x2, .ref qo] f (oL cL lo) (kcd [2, 5] z.1) z.2.2 (if z.1 = 0 then oL cL (vp_updL lo 0 z.2.1.toInt64) else oL cL lo) := by
  refine kLMet_of (lv := [(0, .ref (kad (wC G ad) 291)), (1, .int x1), (2, .int x2), (3, .ref qo)]) hst (by decide) rfl (Nat.le_of_ble_eq_true rfl) rfl ?_
  intro p e R s m args below meth c ls C hP hD hS hl
  have hx := C.1.1
  have hb := C.1.2.1
  refine lv_aload_n hx hb dL_bestColour_0 rfl (lv_at hl 3 rfl) ?_
  refine lv_iconst (v := 0) hx hb dL_bestColour_1 (by decide) ?_
  refine lv_aload_n hx hb dL_bestColour_2 rfl (lv_at hl 0 rfl) ?_
  refine lv_iload_n hx hb dL_bestColour_3 rfl (lv_at hl 1 rfl) ?_
  refine lv_iload_n hx hb dL_bestColour_4 rfl (lv_at hl 2 rfl) ?_
  refine V_call C hy_X11_bestColour rfl wm_RL_74 (Nat.le_of_ble_eq_true rfl) (shC_291 G ad) (by decide) (kxMetV_int (kmx_X11_bestColour l hst G ad f x1 x2 z h)) (As := [.int x1, .int x2]) (rest := [.int 0, .ref qo]) rfl rfl (Nat.le_of_ble_eq_true rfl) dL_bestColour_5 hP hD hS hl (fun h0 H1 locs1 hP1 hD1 hS1 => ?_) (fun h0 ce q9 H1 locs1 hP1 hD1 hS1 hce hcv hcl => ?_)
  · refine lv_i2l hx hb dL_bestColour_8 rfl ?_
    refine V_last C hP1 hD1 hS1 dL_bestColour_9 (fun H2 locs2 hP2 hS2 => ?_)
    refine lv_goto (tgt := 21) hx hb dL_bestColour_10 (by decide) ?_
    refine lv_iconst (v := 0) hx hb dL_bestColour_21 (by decide) ?_
    rw [show kcd [2, 5] z.1 = 0 by rw [h0]; rfl, if_pos h0]
    exact V_ret C hP2 hS2 dL_bestColour_22
  · rw [if_neg h0]
    rcases hz with h9 | h9 | h9
    · exact absurd h9 h0
    · rw [h9] at hcl
      rw [show kcd [2, 5] z.1 = 1 by rw [h9]; rfl]
      refine vx_catch (own := RL) (name := kE 2) (E := kE 2) C.1.2.2.2.1 [] ⟨0, 10, 13, 28⟩ [⟨0, 10, 17, 77⟩] C.2.2.2.2.2.1 (fun z9 hz9 => nomatch hz9) rfl (by decide) (C.1.2.2.2.2 _ wcl_RL_28) (V_cast C (by decide +kernel)) hce hcv hcl ?_
      refine lv_astore (lv' := [(4, .ref q9), (0, .ref (kad (wC G ad) 291)), (1, .int x1), (2, .int x2), (3, .ref qo)]) hx hb dL_bestColour_13 hl (by decide) rfl (fun ls hl => ?_)
      refine lv_iconst (v := 1) hx hb dL_bestColour_15 (by decide) ?_
      exact V_ret C hP1 hS1 dL_bestColour_16
    · rw [h9] at hcl
      rw [show kcd [2, 5] z.1 = 2 by rw [h9]; rfl]
      refine vx_catch (own := RL) (name := kE 5) (E := kE 5) C.1.2.2.2.1 [⟨0, 10, 13, 28⟩] ⟨0, 10, 17, 77⟩ [] C.2.2.2.2.2.1 (fun z9 hz9 => by
      simp only [List.mem_cons, List.not_mem_nil, or_false] at hz9
      rcases hz9 with rfl
      · exact Or.inr ⟨by decide, kE 2, C.1.2.2.2.2 _ wcl_RL_28, C.2.1.2.2.2.2 5 2 (by decide) (by decide) (by decide)⟩) rfl (by decide) (C.1.2.2.2.2 _ wcl_RL_77) (V_cast C (by decide +kernel)) hce hcv hcl ?_
      refine lv_astore (lv' := [(4, .ref q9), (0, .ref (kad (wC G ad) 291)), (1, .int x1), (2, .int x2), (3, .ref qo)]) hx hb dL_bestColour_17 hl (by decide) rfl (fun ls hl => ?_)
      refine lv_iconst (v := 2) hx hb dL_bestColour_19 (by decide) ?_
      exact V_ret C hP1 hS1 dL_bestColour_20
theorem wm_RL_79 : Cond.methodLink RL 79 yX11_familyOf ∈ kGT := kgt (List.mem_of_getElem? (i := 1101) (by decide +kernel)) rfl
theorem hy_X11_familyOf : kYV yX11_familyOf cX11_familyOf 3 (some .int) 2 := ⟨⟨kgt (List.mem_of_getElem? (i := 1104) (by decide +kernel)) rfl, kgt (List.mem_of_getElem? (i := 59) (by decide +kernel)) rfl, by decide +kernel, by decide⟩, kgt (List.mem_of_getElem? (i := 1102) (by decide +kernel)) rfl, kgt (List.mem_of_getElem? (i := 1103) (by decide +kernel)) rfl⟩
set_option maxRecDepth 100000 in
set_option maxHeartbeats 4000000 in
theorem wl_familyOf (l : Launch) (hst : l.stackTraces = false) (G : kG) (ad : Nat → Nat) (cL cD : ClassId) (qo : Nat) (f : kMem) (x1 x2 : Int32) (lo : Nat → Int64) (z : kXr) (h : cx_X11_familyOf f x1 x2 = some z) (hz : z.1 = 0 ∨ z.1 = 3 ∨ z.1 = 2) : kLMet l (wC G ad) cL cD qo yL_familyOf cL_familyOf 5 [(0, 10, 13, 63), (0, 10, 17, 28)] 7 [.ref (kad (wC G ad) 291), .int x1, .int x2, .ref qo] f (oL cL lo) (kcd [3, 2] z.1) z.2.2 (if z.1 = 0 then oL cL (vp_updL lo 0 z.2.1.toInt64) else oL cL lo) := by
  refine kLMet_of (lv := [(0, .ref (kad (wC G ad) 291)), (1, .int x1), (2, .int x2), (3, .ref qo)]) hst (by decide) rfl (Nat.le_of_ble_eq_true rfl) rfl ?_
  intro p e R s m args below meth c ls C hP hD hS hl
  have hx := C.1.1
  have hb := C.1.2.1
  refine lv_aload_n hx hb dL_familyOf_0 rfl (lv_at hl 3 rfl) ?_
  refine lv_iconst (v := 0) hx hb dL_familyOf_1 (by decide) ?_
  refine lv_aload_n hx hb dL_familyOf_2 rfl (lv_at hl 0 rfl) ?_
  refine lv_iload_n hx hb dL_familyOf_3 rfl (lv_at hl 1 rfl) ?_
  refine lv_iload_n hx hb dL_familyOf_4 rfl (lv_at hl 2 rfl) ?_
  refine V_call C hy_X11_familyOf rfl wm_RL_79 (Nat.le_of_ble_eq_true rfl) (shC_291 G ad) (by decide) (kxMetV_int (kmx_X11_familyOf l hst G ad f x1 x2 z h)) (As := [.int x1, .int x2]) (rest := [.int 0, .ref qo]) rfl rfl (Nat.le_of_ble_eq_true rfl) dL_familyOf_5 hP hD hS hl (fun h0 H1 locs1 hP1 hD1 hS1 => ?_) (fun h0 ce q9 H1 locs1 hP1 hD1 hS1 hce hcv hcl => ?_)
  · refine lv_i2l hx hb dL_familyOf_8 rfl ?_
    refine V_last C hP1 hD1 hS1 dL_familyOf_9 (fun H2 locs2 hP2 hS2 => ?_)
    refine lv_goto (tgt := 21) hx hb dL_familyOf_10 (by decide) ?_
    refine lv_iconst (v := 0) hx hb dL_familyOf_21 (by decide) ?_
    rw [show kcd [3, 2] z.1 = 0 by rw [h0]; rfl, if_pos h0]
    exact V_ret C hP2 hS2 dL_familyOf_22
  · rw [if_neg h0]
    rcases hz with h9 | h9 | h9
    · exact absurd h9 h0
    · rw [h9] at hcl
      rw [show kcd [3, 2] z.1 = 1 by rw [h9]; rfl]
      refine vx_catch (own := RL) (name := kE 3) (E := kE 3) C.1.2.2.2.1 [] ⟨0, 10, 13, 63⟩ [⟨0, 10, 17, 28⟩] C.2.2.2.2.2.1 (fun z9 hz9 => nomatch hz9) rfl (by decide) (C.1.2.2.2.2 _ wcl_RL_63) (V_cast C (by decide +kernel)) hce hcv hcl ?_
      refine lv_astore (lv' := [(4, .ref q9), (0, .ref (kad (wC G ad) 291)), (1, .int x1), (2, .int x2), (3, .ref qo)]) hx hb dL_familyOf_13 hl (by decide) rfl (fun ls hl => ?_)
      refine lv_iconst (v := 1) hx hb dL_familyOf_15 (by decide) ?_
      exact V_ret C hP1 hS1 dL_familyOf_16
    · rw [h9] at hcl
      rw [show kcd [3, 2] z.1 = 2 by rw [h9]; rfl]
      refine vx_catch (own := RL) (name := kE 2) (E := kE 2) C.1.2.2.2.1 [⟨0, 10, 13, 63⟩] ⟨0, 10, 17, 28⟩ [] C.2.2.2.2.2.1 (fun z9 hz9 => by
      simp only [List.mem_cons, List.not_mem_nil, or_false] at hz9
      rcases hz9 with rfl
      · exact Or.inr ⟨by decide, kE 3, C.1.2.2.2.2 _ wcl_RL_63, C.2.1.2.2.2.2 2 3 (by decide) (by decide) (by decide)⟩) rfl (by decide) (C.1.2.2.2.2 _ wcl_RL_28) (V_cast C (by decide +kernel)) hce hcv hcl ?_
      refine lv_astore (lv' := [(4, .ref q9), (0, .ref (kad (wC G ad) 291)), (1, .int x1), (2, .int x2), (3, .ref qo)]) hx hb dL_familyOf_17 hl (by decide) rfl (fun ls hl => ?_)
      refine lv_iconst (v := 2) hx hb dL_familyOf_19 (by decide) ?_
      exact V_ret C hP1 hS1 dL_familyOf_20
theorem wm_RL_82 : Cond.methodLink RL 82 yX11_pieces ∈ kGT := kgt (List.mem_of_getElem? (i := 1119) (by decide +kernel)) rfl
theorem hy_X11_pieces : kYV yX11_pieces cX11_pieces 3 (some .int) 2 := ⟨⟨kgt (List.mem_of_getElem? (i := 1122) (by decide +kernel)) rfl, kgt (List.mem_of_getElem? (i := 59) (by decide +kernel)) rfl, by decide +kernel, by decide⟩, kgt (List.mem_of_getElem? (i := 1120) (by decide +kernel)) rfl, kgt (List.mem_of_getElem? (i := 1121) (by decide +kernel)) rfl⟩
set_option maxRecDepth 100000 in
set_option maxHeartbeats 4000000 in
theorem wl_pieces (l : Launch) (hst : l.stackTraces = false) (G : kG) (ad : Nat → Nat) (cL cD : ClassId) (qo : Nat) (f : kMem) (x1 x2 : Int32) (lo : Nat → Int64) (z : kXr) (h : cx_X11_pieces f x1 x2 = some z) (hz : z.1 = 0 ∨ z.1 = 3) : kLMet l (wC G ad) cL cD qo yL_pieces cL_pieces 5 [(0, 10, 13, 63)] 7 [.ref (kad (wC G ad) 291), .int x1, .int x2, .ref qo] f (oL cL lo) (kcd [3] z.1) z.2.2 (if z.1 = 0 then oL cL (vp_updL lo 0 z.2.1.toInt64) else oL cL lo) := by
  refine kLMet_of (lv := [(0, .ref (kad (wC G ad) 291)), (1, .int x1), (2, .int x2), (3, .ref qo)]) hst (by decide) rfl (Nat.le_of_ble_eq_true rfl) rfl ?_
  intro p e R s m args below meth c ls C hP hD hS hl
  have hx := C.1.1
  have hb := C.1.2.1
  refine lv_aload_n hx hb dL_pieces_0 rfl (lv_at hl 3 rfl) ?_
  refine lv_iconst (v := 0) hx hb dL_pieces_1 (by decide) ?_
  refine lv_aload_n hx hb dL_pieces_2 rfl (lv_at hl 0 rfl) ?_
  refine lv_iload_n hx hb dL_pieces_3 rfl (lv_at hl 1 rfl) ?_
  refine lv_iload_n hx hb dL_pieces_4 rfl (lv_at hl 2 rfl) ?_
  refine V_call C hy_X11_pieces rfl wm_RL_82 (Nat.le_of_ble_eq_true rfl) (shC_291 G ad) (by decide) (kxMetV_int (kmx_X11_pieces l hst G ad f x1 x2 z h)) (As := [.int x1, .int x2]) (rest := [.int 0, .ref qo]) rfl rfl (Nat.le_of_ble_eq_true rfl) dL_pieces_5 hP hD hS hl (fun h0 H1 locs1 hP1 hD1 hS1 => ?_) (fun h0 ce q9 H1 locs1 hP1 hD1 hS1 hce hcv hcl => ?_)
  · refine lv_i2l hx hb dL_pieces_8 rfl ?_
    refine V_last C hP1 hD1 hS1 dL_pieces_9 (fun H2 locs2 hP2 hS2 => ?_)
    refine lv_goto (tgt := 17) hx hb dL_pieces_10 (by decide) ?_
    refine lv_iconst (v := 0) hx hb dL_pieces_17 (by decide) ?_
    rw [show kcd [3] z.1 = 0 by rw [h0]; rfl, if_pos h0]
    exact V_ret C hP2 hS2 dL_pieces_18
  · rw [if_neg h0]
    rcases hz with h9 | h9
    · exact absurd h9 h0
    · rw [h9] at hcl
      rw [show kcd [3] z.1 = 1 by rw [h9]; rfl]
      refine vx_catch (own := RL) (name := kE 3) (E := kE 3) C.1.2.2.2.1 [] ⟨0, 10, 13, 63⟩ [] C.2.2.2.2.2.1 (fun z9 hz9 => nomatch hz9) rfl (by decide) (C.1.2.2.2.2 _ wcl_RL_63) (V_cast C (by decide +kernel)) hce hcv hcl ?_
      refine lv_astore (lv' := [(4, .ref q9), (0, .ref (kad (wC G ad) 291)), (1, .int x1), (2, .int x2), (3, .ref qo)]) hx hb dL_pieces_13 hl (by decide) rfl (fun ls hl => ?_)
      refine lv_iconst (v := 1) hx hb dL_pieces_15 (by decide) ?_
      exact V_ret C hP1 hS1 dL_pieces_16
theorem wm_RL_85 : Cond.methodLink RL 85 yX11_families ∈ kGT := kgt (List.mem_of_getElem? (i := 1129) (by decide +kernel)) rfl
theorem hy_X11_families : kYV yX11_families cX11_families 2 (some .int) 1 := ⟨⟨kgt (List.mem_of_getElem? (i := 1132) (by decide +kernel)) rfl, kgt (List.mem_of_getElem? (i := 59) (by decide +kernel)) rfl, by decide +kernel, by decide⟩, kgt (List.mem_of_getElem? (i := 1130) (by decide +kernel)) rfl, kgt (List.mem_of_getElem? (i := 1131) (by decide +kernel)) rfl⟩
set_option maxRecDepth 100000 in
set_option maxHeartbeats 4000000 in
theorem wl_families (l : Launch) (hst : l.stackTraces = false) (G : kG) (ad : Nat → Nat) (cL cD : ClassId) (qo : Nat) (f : kMem) (x1 : Int32) (lo : Nat → Int64) (z : kXr) (h : cx_X11_families f x1 = some z) (hz : z.1 = 0 ∨ z.1 = 3) : kLMet l (wC G ad) cL cD qo yL_families cL_families 4 [(0, 9, 12, 63)] 7 [.ref (kad (wC G ad) 291), .int x1, .ref qo] f (oL cL lo) (kcd [3] z.1) z.2.2 (if z.1 = 0 then oL cL (vp_updL lo 0 z.2.1.toInt64) else oL cL lo) := by
  refine kLMet_of (lv := [(0, .ref (kad (wC G ad) 291)), (1, .int x1), (2, .ref qo)]) hst (by decide) rfl (Nat.le_of_ble_eq_true rfl) rfl ?_
  intro p e R s m args below meth c ls C hP hD hS hl
  have hx := C.1.1
  have hb := C.1.2.1
  refine lv_aload_n hx hb dL_families_0 rfl (lv_at hl 2 rfl) ?_
  refine lv_iconst (v := 0) hx hb dL_families_1 (by decide) ?_
  refine lv_aload_n hx hb dL_families_2 rfl (lv_at hl 0 rfl) ?_
  refine lv_iload_n hx hb dL_families_3 rfl (lv_at hl 1 rfl) ?_
  refine V_call C hy_X11_families rfl wm_RL_85 (Nat.le_of_ble_eq_true rfl) (shC_291 G ad) (by decide) (kxMetV_int (kmx_X11_families l hst G ad f x1 z h)) (As := [.int x1]) (rest := [.int 0, .ref qo]) rfl rfl (Nat.le_of_ble_eq_true rfl) dL_families_4 hP hD hS hl (fun h0 H1 locs1 hP1 hD1 hS1 => ?_) (fun h0 ce q9 H1 locs1 hP1 hD1 hS1 hce hcv hcl => ?_)
  · refine lv_i2l hx hb dL_families_7 rfl ?_
    refine V_last C hP1 hD1 hS1 dL_families_8 (fun H2 locs2 hP2 hS2 => ?_)
    refine lv_goto (tgt := 15) hx hb dL_families_9 (by decide) ?_
    refine lv_iconst (v := 0) hx hb dL_families_15 (by decide) ?_
    rw [show kcd [3] z.1 = 0 by rw [h0]; rfl, if_pos h0]
    exact V_ret C hP2 hS2 dL_families_16
  · rw [if_neg h0]
    rcases hz with h9 | h9
    · exact absurd h9 h0
    · rw [h9] at hcl
      rw [show kcd [3] z.1 = 1 by rw [h9]; rfl]
      refine vx_catch (own := RL) (name := kE 3) (E := kE 3) C.1.2.2.2.1 [] ⟨0, 9, 12, 63⟩ [] C.2.2.2.2.2.1 (fun z9 hz9 => nomatch hz9) rfl (by decide) (C.1.2.2.2.2 _ wcl_RL_63) (V_cast C (by decide +kernel)) hce hcv hcl ?_
      refine lv_astore_n (lv' := [(3, .ref q9), (0, .ref (kad (wC G ad) 291)), (1, .int x1), (2, .ref qo)]) hx hb dL_families_12 rfl hl (by decide) rfl (fun ls hl => ?_)
      refine lv_iconst (v := 1) hx hb dL_families_13 (by decide) ?_
      exact V_ret C hP1 hS1 dL_families_14
theorem wm_RL_88 : Cond.methodLink RL 88 yX11_dryer ∈ kGT := kgt (List.mem_of_getElem? (i := 1141) (by decide +kernel)) rfl
theorem hy_X11_dryer : kYV yX11_dryer cX11_dryer 3 (some .int) 2 := ⟨⟨kgt (List.mem_of_getElem? (i := 1144) (by decide +kernel)) rfl, kgt (List.mem_of_getElem? (i := 59) (by decide +kernel)) rfl, by decide +kernel, by decide⟩, kgt (List.mem_of_getElem? (i := 1142) (by decide +kernel)) rfl, kgt (List.mem_of_getElem? (i := 1143) (by decide +kernel)) rfl⟩
set_option maxRecDepth 100000 in
set_option maxHeartbeats 4000000 in
theorem wl_dryer (l : Launch) (hst : l.stackTraces = false) (G : kG) (ad : Nat → Nat) (cL cD : ClassId) (qo : Nat) (f : kMem) (x1 x2 : Int32) (lo : Nat → Int64) (z : kXr) (h : cx_X11_dryer f x1 x2 = some z) (hz : z.1 = 0 ∨ z.1 = 3 ∨ z.1 = 2) : kLMet l (wC G ad) cL cD qo yL_dryer cL_dryer 5 [(0, 10, 13, 63), (0, 10, 17, 28)] 7 [.ref (kad (wC G ad) 291), .int x1, .int x2, .ref qo] f (oL cL lo) (kcd [3, 2] z.1) z.2.2 (if z.1 = 0 then oL cL (vp_updL lo 0 z.2.1.toInt64) else oL cL lo) := by
  refine kLMet_of (lv := [(0, .ref (kad (wC G ad) 291)), (1, .int x1), (2, .int x2), (3, .ref qo)]) hst (by decide) rfl (Nat.le_of_ble_eq_true rfl) rfl ?_
  intro p e R s m args below meth c ls C hP hD hS hl
  have hx := C.1.1
  have hb := C.1.2.1
  refine lv_aload_n hx hb dL_dryer_0 rfl (lv_at hl 3 rfl) ?_
  refine lv_iconst (v := 0) hx hb dL_dryer_1 (by decide) ?_
  refine lv_aload_n hx hb dL_dryer_2 rfl (lv_at hl 0 rfl) ?_
  refine lv_iload_n hx hb dL_dryer_3 rfl (lv_at hl 1 rfl) ?_
  refine lv_iload_n hx hb dL_dryer_4 rfl (lv_at hl 2 rfl) ?_
  refine V_call C hy_X11_dryer rfl wm_RL_88 (Nat.le_of_ble_eq_true rfl) (shC_291 G ad) (by decide) (kxMetV_int (kmx_X11_dryer l hst G ad f x1 x2 z h)) (As := [.int x1, .int x2]) (rest := [.int 0, .ref qo]) rfl rfl (Nat.le_of_ble_eq_true rfl) dL_dryer_5 hP hD hS hl (fun h0 H1 locs1 hP1 hD1 hS1 => ?_) (fun h0 ce q9 H1 locs1 hP1 hD1 hS1 hce hcv hcl => ?_)
  · refine lv_i2l hx hb dL_dryer_8 rfl ?_
    refine V_last C hP1 hD1 hS1 dL_dryer_9 (fun H2 locs2 hP2 hS2 => ?_)
    refine lv_goto (tgt := 21) hx hb dL_dryer_10 (by decide) ?_
    refine lv_iconst (v := 0) hx hb dL_dryer_21 (by decide) ?_
    rw [show kcd [3, 2] z.1 = 0 by rw [h0]; rfl, if_pos h0]
    exact V_ret C hP2 hS2 dL_dryer_22
  · rw [if_neg h0]
    rcases hz with h9 | h9 | h9
    · exact absurd h9 h0
    · rw [h9] at hcl
      rw [show kcd [3, 2] z.1 = 1 by rw [h9]; rfl]
      refine vx_catch (own := RL) (name := kE 3) (E := kE 3) C.1.2.2.2.1 [] ⟨0, 10, 13, 63⟩ [⟨0, 10, 17, 28⟩] C.2.2.2.2.2.1 (fun z9 hz9 => nomatch hz9) rfl (by decide) (C.1.2.2.2.2 _ wcl_RL_63) (V_cast C (by decide +kernel)) hce hcv hcl ?_
      refine lv_astore (lv' := [(4, .ref q9), (0, .ref (kad (wC G ad) 291)), (1, .int x1), (2, .int x2), (3, .ref qo)]) hx hb dL_dryer_13 hl (by decide) rfl (fun ls hl => ?_)
      refine lv_iconst (v := 1) hx hb dL_dryer_15 (by decide) ?_
      exact V_ret C hP1 hS1 dL_dryer_16
    · rw [h9] at hcl
      rw [show kcd [3, 2] z.1 = 2 by rw [h9]; rfl]
      refine vx_catch (own := RL) (name := kE 2) (E := kE 2) C.1.2.2.2.1 [⟨0, 10, 13, 63⟩] ⟨0, 10, 17, 28⟩ [] C.2.2.2.2.2.1 (fun z9 hz9 => by
      simp only [List.mem_cons, List.not_mem_nil, or_false] at hz9
      rcases hz9 with rfl
      · exact Or.inr ⟨by decide, kE 3, C.1.2.2.2.2 _ wcl_RL_63, C.2.1.2.2.2.2 2 3 (by decide) (by decide) (by decide)⟩) rfl (by decide) (C.1.2.2.2.2 _ wcl_RL_28) (V_cast C (by decide +kernel)) hce hcv hcl ?_
      refine lv_astore (lv' := [(4, .ref q9), (0, .ref (kad (wC G ad) 291)), (1, .int x1), (2, .int x2), (3, .ref qo)]) hx hb dL_dryer_17 hl (by decide) rfl (fun ls hl => ?_)
      refine lv_iconst (v := 2) hx hb dL_dryer_19 (by decide) ?_
      exact V_ret C hP1 hS1 dL_dryer_20
theorem wm_RL_91 : Cond.methodLink RL 91 yX11_stock ∈ kGT := kgt (List.mem_of_getElem? (i := 1151) (by decide +kernel)) rfl
theorem hy_X11_stock : kYV yX11_stock cX11_stock 5 (some .int) 3 := ⟨⟨kgt (List.mem_of_getElem? (i := 1154) (by decide +kernel)) rfl, kgt (List.mem_of_getElem? (i := 59) (by decide +kernel)) rfl, by decide +kernel, by decide⟩, kgt (List.mem_of_getElem? (i := 1152) (by decide +kernel)) rfl, kgt (List.mem_of_getElem? (i := 1153) (by decide +kernel)) rfl⟩
set_option maxRecDepth 100000 in
set_option maxHeartbeats 4000000 in
theorem wl_stock (l : Launch) (hst : l.stackTraces = false) (G : kG) (ad : Nat → Nat) (cL cD : ClassId) (qo : Nat) (f : kMem) (x1 x2 x3 : Int32) (lo : Nat → Int64) (z : kXr) (h : cx_X11_stock f x1 x2 x3 = some z) (hz : z.1 = 0 ∨ z.1 = 3 ∨ z.1 = 2) : kLMet l (wC G ad) cL cD qo yL_stock cL_stock 6 [(0, 12, 15, 63), (0, 12, 19, 28)] 7 [.ref (kad (wC G ad) 291), .int x1, .int x2, .int x3, .ref qo] f (oL cL lo) (kcd [3, 2] z.1) z.2.2 (if z.1 = 0 then oL cL (vp_updL lo 0 z.2.1.toInt64) else oL cL lo) := by
  refine kLMet_of (lv := [(0, .ref (kad (wC G ad) 291)), (1, .int x1), (2, .int x2), (3, .int x3), (4, .ref qo)]) hst (by decide) rfl (Nat.le_of_ble_eq_true rfl) rfl ?_
  intro p e R s m args below meth c ls C hP hD hS hl
  have hx := C.1.1
  have hb := C.1.2.1
  refine lv_aload hx hb dL_stock_0 (lv_at hl 4 rfl) ?_
  refine lv_iconst (v := 0) hx hb dL_stock_2 (by decide) ?_
  refine lv_aload_n hx hb dL_stock_3 rfl (lv_at hl 0 rfl) ?_
  refine lv_iload_n hx hb dL_stock_4 rfl (lv_at hl 1 rfl) ?_
  refine lv_iload_n hx hb dL_stock_5 rfl (lv_at hl 2 rfl) ?_
  refine lv_iload_n hx hb dL_stock_6 rfl (lv_at hl 3 rfl) ?_
  refine V_call C hy_X11_stock rfl wm_RL_91 (Nat.le_of_ble_eq_true rfl) (shC_291 G ad) (by decide) (kxMetV_int (kmx_X11_stock l hst G ad f x1 x2 x3 z h)) (As := [.int x1, .int x2, .int x3]) (rest := [.int 0, .ref qo]) rfl rfl (Nat.le_of_ble_eq_true rfl) dL_stock_7 hP hD hS hl (fun h0 H1 locs1 hP1 hD1 hS1 => ?_) (fun h0 ce q9 H1 locs1 hP1 hD1 hS1 hce hcv hcl => ?_)
  · refine lv_i2l hx hb dL_stock_10 rfl ?_
    refine V_last C hP1 hD1 hS1 dL_stock_11 (fun H2 locs2 hP2 hS2 => ?_)
    refine lv_goto (tgt := 23) hx hb dL_stock_12 (by decide) ?_
    refine lv_iconst (v := 0) hx hb dL_stock_23 (by decide) ?_
    rw [show kcd [3, 2] z.1 = 0 by rw [h0]; rfl, if_pos h0]
    exact V_ret C hP2 hS2 dL_stock_24
  · rw [if_neg h0]
    rcases hz with h9 | h9 | h9
    · exact absurd h9 h0
    · rw [h9] at hcl
      rw [show kcd [3, 2] z.1 = 1 by rw [h9]; rfl]
      refine vx_catch (own := RL) (name := kE 3) (E := kE 3) C.1.2.2.2.1 [] ⟨0, 12, 15, 63⟩ [⟨0, 12, 19, 28⟩] C.2.2.2.2.2.1 (fun z9 hz9 => nomatch hz9) rfl (by decide) (C.1.2.2.2.2 _ wcl_RL_63) (V_cast C (by decide +kernel)) hce hcv hcl ?_
      refine lv_astore (lv' := [(5, .ref q9), (0, .ref (kad (wC G ad) 291)), (1, .int x1), (2, .int x2), (3, .int x3), (4, .ref qo)]) hx hb dL_stock_15 hl (by decide) rfl (fun ls hl => ?_)
      refine lv_iconst (v := 1) hx hb dL_stock_17 (by decide) ?_
      exact V_ret C hP1 hS1 dL_stock_18
    · rw [h9] at hcl
      rw [show kcd [3, 2] z.1 = 2 by rw [h9]; rfl]
      refine vx_catch (own := RL) (name := kE 2) (E := kE 2) C.1.2.2.2.1 [⟨0, 12, 15, 63⟩] ⟨0, 12, 19, 28⟩ [] C.2.2.2.2.2.1 (fun z9 hz9 => by
      simp only [List.mem_cons, List.not_mem_nil, or_false] at hz9
      rcases hz9 with rfl
      · exact Or.inr ⟨by decide, kE 3, C.1.2.2.2.2 _ wcl_RL_63, C.2.1.2.2.2.2 2 3 (by decide) (by decide) (by decide)⟩) rfl (by decide) (C.1.2.2.2.2 _ wcl_RL_28) (V_cast C (by decide +kernel)) hce hcv hcl ?_
      refine lv_astore (lv' := [(5, .ref q9), (0, .ref (kad (wC G ad) 291)), (1, .int x1), (2, .int x2), (3, .int x3), (4, .ref qo)]) hx hb dL_stock_19 hl (by decide) rfl (fun ls hl => ?_)
      refine lv_iconst (v := 2) hx hb dL_stock_21 (by decide) ?_
      exact V_ret C hP1 hS1 dL_stock_22
theorem wm_RL_94 : Cond.methodLink RL 94 yX11_made ∈ kGT := kgt (List.mem_of_getElem? (i := 1160) (by decide +kernel)) rfl
theorem hy_X11_made : kYV yX11_made cX11_made 3 (some .int) 2 := ⟨⟨kgt (List.mem_of_getElem? (i := 1163) (by decide +kernel)) rfl, kgt (List.mem_of_getElem? (i := 59) (by decide +kernel)) rfl, by decide +kernel, by decide⟩, kgt (List.mem_of_getElem? (i := 1161) (by decide +kernel)) rfl, kgt (List.mem_of_getElem? (i := 1162) (by decide +kernel)) rfl⟩
set_option maxRecDepth 100000 in
set_option maxHeartbeats 4000000 in
theorem wl_made (l : Launch) (hst : l.stackTraces = false) (G : kG) (ad : Nat → Nat) (cL cD : ClassId) (qo : Nat) (f : kMem) (x1 x2 : Int32) (lo : Nat → Int64) (z : kXr) (h : cx_X11_made f x1 x2 = some z) (hz : z.1 = 0 ∨ z.1 = 3 ∨ z.1 = 2) : kLMet l (wC G ad) cL cD qo yL_made cL_made 5 [(0, 10, 13, 63), (0, 10, 17, 28)] 7 [.ref (kad (wC G ad) 291), .int x1, .int x2, .ref qo] f (oL cL lo) (kcd [3, 2] z.1) z.2.2 (if z.1 = 0 then oL cL (vp_updL lo 0 z.2.1.toInt64) else oL cL lo) := by
  refine kLMet_of (lv := [(0, .ref (kad (wC G ad) 291)), (1, .int x1), (2, .int x2), (3, .ref qo)]) hst (by decide) rfl (Nat.le_of_ble_eq_true rfl) rfl ?_
  intro p e R s m args below meth c ls C hP hD hS hl
  have hx := C.1.1
  have hb := C.1.2.1
  refine lv_aload_n hx hb dL_made_0 rfl (lv_at hl 3 rfl) ?_
  refine lv_iconst (v := 0) hx hb dL_made_1 (by decide) ?_
  refine lv_aload_n hx hb dL_made_2 rfl (lv_at hl 0 rfl) ?_
  refine lv_iload_n hx hb dL_made_3 rfl (lv_at hl 1 rfl) ?_
  refine lv_iload_n hx hb dL_made_4 rfl (lv_at hl 2 rfl) ?_
  refine V_call C hy_X11_made rfl wm_RL_94 (Nat.le_of_ble_eq_true rfl) (shC_291 G ad) (by decide) (kxMetV_int (kmx_X11_made l hst G ad f x1 x2 z h)) (As := [.int x1, .int x2]) (rest := [.int 0, .ref qo]) rfl rfl (Nat.le_of_ble_eq_true rfl) dL_made_5 hP hD hS hl (fun h0 H1 locs1 hP1 hD1 hS1 => ?_) (fun h0 ce q9 H1 locs1 hP1 hD1 hS1 hce hcv hcl => ?_)
  · refine lv_i2l hx hb dL_made_8 rfl ?_
    refine V_last C hP1 hD1 hS1 dL_made_9 (fun H2 locs2 hP2 hS2 => ?_)
    refine lv_goto (tgt := 21) hx hb dL_made_10 (by decide) ?_
    refine lv_iconst (v := 0) hx hb dL_made_21 (by decide) ?_
    rw [show kcd [3, 2] z.1 = 0 by rw [h0]; rfl, if_pos h0]
    exact V_ret C hP2 hS2 dL_made_22
  · rw [if_neg h0]
    rcases hz with h9 | h9 | h9
    · exact absurd h9 h0
    · rw [h9] at hcl
      rw [show kcd [3, 2] z.1 = 1 by rw [h9]; rfl]
      refine vx_catch (own := RL) (name := kE 3) (E := kE 3) C.1.2.2.2.1 [] ⟨0, 10, 13, 63⟩ [⟨0, 10, 17, 28⟩] C.2.2.2.2.2.1 (fun z9 hz9 => nomatch hz9) rfl (by decide) (C.1.2.2.2.2 _ wcl_RL_63) (V_cast C (by decide +kernel)) hce hcv hcl ?_
      refine lv_astore (lv' := [(4, .ref q9), (0, .ref (kad (wC G ad) 291)), (1, .int x1), (2, .int x2), (3, .ref qo)]) hx hb dL_made_13 hl (by decide) rfl (fun ls hl => ?_)
      refine lv_iconst (v := 1) hx hb dL_made_15 (by decide) ?_
      exact V_ret C hP1 hS1 dL_made_16
    · rw [h9] at hcl
      rw [show kcd [3, 2] z.1 = 2 by rw [h9]; rfl]
      refine vx_catch (own := RL) (name := kE 2) (E := kE 2) C.1.2.2.2.1 [⟨0, 10, 13, 63⟩] ⟨0, 10, 17, 28⟩ [] C.2.2.2.2.2.1 (fun z9 hz9 => by
      simp only [List.mem_cons, List.not_mem_nil, or_false] at hz9
      rcases hz9 with rfl
      · exact Or.inr ⟨by decide, kE 3, C.1.2.2.2.2 _ wcl_RL_63, C.2.1.2.2.2.2 2 3 (by decide) (by decide) (by decide)⟩) rfl (by decide) (C.1.2.2.2.2 _ wcl_RL_28) (V_cast C (by decide +kernel)) hce hcv hcl ?_
      refine lv_astore (lv' := [(4, .ref q9), (0, .ref (kad (wC G ad) 291)), (1, .int x1), (2, .int x2), (3, .ref qo)]) hx hb dL_made_17 hl (by decide) rfl (fun ls hl => ?_)
      refine lv_iconst (v := 2) hx hb dL_made_19 (by decide) ?_
      exact V_ret C hP1 hS1 dL_made_20
theorem wm_RL_97 : Cond.methodLink RL 97 yX11_orderOf ∈ kGT := kgt (List.mem_of_getElem? (i := 1176) (by decide +kernel)) rfl
theorem hy_X11_orderOf : kYV yX11_orderOf cX11_orderOf 3 (some .int) 2 := ⟨⟨kgt (List.mem_of_getElem? (i := 1179) (by decide +kernel)) rfl, kgt (List.mem_of_getElem? (i := 59) (by decide +kernel)) rfl, by decide +kernel, by decide⟩, kgt (List.mem_of_getElem? (i := 1177) (by decide +kernel)) rfl, kgt (List.mem_of_getElem? (i := 1178) (by decide +kernel)) rfl⟩
set_option maxRecDepth 100000 in
set_option maxHeartbeats 4000000 in
theorem wl_orderOf (l : Launch) (hst : l.stackTraces = false) (G : kG) (ad : Nat → Nat) (cL cD : ClassId) (qo : Nat) (f : kMem) (x1 x2 : Int32) (lo : Nat → Int64) (z : kXr) (h : cx_X11_orderOf f x1 x2 = some z) (hz : z.1 = 0 ∨ z.1 = 3 ∨ z.1 = 2) : kLMet l (wC G ad) cL cD qo yL_orderOf cL_orderOf 5 [(0, 10, 13, 63), (0, 10, 17, 28)] 8 [.ref (kad (wC G ad) 291), .int x1, .int x2, .ref qo] f (oL cL lo) (kcd [3, 2] z.1) z.2.2 (if z.1 = 0 then oL cL (vp_updL lo 0 z.2.1.toInt64) else oL cL lo) := by
  refine kLMet_of (lv := [(0, .ref (kad (wC G ad) 291)), (1, .int x1), (2, .int x2), (3, .ref qo)]) hst (by decide) rfl (Nat.le_of_ble_eq_true rfl) rfl ?_
  intro p e R s m args below meth c ls C hP hD hS hl
  have hx := C.1.1
  have hb := C.1.2.1
  refine lv_aload_n hx hb dL_orderOf_0 rfl (lv_at hl 3 rfl) ?_
  refine lv_iconst (v := 0) hx hb dL_orderOf_1 (by decide) ?_
  refine lv_aload_n hx hb dL_orderOf_2 rfl (lv_at hl 0 rfl) ?_
  refine lv_iload_n hx hb dL_orderOf_3 rfl (lv_at hl 1 rfl) ?_
  refine lv_iload_n hx hb dL_orderOf_4 rfl (lv_at hl 2 rfl) ?_
  refine V_call C hy_X11_orderOf rfl wm_RL_97 (Nat.le_of_ble_eq_true rfl) (shC_291 G ad) (by decide) (kxMetV_int (kmx_X11_orderOf l hst G ad f x1 x2 z h)) (As := [.int x1, .int x2]) (rest := [.int 0, .ref qo]) rfl rfl (Nat.le_of_ble_eq_true rfl) dL_orderOf_5 hP hD hS hl (fun h0 H1 locs1 hP1 hD1 hS1 => ?_) (fun h0 ce q9 H1 locs1 hP1 hD1 hS1 hce hcv hcl => ?_)
  · refine lv_i2l hx hb dL_orderOf_8 rfl ?_
    refine V_last C hP1 hD1 hS1 dL_orderOf_9 (fun H2 locs2 hP2 hS2 => ?_)
    refine lv_goto (tgt := 21) hx hb dL_orderOf_10 (by decide) ?_
    refine lv_iconst (v := 0) hx hb dL_orderOf_21 (by decide) ?_
    rw [show kcd [3, 2] z.1 = 0 by rw [h0]; rfl, if_pos h0]
    exact V_ret C hP2 hS2 dL_orderOf_22
  · rw [if_neg h0]
    rcases hz with h9 | h9 | h9
    · exact absurd h9 h0
    · rw [h9] at hcl
      rw [show kcd [3, 2] z.1 = 1 by rw [h9]; rfl]
      refine vx_catch (own := RL) (name := kE 3) (E := kE 3) C.1.2.2.2.1 [] ⟨0, 10, 13, 63⟩ [⟨0, 10, 17, 28⟩] C.2.2.2.2.2.1 (fun z9 hz9 => nomatch hz9) rfl (by decide) (C.1.2.2.2.2 _ wcl_RL_63) (V_cast C (by decide +kernel)) hce hcv hcl ?_
      refine lv_astore (lv' := [(4, .ref q9), (0, .ref (kad (wC G ad) 291)), (1, .int x1), (2, .int x2), (3, .ref qo)]) hx hb dL_orderOf_13 hl (by decide) rfl (fun ls hl => ?_)
      refine lv_iconst (v := 1) hx hb dL_orderOf_15 (by decide) ?_
      exact V_ret C hP1 hS1 dL_orderOf_16
    · rw [h9] at hcl
      rw [show kcd [3, 2] z.1 = 2 by rw [h9]; rfl]
      refine vx_catch (own := RL) (name := kE 2) (E := kE 2) C.1.2.2.2.1 [⟨0, 10, 13, 63⟩] ⟨0, 10, 17, 28⟩ [] C.2.2.2.2.2.1 (fun z9 hz9 => by
      simp only [List.mem_cons, List.not_mem_nil, or_false] at hz9
      rcases hz9 with rfl
      · exact Or.inr ⟨by decide, kE 3, C.1.2.2.2.2 _ wcl_RL_63, C.2.1.2.2.2.2 2 3 (by decide) (by decide) (by decide)⟩) rfl (by decide) (C.1.2.2.2.2 _ wcl_RL_28) (V_cast C (by decide +kernel)) hce hcv hcl ?_
      refine lv_astore (lv' := [(4, .ref q9), (0, .ref (kad (wC G ad) 291)), (1, .int x1), (2, .int x2), (3, .ref qo)]) hx hb dL_orderOf_17 hl (by decide) rfl (fun ls hl => ?_)
      refine lv_iconst (v := 2) hx hb dL_orderOf_19 (by decide) ?_
      exact V_ret C hP1 hS1 dL_orderOf_20
theorem wm_RL_100 : Cond.methodLink RL 100 yX11_shots ∈ kGT := kgt (List.mem_of_getElem? (i := 1190) (by decide +kernel)) rfl
theorem hy_X11_shots : kYV yX11_shots cX11_shots 4 (some .int) 1 := ⟨⟨kgt (List.mem_of_getElem? (i := 1193) (by decide +kernel)) rfl, kgt (List.mem_of_getElem? (i := 59) (by decide +kernel)) rfl, by decide +kernel, by decide⟩, kgt (List.mem_of_getElem? (i := 1191) (by decide +kernel)) rfl, kgt (List.mem_of_getElem? (i := 1192) (by decide +kernel)) rfl⟩
set_option maxRecDepth 100000 in
set_option maxHeartbeats 4000000 in
theorem wl_shots (l : Launch) (hst : l.stackTraces = false) (G : kG) (ad : Nat → Nat) (cL cD : ClassId) (qo : Nat) (f : kMem) (x1 : Int32) (lo : Nat → Int64) (z : kXr) (h : cx_X11_shots f x1 = some z) (hz : z.1 = 0 ∨ z.1 = 3 ∨ z.1 = 5) : kLMet l (wC G ad) cL cD qo yL_shots cL_shots 4 [(0, 9, 12, 63), (0, 9, 15, 77)] 8 [.ref (kad (wC G ad) 291), .int x1, .ref qo] f (oL cL lo) (kcd [3, 5] z.1) z.2.2 (if z.1 = 0 then oL cL (vp_updL lo 0 z.2.1.toInt64) else oL cL lo) := by
  refine kLMet_of (lv := [(0, .ref (kad (wC G ad) 291)), (1, .int x1), (2, .ref qo)]) hst (by decide) rfl (Nat.le_of_ble_eq_true rfl) rfl ?_
  intro p e R s m args below meth c ls C hP hD hS hl
  have hx := C.1.1
  have hb := C.1.2.1
  refine lv_aload_n hx hb dL_shots_0 rfl (lv_at hl 2 rfl) ?_
  refine lv_iconst (v := 0) hx hb dL_shots_1 (by decide) ?_
  refine lv_aload_n hx hb dL_shots_2 rfl (lv_at hl 0 rfl) ?_
  refine lv_iload_n hx hb dL_shots_3 rfl (lv_at hl 1 rfl) ?_
  refine V_call C hy_X11_shots rfl wm_RL_100 (Nat.le_of_ble_eq_true rfl) (shC_291 G ad) (by decide) (kxMetV_int (kmx_X11_shots l hst G ad f x1 z h)) (As := [.int x1]) (rest := [.int 0, .ref qo]) rfl rfl (Nat.le_of_ble_eq_true rfl) dL_shots_4 hP hD hS hl (fun h0 H1 locs1 hP1 hD1 hS1 => ?_) (fun h0 ce q9 H1 locs1 hP1 hD1 hS1 hce hcv hcl => ?_)
  · refine lv_i2l hx hb dL_shots_7 rfl ?_
    refine V_last C hP1 hD1 hS1 dL_shots_8 (fun H2 locs2 hP2 hS2 => ?_)
    refine lv_goto (tgt := 18) hx hb dL_shots_9 (by decide) ?_
    refine lv_iconst (v := 0) hx hb dL_shots_18 (by decide) ?_
    rw [show kcd [3, 5] z.1 = 0 by rw [h0]; rfl, if_pos h0]
    exact V_ret C hP2 hS2 dL_shots_19
  · rw [if_neg h0]
    rcases hz with h9 | h9 | h9
    · exact absurd h9 h0
    · rw [h9] at hcl
      rw [show kcd [3, 5] z.1 = 1 by rw [h9]; rfl]
      refine vx_catch (own := RL) (name := kE 3) (E := kE 3) C.1.2.2.2.1 [] ⟨0, 9, 12, 63⟩ [⟨0, 9, 15, 77⟩] C.2.2.2.2.2.1 (fun z9 hz9 => nomatch hz9) rfl (by decide) (C.1.2.2.2.2 _ wcl_RL_63) (V_cast C (by decide +kernel)) hce hcv hcl ?_
      refine lv_astore_n (lv' := [(3, .ref q9), (0, .ref (kad (wC G ad) 291)), (1, .int x1), (2, .ref qo)]) hx hb dL_shots_12 rfl hl (by decide) rfl (fun ls hl => ?_)
      refine lv_iconst (v := 1) hx hb dL_shots_13 (by decide) ?_
      exact V_ret C hP1 hS1 dL_shots_14
    · rw [h9] at hcl
      rw [show kcd [3, 5] z.1 = 2 by rw [h9]; rfl]
      refine vx_catch (own := RL) (name := kE 5) (E := kE 5) C.1.2.2.2.1 [⟨0, 9, 12, 63⟩] ⟨0, 9, 15, 77⟩ [] C.2.2.2.2.2.1 (fun z9 hz9 => by
      simp only [List.mem_cons, List.not_mem_nil, or_false] at hz9
      rcases hz9 with rfl
      · exact Or.inr ⟨by decide, kE 3, C.1.2.2.2.2 _ wcl_RL_63, C.2.1.2.2.2.2 5 3 (by decide) (by decide) (by decide)⟩) rfl (by decide) (C.1.2.2.2.2 _ wcl_RL_77) (V_cast C (by decide +kernel)) hce hcv hcl ?_
      refine lv_astore_n (lv' := [(3, .ref q9), (0, .ref (kad (wC G ad) 291)), (1, .int x1), (2, .ref qo)]) hx hb dL_shots_15 rfl hl (by decide) rfl (fun ls hl => ?_)
      refine lv_iconst (v := 2) hx hb dL_shots_16 (by decide) ?_
      exact V_ret C hP1 hS1 dL_shots_17
theorem wm_RL_103 : Cond.methodLink RL 103 yX11_letter ∈ kGT := kgt (List.mem_of_getElem? (i := 1207) (by decide +kernel)) rfl
theorem hy_X11_letter : kYV yX11_letter cX11_letter 2 (some .char) 1 := ⟨⟨kgt (List.mem_of_getElem? (i := 1210) (by decide +kernel)) rfl, kgt (List.mem_of_getElem? (i := 59) (by decide +kernel)) rfl, by decide +kernel, by decide⟩, kgt (List.mem_of_getElem? (i := 1208) (by decide +kernel)) rfl, kgt (List.mem_of_getElem? (i := 1209) (by decide +kernel)) rfl⟩
set_option maxRecDepth 100000 in
set_option maxHeartbeats 4000000 in
theorem wl_letter (l : Launch) (hst : l.stackTraces = false) (G : kG) (ad : Nat → Nat) (cL cD : ClassId) (qo : Nat) (f : kMem) (x1 : Int32) (lo : Nat → Int64) (z : kXr) (h : cx_X11_letter f x1 = some z) (hz : z.1 = 0 ∨ z.1 = 3) : kLMet l (wC G ad) cL cD qo yL_letter cL_letter 4 [(0, 9, 12, 63)] 8 [.ref (kad (wC G ad) 291), .int x1, .ref qo] f (oL cL lo) (kcd [3] z.1) z.2.2 (if z.1 = 0 then oL cL (vp_updL lo 0 z.2.1.toInt64) else oL cL lo) := by
  refine kLMet_of (lv := [(0, .ref (kad (wC G ad) 291)), (1, .int x1), (2, .ref qo)]) hst (by decide) rfl (Nat.le_of_ble_eq_true rfl) rfl ?_
  intro p e R s m args below meth c ls C hP hD hS hl
  have hx := C.1.1
  have hb := C.1.2.1
  refine lv_aload_n hx hb dL_letter_0 rfl (lv_at hl 2 rfl) ?_
  refine lv_iconst (v := 0) hx hb dL_letter_1 (by decide) ?_
  refine lv_aload_n hx hb dL_letter_2 rfl (lv_at hl 0 rfl) ?_
  refine lv_iload_n hx hb dL_letter_3 rfl (lv_at hl 1 rfl) ?_
  refine V_call C hy_X11_letter rfl wm_RL_103 (Nat.le_of_ble_eq_true rfl) (shC_291 G ad) (by decide) (kxMetV_int (kmx_X11_letter l hst G ad f x1 z h)) (As := [.int x1]) (rest := [.int 0, .ref qo]) rfl rfl (Nat.le_of_ble_eq_true rfl) dL_letter_4 hP hD hS hl (fun h0 H1 locs1 hP1 hD1 hS1 => ?_) (fun h0 ce q9 H1 locs1 hP1 hD1 hS1 hce hcv hcl => ?_)
  · refine lv_i2l hx hb dL_letter_7 rfl ?_
    refine V_last C hP1 hD1 hS1 dL_letter_8 (fun H2 locs2 hP2 hS2 => ?_)
    refine lv_goto (tgt := 15) hx hb dL_letter_9 (by decide) ?_
    refine lv_iconst (v := 0) hx hb dL_letter_15 (by decide) ?_
    rw [show kcd [3] z.1 = 0 by rw [h0]; rfl, if_pos h0]
    exact V_ret C hP2 hS2 dL_letter_16
  · rw [if_neg h0]
    rcases hz with h9 | h9
    · exact absurd h9 h0
    · rw [h9] at hcl
      rw [show kcd [3] z.1 = 1 by rw [h9]; rfl]
      refine vx_catch (own := RL) (name := kE 3) (E := kE 3) C.1.2.2.2.1 [] ⟨0, 9, 12, 63⟩ [] C.2.2.2.2.2.1 (fun z9 hz9 => nomatch hz9) rfl (by decide) (C.1.2.2.2.2 _ wcl_RL_63) (V_cast C (by decide +kernel)) hce hcv hcl ?_
      refine lv_astore_n (lv' := [(3, .ref q9), (0, .ref (kad (wC G ad) 291)), (1, .int x1), (2, .ref qo)]) hx hb dL_letter_12 rfl hl (by decide) rfl (fun ls hl => ?_)
      refine lv_iconst (v := 1) hx hb dL_letter_13 (by decide) ?_
      exact V_ret C hP1 hS1 dL_letter_14
theorem wm_RL_107 : Cond.methodLink RL 107 yX11_due ∈ kGT := kgt (List.mem_of_getElem? (i := 1214) (by decide +kernel)) rfl
theorem hy_X11_due : kYV yX11_due cX11_due 2 (some .int) 1 := ⟨⟨kgt (List.mem_of_getElem? (i := 1217) (by decide +kernel)) rfl, kgt (List.mem_of_getElem? (i := 59) (by decide +kernel)) rfl, by decide +kernel, by decide⟩, kgt (List.mem_of_getElem? (i := 1215) (by decide +kernel)) rfl, kgt (List.mem_of_getElem? (i := 1216) (by decide +kernel)) rfl⟩
set_option maxRecDepth 100000 in
set_option maxHeartbeats 4000000 in
theorem wl_due (l : Launch) (hst : l.stackTraces = false) (G : kG) (ad : Nat → Nat) (cL cD : ClassId) (qo : Nat) (f : kMem) (x1 : Int32) (lo : Nat → Int64) (z : kXr) (h : cx_X11_due f x1 = some z) (hz : z.1 = 0 ∨ z.1 = 2) : kLMet l (wC G ad) cL cD qo yL_due cL_due 4 [(0, 9, 12, 28)] 7 [.ref (kad (wC G ad) 291), .int x1, .ref qo] f (oL cL lo) (kcd [2] z.1) z.2.2 (if z.1 = 0 then oL cL (vp_updL lo 0 z.2.1.toInt64) else oL cL lo) := by
  refine kLMet_of (lv := [(0, .ref (kad (wC G ad) 291)), (1, .int x1), (2, .ref qo)]) hst (by decide) rfl (Nat.le_of_ble_eq_true rfl) rfl ?_
  intro p e R s m args below meth c ls C hP hD hS hl
  have hx := C.1.1
  have hb := C.1.2.1
  refine lv_aload_n hx hb dL_due_0 rfl (lv_at hl 2 rfl) ?_
  refine lv_iconst (v := 0) hx hb dL_due_1 (by decide) ?_
  refine lv_aload_n hx hb dL_due_2 rfl (lv_at hl 0 rfl) ?_
  refine lv_iload_n hx hb dL_due_3 rfl (lv_at hl 1 rfl) ?_
  refine V_call C hy_X11_due rfl wm_RL_107 (Nat.le_of_ble_eq_true rfl) (shC_291 G ad) (by decide) (kxMetV_int (kmx_X11_due l hst G ad f x1 z h)) (As := [.int x1]) (rest := [.int 0, .ref qo]) rfl rfl (Nat.le_of_ble_eq_true rfl) dL_due_4 hP hD hS hl (fun h0 H1 locs1 hP1 hD1 hS1 => ?_) (fun h0 ce q9 H1 locs1 hP1 hD1 hS1 hce hcv hcl => ?_)
  · refine lv_i2l hx hb dL_due_7 rfl ?_
    refine V_last C hP1 hD1 hS1 dL_due_8 (fun H2 locs2 hP2 hS2 => ?_)
    refine lv_goto (tgt := 15) hx hb dL_due_9 (by decide) ?_
    refine lv_iconst (v := 0) hx hb dL_due_15 (by decide) ?_
    rw [show kcd [2] z.1 = 0 by rw [h0]; rfl, if_pos h0]
    exact V_ret C hP2 hS2 dL_due_16
  · rw [if_neg h0]
    rcases hz with h9 | h9
    · exact absurd h9 h0
    · rw [h9] at hcl
      rw [show kcd [2] z.1 = 1 by rw [h9]; rfl]
      refine vx_catch (own := RL) (name := kE 2) (E := kE 2) C.1.2.2.2.1 [] ⟨0, 9, 12, 28⟩ [] C.2.2.2.2.2.1 (fun z9 hz9 => nomatch hz9) rfl (by decide) (C.1.2.2.2.2 _ wcl_RL_28) (V_cast C (by decide +kernel)) hce hcv hcl ?_
      refine lv_astore_n (lv' := [(3, .ref q9), (0, .ref (kad (wC G ad) 291)), (1, .int x1), (2, .ref qo)]) hx hb dL_due_12 rfl hl (by decide) rfl (fun ls hl => ?_)
      refine lv_iconst (v := 1) hx hb dL_due_13 (by decide) ?_
      exact V_ret C hP1 hS1 dL_due_14
theorem wm_RL_110 : Cond.methodLink RL 110 yX11_reason ∈ kGT := kgt (List.mem_of_getElem? (i := 1226) (by decide +kernel)) rfl
theorem hy_X11_reason : kYV yX11_reason cX11_reason 3 (some .int) 2 := ⟨⟨kgt (List.mem_of_getElem? (i := 1229) (by decide +kernel)) rfl, kgt (List.mem_of_getElem? (i := 59) (by decide +kernel)) rfl, by decide +kernel, by decide⟩, kgt (List.mem_of_getElem? (i := 1227) (by decide +kernel)) rfl, kgt (List.mem_of_getElem? (i := 1228) (by decide +kernel)) rfl⟩
set_option maxRecDepth 100000 in
set_option maxHeartbeats 4000000 in
theorem wl_reason (l : Launch) (hst : l.stackTraces = false) (G : kG) (ad : Nat → Nat) (cL cD : ClassId) (qo : Nat) (f : kMem) (x1 x2 : Int32) (lo : Nat → Int64) (z : kXr) (h : cx_X11_reason f x1 x2 = some z) (hz : z.1 = 0 ∨ z.1 = 2 ∨ z.1 = 5) : kLMet l (wC G ad) cL cD qo yL_reason cL_reason 5 [(0, 10, 13, 28), (0, 10, 17, 77)] 7 [.ref (kad (wC G ad) 291), .int x1, .int x2, .ref qo] f (oL cL lo) (kcd [2, 5] z.1) z.2.2 (if z.1 = 0 then oL cL (vp_updL lo 0 z.2.1.toInt64) else oL cL lo) := by
  refine kLMet_of (lv := [(0, .ref (kad (wC G ad) 291)), (1, .int x1), (2, .int x2), (3, .ref qo)]) hst (by decide) rfl (Nat.le_of_ble_eq_true rfl) rfl ?_
  intro p e R s m args below meth c ls C hP hD hS hl
  have hx := C.1.1
  have hb := C.1.2.1
  refine lv_aload_n hx hb dL_reason_0 rfl (lv_at hl 3 rfl) ?_
  refine lv_iconst (v := 0) hx hb dL_reason_1 (by decide) ?_
  refine lv_aload_n hx hb dL_reason_2 rfl (lv_at hl 0 rfl) ?_
  refine lv_iload_n hx hb dL_reason_3 rfl (lv_at hl 1 rfl) ?_
  refine lv_iload_n hx hb dL_reason_4 rfl (lv_at hl 2 rfl) ?_
  refine V_call C hy_X11_reason rfl wm_RL_110 (Nat.le_of_ble_eq_true rfl) (shC_291 G ad) (by decide) (kxMetV_int (kmx_X11_reason l hst G ad f x1 x2 z h)) (As := [.int x1, .int x2]) (rest := [.int 0, .ref qo]) rfl rfl (Nat.le_of_ble_eq_true rfl) dL_reason_5 hP hD hS hl (fun h0 H1 locs1 hP1 hD1 hS1 => ?_) (fun h0 ce q9 H1 locs1 hP1 hD1 hS1 hce hcv hcl => ?_)
  · refine lv_i2l hx hb dL_reason_8 rfl ?_
    refine V_last C hP1 hD1 hS1 dL_reason_9 (fun H2 locs2 hP2 hS2 => ?_)
    refine lv_goto (tgt := 21) hx hb dL_reason_10 (by decide) ?_
    refine lv_iconst (v := 0) hx hb dL_reason_21 (by decide) ?_
    rw [show kcd [2, 5] z.1 = 0 by rw [h0]; rfl, if_pos h0]
    exact V_ret C hP2 hS2 dL_reason_22
  · rw [if_neg h0]
    rcases hz with h9 | h9 | h9
    · exact absurd h9 h0
    · rw [h9] at hcl
      rw [show kcd [2, 5] z.1 = 1 by rw [h9]; rfl]
      refine vx_catch (own := RL) (name := kE 2) (E := kE 2) C.1.2.2.2.1 [] ⟨0, 10, 13, 28⟩ [⟨0, 10, 17, 77⟩] C.2.2.2.2.2.1 (fun z9 hz9 => nomatch hz9) rfl (by decide) (C.1.2.2.2.2 _ wcl_RL_28) (V_cast C (by decide +kernel)) hce hcv hcl ?_
      refine lv_astore (lv' := [(4, .ref q9), (0, .ref (kad (wC G ad) 291)), (1, .int x1), (2, .int x2), (3, .ref qo)]) hx hb dL_reason_13 hl (by decide) rfl (fun ls hl => ?_)
      refine lv_iconst (v := 1) hx hb dL_reason_15 (by decide) ?_
      exact V_ret C hP1 hS1 dL_reason_16
    · rw [h9] at hcl
      rw [show kcd [2, 5] z.1 = 2 by rw [h9]; rfl]
      refine vx_catch (own := RL) (name := kE 5) (E := kE 5) C.1.2.2.2.1 [⟨0, 10, 13, 28⟩] ⟨0, 10, 17, 77⟩ [] C.2.2.2.2.2.1 (fun z9 hz9 => by
      simp only [List.mem_cons, List.not_mem_nil, or_false] at hz9
      rcases hz9 with rfl
      · exact Or.inr ⟨by decide, kE 2, C.1.2.2.2.2 _ wcl_RL_28, C.2.1.2.2.2.2 5 2 (by decide) (by decide) (by decide)⟩) rfl (by decide) (C.1.2.2.2.2 _ wcl_RL_77) (V_cast C (by decide +kernel)) hce hcv hcl ?_
      refine lv_astore (lv' := [(4, .ref q9), (0, .ref (kad (wC G ad) 291)), (1, .int x1), (2, .int x2), (3, .ref qo)]) hx hb dL_reason_17 hl (by decide) rfl (fun ls hl => ?_)
      refine lv_iconst (v := 2) hx hb dL_reason_19 (by decide) ?_
      exact V_ret C hP1 hS1 dL_reason_20
theorem wm_RL_114 : Cond.methodLink RL 114 yX11_scrap ∈ kGT := kgt (List.mem_of_getElem? (i := 1249) (by decide +kernel)) rfl
theorem hy_X11_scrap : kYV yX11_scrap cX11_scrap 2 (some .float) 0 := ⟨⟨kgt (List.mem_of_getElem? (i := 1252) (by decide +kernel)) rfl, kgt (List.mem_of_getElem? (i := 59) (by decide +kernel)) rfl, by decide +kernel, by decide⟩, kgt (List.mem_of_getElem? (i := 1250) (by decide +kernel)) rfl, kgt (List.mem_of_getElem? (i := 1251) (by decide +kernel)) rfl⟩
theorem wcl_RL_118 : Cond.classLink RL 118 (kE 6) ∈ kGT := kgt (List.mem_of_getElem? (i := 1235) (by decide +kernel)) rfl
def kdv (v : Value) : UInt64 := match v with
  | .float x => FP.f2d x
  | .double x => x
  | _ => 0
set_option maxRecDepth 100000 in
set_option maxHeartbeats 4000000 in
theorem wl_scrap (l : Launch) (hst : l.stackTraces = false) (G : kG) (ad : Nat → Nat) (cL cD : ClassId) (qo : Nat) (f : kMem) (ld : Nat → UInt64) (z : Nat × Value × kMem) (h : cx_X11_scrap f = some z) (hz : z.1 = 0 ∨ z.1 = 6) (hv : z.1 = 0 → ∃ a b, b ≠ 0 ∧ z.2.1 = .float (FP.fdiv (FP.i2f a) (FP.i2f b))) : kLMet l (wC G ad) cL cD qo yL_scrap cL_scrap 3 [(0, 8, 11, 118)] 7 [.ref (kad (wC G ad) 291), .ref qo] f (oD cD ld) (kcd [6] z.1) z.2.2 (if z.1 = 0 then oD cD (vf_upd ld 0 (kdv z.2.1)) else oD cD ld) := by
  refine kLMet_of (lv := [(0, .ref (kad (wC G ad) 291)), (1, .ref qo)]) hst (by decide) rfl (Nat.le_of_ble_eq_true rfl) rfl ?_
  intro p e R s m args below meth c ls C hP hD hS hl
  have hx := C.1.1
  have hb := C.1.2.1
  refine lv_aload_n hx hb dL_scrap_0 rfl (lv_at hl 1 rfl) ?_
  refine lv_iconst (v := 0) hx hb dL_scrap_1 (by decide) ?_
  refine lv_aload_n hx hb dL_scrap_2 rfl (lv_at hl 0 rfl) ?_
  refine V_call C hy_X11_scrap rfl wm_RL_114 (Nat.le_of_ble_eq_true rfl) (shC_291 G ad) (by decide) (kmx_X11_scrap l hst G ad f z h) (As := []) (rest := [.int 0, .ref qo]) rfl rfl (Nat.le_of_ble_eq_true rfl) dL_scrap_3 hP hD hS hl (fun h0 H1 locs1 hP1 hD1 hS1 => ?_) (fun h0 ce q9 H1 locs1 hP1 hD1 hS1 hce hcv hcl => ?_)
  · obtain ⟨a9, b9, hb9, hv9⟩ := hv h0
    rw [hv9]
    refine lv_f2d hx hb dL_scrap_6 (f2dI (fdivN hb9)) ?_
    refine V_dast C hP1 hD1 hS1 dL_scrap_7 (fun H2 locs2 hP2 hS2 => ?_)
    refine lv_goto (tgt := 14) hx hb dL_scrap_8 (by decide) ?_
    refine lv_iconst (v := 0) hx hb dL_scrap_14 (by decide) ?_
    rw [show kcd [6] z.1 = 0 by rw [h0]; rfl, if_pos h0]
    exact V_ret C hP2 hS2 dL_scrap_15
  · rw [if_neg h0]
    rcases hz with h9 | h9
    · exact absurd h9 h0
    · rw [h9] at hcl
      rw [show kcd [6] z.1 = 1 by rw [h9]; rfl]
      refine vx_catch (own := RL) (name := kE 6) (E := kE 6) C.1.2.2.2.1 [] ⟨0, 8, 11, 118⟩ [] C.2.2.2.2.2.1 (fun z9 hz9 => nomatch hz9) rfl (by decide) (C.1.2.2.2.2 _ wcl_RL_118) (V_cast C (by decide +kernel)) hce hcv hcl ?_
      refine lv_astore_n (lv' := [(2, .ref q9), (0, .ref (kad (wC G ad) 291)), (1, .ref qo)]) hx hb dL_scrap_11 rfl hl (by decide) rfl (fun ls hl => ?_)
      refine lv_iconst (v := 1) hx hb dL_scrap_12 (by decide) ?_
      exact V_ret C hP1 hS1 dL_scrap_13
theorem wm_RL_120 : Cond.methodLink RL 120 yX11_lateness ∈ kGT := kgt (List.mem_of_getElem? (i := 1263) (by decide +kernel)) rfl
theorem hy_X11_lateness : kYV yX11_lateness cX11_lateness 2 (some .double) 0 := ⟨⟨kgt (List.mem_of_getElem? (i := 1266) (by decide +kernel)) rfl, kgt (List.mem_of_getElem? (i := 59) (by decide +kernel)) rfl, by decide +kernel, by decide⟩, kgt (List.mem_of_getElem? (i := 1264) (by decide +kernel)) rfl, kgt (List.mem_of_getElem? (i := 1265) (by decide +kernel)) rfl⟩
set_option maxRecDepth 100000 in
set_option maxHeartbeats 4000000 in
theorem wl_lateness (l : Launch) (hst : l.stackTraces = false) (G : kG) (ad : Nat → Nat) (cL cD : ClassId) (qo : Nat) (f : kMem) (ld : Nat → UInt64) (z : Nat × Value × kMem) (h : cx_X11_lateness f = some z) (hz : z.1 = 0 ∨ z.1 = 6) (hv : z.1 = 0 → ∃ v, z.2.1 = .double v) : kLMet l (wC G ad) cL cD qo yL_lateness cL_lateness 3 [(0, 7, 10, 118)] 7 [.ref (kad (wC G ad) 291), .ref qo] f (oD cD ld) (kcd [6] z.1) z.2.2 (if z.1 = 0 then oD cD (vf_upd ld 0 (kdv z.2.1)) else oD cD ld) := by
  refine kLMet_of (lv := [(0, .ref (kad (wC G ad) 291)), (1, .ref qo)]) hst (by decide) rfl (Nat.le_of_ble_eq_true rfl) rfl ?_
  intro p e R s m args below meth c ls C hP hD hS hl
  have hx := C.1.1
  have hb := C.1.2.1
  refine lv_aload_n hx hb dL_lateness_0 rfl (lv_at hl 1 rfl) ?_
  refine lv_iconst (v := 0) hx hb dL_lateness_1 (by decide) ?_
  refine lv_aload_n hx hb dL_lateness_2 rfl (lv_at hl 0 rfl) ?_
  refine V_call C hy_X11_lateness rfl wm_RL_120 (Nat.le_of_ble_eq_true rfl) (shC_291 G ad) (by decide) (kmx_X11_lateness l hst G ad f z h) (As := []) (rest := [.int 0, .ref qo]) rfl rfl (Nat.le_of_ble_eq_true rfl) dL_lateness_3 hP hD hS hl (fun h0 H1 locs1 hP1 hD1 hS1 => ?_) (fun h0 ce q9 H1 locs1 hP1 hD1 hS1 hce hcv hcl => ?_)
  · obtain ⟨v9, hv9⟩ := hv h0
    rw [hv9]
    refine V_dast C hP1 hD1 hS1 dL_lateness_6 (fun H2 locs2 hP2 hS2 => ?_)
    refine lv_goto (tgt := 13) hx hb dL_lateness_7 (by decide) ?_
    refine lv_iconst (v := 0) hx hb dL_lateness_13 (by decide) ?_
    rw [show kcd [6] z.1 = 0 by rw [h0]; rfl, if_pos h0]
    exact V_ret C hP2 hS2 dL_lateness_14
  · rw [if_neg h0]
    rcases hz with h9 | h9
    · exact absurd h9 h0
    · rw [h9] at hcl
      rw [show kcd [6] z.1 = 1 by rw [h9]; rfl]
      refine vx_catch (own := RL) (name := kE 6) (E := kE 6) C.1.2.2.2.1 [] ⟨0, 7, 10, 118⟩ [] C.2.2.2.2.2.1 (fun z9 hz9 => nomatch hz9) rfl (by decide) (C.1.2.2.2.2 _ wcl_RL_118) (V_cast C (by decide +kernel)) hce hcv hcl ?_
      refine lv_astore_n (lv' := [(2, .ref q9), (0, .ref (kad (wC G ad) 291)), (1, .ref qo)]) hx hb dL_lateness_10 rfl hl (by decide) rfl (fun ls hl => ?_)
      refine lv_iconst (v := 1) hx hb dL_lateness_11 (by decide) ?_
      exact V_ret C hP1 hS1 dL_lateness_12
theorem wm_RL_124 : Cond.methodLink RL 124 yX11_account ∈ kGT := kgt (List.mem_of_getElem? (i := 1276) (by decide +kernel)) rfl
theorem hy_X11_account : kYV yX11_account cX11_account 2 (some .int) 1 := ⟨⟨kgt (List.mem_of_getElem? (i := 1279) (by decide +kernel)) rfl, kgt (List.mem_of_getElem? (i := 59) (by decide +kernel)) rfl, by decide +kernel, by decide⟩, kgt (List.mem_of_getElem? (i := 1277) (by decide +kernel)) rfl, kgt (List.mem_of_getElem? (i := 1278) (by decide +kernel)) rfl⟩
set_option maxRecDepth 100000 in
set_option maxHeartbeats 4000000 in
theorem wl_account (l : Launch) (hst : l.stackTraces = false) (G : kG) (ad : Nat → Nat) (cL cD : ClassId) (qo : Nat) (f : kMem) (x1 : Int32) (lo : Nat → Int64) (z : kXr) (h : cx_X11_account f x1 = some z) (hz : z.1 = 0 ∨ z.1 = 2) : kLMet l (wC G ad) cL cD qo yL_account cL_account 4 [(0, 9, 12, 28)] 7 [.ref (kad (wC G ad) 291), .int x1, .ref qo] f (oL cL lo) (kcd [2] z.1) z.2.2 (if z.1 = 0 then oL cL (vp_updL lo 0 z.2.1.toInt64) else oL cL lo) := by
  refine kLMet_of (lv := [(0, .ref (kad (wC G ad) 291)), (1, .int x1), (2, .ref qo)]) hst (by decide) rfl (Nat.le_of_ble_eq_true rfl) rfl ?_
  intro p e R s m args below meth c ls C hP hD hS hl
  have hx := C.1.1
  have hb := C.1.2.1
  refine lv_aload_n hx hb dL_account_0 rfl (lv_at hl 2 rfl) ?_
  refine lv_iconst (v := 0) hx hb dL_account_1 (by decide) ?_
  refine lv_aload_n hx hb dL_account_2 rfl (lv_at hl 0 rfl) ?_
  refine lv_iload_n hx hb dL_account_3 rfl (lv_at hl 1 rfl) ?_
  refine V_call C hy_X11_account rfl wm_RL_124 (Nat.le_of_ble_eq_true rfl) (shC_291 G ad) (by decide) (kxMetV_int (kmx_X11_account l hst G ad f x1 z h)) (As := [.int x1]) (rest := [.int 0, .ref qo]) rfl rfl (Nat.le_of_ble_eq_true rfl) dL_account_4 hP hD hS hl (fun h0 H1 locs1 hP1 hD1 hS1 => ?_) (fun h0 ce q9 H1 locs1 hP1 hD1 hS1 hce hcv hcl => ?_)
  · refine lv_i2l hx hb dL_account_7 rfl ?_
    refine V_last C hP1 hD1 hS1 dL_account_8 (fun H2 locs2 hP2 hS2 => ?_)
    refine lv_goto (tgt := 15) hx hb dL_account_9 (by decide) ?_
    refine lv_iconst (v := 0) hx hb dL_account_15 (by decide) ?_
    rw [show kcd [2] z.1 = 0 by rw [h0]; rfl, if_pos h0]
    exact V_ret C hP2 hS2 dL_account_16
  · rw [if_neg h0]
    rcases hz with h9 | h9
    · exact absurd h9 h0
    · rw [h9] at hcl
      rw [show kcd [2] z.1 = 1 by rw [h9]; rfl]
      refine vx_catch (own := RL) (name := kE 2) (E := kE 2) C.1.2.2.2.1 [] ⟨0, 9, 12, 28⟩ [] C.2.2.2.2.2.1 (fun z9 hz9 => nomatch hz9) rfl (by decide) (C.1.2.2.2.2 _ wcl_RL_28) (V_cast C (by decide +kernel)) hce hcv hcl ?_
      refine lv_astore_n (lv' := [(3, .ref q9), (0, .ref (kad (wC G ad) 291)), (1, .int x1), (2, .ref qo)]) hx hb dL_account_12 rfl hl (by decide) rfl (fun ls hl => ?_)
      refine lv_iconst (v := 1) hx hb dL_account_13 (by decide) ?_
      exact V_ret C hP1 hS1 dL_account_14
theorem wm_RL_127 : Cond.methodLink RL 127 yX11_undo ∈ kGT := kgt (List.mem_of_getElem? (i := 1288) (by decide +kernel)) rfl
theorem hy_X11_undo : kYV yX11_undo cX11_undo 1 (some .int) 0 := ⟨⟨kgt (List.mem_of_getElem? (i := 1291) (by decide +kernel)) rfl, kgt (List.mem_of_getElem? (i := 59) (by decide +kernel)) rfl, by decide +kernel, by decide⟩, kgt (List.mem_of_getElem? (i := 1289) (by decide +kernel)) rfl, kgt (List.mem_of_getElem? (i := 1290) (by decide +kernel)) rfl⟩
set_option maxRecDepth 100000 in
set_option maxHeartbeats 4000000 in
theorem wl_undo (l : Launch) (hst : l.stackTraces = false) (G : kG) (ad : Nat → Nat) (cL cD : ClassId) (qo : Nat) (f : kMem) (lo : Nat → Int64) (z : kXr) (h : cx_X11_undo f = some z) (hz : z.1 = 0 ∨ z.1 = 1) : kLMet l (wC G ad) cL cD qo yL_undo cL_undo 3 [(0, 8, 11, 13)] 7 [.ref (kad (wC G ad) 291), .ref qo] f (oL cL lo) (kcd [1] z.1) z.2.2 (if z.1 = 0 then oL cL (vp_updL lo 0 z.2.1.toInt64) else oL cL lo) := by
  refine kLMet_of (lv := [(0, .ref (kad (wC G ad) 291)), (1, .ref qo)]) hst (by decide) rfl (Nat.le_of_ble_eq_true rfl) rfl ?_
  intro p e R s m args below meth c ls C hP hD hS hl
  have hx := C.1.1
  have hb := C.1.2.1
  refine lv_aload_n hx hb dL_undo_0 rfl (lv_at hl 1 rfl) ?_
  refine lv_iconst (v := 0) hx hb dL_undo_1 (by decide) ?_
  refine lv_aload_n hx hb dL_undo_2 rfl (lv_at hl 0 rfl) ?_
  refine V_call C hy_X11_undo rfl wm_RL_127 (Nat.le_of_ble_eq_true rfl) (shC_291 G ad) (by decide) (kxMetV_int (kmx_X11_undo l hst G ad f z h)) (As := []) (rest := [.int 0, .ref qo]) rfl rfl (Nat.le_of_ble_eq_true rfl) dL_undo_3 hP hD hS hl (fun h0 H1 locs1 hP1 hD1 hS1 => ?_) (fun h0 ce q9 H1 locs1 hP1 hD1 hS1 hce hcv hcl => ?_)
  · refine lv_i2l hx hb dL_undo_6 rfl ?_
    refine V_last C hP1 hD1 hS1 dL_undo_7 (fun H2 locs2 hP2 hS2 => ?_)
    refine lv_goto (tgt := 14) hx hb dL_undo_8 (by decide) ?_
    refine lv_iconst (v := 0) hx hb dL_undo_14 (by decide) ?_
    rw [show kcd [1] z.1 = 0 by rw [h0]; rfl, if_pos h0]
    exact V_ret C hP2 hS2 dL_undo_15
  · rw [if_neg h0]
    rcases hz with h9 | h9
    · exact absurd h9 h0
    · rw [h9] at hcl
      rw [show kcd [1] z.1 = 1 by rw [h9]; rfl]
      refine vx_catch (own := RL) (name := kE 1) (E := kE 1) C.1.2.2.2.1 [] ⟨0, 8, 11, 13⟩ [] C.2.2.2.2.2.1 (fun z9 hz9 => nomatch hz9) rfl (by decide) (C.1.2.2.2.2 _ wcl_RL_13) (V_cast C (by decide +kernel)) hce hcv hcl ?_
      refine lv_astore_n (lv' := [(2, .ref q9), (0, .ref (kad (wC G ad) 291)), (1, .ref qo)]) hx hb dL_undo_11 rfl hl (by decide) rfl (fun ls hl => ?_)
      refine lv_iconst (v := 1) hx hb dL_undo_12 (by decide) ?_
      exact V_ret C hP1 hS1 dL_undo_13
theorem wm_RL_130 : Cond.methodLink RL 130 yX11_restore ∈ kGT := kgt (List.mem_of_getElem? (i := 1300) (by decide +kernel)) rfl
theorem hy_X11_restore : kYV yX11_restore cX11_restore 1 (some .int) 0 := ⟨⟨kgt (List.mem_of_getElem? (i := 1303) (by decide +kernel)) rfl, kgt (List.mem_of_getElem? (i := 59) (by decide +kernel)) rfl, by decide +kernel, by decide⟩, kgt (List.mem_of_getElem? (i := 1301) (by decide +kernel)) rfl, kgt (List.mem_of_getElem? (i := 1302) (by decide +kernel)) rfl⟩
set_option maxRecDepth 100000 in
set_option maxHeartbeats 4000000 in
theorem wl_restore (l : Launch) (hst : l.stackTraces = false) (G : kG) (ad : Nat → Nat) (cL cD : ClassId) (qo : Nat) (f : kMem) (lo : Nat → Int64) (z : kXr) (h : cx_X11_restore f = some z) (hz : z.1 = 0 ∨ z.1 = 1) : kLMet l (wC G ad) cL cD qo yL_restore cL_restore 3 [(0, 8, 11, 13)] 7 [.ref (kad (wC G ad) 291), .ref qo] f (oL cL lo) (kcd [1] z.1) z.2.2 (if z.1 = 0 then oL cL (vp_updL lo 0 z.2.1.toInt64) else oL cL lo) := by
  refine kLMet_of (lv := [(0, .ref (kad (wC G ad) 291)), (1, .ref qo)]) hst (by decide) rfl (Nat.le_of_ble_eq_true rfl) rfl ?_
  intro p e R s m args below meth c ls C hP hD hS hl
  have hx := C.1.1
  have hb := C.1.2.1
  refine lv_aload_n hx hb dL_restore_0 rfl (lv_at hl 1 rfl) ?_
  refine lv_iconst (v := 0) hx hb dL_restore_1 (by decide) ?_
  refine lv_aload_n hx hb dL_restore_2 rfl (lv_at hl 0 rfl) ?_
  refine V_call C hy_X11_restore rfl wm_RL_130 (Nat.le_of_ble_eq_true rfl) (shC_291 G ad) (by decide) (kxMetV_int (kmx_X11_restore l hst G ad f z h)) (As := []) (rest := [.int 0, .ref qo]) rfl rfl (Nat.le_of_ble_eq_true rfl) dL_restore_3 hP hD hS hl (fun h0 H1 locs1 hP1 hD1 hS1 => ?_) (fun h0 ce q9 H1 locs1 hP1 hD1 hS1 hce hcv hcl => ?_)
  · refine lv_i2l hx hb dL_restore_6 rfl ?_
    refine V_last C hP1 hD1 hS1 dL_restore_7 (fun H2 locs2 hP2 hS2 => ?_)
    refine lv_goto (tgt := 14) hx hb dL_restore_8 (by decide) ?_
    refine lv_iconst (v := 0) hx hb dL_restore_14 (by decide) ?_
    rw [show kcd [1] z.1 = 0 by rw [h0]; rfl, if_pos h0]
    exact V_ret C hP2 hS2 dL_restore_15
  · rw [if_neg h0]
    rcases hz with h9 | h9
    · exact absurd h9 h0
    · rw [h9] at hcl
      rw [show kcd [1] z.1 = 1 by rw [h9]; rfl]
      refine vx_catch (own := RL) (name := kE 1) (E := kE 1) C.1.2.2.2.1 [] ⟨0, 8, 11, 13⟩ [] C.2.2.2.2.2.1 (fun z9 hz9 => nomatch hz9) rfl (by decide) (C.1.2.2.2.2 _ wcl_RL_13) (V_cast C (by decide +kernel)) hce hcv hcl ?_
      refine lv_astore_n (lv' := [(2, .ref q9), (0, .ref (kad (wC G ad) 291)), (1, .ref qo)]) hx hb dL_restore_11 rfl hl (by decide) rfl (fun ls hl => ?_)
      refine lv_iconst (v := 1) hx hb dL_restore_12 (by decide) ?_
      exact V_ret C hP1 hS1 dL_restore_13
