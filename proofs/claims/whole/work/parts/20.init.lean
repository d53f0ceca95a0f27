/-! constructors: worlds that grow -/
def kty (G : kG) : List (ClassId × FieldType) := [(G.2.1, .int), (G.2.2.1, .char), (G.2.2.2, .object "MouldFloor$Floor")]
def aI (G : kG) (n : Nat) (f : Nat → Int32) : va_E := .inl (G.2.1, n, .inl f)
def aC (G : kG) (n : Nat) (f : Nat → Int32) : va_E := .inl (G.2.2.1, n, .inl f)
def aF (G : kG) (g : Nat → Option Nat) : va_E := .inl (G.2.2.2, 9, .inr (.inr (.inr (.inr g))))
def zI : Nat → Int32 := fun _ => 0
def kIA (h0 sz : Nat) : Nat → Prop := fun q => q = h0 ∨ sz ≤ q
/-- the static row FIRST_SETTINGS, and that arrays of Floor can be made -/
def kSI (st : Nat) (A : Nat → Prop) (U : State) (H : Heap) : Prop := va_Z "MouldFloor" "FIRST_SETTINGS" "[I" (.ref st) A U H ∧ va_T .int st 4 (fun j => .int (kst 0 j)) A U H ∧ va_AO "MouldFloor$Floor" U
theorem kSI_to {st : Nat} {A B : Nat → Prop} {s U : State} {H H1 : Heap} (hvm : s.vm.Alike U.vm) (hq : ∀ a : Nat, a < H.size → ¬ A a → H1[a]? = H[a]?) (hAB : ∀ q, B q → A q) (h : kSI st A s H) : kSI st B U H1 :=
  ⟨((va_Z.moved hvm h.1).kept hq).narrow hAB, ((va_T.moved hvm h.2.1).kept hq).narrow hAB, va_AO.moved hvm h.2.2⟩
def kIB (G : kG) (st : Nat) (ws : va_W) (A : Nat → Prop) (U : State) : Prop := va_P G.1 vwCl ws U.heap ∧ va_K G.1 vwCl (kty G) U ∧ (∀ z ∈ kNW, va_Nw z U) ∧ kSI st A U U.heap
/-- a constructor of the object h0, whose fields were fs: the cells Y h0 u are there then -/
def kIMet (l : Launch) (G : kG) (st : Nat) (y : MethodName) (b : ByteArray) (nL d mc ms ci : Nat) (fs : List Value) {S : Type} (Y : Nat → S → va_W) : Prop :=
  ∀ h0 sz, Met l y (.code y b nL none :: kGT) (kRm d mc ms) (va_Pc [.ref h0] (fun U => U.heap.size = sz ∧ kIB G st [(h0, .inr (ci, fs))] (kIA h0 sz) U))
    (va_Qv (fun _ : S => True) (fun u t => va_P G.1 vwCl (Y h0 u) t.heap ∧ va_D (kIA h0 sz) (Y h0 u)) (kIA h0 sz)) mc ms (kIA h0 sz)
def IC (p : Program) (l : Launch) (e : Env) (R : Room) (s : State) (m : MethodId) (args : Array Value) (below : List Frame) (meth : Method) (c : Code) (G : kG) (st : Nat) (own : String) (cc : ByteArray) (nL d mc ms h0 : Nat) : Prop :=
  CallFix p m c cc nL s args kGT own ∧ va_K G.1 vwCl (kty G) s ∧ (∀ z ∈ kNW, va_Nw z s) ∧ kSI st (kIA h0 s.heap.size) s s.heap ∧ meth.sig.returnType = none ∧ meth.locks = false ∧ R = kRm d mc ms ∧ meth.name = "<init>"
def IW (p : Program) (l : Launch) (e : Env) (R : Room) (s : State) (m : MethodId) (args : Array Value) (below : List Frame) (meth : Method) (c : Code) (G : kG) (nL h0 : Nat) (QF : State → Prop) (ws : va_W) (k n pc : Nat) (lv : List (Nat × Value)) (st : List Value) : Prop :=
  ∀ (H : Heap) (locs : List Loc) (ls : Array Slot), va_P G.1 vwCl ws H → va_D (kIA h0 s.heap.size) ws → va_S (kIA h0 s.heap.size) s.heap H locs → lv_has ls nL lv → W p l e R s m args below meth c H locs k n QF (F0 m pc ls st)
theorem kIMet_of {l : Launch} {G : kG} {st : Nat} {y : MethodName} {b : ByteArray} {nL d mc ms ci : Nat} {fs : List Value} {S : Type} {Y : Nat → S → va_W} {own : String} (hy : plainName y.cls = true) (how : y.cls = own) (hnm : y.name = "<init>") (hn : 1 ≤ nL)
    (body : ∀ (p : Program) (e : Env) (R : Room) (s : State) (m : MethodId) (args : Array Value) (below : List Frame) (meth : Method) (c : Code) (h0 : Nat), IC p l e R s m args below meth c G st own b nL d mc ms h0 → IW p l e R s m args below meth c G nL h0 (MQ below (va_Qv (fun _ : S => True) (fun u t => va_P G.1 vwCl (Y h0 u) t.heap ∧ va_D (kIA h0 s.heap.size) (Y h0 u)) (kIA h0 s.heap.size)) args s mc ms (kIA h0 s.heap.size)) [(h0, .inr (ci, fs))] 0 0 0 [(0, .ref h0)] []) : kIMet l G st y b nL d mc ms ci fs Y := by
  intro h0 sz
  refine Met.ofW (cc := b) (maxL := nL) (ret := none) hy rfl ?_
  intro p e s m args below meth c s₁ B hml hv
  obtain ⟨rfl, hsz, hP, hK, hN, hST⟩ := hv
  have hts := atoms_spec (ws := .code y b nL none :: kGT) B.pre
  have hown : s.vm.findClass y.cls = some m.cls := findClass_of_methodNamed B.named
  have hin : meth.name = y.name := (name_of_methodNamed B.named B.method).1
  subst hsz
  subst how
  have hl := lv_entry [Value.ref h0] (n := nL) hn
  rw [lg_entry_eq]
  exact body p e _ s m _ below meth c h0 ⟨⟨B.exec, B.bytes, hml, hown, fun w hw => hts w (List.mem_cons_of_mem _ hw)⟩, hK, hN, hST, B.returns, B.notSynchronized, rfl, hin.trans hnm⟩ s.heap [] _ hP
    ⟨fun i j p q hp hq _ => by
      have h1 := (List.getElem?_eq_some_iff.mp hp).1
      have h2 := (List.getElem?_eq_some_iff.mp hq).1
      simp at h1 h2
      omega, fun k q hk => by
      have h1 := (List.getElem?_eq_some_iff.mp hk).1
      simp at h1
      subst h1
      cases hk
      exact Or.inl rfl⟩ va_S.rf hl
section IROWS
variable {p : Program} {l : Launch} {e : Env} {R : Room} {s : State} {m : MethodId} {args : Array Value} {below : List Frame} {meth : Method} {c : Code} {G : kG} {st0 : Nat} {own : String} {cc : ByteArray} {nL d mc ms h0 : Nat} {QF : State → Prop} {ws : va_W} {k n pc : Nat} {lv : List (Nat × Value)} {st : List Value}
theorem I_iconst (C : IC p l e R s m args below meth c G st0 own cc nL d mc ms h0) {i : Int} {v : Int32} (hv : Int32.ofInt i = v) (hdg : decode cc pc = .ok (.iconst i, 1)) (kk : IW p l e R s m args below meth c G nL h0 QF ws k n (pc + 1) lv (.int v :: st)) : IW p l e R s m args below meth c G nL h0 QF ws k n pc lv st := fun H locs ls hP hD hS hl => lv_iconst C.1.1 C.1.2.1 hdg hv (kk H locs ls hP hD hS hl)
theorem I_bipush (C : IC p l e R s m args below meth c G st0 own cc nL d mc ms h0) {i : Int} {v : Int32} (hv : (Int8.ofInt i).toInt32 = v) (hdg : decode cc pc = .ok (.bipush i, 2)) (kk : IW p l e R s m args below meth c G nL h0 QF ws k n (pc + 2) lv (.int v :: st)) : IW p l e R s m args below meth c G nL h0 QF ws k n pc lv st := fun H locs ls hP hD hS hl => lv_bipush C.1.1 C.1.2.1 hdg hv (kk H locs ls hP hD hS hl)
theorem I_sipush (C : IC p l e R s m args below meth c G st0 own cc nL d mc ms h0) {i : Int} {v : Int32} (hv : (Int16.ofInt i).toInt32 = v) (hdg : decode cc pc = .ok (.sipush i, 3)) (kk : IW p l e R s m args below meth c G nL h0 QF ws k n (pc + 3) lv (.int v :: st)) : IW p l e R s m args below meth c G nL h0 QF ws k n pc lv st := fun H locs ls hP hD hS hl => lv_sipush C.1.1 C.1.2.1 hdg hv (kk H locs ls hP hD hS hl)
theorem I_aload_n (C : IC p l e R s m args below meth c G st0 own cc nL d mc ms h0) {j : Fin 4} {i x : Nat} (q : Nat) (hi : (j : Nat) = i) (hq : lv[q]? = some (i, .ref x)) (hdg : decode cc pc = .ok (.aload_n j, 1)) (kk : IW p l e R s m args below meth c G nL h0 QF ws k n (pc + 1) lv (.ref x :: st)) : IW p l e R s m args below meth c G nL h0 QF ws k n pc lv st := fun H locs ls hP hD hS hl => lv_aload_n C.1.1 C.1.2.1 hdg hi (lv_at hl q hq) (kk H locs ls hP hD hS hl)
theorem I_iload_n (C : IC p l e R s m args below meth c G st0 own cc nL d mc ms h0) {j : Fin 4} {i : Nat} {x : Int32} (q : Nat) (hi : (j : Nat) = i) (hq : lv[q]? = some (i, .int x)) (hdg : decode cc pc = .ok (.iload_n j, 1)) (kk : IW p l e R s m args below meth c G nL h0 QF ws k n (pc + 1) lv (.int x :: st)) : IW p l e R s m args below meth c G nL h0 QF ws k n pc lv st := fun H locs ls hP hD hS hl => lv_iload_n C.1.1 C.1.2.1 hdg hi (lv_at hl q hq) (kk H locs ls hP hD hS hl)
theorem I_istore_n (C : IC p l e R s m args below meth c G st0 own cc nL d mc ms h0) {j : Fin 4} {i : Nat} {x : Int32} {lv1 : List (Nat × Value)} (hi : (j : Nat) = i) (hn : i < nL) (hl1 : (i, Value.int x) :: lv.filter (fun q => !(q.1 == i) && !(q.1 + 1 == i && q.2.category == 2)) = lv1) (hdg : decode cc pc = .ok (.istore_n j, 1)) (kk : IW p l e R s m args below meth c G nL h0 QF ws k n (pc + 1) lv1 st) : IW p l e R s m args below meth c G nL h0 QF ws k n pc lv (.int x :: st) := fun H locs ls hP hD hS hl => lv_istore_n C.1.1 C.1.2.1 hdg hi hl hn hl1 (fun ls1 hl2 => kk H locs ls1 hP hD hS hl2)
theorem I_iinc (C : IC p l e R s m args below meth c G st0 own cc nL d mc ms h0) {i q : Nat} {z : Int} {x v : Int32} {lv1 : List (Nat × Value)} (hk : lv[q]? = some (i, .int x)) (hv : x + Int32.ofInt z = v) (hn : i < nL) (hl1 : (i, Value.int v) :: lv.filter (fun q => !(q.1 == i) && !(q.1 + 1 == i && q.2.category == 2)) = lv1) (hdg : decode cc pc = .ok (.iinc i z, 3)) (kk : IW p l e R s m args below meth c G nL h0 QF ws k n (pc + 3) lv1 st) : IW p l e R s m args below meth c G nL h0 QF ws k n pc lv st := fun H locs ls hP hD hS hl => lv_iinc C.1.1 C.1.2.1 hdg hl hk hv hn hl1 (fun ls1 hl2 => kk H locs ls1 hP hD hS hl2)
theorem I_dup (C : IC p l e R s m args below meth c G st0 own cc nL d mc ms h0) {v : Value} (hv : v.category = 1) (hdg : decode cc pc = .ok (.dup, 1)) (kk : IW p l e R s m args below meth c G nL h0 QF ws k n (pc + 1) lv (v :: v :: st)) : IW p l e R s m args below meth c G nL h0 QF ws k n pc lv (v :: st) := fun H locs ls hP hD hS hl => lv_dup C.1.1 C.1.2.1 hdg hv (kk H locs ls hP hD hS hl)
theorem I_goto (C : IC p l e R s m args below meth c G st0 own cc nL d mc ms h0) {off : Int} {tgt : Nat} (ht : (pc : Int) + off = (tgt : Int)) (hdg : decode cc pc = .ok (.goto off, 3)) (kk : IW p l e R s m args below meth c G nL h0 QF ws k n tgt lv st) : IW p l e R s m args below meth c G nL h0 QF ws k n pc lv st := fun H locs ls hP hD hS hl => lv_goto C.1.1 C.1.2.1 hdg ht (kk H locs ls hP hD hS hl)
theorem I_geT (C : IC p l e R s m args below meth c G st0 own cc nL d mc ms h0) {x y : Int32} {off : Int} {tgt : Nat} (hc : y ≤ x) (ht : (pc : Int) + off = (tgt : Int)) (hdg : decode cc pc = .ok (.if_icmp .ge off, 3)) (kk : IW p l e R s m args below meth c G nL h0 QF ws k n tgt lv st) : IW p l e R s m args below meth c G nL h0 QF ws k n pc lv (.int y :: .int x :: st) := fun H locs ls hP hD hS hl => lv_icmp_ge C.1.1 C.1.2.1 hdg ht (fun _ => kk H locs ls hP hD hS hl) (fun h => absurd hc h)
theorem I_geF (C : IC p l e R s m args below meth c G st0 own cc nL d mc ms h0) {x y : Int32} {off : Int} {tgt : Nat} (hc : ¬ y ≤ x) (ht : (pc : Int) + off = (tgt : Int)) (hdg : decode cc pc = .ok (.if_icmp .ge off, 3)) (kk : IW p l e R s m args below meth c G nL h0 QF ws k n (pc + 3) lv st) : IW p l e R s m args below meth c G nL h0 QF ws k n pc lv (.int y :: .int x :: st) := fun H locs ls hP hD hS hl => lv_icmp_ge C.1.1 C.1.2.1 hdg ht (fun h => absurd h hc) (fun _ => kk H locs ls hP hD hS hl)
theorem I_imul (C : IC p l e R s m args below meth c G st0 own cc nL d mc ms h0) {x y v : Int32} (hv : x * y = v) (hdg : decode cc pc = .ok (.imul, 1)) (kk : IW p l e R s m args below meth c G nL h0 QF ws k n (pc + 1) lv (.int v :: st)) : IW p l e R s m args below meth c G nL h0 QF ws k n pc lv (.int y :: .int x :: st) := by subst hv; exact fun H locs ls hP hD hS hl => lv_imul C.1.1 C.1.2.1 hdg (kk H locs ls hP hD hS hl)
theorem I_iadd (C : IC p l e R s m args below meth c G st0 own cc nL d mc ms h0) {x y v : Int32} (hv : x + y = v) (hdg : decode cc pc = .ok (.iadd, 1)) (kk : IW p l e R s m args below meth c G nL h0 QF ws k n (pc + 1) lv (.int v :: st)) : IW p l e R s m args below meth c G nL h0 QF ws k n pc lv (.int y :: .int x :: st) := by subst hv; exact fun H locs ls hP hD hS hl => lv_iadd C.1.1 C.1.2.1 hdg (kk H locs ls hP hD hS hl)
theorem I_sub {lv1 : List (Nat × Value)} (ks : List Nat) (hk : lv_pick lv ks = lv1) (kk : IW p l e R s m args below meth c G nL h0 QF ws k n pc lv1 st) : IW p l e R s m args below meth c G nL h0 QF ws k n pc lv st := fun H locs ls hP hD hS hl => kk H locs ls hP hD hS (lv_sub hl ks hk)
theorem arrI {A : ClassId} {D : va_G} {cl : List vw_C} {tys : List (ClassId × FieldType)} {ty : FieldType} {B : ClassId} {i j : Nat} (hK : va_K D cl tys s) (h1 : tys[i]? = some (A, ty)) (h2 : tys[j]? = some (B, ty)) (hty : ∀ C, ty ≠ .object C) : B = A := by
  have a := (hK.2 i _ h1).2
  have b := (hK.2 j _ h2).2
  unfold va_RA at a b
  dsimp only at a b
  cases ty <;> first | exact absurd rfl (hty _) | exact Option.some.inj (b.symm.trans a)
theorem arrO {A : ClassId} {D : va_G} {cl : List vw_C} {tys : List (ClassId × FieldType)} {T : String} {B : ClassId} {i j : Nat} (hK : va_K D cl tys s) (h1 : tys[i]? = some (A, .object T)) (h2 : tys[j]? = some (B, .object T)) : B = A := by
  obtain ⟨-, -, -, -, -, a⟩ := (hK.2 i _ h1).2
  obtain ⟨-, -, -, -, -, b⟩ := (hK.2 j _ h2).2
  exact Option.some.inj (b.symm.trans a)
theorem winit_1 : Cond.arrayClass .int ∈ kGT := kgt (List.mem_of_getElem? (i := 157) (by decide +kernel)) rfl
theorem winit_2 : Cond.arrayClass .char ∈ kGT := kgt (List.mem_of_getElem? (i := 355) (by decide +kernel)) rfl
theorem I_newI (C : IC p l e R s m args below meth c G st0 own cc nL d mc ms h0) {x : Int32} {N : Nat} (hn : ¬ x < 0) (hN : x.toNatClampNeg = N) (hb : N * 4 ≤ 536870912) (hc : k + 1 ≤ mc) (hs : n + N ≤ ms) (hdg : decode cc pc = .ok (.newarray .int, 2)) (kk : ∀ q : Nat, IW p l e R s m args below meth c G nL h0 QF (ws ++ [(q, aI G N zI)]) (k + 1) (n + N) (pc + 2) lv (.ref q :: st)) : IW p l e R s m args below meth c G nL h0 QF ws k n pc lv (.int x :: st) := fun H locs ls hP hD hS hl => by
  have hR : R = kRm d mc ms := C.2.2.2.2.2.2.1
  refine va_newa (atype := .int) (ty := .int) (N' := N) (a0 := (N, .inl zI)) C.1.1 C.1.2.1 (C.1.2.2.2.2 _ winit_1) rfl C.2.1 hP hD hS (fun q h => Or.inr h) (fun cA => rfl) hn hN hb (by rw [hR]; exact hc) (by rw [hR]; exact hs) hdg (fun q cA H1 hK1 hP1 hD1 hS1 => ?_)
  have e : cA = G.2.1 := arrI hK1 (i := 0) (j := 3) rfl rfl (fun _ h => by cases h)
  subst e
  exact kk q H1 locs ls hP1 hD1 hS1 hl
theorem I_newC (C : IC p l e R s m args below meth c G st0 own cc nL d mc ms h0) {x : Int32} {N : Nat} (hn : ¬ x < 0) (hN : x.toNatClampNeg = N) (hb : N * 2 ≤ 536870912) (hc : k + 1 ≤ mc) (hs : n + N ≤ ms) (hdg : decode cc pc = .ok (.newarray .char, 2)) (kk : ∀ q : Nat, IW p l e R s m args below meth c G nL h0 QF (ws ++ [(q, aC G N zI)]) (k + 1) (n + N) (pc + 2) lv (.ref q :: st)) : IW p l e R s m args below meth c G nL h0 QF ws k n pc lv (.int x :: st) := fun H locs ls hP hD hS hl => by
  have hR : R = kRm d mc ms := C.2.2.2.2.2.2.1
  refine va_newa (atype := .char) (ty := .char) (N' := N) (a0 := (N, .inl zI)) C.1.1 C.1.2.1 (C.1.2.2.2.2 _ winit_2) rfl C.2.1 hP hD hS (fun q h => Or.inr h) (fun cA => rfl) hn hN hb (by rw [hR]; exact hc) (by rw [hR]; exact hs) hdg (fun q cA H1 hK1 hP1 hD1 hS1 => ?_)
  have e : cA = G.2.2.1 := arrI hK1 (i := 1) (j := 3) rfl rfl (fun _ h => by cases h)
  subst e
  exact kk q H1 locs ls hP1 hD1 hS1 hl
theorem I_newF (C : IC p l e R s m args below meth c G st0 own cc nL d mc ms h0) {index : Nat} {x : Int32} (hcl : Cond.classLink own index "MouldFloor$Floor" ∈ kGT) (hn : ¬ x < 0) (hN : x.toNatClampNeg = 9) (hc : k + 1 ≤ mc) (hs : n + 9 ≤ ms) (hdg : decode cc pc = .ok (.anewarray index, 3)) (kk : ∀ q : Nat, IW p l e R s m args below meth c G nL h0 QF (ws ++ [(q, aF G (fun _ => none))]) (k + 1) (n + 9) (pc + 3) lv (.ref q :: st)) : IW p l e R s m args below meth c G nL h0 QF ws k n pc lv (.int x :: st) := fun H locs ls hP hD hS hl => by
  have hR : R = kRm d mc ms := C.2.2.2.2.2.2.1
  refine va_newq (N' := 9) (C := "MouldFloor$Floor") C.1.1 C.1.2.1 C.1.2.2.2.1 (C.1.2.2.2.2 _ hcl) C.2.2.2.1.2.2 C.2.1 hP hD hS (fun q h => Or.inr h) hn hN (by decide) (by rw [hR]; exact hc) (by rw [hR]; exact hs) hdg (fun q cA H1 hK1 hP1 hD1 hS1 => ?_)
  have e : cA = G.2.2.2 := arrO hK1 (i := 2) (j := 3) rfl rfl
  subst e
  exact kk q H1 locs ls hP1 hD1 hS1 hl
theorem wobj_1 : Cond.instanceMethod objectInit ∈ kGT := kgt (List.mem_of_getElem? (i := 92) (by decide +kernel)) rfl
theorem wobj_2 : Cond.code objectInit ⟨#[0xb1]⟩ 1 none ∈ kGT := kgt (List.mem_of_getElem? (i := 93) (by decide +kernel)) rfl
theorem I_obj (C : IC p l e R s m args below meth c G st0 own cc nL d mc ms h0) {idx x : Nat} (hlink : Cond.methodLink own idx objectInit ∈ kGT) (hd : 1 ≤ d) (hrest : (st.map fun v => v.category).sum ≤ 8) (hdg : decode cc pc = .ok (.invokespecial idx, 3)) (kk : IW p l e R s m args below meth c G nL h0 QF ws k n (pc + 3) lv st) : IW p l e R s m args below meth c G nL h0 QF ws k n pc lv (.ref x :: st) := fun H locs ls hP hD hS hl => by
  have hR : R = kRm d mc ms := C.2.2.2.2.2.2.1
  exact W.objInit C.1.1 C.1.2.1 C.1.2.2.2.1 (C.1.2.2.2.2 _ hlink) (C.1.2.2.2.2 _ wobj_1) (C.1.2.2.2.2 _ wobj_2) rfl (hl.1.trans C.1.2.2.1.symm) rfl hdg (by rw [hR]; exact hd) (by rw [hR]; show 2 * 0 + _ + 12 ≤ 64 * d; omega) (kk H locs ls hP hD hS hl)
theorem I_put (C : IC p l e R s m args below meth c G st0 own cc nL d mc ms h0) {C1 : String} {T : u_T} {N ci index a : Nat} {ref : String} {fs : List Value} (hin : ∀ z ∈ u_ws C1 T N, z ∈ kGT) (hc : vwCl[ci]? = some (C1, T, N)) (q0 : Nat) (he : ws[q0]? = some (a, .inr (ci, fs))) (j : Nat) (hk : j < N) (hlink : Cond.fieldLink own index ref (T j).2.1 (T j).2.2.1 ∈ kGT) (hT1 : (T j).1 = ref) (ty0 : Nat → FieldType) (hty : ∀ k, k < N → parseFieldDescriptor (T k).2.2.1 = some (ty0 k)) (hnm : ∀ a, a < N → ∀ b, b < N → a ≠ b → (T a).2.1 ≠ (T b).2.1) (hfin : (T j).2.2.2 = false) {ty : FieldType} {v : Value} (hd : parseFieldDescriptor (T j).2.2.1 = some ty) (hn : narrow ty v = v) (hfit : fits ty v = true) (hl9 : j < fs.length) (hdg : decode cc pc = .ok (.putfield index, 3)) (kk : IW p l e R s m args below meth c G nL h0 QF (ws.set q0 (a, .inr (ci, fs.set j v))) k n (pc + 3) lv st) : IW p l e R s m args below meth c G nL h0 QF ws k n pc lv (v :: .ref a :: st) := fun H locs ls hP hD hS hl =>
  va_put C.1.1 C.1.2.1 C.1.2.2.2.2 hin ty0 hty hnm C.1.2.2.2.1 C.2.1 hP hD hS q0 he hc j hk (C.1.2.2.2.2 _ hlink) (fun x h => by rw [← hT1]; exact h) hfin hd hn hfit hl9 hdg (fun H1 locs1 hP1 hD1 hS1 => kk H1 locs1 ls hP1 hD1 hS1 hl)
theorem I_putF (C : IC p l e R s m args below meth c G st0 own cc nL d mc ms h0) {C1 : String} {T : u_T} {N ci index a : Nat} {ref : String} {fs : List Value} (hin : ∀ z ∈ u_ws C1 T N, z ∈ kGT) (hc : vwCl[ci]? = some (C1, T, N)) (q0 : Nat) (he : ws[q0]? = some (a, .inr (ci, fs))) (j : Nat) (hk : j < N) (hlink : Cond.fieldLink own index ref (T j).2.1 (T j).2.2.1 ∈ kGT) (hT1 : (T j).1 = ref) (ty0 : Nat → FieldType) (hty : ∀ k, k < N → parseFieldDescriptor (T k).2.2.1 = some (ty0 k)) (hnm : ∀ a, a < N → ∀ b, b < N → a ≠ b → (T a).2.1 ≠ (T b).2.1) (hfin : (T j).2.2.2 = true) (hdecl : (T j).1 = own) {ty : FieldType} {v : Value} (hd : parseFieldDescriptor (T j).2.2.1 = some ty) (hn : narrow ty v = v) (hfit : fits ty v = true) (hl9 : j < fs.length) (hdg : decode cc pc = .ok (.putfield index, 3)) (kk : IW p l e R s m args below meth c G nL h0 QF (ws.set q0 (a, .inr (ci, fs.set j v))) k n (pc + 3) lv st) : IW p l e R s m args below meth c G nL h0 QF ws k n pc lv (v :: .ref a :: st) := fun H locs ls hP hD hS hl =>
  va_putF C.1.1 C.1.2.1 C.1.2.2.2.2 hin ty0 hty hnm C.1.2.2.2.1 C.2.1 hP hD hS q0 he hc j hk (C.1.2.2.2.2 _ hlink) (fun x h => by rw [← hT1]; exact h) hfin C.2.2.2.2.2.2.2 hdecl hd hn hfit hl9 hdg (fun H1 locs1 hP1 hD1 hS1 => kk H1 locs1 ls hP1 hD1 hS1 hl)
theorem I_get (C : IC p l e R s m args below meth c G st0 own cc nL d mc ms h0) {C1 : String} {T : u_T} {N ci index a : Nat} {ref : String} {fs : List Value} (hin : ∀ z ∈ u_ws C1 T N, z ∈ kGT) (hc : vwCl[ci]? = some (C1, T, N)) (q0 : Nat) (he : ws[q0]? = some (a, .inr (ci, fs))) (j : Nat) (hk : j < N) (hlink : Cond.fieldLink own index ref (T j).2.1 (T j).2.2.1 ∈ kGT) (hT1 : (T j).1 = ref) {v : Value} (hv : fs[j]? = some v) (hdg : decode cc pc = .ok (.getfield index, 3)) (kk : IW p l e R s m args below meth c G nL h0 QF ws k n (pc + 3) lv (v :: st)) : IW p l e R s m args below meth c G nL h0 QF ws k n pc lv (.ref a :: st) := fun H locs ls hP hD hS hl =>
  va_get C.1.1 C.1.2.1 C.1.2.2.2.2 hin C.1.2.2.2.1 C.2.1 hP q0 he hc j hk (C.1.2.2.2.2 _ hlink) (fun x h => by rw [← hT1]; exact h) (v := v) hv hdg (kk H locs ls hP hD hS hl)
theorem I_iast (C : IC p l e R s m args below meth c G st0 own cc nL d mc ms h0) {a N : Nat} {i x : Int32} {f : Nat → Int32} (q0 : Nat) (he : ws[q0]? = some (a, aI G N f)) (hi : vp_in i N) (j : Nat) (hij : i.toNatClampNeg = j) (hdg : decode cc pc = .ok (.iastore, 1)) (kk : IW p l e R s m args below meth c G nL h0 QF (ws.set q0 (a, aI G N (upd f j x))) k n (pc + 1) lv st) : IW p l e R s m args below meth c G nL h0 QF ws k n pc lv (.int x :: .int i :: .ref a :: st) := by
  subst hij
  exact fun H locs ls hP hD hS hl => va_iast C.1.1 C.1.2.1 C.2.1 hP hD hS q0 0 he rfl hi hdg (fun H1 locs1 hP1 hD1 hS1 => kk H1 locs1 ls hP1 hD1 hS1 hl)
theorem I_aast (C : IC p l e R s m args below meth c G st0 own cc nL d mc ms h0) {a v ci : Nat} {i : Int32} {f : Nat → Option Nat} {vs : List Value} {T : u_T} {N : Nat} (q0 qk : Nat) (he : ws[q0]? = some (a, aF G f)) (hv : ws[qk]? = some (v, .inr (ci, vs))) (hc : vwCl[ci]? = some ("MouldFloor$Floor", T, N)) (hi : vp_in i 9) (j : Nat) (hij : i.toNatClampNeg = j) (hdg : decode cc pc = .ok (.aastore, 1)) (kk : IW p l e R s m args below meth c G nL h0 QF (ws.set q0 (a, aF G (va_up f j (some v)))) k n (pc + 1) lv st) : IW p l e R s m args below meth c G nL h0 QF ws k n pc lv (.ref v :: .int i :: .ref a :: st) := by
  subst hij
  exact fun H locs ls hP hD hS hl => va_astq C.1.1 C.1.2.1 C.2.1 hP hD hS q0 2 qk ci he rfl hv hc hi hdg (fun H1 locs1 hP1 hD1 hS1 => kk H1 locs1 ls hP1 hD1 hS1 hl)
theorem I_new (C : IC p l e R s m args below meth c G st0 own cc nL d mc ms h0) {C1 : String} {T : u_T} {N ci index : Nat} {fs : List Value} (hin : ∀ z ∈ u_ws C1 T N, z ∈ kGT) (ty : Nat → FieldType) (hty : ∀ k, k < N → parseFieldDescriptor (T k).2.2.1 = some (ty k)) (hcl : Cond.classLink own index C1 ∈ kGT) (hinst : Cond.instantiable C1 N ∈ kGT) (hini : Cond.initialized C1 ∈ kGT) (hc : vwCl[ci]? = some (C1, T, N)) (hfs : ∀ j, j < N → defaultValue (ty j) = vp_V fs j) (hc1 : k + 1 ≤ mc) (hs1 : n + N ≤ ms) (hdg : decode cc pc = .ok (.new index, 3)) (kk : ∀ q : Nat, IW p l e R s m args below meth c G nL h0 QF (ws ++ [(q, .inr (ci, fs))]) (k + 1) (n + N) (pc + 3) lv (.ref q :: st)) : IW p l e R s m args below meth c G nL h0 QF ws k n pc lv st := fun H locs ls hP hD hS hl => by
  have hR : R = kRm d mc ms := C.2.2.2.2.2.2.1
  exact va_new C.1.1 C.1.2.1 C.1.2.2.2.2 hin ty hty C.1.2.2.2.1 (C.1.2.2.2.2 _ hcl) (C.1.2.2.2.2 _ hinst) (C.1.2.2.2.2 _ hini) C.2.1 hP hD hS (fun q h => Or.inr h) hc hfs (by rw [hR]; exact hc1) (by rw [hR]; exact hs1) hdg (fun q H1 hP1 hD1 hS1 => kk q H1 locs ls hP1 hD1 hS1 hl)
theorem I_cut {X : va_W} {q : Nat} {o : va_E} {A : Nat → Prop} {H H1 : Heap} {D : va_G} {cl : List vw_C} {Y : va_W} (hP : va_P D cl (X ++ [(q, o)]) H) (hD : va_D A (X ++ [(q, o)])) (hk : ∀ a : Nat, a < H.size → ¬ kIA q H.size a → H1[a]? = H[a]?) (hsub : ∀ a, kIA q H.size a → A a) (hPY : va_P D cl Y H1) (hDY : va_D (kIA q H.size) Y) : va_P D cl (X ++ Y) H1 ∧ va_D A (X ++ Y) := by
  have hX : ∀ (i : Nat) (x : Nat × va_E), X[i]? = some x → x.1 < H.size ∧ x.1 ≠ q := by
    intro i x hx
    have hi := (List.getElem?_eq_some_iff.mp hx).1
    have h1 : (X ++ [(q, o)])[i]? = some x := by rw [List.getElem?_append_left hi]; exact hx
    refine ⟨(hP i x h1).lt, fun e => ?_⟩
    have h2 : (X ++ [(q, o)])[X.length]? = some (q, o) := by simp
    have := hD.1 i X.length x (q, o) h1 h2 e
    omega
  have hPX : va_P D cl X H := fun i x hx => hP i x (by rw [List.getElem?_append_left (List.getElem?_eq_some_iff.mp hx).1]; exact hx)
  have hDX : va_D A X := ⟨fun i j x y hx hy e => hD.1 i j x y (by rw [List.getElem?_append_left (List.getElem?_eq_some_iff.mp hx).1]; exact hx) (by rw [List.getElem?_append_left (List.getElem?_eq_some_iff.mp hy).1]; exact hy) e, fun i x hx => hD.2 i x (by rw [List.getElem?_append_left (List.getElem?_eq_some_iff.mp hx).1]; exact hx)⟩
  refine ⟨(hPX.kept (fun i x hx => hk _ (hX i x hx).1 (fun z => z.elim (hX i x hx).2 (fun h => by have := (hX i x hx).1; omega)))).app hPY, hDX.app (hDY.weaken (fun i x hx h => hsub _ h)) (fun i j x y hx hy e => ?_)⟩
  rcases hDY.2 j y hy with h | h
  · exact (hX i x hx).2 (e.trans h)
  · have := (hX i x hx).1
    omega
theorem kIblind {fs : List Value} {ci sz q : Nat} : FrameBlind (va_Pc [.ref q] (fun U => U.heap.size = sz ∧ kIB G st0 [(q, .inr (ci, fs))] (kIA q sz) U)) := fun a U g mk z => by
  obtain ⟨q0, q1, qP, qK, qN, qS⟩ := z
  exact ⟨q0, q1, qP, va_K.moved (u := U) (U := U.calling g mk a) (Vm.Alike.refl U.vm) qK, kNW_same (s := U) (U := U.calling g mk a) rfl qN, kSI_to (s := U) (U := U.calling g mk a) (Vm.Alike.refl U.vm) (fun _ _ _ => rfl) (fun _ h => h) qS⟩
theorem kIpre (C : IC p l e R s m args below meth c G st0 own cc nL d mc ms h0) {H : Heap} {locs : List Loc} {ci q : Nat} {fs : List Value} {X : va_W} (hP : va_P G.1 vwCl (X ++ [(q, .inr (ci, fs))]) H) (hS : va_S (kIA h0 s.heap.size) s.heap H locs) (hsub : ∀ a, kIA q H.size a → kIA h0 s.heap.size a) : ∀ U : State, U.heap = H → s.WarmedH U.vm → va_Pc [.ref q] (fun U => U.heap.size = H.size ∧ kIB G st0 [(q, .inr (ci, fs))] (kIA q H.size) U) [Value.ref q].toArray U := by
  intro U hU hW
  refine ⟨rfl, by rw [hU], ?_, va_K.moved hW.alike C.2.1, kNW_moved hW C.2.2.1, kSI_to hW.alike (fun a h1 h2 => by rw [hU]; exact hS.2.1 a h1 h2) hsub C.2.2.2.1⟩
  rw [hU]
  intro i x hx
  have h1 := (List.getElem?_eq_some_iff.mp hx).1
  simp at h1
  subst h1
  exact hP X.length x (by simpa using hx)
theorem I_call (C : IC p l e R s m args below meth c G st0 own cc nL d mc ms h0) {y : MethodName} {b1 : ByteArray} {nL1 d1 mc1 ms1 idx ci q : Nat} {fs : List Value} {S : Type} {Y : Nat → S → va_W} {X : va_W} (hM : kIMet l G st0 y b1 nL1 d1 mc1 ms1 ci fs Y) (hw : ws = X ++ [(q, .inr (ci, fs))]) (hY : kY y b1 nL1 none 0) (hy1 : y.name = "<init>") (hinst : Cond.instanceMethod y ∈ kGT) (hlink : Cond.methodLink own idx y ∈ kGT ∨ Cond.methodLinkNest own idx y "MouldFloor" ∈ kNW) (hd1 : d1 < d) (hc1 : k + mc1 ≤ mc) (hs1 : n + ms1 ≤ ms) (hrest : (st.map fun v => v.category).sum ≤ 8) (hdg : decode cc pc = .ok (.invokespecial idx, 3)) (kk : ∀ u : S, IW p l e R s m args below meth c G nL h0 QF (X ++ Y q u) (k + mc1) (n + ms1) (pc + 3) lv st) : IW p l e R s m args below meth c G nL h0 QF ws k n pc lv (.ref q :: st) := fun H locs ls hP hD hS hl => by
  subst hw
  have hR9 : R = kRm d mc ms := C.2.2.2.2.2.2.1
  have hR : (kRm d1 mc1 ms1).frames + 1 ≤ R.frames ∧ 8 + (nL1 + 11) + (kRm d1 mc1 ms1).locals ≤ R.locals := by
    rw [hR9]
    have := hY.2.2.2
    exact ⟨hd1, by show 8 + (nL1 + 11) + 64 * d1 ≤ 64 * d; omega⟩
  have hq : kIA h0 s.heap.size q := hD.2 X.length (q, .inr (ci, fs)) (by simp)
  have hsub : ∀ a, kIA q H.size a → kIA h0 s.heap.size a := fun a h => h.elim (fun e => by rw [e]; exact hq) (fun e => Or.inr (Nat.le_trans hS.1 e))
  have hts := C.1.2.2.2.2
  have hf : k + mc1 ≤ R.cells ∧ n + ms1 ≤ R.slots := by rw [hR9]; exact ⟨hc1, hs1⟩
  have go : va_Run p l e R s m args below meth c H locs k n mc1 ms1 (F0 m pc ls (.ref q :: st)) st (va_Qv (fun _ : S => True) (fun u t => va_P G.1 vwCl (Y q u) t.heap ∧ va_D (kIA q H.size) (Y q u)) (kIA q H.size) (Value.ref q :: []).toArray) (kIA q H.size) := by
    rcases hlink with hlink | hlink
    · exact va_runI (As := []) (rest := st) C.1 (hM q H.size) ⟨callB_of 0 hts (kcode_in hY.1) rfl rfl rfl (hts _ hY.2.1) (hts _ hlink) hY.2.2.1 hR, hy1, hts _ hinst⟩ ⟨kIblind, kIpre C hP hS hsub⟩ rfl rfl (hl.1.trans rfl) rfl (lv_room hrest) hdg hf
    · exact va_runIN (As := []) (rest := st) C.1 (hM q H.size) ⟨va_cnB 0 hts (kcode_in hY.1) rfl rfl rfl (C.2.2.1 _ hlink) (hts _ hY.2.1) hY.2.2.1 hR, hy1, hts _ hinst⟩ ⟨kIblind, kIpre C hP hS hsub⟩ rfl rfl (hl.1.trans rfl) rfl (lv_room hrest) hdg hf
  refine va_callv go hS (fun a _ h => hsub a h) hsub (fun u t H1 locs1 ht hvm _ hB hz1 hk1 hS1 => ?_)
  obtain ⟨hPY, hDY⟩ := hB
  rw [ht] at hPY
  obtain ⟨hP2, hD2⟩ := I_cut hP hD hk1 hsub hPY hDY
  exact kk u H1 locs1 ls hP2 hD2 hS1 hl
theorem I_ret (C : IC p l e R s m args below meth c G st0 own cc nL d mc ms h0) {S : Type} {Y : Nat → S → va_W} (u : S) (hw : ws = Y h0 u) (hk : k ≤ mc) (hn : n ≤ ms) (hdg : decode cc pc = .ok (.return_, 1)) : IW p l e R s m args below meth c G nL h0 (MQ below (va_Qv (fun _ : S => True) (fun u t => va_P G.1 vwCl (Y h0 u) t.heap ∧ va_D (kIA h0 s.heap.size) (Y h0 u)) (kIA h0 s.heap.size)) args s mc ms (kIA h0 s.heap.size)) ws k n pc lv [] := fun H locs ls hP hD hS hl => by
  subst hw
  refine W.widen (k := mc) (n := ms) hk hn ?_
  exact W.vret C.1.1 C.1.2.1 C.2.2.2.2.1 (fun t ht hW => ⟨⟨u, rfl, trivial, by rw [ht]; exact hP, hD⟩, hS.F ht⟩) hS.2.2 hdg C.2.2.2.2.2.1
end IROWS
section ICOPY
variable {p : Program} {l : Launch} {e : Env} {R : Room} {s : State} {m : MethodId} {args : Array Value} {below : List Frame} {meth : Method} {c : Code} {H : Heap} {locs : List Loc} {cells slots : Nat} {Q : State → Prop} {cc : ByteArray} {pc : Nat} {ls : Array Slot} {rest : List Value} {D : va_G} {cl : List vw_C} {A : Nat → Prop} {a : Nat} {tys : List (ClassId × FieldType)} {ws : va_W}
/-- System.arraycopy out of a static row (as va_copyx of the kit, whose source is the script) -/
theorem copyT (hexec : p.tables.exec = Jvm.exec) (hb : c.code = cc) (hml : c.maxLocals = ls.size) {own : String} {index : Nat} (hown : s.vm.findClass own = some m.cls) (hlink : (Cond.methodLink own index arraycopyName).before args s = true) (hnat : (Cond.native arraycopyName).before args s = true) (hstat : (Cond.static arraycopyName).before args s = true) (hini : (Cond.initialized "java/lang/System").before args s = true)
    (hK : va_K D cl tys s) (hP : va_P D cl ws H) (hD : va_D A ws) (hS : va_S A s.heap H locs) {b0 N : Nat} {f : Nat → Int32} (hX : va_T .int b0 N (fun j => .int (f j)) A s s.heap) (q1 t1 : Nat) {c1 : ClassId} {n1 : Nat} {g : Nat → Int32} (ha1 : ws[q1]? = some (a, .inl (c1, n1, .inl g))) (ht1 : tys[t1]? = some (c1, .int)) {n : Int32} (h3 : ¬ n < 0) (h4 : n.toNatClampNeg ≤ N) (h5 : n.toNatClampNeg ≤ n1)
    (hframes : 1 ≤ R.frames) (hlocals : (rest.map fun v => v.category).sum + (nativeFrameWords "java/lang/System" "arraycopy" 5 + 11) ≤ R.locals) (hdg : decode cc pc = .ok (.invokestatic index, 3))
    (kk : ∀ (H1 : Heap) (locs1 : List Loc), va_P D cl (ws.set q1 (a, .inl (c1, n1, .inl (va_cpy f g 0 0 n.toNatClampNeg)))) H1 → va_D A (ws.set q1 (a, .inl (c1, n1, .inl (va_cpy f g 0 0 n.toNatClampNeg)))) → va_S A s.heap H1 locs1 → W p l e R s m args below meth c H1 locs1 cells slots Q (F0 m (pc + 3) ls rest)) : W p l e R s m args below meth c H locs cells slots Q (F0 m pc ls (.int n :: .int 0 :: .ref a :: .int 0 :: .ref b0 :: rest)) := by
  intro T hT X
  obtain ⟨scr, hs1, hs2, hs3, hs4, -, hs5, hs6⟩ := hX
  have hb0 : b0 < s.heap.size := (Array.getElem?_eq_some_iff.mp hs1).1
  have hc0 : H[b0]? = some scr := by rw [hS.2.1 b0 hb0 hs6]; exact hs1
  have hc1 : H[a]? = some (vp_cell c1 (n1, .inl g)) := hP q1 _ ha1
  obtain ⟨hs7, k0, hk0, cm0, hkk0⟩ := hs2
  obtain ⟨-, k1, hk1, cm1, hkk1⟩ := (hK.2 t1 _ ht1).1 n1 (fun j => .int (g j))
  have hn0 : n.toInt = (n.toNatClampNeg : Int) := by
    have hz0 : (0 : Int) ≤ n.toInt := by
      have := Int32.not_lt.mp h3
      simpa using Int32.le_iff_toInt_le.mp this
    show n.toInt = ((n.toInt.toNat : Nat) : Int)
    omega
  have h00 : (0 : Int32).toInt = 0 := rfl
  have hcl : (0 : Int32).toNatClampNeg = 0 := rfl
  obtain ⟨vm', X', step⟩ := X.arraycopy hexec hown hlink hnat hstat hini (src := b0) (dst := a) (cs := scr) (cd := vp_cell c1 (n1, .inl g)) (srcPos := 0) (destPos := 0) (n := n) (by rw [hT]; exact hc0) (by rw [hT]; exact hc1)
    hs7 (fun _ h => by cases h) hs3 (fun h => by cases h) hk0 hk1 hkk0 hkk1 (by simp [refKind]) (by decide) (by decide) h3
    (by rw [h00, hn0]; omega)
    (by rw [h00, hn0]; show ¬ _ > ((arrV c1 n1 (fun j => .int (g j))).slots.size : Int); rw [arrV_size]; omega)
    (fun vm₁ _ i hi => by
      have e : scr.slots.getD ((0 : Int32).toNatClampNeg + i) .null = .int (f i) := by
        rw [hcl, Nat.zero_add, Array.getD_eq_getD_getElem?, hs5 _ (by omega)]
        rfl
      refine ⟨?_, ?_⟩
      · rw [e]
        rfl
      · rw [e]
        exact trivial)
    (g := F0 m pc ls (.int n :: .int 0 :: .ref a :: .int 0 :: .ref b0 :: rest)) rfl (by rw [hml]) (rest := rest) rfl (by rw [hb]; exact hdg) hframes (by show 2 * 0 + _ + _ ≤ _; omega)
  have e1 : copied scr (vp_cell c1 (n1, .inl g)) 0 0 n = vp_cell c1 (n1, .inl (va_cpy f g 0 0 n.toNatClampNeg)) := va_copiedX (fun z => .int z) scr c1 f g hs5 (by rw [hcl, Nat.zero_add]; exact h4)
  rw [e1] at X' step
  have hl : a < H.size := (Array.getElem?_eq_some_iff.mp hc1).1
  have hheap : ((T.setVm vm').setCell a (vp_cell c1 (n1, .inl (va_cpy f g 0 0 n.toNatClampNeg)))).heap = H.setIfInBounds a (vp_cell c1 (n1, .inl (va_cpy f g 0 0 n.toNatClampNeg))) := by rw [← hT]; rfl
  have oq : ∀ q : Nat, q ≠ a → (H.setIfInBounds a (vp_cell c1 (n1, .inl (va_cpy f g 0 0 n.toNatClampNeg))))[q]? = H[q]? := fun q hq => by simp [Array.getElem?_setIfInBounds, Ne.symm hq]
  obtain ⟨t, a1, b1⟩ := kk _ _ (hP.set hD ha1 (show (H.setIfInBounds a _)[a]? = some _ by simp [Array.getElem?_setIfInBounds, hl]) oq) (hD.set ha1) ⟨by simp; exact hS.1, fun q g1 g2 => by
      rw [oq q (fun e => g2 (by rw [e]; exact hD.2 q1 _ ha1))]
      exact hS.2.1 q g1 g2, fun q hq => by
      rcases List.mem_append.mp hq with h | h
      · exact hS.2.2 q h
      · obtain ⟨z, -, hz⟩ := List.mem_map.mp h
        rw [← hz]
        exact hD.2 q1 _ ha1⟩ _ hheap X'
  exact ⟨t, step t a1, b1⟩
end ICOPY
def kTMet (l : Launch) (G : kG) (st b : Nat) : Prop := ∀ sz, Met l yX11_copyRow (.code yX11_copyRow cX11_copyRow 2 none :: kGT) (kRm 1 0 0) (va_Pc [.ref st, .ref b] (fun U => U.heap.size = sz ∧ kIB G st [(b, aI G 4 zI)] (kIA b sz) U))
    (va_Qv (fun _ : Unit => True) (fun _ t => va_P G.1 vwCl [(b, aI G 4 (kst 0))] t.heap ∧ va_D (kIA b sz) [(b, aI G 4 (kst 0))]) (kIA b sz)) 0 0 (kIA b sz)
theorem kone {A : Nat → Prop} {b : Nat} {o : va_E} (h : A b) : va_D A [(b, o)] := ⟨fun i j p q hp hq _ => by
      have h1 := (List.getElem?_eq_some_iff.mp hp).1
      have h2 := (List.getElem?_eq_some_iff.mp hq).1
      simp at h1 h2
      omega, fun k q hk => by
      have h1 := (List.getElem?_eq_some_iff.mp hk).1
      simp at h1
      subst h1
      cases hk
      exact h⟩
theorem kTMet_ok (l : Launch) (G : kG) (st b : Nat) : kTMet l G st b := by
  intro sz
  refine Met.ofW (cc := cX11_copyRow) (maxL := 2) (ret := none) (by decide) rfl ?_
  intro p e s m args below meth c s₁ B hml hv
  obtain ⟨rfl, hsz, hP, hK, hN, hST⟩ := hv
  have hts0 := atoms_spec (ws := .code yX11_copyRow cX11_copyRow 2 none :: kGT) B.pre
  have hts : ∀ w ∈ kGT, w.before _ s = true := fun w hw => hts0 w (List.mem_cons_of_mem _ hw)
  have hown : s.vm.findClass RX11 = some m.cls := findClass_of_methodNamed B.named
  have hlocks := B.notSynchronized
  subst hsz
  have hl := lv_entry [Value.ref st, Value.ref b] (n := 2) (Nat.le_of_ble_eq_true rfl)
  rw [lg_entry_eq]
  generalize (lg_sl ([.ref st, .ref b]) ++ List.replicate (2 - (lg_sl ([.ref st, .ref b])).length) Slot.unset).toArray = ls at hl ⊢
  have hl : lv_has ls 2 [(0, .ref st), (1, .ref b)] := hl
  have hx := B.exec
  have hb := B.bytes
  have hr := B.returns
  have hD : va_D (kIA b s.heap.size) [(b, aI G 4 zI)] := kone (Or.inl rfl)
  have hS : va_S (kIA b s.heap.size) s.heap s.heap [] := va_S.rf
  refine lv_aload_n hx hb dX11_copyRow_0 rfl (lv_at hl 0 rfl) ?_
  refine lv_iconst (v := 0) hx hb dX11_copyRow_1 (by decide) ?_
  refine lv_aload_n hx hb dX11_copyRow_2 rfl (lv_at hl 1 rfl) ?_
  refine lv_iconst (v := 0) hx hb dX11_copyRow_3 (by decide) ?_
  refine lv_aload_n hx hb dX11_copyRow_4 rfl (lv_at hl 0 rfl) ?_
  refine va_tlen hx hb hST.2.1 hS (v := 4) rfl dX11_copyRow_5 ?_
  refine lv_aload_n hx hb dX11_copyRow_6 rfl (lv_at hl 1 rfl) ?_
  refine va_alen hx hb hK hP 0 0 rfl rfl (v := 4) rfl dX11_copyRow_7 ?_
  refine va_mmin hx hb (hml.trans hl.1.symm) hown (hts _ wm_X11_448) (hts _ wmath_min.1) (hts _ wmath_min.2.1) (hts _ wmath_min.2.2) (Nat.le_of_ble_eq_true rfl) (Nat.le_of_ble_eq_true rfl) (Nat.le_refl _) (Nat.le_refl _) dX11_copyRow_8 ?_
  refine W.eq (g2 := F0 m 11 ls [.int 4, .int 0, .ref b, .int 0, .ref st]) rfl ?_
  have hnf : nativeFrameWords "java/lang/System" "arraycopy" 5 + 11 ≤ 56 := by decide
  refine copyT hx hb (hml.trans hl.1.symm) hown (hts _ wsys_1) (hts _ wsys_2) (hts _ wsys_3) (hts _ wsys_4) hK hP hD hS hST.2.1 0 0 rfl rfl (n := 4) (by decide) (by decide) (by decide) (Nat.le_refl 1) (show 0 + _ ≤ 64 by omega) dX11_copyRow_11 (fun H1 locs1 hP1 hD1 hS1 => ?_)
  have e : ∀ cA : ClassId, vp_cell cA (4, .inl (va_cpy (kst 0) zI 0 0 (4 : Int32).toNatClampNeg)) = vp_cell cA (4, .inl (kst 0)) := fun cA => karr_eqv (fun j hj => by
    have : (4 : Int32).toNatClampNeg = 4 := rfl
    rw [this]
    simp [va_cpy, hj])
  have hP2 : va_P G.1 vwCl [(b, aI G 4 (kst 0))] H1 := by
    intro i x hx9
    have h1 := (List.getElem?_eq_some_iff.mp hx9).1
    simp at h1
    subst h1
    cases hx9
    have h2 := hP1 0 _ rfl
    simp only [va_at, aI] at h2 ⊢
    rw [← e]
    exact h2
  exact W.vret hx hb hr (fun t ht hW => ⟨⟨(), rfl, trivial, by rw [ht]; exact hP2, kone (Or.inl rfl)⟩, hS1.F ht⟩) hS1.2.2 dX11_copyRow_14
section ICALLT
variable {p : Program} {l : Launch} {e : Env} {R : Room} {s : State} {m : MethodId} {args : Array Value} {below : List Frame} {meth : Method} {c : Code} {G : kG} {st0 : Nat} {own : String} {cc : ByteArray} {nL d mc ms h0 : Nat} {QF : State → Prop} {ws : va_W} {k n pc : Nat} {lv : List (Nat × Value)} {st : List Value}
theorem I_gs (C : IC p l e R s m args below meth c G st0 own cc nL d mc ms h0) {index : Nat} (hw : Cond.fieldLinkNest own index "MouldFloor" "FIRST_SETTINGS" "[I" "MouldFloor" ∈ kNW) (hdg : decode cc pc = .ok (.getstatic index, 3)) (kk : IW p l e R s m args below meth c G nL h0 QF ws k n (pc + 3) lv (.ref st0 :: st)) : IW p l e R s m args below meth c G nL h0 QF ws k n pc lv st := fun H locs ls hP hD hS hl => va_getsN C.1.1 C.1.2.1 C.2.2.2.1.1 hS C.1.2.2.2.1 (va_Nw.use rfl (C.2.2.1 _ hw)) (fun x h => h) hdg (kk H locs ls hP hD hS hl)
theorem I_copyT (C : IC p l e R s m args below meth c G st0 own cc nL d mc ms h0) {idx b : Nat} {X : va_W} (hw : ws = X ++ [(b, aI G 4 zI)]) (hlink : Cond.methodLinkNest own idx yX11_copyRow "MouldFloor" ∈ kNW) (hd1 : 1 < d) (hc1 : k + 0 ≤ mc) (hs1 : n + 0 ≤ ms) (hrest : (st.map fun v => v.category).sum ≤ 8) (hdg : decode cc pc = .ok (.invokestatic idx, 3)) (kk : IW p l e R s m args below meth c G nL h0 QF (X ++ [(b, aI G 4 (kst 0))]) k n (pc + 3) lv st) : IW p l e R s m args below meth c G nL h0 QF ws k n pc lv (.ref b :: .ref st0 :: st) := fun H locs ls hP hD hS hl => by
  subst hw
  have hR9 : R = kRm d mc ms := C.2.2.2.2.2.2.1
  have hR : (kRm 1 0 0).frames + 1 ≤ R.frames ∧ 8 + (2 + 11) + (kRm 1 0 0).locals ≤ R.locals := by
    rw [hR9]
    exact ⟨hd1, by show 8 + (2 + 11) + 64 * 1 ≤ 64 * d; omega⟩
  have hq : kIA h0 s.heap.size b := hD.2 X.length (b, aI G 4 zI) (by simp)
  have hsub : ∀ a, kIA b H.size a → kIA h0 s.heap.size a := fun a h => h.elim (fun e => by rw [e]; exact hq) (fun e => Or.inr (Nat.le_trans hS.1 e))
  have hts := C.1.2.2.2.2
  have hf : k + 0 ≤ R.cells ∧ n + 0 ≤ R.slots := by rw [hR9]; exact ⟨hc1, hs1⟩
  have hPb : va_P G.1 vwCl [(b, aI G 4 zI)] H := by
    intro i x hx
    have h1 := (List.getElem?_eq_some_iff.mp hx).1
    simp at h1
    subst h1
    exact hP X.length x (by simpa using hx)
  have hpre : PreS s H (va_Pc [.ref st0, .ref b] (fun U => U.heap.size = H.size ∧ kIB G st0 [(b, aI G 4 zI)] (kIA b H.size) U)) [.ref st0, .ref b] := by
    refine ⟨fun a U g mk z => ?_, fun U hU hW => ?_⟩
    · obtain ⟨q0, q1, qP, qK, qN, qS⟩ := z
      exact ⟨q0, q1, qP, va_K.moved (u := U) (U := U.calling g mk a) (Vm.Alike.refl U.vm) qK, kNW_same (s := U) (U := U.calling g mk a) rfl qN, kSI_to (s := U) (U := U.calling g mk a) (Vm.Alike.refl U.vm) (fun _ _ _ => rfl) (fun _ h => h) qS⟩
    · refine ⟨rfl, by rw [hU], by rw [hU]; exact hPb, va_K.moved hW.alike C.2.1, kNW_moved hW C.2.2.1, kSI_to hW.alike (fun a h1 h2 => by rw [hU]; exact hS.2.1 a h1 h2) hsub C.2.2.2.1⟩
  have go : va_Run p l e R s m args below meth c H locs k n 0 0 (F0 m pc ls (.ref b :: .ref st0 :: st)) st (va_Qv (fun _ : Unit => True) (fun _ t => va_P G.1 vwCl [(b, aI G 4 (kst 0))] t.heap ∧ va_D (kIA b H.size) [(b, aI G 4 (kst 0))]) (kIA b H.size) [Value.ref st0, Value.ref b].toArray) (kIA b H.size) := va_runSN (As := [.ref st0, .ref b]) (rest := st) C.1 (kTMet_ok l G st0 b H.size) ⟨va_cnB 2 hts (kcode_in hy_X11_copyRow.1.1) rfl rfl rfl (C.2.2.1 _ hlink) (hts _ hy_X11_copyRow.1.2.1) hy_X11_copyRow.1.2.2.1 hR, hts _ hy_X11_copyRow.2, trivial⟩ hpre rfl rfl (hl.1.trans rfl) rfl (lv_room hrest) hdg hf
  refine va_callv go hS (fun a _ h => hsub a h) hsub (fun u t H1 locs1 ht hvm _ hB hz1 hk1 hS1 => ?_)
  obtain ⟨hPY, hDY⟩ := hB
  rw [ht] at hPY
  obtain ⟨hP2, hD2⟩ := I_cut hP hD hk1 hsub hPY hDY
  exact kk H1 locs1 ls hP2 hD2 hS1 hl
end ICALLT
theorem wob_X8_3 : Cond.methodLink RX8 3 objectInit ∈ kGT := kgt (List.mem_of_getElem? (i := 320) (by decide +kernel)) rfl
def Y_X8 (G : kG) (h0 : Nat) (u : Nat → Nat) : va_W := [(h0, .inr (10, [.ref (u 1), .ref (u 2), .int 0])), ((u 1), aI G 3 zI), ((u 2), aI G 3 zI)]
set_option maxRecDepth 100000 in
set_option maxHeartbeats 4000000 in
theorem kim_X8_init (l : Launch) (G : kG) (st : Nat) : kIMet l G st yX8_init cX8_init 1 1 2 6 10 [.null, .null, .int 0] (Y_X8 G) := by
  refine kIMet_of (own := RX8) (by decide) rfl rfl (by decide) ?_
  intro p e R s m args below meth c h0 C
  refine I_aload_n C 0 rfl rfl dX8_init_0 ?_
  refine I_obj C wob_X8_3 (by decide) (Nat.le_of_ble_eq_true rfl) dX8_init_1 ?_
  refine I_aload_n C 0 rfl rfl dX8_init_4 ?_
  refine I_iconst C (v := 3) (by decide) dX8_init_5 ?_
  refine I_newI C (N := 3) (by decide) rfl (by decide) (by decide) (by decide) dX8_init_6 (fun q6 => ?_)
  refine I_putF C (ci := 10) (v := .ref q6) kin_X8 rfl 0 rfl 0 (by decide) wf_X8_9 rfl tyX8 tyX8_ok nmX8 rfl rfl (ty := tyX8 0) (by decide +kernel) rfl rfl (Nat.le_of_ble_eq_true rfl) dX8_init_8 ?_
  refine I_aload_n C 0 rfl rfl dX8_init_11 ?_
  refine I_iconst C (v := 3) (by decide) dX8_init_12 ?_
  refine I_newI C (N := 3) (by decide) rfl (by decide) (by decide) (by decide) dX8_init_13 (fun q13 => ?_)
  refine I_putF C (ci := 10) (v := .ref q13) kin_X8 rfl 0 rfl 1 (by decide) wf_X8_15 rfl tyX8 tyX8_ok nmX8 rfl rfl (ty := tyX8 1) (by decide +kernel) rfl rfl (Nat.le_of_ble_eq_true rfl) dX8_init_15 ?_
  exact I_ret C (fun k => match k with | 1 => q6 | 2 => q13 | _ => 0) rfl (by decide) (by decide) dX8_init_18
theorem wob_X10_3 : Cond.methodLink RX10 3 objectInit ∈ kGT := kgt (List.mem_of_getElem? (i := 339) (by decide +kernel)) rfl
def Y_X10 (G : kG) (h0 : Nat) (u : Nat → Nat) : va_W := [(h0, .inr (12, [.ref (u 1), .int 0, .int 0, .int (-1)])), ((u 1), aC G 80 zI)]
set_option maxRecDepth 100000 in
set_option maxHeartbeats 4000000 in
theorem kim_X10_init (l : Launch) (G : kG) (st : Nat) : kIMet l G st yX10_init cX10_init 1 1 1 80 12 [.null, .int 0, .int 0, .int 0] (Y_X10 G) := by
  refine kIMet_of (own := RX10) (by decide) rfl rfl (by decide) ?_
  intro p e R s m args below meth c h0 C
  refine I_aload_n C 0 rfl rfl dX10_init_0 ?_
  refine I_obj C wob_X10_3 (by decide) (Nat.le_of_ble_eq_true rfl) dX10_init_1 ?_
  refine I_aload_n C 0 rfl rfl dX10_init_4 ?_
  refine I_bipush C (v := 80) (by decide) dX10_init_5 ?_
  refine I_newC C (N := 80) (by decide) rfl (by decide) (by decide) (by decide) dX10_init_7 (fun q7 => ?_)
  refine I_putF C (ci := 12) (v := .ref q7) kin_X10 rfl 0 rfl 0 (by decide) wf_X10_9 rfl tyX10 tyX10_ok nmX10 rfl rfl (ty := tyX10 0) (by decide +kernel) rfl rfl (Nat.le_of_ble_eq_true rfl) dX10_init_9 ?_
  refine I_aload_n C 0 rfl rfl dX10_init_12 ?_
  refine I_iconst C (v := (-1)) (by decide) dX10_init_13 ?_
  refine I_put C (ci := 12) (v := .int (-1)) kin_X10 rfl 0 rfl 3 (by decide) wf_X10_15 rfl tyX10 tyX10_ok nmX10 rfl (ty := .int) (by decide +kernel) rfl rfl (Nat.le_of_ble_eq_true rfl) dX10_init_14 ?_
  exact I_ret C (fun k => match k with | 1 => q7 | _ => 0) rfl (by decide) (by decide) dX10_init_17
theorem wob_X3_3 : Cond.methodLink RX3 3 objectInit ∈ kGT := kgt (List.mem_of_getElem? (i := 361) (by decide +kernel)) rfl
def Y_X3 (G : kG) (h0 : Nat) (u : Nat → Nat) : va_W := [(h0, .inr (5, [.ref (u 1), .ref (u 2), .int 0, .int 0, .int 0])), ((u 1), aI G 3 zI), ((u 2), aI G 3 zI)]
set_option maxRecDepth 100000 in
set_option maxHeartbeats 4000000 in
theorem kim_X3_init (l : Launch) (G : kG) (st : Nat) : kIMet l G st yX3_init cX3_init 1 1 2 6 5 [.null, .null, .int 0, .int 0, .int 0] (Y_X3 G) := by
  refine kIMet_of (own := RX3) (by decide) rfl rfl (by decide) ?_
  intro p e R s m args below meth c h0 C
  refine I_aload_n C 0 rfl rfl dX3_init_0 ?_
  refine I_obj C wob_X3_3 (by decide) (Nat.le_of_ble_eq_true rfl) dX3_init_1 ?_
  refine I_aload_n C 0 rfl rfl dX3_init_4 ?_
  refine I_iconst C (v := 3) (by decide) dX3_init_5 ?_
  refine I_newI C (N := 3) (by decide) rfl (by decide) (by decide) (by decide) dX3_init_6 (fun q6 => ?_)
  refine I_putF C (ci := 5) (v := .ref q6) kin_X3 rfl 0 rfl 0 (by decide) wf_X3_9 rfl tyX3 tyX3_ok nmX3 rfl rfl (ty := tyX3 0) (by decide +kernel) rfl rfl (Nat.le_of_ble_eq_true rfl) dX3_init_8 ?_
  refine I_aload_n C 0 rfl rfl dX3_init_11 ?_
  refine I_iconst C (v := 3) (by decide) dX3_init_12 ?_
  refine I_newI C (N := 3) (by decide) rfl (by decide) (by decide) (by decide) dX3_init_13 (fun q13 => ?_)
  refine I_putF C (ci := 5) (v := .ref q13) kin_X3 rfl 0 rfl 1 (by decide) wf_X3_15 rfl tyX3 tyX3_ok nmX3 rfl rfl (ty := tyX3 1) (by decide +kernel) rfl rfl (Nat.le_of_ble_eq_true rfl) dX3_init_15 ?_
  exact I_ret C (fun k => match k with | 1 => q6 | 2 => q13 | _ => 0) rfl (by decide) (by decide) dX3_init_18
theorem wob_X7_3 : Cond.methodLink RX7 3 objectInit ∈ kGT := kgt (List.mem_of_getElem? (i := 385) (by decide +kernel)) rfl
def Y_X7 (G : kG) (h0 : Nat) (u : Nat → Nat) : va_W := [(h0, .inr (9, [.ref (u 1), .ref (u 2), .int 0])), ((u 1), aI G 40 zI), ((u 2), aI G 120 zI)]
set_option maxRecDepth 100000 in
set_option maxHeartbeats 4000000 in
theorem kim_X7_init (l : Launch) (G : kG) (st : Nat) : kIMet l G st yX7_init cX7_init 1 1 2 160 9 [.null, .null, .int 0] (Y_X7 G) := by
  refine kIMet_of (own := RX7) (by decide) rfl rfl (by decide) ?_
  intro p e R s m args below meth c h0 C
  refine I_aload_n C 0 rfl rfl dX7_init_0 ?_
  refine I_obj C wob_X7_3 (by decide) (Nat.le_of_ble_eq_true rfl) dX7_init_1 ?_
  refine I_aload_n C 0 rfl rfl dX7_init_4 ?_
  refine I_bipush C (v := 40) (by decide) dX7_init_5 ?_
  refine I_newI C (N := 40) (by decide) rfl (by decide) (by decide) (by decide) dX7_init_7 (fun q7 => ?_)
  refine I_putF C (ci := 9) (v := .ref q7) kin_X7 rfl 0 rfl 0 (by decide) wf_X7_11 rfl tyX7 tyX7_ok nmX7 rfl rfl (ty := tyX7 0) (by decide +kernel) rfl rfl (Nat.le_of_ble_eq_true rfl) dX7_init_9 ?_
  refine I_aload_n C 0 rfl rfl dX7_init_12 ?_
  refine I_bipush C (v := 120) (by decide) dX7_init_13 ?_
  refine I_newI C (N := 120) (by decide) rfl (by decide) (by decide) (by decide) dX7_init_15 (fun q15 => ?_)
  refine I_putF C (ci := 9) (v := .ref q15) kin_X7 rfl 0 rfl 1 (by decide) wf_X7_15 rfl tyX7 tyX7_ok nmX7 rfl rfl (ty := tyX7 1) (by decide +kernel) rfl rfl (Nat.le_of_ble_eq_true rfl) dX7_init_17 ?_
  exact I_ret C (fun k => match k with | 1 => q7 | 2 => q15 | _ => 0) rfl (by decide) (by decide) dX7_init_20
theorem wob_X1_3 : Cond.methodLink RX1 3 objectInit ∈ kGT := kgt (List.mem_of_getElem? (i := 402) (by decide +kernel)) rfl
def Y_X1 (G : kG) (h0 : Nat) (u : Nat → Nat) : va_W := [(h0, .inr (3, [.ref (u 1), .ref (u 2)])), ((u 1), aI G 42 zI), ((u 2), aI G 448 zI)]
set_option maxRecDepth 100000 in
set_option maxHeartbeats 4000000 in
theorem kim_X1_init (l : Launch) (G : kG) (st : Nat) : kIMet l G st yX1_init cX1_init 1 1 2 490 3 [.null, .null] (Y_X1 G) := by
  refine kIMet_of (own := RX1) (by decide) rfl rfl (by decide) ?_
  intro p e R s m args below meth c h0 C
  refine I_aload_n C 0 rfl rfl dX1_init_0 ?_
  refine I_obj C wob_X1_3 (by decide) (Nat.le_of_ble_eq_true rfl) dX1_init_1 ?_
  refine I_aload_n C 0 rfl rfl dX1_init_4 ?_
  refine I_bipush C (v := 42) (by decide) dX1_init_5 ?_
  refine I_newI C (N := 42) (by decide) rfl (by decide) (by decide) (by decide) dX1_init_7 (fun q7 => ?_)
  refine I_putF C (ci := 3) (v := .ref q7) kin_X1 rfl 0 rfl 0 (by decide) wf_X1_11 rfl tyX1 tyX1_ok nmX1 rfl rfl (ty := tyX1 0) (by decide +kernel) rfl rfl (Nat.le_of_ble_eq_true rfl) dX1_init_9 ?_
  refine I_aload_n C 0 rfl rfl dX1_init_12 ?_
  refine I_sipush C (v := 448) (by decide) dX1_init_13 ?_
  refine I_newI C (N := 448) (by decide) rfl (by decide) (by decide) (by decide) dX1_init_16 (fun q16 => ?_)
  refine I_putF C (ci := 3) (v := .ref q16) kin_X1 rfl 0 rfl 1 (by decide) wf_X1_15 rfl tyX1 tyX1_ok nmX1 rfl rfl (ty := tyX1 1) (by decide +kernel) rfl rfl (Nat.le_of_ble_eq_true rfl) dX1_init_18 ?_
  exact I_ret C (fun k => match k with | 1 => q7 | 2 => q16 | _ => 0) rfl (by decide) (by decide) dX1_init_21
theorem wob_X9_3 : Cond.methodLink RX9 3 objectInit ∈ kGT := kgt (List.mem_of_getElem? (i := 183) (by decide +kernel)) rfl
def Y_X9 (G : kG) (h0 : Nat) (u : Nat → Nat) : va_W := [(h0, .inr (11, [.ref (u 1), .ref (u 2), .ref (u 3), .ref (u 4), .ref (u 5)])), ((u 1), aI G 48 zI), ((u 2), aI G 48 zI), ((u 3), aI G 48 zI), ((u 4), aI G 8 zI), ((u 5), aI G 8 zI)]
set_option maxRecDepth 100000 in
set_option maxHeartbeats 4000000 in
theorem kim_X9_init (l : Launch) (G : kG) (st : Nat) : kIMet l G st yX9_init cX9_init 1 1 5 160 11 [.null, .null, .null, .null, .null] (Y_X9 G) := by
  refine kIMet_of (own := RX9) (by decide) rfl rfl (by decide) ?_
  intro p e R s m args below meth c h0 C
  refine I_aload_n C 0 rfl rfl dX9_init_0 ?_
  refine I_obj C wob_X9_3 (by decide) (Nat.le_of_ble_eq_true rfl) dX9_init_1 ?_
  refine I_aload_n C 0 rfl rfl dX9_init_4 ?_
  refine I_bipush C (v := 48) (by decide) dX9_init_5 ?_
  refine I_newI C (N := 48) (by decide) rfl (by decide) (by decide) (by decide) dX9_init_7 (fun q7 => ?_)
  refine I_putF C (ci := 11) (v := .ref q7) kin_X9 rfl 0 rfl 0 (by decide) wf_X9_9 rfl tyX9 tyX9_ok nmX9 rfl rfl (ty := tyX9 0) (by decide +kernel) rfl rfl (Nat.le_of_ble_eq_true rfl) dX9_init_9 ?_
  refine I_aload_n C 0 rfl rfl dX9_init_12 ?_
  refine I_bipush C (v := 48) (by decide) dX9_init_13 ?_
  refine I_newI C (N := 48) (by decide) rfl (by decide) (by decide) (by decide) dX9_init_15 (fun q15 => ?_)
  refine I_putF C (ci := 11) (v := .ref q15) kin_X9 rfl 0 rfl 1 (by decide) wf_X9_15 rfl tyX9 tyX9_ok nmX9 rfl rfl (ty := tyX9 1) (by decide +kernel) rfl rfl (Nat.le_of_ble_eq_true rfl) dX9_init_17 ?_
  refine I_aload_n C 0 rfl rfl dX9_init_20 ?_
  refine I_bipush C (v := 48) (by decide) dX9_init_21 ?_
  refine I_newI C (N := 48) (by decide) rfl (by decide) (by decide) (by decide) dX9_init_23 (fun q23 => ?_)
  refine I_putF C (ci := 11) (v := .ref q23) kin_X9 rfl 0 rfl 2 (by decide) wf_X9_18 rfl tyX9 tyX9_ok nmX9 rfl rfl (ty := tyX9 2) (by decide +kernel) rfl rfl (Nat.le_of_ble_eq_true rfl) dX9_init_25 ?_
  refine I_aload_n C 0 rfl rfl dX9_init_28 ?_
  refine I_bipush C (v := 8) (by decide) dX9_init_29 ?_
  refine I_newI C (N := 8) (by decide) rfl (by decide) (by decide) (by decide) dX9_init_31 (fun q31 => ?_)
  refine I_putF C (ci := 11) (v := .ref q31) kin_X9 rfl 0 rfl 3 (by decide) wf_X9_21 rfl tyX9 tyX9_ok nmX9 rfl rfl (ty := tyX9 3) (by decide +kernel) rfl rfl (Nat.le_of_ble_eq_true rfl) dX9_init_33 ?_
  refine I_aload_n C 0 rfl rfl dX9_init_36 ?_
  refine I_bipush C (v := 8) (by decide) dX9_init_37 ?_
  refine I_newI C (N := 8) (by decide) rfl (by decide) (by decide) (by decide) dX9_init_39 (fun q39 => ?_)
  refine I_putF C (ci := 11) (v := .ref q39) kin_X9 rfl 0 rfl 4 (by decide) wf_X9_24 rfl tyX9 tyX9_ok nmX9 rfl rfl (ty := tyX9 4) (by decide +kernel) rfl rfl (Nat.le_of_ble_eq_true rfl) dX9_init_41 ?_
  exact I_ret C (fun k => match k with | 1 => q7 | 2 => q15 | 3 => q23 | 4 => q31 | 5 => q39 | _ => 0) rfl (by decide) (by decide) dX9_init_44
theorem wob_X6_3 : Cond.methodLink RX6 3 objectInit ∈ kGT := kgt (List.mem_of_getElem? (i := 212) (by decide +kernel)) rfl
def Y_X6 (G : kG) (h0 : Nat) (u : Nat → Nat) : va_W := [(h0, .inr (8, [.int 0, .ref (u 1), .ref (u 2), .ref (u 3), .ref (u 4), .ref (u 5), .ref (u 6)])), ((u 1), aI G 10 zI), ((u 2), aI G 10 zI), ((u 3), aI G 10 zI), ((u 4), aI G 10 zI), ((u 5), aI G 10 zI), ((u 6), aI G 10 zI)]
set_option maxRecDepth 100000 in
set_option maxHeartbeats 4000000 in
theorem kim_X6_init (l : Launch) (G : kG) (st : Nat) : kIMet l G st yX6_init cX6_init 1 1 6 60 8 [.int 0, .null, .null, .null, .null, .null, .null] (Y_X6 G) := by
  refine kIMet_of (own := RX6) (by decide) rfl rfl (by decide) ?_
  intro p e R s m args below meth c h0 C
  refine I_aload_n C 0 rfl rfl dX6_init_0 ?_
  refine I_obj C wob_X6_3 (by decide) (Nat.le_of_ble_eq_true rfl) dX6_init_1 ?_
  refine I_aload_n C 0 rfl rfl dX6_init_4 ?_
  refine I_bipush C (v := 10) (by decide) dX6_init_5 ?_
  refine I_newI C (N := 10) (by decide) rfl (by decide) (by decide) (by decide) dX6_init_7 (fun q7 => ?_)
  refine I_putF C (ci := 8) (v := .ref q7) kin_X6 rfl 0 rfl 1 (by decide) wf_X6_9 rfl tyX6 tyX6_ok nmX6 rfl rfl (ty := tyX6 1) (by decide +kernel) rfl rfl (Nat.le_of_ble_eq_true rfl) dX6_init_9 ?_
  refine I_aload_n C 0 rfl rfl dX6_init_12 ?_
  refine I_bipush C (v := 10) (by decide) dX6_init_13 ?_
  refine I_newI C (N := 10) (by decide) rfl (by decide) (by decide) (by decide) dX6_init_15 (fun q15 => ?_)
  refine I_putF C (ci := 8) (v := .ref q15) kin_X6 rfl 0 rfl 2 (by decide) wf_X6_15 rfl tyX6 tyX6_ok nmX6 rfl rfl (ty := tyX6 2) (by decide +kernel) rfl rfl (Nat.le_of_ble_eq_true rfl) dX6_init_17 ?_
  refine I_aload_n C 0 rfl rfl dX6_init_20 ?_
  refine I_bipush C (v := 10) (by decide) dX6_init_21 ?_
  refine I_newI C (N := 10) (by decide) rfl (by decide) (by decide) (by decide) dX6_init_23 (fun q23 => ?_)
  refine I_putF C (ci := 8) (v := .ref q23) kin_X6 rfl 0 rfl 3 (by decide) wf_X6_18 rfl tyX6 tyX6_ok nmX6 rfl rfl (ty := tyX6 3) (by decide +kernel) rfl rfl (Nat.le_of_ble_eq_true rfl) dX6_init_25 ?_
  refine I_aload_n C 0 rfl rfl dX6_init_28 ?_
  refine I_bipush C (v := 10) (by decide) dX6_init_29 ?_
  refine I_newI C (N := 10) (by decide) rfl (by decide) (by decide) (by decide) dX6_init_31 (fun q31 => ?_)
  refine I_putF C (ci := 8) (v := .ref q31) kin_X6 rfl 0 rfl 4 (by decide) wf_X6_21 rfl tyX6 tyX6_ok nmX6 rfl rfl (ty := tyX6 4) (by decide +kernel) rfl rfl (Nat.le_of_ble_eq_true rfl) dX6_init_33 ?_
  refine I_aload_n C 0 rfl rfl dX6_init_36 ?_
  refine I_bipush C (v := 10) (by decide) dX6_init_37 ?_
  refine I_newI C (N := 10) (by decide) rfl (by decide) (by decide) (by decide) dX6_init_39 (fun q39 => ?_)
  refine I_putF C (ci := 8) (v := .ref q39) kin_X6 rfl 0 rfl 5 (by decide) wf_X6_24 rfl tyX6 tyX6_ok nmX6 rfl rfl (ty := tyX6 5) (by decide +kernel) rfl rfl (Nat.le_of_ble_eq_true rfl) dX6_init_41 ?_
  refine I_aload_n C 0 rfl rfl dX6_init_44 ?_
  refine I_bipush C (v := 10) (by decide) dX6_init_45 ?_
  refine I_newI C (N := 10) (by decide) rfl (by decide) (by decide) (by decide) dX6_init_47 (fun q47 => ?_)
  refine I_putF C (ci := 8) (v := .ref q47) kin_X6 rfl 0 rfl 6 (by decide) wf_X6_27 rfl tyX6 tyX6_ok nmX6 rfl rfl (ty := tyX6 6) (by decide +kernel) rfl rfl (Nat.le_of_ble_eq_true rfl) dX6_init_49 ?_
  exact I_ret C (fun k => match k with | 1 => q7 | 2 => q15 | 3 => q23 | 4 => q31 | 5 => q39 | 6 => q47 | _ => 0) rfl (by decide) (by decide) dX6_init_52
theorem wob_X2_3 : Cond.methodLink RX2 3 objectInit ∈ kGT := kgt (List.mem_of_getElem? (i := 163) (by decide +kernel)) rfl
def Y_X2 (G : kG) (h0 : Nat) (u : Nat → Nat) : va_W := [(h0, .inr (4, [.ref (u 1), .ref (u 2), .ref (u 3)])), ((u 1), aI G 3 (upd (upd (upd zI 0 (-1)) 1 (-1)) 2 (-1))), ((u 2), aI G 3 zI), ((u 3), aI G 3 zI)]
set_option maxRecDepth 100000 in
set_option maxHeartbeats 4000000 in
theorem kim_X2_init (l : Launch) (G : kG) (st : Nat) : kIMet l G st yX2_init cX2_init 1 1 3 9 4 [.null, .null, .null] (Y_X2 G) := by
  refine kIMet_of (own := RX2) (by decide) rfl rfl (by decide) ?_
  intro p e R s m args below meth c h0 C
  refine I_aload_n C 0 rfl rfl dX2_init_0 ?_
  refine I_obj C wob_X2_3 (by decide) (Nat.le_of_ble_eq_true rfl) dX2_init_1 ?_
  refine I_aload_n C 0 rfl rfl dX2_init_4 ?_
  refine I_iconst C (v := 3) (by decide) dX2_init_5 ?_
  refine I_newI C (N := 3) (by decide) rfl (by decide) (by decide) (by decide) dX2_init_6 (fun q6 => ?_)
  refine I_dup C rfl dX2_init_8 ?_
  refine I_iconst C (v := 0) (by decide) dX2_init_9 ?_
  refine I_iconst C (v := (-1)) (by decide) dX2_init_10 ?_
  refine I_iast C 1 rfl (kin_in (by decide)) 0 (by decide) dX2_init_11 ?_
  refine I_dup C rfl dX2_init_12 ?_
  refine I_iconst C (v := 1) (by decide) dX2_init_13 ?_
  refine I_iconst C (v := (-1)) (by decide) dX2_init_14 ?_
  refine I_iast C 1 rfl (kin_in (by decide)) 1 (by decide) dX2_init_15 ?_
  refine I_dup C rfl dX2_init_16 ?_
  refine I_iconst C (v := 2) (by decide) dX2_init_17 ?_
  refine I_iconst C (v := (-1)) (by decide) dX2_init_18 ?_
  refine I_iast C 1 rfl (kin_in (by decide)) 2 (by decide) dX2_init_19 ?_
  refine I_putF C (ci := 4) (v := .ref q6) kin_X2 rfl 0 rfl 0 (by decide) wf_X2_9 rfl tyX2 tyX2_ok nmX2 rfl rfl (ty := tyX2 0) (by decide +kernel) rfl rfl (Nat.le_of_ble_eq_true rfl) dX2_init_20 ?_
  refine I_aload_n C 0 rfl rfl dX2_init_23 ?_
  refine I_iconst C (v := 3) (by decide) dX2_init_24 ?_
  refine I_newI C (N := 3) (by decide) rfl (by decide) (by decide) (by decide) dX2_init_25 (fun q25 => ?_)
  refine I_putF C (ci := 4) (v := .ref q25) kin_X2 rfl 0 rfl 1 (by decide) wf_X2_15 rfl tyX2 tyX2_ok nmX2 rfl rfl (ty := tyX2 1) (by decide +kernel) rfl rfl (Nat.le_of_ble_eq_true rfl) dX2_init_27 ?_
  refine I_aload_n C 0 rfl rfl dX2_init_30 ?_
  refine I_iconst C (v := 3) (by decide) dX2_init_31 ?_
  refine I_newI C (N := 3) (by decide) rfl (by decide) (by decide) (by decide) dX2_init_32 (fun q32 => ?_)
  refine I_putF C (ci := 4) (v := .ref q32) kin_X2 rfl 0 rfl 2 (by decide) wf_X2_18 rfl tyX2 tyX2_ok nmX2 rfl rfl (ty := tyX2 2) (by decide +kernel) rfl rfl (Nat.le_of_ble_eq_true rfl) dX2_init_34 ?_
  exact I_ret C (fun k => match k with | 1 => q6 | 2 => q25 | 3 => q32 | _ => 0) rfl (by decide) (by decide) dX2_init_37
theorem wob_X0_3 : Cond.methodLink RX0 3 objectInit ∈ kGT := kgt (List.mem_of_getElem? (i := 105) (by decide +kernel)) rfl
def Y_X0 (G : kG) (h0 : Nat) (u : Nat → Nat) : va_W := [(h0, .inr (2, [.int 0, .int 0, .int 0, .ref (u 1), .ref (u 2), .ref (u 3), .ref (u 4), .ref (u 5), .ref (u 6)])), ((u 1), aI G 6 zI), ((u 2), aI G 8 zI), ((u 3), aI G 6 zI), ((u 4), aI G 6 zI), ((u 5), aI G 48 zI), ((u 6), aI G 4 (kst 0))]
set_option maxRecDepth 100000 in
set_option maxHeartbeats 4000000 in
theorem kim_X0_init (l : Launch) (G : kG) (st : Nat) : kIMet l G st yX0_init cX0_init 1 2 6 78 2 [.int 0, .int 0, .int 0, .null, .null, .null, .null, .null, .null] (Y_X0 G) := by
  refine kIMet_of (own := RX0) (by decide) rfl rfl (by decide) ?_
  intro p e R s m args below meth c h0 C
  refine I_aload_n C 0 rfl rfl dX0_init_0 ?_
  refine I_obj C wob_X0_3 (by decide) (Nat.le_of_ble_eq_true rfl) dX0_init_1 ?_
  refine I_aload_n C 0 rfl rfl dX0_init_4 ?_
  refine I_bipush C (v := 6) (by decide) dX0_init_5 ?_
  refine I_newI C (N := 6) (by decide) rfl (by decide) (by decide) (by decide) dX0_init_7 (fun q7 => ?_)
  refine I_putF C (ci := 2) (v := .ref q7) kin_X0 rfl 0 rfl 3 (by decide) wf_X0_9 rfl tyX0 tyX0_ok nmX0 rfl rfl (ty := tyX0 3) (by decide +kernel) rfl rfl (Nat.le_of_ble_eq_true rfl) dX0_init_9 ?_
  refine I_aload_n C 0 rfl rfl dX0_init_12 ?_
  refine I_bipush C (v := 8) (by decide) dX0_init_13 ?_
  refine I_newI C (N := 8) (by decide) rfl (by decide) (by decide) (by decide) dX0_init_15 (fun q15 => ?_)
  refine I_putF C (ci := 2) (v := .ref q15) kin_X0 rfl 0 rfl 4 (by decide) wf_X0_15 rfl tyX0 tyX0_ok nmX0 rfl rfl (ty := tyX0 4) (by decide +kernel) rfl rfl (Nat.le_of_ble_eq_true rfl) dX0_init_17 ?_
  refine I_aload_n C 0 rfl rfl dX0_init_20 ?_
  refine I_bipush C (v := 6) (by decide) dX0_init_21 ?_
  refine I_newI C (N := 6) (by decide) rfl (by decide) (by decide) (by decide) dX0_init_23 (fun q23 => ?_)
  refine I_putF C (ci := 2) (v := .ref q23) kin_X0 rfl 0 rfl 5 (by decide) wf_X0_18 rfl tyX0 tyX0_ok nmX0 rfl rfl (ty := tyX0 5) (by decide +kernel) rfl rfl (Nat.le_of_ble_eq_true rfl) dX0_init_25 ?_
  refine I_aload_n C 0 rfl rfl dX0_init_28 ?_
  refine I_bipush C (v := 6) (by decide) dX0_init_29 ?_
  refine I_newI C (N := 6) (by decide) rfl (by decide) (by decide) (by decide) dX0_init_31 (fun q31 => ?_)
  refine I_putF C (ci := 2) (v := .ref q31) kin_X0 rfl 0 rfl 6 (by decide) wf_X0_21 rfl tyX0 tyX0_ok nmX0 rfl rfl (ty := tyX0 6) (by decide +kernel) rfl rfl (Nat.le_of_ble_eq_true rfl) dX0_init_33 ?_
  refine I_aload_n C 0 rfl rfl dX0_init_36 ?_
  refine I_bipush C (v := 48) (by decide) dX0_init_37 ?_
  refine I_newI C (N := 48) (by decide) rfl (by decide) (by decide) (by decide) dX0_init_39 (fun q39 => ?_)
  refine I_putF C (ci := 2) (v := .ref q39) kin_X0 rfl 0 rfl 7 (by decide) wf_X0_24 rfl tyX0 tyX0_ok nmX0 rfl rfl (ty := tyX0 7) (by decide +kernel) rfl rfl (Nat.le_of_ble_eq_true rfl) dX0_init_41 ?_
  refine I_aload_n C 0 rfl rfl dX0_init_44 ?_
  refine I_iconst C (v := 4) (by decide) dX0_init_45 ?_
  refine I_newI C (N := 4) (by decide) rfl (by decide) (by decide) (by decide) dX0_init_46 (fun q46 => ?_)
  refine I_putF C (ci := 2) (v := .ref q46) kin_X0 rfl 0 rfl 8 (by decide) wf_X0_27 rfl tyX0 tyX0_ok nmX0 rfl rfl (ty := tyX0 8) (by decide +kernel) rfl rfl (Nat.le_of_ble_eq_true rfl) dX0_init_48 ?_
  refine I_gs C (by decide +kernel) dX0_init_51 ?_
  refine I_aload_n C 0 rfl rfl dX0_init_54 ?_
  refine I_get C (ci := 2) (v := .ref q46) kin_X0 rfl 0 rfl 8 (by decide) wf_X0_27 rfl rfl dX0_init_55 ?_
  refine I_copyT C (X := [(h0, .inr (2, [.int 0, .int 0, .int 0, .ref q7, .ref q15, .ref q23, .ref q31, .ref q39, .ref q46])), (q7, aI G 6 zI), (q15, aI G 8 zI), (q23, aI G 6 zI), (q31, aI G 6 zI), (q39, aI G 48 zI)]) rfl (by decide +kernel) (by decide) (by decide) (by decide) (Nat.le_of_ble_eq_true rfl) dX0_init_58 ?_
  exact I_ret C (fun k => match k with | 1 => q7 | 2 => q15 | 3 => q23 | 4 => q31 | 5 => q39 | 6 => q46 | _ => 0) rfl (by decide) (by decide) dX0_init_61
