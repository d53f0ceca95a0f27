/-! constructors: worlds that grow -/
def kty (G : kG) : List (ClassId × FieldType) := [(G.2.1, .int), (G.2.2.1, .char), (G.2.2.2, .object "MouldFloor$Floor")]
def aI (G : kG) (n : Nat) (f : Nat → Int32) : va_E := .inl (G.2.1, n, .inl f)
def aC (G : kG) (n : Nat) (f : Nat → Int32) : va_E := .inl (G.2.2.1, n, .inl f)
def aF (G : kG) (g : Nat → Option Nat) : va_E := .inl (G.2.2.2, 9, .inr (.inr (.inr (.inr g))))
def zI : Nat → Int32 := fun _ => 0
def kIA (h0 sz : Nat) : Nat → Prop := fun q => q = h0 ∨ sz ≤ q
/-- arrays of Floor can be made (st, A and H stand there for rows that a constructor would read) -/
def kSI (st : Nat) (A : Nat → Prop) (U : State) (H : Heap) : Prop := va_AO "MouldFloor$Floor" U
theorem kSI_to {st : Nat} {A B : Nat → Prop} {s U : State} {H H1 : Heap} (hvm : s.vm.Alike U.vm) (hq : ∀ a : Nat, a < H.size → ¬ A a → H1[a]? = H[a]?) (hAB : ∀ q, B q → A q) (h : kSI st A s H) : kSI st B U H1 :=
  va_AO.moved hvm h
def kIB (G : kG) (st : Nat) (ws : va_W) (A : Nat → Prop) (U : State) : Prop := va_P G.1 vwCl ws U.heap ∧ va_K G.1 vwCl (kty G) U ∧ (∀ z ∈ kNW, va_Nw z U) ∧ kSI st A U U.heap
/-- a constructor of the object h0, whose fields were fs: the cells Y h0 u are there then -/
def kIMet (l : Launch) (G : kG) (st : Nat) (y : MethodName) (b : ByteArray) (nL d mc ms ci : Nat) (fs : List Value) {S : Type} (Y : Nat → S → va_W) : Prop :=
  ∀ h0 sz, Met l y (.code y b nL none :: kGT) (kRm d mc ms) (va_Pc [.ref h0] (fun U => U.heap.size = sz ∧ kIB G st [(h0, .inr (ci, fs))] (kIA h0 sz) U))
    (va_Qv (fun _ : S => True) (fun u t => va_P G.1 vwCl (Y h0 u) t.heap ∧ va_D (kIA h0 sz) (Y h0 u)) (kIA h0 sz)) mc ms (kIA h0 sz)
def IC (p : Program) (l : Launch) (e : Env) (R : Room) (s : State) (m : MethodId) (args : Array Value) (below : List Frame) (meth : Method) (c : Code) (G : kG) (st : Nat) (own : String) (cc : ByteArray) (nL d mc ms h0 : Nat) : Prop :=
  CallFix p m c cc nL s args kGT own ∧ va_K G.1 vwCl (kty G) s ∧ (∀ z ∈ kNW, va_Nw z s) ∧ kSI st (kIA h0 s.heap.size) s s.heap ∧ meth.sig.returnType = none ∧ meth.locks = false ∧ R = kRm d mc ms ∧ meth.name = "<init>"
def IW (p : Program) (l : Launch) (e : Env) (R : Room) (s : State) (m : MethodId) (args : Array Value) (below : List Frame) (meth : Method) (c : Code) (G : kG) (nL h0 : Nat) (QF : State → Prop) (ws : va_W) (k n pc : Nat) (lv : List (Nat × Value)) (st : List Value) : Prop :=
  ∀ (H : Heap) (locs : List Loc) (ls : Array Slot), va_P G.1 vwCl ws H → va_D (kIA h0 s.heap.size) ws → va_S (kIA h0 s.heap.size) s.heap H locs → lv_has ls nL lv → W p l e R s m args below meth c H locs k n QF (F0 m pc ls st)
theorem kIMet_of {l : Launch} {G : kG} {st : Nat} {y : MethodName} {b : ByteArray} {nL d mc ms ci : Nat} {fs : List Value} {S : Type} {Y : Nat → S → va_W} {own : String} (hy : plainName y.cls = true) (how : y.cls = own) (hnm : y.name = "<init>") (hn : 1 ≤ nL)
    (body : ∀ (p : Program) (e : Env) (R : Room) (s : State) (m : MethodId) (args : Array Value) (below : List Frame) (meth : Method) (c : Code) (h0 : Nat), IC p l e R s m args below meth c G st own b nL d mc ms h0 → IW p l e R s m args below meth c G nL h0 (MQ below (va_Qv (fun _ : S => True) (fun u t => va_P G.1 vwCl (Y h0 u) t.heap ∧ va_D (kIA h0 s.heap.size) (Y h0 u)) (kIA h0 s.heap.size)) args s mc ms (kIA h0 s.heap.size)) [(h0, .inr (ci, fs))] 0 0 0 [(0, .ref h0)] []) : kIMet l G st y b nL d mc ms ci fs Y := by
  intro h0 sz
  refine Met.ofW (cc := b) (maxL := nL) (ret := none) hy rfl ?_
  intro p e s m args below meth c s₁ B hml hv
  obtain ⟨rfl, hsz, hP, hK, hN, hST⟩ := hv
  have hts := atoms_spec (ws := .code y b nL none :: kGT) B.pre
  have hown : s.vm.findClass y.cls = some m.cls := findClass_of_methodNamed B.named
  have hin : meth.name = y.name := (name_of_methodNamed B.named B.method).1
  subst hsz
  subst how
  have hl := lv_entry [Value.ref h0] (n := nL) hn
  rw [lg_entry_eq]
  exact body p e _ s m _ below meth c h0 ⟨⟨B.exec, B.bytes, hml, hown, fun w hw => hts w (List.mem_cons_of_mem _ hw)⟩, hK, hN, hST, B.returns, B.notSynchronized, rfl, hin.trans hnm⟩ s.heap [] _ hP
    ⟨fun i j p q hp hq _ => by
      have h1 := (List.getElem?_eq_some_iff.mp hp).1
      have h2 := (List.getElem?_eq_some_iff.mp hq).1
      simp at h1 h2
      omega, fun k q hk => by
      have h1 := (List.getElem?_eq_some_iff.mp hk).1
      simp at h1
      subst h1
      cases hk
      exact Or.inl rfl⟩ va_S.rf hl
section IROWS
variable {p : Program} {l : Launch} {e : Env} {R : Room} {s : State} {m : MethodId} {args : Array Value} {below : List Frame} {meth : Method} {c : Code} {G : kG} {st0 : Nat} {own : String} {cc : ByteArray} {nL d mc ms h0 : Nat} {QF : State → Prop} {ws : va_W} {k n pc : Nat} {lv : List (Nat × Value)} {st : List Value}
theorem I_iconst (C : IC p l e R s m args below meth c G st0 own cc nL d mc ms h0) {i : Int} {v : Int32} (hv : Int32.ofInt i = v) (hdg : decode cc pc = .ok (.iconst i, 1)) (kk : IW p l e R s m args below meth c G nL h0 QF ws k n (pc + 1) lv (.int v :: st)) : IW p l e R s m args below meth c G nL h0 QF ws k n pc lv st := fun H locs ls hP hD hS hl => lv_iconst C.1.1 C.1.2.1 hdg hv (kk H locs ls hP hD hS hl)
theorem I_bipush (C : IC p l e R s m args below meth c G st0 own cc nL d mc ms h0) {i : Int} {v : Int32} (hv : (Int8.ofInt i).toInt32 = v) (hdg : decode cc pc = .ok (.bipush i, 2)) (kk : IW p l e R s m args below meth c G nL h0 QF ws k n (pc + 2) lv (.int v :: st)) : IW p l e R s m args below meth c G nL h0 QF ws k n pc lv st := fun H locs ls hP hD hS hl => lv_bipush C.1.1 C.1.2.1 hdg hv (kk H locs ls hP hD hS hl)
theorem I_sipush (C : IC p l e R s m args below meth c G st0 own cc nL d mc ms h0) {i : Int} {v : Int32} (hv : (Int16.ofInt i).toInt32 = v) (hdg : decode cc pc = .ok (.sipush i, 3)) (kk : IW p l e R s m args below meth c G nL h0 QF ws k n (pc + 3) lv (.int v :: st)) : IW p l e R s m args below meth c G nL h0 QF ws k n pc lv st := fun H locs ls hP hD hS hl => lv_sipush C.1.1 C.1.2.1 hdg hv (kk H locs ls hP hD hS hl)
theorem I_aload_n (C : IC p l e R s m args below meth c G st0 own cc nL d mc ms h0) {j : Fin 4} {i x : Nat} (q : Nat) (hi : (j : Nat) = i) (hq : lv[q]? = some (i, .ref x)) (hdg : decode cc pc = .ok (.aload_n j, 1)) (kk : IW p l e R s m args below meth c G nL h0 QF ws k n (pc + 1) lv (.ref x :: st)) : IW p l e R s m args below meth c G nL h0 QF ws k n pc lv st := fun H locs ls hP hD hS hl => lv_aload_n C.1.1 C.1.2.1 hdg hi (lv_at hl q hq) (kk H locs ls hP hD hS hl)
theorem I_iload_n (C : IC p l e R s m args below meth c G st0 own cc nL d mc ms h0) {j : Fin 4} {i : Nat} {x : Int32} (q : Nat) (hi : (j : Nat) = i) (hq : lv[q]? = some (i, .int x)) (hdg : decode cc pc = .ok (.iload_n j, 1)) (kk : IW p l e R s m args below meth c G nL h0 QF ws k n (pc + 1) lv (.int x :: st)) : IW p l e R s m args below meth c G nL h0 QF ws k n pc lv st := fun H locs ls hP hD hS hl => lv_iload_n C.1.1 C.1.2.1 hdg hi (lv_at hl q hq) (kk H locs ls hP hD hS hl)
theorem I_istore_n (C : IC p l e R s m args below meth c G st0 own cc nL d mc ms h0) {j : Fin 4} {i : Nat} {x : Int32} {lv1 : List (Nat × Value)} (hi : (j : Nat) = i) (hn : i < nL) (hl1 : (i, Value.int x) :: lv.filter (fun q => !(q.1 == i) && !(q.1 + 1 == i && q.2.category == 2)) = lv1) (hdg : decode cc pc = .ok (.istore_n j, 1)) (kk : IW p l e R s m args below meth c G nL h0 QF ws k n (pc + 1) lv1 st) : IW p l e R s m args below meth c G nL h0 QF ws k n pc lv (.int x :: st) := fun H locs ls hP hD hS hl => lv_istore_n C.1.1 C.1.2.1 hdg hi hl hn hl1 (fun ls1 hl2 => kk H locs ls1 hP hD hS hl2)
theorem I_iinc (C : IC p l e R s m args below meth c G st0 own cc nL d mc ms h0) {i q : Nat} {z : Int} {x v : Int32} {lv1 : List (Nat × Value)} (hk : lv[q]? = some (i, .int x)) (hv : x + Int32.ofInt z = v) (hn : i < nL) (hl1 : (i, Value.int v) :: lv.filter (fun q => !(q.1 == i) && !(q.1 + 1 == i && q.2.category == 2)) = lv1) (hdg : decode cc pc = .ok (.iinc i z, 3)) (kk : IW p l e R s m args below meth c G nL h0 QF ws k n (pc + 3) lv1 st) : IW p l e R s m args below meth c G nL h0 QF ws k n pc lv st := fun H locs ls hP hD hS hl => lv_iinc C.1.1 C.1.2.1 hdg hl hk hv hn hl1 (fun ls1 hl2 => kk H locs ls1 hP hD hS hl2)
theorem I_dup (C : IC p l e R s m args below meth c G st0 own cc nL d mc ms h0) {v : Value} (hv : v.category = 1) (hdg : decode cc pc = .ok (.dup, 1)) (kk : IW p l e R s m args below meth c G nL h0 QF ws k n (pc + 1) lv (v :: v :: st)) : IW p l e R s m args below meth c G nL h0 QF ws k n pc lv (v :: st) := fun H locs ls hP hD hS hl => lv_dup C.1.1 C.1.2.1 hdg hv (kk H locs ls hP hD hS hl)
theorem I_goto (C : IC p l e R s m args below meth c G st0 own cc nL d mc ms h0) {off : Int} {tgt : Nat} (ht : (pc : Int) + off = (tgt : Int)) (hdg : decode cc pc = .ok (.goto off, 3)) (kk : IW p l e R s m args below meth c G nL h0 QF ws k n tgt lv st) : IW p l e R s m args below meth c G nL h0 QF ws k n pc lv st := fun H locs ls hP hD hS hl => lv_goto C.1.1 C.1.2.1 hdg ht (kk H locs ls hP hD hS hl)
theorem I_geT (C : IC p l e R s m args below meth c G st0 own cc nL d mc ms h0) {x y : Int32} {off : Int} {tgt : Nat} (hc : y ≤ x) (ht : (pc : Int) + off = (tgt : Int)) (hdg : decode cc pc = .ok (.if_icmp .ge off, 3)) (kk : IW p l e R s m args below meth c G nL h0 QF ws k n tgt lv st) : IW p l e R s m args below meth c G nL h0 QF ws k n pc lv (.int y :: .int x :: st) := fun H locs ls hP hD hS hl => lv_icmp_ge C.1.1 C.1.2.1 hdg ht (fun _ => kk H locs ls hP hD hS hl) (fun h => absurd hc h)
theorem I_geF (C : IC p l e R s m args below meth c G st0 own cc nL d mc ms h0) {x y : Int32} {off : Int} {tgt : Nat} (hc : ¬ y ≤ x) (ht : (pc : Int) + off = (tgt : Int)) (hdg : decode cc pc = .ok (.if_icmp .ge off, 3)) (kk : IW p l e R s m args below meth c G nL h0 QF ws k n (pc + 3) lv st) : IW p l e R s m args below meth c G nL h0 QF ws k n pc lv (.int y :: .int x :: st) := fun H locs ls hP hD hS hl => lv_icmp_ge C.1.1 C.1.2.1 hdg ht (fun h => absurd h hc) (fun _ => kk H locs ls hP hD hS hl)
theorem I_imul (C : IC p l e R s m args below meth c G st0 own cc nL d mc ms h0) {x y v : Int32} (hv : x * y = v) (hdg : decode cc pc = .ok (.imul, 1)) (kk : IW p l e R s m args below meth c G nL h0 QF ws k n (pc + 1) lv (.int v :: st)) : IW p l e R s m args below meth c G nL h0 QF ws k n pc lv (.int y :: .int x :: st) := by subst hv; exact fun H locs ls hP hD hS hl => lv_imul C.1.1 C.1.2.1 hdg (kk H locs ls hP hD hS hl)
theorem I_iadd (C : IC p l e R s m args below meth c G st0 own cc nL d mc ms h0) {x y v : Int32} (hv : x + y = v) (hdg : decode cc pc = .ok (.iadd, 1)) (kk : IW p l e R s m args below meth c G nL h0 QF ws k n (pc + 1) lv (.int v :: st)) : IW p l e R s m args below meth c G nL h0 QF ws k n pc lv (.int y :: .int x :: st) := by subst hv; exact fun H locs ls hP hD hS hl => lv_iadd C.1.1 C.1.2.1 hdg (kk H locs ls hP hD hS hl)
theorem I_ws {ws1 : va_W} (hw : ws = ws1) (kk : IW p l e R s m args below meth c G nL h0 QF ws1 k n pc lv st) : IW p l e R s m args below meth c G nL h0 QF ws k n pc lv st := by rw [hw]; exact kk
theorem I_sub {lv1 : List (Nat × Value)} (ks : List Nat) (hk : lv_pick lv ks = lv1) (kk : IW p l e R s m args below meth c G nL h0 QF ws k n pc lv1 st) : IW p l e R s m args below meth c G nL h0 QF ws k n pc lv st := fun H locs ls hP hD hS hl => kk H locs ls hP hD hS (lv_sub hl ks hk)
theorem arrI {A : ClassId} {D : va_G} {cl : List vw_C} {tys : List (ClassId × FieldType)} {ty : FieldType} {B : ClassId} {i j : Nat} (hK : va_K D cl tys s) (h1 : tys[i]? = some (A, ty)) (h2 : tys[j]? = some (B, ty)) (hty : ∀ C, ty ≠ .object C) : B = A := by
  have a := (hK.2 i _ h1).2
  have b := (hK.2 j _ h2).2
  unfold va_RA at a b
  dsimp only at a b
  cases ty <;> first | exact absurd rfl (hty _) | exact Option.some.inj (b.symm.trans a)
theorem arrO {A : ClassId} {D : va_G} {cl : List vw_C} {tys : List (ClassId × FieldType)} {T : String} {B : ClassId} {i j : Nat} (hK : va_K D cl tys s) (h1 : tys[i]? = some (A, .object T)) (h2 : tys[j]? = some (B, .object T)) : B = A := by
  obtain ⟨-, -, -, -, -, a⟩ := (hK.2 i _ h1).2
  obtain ⟨-, -, -, -, -, b⟩ := (hK.2 j _ h2).2
  exact Option.some.inj (b.symm.trans a)
theorem winit_1 : Cond.arrayClass .int ∈ kGT := kgt (List.mem_of_getElem? (i := 117) (by decide +kernel)) rfl
theorem winit_2 : Cond.arrayClass .char ∈ kGT := kgt (List.mem_of_getElem? (i := 315) (by decide +kernel)) rfl
theorem I_newI (C : IC p l e R s m args below meth c G st0 own cc nL d mc ms h0) {x : Int32} {N : Nat} (hn : ¬ x < 0) (hN : x.toNatClampNeg = N) (hb : N * 4 ≤ 536870912) (hc : k + 1 ≤ mc) (hs : n + N ≤ ms) (hdg : decode cc pc = .ok (.newarray .int, 2)) (kk : ∀ q : Nat, IW p l e R s m args below meth c G nL h0 QF (ws ++ [(q, aI G N zI)]) (k + 1) (n + N) (pc + 2) lv (.ref q :: st)) : IW p l e R s m args below meth c G nL h0 QF ws k n pc lv (.int x :: st) := fun H locs ls hP hD hS hl => by
  have hR : R = kRm d mc ms := C.2.2.2.2.2.2.1
  refine va_newa (atype := .int) (ty := .int) (N' := N) (a0 := (N, .inl zI)) C.1.1 C.1.2.1 (C.1.2.2.2.2 _ winit_1) rfl C.2.1 hP hD hS (fun q h => Or.inr h) (fun cA => rfl) hn hN hb (by rw [hR]; exact hc) (by rw [hR]; exact hs) hdg (fun q cA H1 hK1 hP1 hD1 hS1 => ?_)
  have e : cA = G.2.1 := arrI hK1 (i := 0) (j := 3) rfl rfl (fun _ h => by cases h)
  subst e
  exact kk q H1 locs ls hP1 hD1 hS1 hl
theorem I_newC (C : IC p l e R s m args below meth c G st0 own cc nL d mc ms h0) {x : Int32} {N : Nat} (hn : ¬ x < 0) (hN : x.toNatClampNeg = N) (hb : N * 2 ≤ 536870912) (hc : k + 1 ≤ mc) (hs : n + N ≤ ms) (hdg : decode cc pc = .ok (.newarray .char, 2)) (kk : ∀ q : Nat, IW p l e R s m args below meth c G nL h0 QF (ws ++ [(q, aC G N zI)]) (k + 1) (n + N) (pc + 2) lv (.ref q :: st)) : IW p l e R s m args below meth c G nL h0 QF ws k n pc lv (.int x :: st) := fun H locs ls hP hD hS hl => by
  have hR : R = kRm d mc ms := C.2.2.2.2.2.2.1
  refine va_newa (atype := .char) (ty := .char) (N' := N) (a0 := (N, .inl zI)) C.1.1 C.1.2.1 (C.1.2.2.2.2 _ winit_2) rfl C.2.1 hP hD hS (fun q h => Or.inr h) (fun cA => rfl) hn hN hb (by rw [hR]; exact hc) (by rw [hR]; exact hs) hdg (fun q cA H1 hK1 hP1 hD1 hS1 => ?_)
  have e : cA = G.2.2.1 := arrI hK1 (i := 1) (j := 3) rfl rfl (fun _ h => by cases h)
  subst e
  exact kk q H1 locs ls hP1 hD1 hS1 hl
theorem I_newF (C : IC p l e R s m args below meth c G st0 own cc nL d mc ms h0) {index : Nat} {x : Int32} (hcl : Cond.classLink own index "MouldFloor$Floor" ∈ kGT) (hn : ¬ x < 0) (hN : x.toNatClampNeg = 9) (hc : k + 1 ≤ mc) (hs : n + 9 ≤ ms) (hdg : decode cc pc = .ok (.anewarray index, 3)) (kk : ∀ q : Nat, IW p l e R s m args below meth c G nL h0 QF (ws ++ [(q, aF G (fun _ => none))]) (k + 1) (n + 9) (pc + 3) lv (.ref q :: st)) : IW p l e R s m args below meth c G nL h0 QF ws k n pc lv (.int x :: st) := fun H locs ls hP hD hS hl => by
  have hR : R = kRm d mc ms := C.2.2.2.2.2.2.1
  refine va_newq (N' := 9) (C := "MouldFloor$Floor") C.1.1 C.1.2.1 C.1.2.2.2.1 (C.1.2.2.2.2 _ hcl) C.2.2.2.1 C.2.1 hP hD hS (fun q h => Or.inr h) hn hN (by decide) (by rw [hR]; exact hc) (by rw [hR]; exact hs) hdg (fun q cA H1 hK1 hP1 hD1 hS1 => ?_)
  have e : cA = G.2.2.2 := arrO hK1 (i := 2) (j := 3) rfl rfl
  subst e
  exact kk q H1 locs ls hP1 hD1 hS1 hl
theorem wobj_1 : Cond.instanceMethod objectInit ∈ kGT := kgt (List.mem_of_getElem? (i := 63) (by decide +kernel)) rfl
theorem wobj_2 : Cond.code objectInit ⟨#[0xb1]⟩ 1 none ∈ kGT := kgt (List.mem_of_getElem? (i := 64) (by decide +kernel)) rfl
theorem I_obj (C : IC p l e R s m args below meth c G st0 own cc nL d mc ms h0) {idx x : Nat} (hlink : Cond.methodLink own idx objectInit ∈ kGT) (hd : 1 ≤ d) (hrest : (st.map fun v => v.category).sum ≤ 8) (hdg : decode cc pc = .ok (.invokespecial idx, 3)) (kk : IW p l e R s m args below meth c G nL h0 QF ws k n (pc + 3) lv st) : IW p l e R s m args below meth c G nL h0 QF ws k n pc lv (.ref x :: st) := fun H locs ls hP hD hS hl => by
  have hR : R = kRm d mc ms := C.2.2.2.2.2.2.1
  exact W.objInit C.1.1 C.1.2.1 C.1.2.2.2.1 (C.1.2.2.2.2 _ hlink) (C.1.2.2.2.2 _ wobj_1) (C.1.2.2.2.2 _ wobj_2) rfl (hl.1.trans C.1.2.2.1.symm) rfl hdg (by rw [hR]; exact hd) (by rw [hR]; show 2 * 0 + _ + 12 ≤ 64 * d; omega) (kk H locs ls hP hD hS hl)
theorem I_put (C : IC p l e R s m args below meth c G st0 own cc nL d mc ms h0) {C1 : String} {T : u_T} {N ci index a : Nat} {ref : String} {fs : List Value} (hin : ∀ z ∈ u_ws C1 T N, z ∈ kGT) (hc : vwCl[ci]? = some (C1, T, N)) (q0 : Nat) (he : ws[q0]? = some (a, .inr (ci, fs))) (j : Nat) (hk : j < N) (hlink : Cond.fieldLink own index ref (T j).2.1 (T j).2.2.1 ∈ kGT) (hT1 : (T j).1 = ref) (ty0 : Nat → FieldType) (hty : ∀ k, k < N → parseFieldDescriptor (T k).2.2.1 = some (ty0 k)) (hnm : ∀ a, a < N → ∀ b, b < N → a ≠ b → (T a).2.1 ≠ (T b).2.1) (hfin : (T j).2.2.2 = false) {ty : FieldType} {v : Value} (hd : parseFieldDescriptor (T j).2.2.1 = some ty) (hn : narrow ty v = v) (hfit : fits ty v = true) (hl9 : j < fs.length) (hdg : decode cc pc = .ok (.putfield index, 3)) (kk : IW p l e R s m args below meth c G nL h0 QF (ws.set q0 (a, .inr (ci, fs.set j v))) k n (pc + 3) lv st) : IW p l e R s m args below meth c G nL h0 QF ws k n pc lv (v :: .ref a :: st) := fun H locs ls hP hD hS hl =>
  va_put C.1.1 C.1.2.1 C.1.2.2.2.2 hin ty0 hty hnm C.1.2.2.2.1 C.2.1 hP hD hS q0 he hc j hk (C.1.2.2.2.2 _ hlink) (fun x h => by rw [← hT1]; exact h) hfin hd hn hfit hl9 hdg (fun H1 locs1 hP1 hD1 hS1 => kk H1 locs1 ls hP1 hD1 hS1 hl)
theorem I_putF (C : IC p l e R s m args below meth c G st0 own cc nL d mc ms h0) {C1 : String} {T : u_T} {N ci index a : Nat} {ref : String} {fs : List Value} (hin : ∀ z ∈ u_ws C1 T N, z ∈ kGT) (hc : vwCl[ci]? = some (C1, T, N)) (q0 : Nat) (he : ws[q0]? = some (a, .inr (ci, fs))) (j : Nat) (hk : j < N) (hlink : Cond.fieldLink own index ref (T j).2.1 (T j).2.2.1 ∈ kGT) (hT1 : (T j).1 = ref) (ty0 : Nat → FieldType) (hty : ∀ k, k < N → parseFieldDescriptor (T k).2.2.1 = some (ty0 k)) (hnm : ∀ a, a < N → ∀ b, b < N → a ≠ b → (T a).2.1 ≠ (T b).2.1) (hfin : (T j).2.2.2 = true) (hdecl : (T j).1 = own) {ty : FieldType} {v : Value} (hd : parseFieldDescriptor (T j).2.2.1 = some ty) (hn : narrow ty v = v) (hfit : fits ty v = true) (hl9 : j < fs.length) (hdg : decode cc pc = .ok (.putfield index, 3)) (kk : IW p l e R s m args below meth c G nL h0 QF (ws.set q0 (a, .inr (ci, fs.set j v))) k n (pc + 3) lv st) : IW p l e R s m args below meth c G nL h0 QF ws k n pc lv (v :: .ref a :: st) := fun H locs ls hP hD hS hl =>
  va_putF C.1.1 C.1.2.1 C.1.2.2.2.2 hin ty0 hty hnm C.1.2.2.2.1 C.2.1 hP hD hS q0 he hc j hk (C.1.2.2.2.2 _ hlink) (fun x h => by rw [← hT1]; exact h) hfin C.2.2.2.2.2.2.2 hdecl hd hn hfit hl9 hdg (fun H1 locs1 hP1 hD1 hS1 => kk H1 locs1 ls hP1 hD1 hS1 hl)
theorem I_get (C : IC p l e R s m args below meth c G st0 own cc nL d mc ms h0) {C1 : String} {T : u_T} {N ci index a : Nat} {ref : String} {fs : List Value} (hin : ∀ z ∈ u_ws C1 T N, z ∈ kGT) (hc : vwCl[ci]? = some (C1, T, N)) (q0 : Nat) (he : ws[q0]? = some (a, .inr (ci, fs))) (j : Nat) (hk : j < N) (hlink : Cond.fieldLink own index ref (T j).2.1 (T j).2.2.1 ∈ kGT) (hT1 : (T j).1 = ref) {v : Value} (hv : fs[j]? = some v) (hdg : decode cc pc = .ok (.getfield index, 3)) (kk : IW p l e R s m args below meth c G nL h0 QF ws k n (pc + 3) lv (v :: st)) : IW p l e R s m args below meth c G nL h0 QF ws k n pc lv (.ref a :: st) := fun H locs ls hP hD hS hl =>
  va_get C.1.1 C.1.2.1 C.1.2.2.2.2 hin C.1.2.2.2.1 C.2.1 hP q0 he hc j hk (C.1.2.2.2.2 _ hlink) (fun x h => by rw [← hT1]; exact h) (v := v) hv hdg (kk H locs ls hP hD hS hl)
theorem I_iast (C : IC p l e R s m args below meth c G st0 own cc nL d mc ms h0) {a N : Nat} {i x : Int32} {f : Nat → Int32} (q0 : Nat) (he : ws[q0]? = some (a, aI G N f)) (hi : vp_in i N) (j : Nat) (hij : i.toNatClampNeg = j) (hdg : decode cc pc = .ok (.iastore, 1)) (kk : IW p l e R s m args below meth c G nL h0 QF (ws.set q0 (a, aI G N (upd f j x))) k n (pc + 1) lv st) : IW p l e R s m args below meth c G nL h0 QF ws k n pc lv (.int x :: .int i :: .ref a :: st) := by
  subst hij
  exact fun H locs ls hP hD hS hl => va_iast C.1.1 C.1.2.1 C.2.1 hP hD hS q0 0 he rfl hi hdg (fun H1 locs1 hP1 hD1 hS1 => kk H1 locs1 ls hP1 hD1 hS1 hl)
theorem I_aast (C : IC p l e R s m args below meth c G st0 own cc nL d mc ms h0) {a v ci : Nat} {i : Int32} {f : Nat → Option Nat} {vs : List Value} {T : u_T} {N : Nat} (q0 qk : Nat) (he : ws[q0]? = some (a, aF G f)) (hv : ws[qk]? = some (v, .inr (ci, vs))) (hc : vwCl[ci]? = some ("MouldFloor$Floor", T, N)) (hi : vp_in i 9) (j : Nat) (hij : i.toNatClampNeg = j) (hdg : decode cc pc = .ok (.aastore, 1)) (kk : IW p l e R s m args below meth c G nL h0 QF (ws.set q0 (a, aF G (va_up f j (some v)))) k n (pc + 1) lv st) : IW p l e R s m args below meth c G nL h0 QF ws k n pc lv (.ref v :: .int i :: .ref a :: st) := by
  subst hij
  exact fun H locs ls hP hD hS hl => va_astq C.1.1 C.1.2.1 C.2.1 hP hD hS q0 2 qk ci he rfl hv hc hi hdg (fun H1 locs1 hP1 hD1 hS1 => kk H1 locs1 ls hP1 hD1 hS1 hl)
theorem I_new (C : IC p l e R s m args below meth c G st0 own cc nL d mc ms h0) {C1 : String} {T : u_T} {N ci index : Nat} {fs : List Value} (hin : ∀ z ∈ u_ws C1 T N, z ∈ kGT) (ty : Nat → FieldType) (hty : ∀ k, k < N → parseFieldDescriptor (T k).2.2.1 = some (ty k)) (hcl : Cond.classLink own index C1 ∈ kGT) (hinst : Cond.instantiable C1 N ∈ kGT) (hini : Cond.initialized C1 ∈ kGT) (hc : vwCl[ci]? = some (C1, T, N)) (hfs : ∀ j, j < N → defaultValue (ty j) = vp_V fs j) (hc1 : k + 1 ≤ mc) (hs1 : n + N ≤ ms) (hdg : decode cc pc = .ok (.new index, 3)) (kk : ∀ q : Nat, IW p l e R s m args below meth c G nL h0 QF (ws ++ [(q, .inr (ci, fs))]) (k + 1) (n + N) (pc + 3) lv (.ref q :: st)) : IW p l e R s m args below meth c G nL h0 QF ws k n pc lv st := fun H locs ls hP hD hS hl => by
  have hR : R = kRm d mc ms := C.2.2.2.2.2.2.1
  exact va_new C.1.1 C.1.2.1 C.1.2.2.2.2 hin ty hty C.1.2.2.2.1 (C.1.2.2.2.2 _ hcl) (C.1.2.2.2.2 _ hinst) (C.1.2.2.2.2 _ hini) C.2.1 hP hD hS (fun q h => Or.inr h) hc hfs (by rw [hR]; exact hc1) (by rw [hR]; exact hs1) hdg (fun q H1 hP1 hD1 hS1 => kk q H1 locs ls hP1 hD1 hS1 hl)
theorem I_cut {X : va_W} {q : Nat} {o : va_E} {A : Nat → Prop} {H H1 : Heap} {D : va_G} {cl : List vw_C} {Y : va_W} (hP : va_P D cl (X ++ [(q, o)]) H) (hD : va_D A (X ++ [(q, o)])) (hk : ∀ a : Nat, a < H.size → ¬ kIA q H.size a → H1[a]? = H[a]?) (hsub : ∀ a, kIA q H.size a → A a) (hPY : va_P D cl Y H1) (hDY : va_D (kIA q H.size) Y) : va_P D cl (X ++ Y) H1 ∧ va_D A (X ++ Y) := by
  have hX : ∀ (i : Nat) (x : Nat × va_E), X[i]? = some x → x.1 < H.size ∧ x.1 ≠ q := by
    intro i x hx
    have hi := (List.getElem?_eq_some_iff.mp hx).1
    have h1 : (X ++ [(q, o)])[i]? = some x := by rw [List.getElem?_append_left hi]; exact hx
    refine ⟨(hP i x h1).lt, fun e => ?_⟩
    have h2 : (X ++ [(q, o)])[X.length]? = some (q, o) := by simp
    have := hD.1 i X.length x (q, o) h1 h2 e
    omega
  have hPX : va_P D cl X H := fun i x hx => hP i x (by rw [List.getElem?_append_left (List.getElem?_eq_some_iff.mp hx).1]; exact hx)
  have hDX : va_D A X := ⟨fun i j x y hx hy e => hD.1 i j x y (by rw [List.getElem?_append_left (List.getElem?_eq_some_iff.mp hx).1]; exact hx) (by rw [List.getElem?_append_left (List.getElem?_eq_some_iff.mp hy).1]; exact hy) e, fun i x hx => hD.2 i x (by rw [List.getElem?_append_left (List.getElem?_eq_some_iff.mp hx).1]; exact hx)⟩
  refine ⟨(hPX.kept (fun i x hx => hk _ (hX i x hx).1 (fun z => z.elim (hX i x hx).2 (fun h => by have := (hX i x hx).1; omega)))).app hPY, hDX.app (hDY.weaken (fun i x hx h => hsub _ h)) (fun i j x y hx hy e => ?_)⟩
  rcases hDY.2 j y hy with h | h
  · exact (hX i x hx).2 (e.trans h)
  · have := (hX i x hx).1
    omega
theorem kIblind {fs : List Value} {ci sz q : Nat} : FrameBlind (va_Pc [.ref q] (fun U => U.heap.size = sz ∧ kIB G st0 [(q, .inr (ci, fs))] (kIA q sz) U)) := fun a U g mk z => by
  obtain ⟨q0, q1, qP, qK, qN, qS⟩ := z
  exact ⟨q0, q1, qP, va_K.moved (u := U) (U := U.calling g mk a) (Vm.Alike.refl U.vm) qK, kNW_same (s := U) (U := U.calling g mk a) rfl qN, kSI_to (s := U) (U := U.calling g mk a) (Vm.Alike.refl U.vm) (fun _ _ _ => rfl) (fun _ h => h) qS⟩
theorem kIpre (C : IC p l e R s m args below meth c G st0 own cc nL d mc ms h0) {H : Heap} {locs : List Loc} {ci q : Nat} {fs : List Value} {X : va_W} (hP : va_P G.1 vwCl (X ++ [(q, .inr (ci, fs))]) H) (hS : va_S (kIA h0 s.heap.size) s.heap H locs) (hsub : ∀ a, kIA q H.size a → kIA h0 s.heap.size a) : ∀ U : State, U.heap = H → s.WarmedH U.vm → va_Pc [.ref q] (fun U => U.heap.size = H.size ∧ kIB G st0 [(q, .inr (ci, fs))] (kIA q H.size) U) [Value.ref q].toArray U := by
  intro U hU hW
  refine ⟨rfl, by rw [hU], ?_, va_K.moved hW.alike C.2.1, kNW_moved hW C.2.2.1, kSI_to hW.alike (fun a h1 h2 => by rw [hU]; exact hS.2.1 a h1 h2) hsub C.2.2.2.1⟩
  rw [hU]
  intro i x hx
  have h1 := (List.getElem?_eq_some_iff.mp hx).1
  simp at h1
  subst h1
  exact hP X.length x (by simpa using hx)
theorem I_call (C : IC p l e R s m args below meth c G st0 own cc nL d mc ms h0) {y : MethodName} {b1 : ByteArray} {nL1 d1 mc1 ms1 idx ci q : Nat} {fs : List Value} {S : Type} {Y : Nat → S → va_W} {X : va_W} (hM : kIMet l G st0 y b1 nL1 d1 mc1 ms1 ci fs Y) (hw : ws = X ++ [(q, .inr (ci, fs))]) (hY : kY y b1 nL1 none 0) (hy1 : y.name = "<init>") (hinst : Cond.instanceMethod y ∈ kGT) (hlink : Cond.methodLink own idx y ∈ kGT ∨ Cond.methodLinkNest own idx y "MouldFloor" ∈ kNW) (hd1 : d1 < d) (hc1 : k + mc1 ≤ mc) (hs1 : n + ms1 ≤ ms) (hrest : (st.map fun v => v.category).sum ≤ 8) (hdg : decode cc pc = .ok (.invokespecial idx, 3)) (kk : ∀ u : S, IW p l e R s m args below meth c G nL h0 QF (X ++ Y q u) (k + mc1) (n + ms1) (pc + 3) lv st) : IW p l e R s m args below meth c G nL h0 QF ws k n pc lv (.ref q :: st) := fun H locs ls hP hD hS hl => by
  subst hw
  have hR9 : R = kRm d mc ms := C.2.2.2.2.2.2.1
  have hR : (kRm d1 mc1 ms1).frames + 1 ≤ R.frames ∧ 8 + (nL1 + 11) + (kRm d1 mc1 ms1).locals ≤ R.locals := by
    rw [hR9]
    have := hY.2.2.2
    exact ⟨hd1, by show 8 + (nL1 + 11) + 64 * d1 ≤ 64 * d; omega⟩
  have hq : kIA h0 s.heap.size q := hD.2 X.length (q, .inr (ci, fs)) (by simp)
  have hsub : ∀ a, kIA q H.size a → kIA h0 s.heap.size a := fun a h => h.elim (fun e => by rw [e]; exact hq) (fun e => Or.inr (Nat.le_trans hS.1 e))
  have hts := C.1.2.2.2.2
  have hf : k + mc1 ≤ R.cells ∧ n + ms1 ≤ R.slots := by rw [hR9]; exact ⟨hc1, hs1⟩
  have go : va_Run p l e R s m args below meth c H locs k n mc1 ms1 (F0 m pc ls (.ref q :: st)) st (va_Qv (fun _ : S => True) (fun u t => va_P G.1 vwCl (Y q u) t.heap ∧ va_D (kIA q H.size) (Y q u)) (kIA q H.size) (Value.ref q :: []).toArray) (kIA q H.size) := by
    rcases hlink with hlink | hlink
    · exact va_runI (As := []) (rest := st) C.1 (hM q H.size) ⟨callB_of 0 hts (kcode_in hY.1) rfl rfl rfl (hts _ hY.2.1) (hts _ hlink) hY.2.2.1 hR, hy1, hts _ hinst⟩ ⟨kIblind, kIpre C hP hS hsub⟩ rfl rfl (hl.1.trans rfl) rfl (lv_room hrest) hdg hf
    · exact va_runIN (As := []) (rest := st) C.1 (hM q H.size) ⟨va_cnB 0 hts (kcode_in hY.1) rfl rfl rfl (C.2.2.1 _ hlink) (hts _ hY.2.1) hY.2.2.1 hR, hy1, hts _ hinst⟩ ⟨kIblind, kIpre C hP hS hsub⟩ rfl rfl (hl.1.trans rfl) rfl (lv_room hrest) hdg hf
  refine va_callv go hS (fun a _ h => hsub a h) hsub (fun u t H1 locs1 ht hvm _ hB hz1 hk1 hS1 => ?_)
  obtain ⟨hPY, hDY⟩ := hB
  rw [ht] at hPY
  obtain ⟨hP2, hD2⟩ := I_cut hP hD hk1 hsub hPY hDY
  exact kk u H1 locs1 ls hP2 hD2 hS1 hl
theorem I_ret (C : IC p l e R s m args below meth c G st0 own cc nL d mc ms h0) {S : Type} {Y : Nat → S → va_W} (u : S) (hw : ws = Y h0 u) (hk : k ≤ mc) (hn : n ≤ ms) (hdg : decode cc pc = .ok (.return_, 1)) : IW p l e R s m args below meth c G nL h0 (MQ below (va_Qv (fun _ : S => True) (fun u t => va_P G.1 vwCl (Y h0 u) t.heap ∧ va_D (kIA h0 s.heap.size) (Y h0 u)) (kIA h0 s.heap.size)) args s mc ms (kIA h0 s.heap.size)) ws k n pc lv [] := fun H locs ls hP hD hS hl => by
  subst hw
  refine W.widen (k := mc) (n := ms) hk hn ?_
  exact W.vret C.1.1 C.1.2.1 C.2.2.2.2.1 (fun t ht hW => ⟨⟨u, rfl, trivial, by rw [ht]; exact hP, hD⟩, hS.F ht⟩) hS.2.2 hdg C.2.2.2.2.2.1
end IROWS
theorem kone {A : Nat → Prop} {b : Nat} {o : va_E} (h : A b) : va_D A [(b, o)] := ⟨fun i j p q hp hq _ => by
      have h1 := (List.getElem?_eq_some_iff.mp hp).1
      have h2 := (List.getElem?_eq_some_iff.mp hq).1
      simp at h1 h2
      omega, fun k q hk => by
      have h1 := (List.getElem?_eq_some_iff.mp hk).1
      simp at h1
      subst h1
      cases hk
      exact h⟩
theorem wob_X8_3 : Cond.methodLink RX8 3 objectInit ∈ kGT := kgt (List.mem_of_getElem? (i := 280) (by decide +kernel)) rfl
def Y_X8 (G : kG) (h0 : Nat) (u : Nat → Nat) : va_W := [(h0, .inr (11, [.ref (u 1), .ref (u 2), .int 0])), ((u 1), aI G 3 zI), ((u 2), aI G 3 zI)]
set_option maxRecDepth 100000 in
set_option maxHeartbeats 4000000 in
theorem kim_X8_init (l : Launch) (G : kG) (st : Nat) : kIMet l G st yX8_init cX8_init 1 1 2 6 11 [.null, .null, .int 0] (Y_X8 G) := by
  refine kIMet_of (own := RX8) (by decide) rfl rfl (by decide) ?_
  intro p e R s m args below meth c h0 C
  refine I_aload_n C 0 rfl rfl dX8_init_0 ?_
  refine I_obj C wob_X8_3 (by decide) (Nat.le_of_ble_eq_true rfl) dX8_init_1 ?_
  refine I_aload_n C 0 rfl rfl dX8_init_4 ?_
  refine I_iconst C (v := 3) (by decide) dX8_init_5 ?_
  refine I_newI C (N := 3) (by decide) rfl (by decide) (by decide) (by decide) dX8_init_6 (fun q6 => ?_)
  refine I_ws (ws1 := [(h0, .inr (11, [.null, .null, .int 0])), (q6, aI G 3 zI)]) rfl ?_
  refine I_putF C (ci := 11) (v := .ref q6) kin_X8 rfl 0 rfl 0 (by decide) wf_X8_9 rfl tyX8 tyX8_ok nmX8 rfl rfl (ty := tyX8 0) (by decide +kernel) rfl rfl (Nat.le_of_ble_eq_true rfl) dX8_init_8 ?_
  refine I_ws (ws1 := [(h0, .inr (11, [.ref q6, .null, .int 0])), (q6, aI G 3 zI)]) rfl ?_
  refine I_aload_n C 0 rfl rfl dX8_init_11 ?_
  refine I_iconst C (v := 3) (by decide) dX8_init_12 ?_
  refine I_newI C (N := 3) (by decide) rfl (by decide) (by decide) (by decide) dX8_init_13 (fun q13 => ?_)
  refine I_ws (ws1 := [(h0, .inr (11, [.ref q6, .null, .int 0])), (q6, aI G 3 zI), (q13, aI G 3 zI)]) rfl ?_
  refine I_putF C (ci := 11) (v := .ref q13) kin_X8 rfl 0 rfl 1 (by decide) wf_X8_15 rfl tyX8 tyX8_ok nmX8 rfl rfl (ty := tyX8 1) (by decide +kernel) rfl rfl (Nat.le_of_ble_eq_true rfl) dX8_init_15 ?_
  refine I_ws (ws1 := [(h0, .inr (11, [.ref q6, .ref q13, .int 0])), (q6, aI G 3 zI), (q13, aI G 3 zI)]) rfl ?_
  exact I_ret C (fun k => match k with | 1 => q6 | 2 => q13 | _ => 0) rfl (by decide) (by decide) dX8_init_18
theorem wob_X10_3 : Cond.methodLink RX10 3 objectInit ∈ kGT := kgt (List.mem_of_getElem? (i := 299) (by decide +kernel)) rfl
def Y_X10 (G : kG) (h0 : Nat) (u : Nat → Nat) : va_W := [(h0, .inr (13, [.ref (u 1), .int 0, .int 0, .int (-1)])), ((u 1), aC G 80 zI)]
set_option maxRecDepth 100000 in
set_option maxHeartbeats 4000000 in
theorem kim_X10_init (l : Launch) (G : kG) (st : Nat) : kIMet l G st yX10_init cX10_init 1 1 1 80 13 [.null, .int 0, .int 0, .int 0] (Y_X10 G) := by
  refine kIMet_of (own := RX10) (by decide) rfl rfl (by decide) ?_
  intro p e R s m args below meth c h0 C
  refine I_aload_n C 0 rfl rfl dX10_init_0 ?_
  refine I_obj C wob_X10_3 (by decide) (Nat.le_of_ble_eq_true rfl) dX10_init_1 ?_
  refine I_aload_n C 0 rfl rfl dX10_init_4 ?_
  refine I_bipush C (v := 80) (by decide) dX10_init_5 ?_
  refine I_newC C (N := 80) (by decide) rfl (by decide) (by decide) (by decide) dX10_init_7 (fun q7 => ?_)
  refine I_ws (ws1 := [(h0, .inr (13, [.null, .int 0, .int 0, .int 0])), (q7, aC G 80 zI)]) rfl ?_
  refine I_putF C (ci := 13) (v := .ref q7) kin_X10 rfl 0 rfl 0 (by decide) wf_X10_9 rfl tyX10 tyX10_ok nmX10 rfl rfl (ty := tyX10 0) (by decide +kernel) rfl rfl (Nat.le_of_ble_eq_true rfl) dX10_init_9 ?_
  refine I_ws (ws1 := [(h0, .inr (13, [.ref q7, .int 0, .int 0, .int 0])), (q7, aC G 80 zI)]) rfl ?_
  refine I_aload_n C 0 rfl rfl dX10_init_12 ?_
  refine I_iconst C (v := (-1)) (by decide) dX10_init_13 ?_
  refine I_put C (ci := 13) (v := .int (-1)) kin_X10 rfl 0 rfl 3 (by decide) wf_X10_15 rfl tyX10 tyX10_ok nmX10 rfl (ty := .int) (by decide +kernel) rfl rfl (Nat.le_of_ble_eq_true rfl) dX10_init_14 ?_
  refine I_ws (ws1 := [(h0, .inr (13, [.ref q7, .int 0, .int 0, .int (-1)])), (q7, aC G 80 zI)]) rfl ?_
  exact I_ret C (fun k => match k with | 1 => q7 | _ => 0) rfl (by decide) (by decide) dX10_init_17
theorem wob_X3_3 : Cond.methodLink RX3 3 objectInit ∈ kGT := kgt (List.mem_of_getElem? (i := 321) (by decide +kernel)) rfl
def Y_X3 (G : kG) (h0 : Nat) (u : Nat → Nat) : va_W := [(h0, .inr (6, [.ref (u 1), .ref (u 2), .int 0, .int 0, .int 0])), ((u 1), aI G 3 zI), ((u 2), aI G 3 zI)]
set_option maxRecDepth 100000 in
set_option maxHeartbeats 4000000 in
theorem kim_X3_init (l : Launch) (G : kG) (st : Nat) : kIMet l G st yX3_init cX3_init 1 1 2 6 6 [.null, .null, .int 0, .int 0, .int 0] (Y_X3 G) := by
  refine kIMet_of (own := RX3) (by decide) rfl rfl (by decide) ?_
  intro p e R s m args below meth c h0 C
  refine I_aload_n C 0 rfl rfl dX3_init_0 ?_
  refine I_obj C wob_X3_3 (by decide) (Nat.le_of_ble_eq_true rfl) dX3_init_1 ?_
  refine I_aload_n C 0 rfl rfl dX3_init_4 ?_
  refine I_iconst C (v := 3) (by decide) dX3_init_5 ?_
  refine I_newI C (N := 3) (by decide) rfl (by decide) (by decide) (by decide) dX3_init_6 (fun q6 => ?_)
  refine I_ws (ws1 := [(h0, .inr (6, [.null, .null, .int 0, .int 0, .int 0])), (q6, aI G 3 zI)]) rfl ?_
  refine I_putF C (ci := 6) (v := .ref q6) kin_X3 rfl 0 rfl 0 (by decide) wf_X3_9 rfl tyX3 tyX3_ok nmX3 rfl rfl (ty := tyX3 0) (by decide +kernel) rfl rfl (Nat.le_of_ble_eq_true rfl) dX3_init_8 ?_
  refine I_ws (ws1 := [(h0, .inr (6, [.ref q6, .null, .int 0, .int 0, .int 0])), (q6, aI G 3 zI)]) rfl ?_
  refine I_aload_n C 0 rfl rfl dX3_init_11 ?_
  refine I_iconst C (v := 3) (by decide) dX3_init_12 ?_
  refine I_newI C (N := 3) (by decide) rfl (by decide) (by decide) (by decide) dX3_init_13 (fun q13 => ?_)
  refine I_ws (ws1 := [(h0, .inr (6, [.ref q6, .null, .int 0, .int 0, .int 0])), (q6, aI G 3 zI), (q13, aI G 3 zI)]) rfl ?_
  refine I_putF C (ci := 6) (v := .ref q13) kin_X3 rfl 0 rfl 1 (by decide) wf_X3_15 rfl tyX3 tyX3_ok nmX3 rfl rfl (ty := tyX3 1) (by decide +kernel) rfl rfl (Nat.le_of_ble_eq_true rfl) dX3_init_15 ?_
  refine I_ws (ws1 := [(h0, .inr (6, [.ref q6, .ref q13, .int 0, .int 0, .int 0])), (q6, aI G 3 zI), (q13, aI G 3 zI)]) rfl ?_
  exact I_ret C (fun k => match k with | 1 => q6 | 2 => q13 | _ => 0) rfl (by decide) (by decide) dX3_init_18
theorem wob_X7_3 : Cond.methodLink RX7 3 objectInit ∈ kGT := kgt (List.mem_of_getElem? (i := 345) (by decide +kernel)) rfl
def Y_X7 (G : kG) (h0 : Nat) (u : Nat → Nat) : va_W := [(h0, .inr (10, [.ref (u 1), .ref (u 2), .int 0])), ((u 1), aI G 40 zI), ((u 2), aI G 120 zI)]
set_option maxRecDepth 100000 in
set_option maxHeartbeats 4000000 in
theorem kim_X7_init (l : Launch) (G : kG) (st : Nat) : kIMet l G st yX7_init cX7_init 1 1 2 160 10 [.null, .null, .int 0] (Y_X7 G) := by
  refine kIMet_of (own := RX7) (by decide) rfl rfl (by decide) ?_
  intro p e R s m args below meth c h0 C
  refine I_aload_n C 0 rfl rfl dX7_init_0 ?_
  refine I_obj C wob_X7_3 (by decide) (Nat.le_of_ble_eq_true rfl) dX7_init_1 ?_
  refine I_aload_n C 0 rfl rfl dX7_init_4 ?_
  refine I_bipush C (v := 40) (by decide) dX7_init_5 ?_
  refine I_newI C (N := 40) (by decide) rfl (by decide) (by decide) (by decide) dX7_init_7 (fun q7 => ?_)
  refine I_ws (ws1 := [(h0, .inr (10, [.null, .null, .int 0])), (q7, aI G 40 zI)]) rfl ?_
  refine I_putF C (ci := 10) (v := .ref q7) kin_X7 rfl 0 rfl 0 (by decide) wf_X7_11 rfl tyX7 tyX7_ok nmX7 rfl rfl (ty := tyX7 0) (by decide +kernel) rfl rfl (Nat.le_of_ble_eq_true rfl) dX7_init_9 ?_
  refine I_ws (ws1 := [(h0, .inr (10, [.ref q7, .null, .int 0])), (q7, aI G 40 zI)]) rfl ?_
  refine I_aload_n C 0 rfl rfl dX7_init_12 ?_
  refine I_bipush C (v := 120) (by decide) dX7_init_13 ?_
  refine I_newI C (N := 120) (by decide) rfl (by decide) (by decide) (by decide) dX7_init_15 (fun q15 => ?_)
  refine I_ws (ws1 := [(h0, .inr (10, [.ref q7, .null, .int 0])), (q7, aI G 40 zI), (q15, aI G 120 zI)]) rfl ?_
  refine I_putF C (ci := 10) (v := .ref q15) kin_X7 rfl 0 rfl 1 (by decide) wf_X7_15 rfl tyX7 tyX7_ok nmX7 rfl rfl (ty := tyX7 1) (by decide +kernel) rfl rfl (Nat.le_of_ble_eq_true rfl) dX7_init_17 ?_
  refine I_ws (ws1 := [(h0, .inr (10, [.ref q7, .ref q15, .int 0])), (q7, aI G 40 zI), (q15, aI G 120 zI)]) rfl ?_
  exact I_ret C (fun k => match k with | 1 => q7 | 2 => q15 | _ => 0) rfl (by decide) (by decide) dX7_init_20
theorem wob_X1_3 : Cond.methodLink RX1 3 objectInit ∈ kGT := kgt (List.mem_of_getElem? (i := 362) (by decide +kernel)) rfl
def Y_X1 (G : kG) (h0 : Nat) (u : Nat → Nat) : va_W := [(h0, .inr (4, [.ref (u 1), .ref (u 2)])), ((u 1), aI G 42 zI), ((u 2), aI G 448 zI)]
set_option maxRecDepth 100000 in
set_option maxHeartbeats 4000000 in
theorem kim_X1_init (l : Launch) (G : kG) (st : Nat) : kIMet l G st yX1_init cX1_init 1 1 2 490 4 [.null, .null] (Y_X1 G) := by
  refine kIMet_of (own := RX1) (by decide) rfl rfl (by decide) ?_
  intro p e R s m args below meth c h0 C
  refine I_aload_n C 0 rfl rfl dX1_init_0 ?_
  refine I_obj C wob_X1_3 (by decide) (Nat.le_of_ble_eq_true rfl) dX1_init_1 ?_
  refine I_aload_n C 0 rfl rfl dX1_init_4 ?_
  refine I_bipush C (v := 42) (by decide) dX1_init_5 ?_
  refine I_newI C (N := 42) (by decide) rfl (by decide) (by decide) (by decide) dX1_init_7 (fun q7 => ?_)
  refine I_ws (ws1 := [(h0, .inr (4, [.null, .null])), (q7, aI G 42 zI)]) rfl ?_
  refine I_putF C (ci := 4) (v := .ref q7) kin_X1 rfl 0 rfl 0 (by decide) wf_X1_11 rfl tyX1 tyX1_ok nmX1 rfl rfl (ty := tyX1 0) (by decide +kernel) rfl rfl (Nat.le_of_ble_eq_true rfl) dX1_init_9 ?_
  refine I_ws (ws1 := [(h0, .inr (4, [.ref q7, .null])), (q7, aI G 42 zI)]) rfl ?_
  refine I_aload_n C 0 rfl rfl dX1_init_12 ?_
  refine I_sipush C (v := 448) (by decide) dX1_init_13 ?_
  refine I_newI C (N := 448) (by decide) rfl (by decide) (by decide) (by decide) dX1_init_16 (fun q16 => ?_)
  refine I_ws (ws1 := [(h0, .inr (4, [.ref q7, .null])), (q7, aI G 42 zI), (q16, aI G 448 zI)]) rfl ?_
  refine I_putF C (ci := 4) (v := .ref q16) kin_X1 rfl 0 rfl 1 (by decide) wf_X1_15 rfl tyX1 tyX1_ok nmX1 rfl rfl (ty := tyX1 1) (by decide +kernel) rfl rfl (Nat.le_of_ble_eq_true rfl) dX1_init_18 ?_
  refine I_ws (ws1 := [(h0, .inr (4, [.ref q7, .ref q16])), (q7, aI G 42 zI), (q16, aI G 448 zI)]) rfl ?_
  exact I_ret C (fun k => match k with | 1 => q7 | 2 => q16 | _ => 0) rfl (by decide) (by decide) dX1_init_21
theorem wob_X9_3 : Cond.methodLink RX9 3 objectInit ∈ kGT := kgt (List.mem_of_getElem? (i := 143) (by decide +kernel)) rfl
def Y_X9 (G : kG) (h0 : Nat) (u : Nat → Nat) : va_W := [(h0, .inr (12, [.ref (u 1), .ref (u 2), .ref (u 3), .ref (u 4), .ref (u 5)])), ((u 1), aI G 48 zI), ((u 2), aI G 48 zI), ((u 3), aI G 48 zI), ((u 4), aI G 8 zI), ((u 5), aI G 8 zI)]
set_option maxRecDepth 100000 in
set_option maxHeartbeats 4000000 in
theorem kim_X9_init (l : Launch) (G : kG) (st : Nat) : kIMet l G st yX9_init cX9_init 1 1 5 160 12 [.null, .null, .null, .null, .null] (Y_X9 G) := by
  refine kIMet_of (own := RX9) (by decide) rfl rfl (by decide) ?_
  intro p e R s m args below meth c h0 C
  refine I_aload_n C 0 rfl rfl dX9_init_0 ?_
  refine I_obj C wob_X9_3 (by decide) (Nat.le_of_ble_eq_true rfl) dX9_init_1 ?_
  refine I_aload_n C 0 rfl rfl dX9_init_4 ?_
  refine I_bipush C (v := 48) (by decide) dX9_init_5 ?_
  refine I_newI C (N := 48) (by decide) rfl (by decide) (by decide) (by decide) dX9_init_7 (fun q7 => ?_)
  refine I_ws (ws1 := [(h0, .inr (12, [.null, .null, .null, .null, .null])), (q7, aI G 48 zI)]) rfl ?_
  refine I_putF C (ci := 12) (v := .ref q7) kin_X9 rfl 0 rfl 0 (by decide) wf_X9_9 rfl tyX9 tyX9_ok nmX9 rfl rfl (ty := tyX9 0) (by decide +kernel) rfl rfl (Nat.le_of_ble_eq_true rfl) dX9_init_9 ?_
  refine I_ws (ws1 := [(h0, .inr (12, [.ref q7, .null, .null, .null, .null])), (q7, aI G 48 zI)]) rfl ?_
  refine I_aload_n C 0 rfl rfl dX9_init_12 ?_
  refine I_bipush C (v := 48) (by decide) dX9_init_13 ?_
  refine I_newI C (N := 48) (by decide) rfl (by decide) (by decide) (by decide) dX9_init_15 (fun q15 => ?_)
  refine I_ws (ws1 := [(h0, .inr (12, [.ref q7, .null, .null, .null, .null])), (q7, aI G 48 zI), (q15, aI G 48 zI)]) rfl ?_
  refine I_putF C (ci := 12) (v := .ref q15) kin_X9 rfl 0 rfl 1 (by decide) wf_X9_15 rfl tyX9 tyX9_ok nmX9 rfl rfl (ty := tyX9 1) (by decide +kernel) rfl rfl (Nat.le_of_ble_eq_true rfl) dX9_init_17 ?_
  refine I_ws (ws1 := [(h0, .inr (12, [.ref q7, .ref q15, .null, .null, .null])), (q7, aI G 48 zI), (q15, aI G 48 zI)]) rfl ?_
  refine I_aload_n C 0 rfl rfl dX9_init_20 ?_
  refine I_bipush C (v := 48) (by decide) dX9_init_21 ?_
  refine I_newI C (N := 48) (by decide) rfl (by decide) (by decide) (by decide) dX9_init_23 (fun q23 => ?_)
  refine I_ws (ws1 := [(h0, .inr (12, [.ref q7, .ref q15, .null, .null, .null])), (q7, aI G 48 zI), (q15, aI G 48 zI), (q23, aI G 48 zI)]) rfl ?_
  refine I_putF C (ci := 12) (v := .ref q23) kin_X9 rfl 0 rfl 2 (by decide) wf_X9_18 rfl tyX9 tyX9_ok nmX9 rfl rfl (ty := tyX9 2) (by decide +kernel) rfl rfl (Nat.le_of_ble_eq_true rfl) dX9_init_25 ?_
  refine I_ws (ws1 := [(h0, .inr (12, [.ref q7, .ref q15, .ref q23, .null, .null])), (q7, aI G 48 zI), (q15, aI G 48 zI), (q23, aI G 48 zI)]) rfl ?_
  refine I_aload_n C 0 rfl rfl dX9_init_28 ?_
  refine I_bipush C (v := 8) (by decide) dX9_init_29 ?_
  refine I_newI C (N := 8) (by decide) rfl (by decide) (by decide) (by decide) dX9_init_31 (fun q31 => ?_)
  refine I_ws (ws1 := [(h0, .inr (12, [.ref q7, .ref q15, .ref q23, .null, .null])), (q7, aI G 48 zI), (q15, aI G 48 zI), (q23, aI G 48 zI), (q31, aI G 8 zI)]) rfl ?_
  refine I_putF C (ci := 12) (v := .ref q31) kin_X9 rfl 0 rfl 3 (by decide) wf_X9_21 rfl tyX9 tyX9_ok nmX9 rfl rfl (ty := tyX9 3) (by decide +kernel) rfl rfl (Nat.le_of_ble_eq_true rfl) dX9_init_33 ?_
  refine I_ws (ws1 := [(h0, .inr (12, [.ref q7, .ref q15, .ref q23, .ref q31, .null])), (q7, aI G 48 zI), (q15, aI G 48 zI), (q23, aI G 48 zI), (q31, aI G 8 zI)]) rfl ?_
  refine I_aload_n C 0 rfl rfl dX9_init_36 ?_
  refine I_bipush C (v := 8) (by decide) dX9_init_37 ?_
  refine I_newI C (N := 8) (by decide) rfl (by decide) (by decide) (by decide) dX9_init_39 (fun q39 => ?_)
  refine I_ws (ws1 := [(h0, .inr (12, [.ref q7, .ref q15, .ref q23, .ref q31, .null])), (q7, aI G 48 zI), (q15, aI G 48 zI), (q23, aI G 48 zI), (q31, aI G 8 zI), (q39, aI G 8 zI)]) rfl ?_
  refine I_putF C (ci := 12) (v := .ref q39) kin_X9 rfl 0 rfl 4 (by decide) wf_X9_24 rfl tyX9 tyX9_ok nmX9 rfl rfl (ty := tyX9 4) (by decide +kernel) rfl rfl (Nat.le_of_ble_eq_true rfl) dX9_init_41 ?_
  refine I_ws (ws1 := [(h0, .inr (12, [.ref q7, .ref q15, .ref q23, .ref q31, .ref q39])), (q7, aI G 48 zI), (q15, aI G 48 zI), (q23, aI G 48 zI), (q31, aI G 8 zI), (q39, aI G 8 zI)]) rfl ?_
  exact I_ret C (fun k => match k with | 1 => q7 | 2 => q15 | 3 => q23 | 4 => q31 | 5 => q39 | _ => 0) rfl (by decide) (by decide) dX9_init_44
theorem wob_X6_3 : Cond.methodLink RX6 3 objectInit ∈ kGT := kgt (List.mem_of_getElem? (i := 172) (by decide +kernel)) rfl
def Y_X6 (G : kG) (h0 : Nat) (u : Nat → Nat) : va_W := [(h0, .inr (9, [.int 0, .ref (u 1), .ref (u 2), .ref (u 3), .ref (u 4), .ref (u 5), .ref (u 6)])), ((u 1), aI G 10 zI), ((u 2), aI G 10 zI), ((u 3), aI G 10 zI), ((u 4), aI G 10 zI), ((u 5), aI G 10 zI), ((u 6), aI G 10 zI)]
set_option maxRecDepth 100000 in
set_option maxHeartbeats 4000000 in
theorem kim_X6_init (l : Launch) (G : kG) (st : Nat) : kIMet l G st yX6_init cX6_init 1 1 6 60 9 [.int 0, .null, .null, .null, .null, .null, .null] (Y_X6 G) := by
  refine kIMet_of (own := RX6) (by decide) rfl rfl (by decide) ?_
  intro p e R s m args below meth c h0 C
  refine I_aload_n C 0 rfl rfl dX6_init_0 ?_
  refine I_obj C wob_X6_3 (by decide) (Nat.le_of_ble_eq_true rfl) dX6_init_1 ?_
  refine I_aload_n C 0 rfl rfl dX6_init_4 ?_
  refine I_bipush C (v := 10) (by decide) dX6_init_5 ?_
  refine I_newI C (N := 10) (by decide) rfl (by decide) (by decide) (by decide) dX6_init_7 (fun q7 => ?_)
  refine I_ws (ws1 := [(h0, .inr (9, [.int 0, .null, .null, .null, .null, .null, .null])), (q7, aI G 10 zI)]) rfl ?_
  refine I_putF C (ci := 9) (v := .ref q7) kin_X6 rfl 0 rfl 1 (by decide) wf_X6_9 rfl tyX6 tyX6_ok nmX6 rfl rfl (ty := tyX6 1) (by decide +kernel) rfl rfl (Nat.le_of_ble_eq_true rfl) dX6_init_9 ?_
  refine I_ws (ws1 := [(h0, .inr (9, [.int 0, .ref q7, .null, .null, .null, .null, .null])), (q7, aI G 10 zI)]) rfl ?_
  refine I_aload_n C 0 rfl rfl dX6_init_12 ?_
  refine I_bipush C (v := 10) (by decide) dX6_init_13 ?_
  refine I_newI C (N := 10) (by decide) rfl (by decide) (by decide) (by decide) dX6_init_15 (fun q15 => ?_)
  refine I_ws (ws1 := [(h0, .inr (9, [.int 0, .ref q7, .null, .null, .null, .null, .null])), (q7, aI G 10 zI), (q15, aI G 10 zI)]) rfl ?_
  refine I_putF C (ci := 9) (v := .ref q15) kin_X6 rfl 0 rfl 2 (by decide) wf_X6_15 rfl tyX6 tyX6_ok nmX6 rfl rfl (ty := tyX6 2) (by decide +kernel) rfl rfl (Nat.le_of_ble_eq_true rfl) dX6_init_17 ?_
  refine I_ws (ws1 := [(h0, .inr (9, [.int 0, .ref q7, .ref q15, .null, .null, .null, .null])), (q7, aI G 10 zI), (q15, aI G 10 zI)]) rfl ?_
  refine I_aload_n C 0 rfl rfl dX6_init_20 ?_
  refine I_bipush C (v := 10) (by decide) dX6_init_21 ?_
  refine I_newI C (N := 10) (by decide) rfl (by decide) (by decide) (by decide) dX6_init_23 (fun q23 => ?_)
  refine I_ws (ws1 := [(h0, .inr (9, [.int 0, .ref q7, .ref q15, .null, .null, .null, .null])), (q7, aI G 10 zI), (q15, aI G 10 zI), (q23, aI G 10 zI)]) rfl ?_
  refine I_putF C (ci := 9) (v := .ref q23) kin_X6 rfl 0 rfl 3 (by decide) wf_X6_18 rfl tyX6 tyX6_ok nmX6 rfl rfl (ty := tyX6 3) (by decide +kernel) rfl rfl (Nat.le_of_ble_eq_true rfl) dX6_init_25 ?_
  refine I_ws (ws1 := [(h0, .inr (9, [.int 0, .ref q7, .ref q15, .ref q23, .null, .null, .null])), (q7, aI G 10 zI), (q15, aI G 10 zI), (q23, aI G 10 zI)]) rfl ?_
  refine I_aload_n C 0 rfl rfl dX6_init_28 ?_
  refine I_bipush C (v := 10) (by decide) dX6_init_29 ?_
  refine I_newI C (N := 10) (by decide) rfl (by decide) (by decide) (by decide) dX6_init_31 (fun q31 => ?_)
  refine I_ws (ws1 := [(h0, .inr (9, [.int 0, .ref q7, .ref q15, .ref q23, .null, .null, .null])), (q7, aI G 10 zI), (q15, aI G 10 zI), (q23, aI G 10 zI), (q31, aI G 10 zI)]) rfl ?_
  refine I_putF C (ci := 9) (v := .ref q31) kin_X6 rfl 0 rfl 4 (by decide) wf_X6_21 rfl tyX6 tyX6_ok nmX6 rfl rfl (ty := tyX6 4) (by decide +kernel) rfl rfl (Nat.le_of_ble_eq_true rfl) dX6_init_33 ?_
  refine I_ws (ws1 := [(h0, .inr (9, [.int 0, .ref q7, .ref q15, .ref q23, .ref q31, .null, .null])), (q7, aI G 10 zI), (q15, aI G 10 zI), (q23, aI G 10 zI), (q31, aI G 10 zI)]) rfl ?_
  refine I_aload_n C 0 rfl rfl dX6_init_36 ?_
  refine I_bipush C (v := 10) (by decide) dX6_init_37 ?_
  refine I_newI C (N := 10) (by decide) rfl (by decide) (by decide) (by decide) dX6_init_39 (fun q39 => ?_)
  refine I_ws (ws1 := [(h0, .inr (9, [.int 0, .ref q7, .ref q15, .ref q23, .ref q31, .null, .null])), (q7, aI G 10 zI), (q15, aI G 10 zI), (q23, aI G 10 zI), (q31, aI G 10 zI), (q39, aI G 10 zI)]) rfl ?_
  refine I_putF C (ci := 9) (v := .ref q39) kin_X6 rfl 0 rfl 5 (by decide) wf_X6_24 rfl tyX6 tyX6_ok nmX6 rfl rfl (ty := tyX6 5) (by decide +kernel) rfl rfl (Nat.le_of_ble_eq_true rfl) dX6_init_41 ?_
  refine I_ws (ws1 := [(h0, .inr (9, [.int 0, .ref q7, .ref q15, .ref q23, .ref q31, .ref q39, .null])), (q7, aI G 10 zI), (q15, aI G 10 zI), (q23, aI G 10 zI), (q31, aI G 10 zI), (q39, aI G 10 zI)]) rfl ?_
  refine I_aload_n C 0 rfl rfl dX6_init_44 ?_
  refine I_bipush C (v := 10) (by decide) dX6_init_45 ?_
  refine I_newI C (N := 10) (by decide) rfl (by decide) (by decide) (by decide) dX6_init_47 (fun q47 => ?_)
  refine I_ws (ws1 := [(h0, .inr (9, [.int 0, .ref q7, .ref q15, .ref q23, .ref q31, .ref q39, .null])), (q7, aI G 10 zI), (q15, aI G 10 zI), (q23, aI G 10 zI), (q31, aI G 10 zI), (q39, aI G 10 zI), (q47, aI G 10 zI)]) rfl ?_
  refine I_putF C (ci := 9) (v := .ref q47) kin_X6 rfl 0 rfl 6 (by decide) wf_X6_27 rfl tyX6 tyX6_ok nmX6 rfl rfl (ty := tyX6 6) (by decide +kernel) rfl rfl (Nat.le_of_ble_eq_true rfl) dX6_init_49 ?_
  refine I_ws (ws1 := [(h0, .inr (9, [.int 0, .ref q7, .ref q15, .ref q23, .ref q31, .ref q39, .ref q47])), (q7, aI G 10 zI), (q15, aI G 10 zI), (q23, aI G 10 zI), (q31, aI G 10 zI), (q39, aI G 10 zI), (q47, aI G 10 zI)]) rfl ?_
  exact I_ret C (fun k => match k with | 1 => q7 | 2 => q15 | 3 => q23 | 4 => q31 | 5 => q39 | 6 => q47 | _ => 0) rfl (by decide) (by decide) dX6_init_52
theorem wob_X2_3 : Cond.methodLink RX2 3 objectInit ∈ kGT := kgt (List.mem_of_getElem? (i := 123) (by decide +kernel)) rfl
def Y_X2 (G : kG) (h0 : Nat) (u : Nat → Nat) : va_W := [(h0, .inr (5, [.ref (u 1), .ref (u 2), .ref (u 3)])), ((u 1), aI G 3 (upd (upd (upd zI 0 (-1)) 1 (-1)) 2 (-1))), ((u 2), aI G 3 zI), ((u 3), aI G 3 zI)]
set_option maxRecDepth 100000 in
set_option maxHeartbeats 4000000 in
theorem kim_X2_init (l : Launch) (G : kG) (st : Nat) : kIMet l G st yX2_init cX2_init 1 1 3 9 5 [.null, .null, .null] (Y_X2 G) := by
  refine kIMet_of (own := RX2) (by decide) rfl rfl (by decide) ?_
  intro p e R s m args below meth c h0 C
  refine I_aload_n C 0 rfl rfl dX2_init_0 ?_
  refine I_obj C wob_X2_3 (by decide) (Nat.le_of_ble_eq_true rfl) dX2_init_1 ?_
  refine I_aload_n C 0 rfl rfl dX2_init_4 ?_
  refine I_iconst C (v := 3) (by decide) dX2_init_5 ?_
  refine I_newI C (N := 3) (by decide) rfl (by decide) (by decide) (by decide) dX2_init_6 (fun q6 => ?_)
  refine I_ws (ws1 := [(h0, .inr (5, [.null, .null, .null])), (q6, aI G 3 zI)]) rfl ?_
  refine I_dup C rfl dX2_init_8 ?_
  refine I_iconst C (v := 0) (by decide) dX2_init_9 ?_
  refine I_iconst C (v := (-1)) (by decide) dX2_init_10 ?_
  refine I_iast C 1 rfl (kin_in (by decide)) 0 (by decide) dX2_init_11 ?_
  refine I_ws (ws1 := [(h0, .inr (5, [.null, .null, .null])), (q6, aI G 3 (upd zI 0 (-1)))]) rfl ?_
  refine I_dup C rfl dX2_init_12 ?_
  refine I_iconst C (v := 1) (by decide) dX2_init_13 ?_
  refine I_iconst C (v := (-1)) (by decide) dX2_init_14 ?_
  refine I_iast C 1 rfl (kin_in (by decide)) 1 (by decide) dX2_init_15 ?_
  refine I_ws (ws1 := [(h0, .inr (5, [.null, .null, .null])), (q6, aI G 3 (upd (upd zI 0 (-1)) 1 (-1)))]) rfl ?_
  refine I_dup C rfl dX2_init_16 ?_
  refine I_iconst C (v := 2) (by decide) dX2_init_17 ?_
  refine I_iconst C (v := (-1)) (by decide) dX2_init_18 ?_
  refine I_iast C 1 rfl (kin_in (by decide)) 2 (by decide) dX2_init_19 ?_
  refine I_ws (ws1 := [(h0, .inr (5, [.null, .null, .null])), (q6, aI G 3 (upd (upd (upd zI 0 (-1)) 1 (-1)) 2 (-1)))]) rfl ?_
  refine I_putF C (ci := 5) (v := .ref q6) kin_X2 rfl 0 rfl 0 (by decide) wf_X2_9 rfl tyX2 tyX2_ok nmX2 rfl rfl (ty := tyX2 0) (by decide +kernel) rfl rfl (Nat.le_of_ble_eq_true rfl) dX2_init_20 ?_
  refine I_ws (ws1 := [(h0, .inr (5, [.ref q6, .null, .null])), (q6, aI G 3 (upd (upd (upd zI 0 (-1)) 1 (-1)) 2 (-1)))]) rfl ?_
  refine I_aload_n C 0 rfl rfl dX2_init_23 ?_
  refine I_iconst C (v := 3) (by decide) dX2_init_24 ?_
  refine I_newI C (N := 3) (by decide) rfl (by decide) (by decide) (by decide) dX2_init_25 (fun q25 => ?_)
  refine I_ws (ws1 := [(h0, .inr (5, [.ref q6, .null, .null])), (q6, aI G 3 (upd (upd (upd zI 0 (-1)) 1 (-1)) 2 (-1))), (q25, aI G 3 zI)]) rfl ?_
  refine I_putF C (ci := 5) (v := .ref q25) kin_X2 rfl 0 rfl 1 (by decide) wf_X2_15 rfl tyX2 tyX2_ok nmX2 rfl rfl (ty := tyX2 1) (by decide +kernel) rfl rfl (Nat.le_of_ble_eq_true rfl) dX2_init_27 ?_
  refine I_ws (ws1 := [(h0, .inr (5, [.ref q6, .ref q25, .null])), (q6, aI G 3 (upd (upd (upd zI 0 (-1)) 1 (-1)) 2 (-1))), (q25, aI G 3 zI)]) rfl ?_
  refine I_aload_n C 0 rfl rfl dX2_init_30 ?_
  refine I_iconst C (v := 3) (by decide) dX2_init_31 ?_
  refine I_newI C (N := 3) (by decide) rfl (by decide) (by decide) (by decide) dX2_init_32 (fun q32 => ?_)
  refine I_ws (ws1 := [(h0, .inr (5, [.ref q6, .ref q25, .null])), (q6, aI G 3 (upd (upd (upd zI 0 (-1)) 1 (-1)) 2 (-1))), (q25, aI G 3 zI), (q32, aI G 3 zI)]) rfl ?_
  refine I_putF C (ci := 5) (v := .ref q32) kin_X2 rfl 0 rfl 2 (by decide) wf_X2_18 rfl tyX2 tyX2_ok nmX2 rfl rfl (ty := tyX2 2) (by decide +kernel) rfl rfl (Nat.le_of_ble_eq_true rfl) dX2_init_34 ?_
  refine I_ws (ws1 := [(h0, .inr (5, [.ref q6, .ref q25, .ref q32])), (q6, aI G 3 (upd (upd (upd zI 0 (-1)) 1 (-1)) 2 (-1))), (q25, aI G 3 zI), (q32, aI G 3 zI)]) rfl ?_
  exact I_ret C (fun k => match k with | 1 => q6 | 2 => q25 | 3 => q32 | _ => 0) rfl (by decide) (by decide) dX2_init_37
theorem wob_X0_3 : Cond.methodLink RX0 3 objectInit ∈ kGT := kgt (List.mem_of_getElem? (i := 76) (by decide +kernel)) rfl
def Y_X0 (G : kG) (h0 : Nat) (u : Nat → Nat) : va_W := [(h0, .inr (3, [.int 0, .int 0, .int 0, .ref (u 1), .ref (u 2), .ref (u 3), .ref (u 4), .ref (u 5), .ref (u 6)])), ((u 1), aI G 6 zI), ((u 2), aI G 8 zI), ((u 3), aI G 6 zI), ((u 4), aI G 6 zI), ((u 5), aI G 48 zI), ((u 6), aI G 4 (upd (upd (upd (upd zI 0 480) 1 60) 2 2) 3 10))]
set_option maxRecDepth 100000 in
set_option maxHeartbeats 4000000 in
theorem kim_X0_init (l : Launch) (G : kG) (st : Nat) : kIMet l G st yX0_init cX0_init 1 1 6 78 3 [.int 0, .int 0, .int 0, .null, .null, .null, .null, .null, .null] (Y_X0 G) := by
  refine kIMet_of (own := RX0) (by decide) rfl rfl (by decide) ?_
  intro p e R s m args below meth c h0 C
  refine I_aload_n C 0 rfl rfl dX0_init_0 ?_
  refine I_obj C wob_X0_3 (by decide) (Nat.le_of_ble_eq_true rfl) dX0_init_1 ?_
  refine I_aload_n C 0 rfl rfl dX0_init_4 ?_
  refine I_bipush C (v := 6) (by decide) dX0_init_5 ?_
  refine I_newI C (N := 6) (by decide) rfl (by decide) (by decide) (by decide) dX0_init_7 (fun q7 => ?_)
  refine I_ws (ws1 := [(h0, .inr (3, [.int 0, .int 0, .int 0, .null, .null, .null, .null, .null, .null])), (q7, aI G 6 zI)]) rfl ?_
  refine I_putF C (ci := 3) (v := .ref q7) kin_X0 rfl 0 rfl 3 (by decide) wf_X0_9 rfl tyX0 tyX0_ok nmX0 rfl rfl (ty := tyX0 3) (by decide +kernel) rfl rfl (Nat.le_of_ble_eq_true rfl) dX0_init_9 ?_
  refine I_ws (ws1 := [(h0, .inr (3, [.int 0, .int 0, .int 0, .ref q7, .null, .null, .null, .null, .null])), (q7, aI G 6 zI)]) rfl ?_
  refine I_aload_n C 0 rfl rfl dX0_init_12 ?_
  refine I_bipush C (v := 8) (by decide) dX0_init_13 ?_
  refine I_newI C (N := 8) (by decide) rfl (by decide) (by decide) (by decide) dX0_init_15 (fun q15 => ?_)
  refine I_ws (ws1 := [(h0, .inr (3, [.int 0, .int 0, .int 0, .ref q7, .null, .null, .null, .null, .null])), (q7, aI G 6 zI), (q15, aI G 8 zI)]) rfl ?_
  refine I_putF C (ci := 3) (v := .ref q15) kin_X0 rfl 0 rfl 4 (by decide) wf_X0_15 rfl tyX0 tyX0_ok nmX0 rfl rfl (ty := tyX0 4) (by decide +kernel) rfl rfl (Nat.le_of_ble_eq_true rfl) dX0_init_17 ?_
  refine I_ws (ws1 := [(h0, .inr (3, [.int 0, .int 0, .int 0, .ref q7, .ref q15, .null, .null, .null, .null])), (q7, aI G 6 zI), (q15, aI G 8 zI)]) rfl ?_
  refine I_aload_n C 0 rfl rfl dX0_init_20 ?_
  refine I_bipush C (v := 6) (by decide) dX0_init_21 ?_
  refine I_newI C (N := 6) (by decide) rfl (by decide) (by decide) (by decide) dX0_init_23 (fun q23 => ?_)
  refine I_ws (ws1 := [(h0, .inr (3, [.int 0, .int 0, .int 0, .ref q7, .ref q15, .null, .null, .null, .null])), (q7, aI G 6 zI), (q15, aI G 8 zI), (q23, aI G 6 zI)]) rfl ?_
  refine I_putF C (ci := 3) (v := .ref q23) kin_X0 rfl 0 rfl 5 (by decide) wf_X0_18 rfl tyX0 tyX0_ok nmX0 rfl rfl (ty := tyX0 5) (by decide +kernel) rfl rfl (Nat.le_of_ble_eq_true rfl) dX0_init_25 ?_
  refine I_ws (ws1 := [(h0, .inr (3, [.int 0, .int 0, .int 0, .ref q7, .ref q15, .ref q23, .null, .null, .null])), (q7, aI G 6 zI), (q15, aI G 8 zI), (q23, aI G 6 zI)]) rfl ?_
  refine I_aload_n C 0 rfl rfl dX0_init_28 ?_
  refine I_bipush C (v := 6) (by decide) dX0_init_29 ?_
  refine I_newI C (N := 6) (by decide) rfl (by decide) (by decide) (by decide) dX0_init_31 (fun q31 => ?_)
  refine I_ws (ws1 := [(h0, .inr (3, [.int 0, .int 0, .int 0, .ref q7, .ref q15, .ref q23, .null, .null, .null])), (q7, aI G 6 zI), (q15, aI G 8 zI), (q23, aI G 6 zI), (q31, aI G 6 zI)]) rfl ?_
  refine I_putF C (ci := 3) (v := .ref q31) kin_X0 rfl 0 rfl 6 (by decide) wf_X0_21 rfl tyX0 tyX0_ok nmX0 rfl rfl (ty := tyX0 6) (by decide +kernel) rfl rfl (Nat.le_of_ble_eq_true rfl) dX0_init_33 ?_
  refine I_ws (ws1 := [(h0, .inr (3, [.int 0, .int 0, .int 0, .ref q7, .ref q15, .ref q23, .ref q31, .null, .null])), (q7, aI G 6 zI), (q15, aI G 8 zI), (q23, aI G 6 zI), (q31, aI G 6 zI)]) rfl ?_
  refine I_aload_n C 0 rfl rfl dX0_init_36 ?_
  refine I_bipush C (v := 48) (by decide) dX0_init_37 ?_
  refine I_newI C (N := 48) (by decide) rfl (by decide) (by decide) (by decide) dX0_init_39 (fun q39 => ?_)
  refine I_ws (ws1 := [(h0, .inr (3, [.int 0, .int 0, .int 0, .ref q7, .ref q15, .ref q23, .ref q31, .null, .null])), (q7, aI G 6 zI), (q15, aI G 8 zI), (q23, aI G 6 zI), (q31, aI G 6 zI), (q39, aI G 48 zI)]) rfl ?_
  refine I_putF C (ci := 3) (v := .ref q39) kin_X0 rfl 0 rfl 7 (by decide) wf_X0_24 rfl tyX0 tyX0_ok nmX0 rfl rfl (ty := tyX0 7) (by decide +kernel) rfl rfl (Nat.le_of_ble_eq_true rfl) dX0_init_41 ?_
  refine I_ws (ws1 := [(h0, .inr (3, [.int 0, .int 0, .int 0, .ref q7, .ref q15, .ref q23, .ref q31, .ref q39, .null])), (q7, aI G 6 zI), (q15, aI G 8 zI), (q23, aI G 6 zI), (q31, aI G 6 zI), (q39, aI G 48 zI)]) rfl ?_
  refine I_aload_n C 0 rfl rfl dX0_init_44 ?_
  refine I_iconst C (v := 4) (by decide) dX0_init_45 ?_
  refine I_newI C (N := 4) (by decide) rfl (by decide) (by decide) (by decide) dX0_init_46 (fun q46 => ?_)
  refine I_ws (ws1 := [(h0, .inr (3, [.int 0, .int 0, .int 0, .ref q7, .ref q15, .ref q23, .ref q31, .ref q39, .null])), (q7, aI G 6 zI), (q15, aI G 8 zI), (q23, aI G 6 zI), (q31, aI G 6 zI), (q39, aI G 48 zI), (q46, aI G 4 zI)]) rfl ?_
  refine I_dup C rfl dX0_init_48 ?_
  refine I_iconst C (v := 0) (by decide) dX0_init_49 ?_
  refine I_sipush C (v := 480) (by decide) dX0_init_50 ?_
  refine I_iast C 6 rfl (kin_in (by decide)) 0 (by decide) dX0_init_53 ?_
  refine I_ws (ws1 := [(h0, .inr (3, [.int 0, .int 0, .int 0, .ref q7, .ref q15, .ref q23, .ref q31, .ref q39, .null])), (q7, aI G 6 zI), (q15, aI G 8 zI), (q23, aI G 6 zI), (q31, aI G 6 zI), (q39, aI G 48 zI), (q46, aI G 4 (upd zI 0 480))]) rfl ?_
  refine I_dup C rfl dX0_init_54 ?_
  refine I_iconst C (v := 1) (by decide) dX0_init_55 ?_
  refine I_bipush C (v := 60) (by decide) dX0_init_56 ?_
  refine I_iast C 6 rfl (kin_in (by decide)) 1 (by decide) dX0_init_58 ?_
  refine I_ws (ws1 := [(h0, .inr (3, [.int 0, .int 0, .int 0, .ref q7, .ref q15, .ref q23, .ref q31, .ref q39, .null])), (q7, aI G 6 zI), (q15, aI G 8 zI), (q23, aI G 6 zI), (q31, aI G 6 zI), (q39, aI G 48 zI), (q46, aI G 4 (upd (upd zI 0 480) 1 60))]) rfl ?_
  refine I_dup C rfl dX0_init_59 ?_
  refine I_iconst C (v := 2) (by decide) dX0_init_60 ?_
  refine I_iconst C (v := 2) (by decide) dX0_init_61 ?_
  refine I_iast C 6 rfl (kin_in (by decide)) 2 (by decide) dX0_init_62 ?_
  refine I_ws (ws1 := [(h0, .inr (3, [.int 0, .int 0, .int 0, .ref q7, .ref q15, .ref q23, .ref q31, .ref q39, .null])), (q7, aI G 6 zI), (q15, aI G 8 zI), (q23, aI G 6 zI), (q31, aI G 6 zI), (q39, aI G 48 zI), (q46, aI G 4 (upd (upd (upd zI 0 480) 1 60) 2 2))]) rfl ?_
  refine I_dup C rfl dX0_init_63 ?_
  refine I_iconst C (v := 3) (by decide) dX0_init_64 ?_
  refine I_bipush C (v := 10) (by decide) dX0_init_65 ?_
  refine I_iast C 6 rfl (kin_in (by decide)) 3 (by decide) dX0_init_67 ?_
  refine I_ws (ws1 := [(h0, .inr (3, [.int 0, .int 0, .int 0, .ref q7, .ref q15, .ref q23, .ref q31, .ref q39, .null])), (q7, aI G 6 zI), (q15, aI G 8 zI), (q23, aI G 6 zI), (q31, aI G 6 zI), (q39, aI G 48 zI), (q46, aI G 4 (upd (upd (upd (upd zI 0 480) 1 60) 2 2) 3 10))]) rfl ?_
  refine I_putF C (ci := 3) (v := .ref q46) kin_X0 rfl 0 rfl 8 (by decide) wf_X0_27 rfl tyX0 tyX0_ok nmX0 rfl rfl (ty := tyX0 8) (by decide +kernel) rfl rfl (Nat.le_of_ble_eq_true rfl) dX0_init_68 ?_
  refine I_ws (ws1 := [(h0, .inr (3, [.int 0, .int 0, .int 0, .ref q7, .ref q15, .ref q23, .ref q31, .ref q39, .ref q46])), (q7, aI G 6 zI), (q15, aI G 8 zI), (q23, aI G 6 zI), (q31, aI G 6 zI), (q39, aI G 48 zI), (q46, aI G 4 (upd (upd (upd (upd zI 0 480) 1 60) 2 2) 3 10))]) rfl ?_
  exact I_ret C (fun k => match k with | 1 => q7 | 2 => q15 | 3 => q23 | 4 => q31 | 5 => q39 | 6 => q46 | _ => 0) rfl (by decide) (by decide) dX0_init_71
theorem wob_X4_3 : Cond.methodLink RX4 3 objectInit ∈ kGT := kgt (List.mem_of_getElem? (i := 70) (by decide +kernel)) rfl
theorem wcl_X4_9 : Cond.classLink RX4 9 RX0 ∈ kGT := kgt (List.mem_of_getElem? (i := 71) (by decide +kernel)) rfl
theorem wins_X0 : Cond.instantiable RX0 9 ∈ kGT := kgt (List.mem_of_getElem? (i := 72) (by decide +kernel)) rfl
theorem wini_X0 : Cond.initialized RX0 ∈ kGT := kgt (List.mem_of_getElem? (i := 23) (by decide +kernel)) rfl
theorem wim_X0_init : Cond.instanceMethod yX0_init ∈ kGT := kgt (List.mem_of_getElem? (i := 74) (by decide +kernel)) rfl
theorem kyi_X0_init : kY yX0_init cX0_init 1 none 0 := ⟨kgt (List.mem_of_getElem? (i := 75) (by decide +kernel)) rfl, kgt (List.mem_of_getElem? (i := 23) (by decide +kernel)) rfl, by decide +kernel, by decide⟩
theorem wcl_X4_18 : Cond.classLink RX4 18 RX2 ∈ kGT := kgt (List.mem_of_getElem? (i := 118) (by decide +kernel)) rfl
theorem wins_X2 : Cond.instantiable RX2 3 ∈ kGT := kgt (List.mem_of_getElem? (i := 119) (by decide +kernel)) rfl
theorem wini_X2 : Cond.initialized RX2 ∈ kGT := kgt (List.mem_of_getElem? (i := 24) (by decide +kernel)) rfl
theorem wim_X2_init : Cond.instanceMethod yX2_init ∈ kGT := kgt (List.mem_of_getElem? (i := 121) (by decide +kernel)) rfl
theorem kyi_X2_init : kY yX2_init cX2_init 1 none 0 := ⟨kgt (List.mem_of_getElem? (i := 122) (by decide +kernel)) rfl, kgt (List.mem_of_getElem? (i := 24) (by decide +kernel)) rfl, by decide +kernel, by decide⟩
theorem wcl_X4_25 : Cond.classLink RX4 25 RX9 ∈ kGT := kgt (List.mem_of_getElem? (i := 138) (by decide +kernel)) rfl
theorem wins_X9 : Cond.instantiable RX9 5 ∈ kGT := kgt (List.mem_of_getElem? (i := 139) (by decide +kernel)) rfl
theorem wini_X9 : Cond.initialized RX9 ∈ kGT := kgt (List.mem_of_getElem? (i := 25) (by decide +kernel)) rfl
theorem wim_X9_init : Cond.instanceMethod yX9_init ∈ kGT := kgt (List.mem_of_getElem? (i := 141) (by decide +kernel)) rfl
theorem kyi_X9_init : kY yX9_init cX9_init 1 none 0 := ⟨kgt (List.mem_of_getElem? (i := 142) (by decide +kernel)) rfl, kgt (List.mem_of_getElem? (i := 25) (by decide +kernel)) rfl, by decide +kernel, by decide⟩
theorem wcl_X4_32 : Cond.classLink RX4 32 RX6 ∈ kGT := kgt (List.mem_of_getElem? (i := 167) (by decide +kernel)) rfl
theorem wins_X6 : Cond.instantiable RX6 7 ∈ kGT := kgt (List.mem_of_getElem? (i := 168) (by decide +kernel)) rfl
theorem wini_X6 : Cond.initialized RX6 ∈ kGT := kgt (List.mem_of_getElem? (i := 26) (by decide +kernel)) rfl
theorem wim_X6_init : Cond.instanceMethod yX6_init ∈ kGT := kgt (List.mem_of_getElem? (i := 170) (by decide +kernel)) rfl
theorem kyi_X6_init : kY yX6_init cX6_init 1 none 0 := ⟨kgt (List.mem_of_getElem? (i := 171) (by decide +kernel)) rfl, kgt (List.mem_of_getElem? (i := 26) (by decide +kernel)) rfl, by decide +kernel, by decide⟩
def Y_X4 (G : kG) (h0 : Nat) (u : Nat → Nat) : va_W := [(h0, .inr (7, [.ref (u 1), .ref (u 8), .ref (u 12), .ref (u 18), .int 0, .int 0, .int 0, .int (-1), .int (-1), .int 0, .int 0, .int 0])), ((u 1), .inr (3, [.int 0, .int 0, .int 0, .ref (u 2), .ref (u 3), .ref (u 4), .ref (u 5), .ref (u 6), .ref (u 7)])), ((u 2), aI G 6 zI), ((u 3), aI G 8 zI), ((u 4), aI G 6 zI), ((u 5), aI G 6 zI), ((u 6), aI G 48 zI), ((u 7), aI G 4 (upd (upd (upd (upd zI 0 480) 1 60) 2 2) 3 10)), ((u 8), .inr (5, [.ref (u 9), .ref (u 10), .ref (u 11)])), ((u 9), aI G 3 (upd (upd (upd zI 0 (-1)) 1 (-1)) 2 (-1))), ((u 10), aI G 3 zI), ((u 11), aI G 3 zI), ((u 12), .inr (12, [.ref (u 13), .ref (u 14), .ref (u 15), .ref (u 16), .ref (u 17)])), ((u 13), aI G 48 zI), ((u 14), aI G 48 zI), ((u 15), aI G 48 zI), ((u 16), aI G 8 zI), ((u 17), aI G 8 zI), ((u 18), .inr (9, [.int 0, .ref (u 19), .ref (u 20), .ref (u 21), .ref (u 22), .ref (u 23), .ref (u 24)])), ((u 19), aI G 10 zI), ((u 20), aI G 10 zI), ((u 21), aI G 10 zI), ((u 22), aI G 10 zI), ((u 23), aI G 10 zI), ((u 24), aI G 10 zI)]
set_option maxRecDepth 100000 in
set_option maxHeartbeats 4000000 in
theorem kim_X4_init (l : Launch) (G : kG) (st : Nat) : kIMet l G st yX4_init cX4_init 1 2 24 331 7 [.null, .null, .null, .null, .int 0, .int 0, .int 0, .int 0, .int 0, .int 0, .int 0, .int 0] (Y_X4 G) := by
  refine kIMet_of (own := RX4) (by decide) rfl rfl (by decide) ?_
  intro p e R s m args below meth c h0 C
  refine I_aload_n C 0 rfl rfl dX4_init_0 ?_
  refine I_obj C wob_X4_3 (by decide) (Nat.le_of_ble_eq_true rfl) dX4_init_1 ?_
  refine I_aload_n C 0 rfl rfl dX4_init_4 ?_
  refine I_new C (ci := 3) (fs := [.int 0, .int 0, .int 0, .null, .null, .null, .null, .null, .null]) kin_X0 tyX0 tyX0_ok wcl_X4_9 wins_X0 wini_X0 rfl (fun j hj => by rcases (show j = 0 ∨ j = 1 ∨ j = 2 ∨ j = 3 ∨ j = 4 ∨ j = 5 ∨ j = 6 ∨ j = 7 ∨ j = 8 by omega) with rfl | rfl | rfl | rfl | rfl | rfl | rfl | rfl | rfl <;> rfl) (by decide) (by decide) dX4_init_5 (fun q5 => ?_)
  refine I_dup C rfl dX4_init_8 ?_
  refine I_call C (X := _) (kim_X0_init l G st) rfl kyi_X0_init rfl wim_X0_init (Or.inr (by decide +kernel)) (by decide) (by decide) (by decide) (Nat.le_of_ble_eq_true rfl) dX4_init_9 (fun u0 => ?_)
  refine I_putF C (ci := 7) (v := .ref q5) kin_X4 rfl 0 rfl 0 (by decide) wf_X4_12 rfl tyX4 tyX4_ok nmX4 rfl rfl (ty := tyX4 0) (by decide +kernel) rfl rfl (Nat.le_of_ble_eq_true rfl) dX4_init_12 ?_
  refine I_ws (ws1 := [(h0, .inr (7, [.ref q5, .null, .null, .null, .int 0, .int 0, .int 0, .int 0, .int 0, .int 0, .int 0, .int 0]))] ++ (Y_X0 G q5 u0)) rfl ?_
  refine I_aload_n C 0 rfl rfl dX4_init_15 ?_
  refine I_new C (ci := 5) (fs := [.null, .null, .null]) kin_X2 tyX2 tyX2_ok wcl_X4_18 wins_X2 wini_X2 rfl (fun j hj => by rcases (show j = 0 ∨ j = 1 ∨ j = 2 by omega) with rfl | rfl | rfl <;> rfl) (by decide) (by decide) dX4_init_16 (fun q16 => ?_)
  refine I_dup C rfl dX4_init_19 ?_
  refine I_call C (X := _) (kim_X2_init l G st) rfl kyi_X2_init rfl wim_X2_init (Or.inr (by decide +kernel)) (by decide) (by decide) (by decide) (Nat.le_of_ble_eq_true rfl) dX4_init_20 (fun u1 => ?_)
  refine I_putF C (ci := 7) (v := .ref q16) kin_X4 rfl 0 rfl 1 (by decide) wf_X4_21 rfl tyX4 tyX4_ok nmX4 rfl rfl (ty := tyX4 1) (by decide +kernel) rfl rfl (Nat.le_of_ble_eq_true rfl) dX4_init_23 ?_
  refine I_ws (ws1 := [(h0, .inr (7, [.ref q5, .ref q16, .null, .null, .int 0, .int 0, .int 0, .int 0, .int 0, .int 0, .int 0, .int 0]))] ++ (Y_X0 G q5 u0) ++ (Y_X2 G q16 u1)) rfl ?_
  refine I_aload_n C 0 rfl rfl dX4_init_26 ?_
  refine I_new C (ci := 12) (fs := [.null, .null, .null, .null, .null]) kin_X9 tyX9 tyX9_ok wcl_X4_25 wins_X9 wini_X9 rfl (fun j hj => by rcases (show j = 0 ∨ j = 1 ∨ j = 2 ∨ j = 3 ∨ j = 4 by omega) with rfl | rfl | rfl | rfl | rfl <;> rfl) (by decide) (by decide) dX4_init_27 (fun q27 => ?_)
  refine I_dup C rfl dX4_init_30 ?_
  refine I_call C (X := _) (kim_X9_init l G st) rfl kyi_X9_init rfl wim_X9_init (Or.inr (by decide +kernel)) (by decide) (by decide) (by decide) (Nat.le_of_ble_eq_true rfl) dX4_init_31 (fun u2 => ?_)
  refine I_putF C (ci := 7) (v := .ref q27) kin_X4 rfl 0 rfl 2 (by decide) wf_X4_28 rfl tyX4 tyX4_ok nmX4 rfl rfl (ty := tyX4 2) (by decide +kernel) rfl rfl (Nat.le_of_ble_eq_true rfl) dX4_init_34 ?_
  refine I_ws (ws1 := [(h0, .inr (7, [.ref q5, .ref q16, .ref q27, .null, .int 0, .int 0, .int 0, .int 0, .int 0, .int 0, .int 0, .int 0]))] ++ (Y_X0 G q5 u0) ++ (Y_X2 G q16 u1) ++ (Y_X9 G q27 u2)) rfl ?_
  refine I_aload_n C 0 rfl rfl dX4_init_37 ?_
  refine I_new C (ci := 9) (fs := [.int 0, .null, .null, .null, .null, .null, .null]) kin_X6 tyX6 tyX6_ok wcl_X4_32 wins_X6 wini_X6 rfl (fun j hj => by rcases (show j = 0 ∨ j = 1 ∨ j = 2 ∨ j = 3 ∨ j = 4 ∨ j = 5 ∨ j = 6 by omega) with rfl | rfl | rfl | rfl | rfl | rfl | rfl <;> rfl) (by decide) (by decide) dX4_init_38 (fun q38 => ?_)
  refine I_dup C rfl dX4_init_41 ?_
  refine I_call C (X := _) (kim_X6_init l G st) rfl kyi_X6_init rfl wim_X6_init (Or.inr (by decide +kernel)) (by decide) (by decide) (by decide) (Nat.le_of_ble_eq_true rfl) dX4_init_42 (fun u3 => ?_)
  refine I_putF C (ci := 7) (v := .ref q38) kin_X4 rfl 0 rfl 3 (by decide) wf_X4_35 rfl tyX4 tyX4_ok nmX4 rfl rfl (ty := tyX4 3) (by decide +kernel) rfl rfl (Nat.le_of_ble_eq_true rfl) dX4_init_45 ?_
  refine I_ws (ws1 := [(h0, .inr (7, [.ref q5, .ref q16, .ref q27, .ref q38, .int 0, .int 0, .int 0, .int 0, .int 0, .int 0, .int 0, .int 0]))] ++ (Y_X0 G q5 u0) ++ (Y_X2 G q16 u1) ++ (Y_X9 G q27 u2) ++ (Y_X6 G q38 u3)) rfl ?_
  refine I_aload_n C 0 rfl rfl dX4_init_48 ?_
  refine I_iconst C (v := (-1)) (by decide) dX4_init_49 ?_
  refine I_put C (ci := 7) (v := .int (-1)) kin_X4 rfl 0 rfl 7 (by decide) wf_X4_39 rfl tyX4 tyX4_ok nmX4 rfl (ty := .int) (by decide +kernel) rfl rfl (Nat.le_of_ble_eq_true rfl) dX4_init_50 ?_
  refine I_ws (ws1 := [(h0, .inr (7, [.ref q5, .ref q16, .ref q27, .ref q38, .int 0, .int 0, .int 0, .int (-1), .int 0, .int 0, .int 0, .int 0]))] ++ (Y_X0 G q5 u0) ++ (Y_X2 G q16 u1) ++ (Y_X9 G q27 u2) ++ (Y_X6 G q38 u3)) rfl ?_
  refine I_aload_n C 0 rfl rfl dX4_init_53 ?_
  refine I_iconst C (v := (-1)) (by decide) dX4_init_54 ?_
  refine I_put C (ci := 7) (v := .int (-1)) kin_X4 rfl 0 rfl 8 (by decide) wf_X4_43 rfl tyX4 tyX4_ok nmX4 rfl (ty := .int) (by decide +kernel) rfl rfl (Nat.le_of_ble_eq_true rfl) dX4_init_55 ?_
  refine I_ws (ws1 := [(h0, .inr (7, [.ref q5, .ref q16, .ref q27, .ref q38, .int 0, .int 0, .int 0, .int (-1), .int (-1), .int 0, .int 0, .int 0]))] ++ (Y_X0 G q5 u0) ++ (Y_X2 G q16 u1) ++ (Y_X9 G q27 u2) ++ (Y_X6 G q38 u3)) rfl ?_
  exact I_ret C (fun k => match k with | 1 => q5 | 2 => u0 1 | 3 => u0 2 | 4 => u0 3 | 5 => u0 4 | 6 => u0 5 | 7 => u0 6 | 8 => q16 | 9 => u1 1 | 10 => u1 2 | 11 => u1 3 | 12 => q27 | 13 => u2 1 | 14 => u2 2 | 15 => u2 3 | 16 => u2 4 | 17 => u2 5 | 18 => q38 | 19 => u3 1 | 20 => u3 2 | 21 => u3 3 | 22 => u3 4 | 23 => u3 5 | 24 => u3 6 | _ => 0) rfl (by decide) (by decide) dX4_init_58
theorem wob_X5_3 : Cond.methodLink RX5 3 objectInit ∈ kGT := kgt (List.mem_of_getElem? (i := 260) (by decide +kernel)) rfl
theorem wcl_X5_11 : Cond.classLink RX5 11 "MouldFloor$Floor" ∈ kGT := kgt (List.mem_of_getElem? (i := 261) (by decide +kernel)) rfl
theorem wins_X4 : Cond.instantiable RX4 12 ∈ kGT := kgt (List.mem_of_getElem? (i := 66) (by decide +kernel)) rfl
theorem wini_X4 : Cond.initialized RX4 ∈ kGT := kgt (List.mem_of_getElem? (i := 22) (by decide +kernel)) rfl
theorem wim_X4_init : Cond.instanceMethod yX4_init ∈ kGT := kgt (List.mem_of_getElem? (i := 68) (by decide +kernel)) rfl
theorem kyi_X4_init : kY yX4_init cX4_init 1 none 0 := ⟨kgt (List.mem_of_getElem? (i := 69) (by decide +kernel)) rfl, kgt (List.mem_of_getElem? (i := 22) (by decide +kernel)) rfl, by decide +kernel, by decide⟩
def Y_X5 (G : kG) (h0 : Nat) (u : Nat → Nat → Nat) : va_W := [(h0, .inr (8, [.ref (u 9 0), .int 0, .int 0])), (u 9 0, aF G (va_up (va_up (va_up (va_up (va_up (va_up (va_up (va_up (va_up (fun _ => none) 0 (some (u 0 0))) 1 (some (u 1 0))) 2 (some (u 2 0))) 3 (some (u 3 0))) 4 (some (u 4 0))) 5 (some (u 5 0))) 6 (some (u 6 0))) 7 (some (u 7 0))) 8 (some (u 8 0))))] ++ Y_X4 G (u 0 0) (u 0) ++ Y_X4 G (u 1 0) (u 1) ++ Y_X4 G (u 2 0) (u 2) ++ Y_X4 G (u 3 0) (u 3) ++ Y_X4 G (u 4 0) (u 4) ++ Y_X4 G (u 5 0) (u 5) ++ Y_X4 G (u 6 0) (u 6) ++ Y_X4 G (u 7 0) (u 7) ++ Y_X4 G (u 8 0) (u 8)
theorem klast {X Y : va_W} {x : Nat × va_E} (h : Y[0]? = some x) : (X ++ Y)[X.length]? = some x := by rw [List.getElem?_append_right (Nat.le_refl _), Nat.sub_self]; exact h
set_option maxRecDepth 100000 in
set_option maxHeartbeats 4000000 in
theorem kim_X5_init (l : Launch) (G : kG) (st : Nat) : kIMet l G st yX5_init cX5_init 2 3 226 3096 8 [.null, .int 0, .int 0] (Y_X5 G) := by
  refine kIMet_of (own := RX5) (by decide) rfl rfl (by decide) ?_
  intro p e R s m args below meth c h0 C
  refine I_aload_n C 0 rfl rfl dX5_init_0 ?_
  refine I_obj C wob_X5_3 (by decide) (Nat.le_of_ble_eq_true rfl) dX5_init_1 ?_
  refine I_aload_n C 0 rfl rfl dX5_init_4 ?_
  refine I_bipush C (v := 9) (by decide) dX5_init_5 ?_
  refine I_newF C wcl_X5_11 (by decide) rfl (by decide) (by decide) dX5_init_7 (fun q7 => ?_)
  refine I_ws (ws1 := [(h0, .inr (8, [.null, .int 0, .int 0])), (q7, aF G (fun _ => none))]) rfl ?_
  refine I_putF C (ci := 8) (v := .ref q7) kin_X5 rfl 0 rfl 0 (by decide) wf_X5_13 rfl tyX5 tyX5_ok nmX5 rfl rfl (ty := tyX5 0) (by decide +kernel) rfl rfl (Nat.le_of_ble_eq_true rfl) dX5_init_10 ?_
  refine I_ws (ws1 := [(h0, .inr (8, [.ref q7, .int 0, .int 0])), (q7, aF G (fun _ => none))]) rfl ?_
  refine I_iconst C (v := 0) (by decide) dX5_init_13 ?_
  refine I_istore_n C (lv1 := [(1, .int 0), (0, .ref h0)]) rfl (by decide) rfl dX5_init_14 ?_
  refine I_iload_n C 0 rfl rfl dX5_init_15 ?_
  refine I_bipush C (v := 9) (by decide) dX5_init_16 ?_
  refine I_geF C (tgt := 40) (by decide) (by decide) dX5_init_18 ?_
  refine I_aload_n C 1 rfl rfl dX5_init_21 ?_
  refine I_get C (ci := 8) (v := .ref q7) kin_X5 rfl 0 rfl 0 (by decide) wf_X5_13 rfl rfl dX5_init_22 ?_
  refine I_iload_n C 0 rfl rfl dX5_init_25 ?_
  refine I_new C (ci := 7) (fs := [.null, .null, .null, .null, .int 0, .int 0, .int 0, .int 0, .int 0, .int 0, .int 0, .int 0]) kin_X4 tyX4 tyX4_ok wcl_X5_11 wins_X4 wini_X4 rfl (fun j hj => by rcases (show j = 0 ∨ j = 1 ∨ j = 2 ∨ j = 3 ∨ j = 4 ∨ j = 5 ∨ j = 6 ∨ j = 7 ∨ j = 8 ∨ j = 9 ∨ j = 10 ∨ j = 11 by omega) with rfl | rfl | rfl | rfl | rfl | rfl | rfl | rfl | rfl | rfl | rfl | rfl <;> rfl) (by decide) (by decide) dX5_init_26 (fun q26_1 => ?_)
  refine I_dup C rfl dX5_init_29 ?_
  refine I_call C (X := _) (kim_X4_init l G st) rfl kyi_X4_init rfl wim_X4_init (Or.inr (by decide +kernel)) (by decide) (by decide) (by decide) (Nat.le_of_ble_eq_true rfl) dX5_init_30 (fun u0 => ?_)
  refine I_aast C (ci := 7) 1 _ rfl (klast rfl) rfl (kin_in (by decide)) 0 (by decide) dX5_init_33 ?_
  refine I_ws (ws1 := [(h0, .inr (8, [.ref q7, .int 0, .int 0])), (q7, aF G (va_up (fun _ => none) 0 (some q26_1)))] ++ (Y_X4 G q26_1 u0)) rfl ?_
  refine I_iinc C (q := 0) (v := 1) (lv1 := [(1, .int 1), (0, .ref h0)]) rfl (by decide) (by decide) rfl dX5_init_34 ?_
  refine I_goto C (tgt := 15) (by decide) dX5_init_37 ?_
  refine I_iload_n C 0 rfl rfl dX5_init_15 ?_
  refine I_bipush C (v := 9) (by decide) dX5_init_16 ?_
  refine I_geF C (tgt := 40) (by decide) (by decide) dX5_init_18 ?_
  refine I_aload_n C 1 rfl rfl dX5_init_21 ?_
  refine I_get C (ci := 8) (v := .ref q7) kin_X5 rfl 0 rfl 0 (by decide) wf_X5_13 rfl rfl dX5_init_22 ?_
  refine I_iload_n C 0 rfl rfl dX5_init_25 ?_
  refine I_new C (ci := 7) (fs := [.null, .null, .null, .null, .int 0, .int 0, .int 0, .int 0, .int 0, .int 0, .int 0, .int 0]) kin_X4 tyX4 tyX4_ok wcl_X5_11 wins_X4 wini_X4 rfl (fun j hj => by rcases (show j = 0 ∨ j = 1 ∨ j = 2 ∨ j = 3 ∨ j = 4 ∨ j = 5 ∨ j = 6 ∨ j = 7 ∨ j = 8 ∨ j = 9 ∨ j = 10 ∨ j = 11 by omega) with rfl | rfl | rfl | rfl | rfl | rfl | rfl | rfl | rfl | rfl | rfl | rfl <;> rfl) (by decide) (by decide) dX5_init_26 (fun q26_2 => ?_)
  refine I_dup C rfl dX5_init_29 ?_
  refine I_call C (X := _) (kim_X4_init l G st) rfl kyi_X4_init rfl wim_X4_init (Or.inr (by decide +kernel)) (by decide) (by decide) (by decide) (Nat.le_of_ble_eq_true rfl) dX5_init_30 (fun u1 => ?_)
  refine I_aast C (ci := 7) 1 _ rfl (klast rfl) rfl (kin_in (by decide)) 1 (by decide) dX5_init_33 ?_
  refine I_ws (ws1 := [(h0, .inr (8, [.ref q7, .int 0, .int 0])), (q7, aF G (va_up (va_up (fun _ => none) 0 (some q26_1)) 1 (some q26_2)))] ++ (Y_X4 G q26_1 u0) ++ (Y_X4 G q26_2 u1)) rfl ?_
  refine I_iinc C (q := 0) (v := 2) (lv1 := [(1, .int 2), (0, .ref h0)]) rfl (by decide) (by decide) rfl dX5_init_34 ?_
  refine I_goto C (tgt := 15) (by decide) dX5_init_37 ?_
  refine I_iload_n C 0 rfl rfl dX5_init_15 ?_
  refine I_bipush C (v := 9) (by decide) dX5_init_16 ?_
  refine I_geF C (tgt := 40) (by decide) (by decide) dX5_init_18 ?_
  refine I_aload_n C 1 rfl rfl dX5_init_21 ?_
  refine I_get C (ci := 8) (v := .ref q7) kin_X5 rfl 0 rfl 0 (by decide) wf_X5_13 rfl rfl dX5_init_22 ?_
  refine I_iload_n C 0 rfl rfl dX5_init_25 ?_
  refine I_new C (ci := 7) (fs := [.null, .null, .null, .null, .int 0, .int 0, .int 0, .int 0, .int 0, .int 0, .int 0, .int 0]) kin_X4 tyX4 tyX4_ok wcl_X5_11 wins_X4 wini_X4 rfl (fun j hj => by rcases (show j = 0 ∨ j = 1 ∨ j = 2 ∨ j = 3 ∨ j = 4 ∨ j = 5 ∨ j = 6 ∨ j = 7 ∨ j = 8 ∨ j = 9 ∨ j = 10 ∨ j = 11 by omega) with rfl | rfl | rfl | rfl | rfl | rfl | rfl | rfl | rfl | rfl | rfl | rfl <;> rfl) (by decide) (by decide) dX5_init_26 (fun q26_3 => ?_)
  refine I_dup C rfl dX5_init_29 ?_
  refine I_call C (X := _) (kim_X4_init l G st) rfl kyi_X4_init rfl wim_X4_init (Or.inr (by decide +kernel)) (by decide) (by decide) (by decide) (Nat.le_of_ble_eq_true rfl) dX5_init_30 (fun u2 => ?_)
  refine I_aast C (ci := 7) 1 _ rfl (klast rfl) rfl (kin_in (by decide)) 2 (by decide) dX5_init_33 ?_
  refine I_ws (ws1 := [(h0, .inr (8, [.ref q7, .int 0, .int 0])), (q7, aF G (va_up (va_up (va_up (fun _ => none) 0 (some q26_1)) 1 (some q26_2)) 2 (some q26_3)))] ++ (Y_X4 G q26_1 u0) ++ (Y_X4 G q26_2 u1) ++ (Y_X4 G q26_3 u2)) rfl ?_
  refine I_iinc C (q := 0) (v := 3) (lv1 := [(1, .int 3), (0, .ref h0)]) rfl (by decide) (by decide) rfl dX5_init_34 ?_
  refine I_goto C (tgt := 15) (by decide) dX5_init_37 ?_
  refine I_iload_n C 0 rfl rfl dX5_init_15 ?_
  refine I_bipush C (v := 9) (by decide) dX5_init_16 ?_
  refine I_geF C (tgt := 40) (by decide) (by decide) dX5_init_18 ?_
  refine I_aload_n C 1 rfl rfl dX5_init_21 ?_
  refine I_get C (ci := 8) (v := .ref q7) kin_X5 rfl 0 rfl 0 (by decide) wf_X5_13 rfl rfl dX5_init_22 ?_
  refine I_iload_n C 0 rfl rfl dX5_init_25 ?_
  refine I_new C (ci := 7) (fs := [.null, .null, .null, .null, .int 0, .int 0, .int 0, .int 0, .int 0, .int 0, .int 0, .int 0]) kin_X4 tyX4 tyX4_ok wcl_X5_11 wins_X4 wini_X4 rfl (fun j hj => by rcases (show j = 0 ∨ j = 1 ∨ j = 2 ∨ j = 3 ∨ j = 4 ∨ j = 5 ∨ j = 6 ∨ j = 7 ∨ j = 8 ∨ j = 9 ∨ j = 10 ∨ j = 11 by omega) with rfl | rfl | rfl | rfl | rfl | rfl | rfl | rfl | rfl | rfl | rfl | rfl <;> rfl) (by decide) (by decide) dX5_init_26 (fun q26_4 => ?_)
  refine I_dup C rfl dX5_init_29 ?_
  refine I_call C (X := _) (kim_X4_init l G st) rfl kyi_X4_init rfl wim_X4_init (Or.inr (by decide +kernel)) (by decide) (by decide) (by decide) (Nat.le_of_ble_eq_true rfl) dX5_init_30 (fun u3 => ?_)
  refine I_aast C (ci := 7) 1 _ rfl (klast rfl) rfl (kin_in (by decide)) 3 (by decide) dX5_init_33 ?_
  refine I_ws (ws1 := [(h0, .inr (8, [.ref q7, .int 0, .int 0])), (q7, aF G (va_up (va_up (va_up (va_up (fun _ => none) 0 (some q26_1)) 1 (some q26_2)) 2 (some q26_3)) 3 (some q26_4)))] ++ (Y_X4 G q26_1 u0) ++ (Y_X4 G q26_2 u1) ++ (Y_X4 G q26_3 u2) ++ (Y_X4 G q26_4 u3)) rfl ?_
  refine I_iinc C (q := 0) (v := 4) (lv1 := [(1, .int 4), (0, .ref h0)]) rfl (by decide) (by decide) rfl dX5_init_34 ?_
  refine I_goto C (tgt := 15) (by decide) dX5_init_37 ?_
  refine I_iload_n C 0 rfl rfl dX5_init_15 ?_
  refine I_bipush C (v := 9) (by decide) dX5_init_16 ?_
  refine I_geF C (tgt := 40) (by decide) (by decide) dX5_init_18 ?_
  refine I_aload_n C 1 rfl rfl dX5_init_21 ?_
  refine I_get C (ci := 8) (v := .ref q7) kin_X5 rfl 0 rfl 0 (by decide) wf_X5_13 rfl rfl dX5_init_22 ?_
  refine I_iload_n C 0 rfl rfl dX5_init_25 ?_
  refine I_new C (ci := 7) (fs := [.null, .null, .null, .null, .int 0, .int 0, .int 0, .int 0, .int 0, .int 0, .int 0, .int 0]) kin_X4 tyX4 tyX4_ok wcl_X5_11 wins_X4 wini_X4 rfl (fun j hj => by rcases (show j = 0 ∨ j = 1 ∨ j = 2 ∨ j = 3 ∨ j = 4 ∨ j = 5 ∨ j = 6 ∨ j = 7 ∨ j = 8 ∨ j = 9 ∨ j = 10 ∨ j = 11 by omega) with rfl | rfl | rfl | rfl | rfl | rfl | rfl | rfl | rfl | rfl | rfl | rfl <;> rfl) (by decide) (by decide) dX5_init_26 (fun q26_5 => ?_)
  refine I_dup C rfl dX5_init_29 ?_
  refine I_call C (X := _) (kim_X4_init l G st) rfl kyi_X4_init rfl wim_X4_init (Or.inr (by decide +kernel)) (by decide) (by decide) (by decide) (Nat.le_of_ble_eq_true rfl) dX5_init_30 (fun u4 => ?_)
  refine I_aast C (ci := 7) 1 _ rfl (klast rfl) rfl (kin_in (by decide)) 4 (by decide) dX5_init_33 ?_
  refine I_ws (ws1 := [(h0, .inr (8, [.ref q7, .int 0, .int 0])), (q7, aF G (va_up (va_up (va_up (va_up (va_up (fun _ => none) 0 (some q26_1)) 1 (some q26_2)) 2 (some q26_3)) 3 (some q26_4)) 4 (some q26_5)))] ++ (Y_X4 G q26_1 u0) ++ (Y_X4 G q26_2 u1) ++ (Y_X4 G q26_3 u2) ++ (Y_X4 G q26_4 u3) ++ (Y_X4 G q26_5 u4)) rfl ?_
  refine I_iinc C (q := 0) (v := 5) (lv1 := [(1, .int 5), (0, .ref h0)]) rfl (by decide) (by decide) rfl dX5_init_34 ?_
  refine I_goto C (tgt := 15) (by decide) dX5_init_37 ?_
  refine I_iload_n C 0 rfl rfl dX5_init_15 ?_
  refine I_bipush C (v := 9) (by decide) dX5_init_16 ?_
  refine I_geF C (tgt := 40) (by decide) (by decide) dX5_init_18 ?_
  refine I_aload_n C 1 rfl rfl dX5_init_21 ?_
  refine I_get C (ci := 8) (v := .ref q7) kin_X5 rfl 0 rfl 0 (by decide) wf_X5_13 rfl rfl dX5_init_22 ?_
  refine I_iload_n C 0 rfl rfl dX5_init_25 ?_
  refine I_new C (ci := 7) (fs := [.null, .null, .null, .null, .int 0, .int 0, .int 0, .int 0, .int 0, .int 0, .int 0, .int 0]) kin_X4 tyX4 tyX4_ok wcl_X5_11 wins_X4 wini_X4 rfl (fun j hj => by rcases (show j = 0 ∨ j = 1 ∨ j = 2 ∨ j = 3 ∨ j = 4 ∨ j = 5 ∨ j = 6 ∨ j = 7 ∨ j = 8 ∨ j = 9 ∨ j = 10 ∨ j = 11 by omega) with rfl | rfl | rfl | rfl | rfl | rfl | rfl | rfl | rfl | rfl | rfl | rfl <;> rfl) (by decide) (by decide) dX5_init_26 (fun q26_6 => ?_)
  refine I_dup C rfl dX5_init_29 ?_
  refine I_call C (X := _) (kim_X4_init l G st) rfl kyi_X4_init rfl wim_X4_init (Or.inr (by decide +kernel)) (by decide) (by decide) (by decide) (Nat.le_of_ble_eq_true rfl) dX5_init_30 (fun u5 => ?_)
  refine I_aast C (ci := 7) 1 _ rfl (klast rfl) rfl (kin_in (by decide)) 5 (by decide) dX5_init_33 ?_
  refine I_ws (ws1 := [(h0, .inr (8, [.ref q7, .int 0, .int 0])), (q7, aF G (va_up (va_up (va_up (va_up (va_up (va_up (fun _ => none) 0 (some q26_1)) 1 (some q26_2)) 2 (some q26_3)) 3 (some q26_4)) 4 (some q26_5)) 5 (some q26_6)))] ++ (Y_X4 G q26_1 u0) ++ (Y_X4 G q26_2 u1) ++ (Y_X4 G q26_3 u2) ++ (Y_X4 G q26_4 u3) ++ (Y_X4 G q26_5 u4) ++ (Y_X4 G q26_6 u5)) rfl ?_
  refine I_iinc C (q := 0) (v := 6) (lv1 := [(1, .int 6), (0, .ref h0)]) rfl (by decide) (by decide) rfl dX5_init_34 ?_
  refine I_goto C (tgt := 15) (by decide) dX5_init_37 ?_
  refine I_iload_n C 0 rfl rfl dX5_init_15 ?_
  refine I_bipush C (v := 9) (by decide) dX5_init_16 ?_
  refine I_geF C (tgt := 40) (by decide) (by decide) dX5_init_18 ?_
  refine I_aload_n C 1 rfl rfl dX5_init_21 ?_
  refine I_get C (ci := 8) (v := .ref q7) kin_X5 rfl 0 rfl 0 (by decide) wf_X5_13 rfl rfl dX5_init_22 ?_
  refine I_iload_n C 0 rfl rfl dX5_init_25 ?_
  refine I_new C (ci := 7) (fs := [.null, .null, .null, .null, .int 0, .int 0, .int 0, .int 0, .int 0, .int 0, .int 0, .int 0]) kin_X4 tyX4 tyX4_ok wcl_X5_11 wins_X4 wini_X4 rfl (fun j hj => by rcases (show j = 0 ∨ j = 1 ∨ j = 2 ∨ j = 3 ∨ j = 4 ∨ j = 5 ∨ j = 6 ∨ j = 7 ∨ j = 8 ∨ j = 9 ∨ j = 10 ∨ j = 11 by omega) with rfl | rfl | rfl | rfl | rfl | rfl | rfl | rfl | rfl | rfl | rfl | rfl <;> rfl) (by decide) (by decide) dX5_init_26 (fun q26_7 => ?_)
  refine I_dup C rfl dX5_init_29 ?_
  refine I_call C (X := _) (kim_X4_init l G st) rfl kyi_X4_init rfl wim_X4_init (Or.inr (by decide +kernel)) (by decide) (by decide) (by decide) (Nat.le_of_ble_eq_true rfl) dX5_init_30 (fun u6 => ?_)
  refine I_aast C (ci := 7) 1 _ rfl (klast rfl) rfl (kin_in (by decide)) 6 (by decide) dX5_init_33 ?_
  refine I_ws (ws1 := [(h0, .inr (8, [.ref q7, .int 0, .int 0])), (q7, aF G (va_up (va_up (va_up (va_up (va_up (va_up (va_up (fun _ => none) 0 (some q26_1)) 1 (some q26_2)) 2 (some q26_3)) 3 (some q26_4)) 4 (some q26_5)) 5 (some q26_6)) 6 (some q26_7)))] ++ (Y_X4 G q26_1 u0) ++ (Y_X4 G q26_2 u1) ++ (Y_X4 G q26_3 u2) ++ (Y_X4 G q26_4 u3) ++ (Y_X4 G q26_5 u4) ++ (Y_X4 G q26_6 u5) ++ (Y_X4 G q26_7 u6)) rfl ?_
  refine I_iinc C (q := 0) (v := 7) (lv1 := [(1, .int 7), (0, .ref h0)]) rfl (by decide) (by decide) rfl dX5_init_34 ?_
  refine I_goto C (tgt := 15) (by decide) dX5_init_37 ?_
  refine I_iload_n C 0 rfl rfl dX5_init_15 ?_
  refine I_bipush C (v := 9) (by decide) dX5_init_16 ?_
  refine I_geF C (tgt := 40) (by decide) (by decide) dX5_init_18 ?_
  refine I_aload_n C 1 rfl rfl dX5_init_21 ?_
  refine I_get C (ci := 8) (v := .ref q7) kin_X5 rfl 0 rfl 0 (by decide) wf_X5_13 rfl rfl dX5_init_22 ?_
  refine I_iload_n C 0 rfl rfl dX5_init_25 ?_
  refine I_new C (ci := 7) (fs := [.null, .null, .null, .null, .int 0, .int 0, .int 0, .int 0, .int 0, .int 0, .int 0, .int 0]) kin_X4 tyX4 tyX4_ok wcl_X5_11 wins_X4 wini_X4 rfl (fun j hj => by rcases (show j = 0 ∨ j = 1 ∨ j = 2 ∨ j = 3 ∨ j = 4 ∨ j = 5 ∨ j = 6 ∨ j = 7 ∨ j = 8 ∨ j = 9 ∨ j = 10 ∨ j = 11 by omega) with rfl | rfl | rfl | rfl | rfl | rfl | rfl | rfl | rfl | rfl | rfl | rfl <;> rfl) (by decide) (by decide) dX5_init_26 (fun q26_8 => ?_)
  refine I_dup C rfl dX5_init_29 ?_
  refine I_call C (X := _) (kim_X4_init l G st) rfl kyi_X4_init rfl wim_X4_init (Or.inr (by decide +kernel)) (by decide) (by decide) (by decide) (Nat.le_of_ble_eq_true rfl) dX5_init_30 (fun u7 => ?_)
  refine I_aast C (ci := 7) 1 _ rfl (klast rfl) rfl (kin_in (by decide)) 7 (by decide) dX5_init_33 ?_
  refine I_ws (ws1 := [(h0, .inr (8, [.ref q7, .int 0, .int 0])), (q7, aF G (va_up (va_up (va_up (va_up (va_up (va_up (va_up (va_up (fun _ => none) 0 (some q26_1)) 1 (some q26_2)) 2 (some q26_3)) 3 (some q26_4)) 4 (some q26_5)) 5 (some q26_6)) 6 (some q26_7)) 7 (some q26_8)))] ++ (Y_X4 G q26_1 u0) ++ (Y_X4 G q26_2 u1) ++ (Y_X4 G q26_3 u2) ++ (Y_X4 G q26_4 u3) ++ (Y_X4 G q26_5 u4) ++ (Y_X4 G q26_6 u5) ++ (Y_X4 G q26_7 u6) ++ (Y_X4 G q26_8 u7)) rfl ?_
  refine I_iinc C (q := 0) (v := 8) (lv1 := [(1, .int 8), (0, .ref h0)]) rfl (by decide) (by decide) rfl dX5_init_34 ?_
  refine I_goto C (tgt := 15) (by decide) dX5_init_37 ?_
  refine I_iload_n C 0 rfl rfl dX5_init_15 ?_
  refine I_bipush C (v := 9) (by decide) dX5_init_16 ?_
  refine I_geF C (tgt := 40) (by decide) (by decide) dX5_init_18 ?_
  refine I_aload_n C 1 rfl rfl dX5_init_21 ?_
  refine I_get C (ci := 8) (v := .ref q7) kin_X5 rfl 0 rfl 0 (by decide) wf_X5_13 rfl rfl dX5_init_22 ?_
  refine I_iload_n C 0 rfl rfl dX5_init_25 ?_
  refine I_new C (ci := 7) (fs := [.null, .null, .null, .null, .int 0, .int 0, .int 0, .int 0, .int 0, .int 0, .int 0, .int 0]) kin_X4 tyX4 tyX4_ok wcl_X5_11 wins_X4 wini_X4 rfl (fun j hj => by rcases (show j = 0 ∨ j = 1 ∨ j = 2 ∨ j = 3 ∨ j = 4 ∨ j = 5 ∨ j = 6 ∨ j = 7 ∨ j = 8 ∨ j = 9 ∨ j = 10 ∨ j = 11 by omega) with rfl | rfl | rfl | rfl | rfl | rfl | rfl | rfl | rfl | rfl | rfl | rfl <;> rfl) (by decide) (by decide) dX5_init_26 (fun q26_9 => ?_)
  refine I_dup C rfl dX5_init_29 ?_
  refine I_call C (X := _) (kim_X4_init l G st) rfl kyi_X4_init rfl wim_X4_init (Or.inr (by decide +kernel)) (by decide) (by decide) (by decide) (Nat.le_of_ble_eq_true rfl) dX5_init_30 (fun u8 => ?_)
  refine I_aast C (ci := 7) 1 _ rfl (klast rfl) rfl (kin_in (by decide)) 8 (by decide) dX5_init_33 ?_
  refine I_ws (ws1 := [(h0, .inr (8, [.ref q7, .int 0, .int 0])), (q7, aF G (va_up (va_up (va_up (va_up (va_up (va_up (va_up (va_up (va_up (fun _ => none) 0 (some q26_1)) 1 (some q26_2)) 2 (some q26_3)) 3 (some q26_4)) 4 (some q26_5)) 5 (some q26_6)) 6 (some q26_7)) 7 (some q26_8)) 8 (some q26_9)))] ++ (Y_X4 G q26_1 u0) ++ (Y_X4 G q26_2 u1) ++ (Y_X4 G q26_3 u2) ++ (Y_X4 G q26_4 u3) ++ (Y_X4 G q26_5 u4) ++ (Y_X4 G q26_6 u5) ++ (Y_X4 G q26_7 u6) ++ (Y_X4 G q26_8 u7) ++ (Y_X4 G q26_9 u8)) rfl ?_
  refine I_iinc C (q := 0) (v := 9) (lv1 := [(1, .int 9), (0, .ref h0)]) rfl (by decide) (by decide) rfl dX5_init_34 ?_
  refine I_goto C (tgt := 15) (by decide) dX5_init_37 ?_
  refine I_iload_n C 0 rfl rfl dX5_init_15 ?_
  refine I_bipush C (v := 9) (by decide) dX5_init_16 ?_
  refine I_geT C (tgt := 40) (by decide) (by decide) dX5_init_18 ?_
  exact I_ret C (fun i => match i with | 0 => (fun k => match k with | 0 => q26_1 | k + 1 => u0 (k + 1)) | 1 => (fun k => match k with | 0 => q26_2 | k + 1 => u1 (k + 1)) | 2 => (fun k => match k with | 0 => q26_3 | k + 1 => u2 (k + 1)) | 3 => (fun k => match k with | 0 => q26_4 | k + 1 => u3 (k + 1)) | 4 => (fun k => match k with | 0 => q26_5 | k + 1 => u4 (k + 1)) | 5 => (fun k => match k with | 0 => q26_6 | k + 1 => u5 (k + 1)) | 6 => (fun k => match k with | 0 => q26_7 | k + 1 => u6 (k + 1)) | 7 => (fun k => match k with | 0 => q26_8 | k + 1 => u7 (k + 1)) | 8 => (fun k => match k with | 0 => q26_9 | k + 1 => u8 (k + 1)) | _ => (fun _ => q7)) rfl (by decide) (by decide) dX5_init_40
theorem wob_X11_3 : Cond.methodLink RX11 3 objectInit ∈ kGT := kgt (List.mem_of_getElem? (i := 62) (by decide +kernel)) rfl
theorem wcl_X11_9 : Cond.classLink RX11 9 RX4 ∈ kGT := kgt (List.mem_of_getElem? (i := 65) (by decide +kernel)) rfl
theorem wcl_X11_19 : Cond.classLink RX11 19 RX5 ∈ kGT := kgt (List.mem_of_getElem? (i := 255) (by decide +kernel)) rfl
theorem wins_X5 : Cond.instantiable RX5 3 ∈ kGT := kgt (List.mem_of_getElem? (i := 256) (by decide +kernel)) rfl
theorem wini_X5 : Cond.initialized RX5 ∈ kGT := kgt (List.mem_of_getElem? (i := 27) (by decide +kernel)) rfl
theorem wm_X11_21 : Cond.methodLink RX11 21 yX5_init ∈ kGT := kgt (List.mem_of_getElem? (i := 257) (by decide +kernel)) rfl
theorem wim_X5_init : Cond.instanceMethod yX5_init ∈ kGT := kgt (List.mem_of_getElem? (i := 258) (by decide +kernel)) rfl
theorem kyi_X5_init : kY yX5_init cX5_init 2 none 0 := ⟨kgt (List.mem_of_getElem? (i := 259) (by decide +kernel)) rfl, kgt (List.mem_of_getElem? (i := 27) (by decide +kernel)) rfl, by decide +kernel, by decide⟩
theorem wcl_X11_26 : Cond.classLink RX11 26 RX8 ∈ kGT := kgt (List.mem_of_getElem? (i := 275) (by decide +kernel)) rfl
theorem wins_X8 : Cond.instantiable RX8 3 ∈ kGT := kgt (List.mem_of_getElem? (i := 276) (by decide +kernel)) rfl
theorem wini_X8 : Cond.initialized RX8 ∈ kGT := kgt (List.mem_of_getElem? (i := 28) (by decide +kernel)) rfl
theorem wim_X8_init : Cond.instanceMethod yX8_init ∈ kGT := kgt (List.mem_of_getElem? (i := 278) (by decide +kernel)) rfl
theorem kyi_X8_init : kY yX8_init cX8_init 1 none 0 := ⟨kgt (List.mem_of_getElem? (i := 279) (by decide +kernel)) rfl, kgt (List.mem_of_getElem? (i := 28) (by decide +kernel)) rfl, by decide +kernel, by decide⟩
theorem wcl_X11_33 : Cond.classLink RX11 33 RX10 ∈ kGT := kgt (List.mem_of_getElem? (i := 294) (by decide +kernel)) rfl
theorem wins_X10 : Cond.instantiable RX10 4 ∈ kGT := kgt (List.mem_of_getElem? (i := 295) (by decide +kernel)) rfl
theorem wini_X10 : Cond.initialized RX10 ∈ kGT := kgt (List.mem_of_getElem? (i := 29) (by decide +kernel)) rfl
theorem wim_X10_init : Cond.instanceMethod yX10_init ∈ kGT := kgt (List.mem_of_getElem? (i := 297) (by decide +kernel)) rfl
theorem kyi_X10_init : kY yX10_init cX10_init 1 none 0 := ⟨kgt (List.mem_of_getElem? (i := 298) (by decide +kernel)) rfl, kgt (List.mem_of_getElem? (i := 29) (by decide +kernel)) rfl, by decide +kernel, by decide⟩
theorem wcl_X11_40 : Cond.classLink RX11 40 RX3 ∈ kGT := kgt (List.mem_of_getElem? (i := 316) (by decide +kernel)) rfl
theorem wins_X3 : Cond.instantiable RX3 5 ∈ kGT := kgt (List.mem_of_getElem? (i := 317) (by decide +kernel)) rfl
theorem wini_X3 : Cond.initialized RX3 ∈ kGT := kgt (List.mem_of_getElem? (i := 30) (by decide +kernel)) rfl
theorem wim_X3_init : Cond.instanceMethod yX3_init ∈ kGT := kgt (List.mem_of_getElem? (i := 319) (by decide +kernel)) rfl
theorem kyi_X3_init : kY yX3_init cX3_init 1 none 0 := ⟨kgt (List.mem_of_getElem? (i := 320) (by decide +kernel)) rfl, kgt (List.mem_of_getElem? (i := 30) (by decide +kernel)) rfl, by decide +kernel, by decide⟩
theorem wcl_X11_47 : Cond.classLink RX11 47 RX7 ∈ kGT := kgt (List.mem_of_getElem? (i := 340) (by decide +kernel)) rfl
theorem wins_X7 : Cond.instantiable RX7 3 ∈ kGT := kgt (List.mem_of_getElem? (i := 341) (by decide +kernel)) rfl
theorem wini_X7 : Cond.initialized RX7 ∈ kGT := kgt (List.mem_of_getElem? (i := 31) (by decide +kernel)) rfl
theorem wim_X7_init : Cond.instanceMethod yX7_init ∈ kGT := kgt (List.mem_of_getElem? (i := 343) (by decide +kernel)) rfl
theorem kyi_X7_init : kY yX7_init cX7_init 1 none 0 := ⟨kgt (List.mem_of_getElem? (i := 344) (by decide +kernel)) rfl, kgt (List.mem_of_getElem? (i := 31) (by decide +kernel)) rfl, by decide +kernel, by decide⟩
theorem wcl_X11_54 : Cond.classLink RX11 54 RX1 ∈ kGT := kgt (List.mem_of_getElem? (i := 357) (by decide +kernel)) rfl
theorem wins_X1 : Cond.instantiable RX1 2 ∈ kGT := kgt (List.mem_of_getElem? (i := 358) (by decide +kernel)) rfl
theorem wini_X1 : Cond.initialized RX1 ∈ kGT := kgt (List.mem_of_getElem? (i := 32) (by decide +kernel)) rfl
theorem wim_X1_init : Cond.instanceMethod yX1_init ∈ kGT := kgt (List.mem_of_getElem? (i := 360) (by decide +kernel)) rfl
theorem kyi_X1_init : kY yX1_init cX1_init 1 none 0 := ⟨kgt (List.mem_of_getElem? (i := 361) (by decide +kernel)) rfl, kgt (List.mem_of_getElem? (i := 32) (by decide +kernel)) rfl, by decide +kernel, by decide⟩
def Y_X11 (G : kG) (h0 : Nat) (u : Nat → Nat → Nat) : va_W := [(h0, .inr (14, [.ref (u 0 0), .ref (u 1 0), .ref (u 11 0), .ref (u 12 0), .ref (u 13 0), .ref (u 14 0), .ref (u 15 0), .ref (u 16 0), .int 0]))] ++ Y_X4 G (u 0 0) (u 0) ++ Y_X4 G (u 1 0) (u 1) ++ Y_X5 G (u 11 0) (fun i => match i with | 0 => u 2 | 1 => u 3 | 2 => u 4 | 3 => u 5 | 4 => u 6 | 5 => u 7 | 6 => u 8 | 7 => u 9 | 8 => u 10 | _ => (fun _ => u 11 1)) ++ Y_X8 G (u 12 0) (u 12) ++ Y_X10 G (u 13 0) (u 13) ++ Y_X3 G (u 14 0) (u 14) ++ Y_X7 G (u 15 0) (u 15) ++ Y_X1 G (u 16 0) (u 16)
set_option maxRecDepth 100000 in
set_option maxHeartbeats 4000000 in
theorem kim_X11_init (l : Launch) (G : kG) (st : Nat) : kIMet l G st yX11_init cX11_init 1 4 291 4544 14 [.null, .null, .null, .null, .null, .null, .null, .null, .int 0] (Y_X11 G) := by
  refine kIMet_of (own := RX11) (by decide) rfl rfl (by decide) ?_
  intro p e R s m args below meth c h0 C
  refine I_aload_n C 0 rfl rfl dX11_init_0 ?_
  refine I_obj C wob_X11_3 (by decide) (Nat.le_of_ble_eq_true rfl) dX11_init_1 ?_
  refine I_aload_n C 0 rfl rfl dX11_init_4 ?_
  refine I_new C (ci := 7) (fs := [.null, .null, .null, .null, .int 0, .int 0, .int 0, .int 0, .int 0, .int 0, .int 0, .int 0]) kin_X4 tyX4 tyX4_ok wcl_X11_9 wins_X4 wini_X4 rfl (fun j hj => by rcases (show j = 0 ∨ j = 1 ∨ j = 2 ∨ j = 3 ∨ j = 4 ∨ j = 5 ∨ j = 6 ∨ j = 7 ∨ j = 8 ∨ j = 9 ∨ j = 10 ∨ j = 11 by omega) with rfl | rfl | rfl | rfl | rfl | rfl | rfl | rfl | rfl | rfl | rfl | rfl <;> rfl) (by decide) (by decide) dX11_init_5 (fun q5 => ?_)
  refine I_dup C rfl dX11_init_8 ?_
  refine I_call C (X := _) (kim_X4_init l G st) rfl kyi_X4_init rfl wim_X4_init (Or.inr (by decide +kernel)) (by decide) (by decide) (by decide) (Nat.le_of_ble_eq_true rfl) dX11_init_9 (fun u0 => ?_)
  refine I_putF C (ci := 14) (v := .ref q5) kin_X11 rfl 0 rfl 0 (by decide) wf_X11_12 rfl tyX11 tyX11_ok nmX11 rfl rfl (ty := tyX11 0) (by decide +kernel) rfl rfl (Nat.le_of_ble_eq_true rfl) dX11_init_12 ?_
  refine I_ws (ws1 := [(h0, .inr (14, [.ref q5, .null, .null, .null, .null, .null, .null, .null, .int 0]))] ++ (Y_X4 G q5 u0)) rfl ?_
  refine I_aload_n C 0 rfl rfl dX11_init_15 ?_
  refine I_new C (ci := 7) (fs := [.null, .null, .null, .null, .int 0, .int 0, .int 0, .int 0, .int 0, .int 0, .int 0, .int 0]) kin_X4 tyX4 tyX4_ok wcl_X11_9 wins_X4 wini_X4 rfl (fun j hj => by rcases (show j = 0 ∨ j = 1 ∨ j = 2 ∨ j = 3 ∨ j = 4 ∨ j = 5 ∨ j = 6 ∨ j = 7 ∨ j = 8 ∨ j = 9 ∨ j = 10 ∨ j = 11 by omega) with rfl | rfl | rfl | rfl | rfl | rfl | rfl | rfl | rfl | rfl | rfl | rfl <;> rfl) (by decide) (by decide) dX11_init_16 (fun q16 => ?_)
  refine I_dup C rfl dX11_init_19 ?_
  refine I_call C (X := _) (kim_X4_init l G st) rfl kyi_X4_init rfl wim_X4_init (Or.inr (by decide +kernel)) (by decide) (by decide) (by decide) (Nat.le_of_ble_eq_true rfl) dX11_init_20 (fun u1 => ?_)
  refine I_putF C (ci := 14) (v := .ref q16) kin_X11 rfl 0 rfl 1 (by decide) wf_X11_16 rfl tyX11 tyX11_ok nmX11 rfl rfl (ty := tyX11 1) (by decide +kernel) rfl rfl (Nat.le_of_ble_eq_true rfl) dX11_init_23 ?_
  refine I_ws (ws1 := [(h0, .inr (14, [.ref q5, .ref q16, .null, .null, .null, .null, .null, .null, .int 0]))] ++ (Y_X4 G q5 u0) ++ (Y_X4 G q16 u1)) rfl ?_
  refine I_aload_n C 0 rfl rfl dX11_init_26 ?_
  refine I_new C (ci := 8) (fs := [.null, .int 0, .int 0]) kin_X5 tyX5 tyX5_ok wcl_X11_19 wins_X5 wini_X5 rfl (fun j hj => by rcases (show j = 0 ∨ j = 1 ∨ j = 2 by omega) with rfl | rfl | rfl <;> rfl) (by decide) (by decide) dX11_init_27 (fun q27 => ?_)
  refine I_dup C rfl dX11_init_30 ?_
  refine I_call C (X := _) (kim_X5_init l G st) rfl kyi_X5_init rfl wim_X5_init (Or.inl wm_X11_21) (by decide) (by decide) (by decide) (Nat.le_of_ble_eq_true rfl) dX11_init_31 (fun u2 => ?_)
  refine I_putF C (ci := 14) (v := .ref q27) kin_X11 rfl 0 rfl 2 (by decide) wf_X11_22 rfl tyX11 tyX11_ok nmX11 rfl rfl (ty := tyX11 2) (by decide +kernel) rfl rfl (Nat.le_of_ble_eq_true rfl) dX11_init_34 ?_
  refine I_ws (ws1 := [(h0, .inr (14, [.ref q5, .ref q16, .ref q27, .null, .null, .null, .null, .null, .int 0]))] ++ (Y_X4 G q5 u0) ++ (Y_X4 G q16 u1) ++ (Y_X5 G q27 u2)) rfl ?_
  refine I_aload_n C 0 rfl rfl dX11_init_37 ?_
  refine I_new C (ci := 11) (fs := [.null, .null, .int 0]) kin_X8 tyX8 tyX8_ok wcl_X11_26 wins_X8 wini_X8 rfl (fun j hj => by rcases (show j = 0 ∨ j = 1 ∨ j = 2 by omega) with rfl | rfl | rfl <;> rfl) (by decide) (by decide) dX11_init_38 (fun q38 => ?_)
  refine I_dup C rfl dX11_init_41 ?_
  refine I_call C (X := _) (kim_X8_init l G st) rfl kyi_X8_init rfl wim_X8_init (Or.inr (by decide +kernel)) (by decide) (by decide) (by decide) (Nat.le_of_ble_eq_true rfl) dX11_init_42 (fun u3 => ?_)
  refine I_putF C (ci := 14) (v := .ref q38) kin_X11 rfl 0 rfl 3 (by decide) wf_X11_29 rfl tyX11 tyX11_ok nmX11 rfl rfl (ty := tyX11 3) (by decide +kernel) rfl rfl (Nat.le_of_ble_eq_true rfl) dX11_init_45 ?_
  refine I_ws (ws1 := [(h0, .inr (14, [.ref q5, .ref q16, .ref q27, .ref q38, .null, .null, .null, .null, .int 0]))] ++ (Y_X4 G q5 u0) ++ (Y_X4 G q16 u1) ++ (Y_X5 G q27 u2) ++ (Y_X8 G q38 u3)) rfl ?_
  refine I_aload_n C 0 rfl rfl dX11_init_48 ?_
  refine I_new C (ci := 13) (fs := [.null, .int 0, .int 0, .int 0]) kin_X10 tyX10 tyX10_ok wcl_X11_33 wins_X10 wini_X10 rfl (fun j hj => by rcases (show j = 0 ∨ j = 1 ∨ j = 2 ∨ j = 3 by omega) with rfl | rfl | rfl | rfl <;> rfl) (by decide) (by decide) dX11_init_49 (fun q49 => ?_)
  refine I_dup C rfl dX11_init_52 ?_
  refine I_call C (X := _) (kim_X10_init l G st) rfl kyi_X10_init rfl wim_X10_init (Or.inr (by decide +kernel)) (by decide) (by decide) (by decide) (Nat.le_of_ble_eq_true rfl) dX11_init_53 (fun u4 => ?_)
  refine I_putF C (ci := 14) (v := .ref q49) kin_X11 rfl 0 rfl 4 (by decide) wf_X11_36 rfl tyX11 tyX11_ok nmX11 rfl rfl (ty := tyX11 4) (by decide +kernel) rfl rfl (Nat.le_of_ble_eq_true rfl) dX11_init_56 ?_
  refine I_ws (ws1 := [(h0, .inr (14, [.ref q5, .ref q16, .ref q27, .ref q38, .ref q49, .null, .null, .null, .int 0]))] ++ (Y_X4 G q5 u0) ++ (Y_X4 G q16 u1) ++ (Y_X5 G q27 u2) ++ (Y_X8 G q38 u3) ++ (Y_X10 G q49 u4)) rfl ?_
  refine I_aload_n C 0 rfl rfl dX11_init_59 ?_
  refine I_new C (ci := 6) (fs := [.null, .null, .int 0, .int 0, .int 0]) kin_X3 tyX3 tyX3_ok wcl_X11_40 wins_X3 wini_X3 rfl (fun j hj => by rcases (show j = 0 ∨ j = 1 ∨ j = 2 ∨ j = 3 ∨ j = 4 by omega) with rfl | rfl | rfl | rfl | rfl <;> rfl) (by decide) (by decide) dX11_init_60 (fun q60 => ?_)
  refine I_dup C rfl dX11_init_63 ?_
  refine I_call C (X := _) (kim_X3_init l G st) rfl kyi_X3_init rfl wim_X3_init (Or.inr (by decide +kernel)) (by decide) (by decide) (by decide) (Nat.le_of_ble_eq_true rfl) dX11_init_64 (fun u5 => ?_)
  refine I_putF C (ci := 14) (v := .ref q60) kin_X11 rfl 0 rfl 5 (by decide) wf_X11_43 rfl tyX11 tyX11_ok nmX11 rfl rfl (ty := tyX11 5) (by decide +kernel) rfl rfl (Nat.le_of_ble_eq_true rfl) dX11_init_67 ?_
  refine I_ws (ws1 := [(h0, .inr (14, [.ref q5, .ref q16, .ref q27, .ref q38, .ref q49, .ref q60, .null, .null, .int 0]))] ++ (Y_X4 G q5 u0) ++ (Y_X4 G q16 u1) ++ (Y_X5 G q27 u2) ++ (Y_X8 G q38 u3) ++ (Y_X10 G q49 u4) ++ (Y_X3 G q60 u5)) rfl ?_
  refine I_aload_n C 0 rfl rfl dX11_init_70 ?_
  refine I_new C (ci := 10) (fs := [.null, .null, .int 0]) kin_X7 tyX7 tyX7_ok wcl_X11_47 wins_X7 wini_X7 rfl (fun j hj => by rcases (show j = 0 ∨ j = 1 ∨ j = 2 by omega) with rfl | rfl | rfl <;> rfl) (by decide) (by decide) dX11_init_71 (fun q71 => ?_)
  refine I_dup C rfl dX11_init_74 ?_
  refine I_call C (X := _) (kim_X7_init l G st) rfl kyi_X7_init rfl wim_X7_init (Or.inr (by decide +kernel)) (by decide) (by decide) (by decide) (Nat.le_of_ble_eq_true rfl) dX11_init_75 (fun u6 => ?_)
  refine I_putF C (ci := 14) (v := .ref q71) kin_X11 rfl 0 rfl 6 (by decide) wf_X11_50 rfl tyX11 tyX11_ok nmX11 rfl rfl (ty := tyX11 6) (by decide +kernel) rfl rfl (Nat.le_of_ble_eq_true rfl) dX11_init_78 ?_
  refine I_ws (ws1 := [(h0, .inr (14, [.ref q5, .ref q16, .ref q27, .ref q38, .ref q49, .ref q60, .ref q71, .null, .int 0]))] ++ (Y_X4 G q5 u0) ++ (Y_X4 G q16 u1) ++ (Y_X5 G q27 u2) ++ (Y_X8 G q38 u3) ++ (Y_X10 G q49 u4) ++ (Y_X3 G q60 u5) ++ (Y_X7 G q71 u6)) rfl ?_
  refine I_aload_n C 0 rfl rfl dX11_init_81 ?_
  refine I_new C (ci := 4) (fs := [.null, .null]) kin_X1 tyX1 tyX1_ok wcl_X11_54 wins_X1 wini_X1 rfl (fun j hj => by rcases (show j = 0 ∨ j = 1 by omega) with rfl | rfl <;> rfl) (by decide) (by decide) dX11_init_82 (fun q82 => ?_)
  refine I_dup C rfl dX11_init_85 ?_
  refine I_call C (X := _) (kim_X1_init l G st) rfl kyi_X1_init rfl wim_X1_init (Or.inr (by decide +kernel)) (by decide) (by decide) (by decide) (Nat.le_of_ble_eq_true rfl) dX11_init_86 (fun u7 => ?_)
  refine I_putF C (ci := 14) (v := .ref q82) kin_X11 rfl 0 rfl 7 (by decide) wf_X11_57 rfl tyX11 tyX11_ok nmX11 rfl rfl (ty := tyX11 7) (by decide +kernel) rfl rfl (Nat.le_of_ble_eq_true rfl) dX11_init_89 ?_
  refine I_ws (ws1 := [(h0, .inr (14, [.ref q5, .ref q16, .ref q27, .ref q38, .ref q49, .ref q60, .ref q71, .ref q82, .int 0]))] ++ (Y_X4 G q5 u0) ++ (Y_X4 G q16 u1) ++ (Y_X5 G q27 u2) ++ (Y_X8 G q38 u3) ++ (Y_X10 G q49 u4) ++ (Y_X3 G q60 u5) ++ (Y_X7 G q71 u6) ++ (Y_X1 G q82 u7)) rfl ?_
  exact I_ret C (fun i => match i with | 0 => (fun k => match k with | 0 => q5 | k + 1 => u0 (k + 1)) | 1 => (fun k => match k with | 0 => q16 | k + 1 => u1 (k + 1)) | 2 => u2 0 | 3 => u2 1 | 4 => u2 2 | 5 => u2 3 | 6 => u2 4 | 7 => u2 5 | 8 => u2 6 | 9 => u2 7 | 10 => u2 8 | 11 => (fun k => match k with | 0 => q27 | _ => u2 9 0) | 12 => (fun k => match k with | 0 => q38 | k + 1 => u3 (k + 1)) | 13 => (fun k => match k with | 0 => q49 | k + 1 => u4 (k + 1)) | 14 => (fun k => match k with | 0 => q60 | k + 1 => u5 (k + 1)) | 15 => (fun k => match k with | 0 => q71 | k + 1 => u6 (k + 1)) | _ => (fun k => match k with | 0 => q82 | k + 1 => u7 (k + 1))) rfl (by decide) (by decide) dX11_init_92
