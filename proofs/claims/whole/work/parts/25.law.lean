/-! the law's body: the class's cells, the model's cells, and the two rows of answers -/
def AL (s : State) : Nat → Prop := fun q => s.heap.size ≤ q
def lws (G : kG) (ad1 ad2 : Nat → Nat) (cL cD : ClassId) (qo qd : Nat) (f g : kMem) (lo : Nat → Int64) (ld : Nat → UInt64) : va_W := kw (wC G ad1) f ++ (kw (wM G ad2) g ++ [(qo, oL cL lo), (qd, oD cD ld)])
def LC (p : Program) (l : Launch) (s : State) (m : MethodId) (meth : Method) (c : Code) (b L : Nat) (xs : Nat → Int32) (G : kG) (cL cD : ClassId) (ad1 ad2 : Nat → Nat) : Prop :=
  CallFix p m c code 9 s #[Value.ref b] kGT RL ∧ kLE (wC G ad1) cL cD (AL s) s s.heap ∧ kSA (wM G ad2) (AL s) s s.heap ∧ va_X b L xs s s.heap ∧ b < s.heap.size ∧ meth.sig.returnType = ret ∧ meth.locks = false ∧ l.stackTraces = false ∧ L ≤ 2560
def LJ (p : Program) (l : Launch) (e : Env) (s : State) (m : MethodId) (below : List Frame) (meth : Method) (c : Code) (b : Nat) (D : va_G) (ws : va_W) (k n pc : Nat) (lv : List (Nat × Value)) (st : List Value) : Prop :=
  ∀ (H : Heap) (locs : List Loc) (ls : Array Slot), va_P D vwCl ws H → va_D (AL s) ws → va_S (AL s) s.heap H locs → lv_has ls 9 lv → W p l e room_1 s m #[Value.ref b] below meth c H locs k n (lw_Z below #[Value.ref b] s) (F0 m pc ls st)
theorem vD_fst {A : Nat → Prop} {l1 l2 : va_W} (h : l1.map Prod.fst = l2.map Prod.fst) (hD : va_D A l1) : va_D A l2 := by
  have key : ∀ (i : Nat) (q : Nat × va_E), l2[i]? = some q → ∃ q', l1[i]? = some q' ∧ q'.1 = q.1 := fun i q hq => by
    have h1 : (l1.map Prod.fst)[i]? = some q.1 := by rw [h, List.getElem?_map, hq]; rfl
    rw [List.getElem?_map] at h1
    cases h2 : l1[i]? with
    | none => rw [h2] at h1; cases h1
    | some q' =>
      rw [h2] at h1
      exact ⟨q', rfl, Option.some.inj h1⟩
  refine ⟨fun i j a b ha hb e => ?_, fun i q hq => ?_⟩
  · obtain ⟨a', h1, h2⟩ := key i a ha
    obtain ⟨b', h3, h4⟩ := key j b hb
    exact hD.1 i j a' b' h1 h3 (by rw [h2, h4]; exact e)
  · obtain ⟨q', h1, h2⟩ := key i q hq
    rw [← h2]
    exact hD.2 i q' h1
theorem kw_fst {w : KW} {f g : kMem} : (kw w f).map Prod.fst = (kw w g).map Prod.fst := by simp [kw]
theorem kw_len {w : KW} {f : kMem} : (kw w f).length = kn w := by simp [kw]
theorem lws_o {G : kG} {ad1 ad2 : Nat → Nat} {cL cD : ClassId} {qo qd : Nat} {f g : kMem} {lo : Nat → Int64} {ld : Nat → UInt64} : (lws G ad1 ad2 cL cD qo qd f g lo ld)[303]? = some (qo, oL cL lo) := by
  unfold lws
  have h1 : (kw (wC G ad1) f).length = 292 := kw_len
  have h2 : (kw (wM G ad2) g).length = 11 := kw_len
  rw [List.getElem?_append_right (by omega), h1, List.getElem?_append_right (by omega), h2]
  rfl
theorem lws_d {G : kG} {ad1 ad2 : Nat → Nat} {cL cD : ClassId} {qo qd : Nat} {f g : kMem} {lo : Nat → Int64} {ld : Nat → UInt64} : (lws G ad1 ad2 cL cD qo qd f g lo ld)[304]? = some (qd, oD cD ld) := by
  unfold lws
  have h1 : (kw (wC G ad1) f).length = 292 := kw_len
  have h2 : (kw (wM G ad2) g).length = 11 := kw_len
  rw [List.getElem?_append_right (by omega), h1, List.getElem?_append_right (by omega), h2]
  rfl
theorem lws_1 {X Y : va_W} {x y : Nat × va_E} : (X ++ (Y ++ [x, y])).Perm ((X ++ [x]) ++ (Y ++ [y])) := by
  rw [List.append_assoc]
  exact List.Perm.append_left X List.perm_middle
theorem lws_2 {X Y : va_W} {x y : Nat × va_E} : (X ++ (Y ++ [x, y])).Perm ((X ++ [y]) ++ (Y ++ [x])) := by
  rw [List.append_assoc]
  exact List.Perm.append_left X ((List.Perm.append_left Y (List.Perm.swap y x [])).trans List.perm_middle)
theorem lws_3 {X Y Z : va_W} : (X ++ (Y ++ Z)).Perm (Y ++ (X ++ Z)) := by
  rw [← List.append_assoc, ← List.append_assoc]
  exact List.Perm.append_right Z List.perm_append_comm
theorem kMetV_i {l : Launch} {w : KW} {y : MethodName} {b : ByteArray} {nL : Nat} {ty : FieldType} {d : Nat} {av : List Value} {f : kMem} {r : Int32} {fo : kMem} (h : kMet l w y b nL (some ty) d av f r fo) : kMetV l w y b nL (some ty) d av f (.int r) fo := by
  intro sz
  intro p e ha hc hk s m args below hf happ hP hK
  obtain ⟨n, o, h1, h2, h3, hQ⟩ := h sz p e ha hc hk s m args below hf happ hP hK
  exact ⟨n, o, h1, h2, h3, hQ⟩
theorem kLblind {w : KW} {cL cD : ClassId} {qo : Nat} {f : kMem} {o : va_E} {av : List Value} {sz : Nat} : FrameBlind (va_Pc av (fun U => U.heap.size = sz ∧ va_P w.1.1 vwCl (kw w f ++ [(qo, o)]) U.heap ∧ va_D (fun _ => True) (kw w f ++ [(qo, o)]) ∧ kLE w cL cD (VA w qo U.heap.size) U U.heap)) := fun a U g mk q => by
  obtain ⟨q0, q1, qP, qD, qE⟩ := q
  exact ⟨q0, q1, qP, qD, kLE_same (s := U) (U := U.calling g mk a) rfl qE⟩
def kYL (y : MethodName) (b : ByteArray) (nL : Nat) (hh : List (Nat × Nat × Nat × Nat)) (n : Nat) : Prop := Cond.codeWith y b nL (some .int) hh ∈ kGT ∧ Cond.initialized y.cls ∈ kGT ∧ Cond.static y ∈ kGT ∧ (y.cls ≠ "java/lang/invoke/MethodHandle" ∧ y.cls ≠ "java/lang/invoke/VarHandle" ∧ (parseMethodDescriptor y.desc).map (fun d => d.parameters.length) = some n) ∧ nL ≤ 40
section LROWS
variable {p : Program} {l : Launch} {e : Env} {s : State} {m : MethodId} {below : List Frame} {meth : Method} {c : Code} {b L : Nat} {xs : Nat → Int32} {G : kG} {cL cD : ClassId} {ad1 ad2 : Nat → Nat} {qo qd : Nat} {f g : kMem} {lo : Nat → Int64} {ld : Nat → UInt64} {ws : va_W} {k n pc : Nat} {lv : List (Nat × Value)} {st rest : List Value}
theorem lv_lcmpx {R : Room} {args : Array Value} {H : Heap} {locs : List Loc} {Q : State → Prop} {ls : Array Slot} {cc : ByteArray} (hexec : p.tables.exec = Jvm.exec) (hb : c.code = cc) {x : Int64} (hdg : decode cc pc = .ok (.lcmp, 1)) (kk : W p l e R s m args below meth c H locs k n Q (F0 m (pc + 1) ls (.int 0 :: rest))) : W p l e R s m args below meth c H locs k n Q (F0 m pc ls (.long x :: .long x :: rest)) := by
  intro T hT X
  obtain ⟨t, a, b⟩ := kk T hT X
  refine ⟨t, ?_, b⟩
  have h1 : ¬ x > x := Int64.lt_irrefl
  have h2 : (x == x) = true := beq_self_eq_true x
  jvm_step X.here [X.here.top, hexec, hb, hdg, h1, h2]
  exact a
theorem L_perm {ws1 : va_W} (h : ws.Perm ws1) (kk : LJ p l e s m below meth c b G.1 ws1 k n pc lv st) : LJ p l e s m below meth c b G.1 ws k n pc lv st := fun H locs ls hP hD hS hl => kk H locs ls (vP_perm h hP) (vD_perm h hD) hS hl
theorem L_sub {lv1 : List (Nat × Value)} (ks : List Nat) (hk : lv_pick lv ks = lv1) (kk : LJ p l e s m below meth c b G.1 ws k n pc lv1 st) : LJ p l e s m below meth c b G.1 ws k n pc lv st := fun H locs ls hP hD hS hl => kk H locs ls hP hD hS (lv_sub hl ks hk)
theorem L_iconst (C : LC p l s m meth c b L xs G cL cD ad1 ad2) {i : Int} {v : Int32} (hdg : decode code pc = .ok (.iconst i, 1)) (hv : Int32.ofInt i = v) (kk : LJ p l e s m below meth c b G.1 ws k n (pc + 1) lv (.int v :: st)) : LJ p l e s m below meth c b G.1 ws k n pc lv st := fun H locs ls hP hD hS hl => lv_iconst C.1.1 C.1.2.1 hdg hv (kk H locs ls hP hD hS hl)
theorem L_bipush (C : LC p l s m meth c b L xs G cL cD ad1 ad2) {i : Int} {v : Int32} (hdg : decode code pc = .ok (.bipush i, 2)) (hv : (Int8.ofInt i).toInt32 = v) (kk : LJ p l e s m below meth c b G.1 ws k n (pc + 2) lv (.int v :: st)) : LJ p l e s m below meth c b G.1 ws k n pc lv st := fun H locs ls hP hD hS hl => lv_bipush C.1.1 C.1.2.1 hdg hv (kk H locs ls hP hD hS hl)
theorem L_iload (C : LC p l s m meth c b L xs G cL cD ad1 ad2) {i : Nat} {x : Int32} (q : Nat) (hq : lv[q]? = some (i, .int x)) (hdg : decode code pc = .ok (.iload i, 2)) (kk : LJ p l e s m below meth c b G.1 ws k n (pc + 2) lv (.int x :: st)) : LJ p l e s m below meth c b G.1 ws k n pc lv st := fun H locs ls hP hD hS hl => lv_iload C.1.1 C.1.2.1 hdg (lv_at hl q hq) (kk H locs ls hP hD hS hl)
theorem L_aload_n (C : LC p l s m meth c b L xs G cL cD ad1 ad2) {j : Fin 4} {i x : Nat} (q : Nat) (hi : (j : Nat) = i) (hq : lv[q]? = some (i, .ref x)) (hdg : decode code pc = .ok (.aload_n j, 1)) (kk : LJ p l e s m below meth c b G.1 ws k n (pc + 1) lv (.ref x :: st)) : LJ p l e s m below meth c b G.1 ws k n pc lv st := fun H locs ls hP hD hS hl => lv_aload_n C.1.1 C.1.2.1 hdg hi (lv_at hl q hq) (kk H locs ls hP hD hS hl)
theorem L_aload (C : LC p l s m meth c b L xs G cL cD ad1 ad2) {i x : Nat} (q : Nat) (hq : lv[q]? = some (i, .ref x)) (hdg : decode code pc = .ok (.aload i, 2)) (kk : LJ p l e s m below meth c b G.1 ws k n (pc + 2) lv (.ref x :: st)) : LJ p l e s m below meth c b G.1 ws k n pc lv st := fun H locs ls hP hD hS hl => lv_aload C.1.1 C.1.2.1 hdg (lv_at hl q hq) (kk H locs ls hP hD hS hl)
theorem L_fload (C : LC p l s m meth c b L xs G cL cD ad1 ad2) {i : Nat} {x : UInt32} (q : Nat) (hq : lv[q]? = some (i, .float x)) (hdg : decode code pc = .ok (.fload i, 2)) (kk : LJ p l e s m below meth c b G.1 ws k n (pc + 2) lv (.float x :: st)) : LJ p l e s m below meth c b G.1 ws k n pc lv st := fun H locs ls hP hD hS hl => lv_fload C.1.1 C.1.2.1 hdg (lv_at hl q hq) (kk H locs ls hP hD hS hl)
theorem L_dload (C : LC p l s m meth c b L xs G cL cD ad1 ad2) {i : Nat} {x : UInt64} (q : Nat) (hq : lv[q]? = some (i, .double x)) (hdg : decode code pc = .ok (.dload i, 2)) (kk : LJ p l e s m below meth c b G.1 ws k n (pc + 2) lv (.double x :: st)) : LJ p l e s m below meth c b G.1 ws k n pc lv st := fun H locs ls hP hD hS hl => lv_dload C.1.1 C.1.2.1 hdg (lv_at hl q hq) (kk H locs ls hP hD hS hl)
theorem L_istore (C : LC p l s m meth c b L xs G cL cD ad1 ad2) {i : Nat} {x : Int32} {lv1 : List (Nat × Value)} (hn : i < 9) (hl1 : (i, Value.int x) :: lv.filter (fun q => !(q.1 == i) && !(q.1 + 1 == i && q.2.category == 2)) = lv1) (hdg : decode code pc = .ok (.istore i, 2)) (kk : LJ p l e s m below meth c b G.1 ws k n (pc + 2) lv1 st) : LJ p l e s m below meth c b G.1 ws k n pc lv (.int x :: st) := fun H locs ls hP hD hS hl => lv_istore C.1.1 C.1.2.1 hdg hl hn hl1 (fun ls1 hl2 => kk H locs ls1 hP hD hS hl2)
theorem L_fstore (C : LC p l s m meth c b L xs G cL cD ad1 ad2) {i : Nat} {x : UInt32} {lv1 : List (Nat × Value)} (hn : i < 9) (hl1 : (i, Value.float x) :: lv.filter (fun q => !(q.1 == i) && !(q.1 + 1 == i && q.2.category == 2)) = lv1) (hdg : decode code pc = .ok (.fstore i, 2)) (kk : LJ p l e s m below meth c b G.1 ws k n (pc + 2) lv1 st) : LJ p l e s m below meth c b G.1 ws k n pc lv (.float x :: st) := fun H locs ls hP hD hS hl => lv_fstore C.1.1 C.1.2.1 hdg hl hn hl1 (fun ls1 hl2 => kk H locs ls1 hP hD hS hl2)
theorem L_dstore (C : LC p l s m meth c b L xs G cL cD ad1 ad2) {i : Nat} {x : UInt64} {lv1 : List (Nat × Value)} (hn : i + 1 < 9) (hl1 : (i, Value.double x) :: lv.filter (fun q => !(q.1 == i) && (!(q.1 == i + 1) && !(q.1 + 1 == i && q.2.category == 2))) = lv1) (hdg : decode code pc = .ok (.dstore i, 2)) (kk : LJ p l e s m below meth c b G.1 ws k n (pc + 2) lv1 st) : LJ p l e s m below meth c b G.1 ws k n pc lv (.double x :: st) := fun H locs ls hP hD hS hl => lv_dstore C.1.1 C.1.2.1 hdg hl hn hl1 (fun ls1 hl2 => kk H locs ls1 hP hD hS hl2)
theorem L_astore (C : LC p l s m meth c b L xs G cL cD ad1 ad2) {i x : Nat} {lv1 : List (Nat × Value)} (hn : i < 9) (hl1 : (i, Value.ref x) :: lv.filter (fun q => !(q.1 == i) && !(q.1 + 1 == i && q.2.category == 2)) = lv1) (hdg : decode code pc = .ok (.astore i, 2)) (kk : LJ p l e s m below meth c b G.1 ws k n (pc + 2) lv1 st) : LJ p l e s m below meth c b G.1 ws k n pc lv (.ref x :: st) := fun H locs ls hP hD hS hl => lv_astore C.1.1 C.1.2.1 hdg hl hn hl1 (fun ls1 hl2 => kk H locs ls1 hP hD hS hl2)
theorem L_iadd (C : LC p l s m meth c b L xs G cL cD ad1 ad2) {x y v : Int32} (hv : x + y = v) (hdg : decode code pc = .ok (.iadd, 1)) (kk : LJ p l e s m below meth c b G.1 ws k n (pc + 1) lv (.int v :: st)) : LJ p l e s m below meth c b G.1 ws k n pc lv (.int y :: .int x :: st) := by subst hv; exact fun H locs ls hP hD hS hl => lv_iadd C.1.1 C.1.2.1 hdg (kk H locs ls hP hD hS hl)
theorem L_isub (C : LC p l s m meth c b L xs G cL cD ad1 ad2) {x y : Int32} (hdg : decode code pc = .ok (.isub, 1)) (kk : LJ p l e s m below meth c b G.1 ws k n (pc + 1) lv (.int (x - y) :: st)) : LJ p l e s m below meth c b G.1 ws k n pc lv (.int y :: .int x :: st) := fun H locs ls hP hD hS hl => lv_isub C.1.1 C.1.2.1 hdg (kk H locs ls hP hD hS hl)
theorem L_iand (C : LC p l s m meth c b L xs G cL cD ad1 ad2) {x y : Int32} (hdg : decode code pc = .ok (.iand, 1)) (kk : LJ p l e s m below meth c b G.1 ws k n (pc + 1) lv (.int (x &&& y) :: st)) : LJ p l e s m below meth c b G.1 ws k n pc lv (.int y :: .int x :: st) := fun H locs ls hP hD hS hl => lv_iand C.1.1 C.1.2.1 hdg (kk H locs ls hP hD hS hl)
theorem L_i2c (C : LC p l s m meth c b L xs G cL cD ad1 ad2) {x : Int32} (hdg : decode code pc = .ok (.i2c, 1)) (kk : LJ p l e s m below meth c b G.1 ws k n (pc + 1) lv (.int (x.toUInt32 % 65536).toInt32 :: st)) : LJ p l e s m below meth c b G.1 ws k n pc lv (.int x :: st) := fun H locs ls hP hD hS hl => lv_i2c C.1.1 C.1.2.1 hdg rfl (kk H locs ls hP hD hS hl)
theorem L_i2l (C : LC p l s m meth c b L xs G cL cD ad1 ad2) {x : Int32} (hdg : decode code pc = .ok (.i2l, 1)) (kk : LJ p l e s m below meth c b G.1 ws k n (pc + 1) lv (.long x.toInt64 :: st)) : LJ p l e s m below meth c b G.1 ws k n pc lv (.int x :: st) := fun H locs ls hP hD hS hl => lv_i2l C.1.1 C.1.2.1 hdg rfl (kk H locs ls hP hD hS hl)
theorem L_lcmp (C : LC p l s m meth c b L xs G cL cD ad1 ad2) {x : Int64} (hdg : decode code pc = .ok (.lcmp, 1)) (kk : LJ p l e s m below meth c b G.1 ws k n (pc + 1) lv (.int 0 :: st)) : LJ p l e s m below meth c b G.1 ws k n pc lv (.long x :: .long x :: st) := fun H locs ls hP hD hS hl => lv_lcmpx C.1.1 C.1.2.1 hdg (kk H locs ls hP hD hS hl)
theorem L_dcmp (C : LC p l s m meth c b L xs G cL cD ad1 ad2) {x y : UInt64} {op : CmpOp} (hdg : decode code pc = .ok (.dcmp op, 1)) (kk : LJ p l e s m below meth c b G.1 ws k n (pc + 1) lv (.int (Op.cmpValue (FP.dcmp x y) op) :: st)) : LJ p l e s m below meth c b G.1 ws k n pc lv (.double y :: .double x :: st) := fun H locs ls hP hD hS hl => lv_dcmp C.1.1 C.1.2.1 hdg (kk H locs ls hP hD hS hl)
theorem L_f2d (C : LC p l s m meth c b L xs G cL cD ad1 ad2) {x : UInt32} (hx : vf_n64 (FP.f2d x)) (hdg : decode code pc = .ok (.f2d, 1)) (kk : LJ p l e s m below meth c b G.1 ws k n (pc + 1) lv (.double (FP.f2d x) :: st)) : LJ p l e s m below meth c b G.1 ws k n pc lv (.float x :: st) := fun H locs ls hP hD hS hl => lv_f2d C.1.1 C.1.2.1 hdg hx (kk H locs ls hP hD hS hl)
theorem L_goto (C : LC p l s m meth c b L xs G cL cD ad1 ad2) {off : Int} {tgt : Nat} (ht : (pc : Int) + off = (tgt : Int)) (hdg : decode code pc = .ok (.goto off, 3)) (kk : LJ p l e s m below meth c b G.1 ws k n tgt lv st) : LJ p l e s m below meth c b G.1 ws k n pc lv st := fun H locs ls hP hD hS hl => lv_goto C.1.1 C.1.2.1 hdg ht (kk H locs ls hP hD hS hl)
theorem L_iinc (C : LC p l s m meth c b L xs G cL cD ad1 ad2) {i q : Nat} {z : Int} {x v : Int32} {lv1 : List (Nat × Value)} (hk : lv[q]? = some (i, .int x)) (hv : x + Int32.ofInt z = v) (hn : i < 9) (hl1 : (i, Value.int v) :: lv.filter (fun q => !(q.1 == i) && !(q.1 + 1 == i && q.2.category == 2)) = lv1) (hdg : decode code pc = .ok (.iinc i z, 3)) (kk : LJ p l e s m below meth c b G.1 ws k n (pc + 3) lv1 st) : LJ p l e s m below meth c b G.1 ws k n pc lv st := fun H locs ls hP hD hS hl => lv_iinc C.1.1 C.1.2.1 hdg hl hk hv hn hl1 (fun ls1 hl2 => kk H locs ls1 hP hD hS hl2)
theorem L_if_eq (C : LC p l s m meth c b L xs G cL cD ad1 ad2) {x : Int32} {off : Int} {tgt : Nat} (ht : (pc : Int) + off = (tgt : Int)) (hdg : decode code pc = .ok (.ifCond .eq off, 3)) (kt : x = 0 → LJ p l e s m below meth c b G.1 ws k n tgt lv st) (kf : ¬ x = 0 → LJ p l e s m below meth c b G.1 ws k n (pc + 3) lv st) : LJ p l e s m below meth c b G.1 ws k n pc lv (.int x :: st) := fun H locs ls hP hD hS hl => lv_if_eq C.1.1 C.1.2.1 hdg ht (fun h => kt h H locs ls hP hD hS hl) (fun h => kf h H locs ls hP hD hS hl)
theorem L_if_ne (C : LC p l s m meth c b L xs G cL cD ad1 ad2) {x : Int32} {off : Int} {tgt : Nat} (ht : (pc : Int) + off = (tgt : Int)) (hdg : decode code pc = .ok (.ifCond .ne off, 3)) (kt : x ≠ 0 → LJ p l e s m below meth c b G.1 ws k n tgt lv st) (kf : x = 0 → LJ p l e s m below meth c b G.1 ws k n (pc + 3) lv st) : LJ p l e s m below meth c b G.1 ws k n pc lv (.int x :: st) := fun H locs ls hP hD hS hl => lv_if_ne C.1.1 C.1.2.1 hdg ht (fun h => kt h H locs ls hP hD hS hl) (fun h => kf (by first | exact h | exact Decidable.not_not.mp h) H locs ls hP hD hS hl)
theorem L_icmpeq (C : LC p l s m meth c b L xs G cL cD ad1 ad2) {x y : Int32} {off : Int} {tgt : Nat} (hxy : x = y) (ht : (pc : Int) + off = (tgt : Int)) (hdg : decode code pc = .ok (.if_icmp .eq off, 3)) (kt : LJ p l e s m below meth c b G.1 ws k n tgt lv st) : LJ p l e s m below meth c b G.1 ws k n pc lv (.int y :: .int x :: st) := fun H locs ls hP hD hS hl => lv_icmp_eq C.1.1 C.1.2.1 hdg ht (fun _ => kt H locs ls hP hD hS hl) (fun h => absurd hxy h)
theorem L_icmpgt (C : LC p l s m meth c b L xs G cL cD ad1 ad2) {x y : Int32} {off : Int} {tgt : Nat} (ht : (pc : Int) + off = (tgt : Int)) (hdg : decode code pc = .ok (.if_icmp .gt off, 3)) (kt : y < x → LJ p l e s m below meth c b G.1 ws k n tgt lv st) (kf : ¬ y < x → LJ p l e s m below meth c b G.1 ws k n (pc + 3) lv st) : LJ p l e s m below meth c b G.1 ws k n pc lv (.int y :: .int x :: st) := fun H locs ls hP hD hS hl => lv_icmp_gt C.1.1 C.1.2.1 hdg ht (fun h => kt h H locs ls hP hD hS hl) (fun h => kf h H locs ls hP hD hS hl)
theorem L_sld (C : LC p l s m meth c b L xs G cL cD ad1 ad2) {x : Int32} {q : Nat} (hx : x = nI q) (hq : q < L) (hdg : decode code pc = .ok (.iaload, 1)) (kk : LJ p l e s m below meth c b G.1 ws k n (pc + 1) lv (.int (xs q) :: st)) : LJ p l e s m below meth c b G.1 ws k n pc lv (.int x :: .ref b :: st) := by
  intro H locs ls hP hD hS hl
  have hL := C.2.2.2.2.2.2.2.2
  refine va_sld C.1.1 C.1.2.1 C.2.2.2.1 C.2.2.2.2.1 (Nat.not_le.mpr C.2.2.2.2.1) hS (i := x) (by rw [hx]; exact vp_in_nI hq (by omega)) hdg ?_
  rw [hx, nI_clamp (by omega)]
  exact kk H locs ls hP hD hS hl
theorem L_slen (C : LC p l s m meth c b L xs G cL cD ad1 ad2) (hdg : decode code pc = .ok (.arraylength, 1)) (kk : LJ p l e s m below meth c b G.1 ws k n (pc + 1) lv (.int (nI L) :: st)) : LJ p l e s m below meth c b G.1 ws k n pc lv (.ref b :: st) := fun H locs ls hP hD hS hl => va_slen C.1.1 C.1.2.1 C.2.2.2.1 C.2.2.2.2.1 (Nat.not_le.mpr C.2.2.2.2.1) hS hdg (kk H locs ls hP hD hS hl)
theorem L_lald (C : LC p l s m meth c b L xs G cL cD ad1 ad2) (hdg : decode code pc = .ok (.laload, 1)) (kk : LJ p l e s m below meth c b G.1 (lws G ad1 ad2 cL cD qo qd f g lo ld) k n (pc + 1) lv (.long (lo 0) :: st)) : LJ p l e s m below meth c b G.1 (lws G ad1 ad2 cL cD qo qd f g lo ld) k n pc lv (.int 0 :: .ref qo :: st) := fun H locs ls hP hD hS hl => va_lald C.1.1 C.1.2.1 C.2.1.1 hP 303 3 lws_o rfl (kin_in (by decide)) hdg (kk H locs ls hP hD hS hl)
theorem L_dald (C : LC p l s m meth c b L xs G cL cD ad1 ad2) (hdg : decode code pc = .ok (.daload, 1)) (kk : LJ p l e s m below meth c b G.1 (lws G ad1 ad2 cL cD qo qd f g lo ld) k n (pc + 1) lv (.double (ld 0) :: st)) : LJ p l e s m below meth c b G.1 (lws G ad1 ad2 cL cD qo qd f g lo ld) k n pc lv (.int 0 :: .ref qd :: st) := fun H locs ls hP hD hS hl => va_dald C.1.1 C.1.2.1 C.2.1.1 hP 304 4 lws_d rfl (kin_in (by decide)) hdg (kk H locs ls hP hD hS hl)
theorem L_end (C : LC p l s m meth c b L xs G cL cD ad1 ad2) (hk : k ≤ 603072) (hn : n ≤ 7194730) (hdg : decode code pc = .ok (.ireturn, 1)) : LJ p l e s m below meth c b G.1 ws k n pc lv [.int 1] := fun H locs ls hP hD hS hl => by
  refine va_forget (fun q hq => hS.2.2 q hq) ?_
  refine W.widen (k := 603072) (n := 7194730) hk hn ?_
  exact W.base (lw_ret (d0 := s.drawn) (Drawn.sameBut.refl s.drawn lw_cs) C.1.1 C.1.2.1 C.2.2.2.2.2.1 C.2.2.2.2.2.2.1 hdg)
/-- one of the law's own helpers is called -/
theorem L_wrap (C : LC p l s m meth c b L xs G cL cD ad1 ad2) {y : MethodName} {cc : ByteArray} {nL : Nat} {hh : List (Nat × Nat × Nat × Nat)} {d nA idx : Nat} {av : List Value} {o oo : va_E} {kr : Int32} {fo : kMem} {wr : va_W} {q0 : Nat} (hM : kLMet l (wC G ad1) cL cD q0 y cc nL hh d av f o kr fo oo) (hY : kYL y cc nL hh nA) (hlink : Cond.methodLink RL idx y ∈ kGT) (hd : d ≤ 60) (hnA : av.length = nA) (hk : k + 2 ≤ 603072) (hn : n + 12 ≤ 7194730) (hdg : decode code pc = .ok (.invokestatic idx, 3)) (hst : st = av.reverse ++ rest) (hrest : (rest.map fun v => v.category).sum ≤ 8)
    (kk : LJ p l e s m below meth c b G.1 ((kw (wC G ad1) fo ++ [(q0, oo)]) ++ wr) (k + 2) (n + 12) (pc + 3) lv (.int kr :: rest)) : LJ p l e s m below meth c b G.1 ((kw (wC G ad1) f ++ [(q0, o)]) ++ wr) k n pc lv st := by
  intro H locs ls hP hD hS hl
  subst hst
  have hts := C.1.2.2.2.2
  have hin : ∀ x ∈ kw (wC G ad1) f ++ [(q0, o)], AL s x.1 := fun x hx => by
    obtain ⟨i, hi⟩ := List.getElem?_of_mem (List.mem_append_left wr hx)
    exact hD.2 i x hi
  have hsub : ∀ q, VA (wC G ad1) q0 H.size q → AL s q := fun q h => by
    rcases h with (⟨a, ha, rfl⟩ | h) | rfl
    · exact hin _ (List.mem_append_left _ (kw_in ha))
    · exact Nat.le_trans hS.1 h
    · exact hin (q, o) (by simp)
  have hgood : GoodIn kGT (va_wsS RL idx y (.codeWith y cc nL (some .int) hh :: kGT)) := kgt_good (fun z hz => by
    simp only [va_wsS, List.cons_append, List.nil_append, List.mem_cons] at hz
    rcases hz with rfl | rfl | rfl | rfl | hz
    · exact hlink
    · exact hY.2.2.1
    · exact hY.2.1
    · exact hY.1
    · exact hz)
  have hPw : va_P (wC G ad1).1.1 vwCl (kw (wC G ad1) f ++ [(q0, o)]) H := vP_mem.mpr fun q hq => vP_mem.mp hP q (List.mem_append_left _ hq)
  have hDw : va_D (fun _ => True) (kw (wC G ad1) f ++ [(q0, o)]) := ⟨(vD_app.mp hD).1.1, fun _ _ _ => trivial⟩
  have hrun := vx_runSW (As := av) (rest := rest) (n := nA) (g := F0 m pc ls (av.reverse ++ rest)) (H := H) (locs := locs) (cells := k) (slots := n) (e := e) (below := below) (meth := meth) (R := room_1) C.1 (hM H.size) (vx_cwSW nA hts hgood rfl rfl rfl hY.2.2.2.1 ⟨by show d + 1 ≤ 2048; omega, by have := hY.2.2.2.2; show 8 + (nL + 11) + 64 * d ≤ 94400; omega⟩) ⟨kLblind, fun U hU hW => ⟨rfl, by rw [hU], by rw [hU]; exact hPw, hDw, kLE_to hW (by rw [hU]; exact hS.2.1) (fun q h => hsub q (by rw [hU] at h; exact h)) C.2.1⟩⟩ rfl hnA (hl.1.trans rfl) rfl (lv_room hrest) hdg ⟨hk, hn⟩
  intro T hT X
  obtain ⟨v, st₀, t, T', L9, h0, X', hL9, e1, e2, ⟨hv, hp, hz, hk9⟩, hgo⟩ := hrun T hT X
  injection hv with hv
  subst hv
  rw [h0] at hz hk9
  have hD1 : va_D (AL s) (kw (wC G ad1) fo ++ [(q0, oo)]) := vD_fst (by rw [List.map_append, List.map_append, kw_fst]; rfl) (vD_app.mp hD).1
  obtain ⟨hP2, hD2⟩ := vframe (Ac := VA (wC G ad1) q0 H.size) (wc1 := kw (wC G ad1) fo ++ [(q0, oo)]) (H1 := T'.heap) hP hD (fun q h1 h2 => by rw [e1]; exact hk9 q h1 h2) (fun q h => by
    rcases h with (⟨a, ha, rfl⟩ | h) | rfl
    · exact Or.inl ⟨_, List.mem_append_left _ (kw_in ha), rfl⟩
    · exact Or.inr h
    · exact Or.inl ⟨(q, o), by simp, rfl⟩) (by rw [e1]; exact hp) hD1 (fun x hx => by
    rcases List.mem_append.mp hx with h | h
    · obtain ⟨a, ha, rfl⟩ := kw_mem h
      exact Or.inl (Or.inl ⟨a, ha, rfl⟩)
    · simp at h
      rw [h]
      exact Or.inr rfl)
  obtain ⟨t2, a1, b1⟩ := kk T'.heap (locs ++ L9) ls hP2 hD2 ⟨Nat.le_trans hS.1 (by rw [e1]; exact hz), fun q h1 h2 => by rw [e1, hk9 q (Nat.lt_of_lt_of_le h1 hS.1) (fun z => h2 (hsub q z))]; exact hS.2.1 q h1 h2, fun q hq => by
      rcases List.mem_append.mp hq with h | h
      · exact hS.2.2 q h
      · exact hsub _ (hL9 q h)⟩ hl T' rfl X'
  exact ⟨t2, hgo t2 a1, b1⟩
/-- a method that throws nothing is called: of the class or of the model -/
theorem L_call (C : LC p l s m meth c b L xs G cL cD ad1 ad2) {w : KW} (hw : w.1 = G) (hSA : kSA w (AL s) s s.heap) {y : MethodName} {b1 : ByteArray} {nL1 : Nat} {ty : FieldType} {d1 idx n1 a ci : Nat} {As : List Value} {v : Value} {fo : kMem} {wr : va_W} {fl : List (Option Nat)} {T1 : u_T} {N1 : Nat} (ha : a < kn w) (hsh : ksh w a = .inr (ci, fl)) (hci : vwCl[ci]? = some (y.cls, T1, N1)) (hM : kMetV l w y b1 nL1 (some ty) d1 (.ref (kad w a) :: As) f v fo) (hY : kYV y b1 nL1 (some ty) n1) (hlink : Cond.methodLink RL idx y ∈ kGT) (hd : d1 ≤ 60) (hnA : As.length = n1) (hk : k ≤ 603072) (hn : n ≤ 7194730) (hdg : decode code pc = .ok (.invokevirtual idx, 3)) (hst : st = As.reverse ++ .ref (kad w a) :: rest) (hrest : (rest.map fun v => v.category).sum ≤ 8)
    (kk : LJ p l e s m below meth c b G.1 (kw w fo ++ wr) k n (pc + 3) lv (v :: rest)) : LJ p l e s m below meth c b G.1 (kw w f ++ wr) k n pc lv st := by
  intro H locs ls hP hD hS hl
  subst hst
  subst hw
  have hts := C.1.2.2.2.2
  have hin : ∀ x ∈ kw w f, AL s x.1 := fun x hx => by
    obtain ⟨i, hi⟩ := List.getElem?_of_mem (List.mem_append_left wr hx)
    exact hD.2 i x hi
  have hsub : ∀ q, kA w H.size q → AL s q := fun q h => by
    rcases h with ⟨a, ha, rfl⟩ | h
    · exact hin _ (kw_in ha)
    · exact Nat.le_trans hS.1 h
  have hPw : va_P w.1.1 vwCl (kw w f) H := vP_mem.mpr fun q hq => vP_mem.mp hP q (List.mem_append_left _ hq)
  have hDw : va_D (fun _ => True) (kw w f) := ⟨(vD_app.mp hD).1.1, fun _ _ _ => trivial⟩
  have hK3 : va_K w.1.1 vwCl (ktys w) s := (show va_K w.1.1 vwCl (ktyL w.1 cL cD) s from C.2.1.1).sub [0, 1, 2] rfl
  have hR : (kRm d1 0 0).frames + 1 ≤ room_1.frames ∧ 8 + (nL1 + 11) + (kRm d1 0 0).locals ≤ room_1.locals := ⟨by show d1 + 1 ≤ 2048; omega, by have := hY.1.2.2.2; show 8 + (nL1 + 11) + 64 * d1 ≤ 94400; omega⟩
  have hrun := va_runV (C := y.cls) (As := As) (rest := rest) (g := F0 m pc ls (As.reverse ++ .ref (kad w a) :: rest)) (H := H) (locs := locs) (cells := k) (slots := n) (e := e) (below := below) (meth := meth) (R := room_1) C.1 (hM H.size) ⟨(callB_of n1 hts (kcode_in hY.1.1) rfl rfl rfl (hts _ hY.1.2.1) (hts _ hlink) hY.1.2.2.1 hR), hts _ hY.2.1, hts _ hY.2.2⟩ ⟨kblind, va_recv hK3 hPw hci (kw_obj ha hsh), fun U hU hW => ⟨rfl, by rw [hU], by rw [hU]; exact hPw, va_K.moved hW.alike hK3, hDw, kNW_moved hW C.2.1.2.1, kSA_kS (kSA_to hW.alike (by rw [hU]; exact hS.2.1) (fun q h => hsub q (by rw [hU] at h; exact h)) hSA)⟩⟩ rfl hnA (hl.1.trans rfl) rfl (lv_room hrest) hdg ⟨hk, hn⟩
  intro T hT X
  obtain ⟨v9, st₀, t, T', L9, h0, X', hL9, e1, e2, ⟨hv, hp, hz, hk9⟩, hgo⟩ := hrun T hT X
  injection hv with hv
  subst hv
  rw [h0] at hz hk9
  obtain ⟨hP2, hD2⟩ := kframe (f1 := fo) (H1 := T'.heap) hP hD (fun q h1 h2 => by rw [e1]; exact hk9 q h1 h2) (by rw [e1]; exact hp)
  obtain ⟨t2, a1, b1⟩ := kk T'.heap (locs ++ L9) ls hP2 hD2 ⟨Nat.le_trans hS.1 (by rw [e1]; exact hz), fun q h1 h2 => by rw [e1, hk9 q (Nat.lt_of_lt_of_le h1 hS.1) (fun z => h2 (hsub q z))]; exact hS.2.1 q h1 h2, fun q hq => by
      rcases List.mem_append.mp hq with h | h
      · exact hS.2.2 q h
      · exact hsub _ (hL9 q h)⟩ hl T' rfl X'
  exact ⟨t2, hgo t2 a1, b1⟩
end LROWS
