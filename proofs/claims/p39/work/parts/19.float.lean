/-! methods that answer a float or a double -/
def kQV (w : KW) (v : Value) (fo : kMem) (sz : Nat) : Array Value → State → Outcome → State → Prop := fun _ st oc t => oc = .returned (some v) ∧ va_P w.1.1 vwCl (kw w fo) t.heap ∧ va_F (kA w sz) st t
def kMetV (l : Launch) (w : KW) (y : MethodName) (b : ByteArray) (nL : Nat) (ret : Option FieldType) (d : Nat) (av : List Value) (f : kMem) (v : Value) (fo : kMem) : Prop :=
  ∀ sz, Met l y (.code y b nL ret :: kGT) (kRm d 0 0) (va_Pc av (fun U => U.heap.size = sz ∧ kB w f U)) (kQV w v fo sz) 0 0 (kA w sz)
def kQFV (below : List Frame) (w : KW) (args : Array Value) (s : State) (z : Value × kMem) : State → Prop := MQ below (kQV w z.1 z.2 s.heap.size) args s 0 0 (kA w s.heap.size)
theorem kMetV_of {l : Launch} {w : KW} {y : MethodName} {b : ByteArray} {nL : Nat} {ret : Option FieldType} {d : Nat} {av : List Value} {lv : List (Nat × Value)} {f : kMem} {r : Value} {fo : kMem} {X : Option (Value × kMem)} {own : String}
    (hy : plainName y.cls = true) (how : y.cls = own) (hn : (lg_sl av).length ≤ nL) (hlv : lv_args 0 av = lv) (hX : X = some (r, fo))
    (body : ∀ (p : Program) (e : Env) (R : Room) (s : State) (m : MethodId) (args : Array Value) (below : List Frame) (meth : Method) (c : Code), KC p l e R s m args below meth c w own b nL ret d 0 0 → K p l e R s m args below meth c w nL (kQFV below w args s (r, fo)) (r, fo) 0 0 f 0 lv [] X) : kMetV l w y b nL ret d av f r fo := by
  intro sz
  refine Met.ofW (cc := b) (maxL := nL) (ret := ret) hy rfl ?_
  intro p e s m args below meth c s₁ B hml hv
  obtain ⟨rfl, hsz, hP, hK, hD0, hN, hST⟩ := hv
  have hts := atoms_spec (ws := .code y b nL ret :: kGT) B.pre
  have hown : s.vm.findClass y.cls = some m.cls := findClass_of_methodNamed B.named
  subst hsz
  subst how
  have hl := lv_entry av (n := nL) hn
  rw [lg_entry_eq]
  rw [hlv] at hl
  exact body p e _ s m _ below meth c ⟨⟨B.exec, B.bytes, hml, hown, fun w hw => hts w (List.mem_cons_of_mem _ hw)⟩, hK, hN, hST, kw_DA hD0, B.returns, B.notSynchronized, rfl⟩ hX s.heap [] _ hP va_S.rf hl
def kxQV (w : KW) (z : Nat × Value × kMem) (sz : Nat) : Array Value → State → Outcome → State → Prop := fun _ st oc t => z.1 = 0 ∧ oc = .returned (some z.2.1) ∧ va_P w.1.1 vwCl (kw w z.2.2) t.heap ∧ va_F (kA w sz) st t
def kxCV (w : KW) (z : Nat × Value × kMem) (sz : Nat) : String → State → State → Prop := fun E st t => z.1 ≠ 0 ∧ E = kE z.1 ∧ va_P w.1.1 vwCl (kw w z.2.2) t.heap ∧ va_F (kA w sz) st t
def kxMetV (l : Launch) (w : KW) (y : MethodName) (b : ByteArray) (nL : Nat) (ret : Option FieldType) (d mc ms : Nat) (av : List Value) (f : kMem) (z : Nat × Value × kMem) : Prop :=
  ∀ sz, vx_Met l y (.code y b nL ret :: kGT) (kRm d mc ms) (va_Pc av (fun U => U.heap.size = sz ∧ kBx w f U)) (kxQV w z sz) (kxCV w z sz) mc ms (kA w sz)
def kxQFV (below : List Frame) (w : KW) (args : Array Value) (s : State) (mc ms : Nat) (z : Nat × Value × kMem) : State → Prop := vx_MQ below (kxQV w z s.heap.size) (kxCV w z s.heap.size) args s mc ms (kA w s.heap.size)
theorem kxMetV_of {l : Launch} {w : KW} {y : MethodName} {b : ByteArray} {nL : Nat} {ret : Option FieldType} {d mc ms : Nat} {av : List Value} {lv : List (Nat × Value)} {f : kMem} {z : Nat × Value × kMem} {X : Option (Nat × Value × kMem)} {own : String} (hst : l.stackTraces = false)
    (hy : plainName y.cls = true) (how : y.cls = own) (hn : (lg_sl av).length ≤ nL) (hlv : lv_args 0 av = lv) (hX : X = some z)
    (body : ∀ (p : Program) (e : Env) (R : Room) (s : State) (m : MethodId) (args : Array Value) (below : List Frame) (meth : Method) (c : Code), KCX p l e R s m args below meth c w own b nL ret d mc ms → K p l e R s m args below meth c w nL (kxQFV below w args s mc ms z) z 0 0 f 0 lv [] X) : kxMetV l w y b nL ret d mc ms av f z := by
  intro sz
  refine vx_ofW (cc := b) (maxL := nL) (ret := ret) hy rfl ?_
  intro p e s m args below meth c s₁ B hml ht hv
  obtain ⟨rfl, hsz, ⟨hP, hK, hD0, hN, hST⟩, hXP⟩ := hv
  have hts := atoms_spec (ws := .code y b nL ret :: kGT) B.pre
  have hown : s.vm.findClass y.cls = some m.cls := findClass_of_methodNamed B.named
  subst hsz
  subst how
  have hl := lv_entry av (n := nL) hn
  rw [lg_entry_eq]
  rw [hlv] at hl
  exact body p e _ s m _ below meth c ⟨⟨⟨B.exec, B.bytes, hml, hown, fun w hw => hts w (List.mem_cons_of_mem _ hw)⟩, hK, hN, hST, kw_DA hD0, B.returns, B.notSynchronized, rfl⟩, hXP, hst, ht⟩ hX s.heap [] _ hP va_S.rf hl
section KFROWS
variable {p : Program} {l : Launch} {e : Env} {R : Room} {s : State} {m : MethodId} {args : Array Value} {below : List Frame} {meth : Method} {c : Code} {w : KW} {own : String} {cc : ByteArray} {nL : Nat} {ret : Option FieldType} {d mc ms : Nat} {ρ : Type} {QF : State → Prop} {z : ρ} {zv : Value × kMem} {zz : Nat × Value × kMem} {k0 n0 : Nat} {f : kMem} {pc : Nat} {lv : List (Nat × Value)} {st : List Value} {X : Option ρ}
theorem K_i2f (C : KC p l e R s m args below meth c w own cc nL ret d mc ms) {x : Int32} (hdg : decode cc pc = .ok (.i2f, 1)) (kk : K p l e R s m args below meth c w nL QF z k0 n0 f (pc + 1) lv (.float (FP.i2f x) :: st) X) : K p l e R s m args below meth c w nL QF z k0 n0 f pc lv (.int x :: st) X := fun hX H locs ls hP hS hl => lv_i2f C.1.1 C.1.2.1 hdg (kk hX H locs ls hP hS hl)
theorem K_i2d (C : KC p l e R s m args below meth c w own cc nL ret d mc ms) {x : Int32} (hdg : decode cc pc = .ok (.i2d, 1)) (kk : K p l e R s m args below meth c w nL QF z k0 n0 f (pc + 1) lv (.double (FP.i2d x) :: st) X) : K p l e R s m args below meth c w nL QF z k0 n0 f pc lv (.int x :: st) X := fun hX H locs ls hP hS hl => lv_i2d C.1.1 C.1.2.1 hdg (kk hX H locs ls hP hS hl)
theorem K_fdiv (C : KC p l e R s m args below meth c w own cc nL ret d mc ms) {x y : Int32} (hdg : decode cc pc = .ok (.fdiv, 1)) (kk : K p l e R s m args below meth c w nL QF z k0 n0 f (pc + 1) lv (.float (FP.fdiv (FP.i2f x) (FP.i2f y)) :: st) X) : K p l e R s m args below meth c w nL QF z k0 n0 f pc lv (.float (FP.i2f y) :: .float (FP.i2f x) :: st) (kchk (!decide (y = 0)) X) := fun hX H locs ls hP hS hl => lv_fdiv C.1.1 C.1.2.1 hdg (fdivI (by have := (kchk_some hX).1; simpa using this)) (kk (kchk_some hX).2 H locs ls hP hS hl)
theorem K_ddiv (C : KC p l e R s m args below meth c w own cc nL ret d mc ms) {x y : Int32} (hdg : decode cc pc = .ok (.ddiv, 1)) (kk : K p l e R s m args below meth c w nL QF z k0 n0 f (pc + 1) lv (.double (FP.ddiv (FP.i2d x) (FP.i2d y)) :: st) X) : K p l e R s m args below meth c w nL QF z k0 n0 f pc lv (.double (FP.i2d y) :: .double (FP.i2d x) :: st) (kchk (!decide (y = 0)) X) := fun hX H locs ls hP hS hl => lv_ddiv C.1.1 C.1.2.1 hdg (ddivI (by have := (kchk_some hX).1; simpa using this)) (kk (kchk_some hX).2 H locs ls hP hS hl)
theorem K_fret (C : KC p l e R s m args below meth c w own cc nL ret d mc ms) {v : UInt32} (hret : ret = some .float) (hdg : decode cc pc = .ok (.freturn, 1)) : K p l e R s m args below meth c w nL (kQFV below w args s zv) zv 0 0 f pc lv [.float v] (some (.float v, f)) := by
  intro hX H locs ls hP hS hl
  injection hX with hX
  subst hX; subst hret
  exact W.fret C.1.1 C.1.2.1 C.2.2.2.2.2.1 (fun t ht hW => ⟨rfl, by rw [ht]; exact hP, hS.F ht⟩) hS.2.2 hdg C.2.2.2.2.2.2.1
theorem K_dret (C : KC p l e R s m args below meth c w own cc nL ret d mc ms) {v : UInt64} (hret : ret = some .double) (hdg : decode cc pc = .ok (.dreturn, 1)) : K p l e R s m args below meth c w nL (kQFV below w args s zv) zv 0 0 f pc lv [.double v] (some (.double v, f)) := by
  intro hX H locs ls hP hS hl
  injection hX with hX
  subst hX; subst hret
  exact W.dret C.1.1 C.1.2.1 C.2.2.2.2.2.1 (fun t ht hW => ⟨rfl, by rw [ht]; exact hP, hS.F ht⟩) hS.2.2 hdg C.2.2.2.2.2.2.1
theorem K_xfret (CX : KCX p l e R s m args below meth c w own cc nL ret d mc ms) {v : UInt32} (hret : ret = some .float) (hk0 : k0 ≤ mc ∧ n0 ≤ ms) (hdg : decode cc pc = .ok (.freturn, 1)) : K p l e R s m args below meth c w nL (kxQFV below w args s mc ms zz) zz k0 n0 f pc lv [.float v] (some (0, .float v, f)) := by
  intro hX H locs ls hP hS hl
  have C := CX.1
  injection hX with hX
  subst hX; subst hret
  refine W.widen (k := mc) (n := ms) hk0.1 hk0.2 ?_
  refine vx_ret ?_
  exact W.fret C.1.1 C.1.2.1 C.2.2.2.2.2.1 (fun t ht hW => ⟨rfl, rfl, by rw [ht]; exact hP, hS.F ht⟩) hS.2.2 hdg C.2.2.2.2.2.2.1
theorem K_xdret (CX : KCX p l e R s m args below meth c w own cc nL ret d mc ms) {v : UInt64} (hret : ret = some .double) (hk0 : k0 ≤ mc ∧ n0 ≤ ms) (hdg : decode cc pc = .ok (.dreturn, 1)) : K p l e R s m args below meth c w nL (kxQFV below w args s mc ms zz) zz k0 n0 f pc lv [.double v] (some (0, .double v, f)) := by
  intro hX H locs ls hP hS hl
  have C := CX.1
  injection hX with hX
  subst hX; subst hret
  refine W.widen (k := mc) (n := ms) hk0.1 hk0.2 ?_
  refine vx_ret ?_
  exact W.dret C.1.1 C.1.2.1 C.2.2.2.2.2.1 (fun t ht hW => ⟨rfl, rfl, by rw [ht]; exact hP, hS.F ht⟩) hS.2.2 hdg C.2.2.2.2.2.2.1
theorem kx_endV {H : Heap} {locs : List Loc} {kind : Nat} {v : Value} (hk : kind ≠ 0) (hP : va_P w.1.1 vwCl (kw w f) H) (hS : va_S (kA w s.heap.size) s.heap H locs) : ∀ t : State, s.vm.Alike t.vm → H.size ≤ t.heap.size → (∀ q : Nat, q < H.size → t.heap[q]? = H[q]?) → kxCV w (kind, v, f) s.heap.size (kE kind) s t := fun t hvm hz hq =>
  ⟨hk, rfl, hP.kept (fun k q hkq => hq _ (hP k q hkq).lt), Nat.le_trans hS.1 hz, fun q h1 h2 => by rw [hq q (Nat.lt_of_lt_of_le h1 hS.1)]; exact hS.2.1 q h1 h2⟩
theorem K_throwWV (CX : KCX p l e R s m args below meth c w RX11 cc nL ret d mc ms) {kind ik ic is : Nat} {text : String} (hw : kXok kind ik ic) (htx : (is, text) ∈ kTX) (hd : 5 < d) (hk0 : k0 + 1 ≤ mc ∧ n0 + 6 ≤ ms) (hrest : (st.map fun v => v.category).sum ≤ 8)
    (d0 : decode cc pc = .ok (.new ik, 3)) (d3 : decode cc (pc + 3) = .ok (.dup, 1)) (d4 : decode cc (pc + 4) = .ok (.ldc_w is, 3)) (d7 : decode cc (pc + 7) = .ok (.invokespecial ic, 3)) (d10 : decode cc (pc + 10) = .ok (.athrow, 1)) :
    K p l e R s m args below meth c w nL (kxQFV below w args s mc ms zz) zz k0 n0 f pc lv st (some (kind, .null, f)) := by
  intro hX H locs ls hP hS hl
  have C := CX.1
  injection hX with hX
  subst hX
  obtain ⟨sa, hsa⟩ := CX.2.1.2.2.1 _ htx
  have hts := C.1.2.2.2.2
  have hR : R = kRm d mc ms := C.2.2.2.2.2.2.2
  exact vx_throwSW (cls := kE kind) (names := kNm) (A := kA w s.heap.size) C.1.1 C.1.2.1 CX.2.2.1 C.1.2.2.2.1 hw.2.1 (by decide +kernel) (hts _ hw.2.2.1) (hts _ hw.2.2.2.1) hsa (fun z hz => kxw hts CX.2.1.2.2.2 (hw.2.2.2.2 z hz)) (fun z hz => by
      rcases List.mem_cons.mp hz with rfl | hz
      · exact kgt_ot hw.2.2.1
      rcases List.mem_cons.mp hz with rfl | hz
      · exact kgt_ot hw.2.2.2.1
      · exact (hw.2.2.2.2 z hz).elim kgt_ot kXN_ot) CX.2.1.1 CX.2.1.2.1 hS (hl.1.trans C.1.2.2.1.symm) d0 d3 d4 d7 d10 (fun x hx => (CX.2.2.2 x hx).elim) (by rw [hR]; exact hd) (by rw [hR]; show _ + (13 * (2 + 1) + 43) ≤ 64 * d; omega) (by rw [hR]; exact hk0.1) (by rw [hR]; exact hk0.2) C.2.2.2.2.2.2.1 (kx_endV hw.1 hP hS) hS.2.2 hk0.1 hk0.2
end KFROWS
theorem wm_X11_364 : Cond.methodLink RX11 364 yX9_sumOf ∈ kGT := kgt (List.mem_of_getElem? (i := 1027) (by decide +kernel)) rfl
theorem wm_X11_378 : Cond.methodLink RX11 378 yX6_lateWeeksOfDelivered ∈ kGT := kgt (List.mem_of_getElem? (i := 1044) (by decide +kernel)) rfl
theorem hy_X6_lateWeeksOfDelivered : kYV yX6_lateWeeksOfDelivered cX6_lateWeeksOfDelivered 3 (some .int) 0 := ⟨⟨kgt (List.mem_of_getElem? (i := 1047) (by decide +kernel)) rfl, kgt (List.mem_of_getElem? (i := 26) (by decide +kernel)) rfl, by decide +kernel, by decide⟩, kgt (List.mem_of_getElem? (i := 1045) (by decide +kernel)) rfl, kgt (List.mem_of_getElem? (i := 1046) (by decide +kernel)) rfl⟩
theorem hy_X9_sumOf : kYV yX9_sumOf cX9_sumOf 7 (some .int) 1 := ⟨⟨kgt (List.mem_of_getElem? (i := 1030) (by decide +kernel)) rfl, kgt (List.mem_of_getElem? (i := 25) (by decide +kernel)) rfl, by decide +kernel, by decide⟩, kgt (List.mem_of_getElem? (i := 1028) (by decide +kernel)) rfl, kgt (List.mem_of_getElem? (i := 1029) (by decide +kernel)) rfl⟩
def cx_X11_scrap (f : kMem) : Option (Nat × Value × kMem) := kbind (cf_X9_sumOf16 f) (fun r1 g2 => klt 0 r1 (kbind (cf_X9_sumOf17 g2) (fun r3 g4 => kchk (!decide (r1 = 0)) (some (0, .float (FP.fdiv (FP.i2f r3) (FP.i2f r1)), g4)))) (some (6, .null, g2)))
set_option maxRecDepth 100000 in
set_option maxHeartbeats 4000000 in
theorem kmx_X11_scrap (l : Launch) (hst : l.stackTraces = false) (G : kG) (ad : Nat → Nat) (f : kMem) (z : Nat × Value × kMem) (h : cx_X11_scrap f = some z) : kxMetV l (wC G ad) yX11_scrap cX11_scrap 2 (some .float) 6 2 12 [.ref (kad (wC G ad) 291)] f z := by
  refine kxMetV_of (own := RX11) (lv := [(0, .ref (kad (wC G ad) 291))]) hst (by decide) rfl (Nat.le_of_ble_eq_true rfl) rfl h ?_
  intro p e R s m args below meth c CX
  have C := CX.1
  unfold cx_X11_scrap
  refine K_aload_n C 0 rfl rfl dX11_scrap_0 ?_
  refine K_getR C kin_X11 rfl (Nat.le_of_ble_eq_true rfl) (shC_291 G ad) 0 (by decide) (b := 0) rfl wf_X11_12 rfl dX11_scrap_1 ?_
  refine K_getR C kin_X4 rfl (Nat.le_of_ble_eq_true rfl) (shC_0 G ad) 2 (by decide) (b := 12) rfl wf_X11_282 rfl dX11_scrap_4 ?_
  refine K_aload_n C 0 rfl rfl dX11_scrap_7 ?_
  refine K_getR C kin_X11 rfl (Nat.le_of_ble_eq_true rfl) (shC_291 G ad) 0 (by decide) (b := 0) rfl wf_X11_12 rfl dX11_scrap_8 ?_
  refine K_getR C kin_X4 rfl (Nat.le_of_ble_eq_true rfl) (shC_0 G ad) 2 (by decide) (b := 12) rfl wf_X11_282 rfl dX11_scrap_11 ?_
  refine K_getR C kin_X9 rfl (Nat.le_of_ble_eq_true rfl) (shC_12 G ad) 3 (by decide) (b := 16) rfl wf_X11_299 rfl dX11_scrap_14 ?_
  refine K_callVi C (As := [.ref (kad (wC G ad) 16)]) (rest := []) (Nat.le_of_ble_eq_true rfl) (shC_12 G ad) rfl hy_X9_sumOf wm_X11_364 (by decide) (by decide) (fun rr ff hh => km_X9_sumOf16 l G ad f rr ff hh) rfl rfl (Nat.le_of_ble_eq_true rfl) rfl dX11_scrap_17 (fun r1 g2 => ?_)
  refine K_istore_n C (lv1 := [(1, .int r1), (0, .ref (kad (wC G ad) 291))]) rfl (by decide) rfl dX11_scrap_20 ?_
  refine K_iload_n C 0 rfl rfl dX11_scrap_21 ?_
  refine K_if_gt C (tgt := 36) (by decide) dX11_scrap_22 ?_ ?_
  · refine K_aload_n C 1 rfl rfl dX11_scrap_36 ?_
    refine K_getR C kin_X11 rfl (Nat.le_of_ble_eq_true rfl) (shC_291 G ad) 0 (by decide) (b := 0) rfl wf_X11_12 rfl dX11_scrap_37 ?_
    refine K_getR C kin_X4 rfl (Nat.le_of_ble_eq_true rfl) (shC_0 G ad) 2 (by decide) (b := 12) rfl wf_X11_282 rfl dX11_scrap_40 ?_
    refine K_aload_n C 1 rfl rfl dX11_scrap_43 ?_
    refine K_getR C kin_X11 rfl (Nat.le_of_ble_eq_true rfl) (shC_291 G ad) 0 (by decide) (b := 0) rfl wf_X11_12 rfl dX11_scrap_44 ?_
    refine K_getR C kin_X4 rfl (Nat.le_of_ble_eq_true rfl) (shC_0 G ad) 2 (by decide) (b := 12) rfl wf_X11_282 rfl dX11_scrap_47 ?_
    refine K_getR C kin_X9 rfl (Nat.le_of_ble_eq_true rfl) (shC_12 G ad) 4 (by decide) (b := 17) rfl wf_X11_311 rfl dX11_scrap_50 ?_
    refine K_callVi C (As := [.ref (kad (wC G ad) 17)]) (rest := []) (Nat.le_of_ble_eq_true rfl) (shC_12 G ad) rfl hy_X9_sumOf wm_X11_364 (by decide) (by decide) (fun rr ff hh => km_X9_sumOf17 l G ad g2 rr ff hh) rfl rfl (Nat.le_of_ble_eq_true rfl) rfl dX11_scrap_53 (fun r3 g4 => ?_)
    refine K_i2f C dX11_scrap_56 ?_
    refine K_iload_n C 0 rfl rfl dX11_scrap_57 ?_
    refine K_i2f C dX11_scrap_58 ?_
    refine K_fdiv C dX11_scrap_59 ?_
    exact K_xfret CX rfl (by decide) dX11_scrap_60
  · exact K_throwWV CX (is := 370) (text := "no pieces were made") kXok_6 (by decide +kernel) (by decide) (by decide) (Nat.le_of_ble_eq_true rfl) dX11_scrap_25 dX11_scrap_28 dX11_scrap_29 dX11_scrap_32 dX11_scrap_35
def cx_X11_lateness (f : kMem) : Option (Nat × Value × kMem) := kbind (cf_X6_countOf f 1) (fun r1 g2 => klt 0 r1 (kbind (cf_X6_lateWeeksOfDelivered g2) (fun r3 g4 => kchk (!decide (r1 = 0)) (some (0, .double (FP.ddiv (FP.i2d r3) (FP.i2d r1)), g4)))) (some (6, .null, g2)))
set_option maxRecDepth 100000 in
set_option maxHeartbeats 4000000 in
theorem kmx_X11_lateness (l : Launch) (hst : l.stackTraces = false) (G : kG) (ad : Nat → Nat) (f : kMem) (z : Nat × Value × kMem) (h : cx_X11_lateness f = some z) : kxMetV l (wC G ad) yX11_lateness cX11_lateness 2 (some .double) 6 2 12 [.ref (kad (wC G ad) 291)] f z := by
  refine kxMetV_of (own := RX11) (lv := [(0, .ref (kad (wC G ad) 291))]) hst (by decide) rfl (Nat.le_of_ble_eq_true rfl) rfl h ?_
  intro p e R s m args below meth c CX
  have C := CX.1
  unfold cx_X11_lateness
  refine K_aload_n C 0 rfl rfl dX11_lateness_0 ?_
  refine K_getR C kin_X11 rfl (Nat.le_of_ble_eq_true rfl) (shC_291 G ad) 0 (by decide) (b := 0) rfl wf_X11_12 rfl dX11_lateness_1 ?_
  refine K_getR C kin_X4 rfl (Nat.le_of_ble_eq_true rfl) (shC_0 G ad) 3 (by decide) (b := 18) rfl wf_X11_164 rfl dX11_lateness_4 ?_
  refine K_iconst C (v := 1) (by decide) dX11_lateness_7 ?_
  refine K_callVi C (As := [.int 1]) (rest := []) (Nat.le_of_ble_eq_true rfl) (shC_18 G ad) rfl hy_X6_countOf wm_X11_373 (by decide) (by decide) (fun rr ff hh => km_X6_countOf l G ad f 1 rr ff hh) rfl rfl (Nat.le_of_ble_eq_true rfl) rfl dX11_lateness_8 (fun r1 g2 => ?_)
  refine K_istore_n C (lv1 := [(1, .int r1), (0, .ref (kad (wC G ad) 291))]) rfl (by decide) rfl dX11_lateness_11 ?_
  refine K_iload_n C 0 rfl rfl dX11_lateness_12 ?_
  refine K_if_gt C (tgt := 27) (by decide) dX11_lateness_13 ?_ ?_
  · refine K_aload_n C 1 rfl rfl dX11_lateness_27 ?_
    refine K_getR C kin_X11 rfl (Nat.le_of_ble_eq_true rfl) (shC_291 G ad) 0 (by decide) (b := 0) rfl wf_X11_12 rfl dX11_lateness_28 ?_
    refine K_getR C kin_X4 rfl (Nat.le_of_ble_eq_true rfl) (shC_0 G ad) 3 (by decide) (b := 18) rfl wf_X11_164 rfl dX11_lateness_31 ?_
    refine K_callVi C (As := []) (rest := []) (Nat.le_of_ble_eq_true rfl) (shC_18 G ad) rfl hy_X6_lateWeeksOfDelivered wm_X11_378 (by decide) (by decide) (fun rr ff hh => km_X6_lateWeeksOfDelivered l G ad g2 rr ff hh) rfl rfl (Nat.le_of_ble_eq_true rfl) rfl dX11_lateness_34 (fun r3 g4 => ?_)
    refine K_i2d C dX11_lateness_37 ?_
    refine K_iload_n C 0 rfl rfl dX11_lateness_38 ?_
    refine K_i2d C dX11_lateness_39 ?_
    refine K_ddiv C dX11_lateness_40 ?_
    exact K_xdret CX rfl (by decide) dX11_lateness_41
  · exact K_throwWV CX (is := 376) (text := "no order is delivered") kXok_6 (by decide +kernel) (by decide) (by decide) (Nat.le_of_ble_eq_true rfl) dX11_lateness_16 dX11_lateness_19 dX11_lateness_20 dX11_lateness_23 dX11_lateness_26
