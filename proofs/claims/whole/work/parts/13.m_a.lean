def cf_X12_thrown (f : kMem) : Option (Int32 × kMem) := some ((f 0 18), f)
set_option maxRecDepth 100000 in
set_option maxHeartbeats 4000000 in
theorem km_X12_thrown (l : Launch) (G : kG) (ad : Nat → Nat) (f : kMem) (r : Int32) (fo : kMem) (h : cf_X12_thrown f = some (r, fo)) : kMet l (wM G ad) yX12_thrown cX12_thrown 1 (some .int) 0 [.ref (kad (wM G ad) 0)] f r fo := by
  refine kMet_of (own := RX12) (lv := [(0, .ref (kad (wM G ad) 0))]) (by decide) rfl (Nat.le_of_ble_eq_true rfl) rfl h ?_
  intro p e R s m args below meth c C
  unfold cf_X12_thrown
  refine K_aload_n C 0 rfl rfl dX12_thrown_0 ?_
  refine K_getI C kin_X12 rfl (Nat.le_of_ble_eq_true rfl) (shM_0 G ad) 18 (by decide) rfl wf_X12_45 rfl dX12_thrown_1 ?_
  exact K_ret C rfl rfl dX12_thrown_4
def cf_X12_raises (f : kMem) (x1 : Int32) : Option (Int32 × kMem) := kmem (kup f 0 18 x1) (fun g1 => some (0, g1))
set_option maxRecDepth 100000 in
set_option maxHeartbeats 4000000 in
theorem km_X12_raises (l : Launch) (G : kG) (ad : Nat → Nat) (f : kMem) (x1 : Int32) (r : Int32) (fo : kMem) (h : cf_X12_raises f x1 = some (r, fo)) : kMet l (wM G ad) yX12_raises cX12_raises 2 (some .int) 0 [.ref (kad (wM G ad) 0), .int x1] f r fo := by
  refine kMet_of (own := RX12) (lv := [(0, .ref (kad (wM G ad) 0)), (1, .int x1)]) (by decide) rfl (Nat.le_of_ble_eq_true rfl) rfl h ?_
  intro p e R s m args below meth c C
  unfold cf_X12_raises
  refine K_aload_n C 0 rfl rfl dX12_raises_0 ?_
  refine K_iload_n C 1 rfl rfl dX12_raises_1 ?_
  refine K_putI C kin_X12 rfl (Nat.le_of_ble_eq_true rfl) (shM_0 G ad) 18 (by decide) rfl wf_X12_45 rfl tyX12 tyX12_ok nmX12 (by decide) (ty := .int) (by decide +kernel) rfl rfl dX12_raises_2 (fun g1 => ?_)
  refine K_iconst C (v := 0) (by decide) dX12_raises_5 ?_
  exact K_ret C rfl rfl dX12_raises_6
def cf_X12_in (f : kMem) (x0 x1 x2 : Int32) : Option (Int32 × kMem) := klt x0 x1 (some (0, f)) (klt x2 x0 (some (0, f)) (some (1, f)))
set_option maxRecDepth 100000 in
set_option maxHeartbeats 4000000 in
theorem km_X12_in (l : Launch) (G : kG) (ad : Nat → Nat) (f : kMem) (x0 x1 x2 : Int32) (r : Int32) (fo : kMem) (h : cf_X12_in f x0 x1 x2 = some (r, fo)) : kMet l (wM G ad) yX12_in cX12_in 3 (some .boolean) 0 [.int x0, .int x1, .int x2] f r fo := by
  refine kMet_of (own := RX12) (lv := [(0, .int x0), (1, .int x1), (2, .int x2)]) (by decide) rfl (Nat.le_of_ble_eq_true rfl) rfl h ?_
  intro p e R s m args below meth c C
  unfold cf_X12_in
  refine K_iload_n C 0 rfl rfl dX12_in_0 ?_
  refine K_iload_n C 1 rfl rfl dX12_in_1 ?_
  refine K_icmp_lt C (tgt := 14) (by decide) dX12_in_2 ?_ ?_
  · refine K_iconst C (v := 0) (by decide) dX12_in_14 ?_
    exact K_ret C rfl (by decide) dX12_in_15
  · refine K_iload_n C 0 rfl rfl dX12_in_5 ?_
    refine K_iload_n C 2 rfl rfl dX12_in_6 ?_
    refine K_icmp_gt C (tgt := 14) (by decide) dX12_in_7 ?_ ?_
    · refine K_iconst C (v := 0) (by decide) dX12_in_14 ?_
      exact K_ret C rfl (by decide) dX12_in_15
    · refine K_iconst C (v := 1) (by decide) dX12_in_10 ?_
      refine K_goto C (tgt := 15) (by decide) dX12_in_11 ?_
      exact K_ret C rfl (by decide) dX12_in_15
def cl_X12_tries_7 : Nat → kMem → Int32 → Option (Int32 × kMem)
  | 0, _, _ => none
  | n + 1, f, x1 => kle 313 x1 (some (0, f)) (kchk (kin x1 313) (kchk (kin x1 313) (kmem (kup f 2 (Int32.toNatClampNeg x1) (f 1 (Int32.toNatClampNeg x1))) (fun g2 => klet (x1 + Int32.ofInt 1) (fun x1_3 => ((cl_X12_tries_7 n) g2 x1_3))))))
def cf_X12_tries (f : kMem) : Option (Int32 × kMem) := kmem (kup f 0 18 0) (fun g1 => (cl_X12_tries_7 3000 g1 0))
set_option maxRecDepth 100000 in
set_option maxHeartbeats 4000000 in
theorem kcl_X12_tries_7 {p : Program} {l : Launch} {e : Env} {R : Room} {s : State} {m : MethodId} {args : Array Value} {below : List Frame} {meth : Method} {c : Code} {G : kG} {ad : Nat → Nat} {z : Int32 × kMem} (C : KC p l e R s m args below meth c (wM G ad) RX12 cX12_tries 2 none 0 0 0)  : ∀ (n : Nat) (f : kMem) (x1 : Int32), K p l e R s m args below meth c (wM G ad) 2 (kQF below (wM G ad) none args s z) z 0 0 f 7 [(0, .ref (kad (wM G ad) 0)), (1, .int x1)] [] (cl_X12_tries_7 n f x1) := by
  intro n
  induction n with
  | zero => intro f x1; exact K_none
  | succ n ih =>
    intro f x1
    unfold cl_X12_tries_7
    refine K_iload_n C 1 rfl rfl dX12_tries_7 ?_
    refine K_sipush C (v := 313) (by decide) dX12_tries_8 ?_
    refine K_icmp_ge C (tgt := 32) (by decide) dX12_tries_11 ?_ ?_
    · exact K_vret C rfl dX12_tries_32
    · refine K_aload_n C 0 rfl rfl dX12_tries_14 ?_
      refine K_getR C kin_X12 rfl (Nat.le_of_ble_eq_true rfl) (shM_0 G ad) 1 (by decide) (b := 2) rfl wf_X12_13 rfl dX12_tries_15 ?_
      refine K_iload_n C 1 rfl rfl dX12_tries_18 ?_
      refine K_aload_n C 0 rfl rfl dX12_tries_19 ?_
      refine K_getR C kin_X12 rfl (Nat.le_of_ble_eq_true rfl) (shM_0 G ad) 0 (by decide) (b := 1) rfl wf_X12_9 rfl dX12_tries_20 ?_
      refine K_iload_n C 1 rfl rfl dX12_tries_23 ?_
      refine K_iald C (Nat.le_of_ble_eq_true rfl) (shM_1 G ad) dX12_tries_24 ?_
      refine K_iast C (Nat.le_of_ble_eq_true rfl) (shM_2 G ad) dX12_tries_25 (fun g2 => ?_)
      refine K_iinc C (k := 1) (lv1 := fun x1_3 => [(1, .int x1_3), (0, .ref (kad (wM G ad) 0))]) rfl (by decide) (fun _ => rfl) dX12_tries_26 (fun x1_3 => ?_)
      refine K_goto C (tgt := 7) (by decide) dX12_tries_29 ?_
      refine K_sub [1, 0] rfl ?_
      exact ih g2 x1_3
set_option maxRecDepth 100000 in
set_option maxHeartbeats 4000000 in
theorem km_X12_tries (l : Launch) (G : kG) (ad : Nat → Nat) (f : kMem) (r : Int32) (fo : kMem) (h : cf_X12_tries f = some (r, fo)) : kMet l (wM G ad) yX12_tries cX12_tries 2 none 0 [.ref (kad (wM G ad) 0)] f r fo := by
  refine kMet_of (own := RX12) (lv := [(0, .ref (kad (wM G ad) 0))]) (by decide) rfl (Nat.le_of_ble_eq_true rfl) rfl h ?_
  intro p e R s m args below meth c C
  unfold cf_X12_tries
  refine K_aload_n C 0 rfl rfl dX12_tries_0 ?_
  refine K_iconst C (v := 0) (by decide) dX12_tries_1 ?_
  refine K_putI C kin_X12 rfl (Nat.le_of_ble_eq_true rfl) (shM_0 G ad) 18 (by decide) rfl wf_X12_45 rfl tyX12 tyX12_ok nmX12 (by decide) (ty := .int) (by decide +kernel) rfl rfl dX12_tries_2 (fun g1 => ?_)
  refine K_iconst C (v := 0) (by decide) dX12_tries_5 ?_
  refine K_istore_n C (lv1 := [(1, .int 0), (0, .ref (kad (wM G ad) 0))]) rfl (by decide) rfl dX12_tries_6 ?_
  refine K_sub [1, 0] rfl ?_
  exact kcl_X12_tries_7 C 3000 g1 0
def cl_X12_comesBack_2 : Nat → kMem → Int32 → Option (Int32 × kMem)
  | 0, _, _ => none
  | n + 1, f, x1 => kle 313 x1 (some (0, f)) (kchk (kin x1 313) (kchk (kin x1 313) (kmem (kup f 1 (Int32.toNatClampNeg x1) (f 2 (Int32.toNatClampNeg x1))) (fun g1 => klet (x1 + Int32.ofInt 1) (fun x1_2 => ((cl_X12_comesBack_2 n) g1 x1_2))))))
def cf_X12_comesBack (f : kMem) : Option (Int32 × kMem) := (cl_X12_comesBack_2 3000 f 0)
set_option maxRecDepth 100000 in
set_option maxHeartbeats 4000000 in
theorem kcl_X12_comesBack_2 {p : Program} {l : Launch} {e : Env} {R : Room} {s : State} {m : MethodId} {args : Array Value} {below : List Frame} {meth : Method} {c : Code} {G : kG} {ad : Nat → Nat} {z : Int32 × kMem} (C : KC p l e R s m args below meth c (wM G ad) RX12 cX12_comesBack 2 none 0 0 0)  : ∀ (n : Nat) (f : kMem) (x1 : Int32), K p l e R s m args below meth c (wM G ad) 2 (kQF below (wM G ad) none args s z) z 0 0 f 2 [(0, .ref (kad (wM G ad) 0)), (1, .int x1)] [] (cl_X12_comesBack_2 n f x1) := by
  intro n
  induction n with
  | zero => intro f x1; exact K_none
  | succ n ih =>
    intro f x1
    unfold cl_X12_comesBack_2
    refine K_iload_n C 1 rfl rfl dX12_comesBack_2 ?_
    refine K_sipush C (v := 313) (by decide) dX12_comesBack_3 ?_
    refine K_icmp_ge C (tgt := 27) (by decide) dX12_comesBack_6 ?_ ?_
    · exact K_vret C rfl dX12_comesBack_27
    · refine K_aload_n C 0 rfl rfl dX12_comesBack_9 ?_
      refine K_getR C kin_X12 rfl (Nat.le_of_ble_eq_true rfl) (shM_0 G ad) 0 (by decide) (b := 1) rfl wf_X12_9 rfl dX12_comesBack_10 ?_
      refine K_iload_n C 1 rfl rfl dX12_comesBack_13 ?_
      refine K_aload_n C 0 rfl rfl dX12_comesBack_14 ?_
      refine K_getR C kin_X12 rfl (Nat.le_of_ble_eq_true rfl) (shM_0 G ad) 1 (by decide) (b := 2) rfl wf_X12_13 rfl dX12_comesBack_15 ?_
      refine K_iload_n C 1 rfl rfl dX12_comesBack_18 ?_
      refine K_iald C (Nat.le_of_ble_eq_true rfl) (shM_2 G ad) dX12_comesBack_19 ?_
      refine K_iast C (Nat.le_of_ble_eq_true rfl) (shM_1 G ad) dX12_comesBack_20 (fun g1 => ?_)
      refine K_iinc C (k := 1) (lv1 := fun x1_2 => [(1, .int x1_2), (0, .ref (kad (wM G ad) 0))]) rfl (by decide) (fun _ => rfl) dX12_comesBack_21 (fun x1_2 => ?_)
      refine K_goto C (tgt := 2) (by decide) dX12_comesBack_24 ?_
      refine K_sub [1, 0] rfl ?_
      exact ih g1 x1_2
set_option maxRecDepth 100000 in
set_option maxHeartbeats 4000000 in
theorem km_X12_comesBack (l : Launch) (G : kG) (ad : Nat → Nat) (f : kMem) (r : Int32) (fo : kMem) (h : cf_X12_comesBack f = some (r, fo)) : kMet l (wM G ad) yX12_comesBack cX12_comesBack 2 none 0 [.ref (kad (wM G ad) 0)] f r fo := by
  refine kMet_of (own := RX12) (lv := [(0, .ref (kad (wM G ad) 0))]) (by decide) rfl (Nat.le_of_ble_eq_true rfl) rfl h ?_
  intro p e R s m args below meth c C
  unfold cf_X12_comesBack
  refine K_iconst C (v := 0) (by decide) dX12_comesBack_0 ?_
  refine K_istore_n C (lv1 := [(1, .int 0), (0, .ref (kad (wM G ad) 0))]) rfl (by decide) rfl dX12_comesBack_1 ?_
  refine K_sub [1, 0] rfl ?_
  exact kcl_X12_comesBack_2 C 3000 f 0
def cl_X12_keeps_52 (Y86 : kMem → Option (Int32 × kMem)) : Nat → kMem → Int32 → Option (Int32 × kMem)
  | 0, _, _ => none
  | n + 1, f, x1 => kle 313 x1 ((Y86 f)) (kchk (kin x1 313) (kchk (kin ((313 * (f 0 3)) + x1) 2504) (kmem (kup f 3 (Int32.toNatClampNeg ((313 * (f 0 3)) + x1)) (f 2 (Int32.toNatClampNeg x1))) (fun g1 => klet (x1 + Int32.ofInt 1) (fun x1_2 => ((cl_X12_keeps_52 Y86 n) g1 x1_2))))))
def cl_X12_keeps_11 (Y40 : kMem → Option (Int32 × kMem)) : Nat → kMem → Int32 → Option (Int32 × kMem)
  | 0, _, _ => none
  | n + 1, f, x1 => kle 2191 x1 ((Y40 f)) (kchk (kin (313 + x1) 2504) (kchk (kin x1 2504) (kmem (kup f 3 (Int32.toNatClampNeg x1) (f 3 (Int32.toNatClampNeg (313 + x1)))) (fun g5 => klet (x1 + Int32.ofInt 1) (fun x1_6 => ((cl_X12_keeps_11 Y40 n) g5 x1_6))))))
def cf_X12_keeps (f : kMem) : Option (Int32 × kMem) := keq (f 0 3) 8 ((cl_X12_keeps_11 (fun g7 => kmem (kup g7 0 3 ((g7 0 3) - 1)) (fun g8 => (cl_X12_keeps_52 (fun g9 => kmem (kup g9 0 3 ((g9 0 3) + 1)) (fun g10 => some (0, g10))) 3000 g8 0))) 3000 f 0)) ((cl_X12_keeps_52 (fun g3 => kmem (kup g3 0 3 ((g3 0 3) + 1)) (fun g4 => some (0, g4))) 3000 f 0))
set_option maxRecDepth 100000 in
set_option maxHeartbeats 4000000 in
theorem kcl_X12_keeps_52 {p : Program} {l : Launch} {e : Env} {R : Room} {s : State} {m : MethodId} {args : Array Value} {below : List Frame} {meth : Method} {c : Code} {G : kG} {ad : Nat → Nat} {z : Int32 × kMem} (C : KC p l e R s m args below meth c (wM G ad) RX12 cX12_keeps 2 none 0 0 0) (Y86 : kMem → Option (Int32 × kMem)) (hY86 : ∀ (f : kMem), K p l e R s m args below meth c (wM G ad) 2 (kQF below (wM G ad) none args s z) z 0 0 f 86 [(0, .ref (kad (wM G ad) 0))] [] (Y86 f)) : ∀ (n : Nat) (f : kMem) (x1 : Int32), K p l e R s m args below meth c (wM G ad) 2 (kQF below (wM G ad) none args s z) z 0 0 f 52 [(0, .ref (kad (wM G ad) 0)), (1, .int x1)] [] (cl_X12_keeps_52 Y86 n f x1) := by
  intro n
  induction n with
  | zero => intro f x1; exact K_none
  | succ n ih =>
    intro f x1
    unfold cl_X12_keeps_52
    refine K_iload_n C 1 rfl rfl dX12_keeps_52 ?_
    refine K_sipush C (v := 313) (by decide) dX12_keeps_53 ?_
    refine K_icmp_ge C (tgt := 86) (by decide) dX12_keeps_56 ?_ ?_
    · refine K_sub [0] rfl ?_
      exact hY86 f
    · refine K_aload_n C 0 rfl rfl dX12_keeps_59 ?_
      refine K_getR C kin_X12 rfl (Nat.le_of_ble_eq_true rfl) (shM_0 G ad) 2 (by decide) (b := 3) rfl wf_X12_16 rfl dX12_keeps_60 ?_
      refine K_sipush C (v := 313) (by decide) dX12_keeps_63 ?_
      refine K_aload_n C 0 rfl rfl dX12_keeps_66 ?_
      refine K_getI C kin_X12 rfl (Nat.le_of_ble_eq_true rfl) (shM_0 G ad) 3 (by decide) rfl wf_X12_48 rfl dX12_keeps_67 ?_
      refine K_imul C dX12_keeps_70 ?_
      refine K_iload_n C 1 rfl rfl dX12_keeps_71 ?_
      refine K_iadd C dX12_keeps_72 ?_
      refine K_aload_n C 0 rfl rfl dX12_keeps_73 ?_
      refine K_getR C kin_X12 rfl (Nat.le_of_ble_eq_true rfl) (shM_0 G ad) 1 (by decide) (b := 2) rfl wf_X12_13 rfl dX12_keeps_74 ?_
      refine K_iload_n C 1 rfl rfl dX12_keeps_77 ?_
      refine K_iald C (Nat.le_of_ble_eq_true rfl) (shM_2 G ad) dX12_keeps_78 ?_
      refine K_iast C (Nat.le_of_ble_eq_true rfl) (shM_3 G ad) dX12_keeps_79 (fun g1 => ?_)
      refine K_iinc C (k := 1) (lv1 := fun x1_2 => [(1, .int x1_2), (0, .ref (kad (wM G ad) 0))]) rfl (by decide) (fun _ => rfl) dX12_keeps_80 (fun x1_2 => ?_)
      refine K_goto C (tgt := 52) (by decide) dX12_keeps_83 ?_
      refine K_sub [1, 0] rfl ?_
      exact ih g1 x1_2
set_option maxRecDepth 100000 in
set_option maxHeartbeats 4000000 in
theorem kcl_X12_keeps_11 {p : Program} {l : Launch} {e : Env} {R : Room} {s : State} {m : MethodId} {args : Array Value} {below : List Frame} {meth : Method} {c : Code} {G : kG} {ad : Nat → Nat} {z : Int32 × kMem} (C : KC p l e R s m args below meth c (wM G ad) RX12 cX12_keeps 2 none 0 0 0) (Y40 : kMem → Option (Int32 × kMem)) (hY40 : ∀ (f : kMem), K p l e R s m args below meth c (wM G ad) 2 (kQF below (wM G ad) none args s z) z 0 0 f 40 [(0, .ref (kad (wM G ad) 0))] [] (Y40 f)) : ∀ (n : Nat) (f : kMem) (x1 : Int32), K p l e R s m args below meth c (wM G ad) 2 (kQF below (wM G ad) none args s z) z 0 0 f 11 [(0, .ref (kad (wM G ad) 0)), (1, .int x1)] [] (cl_X12_keeps_11 Y40 n f x1) := by
  intro n
  induction n with
  | zero => intro f x1; exact K_none
  | succ n ih =>
    intro f x1
    unfold cl_X12_keeps_11
    refine K_iload_n C 1 rfl rfl dX12_keeps_11 ?_
    refine K_sipush C (v := 2191) (by decide) dX12_keeps_12 ?_
    refine K_icmp_ge C (tgt := 40) (by decide) dX12_keeps_15 ?_ ?_
    · refine K_sub [0] rfl ?_
      exact hY40 f
    · refine K_aload_n C 0 rfl rfl dX12_keeps_18 ?_
      refine K_getR C kin_X12 rfl (Nat.le_of_ble_eq_true rfl) (shM_0 G ad) 2 (by decide) (b := 3) rfl wf_X12_16 rfl dX12_keeps_19 ?_
      refine K_iload_n C 1 rfl rfl dX12_keeps_22 ?_
      refine K_aload_n C 0 rfl rfl dX12_keeps_23 ?_
      refine K_getR C kin_X12 rfl (Nat.le_of_ble_eq_true rfl) (shM_0 G ad) 2 (by decide) (b := 3) rfl wf_X12_16 rfl dX12_keeps_24 ?_
      refine K_sipush C (v := 313) (by decide) dX12_keeps_27 ?_
      refine K_iload_n C 1 rfl rfl dX12_keeps_30 ?_
      refine K_iadd C dX12_keeps_31 ?_
      refine K_iald C (Nat.le_of_ble_eq_true rfl) (shM_3 G ad) dX12_keeps_32 ?_
      refine K_iast C (Nat.le_of_ble_eq_true rfl) (shM_3 G ad) dX12_keeps_33 (fun g5 => ?_)
      refine K_iinc C (k := 1) (lv1 := fun x1_6 => [(1, .int x1_6), (0, .ref (kad (wM G ad) 0))]) rfl (by decide) (fun _ => rfl) dX12_keeps_34 (fun x1_6 => ?_)
      refine K_goto C (tgt := 11) (by decide) dX12_keeps_37 ?_
      refine K_sub [1, 0] rfl ?_
      exact ih g5 x1_6
set_option maxRecDepth 100000 in
set_option maxHeartbeats 4000000 in
theorem km_X12_keeps (l : Launch) (G : kG) (ad : Nat → Nat) (f : kMem) (r : Int32) (fo : kMem) (h : cf_X12_keeps f = some (r, fo)) : kMet l (wM G ad) yX12_keeps cX12_keeps 2 none 0 [.ref (kad (wM G ad) 0)] f r fo := by
  refine kMet_of (own := RX12) (lv := [(0, .ref (kad (wM G ad) 0))]) (by decide) rfl (Nat.le_of_ble_eq_true rfl) rfl h ?_
  intro p e R s m args below meth c C
  unfold cf_X12_keeps
  refine K_aload_n C 0 rfl rfl dX12_keeps_0 ?_
  refine K_getI C kin_X12 rfl (Nat.le_of_ble_eq_true rfl) (shM_0 G ad) 3 (by decide) rfl wf_X12_48 rfl dX12_keeps_1 ?_
  refine K_bipush C (v := 8) (by decide) dX12_keeps_4 ?_
  refine K_icmp_ne C (tgt := 50) (by decide) dX12_keeps_6 ?_ ?_
  · refine K_iconst C (v := 0) (by decide) dX12_keeps_50 ?_
    refine K_istore_n C (lv1 := [(1, .int 0), (0, .ref (kad (wM G ad) 0))]) rfl (by decide) rfl dX12_keeps_51 ?_
    refine K_sub [1, 0] rfl ?_
    refine kcl_X12_keeps_52 C _ (fun g3 => ?_) 3000 f 0
    refine K_aload_n C 0 rfl rfl dX12_keeps_86 ?_
    refine K_dup C rfl dX12_keeps_87 ?_
    refine K_getI C kin_X12 rfl (Nat.le_of_ble_eq_true rfl) (shM_0 G ad) 3 (by decide) rfl wf_X12_48 rfl dX12_keeps_88 ?_
    refine K_iconst C (v := 1) (by decide) dX12_keeps_91 ?_
    refine K_iadd C dX12_keeps_92 ?_
    refine K_putI C kin_X12 rfl (Nat.le_of_ble_eq_true rfl) (shM_0 G ad) 3 (by decide) rfl wf_X12_48 rfl tyX12 tyX12_ok nmX12 (by decide) (ty := .int) (by decide +kernel) rfl rfl dX12_keeps_93 (fun g4 => ?_)
    exact K_vret C rfl dX12_keeps_96
  · refine K_iconst C (v := 0) (by decide) dX12_keeps_9 ?_
    refine K_istore_n C (lv1 := [(1, .int 0), (0, .ref (kad (wM G ad) 0))]) rfl (by decide) rfl dX12_keeps_10 ?_
    refine K_sub [1, 0] rfl ?_
    refine kcl_X12_keeps_11 C _ (fun g7 => ?_) 3000 f 0
    refine K_aload_n C 0 rfl rfl dX12_keeps_40 ?_
    refine K_dup C rfl dX12_keeps_41 ?_
    refine K_getI C kin_X12 rfl (Nat.le_of_ble_eq_true rfl) (shM_0 G ad) 3 (by decide) rfl wf_X12_48 rfl dX12_keeps_42 ?_
    refine K_iconst C (v := 1) (by decide) dX12_keeps_45 ?_
    refine K_isub C dX12_keeps_46 ?_
    refine K_putI C kin_X12 rfl (Nat.le_of_ble_eq_true rfl) (shM_0 G ad) 3 (by decide) rfl wf_X12_48 rfl tyX12 tyX12_ok nmX12 (by decide) (ty := .int) (by decide +kernel) rfl rfl dX12_keeps_47 (fun g8 => ?_)
    refine K_iconst C (v := 0) (by decide) dX12_keeps_50 ?_
    refine K_istore_n C (lv1 := [(1, .int 0), (0, .ref (kad (wM G ad) 0))]) rfl (by decide) rfl dX12_keeps_51 ?_
    refine K_sub [1, 0] rfl ?_
    refine kcl_X12_keeps_52 C _ (fun g9 => ?_) 3000 g8 0
    refine K_aload_n C 0 rfl rfl dX12_keeps_86 ?_
    refine K_dup C rfl dX12_keeps_87 ?_
    refine K_getI C kin_X12 rfl (Nat.le_of_ble_eq_true rfl) (shM_0 G ad) 3 (by decide) rfl wf_X12_48 rfl dX12_keeps_88 ?_
    refine K_iconst C (v := 1) (by decide) dX12_keeps_91 ?_
    refine K_iadd C dX12_keeps_92 ?_
    refine K_putI C kin_X12 rfl (Nat.le_of_ble_eq_true rfl) (shM_0 G ad) 3 (by decide) rfl wf_X12_48 rfl tyX12 tyX12_ok nmX12 (by decide) (ty := .int) (by decide +kernel) rfl rfl dX12_keeps_93 (fun g10 => ?_)
    exact K_vret C rfl dX12_keeps_96
def cf_X12_refuses (f : kMem) (x1 x2 : Int32) : Option (Int32 × kMem) := kmem (kup f 0 10 1) (fun g1 => kmem (kup g1 6 0 x1) (fun g2 => kmem (kup g2 7 0 x2) (fun g3 => some (0, g3))))
set_option maxRecDepth 100000 in
set_option maxHeartbeats 4000000 in
theorem km_X12_refuses (l : Launch) (G : kG) (ad : Nat → Nat) (f : kMem) (x1 x2 : Int32) (r : Int32) (fo : kMem) (h : cf_X12_refuses f x1 x2 = some (r, fo)) : kMet l (wM G ad) yX12_refuses cX12_refuses 3 (some .boolean) 0 [.ref (kad (wM G ad) 0), .int x1, .int x2] f r fo := by
  refine kMet_of (own := RX12) (lv := [(0, .ref (kad (wM G ad) 0)), (1, .int x1), (2, .int x2)]) (by decide) rfl (Nat.le_of_ble_eq_true rfl) rfl h ?_
  intro p e R s m args below meth c C
  unfold cf_X12_refuses
  refine K_aload_n C 0 rfl rfl dX12_refuses_0 ?_
  refine K_iconst C (v := 1) (by decide) dX12_refuses_1 ?_
  refine K_putI C kin_X12 rfl (Nat.le_of_ble_eq_true rfl) (shM_0 G ad) 10 (by decide) rfl wf_X12_51 rfl tyX12 tyX12_ok nmX12 (by decide) (ty := .int) (by decide +kernel) rfl rfl dX12_refuses_2 (fun g1 => ?_)
  refine K_aload_n C 0 rfl rfl dX12_refuses_5 ?_
  refine K_getR C kin_X12 rfl (Nat.le_of_ble_eq_true rfl) (shM_0 G ad) 11 (by decide) (b := 6) rfl wf_X12_30 rfl dX12_refuses_6 ?_
  refine K_iconst C (v := 0) (by decide) dX12_refuses_9 ?_
  refine K_iload_n C 1 rfl rfl dX12_refuses_10 ?_
  refine K_iastC C (Nat.le_of_ble_eq_true rfl) (shM_6 G ad) (kin_in (by decide)) dX12_refuses_11 0 (by decide) (fun g2 => ?_)
  refine K_aload_n C 0 rfl rfl dX12_refuses_12 ?_
  refine K_getR C kin_X12 rfl (Nat.le_of_ble_eq_true rfl) (shM_0 G ad) 12 (by decide) (b := 7) rfl wf_X12_33 rfl dX12_refuses_13 ?_
  refine K_iconst C (v := 0) (by decide) dX12_refuses_16 ?_
  refine K_iload_n C 2 rfl rfl dX12_refuses_17 ?_
  refine K_iastC C (Nat.le_of_ble_eq_true rfl) (shM_7 G ad) (kin_in (by decide)) dX12_refuses_18 0 (by decide) (fun g3 => ?_)
  refine K_iconst C (v := 0) (by decide) dX12_refuses_19 ?_
  exact K_ret C rfl (by decide) dX12_refuses_20
def cf_X12_behind (f : kMem) (x1 x2 : Int32) : Option (Int32 × kMem) := kchk (kin (f 0 10) 3) (kmem (kup f 6 (Int32.toNatClampNeg (f 0 10)) x1) (fun g1 => kchk (kin (g1 0 10) 3) (kmem (kup g1 7 (Int32.toNatClampNeg (g1 0 10)) x2) (fun g2 => kmem (kup g2 0 10 ((g2 0 10) + 1)) (fun g3 => some (0, g3))))))
set_option maxRecDepth 100000 in
set_option maxHeartbeats 4000000 in
theorem km_X12_behind (l : Launch) (G : kG) (ad : Nat → Nat) (f : kMem) (x1 x2 : Int32) (r : Int32) (fo : kMem) (h : cf_X12_behind f x1 x2 = some (r, fo)) : kMet l (wM G ad) yX12_behind cX12_behind 3 none 0 [.ref (kad (wM G ad) 0), .int x1, .int x2] f r fo := by
  refine kMet_of (own := RX12) (lv := [(0, .ref (kad (wM G ad) 0)), (1, .int x1), (2, .int x2)]) (by decide) rfl (Nat.le_of_ble_eq_true rfl) rfl h ?_
  intro p e R s m args below meth c C
  unfold cf_X12_behind
  refine K_aload_n C 0 rfl rfl dX12_behind_0 ?_
  refine K_getR C kin_X12 rfl (Nat.le_of_ble_eq_true rfl) (shM_0 G ad) 11 (by decide) (b := 6) rfl wf_X12_30 rfl dX12_behind_1 ?_
  refine K_aload_n C 0 rfl rfl dX12_behind_4 ?_
  refine K_getI C kin_X12 rfl (Nat.le_of_ble_eq_true rfl) (shM_0 G ad) 10 (by decide) rfl wf_X12_51 rfl dX12_behind_5 ?_
  refine K_iload_n C 1 rfl rfl dX12_behind_8 ?_
  refine K_iast C (Nat.le_of_ble_eq_true rfl) (shM_6 G ad) dX12_behind_9 (fun g1 => ?_)
  refine K_aload_n C 0 rfl rfl dX12_behind_10 ?_
  refine K_getR C kin_X12 rfl (Nat.le_of_ble_eq_true rfl) (shM_0 G ad) 12 (by decide) (b := 7) rfl wf_X12_33 rfl dX12_behind_11 ?_
  refine K_aload_n C 0 rfl rfl dX12_behind_14 ?_
  refine K_getI C kin_X12 rfl (Nat.le_of_ble_eq_true rfl) (shM_0 G ad) 10 (by decide) rfl wf_X12_51 rfl dX12_behind_15 ?_
  refine K_iload_n C 2 rfl rfl dX12_behind_18 ?_
  refine K_iast C (Nat.le_of_ble_eq_true rfl) (shM_7 G ad) dX12_behind_19 (fun g2 => ?_)
  refine K_aload_n C 0 rfl rfl dX12_behind_20 ?_
  refine K_dup C rfl dX12_behind_21 ?_
  refine K_getI C kin_X12 rfl (Nat.le_of_ble_eq_true rfl) (shM_0 G ad) 10 (by decide) rfl wf_X12_51 rfl dX12_behind_22 ?_
  refine K_iconst C (v := 1) (by decide) dX12_behind_25 ?_
  refine K_iadd C dX12_behind_26 ?_
  refine K_putI C kin_X12 rfl (Nat.le_of_ble_eq_true rfl) (shM_0 G ad) 10 (by decide) rfl wf_X12_51 rfl tyX12 tyX12_ok nmX12 (by decide) (ty := .int) (by decide +kernel) rfl rfl dX12_behind_27 (fun g3 => ?_)
  exact K_vret C rfl dX12_behind_30
def cf_X12_ends (f : kMem) (x1 : Int32) : Option (Int32 × kMem) := keq x1 0 (kbind (cf_X12_raises f 1) (fun r3 g4 => some (r3, g4))) (kbind (cf_X12_keeps f) (fun r1 g2 => some ((g2 0 13), g2)))
set_option maxRecDepth 100000 in
set_option maxHeartbeats 4000000 in
theorem km_X12_ends (l : Launch) (G : kG) (ad : Nat → Nat) (f : kMem) (x1 : Int32) (r : Int32) (fo : kMem) (h : cf_X12_ends f x1 = some (r, fo)) : kMet l (wM G ad) yX12_ends cX12_ends 2 (some .int) 1 [.ref (kad (wM G ad) 0), .int x1] f r fo := by
  refine kMet_of (own := RX12) (lv := [(0, .ref (kad (wM G ad) 0)), (1, .int x1)]) (by decide) rfl (Nat.le_of_ble_eq_true rfl) rfl h ?_
  intro p e R s m args below meth c C
  unfold cf_X12_ends
  refine K_iload_n C 1 rfl rfl dX12_ends_0 ?_
  refine K_if_ne C (tgt := 10) (by decide) dX12_ends_1 ?_ ?_
  · refine K_aload_n C 0 rfl rfl dX12_ends_10 ?_
    refine K_callVv C (As := []) (rest := []) (Nat.le_of_ble_eq_true rfl) (shM_0 G ad) rfl hy_X12_keeps wm_X12_58 (by decide) ⟨Nat.le_refl _, Nat.le_refl _⟩ (fun rr ff hh => km_X12_keeps l G ad f rr ff hh) rfl rfl (Nat.le_of_ble_eq_true rfl) rfl dX12_ends_11 (fun r1 g2 => ?_)
    refine K_aload_n C 0 rfl rfl dX12_ends_14 ?_
    refine K_getI C kin_X12 rfl (Nat.le_of_ble_eq_true rfl) (shM_0 G ad) 13 (by decide) rfl wf_X12_61 rfl dX12_ends_15 ?_
    exact K_ret C rfl rfl dX12_ends_18
  · refine K_aload_n C 0 rfl rfl dX12_ends_4 ?_
    refine K_iconst C (v := 1) (by decide) dX12_ends_5 ?_
    refine K_callVi C (As := [.int 1]) (rest := []) (Nat.le_of_ble_eq_true rfl) (shM_0 G ad) rfl hy_X12_raises wm_X12_54 (by decide) ⟨Nat.le_refl _, Nat.le_refl _⟩ (fun rr ff hh => km_X12_raises l G ad f 1 rr ff hh) rfl rfl (Nat.le_of_ble_eq_true rfl) rfl dX12_ends_6 (fun r3 g4 => ?_)
    exact K_ret C rfl rfl dX12_ends_9
def cf_X12_is (f : kMem) (x1 : Int32) : Option (Int32 × kMem) := kmem (kup f 0 13 x1) (fun g1 => some (1, g1))
set_option maxRecDepth 100000 in
set_option maxHeartbeats 4000000 in
theorem km_X12_is (l : Launch) (G : kG) (ad : Nat → Nat) (f : kMem) (x1 : Int32) (r : Int32) (fo : kMem) (h : cf_X12_is f x1 = some (r, fo)) : kMet l (wM G ad) yX12_is cX12_is 2 (some .boolean) 0 [.ref (kad (wM G ad) 0), .int x1] f r fo := by
  refine kMet_of (own := RX12) (lv := [(0, .ref (kad (wM G ad) 0)), (1, .int x1)]) (by decide) rfl (Nat.le_of_ble_eq_true rfl) rfl h ?_
  intro p e R s m args below meth c C
  unfold cf_X12_is
  refine K_aload_n C 0 rfl rfl dX12_is_0 ?_
  refine K_iload_n C 1 rfl rfl dX12_is_1 ?_
  refine K_putI C kin_X12 rfl (Nat.le_of_ble_eq_true rfl) (shM_0 G ad) 13 (by decide) rfl wf_X12_61 rfl tyX12 tyX12_ok nmX12 (by decide) (ty := .int) (by decide +kernel) rfl rfl dX12_is_2 (fun g1 => ?_)
  refine K_iconst C (v := 1) (by decide) dX12_is_5 ?_
  exact K_ret C rfl (by decide) dX12_is_6
def cf_X12_isColour (f : kMem) (x1 : Int32) : Option (Int32 × kMem) := kbind (cf_X12_in f x1 0 ((f 1 0) - 1)) (fun r1 g2 => kchk (kbool r1) (some (r1, g2)))
set_option maxRecDepth 100000 in
set_option maxHeartbeats 4000000 in
theorem km_X12_isColour (l : Launch) (G : kG) (ad : Nat → Nat) (f : kMem) (x1 : Int32) (r : Int32) (fo : kMem) (h : cf_X12_isColour f x1 = some (r, fo)) : kMet l (wM G ad) yX12_isColour cX12_isColour 2 (some .boolean) 1 [.ref (kad (wM G ad) 0), .int x1] f r fo := by
  refine kMet_of (own := RX12) (lv := [(0, .ref (kad (wM G ad) 0)), (1, .int x1)]) (by decide) rfl (Nat.le_of_ble_eq_true rfl) rfl h ?_
  intro p e R s m args below meth c C
  unfold cf_X12_isColour
  refine K_iload_n C 1 rfl rfl dX12_isColour_0 ?_
  refine K_iconst C (v := 0) (by decide) dX12_isColour_1 ?_
  refine K_aload_n C 0 rfl rfl dX12_isColour_2 ?_
  refine K_getR C kin_X12 rfl (Nat.le_of_ble_eq_true rfl) (shM_0 G ad) 0 (by decide) (b := 1) rfl wf_X12_9 rfl dX12_isColour_3 ?_
  refine K_iconst C (v := 0) (by decide) dX12_isColour_6 ?_
  refine K_ialdC C (Nat.le_of_ble_eq_true rfl) (shM_1 G ad) (kin_in (by decide)) dX12_isColour_7 0 (by decide) ?_
  refine K_iconst C (v := 1) (by decide) dX12_isColour_8 ?_
  refine K_isub C dX12_isColour_9 ?_
  refine K_callSi C (As := [.int x1, .int 0, .int ((f 1 0) - 1)]) (rest := []) hy_X12_in wm_X12_64 (by decide) ⟨Nat.le_refl _, Nat.le_refl _⟩ (fun rr ff hh => km_X12_in l G ad f x1 0 ((f 1 0) - 1) rr ff hh) rfl rfl (Nat.le_of_ble_eq_true rfl) rfl dX12_isColour_10 (fun r1 g2 => ?_)
  exact K_bret C rfl dX12_isColour_13
def cf_X12_isPart (f : kMem) (x1 : Int32) : Option (Int32 × kMem) := kbind (cf_X12_in f x1 0 ((f 1 1) - 1)) (fun r1 g2 => kchk (kbool r1) (some (r1, g2)))
set_option maxRecDepth 100000 in
set_option maxHeartbeats 4000000 in
theorem km_X12_isPart (l : Launch) (G : kG) (ad : Nat → Nat) (f : kMem) (x1 : Int32) (r : Int32) (fo : kMem) (h : cf_X12_isPart f x1 = some (r, fo)) : kMet l (wM G ad) yX12_isPart cX12_isPart 2 (some .boolean) 1 [.ref (kad (wM G ad) 0), .int x1] f r fo := by
  refine kMet_of (own := RX12) (lv := [(0, .ref (kad (wM G ad) 0)), (1, .int x1)]) (by decide) rfl (Nat.le_of_ble_eq_true rfl) rfl h ?_
  intro p e R s m args below meth c C
  unfold cf_X12_isPart
  refine K_iload_n C 1 rfl rfl dX12_isPart_0 ?_
  refine K_iconst C (v := 0) (by decide) dX12_isPart_1 ?_
  refine K_aload_n C 0 rfl rfl dX12_isPart_2 ?_
  refine K_getR C kin_X12 rfl (Nat.le_of_ble_eq_true rfl) (shM_0 G ad) 0 (by decide) (b := 1) rfl wf_X12_9 rfl dX12_isPart_3 ?_
  refine K_iconst C (v := 1) (by decide) dX12_isPart_6 ?_
  refine K_ialdC C (Nat.le_of_ble_eq_true rfl) (shM_1 G ad) (kin_in (by decide)) dX12_isPart_7 1 (by decide) ?_
  refine K_iconst C (v := 1) (by decide) dX12_isPart_8 ?_
  refine K_isub C dX12_isPart_9 ?_
  refine K_callSi C (As := [.int x1, .int 0, .int ((f 1 1) - 1)]) (rest := []) hy_X12_in wm_X12_64 (by decide) ⟨Nat.le_refl _, Nat.le_refl _⟩ (fun rr ff hh => km_X12_in l G ad f x1 0 ((f 1 1) - 1) rr ff hh) rfl rfl (Nat.le_of_ble_eq_true rfl) rfl dX12_isPart_10 (fun r1 g2 => ?_)
  exact K_bret C rfl dX12_isPart_13
def cf_X12_isFamily (f : kMem) (x1 : Int32) : Option (Int32 × kMem) := kbind (cf_X12_in f x1 0 ((f 1 2) - 1)) (fun r1 g2 => kchk (kbool r1) (some (r1, g2)))
set_option maxRecDepth 100000 in
set_option maxHeartbeats 4000000 in
theorem km_X12_isFamily (l : Launch) (G : kG) (ad : Nat → Nat) (f : kMem) (x1 : Int32) (r : Int32) (fo : kMem) (h : cf_X12_isFamily f x1 = some (r, fo)) : kMet l (wM G ad) yX12_isFamily cX12_isFamily 2 (some .boolean) 1 [.ref (kad (wM G ad) 0), .int x1] f r fo := by
  refine kMet_of (own := RX12) (lv := [(0, .ref (kad (wM G ad) 0)), (1, .int x1)]) (by decide) rfl (Nat.le_of_ble_eq_true rfl) rfl h ?_
  intro p e R s m args below meth c C
  unfold cf_X12_isFamily
  refine K_iload_n C 1 rfl rfl dX12_isFamily_0 ?_
  refine K_iconst C (v := 0) (by decide) dX12_isFamily_1 ?_
  refine K_aload_n C 0 rfl rfl dX12_isFamily_2 ?_
  refine K_getR C kin_X12 rfl (Nat.le_of_ble_eq_true rfl) (shM_0 G ad) 0 (by decide) (b := 1) rfl wf_X12_9 rfl dX12_isFamily_3 ?_
  refine K_iconst C (v := 2) (by decide) dX12_isFamily_6 ?_
  refine K_ialdC C (Nat.le_of_ble_eq_true rfl) (shM_1 G ad) (kin_in (by decide)) dX12_isFamily_7 2 (by decide) ?_
  refine K_iconst C (v := 1) (by decide) dX12_isFamily_8 ?_
  refine K_isub C dX12_isFamily_9 ?_
  refine K_callSi C (As := [.int x1, .int 0, .int ((f 1 2) - 1)]) (rest := []) hy_X12_in wm_X12_64 (by decide) ⟨Nat.le_refl _, Nat.le_refl _⟩ (fun rr ff hh => km_X12_in l G ad f x1 0 ((f 1 2) - 1) rr ff hh) rfl rfl (Nat.le_of_ble_eq_true rfl) rfl dX12_isFamily_10 (fun r1 g2 => ?_)
  exact K_bret C rfl dX12_isFamily_13
def cf_X12_isDryer (f : kMem) (x0 : Int32) : Option (Int32 × kMem) := kbind (cf_X12_in f x0 0 2) (fun r1 g2 => kchk (kbool r1) (some (r1, g2)))
set_option maxRecDepth 100000 in
set_option maxHeartbeats 4000000 in
theorem km_X12_isDryer (l : Launch) (G : kG) (ad : Nat → Nat) (f : kMem) (x0 : Int32) (r : Int32) (fo : kMem) (h : cf_X12_isDryer f x0 = some (r, fo)) : kMet l (wM G ad) yX12_isDryer cX12_isDryer 1 (some .boolean) 1 [.int x0] f r fo := by
  refine kMet_of (own := RX12) (lv := [(0, .int x0)]) (by decide) rfl (Nat.le_of_ble_eq_true rfl) rfl h ?_
  intro p e R s m args below meth c C
  unfold cf_X12_isDryer
  refine K_iload_n C 0 rfl rfl dX12_isDryer_0 ?_
  refine K_iconst C (v := 0) (by decide) dX12_isDryer_1 ?_
  refine K_iconst C (v := 2) (by decide) dX12_isDryer_2 ?_
  refine K_callSi C (As := [.int x0, .int 0, .int 2]) (rest := []) hy_X12_in wm_X12_64 (by decide) ⟨Nat.le_refl _, Nat.le_refl _⟩ (fun rr ff hh => km_X12_in l G ad f x0 0 2 rr ff hh) rfl rfl (Nat.le_of_ble_eq_true rfl) rfl dX12_isDryer_3 (fun r1 g2 => ?_)
  exact K_bret C rfl dX12_isDryer_6
def cf_X12_isOrder (f : kMem) (x1 : Int32) : Option (Int32 × kMem) := kbind (cf_X12_in f x1 0 ((f 1 3) - 1)) (fun r1 g2 => kchk (kbool r1) (some (r1, g2)))
set_option maxRecDepth 100000 in
set_option maxHeartbeats 4000000 in
theorem km_X12_isOrder (l : Launch) (G : kG) (ad : Nat → Nat) (f : kMem) (x1 : Int32) (r : Int32) (fo : kMem) (h : cf_X12_isOrder f x1 = some (r, fo)) : kMet l (wM G ad) yX12_isOrder cX12_isOrder 2 (some .boolean) 1 [.ref (kad (wM G ad) 0), .int x1] f r fo := by
  refine kMet_of (own := RX12) (lv := [(0, .ref (kad (wM G ad) 0)), (1, .int x1)]) (by decide) rfl (Nat.le_of_ble_eq_true rfl) rfl h ?_
  intro p e R s m args below meth c C
  unfold cf_X12_isOrder
  refine K_iload_n C 1 rfl rfl dX12_isOrder_0 ?_
  refine K_iconst C (v := 0) (by decide) dX12_isOrder_1 ?_
  refine K_aload_n C 0 rfl rfl dX12_isOrder_2 ?_
  refine K_getR C kin_X12 rfl (Nat.le_of_ble_eq_true rfl) (shM_0 G ad) 0 (by decide) (b := 1) rfl wf_X12_9 rfl dX12_isOrder_3 ?_
  refine K_iconst C (v := 3) (by decide) dX12_isOrder_6 ?_
  refine K_ialdC C (Nat.le_of_ble_eq_true rfl) (shM_1 G ad) (kin_in (by decide)) dX12_isOrder_7 3 (by decide) ?_
  refine K_iconst C (v := 1) (by decide) dX12_isOrder_8 ?_
  refine K_isub C dX12_isOrder_9 ?_
  refine K_callSi C (As := [.int x1, .int 0, .int ((f 1 3) - 1)]) (rest := []) hy_X12_in wm_X12_64 (by decide) ⟨Nat.le_refl _, Nat.le_refl _⟩ (fun rr ff hh => km_X12_in l G ad f x1 0 ((f 1 3) - 1) rr ff hh) rfl rfl (Nat.le_of_ble_eq_true rfl) rfl dX12_isOrder_10 (fun r1 g2 => ?_)
  exact K_bret C rfl dX12_isOrder_13
def cf_X12_of (f : kMem) (x1 x2 : Int32) : Option (Int32 × kMem) := kchk (kin ((46 + (9 * x1)) + x2) 313) (some ((f 1 (Int32.toNatClampNeg ((46 + (9 * x1)) + x2))), f))
set_option maxRecDepth 100000 in
set_option maxHeartbeats 4000000 in
theorem km_X12_of (l : Launch) (G : kG) (ad : Nat → Nat) (f : kMem) (x1 x2 : Int32) (r : Int32) (fo : kMem) (h : cf_X12_of f x1 x2 = some (r, fo)) : kMet l (wM G ad) yX12_of cX12_of 3 (some .int) 0 [.ref (kad (wM G ad) 0), .int x1, .int x2] f r fo := by
  refine kMet_of (own := RX12) (lv := [(0, .ref (kad (wM G ad) 0)), (1, .int x1), (2, .int x2)]) (by decide) rfl (Nat.le_of_ble_eq_true rfl) rfl h ?_
  intro p e R s m args below meth c C
  unfold cf_X12_of
  refine K_aload_n C 0 rfl rfl dX12_of_0 ?_
  refine K_getR C kin_X12 rfl (Nat.le_of_ble_eq_true rfl) (shM_0 G ad) 0 (by decide) (b := 1) rfl wf_X12_9 rfl dX12_of_1 ?_
  refine K_bipush C (v := 46) (by decide) dX12_of_4 ?_
  refine K_bipush C (v := 9) (by decide) dX12_of_6 ?_
  refine K_iload_n C 1 rfl rfl dX12_of_8 ?_
  refine K_imul C dX12_of_9 ?_
  refine K_iadd C dX12_of_10 ?_
  refine K_iload_n C 2 rfl rfl dX12_of_11 ?_
  refine K_iadd C dX12_of_12 ?_
  refine K_iald C (Nat.le_of_ble_eq_true rfl) (shM_1 G ad) dX12_of_13 ?_
  exact K_ret C rfl rfl dX12_of_14
def cf_X12_ordered (f : kMem) (x1 x2 : Int32) : Option (Int32 × kMem) := kchk (kin ((253 + (6 * x1)) + x2) 313) (some ((f 1 (Int32.toNatClampNeg ((253 + (6 * x1)) + x2))), f))
set_option maxRecDepth 100000 in
set_option maxHeartbeats 4000000 in
theorem km_X12_ordered (l : Launch) (G : kG) (ad : Nat → Nat) (f : kMem) (x1 x2 : Int32) (r : Int32) (fo : kMem) (h : cf_X12_ordered f x1 x2 = some (r, fo)) : kMet l (wM G ad) yX12_ordered cX12_ordered 3 (some .int) 0 [.ref (kad (wM G ad) 0), .int x1, .int x2] f r fo := by
  refine kMet_of (own := RX12) (lv := [(0, .ref (kad (wM G ad) 0)), (1, .int x1), (2, .int x2)]) (by decide) rfl (Nat.le_of_ble_eq_true rfl) rfl h ?_
  intro p e R s m args below meth c C
  unfold cf_X12_ordered
  refine K_aload_n C 0 rfl rfl dX12_ordered_0 ?_
  refine K_getR C kin_X12 rfl (Nat.le_of_ble_eq_true rfl) (shM_0 G ad) 0 (by decide) (b := 1) rfl wf_X12_9 rfl dX12_ordered_1 ?_
  refine K_sipush C (v := 253) (by decide) dX12_ordered_4 ?_
  refine K_bipush C (v := 6) (by decide) dX12_ordered_7 ?_
  refine K_iload_n C 1 rfl rfl dX12_ordered_9 ?_
  refine K_imul C dX12_ordered_10 ?_
  refine K_iadd C dX12_ordered_11 ?_
  refine K_iload_n C 2 rfl rfl dX12_ordered_12 ?_
  refine K_iadd C dX12_ordered_13 ?_
  refine K_iald C (Nat.le_of_ble_eq_true rfl) (shM_1 G ad) dX12_ordered_14 ?_
  exact K_ret C rfl rfl dX12_ordered_15
def cf_X12_place (f : kMem) (x0 x1 : Int32) : Option (Int32 × kMem) := some (((6 * x0) + x1), f)
set_option maxRecDepth 100000 in
set_option maxHeartbeats 4000000 in
theorem km_X12_place (l : Launch) (G : kG) (ad : Nat → Nat) (f : kMem) (x0 x1 : Int32) (r : Int32) (fo : kMem) (h : cf_X12_place f x0 x1 = some (r, fo)) : kMet l (wM G ad) yX12_place cX12_place 2 (some .int) 0 [.int x0, .int x1] f r fo := by
  refine kMet_of (own := RX12) (lv := [(0, .int x0), (1, .int x1)]) (by decide) rfl (Nat.le_of_ble_eq_true rfl) rfl h ?_
  intro p e R s m args below meth c C
  unfold cf_X12_place
  refine K_bipush C (v := 6) (by decide) dX12_place_0 ?_
  refine K_iload_n C 0 rfl rfl dX12_place_2 ?_
  refine K_imul C dX12_place_3 ?_
  refine K_iload_n C 1 rfl rfl dX12_place_4 ?_
  refine K_iadd C dX12_place_5 ?_
  exact K_ret C rfl rfl dX12_place_6
def cl_X12_weekEnds_2 (Y162 : kMem → Option (Int32 × kMem)) : Nat → kMem → Int32 → Option (Int32 × kMem)
  | 0, _, _ => none
  | n + 1, f, x1 => kle (f 1 3) x1 ((Y162 f)) (klet (253 + (6 * x1)) (fun x2_1 => kchk (kin (x2_1 + 4) 313) (keq (f 1 (Int32.toNatClampNeg (x2_1 + 4))) 0 (kchk (kin (x2_1 + 3) 313) (kle (f 1 (Int32.toNatClampNeg (x2_1 + 3))) (f 1 7) (kchk (kin x2_1 313) (kchk (kin (x2_1 + 1) 313) (kbind (cf_X12_place f (f 1 (Int32.toNatClampNeg x2_1)) (f 1 (Int32.toNatClampNeg (x2_1 + 1)))) (fun r3 g4 => kchk (kin (109 + r3) 313) (kchk (kin (x2_1 + 2) 313) (klt (g4 1 (Int32.toNatClampNeg (109 + r3))) (g4 1 (Int32.toNatClampNeg (x2_1 + 2))) (kchk (kin (x2_1 + 5) 313) (kchk (kin (x2_1 + 5) 313) (kmem (kup g4 1 (Int32.toNatClampNeg (x2_1 + 5)) ((g4 1 (Int32.toNatClampNeg (x2_1 + 5))) + 1)) (fun g5 => klet (x1 + Int32.ofInt 1) (fun x1_6 => ((cl_X12_weekEnds_2 Y162 n) g5 x1_6)))))) (kchk (kin (109 + r3) 313) (kchk (kin (x2_1 + 2) 313) (kchk (kin (109 + r3) 313) (kmem (kup g4 1 (Int32.toNatClampNeg (109 + r3)) ((g4 1 (Int32.toNatClampNeg (109 + r3))) - (g4 1 (Int32.toNatClampNeg (x2_1 + 2))))) (fun g7 => kchk (kin (205 + r3) 313) (kchk (kin (x2_1 + 2) 313) (kchk (kin (205 + r3) 313) (kmem (kup g7 1 (Int32.toNatClampNeg (205 + r3)) ((g7 1 (Int32.toNatClampNeg (205 + r3))) + (g7 1 (Int32.toNatClampNeg (x2_1 + 2))))) (fun g8 => kchk (kin (x2_1 + 4) 313) (kmem (kup g8 1 (Int32.toNatClampNeg (x2_1 + 4)) 1) (fun g9 => klet (x1 + Int32.ofInt 1) (fun x1_10 => ((cl_X12_weekEnds_2 Y162 n) g9 x1_10))))))))))))))))))) (klet (x1 + Int32.ofInt 1) (fun x1_11 => ((cl_X12_weekEnds_2 Y162 n) f x1_11))))) (klet (x1 + Int32.ofInt 1) (fun x1_2 => ((cl_X12_weekEnds_2 Y162 n) f x1_2))))))
def cf_X12_weekEnds (f : kMem) : Option (Int32 × kMem) := (cl_X12_weekEnds_2 (fun g12 => kmem (kup g12 1 7 ((g12 1 7) + 1)) (fun g13 => kmem (kup g13 1 8 0) (fun g14 => some (0, g14)))) 100 f 0)
set_option maxRecDepth 100000 in
set_option maxHeartbeats 4000000 in
theorem kcl_X12_weekEnds_2 {p : Program} {l : Launch} {e : Env} {R : Room} {s : State} {m : MethodId} {args : Array Value} {below : List Frame} {meth : Method} {c : Code} {G : kG} {ad : Nat → Nat} {z : Int32 × kMem} (C : KC p l e R s m args below meth c (wM G ad) RX12 cX12_weekEnds 4 none 1 0 0) (Y162 : kMem → Option (Int32 × kMem)) (hY162 : ∀ (f : kMem), K p l e R s m args below meth c (wM G ad) 4 (kQF below (wM G ad) none args s z) z 0 0 f 162 [(0, .ref (kad (wM G ad) 0))] [] (Y162 f)) : ∀ (n : Nat) (f : kMem) (x1 : Int32), K p l e R s m args below meth c (wM G ad) 4 (kQF below (wM G ad) none args s z) z 0 0 f 2 [(0, .ref (kad (wM G ad) 0)), (1, .int x1)] [] (cl_X12_weekEnds_2 Y162 n f x1) := by
  intro n
  induction n with
  | zero => intro f x1; exact K_none
  | succ n ih =>
    intro f x1
    unfold cl_X12_weekEnds_2
    refine K_iload_n C 1 rfl rfl dX12_weekEnds_2 ?_
    refine K_aload_n C 0 rfl rfl dX12_weekEnds_3 ?_
    refine K_getR C kin_X12 rfl (Nat.le_of_ble_eq_true rfl) (shM_0 G ad) 0 (by decide) (b := 1) rfl wf_X12_9 rfl dX12_weekEnds_4 ?_
    refine K_iconst C (v := 3) (by decide) dX12_weekEnds_7 ?_
    refine K_ialdC C (Nat.le_of_ble_eq_true rfl) (shM_1 G ad) (kin_in (by decide)) dX12_weekEnds_8 3 (by decide) ?_
    refine K_icmp_ge C (tgt := 162) (by decide) dX12_weekEnds_9 ?_ ?_
    · refine K_sub [0] rfl ?_
      exact hY162 f
    · refine K_sipush C (v := 253) (by decide) dX12_weekEnds_12 ?_
      refine K_bipush C (v := 6) (by decide) dX12_weekEnds_15 ?_
      refine K_iload_n C 1 rfl rfl dX12_weekEnds_17 ?_
      refine K_imul C dX12_weekEnds_18 ?_
      refine K_iadd C dX12_weekEnds_19 ?_
      refine K_let rfl (fun x2_1 => ?_)
      refine K_istore_n C (lv1 := [(2, .int x2_1), (0, .ref (kad (wM G ad) 0)), (1, .int x1)]) rfl (by decide) rfl dX12_weekEnds_20 ?_
      refine K_aload_n C 1 rfl rfl dX12_weekEnds_21 ?_
      refine K_getR C kin_X12 rfl (Nat.le_of_ble_eq_true rfl) (shM_0 G ad) 0 (by decide) (b := 1) rfl wf_X12_9 rfl dX12_weekEnds_22 ?_
      refine K_iload_n C 0 rfl rfl dX12_weekEnds_25 ?_
      refine K_iconst C (v := 4) (by decide) dX12_weekEnds_26 ?_
      refine K_iadd C dX12_weekEnds_27 ?_
      refine K_iald C (Nat.le_of_ble_eq_true rfl) (shM_1 G ad) dX12_weekEnds_28 ?_
      refine K_if_ne C (tgt := 156) (by decide) dX12_weekEnds_29 ?_ ?_
      · refine K_iinc C (k := 2) (lv1 := fun x1_2 => [(1, .int x1_2), (2, .int x2_1), (0, .ref (kad (wM G ad) 0))]) rfl (by decide) (fun _ => rfl) dX12_weekEnds_156 (fun x1_2 => ?_)
        refine K_goto C (tgt := 2) (by decide) dX12_weekEnds_159 ?_
        refine K_sub [2, 0] rfl ?_
        exact ih f x1_2
      · refine K_aload_n C 1 rfl rfl dX12_weekEnds_32 ?_
        refine K_getR C kin_X12 rfl (Nat.le_of_ble_eq_true rfl) (shM_0 G ad) 0 (by decide) (b := 1) rfl wf_X12_9 rfl dX12_weekEnds_33 ?_
        refine K_iload_n C 0 rfl rfl dX12_weekEnds_36 ?_
        refine K_iconst C (v := 3) (by decide) dX12_weekEnds_37 ?_
        refine K_iadd C dX12_weekEnds_38 ?_
        refine K_iald C (Nat.le_of_ble_eq_true rfl) (shM_1 G ad) dX12_weekEnds_39 ?_
        refine K_aload_n C 1 rfl rfl dX12_weekEnds_40 ?_
        refine K_getR C kin_X12 rfl (Nat.le_of_ble_eq_true rfl) (shM_0 G ad) 0 (by decide) (b := 1) rfl wf_X12_9 rfl dX12_weekEnds_41 ?_
        refine K_bipush C (v := 7) (by decide) dX12_weekEnds_44 ?_
        refine K_ialdC C (Nat.le_of_ble_eq_true rfl) (shM_1 G ad) (kin_in (by decide)) dX12_weekEnds_46 7 (by decide) ?_
        refine K_icmp_le C (tgt := 53) (by decide) dX12_weekEnds_47 ?_ ?_
        · refine K_aload_n C 1 rfl rfl dX12_weekEnds_53 ?_
          refine K_getR C kin_X12 rfl (Nat.le_of_ble_eq_true rfl) (shM_0 G ad) 0 (by decide) (b := 1) rfl wf_X12_9 rfl dX12_weekEnds_54 ?_
          refine K_iload_n C 0 rfl rfl dX12_weekEnds_57 ?_
          refine K_iald C (Nat.le_of_ble_eq_true rfl) (shM_1 G ad) dX12_weekEnds_58 ?_
          refine K_aload_n C 1 rfl rfl dX12_weekEnds_59 ?_
          refine K_getR C kin_X12 rfl (Nat.le_of_ble_eq_true rfl) (shM_0 G ad) 0 (by decide) (b := 1) rfl wf_X12_9 rfl dX12_weekEnds_60 ?_
          refine K_iload_n C 0 rfl rfl dX12_weekEnds_63 ?_
          refine K_iconst C (v := 1) (by decide) dX12_weekEnds_64 ?_
          refine K_iadd C dX12_weekEnds_65 ?_
          refine K_iald C (Nat.le_of_ble_eq_true rfl) (shM_1 G ad) dX12_weekEnds_66 ?_
          refine K_callSi C (As := [.int (f 1 (Int32.toNatClampNeg x2_1)), .int (f 1 (Int32.toNatClampNeg (x2_1 + 1)))]) (rest := []) hy_X12_place wm_X12_68 (by decide) ⟨Nat.le_refl _, Nat.le_refl _⟩ (fun rr ff hh => km_X12_place l G ad f (f 1 (Int32.toNatClampNeg x2_1)) (f 1 (Int32.toNatClampNeg (x2_1 + 1))) rr ff hh) rfl rfl (Nat.le_of_ble_eq_true rfl) rfl dX12_weekEnds_67 (fun r3 g4 => ?_)
          refine K_istore_n C (lv1 := [(3, .int r3), (2, .int x2_1), (0, .ref (kad (wM G ad) 0)), (1, .int x1)]) rfl (by decide) rfl dX12_weekEnds_70 ?_
          refine K_aload_n C 2 rfl rfl dX12_weekEnds_71 ?_
          refine K_getR C kin_X12 rfl (Nat.le_of_ble_eq_true rfl) (shM_0 G ad) 0 (by decide) (b := 1) rfl wf_X12_9 rfl dX12_weekEnds_72 ?_
          refine K_bipush C (v := 109) (by decide) dX12_weekEnds_75 ?_
          refine K_iload_n C 0 rfl rfl dX12_weekEnds_77 ?_
          refine K_iadd C dX12_weekEnds_78 ?_
          refine K_iald C (Nat.le_of_ble_eq_true rfl) (shM_1 G ad) dX12_weekEnds_79 ?_
          refine K_aload_n C 2 rfl rfl dX12_weekEnds_80 ?_
          refine K_getR C kin_X12 rfl (Nat.le_of_ble_eq_true rfl) (shM_0 G ad) 0 (by decide) (b := 1) rfl wf_X12_9 rfl dX12_weekEnds_81 ?_
          refine K_iload_n C 1 rfl rfl dX12_weekEnds_84 ?_
          refine K_iconst C (v := 2) (by decide) dX12_weekEnds_85 ?_
          refine K_iadd C dX12_weekEnds_86 ?_
          refine K_iald C (Nat.le_of_ble_eq_true rfl) (shM_1 G ad) dX12_weekEnds_87 ?_
          refine K_icmp_lt C (tgt := 144) (by decide) dX12_weekEnds_88 ?_ ?_
          · refine K_aload_n C 2 rfl rfl dX12_weekEnds_144 ?_
            refine K_getR C kin_X12 rfl (Nat.le_of_ble_eq_true rfl) (shM_0 G ad) 0 (by decide) (b := 1) rfl wf_X12_9 rfl dX12_weekEnds_145 ?_
            refine K_iload_n C 1 rfl rfl dX12_weekEnds_148 ?_
            refine K_iconst C (v := 5) (by decide) dX12_weekEnds_149 ?_
            refine K_iadd C dX12_weekEnds_150 ?_
            refine K_dup2 C rfl rfl dX12_weekEnds_151 ?_
            refine K_iald C (Nat.le_of_ble_eq_true rfl) (shM_1 G ad) dX12_weekEnds_152 ?_
            refine K_iconst C (v := 1) (by decide) dX12_weekEnds_153 ?_
            refine K_iadd C dX12_weekEnds_154 ?_
            refine K_iast C (Nat.le_of_ble_eq_true rfl) (shM_1 G ad) dX12_weekEnds_155 (fun g5 => ?_)
            refine K_iinc C (k := 3) (lv1 := fun x1_6 => [(1, .int x1_6), (3, .int r3), (2, .int x2_1), (0, .ref (kad (wM G ad) 0))]) rfl (by decide) (fun _ => rfl) dX12_weekEnds_156 (fun x1_6 => ?_)
            refine K_goto C (tgt := 2) (by decide) dX12_weekEnds_159 ?_
            refine K_sub [3, 0] rfl ?_
            exact ih g5 x1_6
          · refine K_aload_n C 2 rfl rfl dX12_weekEnds_91 ?_
            refine K_getR C kin_X12 rfl (Nat.le_of_ble_eq_true rfl) (shM_0 G ad) 0 (by decide) (b := 1) rfl wf_X12_9 rfl dX12_weekEnds_92 ?_
            refine K_bipush C (v := 109) (by decide) dX12_weekEnds_95 ?_
            refine K_iload_n C 0 rfl rfl dX12_weekEnds_97 ?_
            refine K_iadd C dX12_weekEnds_98 ?_
            refine K_dup2 C rfl rfl dX12_weekEnds_99 ?_
            refine K_iald C (Nat.le_of_ble_eq_true rfl) (shM_1 G ad) dX12_weekEnds_100 ?_
            refine K_aload_n C 2 rfl rfl dX12_weekEnds_101 ?_
            refine K_getR C kin_X12 rfl (Nat.le_of_ble_eq_true rfl) (shM_0 G ad) 0 (by decide) (b := 1) rfl wf_X12_9 rfl dX12_weekEnds_102 ?_
            refine K_iload_n C 1 rfl rfl dX12_weekEnds_105 ?_
            refine K_iconst C (v := 2) (by decide) dX12_weekEnds_106 ?_
            refine K_iadd C dX12_weekEnds_107 ?_
            refine K_iald C (Nat.le_of_ble_eq_true rfl) (shM_1 G ad) dX12_weekEnds_108 ?_
            refine K_isub C dX12_weekEnds_109 ?_
            refine K_iast C (Nat.le_of_ble_eq_true rfl) (shM_1 G ad) dX12_weekEnds_110 (fun g7 => ?_)
            refine K_aload_n C 2 rfl rfl dX12_weekEnds_111 ?_
            refine K_getR C kin_X12 rfl (Nat.le_of_ble_eq_true rfl) (shM_0 G ad) 0 (by decide) (b := 1) rfl wf_X12_9 rfl dX12_weekEnds_112 ?_
            refine K_sipush C (v := 205) (by decide) dX12_weekEnds_115 ?_
            refine K_iload_n C 0 rfl rfl dX12_weekEnds_118 ?_
            refine K_iadd C dX12_weekEnds_119 ?_
            refine K_dup2 C rfl rfl dX12_weekEnds_120 ?_
            refine K_iald C (Nat.le_of_ble_eq_true rfl) (shM_1 G ad) dX12_weekEnds_121 ?_
            refine K_aload_n C 2 rfl rfl dX12_weekEnds_122 ?_
            refine K_getR C kin_X12 rfl (Nat.le_of_ble_eq_true rfl) (shM_0 G ad) 0 (by decide) (b := 1) rfl wf_X12_9 rfl dX12_weekEnds_123 ?_
            refine K_iload_n C 1 rfl rfl dX12_weekEnds_126 ?_
            refine K_iconst C (v := 2) (by decide) dX12_weekEnds_127 ?_
            refine K_iadd C dX12_weekEnds_128 ?_
            refine K_iald C (Nat.le_of_ble_eq_true rfl) (shM_1 G ad) dX12_weekEnds_129 ?_
            refine K_iadd C dX12_weekEnds_130 ?_
            refine K_iast C (Nat.le_of_ble_eq_true rfl) (shM_1 G ad) dX12_weekEnds_131 (fun g8 => ?_)
            refine K_aload_n C 2 rfl rfl dX12_weekEnds_132 ?_
            refine K_getR C kin_X12 rfl (Nat.le_of_ble_eq_true rfl) (shM_0 G ad) 0 (by decide) (b := 1) rfl wf_X12_9 rfl dX12_weekEnds_133 ?_
            refine K_iload_n C 1 rfl rfl dX12_weekEnds_136 ?_
            refine K_iconst C (v := 4) (by decide) dX12_weekEnds_137 ?_
            refine K_iadd C dX12_weekEnds_138 ?_
            refine K_iconst C (v := 1) (by decide) dX12_weekEnds_139 ?_
            refine K_iast C (Nat.le_of_ble_eq_true rfl) (shM_1 G ad) dX12_weekEnds_140 (fun g9 => ?_)
            refine K_goto C (tgt := 156) (by decide) dX12_weekEnds_141 ?_
            refine K_iinc C (k := 3) (lv1 := fun x1_10 => [(1, .int x1_10), (3, .int r3), (2, .int x2_1), (0, .ref (kad (wM G ad) 0))]) rfl (by decide) (fun _ => rfl) dX12_weekEnds_156 (fun x1_10 => ?_)
            refine K_goto C (tgt := 2) (by decide) dX12_weekEnds_159 ?_
            refine K_sub [3, 0] rfl ?_
            exact ih g9 x1_10
        · refine K_goto C (tgt := 156) (by decide) dX12_weekEnds_50 ?_
          refine K_iinc C (k := 2) (lv1 := fun x1_11 => [(1, .int x1_11), (2, .int x2_1), (0, .ref (kad (wM G ad) 0))]) rfl (by decide) (fun _ => rfl) dX12_weekEnds_156 (fun x1_11 => ?_)
          refine K_goto C (tgt := 2) (by decide) dX12_weekEnds_159 ?_
          refine K_sub [2, 0] rfl ?_
          exact ih f x1_11
set_option maxRecDepth 100000 in
set_option maxHeartbeats 4000000 in
theorem km_X12_weekEnds (l : Launch) (G : kG) (ad : Nat → Nat) (f : kMem) (r : Int32) (fo : kMem) (h : cf_X12_weekEnds f = some (r, fo)) : kMet l (wM G ad) yX12_weekEnds cX12_weekEnds 4 none 1 [.ref (kad (wM G ad) 0)] f r fo := by
  refine kMet_of (own := RX12) (lv := [(0, .ref (kad (wM G ad) 0))]) (by decide) rfl (Nat.le_of_ble_eq_true rfl) rfl h ?_
  intro p e R s m args below meth c C
  unfold cf_X12_weekEnds
  refine K_iconst C (v := 0) (by decide) dX12_weekEnds_0 ?_
  refine K_istore_n C (lv1 := [(1, .int 0), (0, .ref (kad (wM G ad) 0))]) rfl (by decide) rfl dX12_weekEnds_1 ?_
  refine K_sub [1, 0] rfl ?_
  refine kcl_X12_weekEnds_2 C _ (fun g12 => ?_) 100 f 0
  refine K_aload_n C 0 rfl rfl dX12_weekEnds_162 ?_
  refine K_getR C kin_X12 rfl (Nat.le_of_ble_eq_true rfl) (shM_0 G ad) 0 (by decide) (b := 1) rfl wf_X12_9 rfl dX12_weekEnds_163 ?_
  refine K_bipush C (v := 7) (by decide) dX12_weekEnds_166 ?_
  refine K_dup2 C rfl rfl dX12_weekEnds_168 ?_
  refine K_ialdC C (Nat.le_of_ble_eq_true rfl) (shM_1 G ad) (kin_in (by decide)) dX12_weekEnds_169 7 (by decide) ?_
  refine K_iconst C (v := 1) (by decide) dX12_weekEnds_170 ?_
  refine K_iadd C dX12_weekEnds_171 ?_
  refine K_iastC C (Nat.le_of_ble_eq_true rfl) (shM_1 G ad) (kin_in (by decide)) dX12_weekEnds_172 7 (by decide) (fun g13 => ?_)
  refine K_aload_n C 0 rfl rfl dX12_weekEnds_173 ?_
  refine K_getR C kin_X12 rfl (Nat.le_of_ble_eq_true rfl) (shM_0 G ad) 0 (by decide) (b := 1) rfl wf_X12_9 rfl dX12_weekEnds_174 ?_
  refine K_bipush C (v := 8) (by decide) dX12_weekEnds_177 ?_
  refine K_iconst C (v := 0) (by decide) dX12_weekEnds_179 ?_
  refine K_iastC C (Nat.le_of_ble_eq_true rfl) (shM_1 G ad) (kin_in (by decide)) dX12_weekEnds_180 8 (by decide) (fun g14 => ?_)
  exact K_vret C rfl dX12_weekEnds_181
def cl_X12_passes_10 (Y53 : kMem → Int32 → Int32 → Option (Int32 × kMem)) : Nat → kMem → Int32 → Int32 → Int32 → Option (Int32 × kMem)
  | 0, _, _, _, _ => none
  | n + 1, f, x1, x2, x3 => kle x1 x3 ((Y53 f x1 x2)) (kmem (kup f 1 8 ((f 1 8) + 1)) (fun g2 => klt (g2 1 8) (g2 1 12) (klet (x3 + Int32.ofInt 1) (fun x3_3 => ((cl_X12_passes_10 Y53 n) g2 x1 x2 x3_3))) (kbind (cf_X12_weekEnds g2) (fun r4 g5 => klet (x3 + Int32.ofInt 1) (fun x3_6 => ((cl_X12_passes_10 Y53 n) g5 x1 x2 x3_6))))))
def cl_X12_passes_66 (Y108 : kMem → Int32 → Option (Int32 × kMem)) : Nat → kMem → Int32 → Int32 → Int32 → Option (Int32 × kMem)
  | 0, _, _, _, _ => none
  | n + 1, f, x1, x2, x3 => kle 3 x3 ((Y108 f x2)) (kchk (kin (100 + (3 * x3)) 313) (klt (f 1 (Int32.toNatClampNeg (100 + (3 * x3)))) 0 (klet (x3 + Int32.ofInt 1) (fun x3_11 => ((cl_X12_passes_66 Y108 n) f x1 x2 x3_11))) (kchk (kin ((100 + (3 * x3)) + 2) 313) (kchk (kin ((100 + (3 * x3)) + 2) 313) (kmem (kup f 1 (Int32.toNatClampNeg ((100 + (3 * x3)) + 2)) ((f 1 (Int32.toNatClampNeg ((100 + (3 * x3)) + 2))) + x1)) (fun g12 => klet (x3 + Int32.ofInt 1) (fun x3_13 => ((cl_X12_passes_66 Y108 n) g12 x1 x2 x3_13))))))))
def cf_X12_passes (f : kMem) (x1 : Int32) : Option (Int32 × kMem) := klet (f 1 7) (fun x2_1 => (cl_X12_passes_10 (fun g9 x1_7 x2_8 => kmem (kup g9 1 6 ((g9 1 6) + x1_7)) (fun g10 => (cl_X12_passes_66 (fun g15 x2_14 => some (((g15 1 7) - x2_14), g15)) 100000 g10 x1_7 x2_8 0))) 100000 f x1 x2_1 0))
set_option maxRecDepth 100000 in
set_option maxHeartbeats 4000000 in
theorem kcl_X12_passes_10 {p : Program} {l : Launch} {e : Env} {R : Room} {s : State} {m : MethodId} {args : Array Value} {below : List Frame} {meth : Method} {c : Code} {G : kG} {ad : Nat → Nat} {z : Int32 × kMem} (C : KC p l e R s m args below meth c (wM G ad) RX12 cX12_passes 4 (some .int) 2 0 0) (Y53 : kMem → Int32 → Int32 → Option (Int32 × kMem)) (hY53 : ∀ (f : kMem) (x1 x2 : Int32), K p l e R s m args below meth c (wM G ad) 4 (kQF below (wM G ad) (some .int) args s z) z 0 0 f 53 [(0, .ref (kad (wM G ad) 0)), (1, .int x1), (2, .int x2)] [] (Y53 f x1 x2)) : ∀ (n : Nat) (f : kMem) (x1 x2 x3 : Int32), K p l e R s m args below meth c (wM G ad) 4 (kQF below (wM G ad) (some .int) args s z) z 0 0 f 10 [(0, .ref (kad (wM G ad) 0)), (1, .int x1), (2, .int x2), (3, .int x3)] [] (cl_X12_passes_10 Y53 n f x1 x2 x3) := by
  intro n
  induction n with
  | zero => intro f x1 x2 x3; exact K_none
  | succ n ih =>
    intro f x1 x2 x3
    unfold cl_X12_passes_10
    refine K_iload_n C 3 rfl rfl dX12_passes_10 ?_
    refine K_iload_n C 1 rfl rfl dX12_passes_11 ?_
    refine K_icmp_ge C (tgt := 53) (by decide) dX12_passes_12 ?_ ?_
    · refine K_sub [0, 1, 2] rfl ?_
      exact hY53 f x1 x2
    · refine K_aload_n C 0 rfl rfl dX12_passes_15 ?_
      refine K_getR C kin_X12 rfl (Nat.le_of_ble_eq_true rfl) (shM_0 G ad) 0 (by decide) (b := 1) rfl wf_X12_9 rfl dX12_passes_16 ?_
      refine K_bipush C (v := 8) (by decide) dX12_passes_19 ?_
      refine K_dup2 C rfl rfl dX12_passes_21 ?_
      refine K_ialdC C (Nat.le_of_ble_eq_true rfl) (shM_1 G ad) (kin_in (by decide)) dX12_passes_22 8 (by decide) ?_
      refine K_iconst C (v := 1) (by decide) dX12_passes_23 ?_
      refine K_iadd C dX12_passes_24 ?_
      refine K_iastC C (Nat.le_of_ble_eq_true rfl) (shM_1 G ad) (kin_in (by decide)) dX12_passes_25 8 (by decide) (fun g2 => ?_)
      refine K_aload_n C 0 rfl rfl dX12_passes_26 ?_
      refine K_getR C kin_X12 rfl (Nat.le_of_ble_eq_true rfl) (shM_0 G ad) 0 (by decide) (b := 1) rfl wf_X12_9 rfl dX12_passes_27 ?_
      refine K_bipush C (v := 8) (by decide) dX12_passes_30 ?_
      refine K_ialdC C (Nat.le_of_ble_eq_true rfl) (shM_1 G ad) (kin_in (by decide)) dX12_passes_32 8 (by decide) ?_
      refine K_aload_n C 0 rfl rfl dX12_passes_33 ?_
      refine K_getR C kin_X12 rfl (Nat.le_of_ble_eq_true rfl) (shM_0 G ad) 0 (by decide) (b := 1) rfl wf_X12_9 rfl dX12_passes_34 ?_
      refine K_bipush C (v := 12) (by decide) dX12_passes_37 ?_
      refine K_ialdC C (Nat.le_of_ble_eq_true rfl) (shM_1 G ad) (kin_in (by decide)) dX12_passes_39 12 (by decide) ?_
      refine K_icmp_lt C (tgt := 47) (by decide) dX12_passes_40 ?_ ?_
      · refine K_iinc C (k := 3) (lv1 := fun x3_3 => [(3, .int x3_3), (0, .ref (kad (wM G ad) 0)), (1, .int x1), (2, .int x2)]) rfl (by decide) (fun _ => rfl) dX12_passes_47 (fun x3_3 => ?_)
        refine K_goto C (tgt := 10) (by decide) dX12_passes_50 ?_
        refine K_sub [1, 2, 3, 0] rfl ?_
        exact ih g2 x1 x2 x3_3
      · refine K_aload_n C 0 rfl rfl dX12_passes_43 ?_
        refine K_callVv C (As := []) (rest := []) (Nat.le_of_ble_eq_true rfl) (shM_0 G ad) rfl hy_X12_weekEnds wm_X12_72 (by decide) ⟨Nat.le_refl _, Nat.le_refl _⟩ (fun rr ff hh => km_X12_weekEnds l G ad g2 rr ff hh) rfl rfl (Nat.le_of_ble_eq_true rfl) rfl dX12_passes_44 (fun r4 g5 => ?_)
        refine K_iinc C (k := 3) (lv1 := fun x3_6 => [(3, .int x3_6), (0, .ref (kad (wM G ad) 0)), (1, .int x1), (2, .int x2)]) rfl (by decide) (fun _ => rfl) dX12_passes_47 (fun x3_6 => ?_)
        refine K_goto C (tgt := 10) (by decide) dX12_passes_50 ?_
        refine K_sub [1, 2, 3, 0] rfl ?_
        exact ih g5 x1 x2 x3_6
set_option maxRecDepth 100000 in
set_option maxHeartbeats 4000000 in
theorem kcl_X12_passes_66 {p : Program} {l : Launch} {e : Env} {R : Room} {s : State} {m : MethodId} {args : Array Value} {below : List Frame} {meth : Method} {c : Code} {G : kG} {ad : Nat → Nat} {z : Int32 × kMem} (C : KC p l e R s m args below meth c (wM G ad) RX12 cX12_passes 4 (some .int) 2 0 0) (Y108 : kMem → Int32 → Option (Int32 × kMem)) (hY108 : ∀ (f : kMem) (x2 : Int32), K p l e R s m args below meth c (wM G ad) 4 (kQF below (wM G ad) (some .int) args s z) z 0 0 f 108 [(0, .ref (kad (wM G ad) 0)), (2, .int x2)] [] (Y108 f x2)) : ∀ (n : Nat) (f : kMem) (x1 x2 x3 : Int32), K p l e R s m args below meth c (wM G ad) 4 (kQF below (wM G ad) (some .int) args s z) z 0 0 f 66 [(0, .ref (kad (wM G ad) 0)), (1, .int x1), (2, .int x2), (3, .int x3)] [] (cl_X12_passes_66 Y108 n f x1 x2 x3) := by
  intro n
  induction n with
  | zero => intro f x1 x2 x3; exact K_none
  | succ n ih =>
    intro f x1 x2 x3
    unfold cl_X12_passes_66
    refine K_iload_n C 3 rfl rfl dX12_passes_66 ?_
    refine K_iconst C (v := 3) (by decide) dX12_passes_67 ?_
    refine K_icmp_ge C (tgt := 108) (by decide) dX12_passes_68 ?_ ?_
    · refine K_sub [0, 2] rfl ?_
      exact hY108 f x2
    · refine K_aload_n C 0 rfl rfl dX12_passes_71 ?_
      refine K_getR C kin_X12 rfl (Nat.le_of_ble_eq_true rfl) (shM_0 G ad) 0 (by decide) (b := 1) rfl wf_X12_9 rfl dX12_passes_72 ?_
      refine K_bipush C (v := 100) (by decide) dX12_passes_75 ?_
      refine K_iconst C (v := 3) (by decide) dX12_passes_77 ?_
      refine K_iload_n C 3 rfl rfl dX12_passes_78 ?_
      refine K_imul C dX12_passes_79 ?_
      refine K_iadd C dX12_passes_80 ?_
      refine K_iald C (Nat.le_of_ble_eq_true rfl) (shM_1 G ad) dX12_passes_81 ?_
      refine K_if_lt C (tgt := 102) (by decide) dX12_passes_82 ?_ ?_
      · refine K_iinc C (k := 3) (lv1 := fun x3_11 => [(3, .int x3_11), (0, .ref (kad (wM G ad) 0)), (1, .int x1), (2, .int x2)]) rfl (by decide) (fun _ => rfl) dX12_passes_102 (fun x3_11 => ?_)
        refine K_goto C (tgt := 66) (by decide) dX12_passes_105 ?_
        refine K_sub [1, 2, 3, 0] rfl ?_
        exact ih f x1 x2 x3_11
      · refine K_aload_n C 0 rfl rfl dX12_passes_85 ?_
        refine K_getR C kin_X12 rfl (Nat.le_of_ble_eq_true rfl) (shM_0 G ad) 0 (by decide) (b := 1) rfl wf_X12_9 rfl dX12_passes_86 ?_
        refine K_bipush C (v := 100) (by decide) dX12_passes_89 ?_
        refine K_iconst C (v := 3) (by decide) dX12_passes_91 ?_
        refine K_iload_n C 3 rfl rfl dX12_passes_92 ?_
        refine K_imul C dX12_passes_93 ?_
        refine K_iadd C dX12_passes_94 ?_
        refine K_iconst C (v := 2) (by decide) dX12_passes_95 ?_
        refine K_iadd C dX12_passes_96 ?_
        refine K_dup2 C rfl rfl dX12_passes_97 ?_
        refine K_iald C (Nat.le_of_ble_eq_true rfl) (shM_1 G ad) dX12_passes_98 ?_
        refine K_iload_n C 1 rfl rfl dX12_passes_99 ?_
        refine K_iadd C dX12_passes_100 ?_
        refine K_iast C (Nat.le_of_ble_eq_true rfl) (shM_1 G ad) dX12_passes_101 (fun g12 => ?_)
        refine K_iinc C (k := 3) (lv1 := fun x3_13 => [(3, .int x3_13), (0, .ref (kad (wM G ad) 0)), (1, .int x1), (2, .int x2)]) rfl (by decide) (fun _ => rfl) dX12_passes_102 (fun x3_13 => ?_)
        refine K_goto C (tgt := 66) (by decide) dX12_passes_105 ?_
        refine K_sub [1, 2, 3, 0] rfl ?_
        exact ih g12 x1 x2 x3_13
set_option maxRecDepth 100000 in
set_option maxHeartbeats 4000000 in
theorem km_X12_passes (l : Launch) (G : kG) (ad : Nat → Nat) (f : kMem) (x1 : Int32) (r : Int32) (fo : kMem) (h : cf_X12_passes f x1 = some (r, fo)) : kMet l (wM G ad) yX12_passes cX12_passes 4 (some .int) 2 [.ref (kad (wM G ad) 0), .int x1] f r fo := by
  refine kMet_of (own := RX12) (lv := [(0, .ref (kad (wM G ad) 0)), (1, .int x1)]) (by decide) rfl (Nat.le_of_ble_eq_true rfl) rfl h ?_
  intro p e R s m args below meth c C
  unfold cf_X12_passes
  refine K_aload_n C 0 rfl rfl dX12_passes_0 ?_
  refine K_getR C kin_X12 rfl (Nat.le_of_ble_eq_true rfl) (shM_0 G ad) 0 (by decide) (b := 1) rfl wf_X12_9 rfl dX12_passes_1 ?_
  refine K_bipush C (v := 7) (by decide) dX12_passes_4 ?_
  refine K_ialdC C (Nat.le_of_ble_eq_true rfl) (shM_1 G ad) (kin_in (by decide)) dX12_passes_6 7 (by decide) ?_
  refine K_let rfl (fun x2_1 => ?_)
  refine K_istore_n C (lv1 := [(2, .int x2_1), (0, .ref (kad (wM G ad) 0)), (1, .int x1)]) rfl (by decide) rfl dX12_passes_7 ?_
  refine K_iconst C (v := 0) (by decide) dX12_passes_8 ?_
  refine K_istore_n C (lv1 := [(3, .int 0), (2, .int x2_1), (0, .ref (kad (wM G ad) 0)), (1, .int x1)]) rfl (by decide) rfl dX12_passes_9 ?_
  refine K_sub [2, 3, 1, 0] rfl ?_
  refine kcl_X12_passes_10 C _ (fun g9 x1_7 x2_8 => ?_) 100000 f x1 x2_1 0
  refine K_aload_n C 0 rfl rfl dX12_passes_53 ?_
  refine K_getR C kin_X12 rfl (Nat.le_of_ble_eq_true rfl) (shM_0 G ad) 0 (by decide) (b := 1) rfl wf_X12_9 rfl dX12_passes_54 ?_
  refine K_bipush C (v := 6) (by decide) dX12_passes_57 ?_
  refine K_dup2 C rfl rfl dX12_passes_59 ?_
  refine K_ialdC C (Nat.le_of_ble_eq_true rfl) (shM_1 G ad) (kin_in (by decide)) dX12_passes_60 6 (by decide) ?_
  refine K_iload_n C 1 rfl rfl dX12_passes_61 ?_
  refine K_iadd C dX12_passes_62 ?_
  refine K_iastC C (Nat.le_of_ble_eq_true rfl) (shM_1 G ad) (kin_in (by decide)) dX12_passes_63 6 (by decide) (fun g10 => ?_)
  refine K_iconst C (v := 0) (by decide) dX12_passes_64 ?_
  refine K_istore_n C (lv1 := [(3, .int 0), (0, .ref (kad (wM G ad) 0)), (1, .int x1_7), (2, .int x2_8)]) rfl (by decide) rfl dX12_passes_65 ?_
  refine K_sub [1, 2, 3, 0] rfl ?_
  refine kcl_X12_passes_66 C _ (fun g15 x2_14 => ?_) 100000 g10 x1_7 x2_8 0
  refine K_aload_n C 0 rfl rfl dX12_passes_108 ?_
  refine K_getR C kin_X12 rfl (Nat.le_of_ble_eq_true rfl) (shM_0 G ad) 0 (by decide) (b := 1) rfl wf_X12_9 rfl dX12_passes_109 ?_
  refine K_bipush C (v := 7) (by decide) dX12_passes_112 ?_
  refine K_ialdC C (Nat.le_of_ble_eq_true rfl) (shM_1 G ad) (kin_in (by decide)) dX12_passes_114 7 (by decide) ?_
  refine K_iload_n C 1 rfl rfl dX12_passes_115 ?_
  refine K_isub C dX12_passes_116 ?_
  exact K_ret C rfl rfl dX12_passes_117
def cf_X12_doesColour (f : kMem) (x1 : Int32) : Option (Int32 × kMem) := kbind (cf_X12_in f x1 0 9) (fun r1 g2 => keq r1 0 (kbind (cf_X12_refuses g2 2 0) (fun r9 g10 => kchk (kbool r9) (some (r9, g10)))) (keq (g2 1 0) 6 (kbind (cf_X12_refuses g2 3 0) (fun r7 g8 => kchk (kbool r7) (some (r7, g8)))) (kchk (kin (16 + (g2 1 0)) 313) (kmem (kup g2 1 (Int32.toNatClampNeg (16 + (g2 1 0))) x1) (fun g3 => kmem (kup g3 1 0 ((g3 1 0) + 1)) (fun g4 => kbind (cf_X12_is g4 (g3 1 0)) (fun r5 g6 => kchk (kbool r5) (some (r5, g6)))))))))
set_option maxRecDepth 100000 in
set_option maxHeartbeats 4000000 in
theorem km_X12_doesColour (l : Launch) (G : kG) (ad : Nat → Nat) (f : kMem) (x1 : Int32) (r : Int32) (fo : kMem) (h : cf_X12_doesColour f x1 = some (r, fo)) : kMet l (wM G ad) yX12_doesColour cX12_doesColour 2 (some .boolean) 1 [.ref (kad (wM G ad) 0), .int x1] f r fo := by
  refine kMet_of (own := RX12) (lv := [(0, .ref (kad (wM G ad) 0)), (1, .int x1)]) (by decide) rfl (Nat.le_of_ble_eq_true rfl) rfl h ?_
  intro p e R s m args below meth c C
  unfold cf_X12_doesColour
  refine K_iload_n C 1 rfl rfl dX12_doesColour_0 ?_
  refine K_iconst C (v := 0) (by decide) dX12_doesColour_1 ?_
  refine K_bipush C (v := 9) (by decide) dX12_doesColour_2 ?_
  refine K_callSi C (As := [.int x1, .int 0, .int 9]) (rest := []) hy_X12_in wm_X12_64 (by decide) ⟨Nat.le_refl _, Nat.le_refl _⟩ (fun rr ff hh => km_X12_in l G ad f x1 0 9 rr ff hh) rfl rfl (Nat.le_of_ble_eq_true rfl) rfl dX12_doesColour_4 (fun r1 g2 => ?_)
  refine K_if_ne C (tgt := 17) (by decide) dX12_doesColour_7 ?_ ?_
  · refine K_aload_n C 0 rfl rfl dX12_doesColour_17 ?_
    refine K_getR C kin_X12 rfl (Nat.le_of_ble_eq_true rfl) (shM_0 G ad) 0 (by decide) (b := 1) rfl wf_X12_9 rfl dX12_doesColour_18 ?_
    refine K_iconst C (v := 0) (by decide) dX12_doesColour_21 ?_
    refine K_ialdC C (Nat.le_of_ble_eq_true rfl) (shM_1 G ad) (kin_in (by decide)) dX12_doesColour_22 0 (by decide) ?_
    refine K_bipush C (v := 6) (by decide) dX12_doesColour_23 ?_
    refine K_icmp_ne C (tgt := 35) (by decide) dX12_doesColour_25 ?_ ?_
    · refine K_aload_n C 0 rfl rfl dX12_doesColour_35 ?_
      refine K_getR C kin_X12 rfl (Nat.le_of_ble_eq_true rfl) (shM_0 G ad) 0 (by decide) (b := 1) rfl wf_X12_9 rfl dX12_doesColour_36 ?_
      refine K_bipush C (v := 16) (by decide) dX12_doesColour_39 ?_
      refine K_aload_n C 0 rfl rfl dX12_doesColour_41 ?_
      refine K_getR C kin_X12 rfl (Nat.le_of_ble_eq_true rfl) (shM_0 G ad) 0 (by decide) (b := 1) rfl wf_X12_9 rfl dX12_doesColour_42 ?_
      refine K_iconst C (v := 0) (by decide) dX12_doesColour_45 ?_
      refine K_ialdC C (Nat.le_of_ble_eq_true rfl) (shM_1 G ad) (kin_in (by decide)) dX12_doesColour_46 0 (by decide) ?_
      refine K_iadd C dX12_doesColour_47 ?_
      refine K_iload_n C 1 rfl rfl dX12_doesColour_48 ?_
      refine K_iast C (Nat.le_of_ble_eq_true rfl) (shM_1 G ad) dX12_doesColour_49 (fun g3 => ?_)
      refine K_aload_n C 0 rfl rfl dX12_doesColour_50 ?_
      refine K_aload_n C 0 rfl rfl dX12_doesColour_51 ?_
      refine K_getR C kin_X12 rfl (Nat.le_of_ble_eq_true rfl) (shM_0 G ad) 0 (by decide) (b := 1) rfl wf_X12_9 rfl dX12_doesColour_52 ?_
      refine K_iconst C (v := 0) (by decide) dX12_doesColour_55 ?_
      refine K_dup2 C rfl rfl dX12_doesColour_56 ?_
      refine K_ialdC C (Nat.le_of_ble_eq_true rfl) (shM_1 G ad) (kin_in (by decide)) dX12_doesColour_57 0 (by decide) ?_
      refine K_dup_x2 C rfl rfl rfl dX12_doesColour_58 ?_
      refine K_iconst C (v := 1) (by decide) dX12_doesColour_59 ?_
      refine K_iadd C dX12_doesColour_60 ?_
      refine K_iastC C (Nat.le_of_ble_eq_true rfl) (shM_1 G ad) (kin_in (by decide)) dX12_doesColour_61 0 (by decide) (fun g4 => ?_)
      refine K_callVi C (As := [.int (g3 1 0)]) (rest := []) (Nat.le_of_ble_eq_true rfl) (shM_0 G ad) rfl hy_X12_is wm_X12_79 (by decide) ⟨Nat.le_refl _, Nat.le_refl _⟩ (fun rr ff hh => km_X12_is l G ad g4 (g3 1 0) rr ff hh) rfl rfl (Nat.le_of_ble_eq_true rfl) rfl dX12_doesColour_62 (fun r5 g6 => ?_)
      exact K_bret C rfl dX12_doesColour_65
    · refine K_aload_n C 0 rfl rfl dX12_doesColour_28 ?_
      refine K_iconst C (v := 3) (by decide) dX12_doesColour_29 ?_
      refine K_iconst C (v := 0) (by decide) dX12_doesColour_30 ?_
      refine K_callVi C (As := [.int 3, .int 0]) (rest := []) (Nat.le_of_ble_eq_true rfl) (shM_0 G ad) rfl hy_X12_refuses wm_X12_75 (by decide) ⟨Nat.le_refl _, Nat.le_refl _⟩ (fun rr ff hh => km_X12_refuses l G ad g2 3 0 rr ff hh) rfl rfl (Nat.le_of_ble_eq_true rfl) rfl dX12_doesColour_31 (fun r7 g8 => ?_)
      exact K_bret C rfl dX12_doesColour_34
  · refine K_aload_n C 0 rfl rfl dX12_doesColour_10 ?_
    refine K_iconst C (v := 2) (by decide) dX12_doesColour_11 ?_
    refine K_iconst C (v := 0) (by decide) dX12_doesColour_12 ?_
    refine K_callVi C (As := [.int 2, .int 0]) (rest := []) (Nat.le_of_ble_eq_true rfl) (shM_0 G ad) rfl hy_X12_refuses wm_X12_75 (by decide) ⟨Nat.le_refl _, Nat.le_refl _⟩ (fun rr ff hh => km_X12_refuses l G ad g2 2 0 rr ff hh) rfl rfl (Nat.le_of_ble_eq_true rfl) rfl dX12_doesColour_13 (fun r9 g10 => ?_)
    exact K_bret C rfl dX12_doesColour_16
def cf_X12_doesPart (f : kMem) (x1 : Int32) : Option (Int32 × kMem) := kbind (cf_X12_in f x1 1 50) (fun r1 g2 => keq r1 0 (kbind (cf_X12_refuses g2 2 0) (fun r9 g10 => kchk (kbool r9) (some (r9, g10)))) (keq (g2 1 1) 8 (kbind (cf_X12_refuses g2 3 0) (fun r7 g8 => kchk (kbool r7) (some (r7, g8)))) (kchk (kin (22 + (g2 1 1)) 313) (kmem (kup g2 1 (Int32.toNatClampNeg (22 + (g2 1 1))) x1) (fun g3 => kmem (kup g3 1 1 ((g3 1 1) + 1)) (fun g4 => kbind (cf_X12_is g4 (g3 1 1)) (fun r5 g6 => kchk (kbool r5) (some (r5, g6)))))))))
set_option maxRecDepth 100000 in
set_option maxHeartbeats 4000000 in
theorem km_X12_doesPart (l : Launch) (G : kG) (ad : Nat → Nat) (f : kMem) (x1 : Int32) (r : Int32) (fo : kMem) (h : cf_X12_doesPart f x1 = some (r, fo)) : kMet l (wM G ad) yX12_doesPart cX12_doesPart 2 (some .boolean) 1 [.ref (kad (wM G ad) 0), .int x1] f r fo := by
  refine kMet_of (own := RX12) (lv := [(0, .ref (kad (wM G ad) 0)), (1, .int x1)]) (by decide) rfl (Nat.le_of_ble_eq_true rfl) rfl h ?_
  intro p e R s m args below meth c C
  unfold cf_X12_doesPart
  refine K_iload_n C 1 rfl rfl dX12_doesPart_0 ?_
  refine K_iconst C (v := 1) (by decide) dX12_doesPart_1 ?_
  refine K_bipush C (v := 50) (by decide) dX12_doesPart_2 ?_
  refine K_callSi C (As := [.int x1, .int 1, .int 50]) (rest := []) hy_X12_in wm_X12_64 (by decide) ⟨Nat.le_refl _, Nat.le_refl _⟩ (fun rr ff hh => km_X12_in l G ad f x1 1 50 rr ff hh) rfl rfl (Nat.le_of_ble_eq_true rfl) rfl dX12_doesPart_4 (fun r1 g2 => ?_)
  refine K_if_ne C (tgt := 17) (by decide) dX12_doesPart_7 ?_ ?_
  · refine K_aload_n C 0 rfl rfl dX12_doesPart_17 ?_
    refine K_getR C kin_X12 rfl (Nat.le_of_ble_eq_true rfl) (shM_0 G ad) 0 (by decide) (b := 1) rfl wf_X12_9 rfl dX12_doesPart_18 ?_
    refine K_iconst C (v := 1) (by decide) dX12_doesPart_21 ?_
    refine K_ialdC C (Nat.le_of_ble_eq_true rfl) (shM_1 G ad) (kin_in (by decide)) dX12_doesPart_22 1 (by decide) ?_
    refine K_bipush C (v := 8) (by decide) dX12_doesPart_23 ?_
    refine K_icmp_ne C (tgt := 35) (by decide) dX12_doesPart_25 ?_ ?_
    · refine K_aload_n C 0 rfl rfl dX12_doesPart_35 ?_
      refine K_getR C kin_X12 rfl (Nat.le_of_ble_eq_true rfl) (shM_0 G ad) 0 (by decide) (b := 1) rfl wf_X12_9 rfl dX12_doesPart_36 ?_
      refine K_bipush C (v := 22) (by decide) dX12_doesPart_39 ?_
      refine K_aload_n C 0 rfl rfl dX12_doesPart_41 ?_
      refine K_getR C kin_X12 rfl (Nat.le_of_ble_eq_true rfl) (shM_0 G ad) 0 (by decide) (b := 1) rfl wf_X12_9 rfl dX12_doesPart_42 ?_
      refine K_iconst C (v := 1) (by decide) dX12_doesPart_45 ?_
      refine K_ialdC C (Nat.le_of_ble_eq_true rfl) (shM_1 G ad) (kin_in (by decide)) dX12_doesPart_46 1 (by decide) ?_
      refine K_iadd C dX12_doesPart_47 ?_
      refine K_iload_n C 1 rfl rfl dX12_doesPart_48 ?_
      refine K_iast C (Nat.le_of_ble_eq_true rfl) (shM_1 G ad) dX12_doesPart_49 (fun g3 => ?_)
      refine K_aload_n C 0 rfl rfl dX12_doesPart_50 ?_
      refine K_aload_n C 0 rfl rfl dX12_doesPart_51 ?_
      refine K_getR C kin_X12 rfl (Nat.le_of_ble_eq_true rfl) (shM_0 G ad) 0 (by decide) (b := 1) rfl wf_X12_9 rfl dX12_doesPart_52 ?_
      refine K_iconst C (v := 1) (by decide) dX12_doesPart_55 ?_
      refine K_dup2 C rfl rfl dX12_doesPart_56 ?_
      refine K_ialdC C (Nat.le_of_ble_eq_true rfl) (shM_1 G ad) (kin_in (by decide)) dX12_doesPart_57 1 (by decide) ?_
      refine K_dup_x2 C rfl rfl rfl dX12_doesPart_58 ?_
      refine K_iconst C (v := 1) (by decide) dX12_doesPart_59 ?_
      refine K_iadd C dX12_doesPart_60 ?_
      refine K_iastC C (Nat.le_of_ble_eq_true rfl) (shM_1 G ad) (kin_in (by decide)) dX12_doesPart_61 1 (by decide) (fun g4 => ?_)
      refine K_callVi C (As := [.int (g3 1 1)]) (rest := []) (Nat.le_of_ble_eq_true rfl) (shM_0 G ad) rfl hy_X12_is wm_X12_79 (by decide) ⟨Nat.le_refl _, Nat.le_refl _⟩ (fun rr ff hh => km_X12_is l G ad g4 (g3 1 1) rr ff hh) rfl rfl (Nat.le_of_ble_eq_true rfl) rfl dX12_doesPart_62 (fun r5 g6 => ?_)
      exact K_bret C rfl dX12_doesPart_65
    · refine K_aload_n C 0 rfl rfl dX12_doesPart_28 ?_
      refine K_iconst C (v := 3) (by decide) dX12_doesPart_29 ?_
      refine K_iconst C (v := 0) (by decide) dX12_doesPart_30 ?_
      refine K_callVi C (As := [.int 3, .int 0]) (rest := []) (Nat.le_of_ble_eq_true rfl) (shM_0 G ad) rfl hy_X12_refuses wm_X12_75 (by decide) ⟨Nat.le_refl _, Nat.le_refl _⟩ (fun rr ff hh => km_X12_refuses l G ad g2 3 0 rr ff hh) rfl rfl (Nat.le_of_ble_eq_true rfl) rfl dX12_doesPart_31 (fun r7 g8 => ?_)
      exact K_bret C rfl dX12_doesPart_34
  · refine K_aload_n C 0 rfl rfl dX12_doesPart_10 ?_
    refine K_iconst C (v := 2) (by decide) dX12_doesPart_11 ?_
    refine K_iconst C (v := 0) (by decide) dX12_doesPart_12 ?_
    refine K_callVi C (As := [.int 2, .int 0]) (rest := []) (Nat.le_of_ble_eq_true rfl) (shM_0 G ad) rfl hy_X12_refuses wm_X12_75 (by decide) ⟨Nat.le_refl _, Nat.le_refl _⟩ (fun rr ff hh => km_X12_refuses l G ad g2 2 0 rr ff hh) rfl rfl (Nat.le_of_ble_eq_true rfl) rfl dX12_doesPart_13 (fun r9 g10 => ?_)
    exact K_bret C rfl dX12_doesPart_16
def cl_X12_doesFamily_46 (Y75 : kMem → Int32 → Int32 → Option (Int32 × kMem)) : Nat → kMem → Int32 → Int32 → Int32 → Option (Int32 × kMem)
  | 0, _, _, _, _ => none
  | n + 1, f, x1, x2, x3 => kle x1 x3 ((Y75 f x1 x2)) (kchk (kin (6 + x3) 400) (kbind (cf_X12_in f (f 8 (Int32.toNatClampNeg (6 + x3))) 1 9) (fun r4 g5 => klet (x2 &&& r4) (fun x2_6 => klet (x3 + Int32.ofInt 1) (fun x3_7 => ((cl_X12_doesFamily_46 Y75 n) g5 x1 x2_6 x3_7))))))
def cl_X12_doesFamily_88 (Y114 : kMem → Int32 → Int32 → Option (Int32 × kMem)) : Nat → kMem → Int32 → Int32 → Int32 → Option (Int32 × kMem)
  | 0, _, _, _, _ => none
  | n + 1, f, x1, x2, x3 => kle x1 x3 ((Y114 f x1 x2)) (kchk (kin (3 + x3) 400) (kbind (cf_X12_isPart f (f 8 (Int32.toNatClampNeg (3 + x3)))) (fun r11 g12 => klet (x2 &&& r11) (fun x2_13 => klet (x3 + Int32.ofInt 1) (fun x3_14 => ((cl_X12_doesFamily_88 Y114 n) g12 x1 x2_13 x3_14))))))
def cl_X12_doesFamily_135 (Y161 : kMem → Int32 → Option (Int32 × kMem)) (Y182 : kMem → Int32 → Int32 → Option (Int32 × kMem)) : Nat → kMem → Int32 → Int32 → Int32 → Option (Int32 × kMem)
  | 0, _, _, _, _ => none
  | n + 1, f, x1, x3, x4 => kle x3 x4 ((Y182 f x1 x3)) (kchk (kin (3 + x3) 400) (kchk (kin (3 + x4) 400) (keq (f 8 (Int32.toNatClampNeg (3 + x3))) (f 8 (Int32.toNatClampNeg (3 + x4))) ((Y161 f x3)) (klet (x4 + Int32.ofInt 1) (fun x4_18 => ((cl_X12_doesFamily_135 Y161 Y182 n) f x1 x3 x4_18))))))
def cl_X12_doesFamily_127 (Y161 : kMem → Int32 → Option (Int32 × kMem)) (Y188 : kMem → Option (Int32 × kMem)) : Nat → kMem → Int32 → Int32 → Option (Int32 × kMem)
  | 0, _, _, _ => none
  | n + 1, f, x1, x3 => kle x1 x3 ((Y188 f)) ((cl_X12_doesFamily_135 Y161 (fun g21 x1_19 x3_20 => klet (x3_20 + Int32.ofInt 1) (fun x3_22 => ((cl_X12_doesFamily_127 Y161 Y188 n) g21 x1_19 x3_22))) 100 f x1 x3 0))
def cl_X12_doesFamily_208 (Y245 : kMem → Option (Int32 × kMem)) : Nat → kMem → Int32 → Option (Int32 × kMem)
  | 0, _, _ => none
  | n + 1, f, x3 => kle 9 x3 ((Y245 f)) (kchk (kin x3 400) (kchk (kin ((46 + (9 * (f 1 2))) + x3) 313) (kmem (kup f 1 (Int32.toNatClampNeg ((46 + (9 * (f 1 2))) + x3)) (f 8 (Int32.toNatClampNeg x3))) (fun g28 => klet (x3 + Int32.ofInt 1) (fun x3_29 => ((cl_X12_doesFamily_208 Y245 n) g28 x3_29))))))
def cf_X12_doesFamily (f : kMem) : Option (Int32 × kMem) := klet (f 8 2) (fun x1_1 => kbind (cf_X12_in f (f 8 0) 1 99) (fun r2 g3 => keq r2 0 ((cl_X12_doesFamily_46 (fun g10 x1_8 x2_9 => keq x2_9 0 (kbind (cf_X12_refuses g10 2 0) (fun r38 g39 => kchk (kbool r38) (some (r38, g39)))) ((cl_X12_doesFamily_88 (fun g17 x1_15 x2_16 => keq x2_16 0 (kbind (cf_X12_refuses g17 1 0) (fun r36 g37 => kchk (kbool r36) (some (r36, g37)))) ((cl_X12_doesFamily_127 (fun g24 x3_23 => kchk (kin (3 + x3_23) 400) (kbind (cf_X12_refuses g24 14 (g24 8 (Int32.toNatClampNeg (3 + x3_23)))) (fun r25 g26 => kchk (kbool r25) (some (r25, g26))))) (fun g27 => keq (g27 1 2) 6 (kbind (cf_X12_refuses g27 3 0) (fun r34 g35 => kchk (kbool r34) (some (r34, g35)))) ((cl_X12_doesFamily_208 (fun g30 => kmem (kup g30 1 2 ((g30 1 2) + 1)) (fun g31 => kbind (cf_X12_is g31 (g30 1 2)) (fun r32 g33 => kchk (kbool r32) (some (r32, g33))))) 100 g27 0))) 100 g17 x1_15 0))) 100 g10 x1_8 x2_9 0))) 100 g3 x1_1 0 0)) (kbind (cf_X12_in g3 (g3 8 1) 1 999) (fun r40 g41 => keq r40 0 ((cl_X12_doesFamily_46 (fun g44 x1_42 x2_43 => keq x2_43 0 (kbind (cf_X12_refuses g44 2 0) (fun r61 g62 => kchk (kbool r61) (some (r61, g62)))) ((cl_X12_doesFamily_88 (fun g47 x1_45 x2_46 => keq x2_46 0 (kbind (cf_X12_refuses g47 1 0) (fun r59 g60 => kchk (kbool r59) (some (r59, g60)))) ((cl_X12_doesFamily_127 (fun g49 x3_48 => kchk (kin (3 + x3_48) 400) (kbind (cf_X12_refuses g49 14 (g49 8 (Int32.toNatClampNeg (3 + x3_48)))) (fun r50 g51 => kchk (kbool r50) (some (r50, g51))))) (fun g52 => keq (g52 1 2) 6 (kbind (cf_X12_refuses g52 3 0) (fun r57 g58 => kchk (kbool r57) (some (r57, g58)))) ((cl_X12_doesFamily_208 (fun g53 => kmem (kup g53 1 2 ((g53 1 2) + 1)) (fun g54 => kbind (cf_X12_is g54 (g53 1 2)) (fun r55 g56 => kchk (kbool r55) (some (r55, g56))))) 100 g52 0))) 100 g47 x1_45 0))) 100 g44 x1_42 x2_43 0))) 100 g41 x1_1 0 0)) ((cl_X12_doesFamily_46 (fun g65 x1_63 x2_64 => keq x2_64 0 (kbind (cf_X12_refuses g65 2 0) (fun r82 g83 => kchk (kbool r82) (some (r82, g83)))) ((cl_X12_doesFamily_88 (fun g68 x1_66 x2_67 => keq x2_67 0 (kbind (cf_X12_refuses g68 1 0) (fun r80 g81 => kchk (kbool r80) (some (r80, g81)))) ((cl_X12_doesFamily_127 (fun g70 x3_69 => kchk (kin (3 + x3_69) 400) (kbind (cf_X12_refuses g70 14 (g70 8 (Int32.toNatClampNeg (3 + x3_69)))) (fun r71 g72 => kchk (kbool r71) (some (r71, g72))))) (fun g73 => keq (g73 1 2) 6 (kbind (cf_X12_refuses g73 3 0) (fun r78 g79 => kchk (kbool r78) (some (r78, g79)))) ((cl_X12_doesFamily_208 (fun g74 => kmem (kup g74 1 2 ((g74 1 2) + 1)) (fun g75 => kbind (cf_X12_is g75 (g74 1 2)) (fun r76 g77 => kchk (kbool r76) (some (r76, g77))))) 100 g73 0))) 100 g68 x1_66 0))) 100 g65 x1_63 x2_64 0))) 100 g41 x1_1 1 0))))))
set_option maxRecDepth 100000 in
set_option maxHeartbeats 4000000 in
theorem kcl_X12_doesFamily_46 {p : Program} {l : Launch} {e : Env} {R : Room} {s : State} {m : MethodId} {args : Array Value} {below : List Frame} {meth : Method} {c : Code} {G : kG} {ad : Nat → Nat} {z : Int32 × kMem} (C : KC p l e R s m args below meth c (wM G ad) RX12 cX12_doesFamily 5 (some .boolean) 2 0 0) (Y75 : kMem → Int32 → Int32 → Option (Int32 × kMem)) (hY75 : ∀ (f : kMem) (x1 x2 : Int32), K p l e R s m args below meth c (wM G ad) 5 (kQF below (wM G ad) (some .boolean) args s z) z 0 0 f 75 [(0, .ref (kad (wM G ad) 0)), (1, .int x1), (2, .int x2)] [] (Y75 f x1 x2)) : ∀ (n : Nat) (f : kMem) (x1 x2 x3 : Int32), K p l e R s m args below meth c (wM G ad) 5 (kQF below (wM G ad) (some .boolean) args s z) z 0 0 f 46 [(0, .ref (kad (wM G ad) 0)), (1, .int x1), (2, .int x2), (3, .int x3)] [] (cl_X12_doesFamily_46 Y75 n f x1 x2 x3) := by
  intro n
  induction n with
  | zero => intro f x1 x2 x3; exact K_none
  | succ n ih =>
    intro f x1 x2 x3
    unfold cl_X12_doesFamily_46
    refine K_iload_n C 3 rfl rfl dX12_doesFamily_46 ?_
    refine K_iload_n C 1 rfl rfl dX12_doesFamily_47 ?_
    refine K_icmp_ge C (tgt := 75) (by decide) dX12_doesFamily_48 ?_ ?_
    · refine K_sub [0, 1, 2] rfl ?_
      exact hY75 f x1 x2
    · refine K_iload_n C 2 rfl rfl dX12_doesFamily_51 ?_
      refine K_aload_n C 0 rfl rfl dX12_doesFamily_52 ?_
      refine K_getR C kin_X12 rfl (Nat.le_of_ble_eq_true rfl) (shM_0 G ad) 14 (by decide) (b := 8) rfl wf_X12_36 rfl dX12_doesFamily_53 ?_
      refine K_bipush C (v := 6) (by decide) dX12_doesFamily_56 ?_
      refine K_iload_n C 3 rfl rfl dX12_doesFamily_58 ?_
      refine K_iadd C dX12_doesFamily_59 ?_
      refine K_iald C (Nat.le_of_ble_eq_true rfl) (shM_8 G ad) dX12_doesFamily_60 ?_
      refine K_iconst C (v := 1) (by decide) dX12_doesFamily_61 ?_
      refine K_bipush C (v := 9) (by decide) dX12_doesFamily_62 ?_
      refine K_callSi C (As := [.int (f 8 (Int32.toNatClampNeg (6 + x3))), .int 1, .int 9]) (rest := [.int x2]) hy_X12_in wm_X12_64 (by decide) ⟨Nat.le_refl _, Nat.le_refl _⟩ (fun rr ff hh => km_X12_in l G ad f (f 8 (Int32.toNatClampNeg (6 + x3))) 1 9 rr ff hh) rfl rfl (Nat.le_of_ble_eq_true rfl) rfl dX12_doesFamily_64 (fun r4 g5 => ?_)
      refine K_iand C dX12_doesFamily_67 ?_
      refine K_let rfl (fun x2_6 => ?_)
      refine K_istore_n C (lv1 := [(2, .int x2_6), (0, .ref (kad (wM G ad) 0)), (1, .int x1), (3, .int x3)]) rfl (by decide) rfl dX12_doesFamily_68 ?_
      refine K_iinc C (k := 3) (lv1 := fun x3_7 => [(3, .int x3_7), (2, .int x2_6), (0, .ref (kad (wM G ad) 0)), (1, .int x1)]) rfl (by decide) (fun _ => rfl) dX12_doesFamily_69 (fun x3_7 => ?_)
      refine K_goto C (tgt := 46) (by decide) dX12_doesFamily_72 ?_
      refine K_sub [2, 3, 1, 0] rfl ?_
      exact ih g5 x1 x2_6 x3_7
set_option maxRecDepth 100000 in
set_option maxHeartbeats 4000000 in
theorem kcl_X12_doesFamily_88 {p : Program} {l : Launch} {e : Env} {R : Room} {s : State} {m : MethodId} {args : Array Value} {below : List Frame} {meth : Method} {c : Code} {G : kG} {ad : Nat → Nat} {z : Int32 × kMem} (C : KC p l e R s m args below meth c (wM G ad) RX12 cX12_doesFamily 5 (some .boolean) 2 0 0) (Y114 : kMem → Int32 → Int32 → Option (Int32 × kMem)) (hY114 : ∀ (f : kMem) (x1 x2 : Int32), K p l e R s m args below meth c (wM G ad) 5 (kQF below (wM G ad) (some .boolean) args s z) z 0 0 f 114 [(0, .ref (kad (wM G ad) 0)), (1, .int x1), (2, .int x2)] [] (Y114 f x1 x2)) : ∀ (n : Nat) (f : kMem) (x1 x2 x3 : Int32), K p l e R s m args below meth c (wM G ad) 5 (kQF below (wM G ad) (some .boolean) args s z) z 0 0 f 88 [(0, .ref (kad (wM G ad) 0)), (1, .int x1), (2, .int x2), (3, .int x3)] [] (cl_X12_doesFamily_88 Y114 n f x1 x2 x3) := by
  intro n
  induction n with
  | zero => intro f x1 x2 x3; exact K_none
  | succ n ih =>
    intro f x1 x2 x3
    unfold cl_X12_doesFamily_88
    refine K_iload_n C 3 rfl rfl dX12_doesFamily_88 ?_
    refine K_iload_n C 1 rfl rfl dX12_doesFamily_89 ?_
    refine K_icmp_ge C (tgt := 114) (by decide) dX12_doesFamily_90 ?_ ?_
    · refine K_sub [0, 1, 2] rfl ?_
      exact hY114 f x1 x2
    · refine K_iload_n C 2 rfl rfl dX12_doesFamily_93 ?_
      refine K_aload_n C 0 rfl rfl dX12_doesFamily_94 ?_
      refine K_aload_n C 0 rfl rfl dX12_doesFamily_95 ?_
      refine K_getR C kin_X12 rfl (Nat.le_of_ble_eq_true rfl) (shM_0 G ad) 14 (by decide) (b := 8) rfl wf_X12_36 rfl dX12_doesFamily_96 ?_
      refine K_iconst C (v := 3) (by decide) dX12_doesFamily_99 ?_
      refine K_iload_n C 3 rfl rfl dX12_doesFamily_100 ?_
      refine K_iadd C dX12_doesFamily_101 ?_
      refine K_iald C (Nat.le_of_ble_eq_true rfl) (shM_8 G ad) dX12_doesFamily_102 ?_
      refine K_callVi C (As := [.int (f 8 (Int32.toNatClampNeg (3 + x3)))]) (rest := [.int x2]) (Nat.le_of_ble_eq_true rfl) (shM_0 G ad) rfl hy_X12_isPart wm_X12_83 (by decide) ⟨Nat.le_refl _, Nat.le_refl _⟩ (fun rr ff hh => km_X12_isPart l G ad f (f 8 (Int32.toNatClampNeg (3 + x3))) rr ff hh) rfl rfl (Nat.le_of_ble_eq_true rfl) rfl dX12_doesFamily_103 (fun r11 g12 => ?_)
      refine K_iand C dX12_doesFamily_106 ?_
      refine K_let rfl (fun x2_13 => ?_)
      refine K_istore_n C (lv1 := [(2, .int x2_13), (0, .ref (kad (wM G ad) 0)), (1, .int x1), (3, .int x3)]) rfl (by decide) rfl dX12_doesFamily_107 ?_
      refine K_iinc C (k := 3) (lv1 := fun x3_14 => [(3, .int x3_14), (2, .int x2_13), (0, .ref (kad (wM G ad) 0)), (1, .int x1)]) rfl (by decide) (fun _ => rfl) dX12_doesFamily_108 (fun x3_14 => ?_)
      refine K_goto C (tgt := 88) (by decide) dX12_doesFamily_111 ?_
      refine K_sub [2, 3, 1, 0] rfl ?_
      exact ih g12 x1 x2_13 x3_14
set_option maxRecDepth 100000 in
set_option maxHeartbeats 4000000 in
theorem kcl_X12_doesFamily_135 {p : Program} {l : Launch} {e : Env} {R : Room} {s : State} {m : MethodId} {args : Array Value} {below : List Frame} {meth : Method} {c : Code} {G : kG} {ad : Nat → Nat} {z : Int32 × kMem} (C : KC p l e R s m args below meth c (wM G ad) RX12 cX12_doesFamily 5 (some .boolean) 2 0 0) (Y161 : kMem → Int32 → Option (Int32 × kMem)) (Y182 : kMem → Int32 → Int32 → Option (Int32 × kMem)) (hY161 : ∀ (f : kMem) (x3 : Int32), K p l e R s m args below meth c (wM G ad) 5 (kQF below (wM G ad) (some .boolean) args s z) z 0 0 f 161 [(0, .ref (kad (wM G ad) 0)), (3, .int x3)] [] (Y161 f x3)) (hY182 : ∀ (f : kMem) (x1 x3 : Int32), K p l e R s m args below meth c (wM G ad) 5 (kQF below (wM G ad) (some .boolean) args s z) z 0 0 f 182 [(0, .ref (kad (wM G ad) 0)), (1, .int x1), (3, .int x3)] [] (Y182 f x1 x3)) : ∀ (n : Nat) (f : kMem) (x1 x3 x4 : Int32), K p l e R s m args below meth c (wM G ad) 5 (kQF below (wM G ad) (some .boolean) args s z) z 0 0 f 135 [(0, .ref (kad (wM G ad) 0)), (1, .int x1), (3, .int x3), (4, .int x4)] [] (cl_X12_doesFamily_135 Y161 Y182 n f x1 x3 x4) := by
  intro n
  induction n with
  | zero => intro f x1 x3 x4; exact K_none
  | succ n ih =>
    intro f x1 x3 x4
    unfold cl_X12_doesFamily_135
    refine K_iload C 3 rfl dX12_doesFamily_135 ?_
    refine K_iload_n C 2 rfl rfl dX12_doesFamily_137 ?_
    refine K_icmp_ge C (tgt := 182) (by decide) dX12_doesFamily_138 ?_ ?_
    · refine K_sub [0, 1, 2] rfl ?_
      exact hY182 f x1 x3
    · refine K_aload_n C 0 rfl rfl dX12_doesFamily_141 ?_
      refine K_getR C kin_X12 rfl (Nat.le_of_ble_eq_true rfl) (shM_0 G ad) 14 (by decide) (b := 8) rfl wf_X12_36 rfl dX12_doesFamily_142 ?_
      refine K_iconst C (v := 3) (by decide) dX12_doesFamily_145 ?_
      refine K_iload_n C 2 rfl rfl dX12_doesFamily_146 ?_
      refine K_iadd C dX12_doesFamily_147 ?_
      refine K_iald C (Nat.le_of_ble_eq_true rfl) (shM_8 G ad) dX12_doesFamily_148 ?_
      refine K_aload_n C 0 rfl rfl dX12_doesFamily_149 ?_
      refine K_getR C kin_X12 rfl (Nat.le_of_ble_eq_true rfl) (shM_0 G ad) 14 (by decide) (b := 8) rfl wf_X12_36 rfl dX12_doesFamily_150 ?_
      refine K_iconst C (v := 3) (by decide) dX12_doesFamily_153 ?_
      refine K_iload C 3 rfl dX12_doesFamily_154 ?_
      refine K_iadd C dX12_doesFamily_156 ?_
      refine K_iald C (Nat.le_of_ble_eq_true rfl) (shM_8 G ad) dX12_doesFamily_157 ?_
      refine K_icmp_ne C (tgt := 176) (by decide) dX12_doesFamily_158 ?_ ?_
      · refine K_iinc C (k := 3) (lv1 := fun x4_18 => [(4, .int x4_18), (0, .ref (kad (wM G ad) 0)), (1, .int x1), (3, .int x3)]) rfl (by decide) (fun _ => rfl) dX12_doesFamily_176 (fun x4_18 => ?_)
        refine K_goto C (tgt := 135) (by decide) dX12_doesFamily_179 ?_
        refine K_sub [1, 2, 3, 0] rfl ?_
        exact ih f x1 x3 x4_18
      · refine K_sub [0, 2] rfl ?_
        exact hY161 f x3
set_option maxRecDepth 100000 in
set_option maxHeartbeats 4000000 in
theorem kcl_X12_doesFamily_127 {p : Program} {l : Launch} {e : Env} {R : Room} {s : State} {m : MethodId} {args : Array Value} {below : List Frame} {meth : Method} {c : Code} {G : kG} {ad : Nat → Nat} {z : Int32 × kMem} (C : KC p l e R s m args below meth c (wM G ad) RX12 cX12_doesFamily 5 (some .boolean) 2 0 0) (Y161 : kMem → Int32 → Option (Int32 × kMem)) (Y188 : kMem → Option (Int32 × kMem)) (hY161 : ∀ (f : kMem) (x3 : Int32), K p l e R s m args below meth c (wM G ad) 5 (kQF below (wM G ad) (some .boolean) args s z) z 0 0 f 161 [(0, .ref (kad (wM G ad) 0)), (3, .int x3)] [] (Y161 f x3)) (hY188 : ∀ (f : kMem), K p l e R s m args below meth c (wM G ad) 5 (kQF below (wM G ad) (some .boolean) args s z) z 0 0 f 188 [(0, .ref (kad (wM G ad) 0))] [] (Y188 f)) : ∀ (n : Nat) (f : kMem) (x1 x3 : Int32), K p l e R s m args below meth c (wM G ad) 5 (kQF below (wM G ad) (some .boolean) args s z) z 0 0 f 127 [(0, .ref (kad (wM G ad) 0)), (1, .int x1), (3, .int x3)] [] (cl_X12_doesFamily_127 Y161 Y188 n f x1 x3) := by
  intro n
  induction n with
  | zero => intro f x1 x3; exact K_none
  | succ n ih =>
    intro f x1 x3
    unfold cl_X12_doesFamily_127
    refine K_iload_n C 2 rfl rfl dX12_doesFamily_127 ?_
    refine K_iload_n C 1 rfl rfl dX12_doesFamily_128 ?_
    refine K_icmp_ge C (tgt := 188) (by decide) dX12_doesFamily_129 ?_ ?_
    · refine K_sub [0] rfl ?_
      exact hY188 f
    · refine K_iconst C (v := 0) (by decide) dX12_doesFamily_132 ?_
      refine K_istore C (lv1 := [(4, .int 0), (0, .ref (kad (wM G ad) 0)), (1, .int x1), (3, .int x3)]) (by decide) rfl dX12_doesFamily_133 ?_
      refine K_sub [1, 2, 3, 0] rfl ?_
      refine kcl_X12_doesFamily_135 C Y161 _ hY161 (fun g21 x1_19 x3_20 => ?_) 100 f x1 x3 0
      refine K_iinc C (k := 2) (lv1 := fun x3_22 => [(3, .int x3_22), (0, .ref (kad (wM G ad) 0)), (1, .int x1_19)]) rfl (by decide) (fun _ => rfl) dX12_doesFamily_182 (fun x3_22 => ?_)
      refine K_goto C (tgt := 127) (by decide) dX12_doesFamily_185 ?_
      refine K_sub [1, 2, 0] rfl ?_
      exact ih g21 x1_19 x3_22
set_option maxRecDepth 100000 in
set_option maxHeartbeats 4000000 in
theorem kcl_X12_doesFamily_208 {p : Program} {l : Launch} {e : Env} {R : Room} {s : State} {m : MethodId} {args : Array Value} {below : List Frame} {meth : Method} {c : Code} {G : kG} {ad : Nat → Nat} {z : Int32 × kMem} (C : KC p l e R s m args below meth c (wM G ad) RX12 cX12_doesFamily 5 (some .boolean) 2 0 0) (Y245 : kMem → Option (Int32 × kMem)) (hY245 : ∀ (f : kMem), K p l e R s m args below meth c (wM G ad) 5 (kQF below (wM G ad) (some .boolean) args s z) z 0 0 f 245 [(0, .ref (kad (wM G ad) 0))] [] (Y245 f)) : ∀ (n : Nat) (f : kMem) (x3 : Int32), K p l e R s m args below meth c (wM G ad) 5 (kQF below (wM G ad) (some .boolean) args s z) z 0 0 f 208 [(0, .ref (kad (wM G ad) 0)), (3, .int x3)] [] (cl_X12_doesFamily_208 Y245 n f x3) := by
  intro n
  induction n with
  | zero => intro f x3; exact K_none
  | succ n ih =>
    intro f x3
    unfold cl_X12_doesFamily_208
    refine K_iload_n C 1 rfl rfl dX12_doesFamily_208 ?_
    refine K_bipush C (v := 9) (by decide) dX12_doesFamily_209 ?_
    refine K_icmp_ge C (tgt := 245) (by decide) dX12_doesFamily_211 ?_ ?_
    · refine K_sub [0] rfl ?_
      exact hY245 f
    · refine K_aload_n C 0 rfl rfl dX12_doesFamily_214 ?_
      refine K_getR C kin_X12 rfl (Nat.le_of_ble_eq_true rfl) (shM_0 G ad) 0 (by decide) (b := 1) rfl wf_X12_9 rfl dX12_doesFamily_215 ?_
      refine K_bipush C (v := 46) (by decide) dX12_doesFamily_218 ?_
      refine K_bipush C (v := 9) (by decide) dX12_doesFamily_220 ?_
      refine K_aload_n C 0 rfl rfl dX12_doesFamily_222 ?_
      refine K_getR C kin_X12 rfl (Nat.le_of_ble_eq_true rfl) (shM_0 G ad) 0 (by decide) (b := 1) rfl wf_X12_9 rfl dX12_doesFamily_223 ?_
      refine K_iconst C (v := 2) (by decide) dX12_doesFamily_226 ?_
      refine K_ialdC C (Nat.le_of_ble_eq_true rfl) (shM_1 G ad) (kin_in (by decide)) dX12_doesFamily_227 2 (by decide) ?_
      refine K_imul C dX12_doesFamily_228 ?_
      refine K_iadd C dX12_doesFamily_229 ?_
      refine K_iload_n C 1 rfl rfl dX12_doesFamily_230 ?_
      refine K_iadd C dX12_doesFamily_231 ?_
      refine K_aload_n C 0 rfl rfl dX12_doesFamily_232 ?_
      refine K_getR C kin_X12 rfl (Nat.le_of_ble_eq_true rfl) (shM_0 G ad) 14 (by decide) (b := 8) rfl wf_X12_36 rfl dX12_doesFamily_233 ?_
      refine K_iload_n C 1 rfl rfl dX12_doesFamily_236 ?_
      refine K_iald C (Nat.le_of_ble_eq_true rfl) (shM_8 G ad) dX12_doesFamily_237 ?_
      refine K_iast C (Nat.le_of_ble_eq_true rfl) (shM_1 G ad) dX12_doesFamily_238 (fun g28 => ?_)
      refine K_iinc C (k := 1) (lv1 := fun x3_29 => [(3, .int x3_29), (0, .ref (kad (wM G ad) 0))]) rfl (by decide) (fun _ => rfl) dX12_doesFamily_239 (fun x3_29 => ?_)
      refine K_goto C (tgt := 208) (by decide) dX12_doesFamily_242 ?_
      refine K_sub [1, 0] rfl ?_
      exact ih g28 x3_29
set_option maxRecDepth 100000 in
set_option maxHeartbeats 4000000 in
theorem km_X12_doesFamily (l : Launch) (G : kG) (ad : Nat → Nat) (f : kMem) (r : Int32) (fo : kMem) (h : cf_X12_doesFamily f = some (r, fo)) : kMet l (wM G ad) yX12_doesFamily cX12_doesFamily 5 (some .boolean) 2 [.ref (kad (wM G ad) 0)] f r fo := by
  refine kMet_of (own := RX12) (lv := [(0, .ref (kad (wM G ad) 0))]) (by decide) rfl (Nat.le_of_ble_eq_true rfl) rfl h ?_
  intro p e R s m args below meth c C
  unfold cf_X12_doesFamily
  refine K_aload_n C 0 rfl rfl dX12_doesFamily_0 ?_
  refine K_getR C kin_X12 rfl (Nat.le_of_ble_eq_true rfl) (shM_0 G ad) 14 (by decide) (b := 8) rfl wf_X12_36 rfl dX12_doesFamily_1 ?_
  refine K_iconst C (v := 2) (by decide) dX12_doesFamily_4 ?_
  refine K_ialdC C (Nat.le_of_ble_eq_true rfl) (shM_8 G ad) (kin_in (by decide)) dX12_doesFamily_5 2 (by decide) ?_
  refine K_let rfl (fun x1_1 => ?_)
  refine K_istore_n C (lv1 := [(1, .int x1_1), (0, .ref (kad (wM G ad) 0))]) rfl (by decide) rfl dX12_doesFamily_6 ?_
  refine K_aload_n C 1 rfl rfl dX12_doesFamily_7 ?_
  refine K_getR C kin_X12 rfl (Nat.le_of_ble_eq_true rfl) (shM_0 G ad) 14 (by decide) (b := 8) rfl wf_X12_36 rfl dX12_doesFamily_8 ?_
  refine K_iconst C (v := 0) (by decide) dX12_doesFamily_11 ?_
  refine K_ialdC C (Nat.le_of_ble_eq_true rfl) (shM_8 G ad) (kin_in (by decide)) dX12_doesFamily_12 0 (by decide) ?_
  refine K_iconst C (v := 1) (by decide) dX12_doesFamily_13 ?_
  refine K_bipush C (v := 99) (by decide) dX12_doesFamily_14 ?_
  refine K_callSi C (As := [.int (f 8 0), .int 1, .int 99]) (rest := []) hy_X12_in wm_X12_64 (by decide) ⟨Nat.le_refl _, Nat.le_refl _⟩ (fun rr ff hh => km_X12_in l G ad f (f 8 0) 1 99 rr ff hh) rfl rfl (Nat.le_of_ble_eq_true rfl) rfl dX12_doesFamily_16 (fun r2 g3 => ?_)
  refine K_if_eq C (tgt := 42) (by decide) dX12_doesFamily_19 ?_ ?_
  · refine K_iconst C (v := 0) (by decide) dX12_doesFamily_42 ?_
    refine K_istore_n C (lv1 := [(2, .int 0), (1, .int x1_1), (0, .ref (kad (wM G ad) 0))]) rfl (by decide) rfl dX12_doesFamily_43 ?_
    refine K_iconst C (v := 0) (by decide) dX12_doesFamily_44 ?_
    refine K_istore_n C (lv1 := [(3, .int 0), (2, .int 0), (1, .int x1_1), (0, .ref (kad (wM G ad) 0))]) rfl (by decide) rfl dX12_doesFamily_45 ?_
    refine K_sub [3, 2, 1, 0] rfl ?_
    refine kcl_X12_doesFamily_46 C _ (fun g10 x1_8 x2_9 => ?_) 100 g3 x1_1 0 0
    refine K_iload_n C 2 rfl rfl dX12_doesFamily_75 ?_
    refine K_if_ne C (tgt := 86) (by decide) dX12_doesFamily_76 ?_ ?_
    · refine K_iconst C (v := 0) (by decide) dX12_doesFamily_86 ?_
      refine K_istore_n C (lv1 := [(3, .int 0), (0, .ref (kad (wM G ad) 0)), (1, .int x1_8), (2, .int x2_9)]) rfl (by decide) rfl dX12_doesFamily_87 ?_
      refine K_sub [1, 2, 3, 0] rfl ?_
      refine kcl_X12_doesFamily_88 C _ (fun g17 x1_15 x2_16 => ?_) 100 g10 x1_8 x2_9 0
      refine K_iload_n C 2 rfl rfl dX12_doesFamily_114 ?_
      refine K_if_ne C (tgt := 125) (by decide) dX12_doesFamily_115 ?_ ?_
      · refine K_iconst C (v := 0) (by decide) dX12_doesFamily_125 ?_
        refine K_istore_n C (lv1 := [(3, .int 0), (0, .ref (kad (wM G ad) 0)), (1, .int x1_15), (2, .int x2_16)]) rfl (by decide) rfl dX12_doesFamily_126 ?_
        refine K_sub [1, 2, 0] rfl ?_
        refine kcl_X12_doesFamily_127 C _ _ (fun g24 x3_23 => ?_) (fun g27 => ?_) 100 g17 x1_15 0
        · refine K_aload_n C 0 rfl rfl dX12_doesFamily_161 ?_
          refine K_bipush C (v := 14) (by decide) dX12_doesFamily_162 ?_
          refine K_aload_n C 0 rfl rfl dX12_doesFamily_164 ?_
          refine K_getR C kin_X12 rfl (Nat.le_of_ble_eq_true rfl) (shM_0 G ad) 14 (by decide) (b := 8) rfl wf_X12_36 rfl dX12_doesFamily_165 ?_
          refine K_iconst C (v := 3) (by decide) dX12_doesFamily_168 ?_
          refine K_iload_n C 1 rfl rfl dX12_doesFamily_169 ?_
          refine K_iadd C dX12_doesFamily_170 ?_
          refine K_iald C (Nat.le_of_ble_eq_true rfl) (shM_8 G ad) dX12_doesFamily_171 ?_
          refine K_callVi C (As := [.int 14, .int (g24 8 (Int32.toNatClampNeg (3 + x3_23)))]) (rest := []) (Nat.le_of_ble_eq_true rfl) (shM_0 G ad) rfl hy_X12_refuses wm_X12_75 (by decide) ⟨Nat.le_refl _, Nat.le_refl _⟩ (fun rr ff hh => km_X12_refuses l G ad g24 14 (g24 8 (Int32.toNatClampNeg (3 + x3_23))) rr ff hh) rfl rfl (Nat.le_of_ble_eq_true rfl) rfl dX12_doesFamily_172 (fun r25 g26 => ?_)
          exact K_bret C rfl dX12_doesFamily_175
        · refine K_aload_n C 0 rfl rfl dX12_doesFamily_188 ?_
          refine K_getR C kin_X12 rfl (Nat.le_of_ble_eq_true rfl) (shM_0 G ad) 0 (by decide) (b := 1) rfl wf_X12_9 rfl dX12_doesFamily_189 ?_
          refine K_iconst C (v := 2) (by decide) dX12_doesFamily_192 ?_
          refine K_ialdC C (Nat.le_of_ble_eq_true rfl) (shM_1 G ad) (kin_in (by decide)) dX12_doesFamily_193 2 (by decide) ?_
          refine K_bipush C (v := 6) (by decide) dX12_doesFamily_194 ?_
          refine K_icmp_ne C (tgt := 206) (by decide) dX12_doesFamily_196 ?_ ?_
          · refine K_iconst C (v := 0) (by decide) dX12_doesFamily_206 ?_
            refine K_istore_n C (lv1 := [(3, .int 0), (0, .ref (kad (wM G ad) 0))]) rfl (by decide) rfl dX12_doesFamily_207 ?_
            refine K_sub [1, 0] rfl ?_
            refine kcl_X12_doesFamily_208 C _ (fun g30 => ?_) 100 g27 0
            refine K_aload_n C 0 rfl rfl dX12_doesFamily_245 ?_
            refine K_aload_n C 0 rfl rfl dX12_doesFamily_246 ?_
            refine K_getR C kin_X12 rfl (Nat.le_of_ble_eq_true rfl) (shM_0 G ad) 0 (by decide) (b := 1) rfl wf_X12_9 rfl dX12_doesFamily_247 ?_
            refine K_iconst C (v := 2) (by decide) dX12_doesFamily_250 ?_
            refine K_dup2 C rfl rfl dX12_doesFamily_251 ?_
            refine K_ialdC C (Nat.le_of_ble_eq_true rfl) (shM_1 G ad) (kin_in (by decide)) dX12_doesFamily_252 2 (by decide) ?_
            refine K_dup_x2 C rfl rfl rfl dX12_doesFamily_253 ?_
            refine K_iconst C (v := 1) (by decide) dX12_doesFamily_254 ?_
            refine K_iadd C dX12_doesFamily_255 ?_
            refine K_iastC C (Nat.le_of_ble_eq_true rfl) (shM_1 G ad) (kin_in (by decide)) dX12_doesFamily_256 2 (by decide) (fun g31 => ?_)
            refine K_callVi C (As := [.int (g30 1 2)]) (rest := []) (Nat.le_of_ble_eq_true rfl) (shM_0 G ad) rfl hy_X12_is wm_X12_79 (by decide) ⟨Nat.le_refl _, Nat.le_refl _⟩ (fun rr ff hh => km_X12_is l G ad g31 (g30 1 2) rr ff hh) rfl rfl (Nat.le_of_ble_eq_true rfl) rfl dX12_doesFamily_257 (fun r32 g33 => ?_)
            exact K_bret C rfl dX12_doesFamily_260
          · refine K_aload_n C 0 rfl rfl dX12_doesFamily_199 ?_
            refine K_iconst C (v := 3) (by decide) dX12_doesFamily_200 ?_
            refine K_iconst C (v := 0) (by decide) dX12_doesFamily_201 ?_
            refine K_callVi C (As := [.int 3, .int 0]) (rest := []) (Nat.le_of_ble_eq_true rfl) (shM_0 G ad) rfl hy_X12_refuses wm_X12_75 (by decide) ⟨Nat.le_refl _, Nat.le_refl _⟩ (fun rr ff hh => km_X12_refuses l G ad g27 3 0 rr ff hh) rfl rfl (Nat.le_of_ble_eq_true rfl) rfl dX12_doesFamily_202 (fun r34 g35 => ?_)
            exact K_bret C rfl dX12_doesFamily_205
      · refine K_aload_n C 0 rfl rfl dX12_doesFamily_118 ?_
        refine K_iconst C (v := 1) (by decide) dX12_doesFamily_119 ?_
        refine K_iconst C (v := 0) (by decide) dX12_doesFamily_120 ?_
        refine K_callVi C (As := [.int 1, .int 0]) (rest := []) (Nat.le_of_ble_eq_true rfl) (shM_0 G ad) rfl hy_X12_refuses wm_X12_75 (by decide) ⟨Nat.le_refl _, Nat.le_refl _⟩ (fun rr ff hh => km_X12_refuses l G ad g17 1 0 rr ff hh) rfl rfl (Nat.le_of_ble_eq_true rfl) rfl dX12_doesFamily_121 (fun r36 g37 => ?_)
        exact K_bret C rfl dX12_doesFamily_124
    · refine K_aload_n C 0 rfl rfl dX12_doesFamily_79 ?_
      refine K_iconst C (v := 2) (by decide) dX12_doesFamily_80 ?_
      refine K_iconst C (v := 0) (by decide) dX12_doesFamily_81 ?_
      refine K_callVi C (As := [.int 2, .int 0]) (rest := []) (Nat.le_of_ble_eq_true rfl) (shM_0 G ad) rfl hy_X12_refuses wm_X12_75 (by decide) ⟨Nat.le_refl _, Nat.le_refl _⟩ (fun rr ff hh => km_X12_refuses l G ad g10 2 0 rr ff hh) rfl rfl (Nat.le_of_ble_eq_true rfl) rfl dX12_doesFamily_82 (fun r38 g39 => ?_)
      exact K_bret C rfl dX12_doesFamily_85
  · refine K_aload_n C 1 rfl rfl dX12_doesFamily_22 ?_
    refine K_getR C kin_X12 rfl (Nat.le_of_ble_eq_true rfl) (shM_0 G ad) 14 (by decide) (b := 8) rfl wf_X12_36 rfl dX12_doesFamily_23 ?_
    refine K_iconst C (v := 1) (by decide) dX12_doesFamily_26 ?_
    refine K_ialdC C (Nat.le_of_ble_eq_true rfl) (shM_8 G ad) (kin_in (by decide)) dX12_doesFamily_27 1 (by decide) ?_
    refine K_iconst C (v := 1) (by decide) dX12_doesFamily_28 ?_
    refine K_sipush C (v := 999) (by decide) dX12_doesFamily_29 ?_
    refine K_callSi C (As := [.int (g3 8 1), .int 1, .int 999]) (rest := []) hy_X12_in wm_X12_64 (by decide) ⟨Nat.le_refl _, Nat.le_refl _⟩ (fun rr ff hh => km_X12_in l G ad g3 (g3 8 1) 1 999 rr ff hh) rfl rfl (Nat.le_of_ble_eq_true rfl) rfl dX12_doesFamily_32 (fun r40 g41 => ?_)
    refine K_if_eq C (tgt := 42) (by decide) dX12_doesFamily_35 ?_ ?_
    · refine K_iconst C (v := 0) (by decide) dX12_doesFamily_42 ?_
      refine K_istore_n C (lv1 := [(2, .int 0), (1, .int x1_1), (0, .ref (kad (wM G ad) 0))]) rfl (by decide) rfl dX12_doesFamily_43 ?_
      refine K_iconst C (v := 0) (by decide) dX12_doesFamily_44 ?_
      refine K_istore_n C (lv1 := [(3, .int 0), (2, .int 0), (1, .int x1_1), (0, .ref (kad (wM G ad) 0))]) rfl (by decide) rfl dX12_doesFamily_45 ?_
      refine K_sub [3, 2, 1, 0] rfl ?_
      refine kcl_X12_doesFamily_46 C _ (fun g44 x1_42 x2_43 => ?_) 100 g41 x1_1 0 0
      refine K_iload_n C 2 rfl rfl dX12_doesFamily_75 ?_
      refine K_if_ne C (tgt := 86) (by decide) dX12_doesFamily_76 ?_ ?_
      · refine K_iconst C (v := 0) (by decide) dX12_doesFamily_86 ?_
        refine K_istore_n C (lv1 := [(3, .int 0), (0, .ref (kad (wM G ad) 0)), (1, .int x1_42), (2, .int x2_43)]) rfl (by decide) rfl dX12_doesFamily_87 ?_
        refine K_sub [1, 2, 3, 0] rfl ?_
        refine kcl_X12_doesFamily_88 C _ (fun g47 x1_45 x2_46 => ?_) 100 g44 x1_42 x2_43 0
        refine K_iload_n C 2 rfl rfl dX12_doesFamily_114 ?_
        refine K_if_ne C (tgt := 125) (by decide) dX12_doesFamily_115 ?_ ?_
        · refine K_iconst C (v := 0) (by decide) dX12_doesFamily_125 ?_
          refine K_istore_n C (lv1 := [(3, .int 0), (0, .ref (kad (wM G ad) 0)), (1, .int x1_45), (2, .int x2_46)]) rfl (by decide) rfl dX12_doesFamily_126 ?_
          refine K_sub [1, 2, 0] rfl ?_
          refine kcl_X12_doesFamily_127 C _ _ (fun g49 x3_48 => ?_) (fun g52 => ?_) 100 g47 x1_45 0
          · refine K_aload_n C 0 rfl rfl dX12_doesFamily_161 ?_
            refine K_bipush C (v := 14) (by decide) dX12_doesFamily_162 ?_
            refine K_aload_n C 0 rfl rfl dX12_doesFamily_164 ?_
            refine K_getR C kin_X12 rfl (Nat.le_of_ble_eq_true rfl) (shM_0 G ad) 14 (by decide) (b := 8) rfl wf_X12_36 rfl dX12_doesFamily_165 ?_
            refine K_iconst C (v := 3) (by decide) dX12_doesFamily_168 ?_
            refine K_iload_n C 1 rfl rfl dX12_doesFamily_169 ?_
            refine K_iadd C dX12_doesFamily_170 ?_
            refine K_iald C (Nat.le_of_ble_eq_true rfl) (shM_8 G ad) dX12_doesFamily_171 ?_
            refine K_callVi C (As := [.int 14, .int (g49 8 (Int32.toNatClampNeg (3 + x3_48)))]) (rest := []) (Nat.le_of_ble_eq_true rfl) (shM_0 G ad) rfl hy_X12_refuses wm_X12_75 (by decide) ⟨Nat.le_refl _, Nat.le_refl _⟩ (fun rr ff hh => km_X12_refuses l G ad g49 14 (g49 8 (Int32.toNatClampNeg (3 + x3_48))) rr ff hh) rfl rfl (Nat.le_of_ble_eq_true rfl) rfl dX12_doesFamily_172 (fun r50 g51 => ?_)
            exact K_bret C rfl dX12_doesFamily_175
          · refine K_aload_n C 0 rfl rfl dX12_doesFamily_188 ?_
            refine K_getR C kin_X12 rfl (Nat.le_of_ble_eq_true rfl) (shM_0 G ad) 0 (by decide) (b := 1) rfl wf_X12_9 rfl dX12_doesFamily_189 ?_
            refine K_iconst C (v := 2) (by decide) dX12_doesFamily_192 ?_
            refine K_ialdC C (Nat.le_of_ble_eq_true rfl) (shM_1 G ad) (kin_in (by decide)) dX12_doesFamily_193 2 (by decide) ?_
            refine K_bipush C (v := 6) (by decide) dX12_doesFamily_194 ?_
            refine K_icmp_ne C (tgt := 206) (by decide) dX12_doesFamily_196 ?_ ?_
            · refine K_iconst C (v := 0) (by decide) dX12_doesFamily_206 ?_
              refine K_istore_n C (lv1 := [(3, .int 0), (0, .ref (kad (wM G ad) 0))]) rfl (by decide) rfl dX12_doesFamily_207 ?_
              refine K_sub [1, 0] rfl ?_
              refine kcl_X12_doesFamily_208 C _ (fun g53 => ?_) 100 g52 0
              refine K_aload_n C 0 rfl rfl dX12_doesFamily_245 ?_
              refine K_aload_n C 0 rfl rfl dX12_doesFamily_246 ?_
              refine K_getR C kin_X12 rfl (Nat.le_of_ble_eq_true rfl) (shM_0 G ad) 0 (by decide) (b := 1) rfl wf_X12_9 rfl dX12_doesFamily_247 ?_
              refine K_iconst C (v := 2) (by decide) dX12_doesFamily_250 ?_
              refine K_dup2 C rfl rfl dX12_doesFamily_251 ?_
              refine K_ialdC C (Nat.le_of_ble_eq_true rfl) (shM_1 G ad) (kin_in (by decide)) dX12_doesFamily_252 2 (by decide) ?_
              refine K_dup_x2 C rfl rfl rfl dX12_doesFamily_253 ?_
              refine K_iconst C (v := 1) (by decide) dX12_doesFamily_254 ?_
              refine K_iadd C dX12_doesFamily_255 ?_
              refine K_iastC C (Nat.le_of_ble_eq_true rfl) (shM_1 G ad) (kin_in (by decide)) dX12_doesFamily_256 2 (by decide) (fun g54 => ?_)
              refine K_callVi C (As := [.int (g53 1 2)]) (rest := []) (Nat.le_of_ble_eq_true rfl) (shM_0 G ad) rfl hy_X12_is wm_X12_79 (by decide) ⟨Nat.le_refl _, Nat.le_refl _⟩ (fun rr ff hh => km_X12_is l G ad g54 (g53 1 2) rr ff hh) rfl rfl (Nat.le_of_ble_eq_true rfl) rfl dX12_doesFamily_257 (fun r55 g56 => ?_)
              exact K_bret C rfl dX12_doesFamily_260
            · refine K_aload_n C 0 rfl rfl dX12_doesFamily_199 ?_
              refine K_iconst C (v := 3) (by decide) dX12_doesFamily_200 ?_
              refine K_iconst C (v := 0) (by decide) dX12_doesFamily_201 ?_
              refine K_callVi C (As := [.int 3, .int 0]) (rest := []) (Nat.le_of_ble_eq_true rfl) (shM_0 G ad) rfl hy_X12_refuses wm_X12_75 (by decide) ⟨Nat.le_refl _, Nat.le_refl _⟩ (fun rr ff hh => km_X12_refuses l G ad g52 3 0 rr ff hh) rfl rfl (Nat.le_of_ble_eq_true rfl) rfl dX12_doesFamily_202 (fun r57 g58 => ?_)
              exact K_bret C rfl dX12_doesFamily_205
        · refine K_aload_n C 0 rfl rfl dX12_doesFamily_118 ?_
          refine K_iconst C (v := 1) (by decide) dX12_doesFamily_119 ?_
          refine K_iconst C (v := 0) (by decide) dX12_doesFamily_120 ?_
          refine K_callVi C (As := [.int 1, .int 0]) (rest := []) (Nat.le_of_ble_eq_true rfl) (shM_0 G ad) rfl hy_X12_refuses wm_X12_75 (by decide) ⟨Nat.le_refl _, Nat.le_refl _⟩ (fun rr ff hh => km_X12_refuses l G ad g47 1 0 rr ff hh) rfl rfl (Nat.le_of_ble_eq_true rfl) rfl dX12_doesFamily_121 (fun r59 g60 => ?_)
          exact K_bret C rfl dX12_doesFamily_124
      · refine K_aload_n C 0 rfl rfl dX12_doesFamily_79 ?_
        refine K_iconst C (v := 2) (by decide) dX12_doesFamily_80 ?_
        refine K_iconst C (v := 0) (by decide) dX12_doesFamily_81 ?_
        refine K_callVi C (As := [.int 2, .int 0]) (rest := []) (Nat.le_of_ble_eq_true rfl) (shM_0 G ad) rfl hy_X12_refuses wm_X12_75 (by decide) ⟨Nat.le_refl _, Nat.le_refl _⟩ (fun rr ff hh => km_X12_refuses l G ad g44 2 0 rr ff hh) rfl rfl (Nat.le_of_ble_eq_true rfl) rfl dX12_doesFamily_82 (fun r61 g62 => ?_)
        exact K_bret C rfl dX12_doesFamily_85
    · refine K_iconst C (v := 1) (by decide) dX12_doesFamily_38 ?_
      refine K_goto C (tgt := 43) (by decide) dX12_doesFamily_39 ?_
      refine K_istore_n C (lv1 := [(2, .int 1), (1, .int x1_1), (0, .ref (kad (wM G ad) 0))]) rfl (by decide) rfl dX12_doesFamily_43 ?_
      refine K_iconst C (v := 0) (by decide) dX12_doesFamily_44 ?_
      refine K_istore_n C (lv1 := [(3, .int 0), (2, .int 1), (1, .int x1_1), (0, .ref (kad (wM G ad) 0))]) rfl (by decide) rfl dX12_doesFamily_45 ?_
      refine K_sub [3, 2, 1, 0] rfl ?_
      refine kcl_X12_doesFamily_46 C _ (fun g65 x1_63 x2_64 => ?_) 100 g41 x1_1 1 0
      refine K_iload_n C 2 rfl rfl dX12_doesFamily_75 ?_
      refine K_if_ne C (tgt := 86) (by decide) dX12_doesFamily_76 ?_ ?_
      · refine K_iconst C (v := 0) (by decide) dX12_doesFamily_86 ?_
        refine K_istore_n C (lv1 := [(3, .int 0), (0, .ref (kad (wM G ad) 0)), (1, .int x1_63), (2, .int x2_64)]) rfl (by decide) rfl dX12_doesFamily_87 ?_
        refine K_sub [1, 2, 3, 0] rfl ?_
        refine kcl_X12_doesFamily_88 C _ (fun g68 x1_66 x2_67 => ?_) 100 g65 x1_63 x2_64 0
        refine K_iload_n C 2 rfl rfl dX12_doesFamily_114 ?_
        refine K_if_ne C (tgt := 125) (by decide) dX12_doesFamily_115 ?_ ?_
        · refine K_iconst C (v := 0) (by decide) dX12_doesFamily_125 ?_
          refine K_istore_n C (lv1 := [(3, .int 0), (0, .ref (kad (wM G ad) 0)), (1, .int x1_66), (2, .int x2_67)]) rfl (by decide) rfl dX12_doesFamily_126 ?_
          refine K_sub [1, 2, 0] rfl ?_
          refine kcl_X12_doesFamily_127 C _ _ (fun g70 x3_69 => ?_) (fun g73 => ?_) 100 g68 x1_66 0
          · refine K_aload_n C 0 rfl rfl dX12_doesFamily_161 ?_
            refine K_bipush C (v := 14) (by decide) dX12_doesFamily_162 ?_
            refine K_aload_n C 0 rfl rfl dX12_doesFamily_164 ?_
            refine K_getR C kin_X12 rfl (Nat.le_of_ble_eq_true rfl) (shM_0 G ad) 14 (by decide) (b := 8) rfl wf_X12_36 rfl dX12_doesFamily_165 ?_
            refine K_iconst C (v := 3) (by decide) dX12_doesFamily_168 ?_
            refine K_iload_n C 1 rfl rfl dX12_doesFamily_169 ?_
            refine K_iadd C dX12_doesFamily_170 ?_
            refine K_iald C (Nat.le_of_ble_eq_true rfl) (shM_8 G ad) dX12_doesFamily_171 ?_
            refine K_callVi C (As := [.int 14, .int (g70 8 (Int32.toNatClampNeg (3 + x3_69)))]) (rest := []) (Nat.le_of_ble_eq_true rfl) (shM_0 G ad) rfl hy_X12_refuses wm_X12_75 (by decide) ⟨Nat.le_refl _, Nat.le_refl _⟩ (fun rr ff hh => km_X12_refuses l G ad g70 14 (g70 8 (Int32.toNatClampNeg (3 + x3_69))) rr ff hh) rfl rfl (Nat.le_of_ble_eq_true rfl) rfl dX12_doesFamily_172 (fun r71 g72 => ?_)
            exact K_bret C rfl dX12_doesFamily_175
          · refine K_aload_n C 0 rfl rfl dX12_doesFamily_188 ?_
            refine K_getR C kin_X12 rfl (Nat.le_of_ble_eq_true rfl) (shM_0 G ad) 0 (by decide) (b := 1) rfl wf_X12_9 rfl dX12_doesFamily_189 ?_
            refine K_iconst C (v := 2) (by decide) dX12_doesFamily_192 ?_
            refine K_ialdC C (Nat.le_of_ble_eq_true rfl) (shM_1 G ad) (kin_in (by decide)) dX12_doesFamily_193 2 (by decide) ?_
            refine K_bipush C (v := 6) (by decide) dX12_doesFamily_194 ?_
            refine K_icmp_ne C (tgt := 206) (by decide) dX12_doesFamily_196 ?_ ?_
            · refine K_iconst C (v := 0) (by decide) dX12_doesFamily_206 ?_
              refine K_istore_n C (lv1 := [(3, .int 0), (0, .ref (kad (wM G ad) 0))]) rfl (by decide) rfl dX12_doesFamily_207 ?_
              refine K_sub [1, 0] rfl ?_
              refine kcl_X12_doesFamily_208 C _ (fun g74 => ?_) 100 g73 0
              refine K_aload_n C 0 rfl rfl dX12_doesFamily_245 ?_
              refine K_aload_n C 0 rfl rfl dX12_doesFamily_246 ?_
              refine K_getR C kin_X12 rfl (Nat.le_of_ble_eq_true rfl) (shM_0 G ad) 0 (by decide) (b := 1) rfl wf_X12_9 rfl dX12_doesFamily_247 ?_
              refine K_iconst C (v := 2) (by decide) dX12_doesFamily_250 ?_
              refine K_dup2 C rfl rfl dX12_doesFamily_251 ?_
              refine K_ialdC C (Nat.le_of_ble_eq_true rfl) (shM_1 G ad) (kin_in (by decide)) dX12_doesFamily_252 2 (by decide) ?_
              refine K_dup_x2 C rfl rfl rfl dX12_doesFamily_253 ?_
              refine K_iconst C (v := 1) (by decide) dX12_doesFamily_254 ?_
              refine K_iadd C dX12_doesFamily_255 ?_
              refine K_iastC C (Nat.le_of_ble_eq_true rfl) (shM_1 G ad) (kin_in (by decide)) dX12_doesFamily_256 2 (by decide) (fun g75 => ?_)
              refine K_callVi C (As := [.int (g74 1 2)]) (rest := []) (Nat.le_of_ble_eq_true rfl) (shM_0 G ad) rfl hy_X12_is wm_X12_79 (by decide) ⟨Nat.le_refl _, Nat.le_refl _⟩ (fun rr ff hh => km_X12_is l G ad g75 (g74 1 2) rr ff hh) rfl rfl (Nat.le_of_ble_eq_true rfl) rfl dX12_doesFamily_257 (fun r76 g77 => ?_)
              exact K_bret C rfl dX12_doesFamily_260
            · refine K_aload_n C 0 rfl rfl dX12_doesFamily_199 ?_
              refine K_iconst C (v := 3) (by decide) dX12_doesFamily_200 ?_
              refine K_iconst C (v := 0) (by decide) dX12_doesFamily_201 ?_
              refine K_callVi C (As := [.int 3, .int 0]) (rest := []) (Nat.le_of_ble_eq_true rfl) (shM_0 G ad) rfl hy_X12_refuses wm_X12_75 (by decide) ⟨Nat.le_refl _, Nat.le_refl _⟩ (fun rr ff hh => km_X12_refuses l G ad g73 3 0 rr ff hh) rfl rfl (Nat.le_of_ble_eq_true rfl) rfl dX12_doesFamily_202 (fun r78 g79 => ?_)
              exact K_bret C rfl dX12_doesFamily_205
        · refine K_aload_n C 0 rfl rfl dX12_doesFamily_118 ?_
          refine K_iconst C (v := 1) (by decide) dX12_doesFamily_119 ?_
          refine K_iconst C (v := 0) (by decide) dX12_doesFamily_120 ?_
          refine K_callVi C (As := [.int 1, .int 0]) (rest := []) (Nat.le_of_ble_eq_true rfl) (shM_0 G ad) rfl hy_X12_refuses wm_X12_75 (by decide) ⟨Nat.le_refl _, Nat.le_refl _⟩ (fun rr ff hh => km_X12_refuses l G ad g68 1 0 rr ff hh) rfl rfl (Nat.le_of_ble_eq_true rfl) rfl dX12_doesFamily_121 (fun r80 g81 => ?_)
          exact K_bret C rfl dX12_doesFamily_124
      · refine K_aload_n C 0 rfl rfl dX12_doesFamily_79 ?_
        refine K_iconst C (v := 2) (by decide) dX12_doesFamily_80 ?_
        refine K_iconst C (v := 0) (by decide) dX12_doesFamily_81 ?_
        refine K_callVi C (As := [.int 2, .int 0]) (rest := []) (Nat.le_of_ble_eq_true rfl) (shM_0 G ad) rfl hy_X12_refuses wm_X12_75 (by decide) ⟨Nat.le_refl _, Nat.le_refl _⟩ (fun rr ff hh => km_X12_refuses l G ad g65 2 0 rr ff hh) rfl rfl (Nat.le_of_ble_eq_true rfl) rfl dX12_doesFamily_82 (fun r82 g83 => ?_)
        exact K_bret C rfl dX12_doesFamily_85
def cf_X12_doesMount (f : kMem) (x1 : Int32) : Option (Int32 × kMem) := kbind (cf_X12_isFamily f x1) (fun r1 g2 => keq r1 0 (kbind (cf_X12_refuses g2 1 0) (fun r10 g11 => kchk (kbool r10) (some (r10, g11)))) (keq (g2 1 4) x1 (kbind (cf_X12_refuses g2 4 0) (fun r8 g9 => kchk (kbool r8) (some (r8, g9)))) (kmem (kup g2 1 4 x1) (fun g3 => kbind (cf_X12_passes g3 (g3 1 15)) (fun r4 g5 => kbind (cf_X12_is g5 r4) (fun r6 g7 => kchk (kbool r6) (some (r6, g7))))))))
set_option maxRecDepth 100000 in
set_option maxHeartbeats 4000000 in
theorem km_X12_doesMount (l : Launch) (G : kG) (ad : Nat → Nat) (f : kMem) (x1 : Int32) (r : Int32) (fo : kMem) (h : cf_X12_doesMount f x1 = some (r, fo)) : kMet l (wM G ad) yX12_doesMount cX12_doesMount 2 (some .boolean) 3 [.ref (kad (wM G ad) 0), .int x1] f r fo := by
  refine kMet_of (own := RX12) (lv := [(0, .ref (kad (wM G ad) 0)), (1, .int x1)]) (by decide) rfl (Nat.le_of_ble_eq_true rfl) rfl h ?_
  intro p e R s m args below meth c C
  unfold cf_X12_doesMount
  refine K_aload_n C 0 rfl rfl dX12_doesMount_0 ?_
  refine K_iload_n C 1 rfl rfl dX12_doesMount_1 ?_
  refine K_callVi C (As := [.int x1]) (rest := []) (Nat.le_of_ble_eq_true rfl) (shM_0 G ad) rfl hy_X12_isFamily wm_X12_86 (by decide) ⟨Nat.le_refl _, Nat.le_refl _⟩ (fun rr ff hh => km_X12_isFamily l G ad f x1 rr ff hh) rfl rfl (Nat.le_of_ble_eq_true rfl) rfl dX12_doesMount_2 (fun r1 g2 => ?_)
  refine K_if_ne C (tgt := 15) (by decide) dX12_doesMount_5 ?_ ?_
  · refine K_aload_n C 0 rfl rfl dX12_doesMount_15 ?_
    refine K_getR C kin_X12 rfl (Nat.le_of_ble_eq_true rfl) (shM_0 G ad) 0 (by decide) (b := 1) rfl wf_X12_9 rfl dX12_doesMount_16 ?_
    refine K_iconst C (v := 4) (by decide) dX12_doesMount_19 ?_
    refine K_ialdC C (Nat.le_of_ble_eq_true rfl) (shM_1 G ad) (kin_in (by decide)) dX12_doesMount_20 4 (by decide) ?_
    refine K_iload_n C 1 rfl rfl dX12_doesMount_21 ?_
    refine K_icmp_ne C (tgt := 32) (by decide) dX12_doesMount_22 ?_ ?_
    · refine K_aload_n C 0 rfl rfl dX12_doesMount_32 ?_
      refine K_getR C kin_X12 rfl (Nat.le_of_ble_eq_true rfl) (shM_0 G ad) 0 (by decide) (b := 1) rfl wf_X12_9 rfl dX12_doesMount_33 ?_
      refine K_iconst C (v := 4) (by decide) dX12_doesMount_36 ?_
      refine K_iload_n C 1 rfl rfl dX12_doesMount_37 ?_
      refine K_iastC C (Nat.le_of_ble_eq_true rfl) (shM_1 G ad) (kin_in (by decide)) dX12_doesMount_38 4 (by decide) (fun g3 => ?_)
      refine K_aload_n C 0 rfl rfl dX12_doesMount_39 ?_
      refine K_aload_n C 0 rfl rfl dX12_doesMount_40 ?_
      refine K_aload_n C 0 rfl rfl dX12_doesMount_41 ?_
      refine K_getR C kin_X12 rfl (Nat.le_of_ble_eq_true rfl) (shM_0 G ad) 0 (by decide) (b := 1) rfl wf_X12_9 rfl dX12_doesMount_42 ?_
      refine K_bipush C (v := 15) (by decide) dX12_doesMount_45 ?_
      refine K_ialdC C (Nat.le_of_ble_eq_true rfl) (shM_1 G ad) (kin_in (by decide)) dX12_doesMount_47 15 (by decide) ?_
      refine K_callVi C (As := [.int (g3 1 15)]) (rest := [.ref (kad (wM G ad) 0)]) (Nat.le_of_ble_eq_true rfl) (shM_0 G ad) rfl hy_X12_passes wm_X12_89 (by decide) ⟨Nat.le_refl _, Nat.le_refl _⟩ (fun rr ff hh => km_X12_passes l G ad g3 (g3 1 15) rr ff hh) rfl rfl (Nat.le_of_ble_eq_true rfl) rfl dX12_doesMount_48 (fun r4 g5 => ?_)
      refine K_callVi C (As := [.int r4]) (rest := []) (Nat.le_of_ble_eq_true rfl) (shM_0 G ad) rfl hy_X12_is wm_X12_79 (by decide) ⟨Nat.le_refl _, Nat.le_refl _⟩ (fun rr ff hh => km_X12_is l G ad g5 r4 rr ff hh) rfl rfl (Nat.le_of_ble_eq_true rfl) rfl dX12_doesMount_51 (fun r6 g7 => ?_)
      exact K_bret C rfl dX12_doesMount_54
    · refine K_aload_n C 0 rfl rfl dX12_doesMount_25 ?_
      refine K_iconst C (v := 4) (by decide) dX12_doesMount_26 ?_
      refine K_iconst C (v := 0) (by decide) dX12_doesMount_27 ?_
      refine K_callVi C (As := [.int 4, .int 0]) (rest := []) (Nat.le_of_ble_eq_true rfl) (shM_0 G ad) rfl hy_X12_refuses wm_X12_75 (by decide) ⟨Nat.le_refl _, Nat.le_refl _⟩ (fun rr ff hh => km_X12_refuses l G ad g2 4 0 rr ff hh) rfl rfl (Nat.le_of_ble_eq_true rfl) rfl dX12_doesMount_28 (fun r8 g9 => ?_)
      exact K_bret C rfl dX12_doesMount_31
  · refine K_aload_n C 0 rfl rfl dX12_doesMount_8 ?_
    refine K_iconst C (v := 1) (by decide) dX12_doesMount_9 ?_
    refine K_iconst C (v := 0) (by decide) dX12_doesMount_10 ?_
    refine K_callVi C (As := [.int 1, .int 0]) (rest := []) (Nat.le_of_ble_eq_true rfl) (shM_0 G ad) rfl hy_X12_refuses wm_X12_75 (by decide) ⟨Nat.le_refl _, Nat.le_refl _⟩ (fun rr ff hh => km_X12_refuses l G ad g2 1 0 rr ff hh) rfl rfl (Nat.le_of_ble_eq_true rfl) rfl dX12_doesMount_11 (fun r10 g11 => ?_)
    exact K_bret C rfl dX12_doesMount_14
def cj_X12_doesLoad_15 (f : kMem) : Option (Int32 × kMem) := kbind (cf_X12_refuses f 1 0) (fun r3 g4 => kchk (kbool r3) (some (r3, g4)))
def cj_X12_doesLoad_82 (f : kMem) (x2 x3 x4 : Int32) : Option (Int32 × kMem) := kchk (kin (x4 + 1) 313) (kle ((f 1 (Int32.toNatClampNeg (x4 + 1))) + x3) 99999 (kchk (kin x4 313) (kmem (kup f 1 (Int32.toNatClampNeg x4) x2) (fun g10 => kchk (kin (x4 + 1) 313) (kchk (kin (x4 + 1) 313) (kmem (kup g10 1 (Int32.toNatClampNeg (x4 + 1)) ((g10 1 (Int32.toNatClampNeg (x4 + 1))) + x3)) (fun g11 => kchk (kin (x4 + 2) 313) (kmem (kup g11 1 (Int32.toNatClampNeg (x4 + 2)) 0) (fun g12 => kchk (kin (x4 + 1) 313) (kbind (cf_X12_is g12 (g12 1 (Int32.toNatClampNeg (x4 + 1)))) (fun r13 g14 => kchk (kbool r13) (some (r13, g14)))))))))))) (kbind (cf_X12_refuses f 7 0) (fun r15 g16 => kchk (kbool r15) (some (r15, g16)))))
def cf_X12_doesLoad (f : kMem) (x1 x2 x3 : Int32) : Option (Int32 × kMem) := kbind (cf_X12_isDryer f x1) (fun r1 g2 => keq r1 0 ((cj_X12_doesLoad_15 g2)) (kbind (cf_X12_isColour g2 x2) (fun r5 g6 => keq r5 0 ((cj_X12_doesLoad_15 g6)) (kbind (cf_X12_in g6 x3 1 99999) (fun r7 g8 => keq r7 0 (kbind (cf_X12_refuses g8 2 0) (fun r19 g20 => kchk (kbool r19) (some (r19, g20)))) (klet (100 + (3 * x1)) (fun x4_9 => kchk (kin x4_9 313) (klt (g8 1 (Int32.toNatClampNeg x4_9)) 0 ((cj_X12_doesLoad_82 g8 x2 x3 x4_9)) (kchk (kin x4_9 313) (keq (g8 1 (Int32.toNatClampNeg x4_9)) x2 ((cj_X12_doesLoad_82 g8 x2 x3 x4_9)) (kchk (kin x4_9 313) (kbind (cf_X12_refuses g8 6 (g8 1 (Int32.toNatClampNeg x4_9))) (fun r17 g18 => kchk (kbool r17) (some (r17, g18)))))))))))))))
set_option maxRecDepth 100000 in
set_option maxHeartbeats 4000000 in
theorem kcj_X12_doesLoad_15 {p : Program} {l : Launch} {e : Env} {R : Room} {s : State} {m : MethodId} {args : Array Value} {below : List Frame} {meth : Method} {c : Code} {G : kG} {ad : Nat → Nat} {z : Int32 × kMem} (C : KC p l e R s m args below meth c (wM G ad) RX12 cX12_doesLoad 5 (some .boolean) 2 0 0)  (f : kMem) : K p l e R s m args below meth c (wM G ad) 5 (kQF below (wM G ad) (some .boolean) args s z) z 0 0 f 15 [(0, .ref (kad (wM G ad) 0))] [] (cj_X12_doesLoad_15 f) := by
  unfold cj_X12_doesLoad_15
  refine K_aload_n C 0 rfl rfl dX12_doesLoad_15 ?_
  refine K_iconst C (v := 1) (by decide) dX12_doesLoad_16 ?_
  refine K_iconst C (v := 0) (by decide) dX12_doesLoad_17 ?_
  refine K_callVi C (As := [.int 1, .int 0]) (rest := []) (Nat.le_of_ble_eq_true rfl) (shM_0 G ad) rfl hy_X12_refuses wm_X12_75 (by decide) ⟨Nat.le_refl _, Nat.le_refl _⟩ (fun rr ff hh => km_X12_refuses l G ad f 1 0 rr ff hh) rfl rfl (Nat.le_of_ble_eq_true rfl) rfl dX12_doesLoad_18 (fun r3 g4 => ?_)
  exact K_bret C rfl dX12_doesLoad_21
set_option maxRecDepth 100000 in
set_option maxHeartbeats 4000000 in
theorem kcj_X12_doesLoad_82 {p : Program} {l : Launch} {e : Env} {R : Room} {s : State} {m : MethodId} {args : Array Value} {below : List Frame} {meth : Method} {c : Code} {G : kG} {ad : Nat → Nat} {z : Int32 × kMem} (C : KC p l e R s m args below meth c (wM G ad) RX12 cX12_doesLoad 5 (some .boolean) 2 0 0)  (f : kMem) (x2 x3 x4 : Int32) : K p l e R s m args below meth c (wM G ad) 5 (kQF below (wM G ad) (some .boolean) args s z) z 0 0 f 82 [(0, .ref (kad (wM G ad) 0)), (2, .int x2), (3, .int x3), (4, .int x4)] [] (cj_X12_doesLoad_82 f x2 x3 x4) := by
  unfold cj_X12_doesLoad_82
  refine K_aload_n C 0 rfl rfl dX12_doesLoad_82 ?_
  refine K_getR C kin_X12 rfl (Nat.le_of_ble_eq_true rfl) (shM_0 G ad) 0 (by decide) (b := 1) rfl wf_X12_9 rfl dX12_doesLoad_83 ?_
  refine K_iload C 3 rfl dX12_doesLoad_86 ?_
  refine K_iconst C (v := 1) (by decide) dX12_doesLoad_88 ?_
  refine K_iadd C dX12_doesLoad_89 ?_
  refine K_iald C (Nat.le_of_ble_eq_true rfl) (shM_1 G ad) dX12_doesLoad_90 ?_
  refine K_iload_n C 2 rfl rfl dX12_doesLoad_91 ?_
  refine K_iadd C dX12_doesLoad_92 ?_
  refine K_ldc C (v := 99999) wc_X12_98 dX12_doesLoad_93 ?_
  refine K_icmp_le C (tgt := 106) (by decide) dX12_doesLoad_95 ?_ ?_
  · refine K_aload_n C 0 rfl rfl dX12_doesLoad_106 ?_
    refine K_getR C kin_X12 rfl (Nat.le_of_ble_eq_true rfl) (shM_0 G ad) 0 (by decide) (b := 1) rfl wf_X12_9 rfl dX12_doesLoad_107 ?_
    refine K_iload C 3 rfl dX12_doesLoad_110 ?_
    refine K_iload_n C 1 rfl rfl dX12_doesLoad_112 ?_
    refine K_iast C (Nat.le_of_ble_eq_true rfl) (shM_1 G ad) dX12_doesLoad_113 (fun g10 => ?_)
    refine K_aload_n C 0 rfl rfl dX12_doesLoad_114 ?_
    refine K_getR C kin_X12 rfl (Nat.le_of_ble_eq_true rfl) (shM_0 G ad) 0 (by decide) (b := 1) rfl wf_X12_9 rfl dX12_doesLoad_115 ?_
    refine K_iload C 3 rfl dX12_doesLoad_118 ?_
    refine K_iconst C (v := 1) (by decide) dX12_doesLoad_120 ?_
    refine K_iadd C dX12_doesLoad_121 ?_
    refine K_dup2 C rfl rfl dX12_doesLoad_122 ?_
    refine K_iald C (Nat.le_of_ble_eq_true rfl) (shM_1 G ad) dX12_doesLoad_123 ?_
    refine K_iload_n C 2 rfl rfl dX12_doesLoad_124 ?_
    refine K_iadd C dX12_doesLoad_125 ?_
    refine K_iast C (Nat.le_of_ble_eq_true rfl) (shM_1 G ad) dX12_doesLoad_126 (fun g11 => ?_)
    refine K_aload_n C 0 rfl rfl dX12_doesLoad_127 ?_
    refine K_getR C kin_X12 rfl (Nat.le_of_ble_eq_true rfl) (shM_0 G ad) 0 (by decide) (b := 1) rfl wf_X12_9 rfl dX12_doesLoad_128 ?_
    refine K_iload C 3 rfl dX12_doesLoad_131 ?_
    refine K_iconst C (v := 2) (by decide) dX12_doesLoad_133 ?_
    refine K_iadd C dX12_doesLoad_134 ?_
    refine K_iconst C (v := 0) (by decide) dX12_doesLoad_135 ?_
    refine K_iast C (Nat.le_of_ble_eq_true rfl) (shM_1 G ad) dX12_doesLoad_136 (fun g12 => ?_)
    refine K_aload_n C 0 rfl rfl dX12_doesLoad_137 ?_
    refine K_aload_n C 0 rfl rfl dX12_doesLoad_138 ?_
    refine K_getR C kin_X12 rfl (Nat.le_of_ble_eq_true rfl) (shM_0 G ad) 0 (by decide) (b := 1) rfl wf_X12_9 rfl dX12_doesLoad_139 ?_
    refine K_iload C 3 rfl dX12_doesLoad_142 ?_
    refine K_iconst C (v := 1) (by decide) dX12_doesLoad_144 ?_
    refine K_iadd C dX12_doesLoad_145 ?_
    refine K_iald C (Nat.le_of_ble_eq_true rfl) (shM_1 G ad) dX12_doesLoad_146 ?_
    refine K_callVi C (As := [.int (g12 1 (Int32.toNatClampNeg (x4 + 1)))]) (rest := []) (Nat.le_of_ble_eq_true rfl) (shM_0 G ad) rfl hy_X12_is wm_X12_79 (by decide) ⟨Nat.le_refl _, Nat.le_refl _⟩ (fun rr ff hh => km_X12_is l G ad g12 (g12 1 (Int32.toNatClampNeg (x4 + 1))) rr ff hh) rfl rfl (Nat.le_of_ble_eq_true rfl) rfl dX12_doesLoad_147 (fun r13 g14 => ?_)
    exact K_bret C rfl dX12_doesLoad_150
  · refine K_aload_n C 0 rfl rfl dX12_doesLoad_98 ?_
    refine K_bipush C (v := 7) (by decide) dX12_doesLoad_99 ?_
    refine K_iconst C (v := 0) (by decide) dX12_doesLoad_101 ?_
    refine K_callVi C (As := [.int 7, .int 0]) (rest := []) (Nat.le_of_ble_eq_true rfl) (shM_0 G ad) rfl hy_X12_refuses wm_X12_75 (by decide) ⟨Nat.le_refl _, Nat.le_refl _⟩ (fun rr ff hh => km_X12_refuses l G ad f 7 0 rr ff hh) rfl rfl (Nat.le_of_ble_eq_true rfl) rfl dX12_doesLoad_102 (fun r15 g16 => ?_)
    exact K_bret C rfl dX12_doesLoad_105
set_option maxRecDepth 100000 in
set_option maxHeartbeats 4000000 in
theorem km_X12_doesLoad (l : Launch) (G : kG) (ad : Nat → Nat) (f : kMem) (x1 x2 x3 : Int32) (r : Int32) (fo : kMem) (h : cf_X12_doesLoad f x1 x2 x3 = some (r, fo)) : kMet l (wM G ad) yX12_doesLoad cX12_doesLoad 5 (some .boolean) 2 [.ref (kad (wM G ad) 0), .int x1, .int x2, .int x3] f r fo := by
  refine kMet_of (own := RX12) (lv := [(0, .ref (kad (wM G ad) 0)), (1, .int x1), (2, .int x2), (3, .int x3)]) (by decide) rfl (Nat.le_of_ble_eq_true rfl) rfl h ?_
  intro p e R s m args below meth c C
  unfold cf_X12_doesLoad
  refine K_iload_n C 1 rfl rfl dX12_doesLoad_0 ?_
  refine K_callSi C (As := [.int x1]) (rest := []) hy_X12_isDryer wm_X12_92 (by decide) ⟨Nat.le_refl _, Nat.le_refl _⟩ (fun rr ff hh => km_X12_isDryer l G ad f x1 rr ff hh) rfl rfl (Nat.le_of_ble_eq_true rfl) rfl dX12_doesLoad_1 (fun r1 g2 => ?_)
  refine K_if_eq C (tgt := 15) (by decide) dX12_doesLoad_4 ?_ ?_
  · refine K_sub [0] rfl ?_
    exact kcj_X12_doesLoad_15 C g2
  · refine K_aload_n C 0 rfl rfl dX12_doesLoad_7 ?_
    refine K_iload_n C 2 rfl rfl dX12_doesLoad_8 ?_
    refine K_callVi C (As := [.int x2]) (rest := []) (Nat.le_of_ble_eq_true rfl) (shM_0 G ad) rfl hy_X12_isColour wm_X12_95 (by decide) ⟨Nat.le_refl _, Nat.le_refl _⟩ (fun rr ff hh => km_X12_isColour l G ad g2 x2 rr ff hh) rfl rfl (Nat.le_of_ble_eq_true rfl) rfl dX12_doesLoad_9 (fun r5 g6 => ?_)
    refine K_if_ne C (tgt := 22) (by decide) dX12_doesLoad_12 ?_ ?_
    · refine K_iload_n C 3 rfl rfl dX12_doesLoad_22 ?_
      refine K_iconst C (v := 1) (by decide) dX12_doesLoad_23 ?_
      refine K_ldc C (v := 99999) wc_X12_98 dX12_doesLoad_24 ?_
      refine K_callSi C (As := [.int x3, .int 1, .int 99999]) (rest := []) hy_X12_in wm_X12_64 (by decide) ⟨Nat.le_refl _, Nat.le_refl _⟩ (fun rr ff hh => km_X12_in l G ad g6 x3 1 99999 rr ff hh) rfl rfl (Nat.le_of_ble_eq_true rfl) rfl dX12_doesLoad_26 (fun r7 g8 => ?_)
      refine K_if_ne C (tgt := 39) (by decide) dX12_doesLoad_29 ?_ ?_
      · refine K_bipush C (v := 100) (by decide) dX12_doesLoad_39 ?_
        refine K_iconst C (v := 3) (by decide) dX12_doesLoad_41 ?_
        refine K_iload_n C 1 rfl rfl dX12_doesLoad_42 ?_
        refine K_imul C dX12_doesLoad_43 ?_
        refine K_iadd C dX12_doesLoad_44 ?_
        refine K_let rfl (fun x4_9 => ?_)
        refine K_istore C (lv1 := [(4, .int x4_9), (0, .ref (kad (wM G ad) 0)), (1, .int x1), (2, .int x2), (3, .int x3)]) (by decide) rfl dX12_doesLoad_45 ?_
        refine K_aload_n C 1 rfl rfl dX12_doesLoad_47 ?_
        refine K_getR C kin_X12 rfl (Nat.le_of_ble_eq_true rfl) (shM_0 G ad) 0 (by decide) (b := 1) rfl wf_X12_9 rfl dX12_doesLoad_48 ?_
        refine K_iload C 0 rfl dX12_doesLoad_51 ?_
        refine K_iald C (Nat.le_of_ble_eq_true rfl) (shM_1 G ad) dX12_doesLoad_53 ?_
        refine K_if_lt C (tgt := 82) (by decide) dX12_doesLoad_54 ?_ ?_
        · refine K_sub [1, 3, 4, 0] rfl ?_
          exact kcj_X12_doesLoad_82 C g8 x2 x3 x4_9
        · refine K_aload_n C 1 rfl rfl dX12_doesLoad_57 ?_
          refine K_getR C kin_X12 rfl (Nat.le_of_ble_eq_true rfl) (shM_0 G ad) 0 (by decide) (b := 1) rfl wf_X12_9 rfl dX12_doesLoad_58 ?_
          refine K_iload C 0 rfl dX12_doesLoad_61 ?_
          refine K_iald C (Nat.le_of_ble_eq_true rfl) (shM_1 G ad) dX12_doesLoad_63 ?_
          refine K_iload_n C 3 rfl rfl dX12_doesLoad_64 ?_
          refine K_icmp_eq C (tgt := 82) (by decide) dX12_doesLoad_65 ?_ ?_
          · refine K_sub [1, 3, 4, 0] rfl ?_
            exact kcj_X12_doesLoad_82 C g8 x2 x3 x4_9
          · refine K_aload_n C 1 rfl rfl dX12_doesLoad_68 ?_
            refine K_bipush C (v := 6) (by decide) dX12_doesLoad_69 ?_
            refine K_aload_n C 1 rfl rfl dX12_doesLoad_71 ?_
            refine K_getR C kin_X12 rfl (Nat.le_of_ble_eq_true rfl) (shM_0 G ad) 0 (by decide) (b := 1) rfl wf_X12_9 rfl dX12_doesLoad_72 ?_
            refine K_iload C 0 rfl dX12_doesLoad_75 ?_
            refine K_iald C (Nat.le_of_ble_eq_true rfl) (shM_1 G ad) dX12_doesLoad_77 ?_
            refine K_callVi C (As := [.int 6, .int (g8 1 (Int32.toNatClampNeg x4_9))]) (rest := []) (Nat.le_of_ble_eq_true rfl) (shM_0 G ad) rfl hy_X12_refuses wm_X12_75 (by decide) ⟨Nat.le_refl _, Nat.le_refl _⟩ (fun rr ff hh => km_X12_refuses l G ad g8 6 (g8 1 (Int32.toNatClampNeg x4_9)) rr ff hh) rfl rfl (Nat.le_of_ble_eq_true rfl) rfl dX12_doesLoad_78 (fun r17 g18 => ?_)
            exact K_bret C rfl dX12_doesLoad_81
      · refine K_aload_n C 0 rfl rfl dX12_doesLoad_32 ?_
        refine K_iconst C (v := 2) (by decide) dX12_doesLoad_33 ?_
        refine K_iconst C (v := 0) (by decide) dX12_doesLoad_34 ?_
        refine K_callVi C (As := [.int 2, .int 0]) (rest := []) (Nat.le_of_ble_eq_true rfl) (shM_0 G ad) rfl hy_X12_refuses wm_X12_75 (by decide) ⟨Nat.le_refl _, Nat.le_refl _⟩ (fun rr ff hh => km_X12_refuses l G ad g8 2 0 rr ff hh) rfl rfl (Nat.le_of_ble_eq_true rfl) rfl dX12_doesLoad_35 (fun r19 g20 => ?_)
        exact K_bret C rfl dX12_doesLoad_38
    · refine K_sub [0] rfl ?_
      exact kcj_X12_doesLoad_15 C g6
def cf_X12_becomesEmpty (f : kMem) (x1 : Int32) : Option (Int32 × kMem) := kchk (kin x1 313) (kmem (kup f 1 (Int32.toNatClampNeg x1) (-1)) (fun g1 => kchk (kin (x1 + 1) 313) (kmem (kup g1 1 (Int32.toNatClampNeg (x1 + 1)) 0) (fun g2 => kchk (kin (x1 + 2) 313) (kmem (kup g2 1 (Int32.toNatClampNeg (x1 + 2)) 0) (fun g3 => some (0, g3)))))))
set_option maxRecDepth 100000 in
set_option maxHeartbeats 4000000 in
theorem km_X12_becomesEmpty (l : Launch) (G : kG) (ad : Nat → Nat) (f : kMem) (x1 : Int32) (r : Int32) (fo : kMem) (h : cf_X12_becomesEmpty f x1 = some (r, fo)) : kMet l (wM G ad) yX12_becomesEmpty cX12_becomesEmpty 2 none 0 [.ref (kad (wM G ad) 0), .int x1] f r fo := by
  refine kMet_of (own := RX12) (lv := [(0, .ref (kad (wM G ad) 0)), (1, .int x1)]) (by decide) rfl (Nat.le_of_ble_eq_true rfl) rfl h ?_
  intro p e R s m args below meth c C
  unfold cf_X12_becomesEmpty
  refine K_aload_n C 0 rfl rfl dX12_becomesEmpty_0 ?_
  refine K_getR C kin_X12 rfl (Nat.le_of_ble_eq_true rfl) (shM_0 G ad) 0 (by decide) (b := 1) rfl wf_X12_9 rfl dX12_becomesEmpty_1 ?_
  refine K_iload_n C 1 rfl rfl dX12_becomesEmpty_4 ?_
  refine K_iconst C (v := (-1)) (by decide) dX12_becomesEmpty_5 ?_
  refine K_iast C (Nat.le_of_ble_eq_true rfl) (shM_1 G ad) dX12_becomesEmpty_6 (fun g1 => ?_)
  refine K_aload_n C 0 rfl rfl dX12_becomesEmpty_7 ?_
  refine K_getR C kin_X12 rfl (Nat.le_of_ble_eq_true rfl) (shM_0 G ad) 0 (by decide) (b := 1) rfl wf_X12_9 rfl dX12_becomesEmpty_8 ?_
  refine K_iload_n C 1 rfl rfl dX12_becomesEmpty_11 ?_
  refine K_iconst C (v := 1) (by decide) dX12_becomesEmpty_12 ?_
  refine K_iadd C dX12_becomesEmpty_13 ?_
  refine K_iconst C (v := 0) (by decide) dX12_becomesEmpty_14 ?_
  refine K_iast C (Nat.le_of_ble_eq_true rfl) (shM_1 G ad) dX12_becomesEmpty_15 (fun g2 => ?_)
  refine K_aload_n C 0 rfl rfl dX12_becomesEmpty_16 ?_
  refine K_getR C kin_X12 rfl (Nat.le_of_ble_eq_true rfl) (shM_0 G ad) 0 (by decide) (b := 1) rfl wf_X12_9 rfl dX12_becomesEmpty_17 ?_
  refine K_iload_n C 1 rfl rfl dX12_becomesEmpty_20 ?_
  refine K_iconst C (v := 2) (by decide) dX12_becomesEmpty_21 ?_
  refine K_iadd C dX12_becomesEmpty_22 ?_
  refine K_iconst C (v := 0) (by decide) dX12_becomesEmpty_23 ?_
  refine K_iast C (Nat.le_of_ble_eq_true rfl) (shM_1 G ad) dX12_becomesEmpty_24 (fun g3 => ?_)
  exact K_vret C rfl dX12_becomesEmpty_25
def cf_X12_doesEmpty (f : kMem) (x1 : Int32) : Option (Int32 × kMem) := kbind (cf_X12_isDryer f x1) (fun r1 g2 => keq r1 0 (kbind (cf_X12_refuses g2 1 0) (fun r11 g12 => kchk (kbool r11) (some (r11, g12)))) (klet (100 + (3 * x1)) (fun x2_3 => kchk (kin x2_3 313) (kle 0 (g2 1 (Int32.toNatClampNeg x2_3)) (kchk (kin (x2_3 + 1) 313) (klet (g2 1 (Int32.toNatClampNeg (x2_3 + 1))) (fun x3_4 => kbind (cf_X12_becomesEmpty g2 x2_3) (fun r5 g6 => kbind (cf_X12_is g6 x3_4) (fun r7 g8 => kchk (kbool r7) (some (r7, g8))))))) (kbind (cf_X12_refuses g2 8 0) (fun r9 g10 => kchk (kbool r9) (some (r9, g10))))))))
set_option maxRecDepth 100000 in
set_option maxHeartbeats 4000000 in
theorem km_X12_doesEmpty (l : Launch) (G : kG) (ad : Nat → Nat) (f : kMem) (x1 : Int32) (r : Int32) (fo : kMem) (h : cf_X12_doesEmpty f x1 = some (r, fo)) : kMet l (wM G ad) yX12_doesEmpty cX12_doesEmpty 4 (some .boolean) 2 [.ref (kad (wM G ad) 0), .int x1] f r fo := by
  refine kMet_of (own := RX12) (lv := [(0, .ref (kad (wM G ad) 0)), (1, .int x1)]) (by decide) rfl (Nat.le_of_ble_eq_true rfl) rfl h ?_
  intro p e R s m args below meth c C
  unfold cf_X12_doesEmpty
  refine K_iload_n C 1 rfl rfl dX12_doesEmpty_0 ?_
  refine K_callSi C (As := [.int x1]) (rest := []) hy_X12_isDryer wm_X12_92 (by decide) ⟨Nat.le_refl _, Nat.le_refl _⟩ (fun rr ff hh => km_X12_isDryer l G ad f x1 rr ff hh) rfl rfl (Nat.le_of_ble_eq_true rfl) rfl dX12_doesEmpty_1 (fun r1 g2 => ?_)
  refine K_if_ne C (tgt := 14) (by decide) dX12_doesEmpty_4 ?_ ?_
  · refine K_bipush C (v := 100) (by decide) dX12_doesEmpty_14 ?_
    refine K_iconst C (v := 3) (by decide) dX12_doesEmpty_16 ?_
    refine K_iload_n C 1 rfl rfl dX12_doesEmpty_17 ?_
    refine K_imul C dX12_doesEmpty_18 ?_
    refine K_iadd C dX12_doesEmpty_19 ?_
    refine K_let rfl (fun x2_3 => ?_)
    refine K_istore_n C (lv1 := [(2, .int x2_3), (0, .ref (kad (wM G ad) 0)), (1, .int x1)]) rfl (by decide) rfl dX12_doesEmpty_20 ?_
    refine K_aload_n C 1 rfl rfl dX12_doesEmpty_21 ?_
    refine K_getR C kin_X12 rfl (Nat.le_of_ble_eq_true rfl) (shM_0 G ad) 0 (by decide) (b := 1) rfl wf_X12_9 rfl dX12_doesEmpty_22 ?_
    refine K_iload_n C 0 rfl rfl dX12_doesEmpty_25 ?_
    refine K_iald C (Nat.le_of_ble_eq_true rfl) (shM_1 G ad) dX12_doesEmpty_26 ?_
    refine K_if_ge C (tgt := 38) (by decide) dX12_doesEmpty_27 ?_ ?_
    · refine K_aload_n C 1 rfl rfl dX12_doesEmpty_38 ?_
      refine K_getR C kin_X12 rfl (Nat.le_of_ble_eq_true rfl) (shM_0 G ad) 0 (by decide) (b := 1) rfl wf_X12_9 rfl dX12_doesEmpty_39 ?_
      refine K_iload_n C 0 rfl rfl dX12_doesEmpty_42 ?_
      refine K_iconst C (v := 1) (by decide) dX12_doesEmpty_43 ?_
      refine K_iadd C dX12_doesEmpty_44 ?_
      refine K_iald C (Nat.le_of_ble_eq_true rfl) (shM_1 G ad) dX12_doesEmpty_45 ?_
      refine K_let rfl (fun x3_4 => ?_)
      refine K_istore_n C (lv1 := [(3, .int x3_4), (2, .int x2_3), (0, .ref (kad (wM G ad) 0)), (1, .int x1)]) rfl (by decide) rfl dX12_doesEmpty_46 ?_
      refine K_aload_n C 2 rfl rfl dX12_doesEmpty_47 ?_
      refine K_iload_n C 1 rfl rfl dX12_doesEmpty_48 ?_
      refine K_callVv C (As := [.int x2_3]) (rest := []) (Nat.le_of_ble_eq_true rfl) (shM_0 G ad) rfl hy_X12_becomesEmpty wm_X12_99 (by decide) ⟨Nat.le_refl _, Nat.le_refl _⟩ (fun rr ff hh => km_X12_becomesEmpty l G ad g2 x2_3 rr ff hh) rfl rfl (Nat.le_of_ble_eq_true rfl) rfl dX12_doesEmpty_49 (fun r5 g6 => ?_)
      refine K_aload_n C 2 rfl rfl dX12_doesEmpty_52 ?_
      refine K_iload_n C 0 rfl rfl dX12_doesEmpty_53 ?_
      refine K_callVi C (As := [.int x3_4]) (rest := []) (Nat.le_of_ble_eq_true rfl) (shM_0 G ad) rfl hy_X12_is wm_X12_79 (by decide) ⟨Nat.le_refl _, Nat.le_refl _⟩ (fun rr ff hh => km_X12_is l G ad g6 x3_4 rr ff hh) rfl rfl (Nat.le_of_ble_eq_true rfl) rfl dX12_doesEmpty_54 (fun r7 g8 => ?_)
      exact K_bret C rfl dX12_doesEmpty_57
    · refine K_aload_n C 1 rfl rfl dX12_doesEmpty_30 ?_
      refine K_bipush C (v := 8) (by decide) dX12_doesEmpty_31 ?_
      refine K_iconst C (v := 0) (by decide) dX12_doesEmpty_33 ?_
      refine K_callVi C (As := [.int 8, .int 0]) (rest := []) (Nat.le_of_ble_eq_true rfl) (shM_0 G ad) rfl hy_X12_refuses wm_X12_75 (by decide) ⟨Nat.le_refl _, Nat.le_refl _⟩ (fun rr ff hh => km_X12_refuses l G ad g2 8 0 rr ff hh) rfl rfl (Nat.le_of_ble_eq_true rfl) rfl dX12_doesEmpty_34 (fun r9 g10 => ?_)
      exact K_bret C rfl dX12_doesEmpty_37
  · refine K_aload_n C 0 rfl rfl dX12_doesEmpty_7 ?_
    refine K_iconst C (v := 1) (by decide) dX12_doesEmpty_8 ?_
    refine K_iconst C (v := 0) (by decide) dX12_doesEmpty_9 ?_
    refine K_callVi C (As := [.int 1, .int 0]) (rest := []) (Nat.le_of_ble_eq_true rfl) (shM_0 G ad) rfl hy_X12_refuses wm_X12_75 (by decide) ⟨Nat.le_refl _, Nat.le_refl _⟩ (fun rr ff hh => km_X12_refuses l G ad g2 1 0 rr ff hh) rfl rfl (Nat.le_of_ble_eq_true rfl) rfl dX12_doesEmpty_10 (fun r11 g12 => ?_)
    exact K_bret C rfl dX12_doesEmpty_13
def cf_X12_doesPause (f : kMem) (x1 : Int32) : Option (Int32 × kMem) := kbind (cf_X12_in f x1 1 999) (fun r1 g2 => keq r1 0 (kbind (cf_X12_refuses g2 2 0) (fun r3 g4 => kchk (kbool r3) (some (r3, g4)))) (kbind (cf_X12_passes g2 x1) (fun r5 g6 => kbind (cf_X12_is g6 r5) (fun r7 g8 => kchk (kbool r7) (some (r7, g8))))))
set_option maxRecDepth 100000 in
set_option maxHeartbeats 4000000 in
theorem km_X12_doesPause (l : Launch) (G : kG) (ad : Nat → Nat) (f : kMem) (x1 : Int32) (r : Int32) (fo : kMem) (h : cf_X12_doesPause f x1 = some (r, fo)) : kMet l (wM G ad) yX12_doesPause cX12_doesPause 2 (some .boolean) 3 [.ref (kad (wM G ad) 0), .int x1] f r fo := by
  refine kMet_of (own := RX12) (lv := [(0, .ref (kad (wM G ad) 0)), (1, .int x1)]) (by decide) rfl (Nat.le_of_ble_eq_true rfl) rfl h ?_
  intro p e R s m args below meth c C
  unfold cf_X12_doesPause
  refine K_iload_n C 1 rfl rfl dX12_doesPause_0 ?_
  refine K_iconst C (v := 1) (by decide) dX12_doesPause_1 ?_
  refine K_sipush C (v := 999) (by decide) dX12_doesPause_2 ?_
  refine K_callSi C (As := [.int x1, .int 1, .int 999]) (rest := []) hy_X12_in wm_X12_64 (by decide) ⟨Nat.le_refl _, Nat.le_refl _⟩ (fun rr ff hh => km_X12_in l G ad f x1 1 999 rr ff hh) rfl rfl (Nat.le_of_ble_eq_true rfl) rfl dX12_doesPause_5 (fun r1 g2 => ?_)
  refine K_if_eq C (tgt := 23) (by decide) dX12_doesPause_8 ?_ ?_
  · refine K_aload_n C 0 rfl rfl dX12_doesPause_23 ?_
    refine K_iconst C (v := 2) (by decide) dX12_doesPause_24 ?_
    refine K_iconst C (v := 0) (by decide) dX12_doesPause_25 ?_
    refine K_callVi C (As := [.int 2, .int 0]) (rest := []) (Nat.le_of_ble_eq_true rfl) (shM_0 G ad) rfl hy_X12_refuses wm_X12_75 (by decide) ⟨Nat.le_refl _, Nat.le_refl _⟩ (fun rr ff hh => km_X12_refuses l G ad g2 2 0 rr ff hh) rfl rfl (Nat.le_of_ble_eq_true rfl) rfl dX12_doesPause_26 (fun r3 g4 => ?_)
    exact K_bret C rfl dX12_doesPause_29
  · refine K_aload_n C 0 rfl rfl dX12_doesPause_11 ?_
    refine K_aload_n C 0 rfl rfl dX12_doesPause_12 ?_
    refine K_iload_n C 1 rfl rfl dX12_doesPause_13 ?_
    refine K_callVi C (As := [.int x1]) (rest := [.ref (kad (wM G ad) 0)]) (Nat.le_of_ble_eq_true rfl) (shM_0 G ad) rfl hy_X12_passes wm_X12_89 (by decide) ⟨Nat.le_refl _, Nat.le_refl _⟩ (fun rr ff hh => km_X12_passes l G ad g2 x1 rr ff hh) rfl rfl (Nat.le_of_ble_eq_true rfl) rfl dX12_doesPause_14 (fun r5 g6 => ?_)
    refine K_callVi C (As := [.int r5]) (rest := []) (Nat.le_of_ble_eq_true rfl) (shM_0 G ad) rfl hy_X12_is wm_X12_79 (by decide) ⟨Nat.le_refl _, Nat.le_refl _⟩ (fun rr ff hh => km_X12_is l G ad g6 r5 rr ff hh) rfl rfl (Nat.le_of_ble_eq_true rfl) rfl dX12_doesPause_17 (fun r7 g8 => ?_)
    refine K_goto C (tgt := 29) (by decide) dX12_doesPause_20 ?_
    exact K_bret C rfl dX12_doesPause_29
def cf_X12_purgeOf (f : kMem) (x1 x2 : Int32) : Option (Int32 × kMem) := klt x1 0 (some (0, f)) (keq x1 x2 (some (0, f)) (kchk (kin (16 + x1) 313) (kchk (kin (16 + x2) 313) (some ((1 + ((kmax 0 ((f 1 (Int32.toNatClampNeg (16 + x1))) - (f 1 (Int32.toNatClampNeg (16 + x2))))) * (f 1 14))), f)))))
set_option maxRecDepth 100000 in
set_option maxHeartbeats 4000000 in
theorem km_X12_purgeOf (l : Launch) (G : kG) (ad : Nat → Nat) (f : kMem) (x1 x2 : Int32) (r : Int32) (fo : kMem) (h : cf_X12_purgeOf f x1 x2 = some (r, fo)) : kMet l (wM G ad) yX12_purgeOf cX12_purgeOf 3 (some .int) 1 [.ref (kad (wM G ad) 0), .int x1, .int x2] f r fo := by
  refine kMet_of (own := RX12) (lv := [(0, .ref (kad (wM G ad) 0)), (1, .int x1), (2, .int x2)]) (by decide) rfl (Nat.le_of_ble_eq_true rfl) rfl h ?_
  intro p e R s m args below meth c C
  unfold cf_X12_purgeOf
  refine K_iload_n C 1 rfl rfl dX12_purgeOf_0 ?_
  refine K_if_lt C (tgt := 9) (by decide) dX12_purgeOf_1 ?_ ?_
  · refine K_iconst C (v := 0) (by decide) dX12_purgeOf_9 ?_
    exact K_ret C rfl rfl dX12_purgeOf_10
  · refine K_iload_n C 1 rfl rfl dX12_purgeOf_4 ?_
    refine K_iload_n C 2 rfl rfl dX12_purgeOf_5 ?_
    refine K_icmp_ne C (tgt := 11) (by decide) dX12_purgeOf_6 ?_ ?_
    · refine K_iconst C (v := 1) (by decide) dX12_purgeOf_11 ?_
      refine K_iconst C (v := 0) (by decide) dX12_purgeOf_12 ?_
      refine K_aload_n C 0 rfl rfl dX12_purgeOf_13 ?_
      refine K_getR C kin_X12 rfl (Nat.le_of_ble_eq_true rfl) (shM_0 G ad) 0 (by decide) (b := 1) rfl wf_X12_9 rfl dX12_purgeOf_14 ?_
      refine K_bipush C (v := 16) (by decide) dX12_purgeOf_17 ?_
      refine K_iload_n C 1 rfl rfl dX12_purgeOf_19 ?_
      refine K_iadd C dX12_purgeOf_20 ?_
      refine K_iald C (Nat.le_of_ble_eq_true rfl) (shM_1 G ad) dX12_purgeOf_21 ?_
      refine K_aload_n C 0 rfl rfl dX12_purgeOf_22 ?_
      refine K_getR C kin_X12 rfl (Nat.le_of_ble_eq_true rfl) (shM_0 G ad) 0 (by decide) (b := 1) rfl wf_X12_9 rfl dX12_purgeOf_23 ?_
      refine K_bipush C (v := 16) (by decide) dX12_purgeOf_26 ?_
      refine K_iload_n C 2 rfl rfl dX12_purgeOf_28 ?_
      refine K_iadd C dX12_purgeOf_29 ?_
      refine K_iald C (Nat.le_of_ble_eq_true rfl) (shM_1 G ad) dX12_purgeOf_30 ?_
      refine K_isub C dX12_purgeOf_31 ?_
      refine K_mmax C wm_X12_103 (by decide) ⟨Nat.le_refl _, Nat.le_refl _⟩ (Nat.le_of_ble_eq_true rfl) dX12_purgeOf_32 ?_
      refine K_aload_n C 0 rfl rfl dX12_purgeOf_35 ?_
      refine K_getR C kin_X12 rfl (Nat.le_of_ble_eq_true rfl) (shM_0 G ad) 0 (by decide) (b := 1) rfl wf_X12_9 rfl dX12_purgeOf_36 ?_
      refine K_bipush C (v := 14) (by decide) dX12_purgeOf_39 ?_
      refine K_ialdC C (Nat.le_of_ble_eq_true rfl) (shM_1 G ad) (kin_in (by decide)) dX12_purgeOf_41 14 (by decide) ?_
      refine K_imul C dX12_purgeOf_42 ?_
      refine K_iadd C dX12_purgeOf_43 ?_
      exact K_ret C rfl rfl dX12_purgeOf_44
    · refine K_iconst C (v := 0) (by decide) dX12_purgeOf_9 ?_
      exact K_ret C rfl rfl dX12_purgeOf_10
def cl_X12_doesRun_86 (Y161 : kMem → Int32 → Int32 → Int32 → Int32 → Int32 → Int32 → Int32 → Option (Int32 × kMem)) : Nat → kMem → Int32 → Int32 → Int32 → Int32 → Int32 → Int32 → Int32 → Int32 → Option (Int32 × kMem)
  | 0, _, _, _, _, _, _, _, _, _ => none
  | n + 1, f, x1, x2, x3, x4, x5, x6, x7, x8 => klt x8 0 ((Y161 f x1 x2 x3 x4 x5 x6 x7)) (klet (100 + (3 * x8)) (fun x9_11 => kchk (kin x9_11 313) (keq (f 1 (Int32.toNatClampNeg x9_11)) x1 (kchk (kin (x9_11 + 2) 313) (klt (f 1 (Int32.toNatClampNeg (x9_11 + 2))) (f 1 13) (klet (x8 + Int32.ofInt (-1)) (fun x8_12 => ((cl_X12_doesRun_86 Y161 n) f x1 x2 x3 x4 x5 x6 x9_11 x8_12))) (kchk (kin (x9_11 + 1) 313) (klt (f 1 (Int32.toNatClampNeg (x9_11 + 1))) x5 (klet (x8 + Int32.ofInt (-1)) (fun x8_13 => ((cl_X12_doesRun_86 Y161 n) f x1 x2 x3 x4 x5 x6 x9_11 x8_13))) (klet (x8 + Int32.ofInt (-1)) (fun x8_14 => ((cl_X12_doesRun_86 Y161 n) f x1 x2 x3 x4 x5 x9_11 x9_11 x8_14))))))) (klet (x8 + Int32.ofInt (-1)) (fun x8_15 => ((cl_X12_doesRun_86 Y161 n) f x1 x2 x3 x4 x5 x6 x7 x8_15))))))
def cl_X12_doesRun_336 (Y499 : kMem → Int32 → Option (Int32 × kMem)) : Nat → kMem → Int32 → Int32 → Int32 → Int32 → Int32 → Option (Int32 × kMem)
  | 0, _, _, _, _, _, _ => none
  | n + 1, f, x1, x2, x3, x4, x9 => kbind (cf_X12_of f x3 2) (fun r33 g34 => kle r33 x9 ((Y499 g34 x4)) (kbind (cf_X12_of g34 x3 (3 + x9)) (fun r35 g36 => kbind (cf_X12_of g36 x3 (6 + x9)) (fun r37 g38 => kbind (cf_X12_place g38 r35 x1) (fun r39 g40 => kchk (kin (30 + r35) 313) (kchk (kin (30 + r35) 313) (kmem (kup g40 1 (Int32.toNatClampNeg (30 + r35)) ((g40 1 (Int32.toNatClampNeg (30 + r35))) + (r37 * (x4 + x2)))) (fun g41 => kchk (kin (38 + r35) 313) (kchk (kin (38 + r35) 313) (kmem (kup g41 1 (Int32.toNatClampNeg (38 + r35)) ((g41 1 (Int32.toNatClampNeg (38 + r35))) + (r37 * x4))) (fun g42 => kchk (kin (157 + r39) 313) (kchk (kin (157 + r39) 313) (kmem (kup g42 1 (Int32.toNatClampNeg (157 + r39)) ((g42 1 (Int32.toNatClampNeg (157 + r39))) + (r37 * x2))) (fun g43 => kchk (kin (109 + r39) 313) (kchk (kin (157 + r39) 313) (kchk (kin (22 + r35) 313) (kchk (!decide ((g43 1 (Int32.toNatClampNeg (22 + r35))) = 0)) (kchk (kin (109 + r39) 313) (kmem (kup g43 1 (Int32.toNatClampNeg (109 + r39)) ((g43 1 (Int32.toNatClampNeg (109 + r39))) + ((g43 1 (Int32.toNatClampNeg (157 + r39))) / (g43 1 (Int32.toNatClampNeg (22 + r35)))))) (fun g44 => kchk (kin (157 + r39) 313) (kchk (kin (22 + r35) 313) (kchk (!decide ((g44 1 (Int32.toNatClampNeg (22 + r35))) = 0)) (kchk (kin (157 + r39) 313) (kmem (kup g44 1 (Int32.toNatClampNeg (157 + r39)) ((g44 1 (Int32.toNatClampNeg (157 + r39))) - (g44 1 (Int32.toNatClampNeg (157 + r39))) / (g44 1 (Int32.toNatClampNeg (22 + r35))) * (g44 1 (Int32.toNatClampNeg (22 + r35))))) (fun g45 => klet (x9 + Int32.ofInt 1) (fun x9_46 => ((cl_X12_doesRun_336 Y499 n) g45 x1 x2 x3 x4 x9_46)))))))))))))))))))))))))))
def cj_X12_doesRun_271 (f : kMem) (x1 x2 x3 x4 x5 : Int32) : Option (Int32 × kMem) := kmem (kup f 1 9 ((f 1 9) + x5)) (fun g25 => kmem (kup g25 1 10 ((g25 1 10) + (x4 + x2))) (fun g26 => kmem (kup g26 1 11 ((g26 1 11) + x4)) (fun g27 => kmem (kup g27 1 5 x1) (fun g28 => kbind (cf_X12_of g28 x3 0) (fun r29 g30 => kbind (cf_X12_passes g30 (r29 * (x4 + x2))) (fun r31 g32 => (cl_X12_doesRun_336 (fun g48 x4_47 => kbind (cf_X12_is g48 x4_47) (fun r49 g50 => kchk (kbool r49) (some (r49, g50)))) 100 g32 x1 x2 x3 x4 0)))))))
def cf_X12_doesRun (f : kMem) (x1 x2 : Int32) : Option (Int32 × kMem) := kbind (cf_X12_isColour f x1) (fun r1 g2 => keq r1 0 (kbind (cf_X12_refuses g2 1 0) (fun r64 g65 => kchk (kbool r64) (some (r64, g65)))) (kbind (cf_X12_in g2 x2 1 200) (fun r3 g4 => keq r3 0 (kbind (cf_X12_refuses g4 2 0) (fun r62 g63 => kchk (kbool r62) (some (r62, g63)))) (klet (g4 1 4) (fun x3_5 => kle 0 x3_5 (kbind (cf_X12_purgeOf g4 (g4 1 5) x1) (fun r6 g7 => kbind (cf_X12_of g7 x3_5 1) (fun r8 g9 => klet (r8 * (r6 + x2)) (fun x5_10 => (cl_X12_doesRun_86 (fun g23 x1_16 x2_17 x3_18 x4_19 x5_20 x6_21 x7_22 => kle 0 x6_21 (kchk (kin (x6_21 + 1) 313) (kchk (kin (x6_21 + 1) 313) (kmem (kup g23 1 (Int32.toNatClampNeg (x6_21 + 1)) ((g23 1 (Int32.toNatClampNeg (x6_21 + 1))) - x5_20)) (fun g24 => kchk (kin (x6_21 + 1) 313) (keq (g24 1 (Int32.toNatClampNeg (x6_21 + 1))) 0 (kbind (cf_X12_becomesEmpty g24 x6_21) (fun r51 g52 => (cj_X12_doesRun_271 g52 x1_16 x2_17 x3_18 x4_19 x5_20))) ((cj_X12_doesRun_271 g24 x1_16 x2_17 x3_18 x4_19 x5_20))))))) (kbind (cf_X12_refuses g23 10 0) (fun r53 g54 => kle 0 x7_22 (kchk (kin (x7_22 + 2) 313) (klet ((g54 1 13) - (g54 1 (Int32.toNatClampNeg (x7_22 + 2)))) (fun x9_55 => kle x9_55 0 (kchk (kin (x7_22 + 1) 313) (kbind (cf_X12_behind g54 12 (x5_20 - (g54 1 (Int32.toNatClampNeg (x7_22 + 1))))) (fun r56 g57 => kchk (kbool r53) (some (r53, g57))))) (kbind (cf_X12_behind g54 11 x9_55) (fun r58 g59 => kchk (kbool r53) (some (r53, g59))))))) (kchk (kbool r53) (some (r53, g54)))))) 100 g9 x1 x2 x3_5 r6 x5_10 (-1) (-1) 2))))) (kbind (cf_X12_refuses g4 5 0) (fun r60 g61 => kchk (kbool r60) (some (r60, g61)))))))))
set_option maxRecDepth 100000 in
set_option maxHeartbeats 4000000 in
theorem kcl_X12_doesRun_86 {p : Program} {l : Launch} {e : Env} {R : Room} {s : State} {m : MethodId} {args : Array Value} {below : List Frame} {meth : Method} {c : Code} {G : kG} {ad : Nat → Nat} {z : Int32 × kMem} (C : KC p l e R s m args below meth c (wM G ad) RX12 cX12_doesRun 13 (some .boolean) 3 0 0) (Y161 : kMem → Int32 → Int32 → Int32 → Int32 → Int32 → Int32 → Int32 → Option (Int32 × kMem)) (hY161 : ∀ (f : kMem) (x1 x2 x3 x4 x5 x6 x7 : Int32), K p l e R s m args below meth c (wM G ad) 13 (kQF below (wM G ad) (some .boolean) args s z) z 0 0 f 161 [(0, .ref (kad (wM G ad) 0)), (1, .int x1), (2, .int x2), (3, .int x3), (4, .int x4), (5, .int x5), (6, .int x6), (7, .int x7)] [] (Y161 f x1 x2 x3 x4 x5 x6 x7)) : ∀ (n : Nat) (f : kMem) (x1 x2 x3 x4 x5 x6 x7 x8 : Int32), K p l e R s m args below meth c (wM G ad) 13 (kQF below (wM G ad) (some .boolean) args s z) z 0 0 f 86 [(0, .ref (kad (wM G ad) 0)), (1, .int x1), (2, .int x2), (3, .int x3), (4, .int x4), (5, .int x5), (6, .int x6), (7, .int x7), (8, .int x8)] [] (cl_X12_doesRun_86 Y161 n f x1 x2 x3 x4 x5 x6 x7 x8) := by
  intro n
  induction n with
  | zero => intro f x1 x2 x3 x4 x5 x6 x7 x8; exact K_none
  | succ n ih =>
    intro f x1 x2 x3 x4 x5 x6 x7 x8
    unfold cl_X12_doesRun_86
    refine K_iload C 8 rfl dX12_doesRun_86 ?_
    refine K_if_lt C (tgt := 161) (by decide) dX12_doesRun_88 ?_ ?_
    · refine K_sub [0, 1, 2, 3, 4, 5, 6, 7] rfl ?_
      exact hY161 f x1 x2 x3 x4 x5 x6 x7
    · refine K_bipush C (v := 100) (by decide) dX12_doesRun_91 ?_
      refine K_iconst C (v := 3) (by decide) dX12_doesRun_93 ?_
      refine K_iload C 8 rfl dX12_doesRun_94 ?_
      refine K_imul C dX12_doesRun_96 ?_
      refine K_iadd C dX12_doesRun_97 ?_
      refine K_let rfl (fun x9_11 => ?_)
      refine K_istore C (lv1 := [(9, .int x9_11), (0, .ref (kad (wM G ad) 0)), (1, .int x1), (2, .int x2), (3, .int x3), (4, .int x4), (5, .int x5), (6, .int x6), (7, .int x7), (8, .int x8)]) (by decide) rfl dX12_doesRun_98 ?_
      refine K_aload_n C 1 rfl rfl dX12_doesRun_100 ?_
      refine K_getR C kin_X12 rfl (Nat.le_of_ble_eq_true rfl) (shM_0 G ad) 0 (by decide) (b := 1) rfl wf_X12_9 rfl dX12_doesRun_101 ?_
      refine K_iload C 0 rfl dX12_doesRun_104 ?_
      refine K_iald C (Nat.le_of_ble_eq_true rfl) (shM_1 G ad) dX12_doesRun_106 ?_
      refine K_iload_n C 2 rfl rfl dX12_doesRun_107 ?_
      refine K_icmp_eq C (tgt := 114) (by decide) dX12_doesRun_108 ?_ ?_
      · refine K_iload C 0 rfl dX12_doesRun_114 ?_
        refine K_istore C (lv1 := [(7, .int x9_11), (9, .int x9_11), (0, .ref (kad (wM G ad) 0)), (1, .int x1), (2, .int x2), (3, .int x3), (4, .int x4), (5, .int x5), (6, .int x6), (8, .int x8)]) (by decide) rfl dX12_doesRun_116 ?_
        refine K_aload_n C 2 rfl rfl dX12_doesRun_118 ?_
        refine K_getR C kin_X12 rfl (Nat.le_of_ble_eq_true rfl) (shM_0 G ad) 0 (by decide) (b := 1) rfl wf_X12_9 rfl dX12_doesRun_119 ?_
        refine K_iload C 1 rfl dX12_doesRun_122 ?_
        refine K_iconst C (v := 2) (by decide) dX12_doesRun_124 ?_
        refine K_iadd C dX12_doesRun_125 ?_
        refine K_iald C (Nat.le_of_ble_eq_true rfl) (shM_1 G ad) dX12_doesRun_126 ?_
        refine K_aload_n C 2 rfl rfl dX12_doesRun_127 ?_
        refine K_getR C kin_X12 rfl (Nat.le_of_ble_eq_true rfl) (shM_0 G ad) 0 (by decide) (b := 1) rfl wf_X12_9 rfl dX12_doesRun_128 ?_
        refine K_bipush C (v := 13) (by decide) dX12_doesRun_131 ?_
        refine K_ialdC C (Nat.le_of_ble_eq_true rfl) (shM_1 G ad) (kin_in (by decide)) dX12_doesRun_133 13 (by decide) ?_
        refine K_icmp_lt C (tgt := 155) (by decide) dX12_doesRun_134 ?_ ?_
        · refine K_iinc C (k := 9) (lv1 := fun x8_12 => [(8, .int x8_12), (7, .int x9_11), (9, .int x9_11), (0, .ref (kad (wM G ad) 0)), (1, .int x1), (2, .int x2), (3, .int x3), (4, .int x4), (5, .int x5), (6, .int x6)]) rfl (by decide) (fun _ => rfl) dX12_doesRun_155 (fun x8_12 => ?_)
          refine K_goto C (tgt := 86) (by decide) dX12_doesRun_158 ?_
          refine K_sub [3, 4, 5, 6, 7, 8, 9, 1, 0] rfl ?_
          exact ih f x1 x2 x3 x4 x5 x6 x9_11 x8_12
        · refine K_aload_n C 2 rfl rfl dX12_doesRun_137 ?_
          refine K_getR C kin_X12 rfl (Nat.le_of_ble_eq_true rfl) (shM_0 G ad) 0 (by decide) (b := 1) rfl wf_X12_9 rfl dX12_doesRun_138 ?_
          refine K_iload C 1 rfl dX12_doesRun_141 ?_
          refine K_iconst C (v := 1) (by decide) dX12_doesRun_143 ?_
          refine K_iadd C dX12_doesRun_144 ?_
          refine K_iald C (Nat.le_of_ble_eq_true rfl) (shM_1 G ad) dX12_doesRun_145 ?_
          refine K_iload C 7 rfl dX12_doesRun_146 ?_
          refine K_icmp_lt C (tgt := 155) (by decide) dX12_doesRun_148 ?_ ?_
          · refine K_iinc C (k := 9) (lv1 := fun x8_13 => [(8, .int x8_13), (7, .int x9_11), (9, .int x9_11), (0, .ref (kad (wM G ad) 0)), (1, .int x1), (2, .int x2), (3, .int x3), (4, .int x4), (5, .int x5), (6, .int x6)]) rfl (by decide) (fun _ => rfl) dX12_doesRun_155 (fun x8_13 => ?_)
            refine K_goto C (tgt := 86) (by decide) dX12_doesRun_158 ?_
            refine K_sub [3, 4, 5, 6, 7, 8, 9, 1, 0] rfl ?_
            exact ih f x1 x2 x3 x4 x5 x6 x9_11 x8_13
          · refine K_iload C 1 rfl dX12_doesRun_151 ?_
            refine K_istore C (lv1 := [(6, .int x9_11), (7, .int x9_11), (9, .int x9_11), (0, .ref (kad (wM G ad) 0)), (1, .int x1), (2, .int x2), (3, .int x3), (4, .int x4), (5, .int x5), (8, .int x8)]) (by decide) rfl dX12_doesRun_153 ?_
            refine K_iinc C (k := 9) (lv1 := fun x8_14 => [(8, .int x8_14), (6, .int x9_11), (7, .int x9_11), (9, .int x9_11), (0, .ref (kad (wM G ad) 0)), (1, .int x1), (2, .int x2), (3, .int x3), (4, .int x4), (5, .int x5)]) rfl (by decide) (fun _ => rfl) dX12_doesRun_155 (fun x8_14 => ?_)
            refine K_goto C (tgt := 86) (by decide) dX12_doesRun_158 ?_
            refine K_sub [4, 5, 6, 7, 8, 9, 1, 2, 0] rfl ?_
            exact ih f x1 x2 x3 x4 x5 x9_11 x9_11 x8_14
      · refine K_goto C (tgt := 155) (by decide) dX12_doesRun_111 ?_
        refine K_iinc C (k := 9) (lv1 := fun x8_15 => [(8, .int x8_15), (9, .int x9_11), (0, .ref (kad (wM G ad) 0)), (1, .int x1), (2, .int x2), (3, .int x3), (4, .int x4), (5, .int x5), (6, .int x6), (7, .int x7)]) rfl (by decide) (fun _ => rfl) dX12_doesRun_155 (fun x8_15 => ?_)
        refine K_goto C (tgt := 86) (by decide) dX12_doesRun_158 ?_
        refine K_sub [2, 3, 4, 5, 6, 7, 8, 9, 0] rfl ?_
        exact ih f x1 x2 x3 x4 x5 x6 x7 x8_15
set_option maxRecDepth 100000 in
set_option maxHeartbeats 4000000 in
theorem kcl_X12_doesRun_336 {p : Program} {l : Launch} {e : Env} {R : Room} {s : State} {m : MethodId} {args : Array Value} {below : List Frame} {meth : Method} {c : Code} {G : kG} {ad : Nat → Nat} {z : Int32 × kMem} (C : KC p l e R s m args below meth c (wM G ad) RX12 cX12_doesRun 13 (some .boolean) 3 0 0) (Y499 : kMem → Int32 → Option (Int32 × kMem)) (hY499 : ∀ (f : kMem) (x4 : Int32), K p l e R s m args below meth c (wM G ad) 13 (kQF below (wM G ad) (some .boolean) args s z) z 0 0 f 499 [(0, .ref (kad (wM G ad) 0)), (4, .int x4)] [] (Y499 f x4)) : ∀ (n : Nat) (f : kMem) (x1 x2 x3 x4 x9 : Int32), K p l e R s m args below meth c (wM G ad) 13 (kQF below (wM G ad) (some .boolean) args s z) z 0 0 f 336 [(0, .ref (kad (wM G ad) 0)), (1, .int x1), (2, .int x2), (3, .int x3), (4, .int x4), (9, .int x9)] [] (cl_X12_doesRun_336 Y499 n f x1 x2 x3 x4 x9) := by
  intro n
  induction n with
  | zero => intro f x1 x2 x3 x4 x9; exact K_none
  | succ n ih =>
    intro f x1 x2 x3 x4 x9
    unfold cl_X12_doesRun_336
    refine K_iload C 5 rfl dX12_doesRun_336 ?_
    refine K_aload_n C 0 rfl rfl dX12_doesRun_338 ?_
    refine K_iload_n C 3 rfl rfl dX12_doesRun_339 ?_
    refine K_iconst C (v := 2) (by decide) dX12_doesRun_340 ?_
    refine K_callVi C (As := [.int x3, .int 2]) (rest := [.int x9]) (Nat.le_of_ble_eq_true rfl) (shM_0 G ad) rfl hy_X12_of wm_X12_111 (by decide) ⟨Nat.le_refl _, Nat.le_refl _⟩ (fun rr ff hh => km_X12_of l G ad f x3 2 rr ff hh) rfl rfl (Nat.le_of_ble_eq_true rfl) rfl dX12_doesRun_341 (fun r33 g34 => ?_)
    refine K_icmp_ge C (tgt := 499) (by decide) dX12_doesRun_344 ?_ ?_
    · refine K_sub [0, 4] rfl ?_
      exact hY499 g34 x4
    · refine K_aload_n C 0 rfl rfl dX12_doesRun_347 ?_
      refine K_iload_n C 3 rfl rfl dX12_doesRun_348 ?_
      refine K_iconst C (v := 3) (by decide) dX12_doesRun_349 ?_
      refine K_iload C 5 rfl dX12_doesRun_350 ?_
      refine K_iadd C dX12_doesRun_352 ?_
      refine K_callVi C (As := [.int x3, .int (3 + x9)]) (rest := []) (Nat.le_of_ble_eq_true rfl) (shM_0 G ad) rfl hy_X12_of wm_X12_111 (by decide) ⟨Nat.le_refl _, Nat.le_refl _⟩ (fun rr ff hh => km_X12_of l G ad g34 x3 (3 + x9) rr ff hh) rfl rfl (Nat.le_of_ble_eq_true rfl) rfl dX12_doesRun_353 (fun r35 g36 => ?_)
      refine K_istore C (lv1 := [(10, .int r35), (0, .ref (kad (wM G ad) 0)), (1, .int x1), (2, .int x2), (3, .int x3), (4, .int x4), (9, .int x9)]) (by decide) rfl dX12_doesRun_356 ?_
      refine K_aload_n C 1 rfl rfl dX12_doesRun_358 ?_
      refine K_iload_n C 4 rfl rfl dX12_doesRun_359 ?_
      refine K_bipush C (v := 6) (by decide) dX12_doesRun_360 ?_
      refine K_iload C 6 rfl dX12_doesRun_362 ?_
      refine K_iadd C dX12_doesRun_364 ?_
      refine K_callVi C (As := [.int x3, .int (6 + x9)]) (rest := []) (Nat.le_of_ble_eq_true rfl) (shM_0 G ad) rfl hy_X12_of wm_X12_111 (by decide) ⟨Nat.le_refl _, Nat.le_refl _⟩ (fun rr ff hh => km_X12_of l G ad g36 x3 (6 + x9) rr ff hh) rfl rfl (Nat.le_of_ble_eq_true rfl) rfl dX12_doesRun_365 (fun r37 g38 => ?_)
      refine K_istore C (lv1 := [(11, .int r37), (10, .int r35), (0, .ref (kad (wM G ad) 0)), (1, .int x1), (2, .int x2), (3, .int x3), (4, .int x4), (9, .int x9)]) (by decide) rfl dX12_doesRun_368 ?_
      refine K_iload C 1 rfl dX12_doesRun_370 ?_
      refine K_iload_n C 3 rfl rfl dX12_doesRun_372 ?_
      refine K_callSi C (As := [.int r35, .int x1]) (rest := []) hy_X12_place wm_X12_68 (by decide) ⟨Nat.le_refl _, Nat.le_refl _⟩ (fun rr ff hh => km_X12_place l G ad g38 r35 x1 rr ff hh) rfl rfl (Nat.le_of_ble_eq_true rfl) rfl dX12_doesRun_373 (fun r39 g40 => ?_)
      refine K_istore C (lv1 := [(12, .int r39), (11, .int r37), (10, .int r35), (0, .ref (kad (wM G ad) 0)), (1, .int x1), (2, .int x2), (3, .int x3), (4, .int x4), (9, .int x9)]) (by decide) rfl dX12_doesRun_376 ?_
      refine K_aload_n C 3 rfl rfl dX12_doesRun_378 ?_
      refine K_getR C kin_X12 rfl (Nat.le_of_ble_eq_true rfl) (shM_0 G ad) 0 (by decide) (b := 1) rfl wf_X12_9 rfl dX12_doesRun_379 ?_
      refine K_bipush C (v := 30) (by decide) dX12_doesRun_382 ?_
      refine K_iload C 2 rfl dX12_doesRun_384 ?_
      refine K_iadd C dX12_doesRun_386 ?_
      refine K_dup2 C rfl rfl dX12_doesRun_387 ?_
      refine K_iald C (Nat.le_of_ble_eq_true rfl) (shM_1 G ad) dX12_doesRun_388 ?_
      refine K_iload C 1 rfl dX12_doesRun_389 ?_
      refine K_iload C 7 rfl dX12_doesRun_391 ?_
      refine K_iload_n C 5 rfl rfl dX12_doesRun_393 ?_
      refine K_iadd C dX12_doesRun_394 ?_
      refine K_imul C dX12_doesRun_395 ?_
      refine K_iadd C dX12_doesRun_396 ?_
      refine K_iast C (Nat.le_of_ble_eq_true rfl) (shM_1 G ad) dX12_doesRun_397 (fun g41 => ?_)
      refine K_aload_n C 3 rfl rfl dX12_doesRun_398 ?_
      refine K_getR C kin_X12 rfl (Nat.le_of_ble_eq_true rfl) (shM_0 G ad) 0 (by decide) (b := 1) rfl wf_X12_9 rfl dX12_doesRun_399 ?_
      refine K_bipush C (v := 38) (by decide) dX12_doesRun_402 ?_
      refine K_iload C 2 rfl dX12_doesRun_404 ?_
      refine K_iadd C dX12_doesRun_406 ?_
      refine K_dup2 C rfl rfl dX12_doesRun_407 ?_
      refine K_iald C (Nat.le_of_ble_eq_true rfl) (shM_1 G ad) dX12_doesRun_408 ?_
      refine K_iload C 1 rfl dX12_doesRun_409 ?_
      refine K_iload C 7 rfl dX12_doesRun_411 ?_
      refine K_imul C dX12_doesRun_413 ?_
      refine K_iadd C dX12_doesRun_414 ?_
      refine K_iast C (Nat.le_of_ble_eq_true rfl) (shM_1 G ad) dX12_doesRun_415 (fun g42 => ?_)
      refine K_aload_n C 3 rfl rfl dX12_doesRun_416 ?_
      refine K_getR C kin_X12 rfl (Nat.le_of_ble_eq_true rfl) (shM_0 G ad) 0 (by decide) (b := 1) rfl wf_X12_9 rfl dX12_doesRun_417 ?_
      refine K_sipush C (v := 157) (by decide) dX12_doesRun_420 ?_
      refine K_iload C 0 rfl dX12_doesRun_423 ?_
      refine K_iadd C dX12_doesRun_425 ?_
      refine K_dup2 C rfl rfl dX12_doesRun_426 ?_
      refine K_iald C (Nat.le_of_ble_eq_true rfl) (shM_1 G ad) dX12_doesRun_427 ?_
      refine K_iload C 1 rfl dX12_doesRun_428 ?_
      refine K_iload_n C 5 rfl rfl dX12_doesRun_430 ?_
      refine K_imul C dX12_doesRun_431 ?_
      refine K_iadd C dX12_doesRun_432 ?_
      refine K_iast C (Nat.le_of_ble_eq_true rfl) (shM_1 G ad) dX12_doesRun_433 (fun g43 => ?_)
      refine K_aload_n C 3 rfl rfl dX12_doesRun_434 ?_
      refine K_getR C kin_X12 rfl (Nat.le_of_ble_eq_true rfl) (shM_0 G ad) 0 (by decide) (b := 1) rfl wf_X12_9 rfl dX12_doesRun_435 ?_
      refine K_bipush C (v := 109) (by decide) dX12_doesRun_438 ?_
      refine K_iload C 0 rfl dX12_doesRun_440 ?_
      refine K_iadd C dX12_doesRun_442 ?_
      refine K_dup2 C rfl rfl dX12_doesRun_443 ?_
      refine K_iald C (Nat.le_of_ble_eq_true rfl) (shM_1 G ad) dX12_doesRun_444 ?_
      refine K_aload_n C 3 rfl rfl dX12_doesRun_445 ?_
      refine K_getR C kin_X12 rfl (Nat.le_of_ble_eq_true rfl) (shM_0 G ad) 0 (by decide) (b := 1) rfl wf_X12_9 rfl dX12_doesRun_446 ?_
      refine K_sipush C (v := 157) (by decide) dX12_doesRun_449 ?_
      refine K_iload C 0 rfl dX12_doesRun_452 ?_
      refine K_iadd C dX12_doesRun_454 ?_
      refine K_iald C (Nat.le_of_ble_eq_true rfl) (shM_1 G ad) dX12_doesRun_455 ?_
      refine K_aload_n C 3 rfl rfl dX12_doesRun_456 ?_
      refine K_getR C kin_X12 rfl (Nat.le_of_ble_eq_true rfl) (shM_0 G ad) 0 (by decide) (b := 1) rfl wf_X12_9 rfl dX12_doesRun_457 ?_
      refine K_bipush C (v := 22) (by decide) dX12_doesRun_460 ?_
      refine K_iload C 2 rfl dX12_doesRun_462 ?_
      refine K_iadd C dX12_doesRun_464 ?_
      refine K_iald C (Nat.le_of_ble_eq_true rfl) (shM_1 G ad) dX12_doesRun_465 ?_
      refine K_idiv C dX12_doesRun_466 ?_
      refine K_iadd C dX12_doesRun_467 ?_
      refine K_iast C (Nat.le_of_ble_eq_true rfl) (shM_1 G ad) dX12_doesRun_468 (fun g44 => ?_)
      refine K_aload_n C 3 rfl rfl dX12_doesRun_469 ?_
      refine K_getR C kin_X12 rfl (Nat.le_of_ble_eq_true rfl) (shM_0 G ad) 0 (by decide) (b := 1) rfl wf_X12_9 rfl dX12_doesRun_470 ?_
      refine K_sipush C (v := 157) (by decide) dX12_doesRun_473 ?_
      refine K_iload C 0 rfl dX12_doesRun_476 ?_
      refine K_iadd C dX12_doesRun_478 ?_
      refine K_dup2 C rfl rfl dX12_doesRun_479 ?_
      refine K_iald C (Nat.le_of_ble_eq_true rfl) (shM_1 G ad) dX12_doesRun_480 ?_
      refine K_aload_n C 3 rfl rfl dX12_doesRun_481 ?_
      refine K_getR C kin_X12 rfl (Nat.le_of_ble_eq_true rfl) (shM_0 G ad) 0 (by decide) (b := 1) rfl wf_X12_9 rfl dX12_doesRun_482 ?_
      refine K_bipush C (v := 22) (by decide) dX12_doesRun_485 ?_
      refine K_iload C 2 rfl dX12_doesRun_487 ?_
      refine K_iadd C dX12_doesRun_489 ?_
      refine K_iald C (Nat.le_of_ble_eq_true rfl) (shM_1 G ad) dX12_doesRun_490 ?_
      refine K_irem C dX12_doesRun_491 ?_
      refine K_iast C (Nat.le_of_ble_eq_true rfl) (shM_1 G ad) dX12_doesRun_492 (fun g45 => ?_)
      refine K_iinc C (k := 8) (lv1 := fun x9_46 => [(9, .int x9_46), (12, .int r39), (11, .int r37), (10, .int r35), (0, .ref (kad (wM G ad) 0)), (1, .int x1), (2, .int x2), (3, .int x3), (4, .int x4)]) rfl (by decide) (fun _ => rfl) dX12_doesRun_493 (fun x9_46 => ?_)
      refine K_goto C (tgt := 336) (by decide) dX12_doesRun_496 ?_
      refine K_sub [4, 5, 6, 7, 8, 0] rfl ?_
      exact ih g45 x1 x2 x3 x4 x9_46
set_option maxRecDepth 100000 in
set_option maxHeartbeats 4000000 in
theorem kcj_X12_doesRun_271 {p : Program} {l : Launch} {e : Env} {R : Room} {s : State} {m : MethodId} {args : Array Value} {below : List Frame} {meth : Method} {c : Code} {G : kG} {ad : Nat → Nat} {z : Int32 × kMem} (C : KC p l e R s m args below meth c (wM G ad) RX12 cX12_doesRun 13 (some .boolean) 3 0 0)  (f : kMem) (x1 x2 x3 x4 x5 : Int32) : K p l e R s m args below meth c (wM G ad) 13 (kQF below (wM G ad) (some .boolean) args s z) z 0 0 f 271 [(0, .ref (kad (wM G ad) 0)), (1, .int x1), (2, .int x2), (3, .int x3), (4, .int x4), (5, .int x5)] [] (cj_X12_doesRun_271 f x1 x2 x3 x4 x5) := by
  unfold cj_X12_doesRun_271
  refine K_aload_n C 0 rfl rfl dX12_doesRun_271 ?_
  refine K_getR C kin_X12 rfl (Nat.le_of_ble_eq_true rfl) (shM_0 G ad) 0 (by decide) (b := 1) rfl wf_X12_9 rfl dX12_doesRun_272 ?_
  refine K_bipush C (v := 9) (by decide) dX12_doesRun_275 ?_
  refine K_dup2 C rfl rfl dX12_doesRun_277 ?_
  refine K_ialdC C (Nat.le_of_ble_eq_true rfl) (shM_1 G ad) (kin_in (by decide)) dX12_doesRun_278 9 (by decide) ?_
  refine K_iload C 5 rfl dX12_doesRun_279 ?_
  refine K_iadd C dX12_doesRun_281 ?_
  refine K_iastC C (Nat.le_of_ble_eq_true rfl) (shM_1 G ad) (kin_in (by decide)) dX12_doesRun_282 9 (by decide) (fun g25 => ?_)
  refine K_aload_n C 0 rfl rfl dX12_doesRun_283 ?_
  refine K_getR C kin_X12 rfl (Nat.le_of_ble_eq_true rfl) (shM_0 G ad) 0 (by decide) (b := 1) rfl wf_X12_9 rfl dX12_doesRun_284 ?_
  refine K_bipush C (v := 10) (by decide) dX12_doesRun_287 ?_
  refine K_dup2 C rfl rfl dX12_doesRun_289 ?_
  refine K_ialdC C (Nat.le_of_ble_eq_true rfl) (shM_1 G ad) (kin_in (by decide)) dX12_doesRun_290 10 (by decide) ?_
  refine K_iload C 4 rfl dX12_doesRun_291 ?_
  refine K_iload_n C 2 rfl rfl dX12_doesRun_293 ?_
  refine K_iadd C dX12_doesRun_294 ?_
  refine K_iadd C dX12_doesRun_295 ?_
  refine K_iastC C (Nat.le_of_ble_eq_true rfl) (shM_1 G ad) (kin_in (by decide)) dX12_doesRun_296 10 (by decide) (fun g26 => ?_)
  refine K_aload_n C 0 rfl rfl dX12_doesRun_297 ?_
  refine K_getR C kin_X12 rfl (Nat.le_of_ble_eq_true rfl) (shM_0 G ad) 0 (by decide) (b := 1) rfl wf_X12_9 rfl dX12_doesRun_298 ?_
  refine K_bipush C (v := 11) (by decide) dX12_doesRun_301 ?_
  refine K_dup2 C rfl rfl dX12_doesRun_303 ?_
  refine K_ialdC C (Nat.le_of_ble_eq_true rfl) (shM_1 G ad) (kin_in (by decide)) dX12_doesRun_304 11 (by decide) ?_
  refine K_iload C 4 rfl dX12_doesRun_305 ?_
  refine K_iadd C dX12_doesRun_307 ?_
  refine K_iastC C (Nat.le_of_ble_eq_true rfl) (shM_1 G ad) (kin_in (by decide)) dX12_doesRun_308 11 (by decide) (fun g27 => ?_)
  refine K_aload_n C 0 rfl rfl dX12_doesRun_309 ?_
  refine K_getR C kin_X12 rfl (Nat.le_of_ble_eq_true rfl) (shM_0 G ad) 0 (by decide) (b := 1) rfl wf_X12_9 rfl dX12_doesRun_310 ?_
  refine K_iconst C (v := 5) (by decide) dX12_doesRun_313 ?_
  refine K_iload_n C 1 rfl rfl dX12_doesRun_314 ?_
  refine K_iastC C (Nat.le_of_ble_eq_true rfl) (shM_1 G ad) (kin_in (by decide)) dX12_doesRun_315 5 (by decide) (fun g28 => ?_)
  refine K_aload_n C 0 rfl rfl dX12_doesRun_316 ?_
  refine K_aload_n C 0 rfl rfl dX12_doesRun_317 ?_
  refine K_iload_n C 3 rfl rfl dX12_doesRun_318 ?_
  refine K_iconst C (v := 0) (by decide) dX12_doesRun_319 ?_
  refine K_callVi C (As := [.int x3, .int 0]) (rest := [.ref (kad (wM G ad) 0)]) (Nat.le_of_ble_eq_true rfl) (shM_0 G ad) rfl hy_X12_of wm_X12_111 (by decide) ⟨Nat.le_refl _, Nat.le_refl _⟩ (fun rr ff hh => km_X12_of l G ad g28 x3 0 rr ff hh) rfl rfl (Nat.le_of_ble_eq_true rfl) rfl dX12_doesRun_320 (fun r29 g30 => ?_)
  refine K_iload C 4 rfl dX12_doesRun_323 ?_
  refine K_iload_n C 2 rfl rfl dX12_doesRun_325 ?_
  refine K_iadd C dX12_doesRun_326 ?_
  refine K_imul C dX12_doesRun_327 ?_
  refine K_callVi C (As := [.int (r29 * (x4 + x2))]) (rest := []) (Nat.le_of_ble_eq_true rfl) (shM_0 G ad) rfl hy_X12_passes wm_X12_89 (by decide) ⟨Nat.le_refl _, Nat.le_refl _⟩ (fun rr ff hh => km_X12_passes l G ad g30 (r29 * (x4 + x2)) rr ff hh) rfl rfl (Nat.le_of_ble_eq_true rfl) rfl dX12_doesRun_328 (fun r31 g32 => ?_)
  refine K_istore C (lv1 := [(8, .int r31), (0, .ref (kad (wM G ad) 0)), (1, .int x1), (2, .int x2), (3, .int x3), (4, .int x4), (5, .int x5)]) (by decide) rfl dX12_doesRun_331 ?_
  refine K_iconst C (v := 0) (by decide) dX12_doesRun_333 ?_
  refine K_istore C (lv1 := [(9, .int 0), (8, .int r31), (0, .ref (kad (wM G ad) 0)), (1, .int x1), (2, .int x2), (3, .int x3), (4, .int x4), (5, .int x5)]) (by decide) rfl dX12_doesRun_334 ?_
  refine K_sub [2, 3, 4, 5, 6, 0] rfl ?_
  refine kcl_X12_doesRun_336 C _ (fun g48 x4_47 => ?_) 100 g32 x1 x2 x3 x4 0
  refine K_aload_n C 0 rfl rfl dX12_doesRun_499 ?_
  refine K_iload C 1 rfl dX12_doesRun_500 ?_
  refine K_callVi C (As := [.int x4_47]) (rest := []) (Nat.le_of_ble_eq_true rfl) (shM_0 G ad) rfl hy_X12_is wm_X12_79 (by decide) ⟨Nat.le_refl _, Nat.le_refl _⟩ (fun rr ff hh => km_X12_is l G ad g48 x4_47 rr ff hh) rfl rfl (Nat.le_of_ble_eq_true rfl) rfl dX12_doesRun_502 (fun r49 g50 => ?_)
  exact K_bret C rfl dX12_doesRun_505
set_option maxRecDepth 100000 in
set_option maxHeartbeats 4000000 in
theorem km_X12_doesRun (l : Launch) (G : kG) (ad : Nat → Nat) (f : kMem) (x1 x2 : Int32) (r : Int32) (fo : kMem) (h : cf_X12_doesRun f x1 x2 = some (r, fo)) : kMet l (wM G ad) yX12_doesRun cX12_doesRun 13 (some .boolean) 3 [.ref (kad (wM G ad) 0), .int x1, .int x2] f r fo := by
  refine kMet_of (own := RX12) (lv := [(0, .ref (kad (wM G ad) 0)), (1, .int x1), (2, .int x2)]) (by decide) rfl (Nat.le_of_ble_eq_true rfl) rfl h ?_
  intro p e R s m args below meth c C
  unfold cf_X12_doesRun
  refine K_aload_n C 0 rfl rfl dX12_doesRun_0 ?_
  refine K_iload_n C 1 rfl rfl dX12_doesRun_1 ?_
  refine K_callVi C (As := [.int x1]) (rest := []) (Nat.le_of_ble_eq_true rfl) (shM_0 G ad) rfl hy_X12_isColour wm_X12_95 (by decide) ⟨Nat.le_refl _, Nat.le_refl _⟩ (fun rr ff hh => km_X12_isColour l G ad f x1 rr ff hh) rfl rfl (Nat.le_of_ble_eq_true rfl) rfl dX12_doesRun_2 (fun r1 g2 => ?_)
  refine K_if_ne C (tgt := 15) (by decide) dX12_doesRun_5 ?_ ?_
  · refine K_iload_n C 2 rfl rfl dX12_doesRun_15 ?_
    refine K_iconst C (v := 1) (by decide) dX12_doesRun_16 ?_
    refine K_sipush C (v := 200) (by decide) dX12_doesRun_17 ?_
    refine K_callSi C (As := [.int x2, .int 1, .int 200]) (rest := []) hy_X12_in wm_X12_64 (by decide) ⟨Nat.le_refl _, Nat.le_refl _⟩ (fun rr ff hh => km_X12_in l G ad g2 x2 1 200 rr ff hh) rfl rfl (Nat.le_of_ble_eq_true rfl) rfl dX12_doesRun_20 (fun r3 g4 => ?_)
    refine K_if_ne C (tgt := 33) (by decide) dX12_doesRun_23 ?_ ?_
    · refine K_aload_n C 0 rfl rfl dX12_doesRun_33 ?_
      refine K_getR C kin_X12 rfl (Nat.le_of_ble_eq_true rfl) (shM_0 G ad) 0 (by decide) (b := 1) rfl wf_X12_9 rfl dX12_doesRun_34 ?_
      refine K_iconst C (v := 4) (by decide) dX12_doesRun_37 ?_
      refine K_ialdC C (Nat.le_of_ble_eq_true rfl) (shM_1 G ad) (kin_in (by decide)) dX12_doesRun_38 4 (by decide) ?_
      refine K_let rfl (fun x3_5 => ?_)
      refine K_istore_n C (lv1 := [(3, .int x3_5), (0, .ref (kad (wM G ad) 0)), (1, .int x1), (2, .int x2)]) rfl (by decide) rfl dX12_doesRun_39 ?_
      refine K_iload_n C 0 rfl rfl dX12_doesRun_40 ?_
      refine K_if_ge C (tgt := 51) (by decide) dX12_doesRun_41 ?_ ?_
      · refine K_aload_n C 1 rfl rfl dX12_doesRun_51 ?_
        refine K_aload_n C 1 rfl rfl dX12_doesRun_52 ?_
        refine K_getR C kin_X12 rfl (Nat.le_of_ble_eq_true rfl) (shM_0 G ad) 0 (by decide) (b := 1) rfl wf_X12_9 rfl dX12_doesRun_53 ?_
        refine K_iconst C (v := 5) (by decide) dX12_doesRun_56 ?_
        refine K_ialdC C (Nat.le_of_ble_eq_true rfl) (shM_1 G ad) (kin_in (by decide)) dX12_doesRun_57 5 (by decide) ?_
        refine K_iload_n C 2 rfl rfl dX12_doesRun_58 ?_
        refine K_callVi C (As := [.int (g4 1 5), .int x1]) (rest := []) (Nat.le_of_ble_eq_true rfl) (shM_0 G ad) rfl hy_X12_purgeOf wm_X12_108 (by decide) ⟨Nat.le_refl _, Nat.le_refl _⟩ (fun rr ff hh => km_X12_purgeOf l G ad g4 (g4 1 5) x1 rr ff hh) rfl rfl (Nat.le_of_ble_eq_true rfl) rfl dX12_doesRun_59 (fun r6 g7 => ?_)
        refine K_istore C (lv1 := [(4, .int r6), (3, .int x3_5), (0, .ref (kad (wM G ad) 0)), (1, .int x1), (2, .int x2)]) (by decide) rfl dX12_doesRun_62 ?_
        refine K_aload_n C 2 rfl rfl dX12_doesRun_64 ?_
        refine K_iload_n C 1 rfl rfl dX12_doesRun_65 ?_
        refine K_iconst C (v := 1) (by decide) dX12_doesRun_66 ?_
        refine K_callVi C (As := [.int x3_5, .int 1]) (rest := []) (Nat.le_of_ble_eq_true rfl) (shM_0 G ad) rfl hy_X12_of wm_X12_111 (by decide) ⟨Nat.le_refl _, Nat.le_refl _⟩ (fun rr ff hh => km_X12_of l G ad g7 x3_5 1 rr ff hh) rfl rfl (Nat.le_of_ble_eq_true rfl) rfl dX12_doesRun_67 (fun r8 g9 => ?_)
        refine K_iload C 0 rfl dX12_doesRun_70 ?_
        refine K_iload_n C 4 rfl rfl dX12_doesRun_72 ?_
        refine K_iadd C dX12_doesRun_73 ?_
        refine K_imul C dX12_doesRun_74 ?_
        refine K_let rfl (fun x5_10 => ?_)
        refine K_istore C (lv1 := [(5, .int x5_10), (4, .int r6), (3, .int x3_5), (0, .ref (kad (wM G ad) 0)), (1, .int x1), (2, .int x2)]) (by decide) rfl dX12_doesRun_75 ?_
        refine K_iconst C (v := (-1)) (by decide) dX12_doesRun_77 ?_
        refine K_istore C (lv1 := [(6, .int (-1)), (5, .int x5_10), (4, .int r6), (3, .int x3_5), (0, .ref (kad (wM G ad) 0)), (1, .int x1), (2, .int x2)]) (by decide) rfl dX12_doesRun_78 ?_
        refine K_iconst C (v := (-1)) (by decide) dX12_doesRun_80 ?_
        refine K_istore C (lv1 := [(7, .int (-1)), (6, .int (-1)), (5, .int x5_10), (4, .int r6), (3, .int x3_5), (0, .ref (kad (wM G ad) 0)), (1, .int x1), (2, .int x2)]) (by decide) rfl dX12_doesRun_81 ?_
        refine K_iconst C (v := 2) (by decide) dX12_doesRun_83 ?_
        refine K_istore C (lv1 := [(8, .int 2), (7, .int (-1)), (6, .int (-1)), (5, .int x5_10), (4, .int r6), (3, .int x3_5), (0, .ref (kad (wM G ad) 0)), (1, .int x1), (2, .int x2)]) (by decide) rfl dX12_doesRun_84 ?_
        refine K_sub [6, 7, 8, 5, 4, 3, 2, 1, 0] rfl ?_
        refine kcl_X12_doesRun_86 C _ (fun g23 x1_16 x2_17 x3_18 x4_19 x5_20 x6_21 x7_22 => ?_) 100 g9 x1 x2 x3_5 r6 x5_10 (-1) (-1) 2
        refine K_iload C 6 rfl dX12_doesRun_161 ?_
        refine K_if_ge C (tgt := 239) (by decide) dX12_doesRun_163 ?_ ?_
        · refine K_aload_n C 0 rfl rfl dX12_doesRun_239 ?_
          refine K_getR C kin_X12 rfl (Nat.le_of_ble_eq_true rfl) (shM_0 G ad) 0 (by decide) (b := 1) rfl wf_X12_9 rfl dX12_doesRun_240 ?_
          refine K_iload C 6 rfl dX12_doesRun_243 ?_
          refine K_iconst C (v := 1) (by decide) dX12_doesRun_245 ?_
          refine K_iadd C dX12_doesRun_246 ?_
          refine K_dup2 C rfl rfl dX12_doesRun_247 ?_
          refine K_iald C (Nat.le_of_ble_eq_true rfl) (shM_1 G ad) dX12_doesRun_248 ?_
          refine K_iload C 5 rfl dX12_doesRun_249 ?_
          refine K_isub C dX12_doesRun_251 ?_
          refine K_iast C (Nat.le_of_ble_eq_true rfl) (shM_1 G ad) dX12_doesRun_252 (fun g24 => ?_)
          refine K_aload_n C 0 rfl rfl dX12_doesRun_253 ?_
          refine K_getR C kin_X12 rfl (Nat.le_of_ble_eq_true rfl) (shM_0 G ad) 0 (by decide) (b := 1) rfl wf_X12_9 rfl dX12_doesRun_254 ?_
          refine K_iload C 6 rfl dX12_doesRun_257 ?_
          refine K_iconst C (v := 1) (by decide) dX12_doesRun_259 ?_
          refine K_iadd C dX12_doesRun_260 ?_
          refine K_iald C (Nat.le_of_ble_eq_true rfl) (shM_1 G ad) dX12_doesRun_261 ?_
          refine K_if_ne C (tgt := 271) (by decide) dX12_doesRun_262 ?_ ?_
          · refine K_sub [0, 1, 2, 3, 4, 5] rfl ?_
            exact kcj_X12_doesRun_271 C g24 x1_16 x2_17 x3_18 x4_19 x5_20
          · refine K_aload_n C 0 rfl rfl dX12_doesRun_265 ?_
            refine K_iload C 6 rfl dX12_doesRun_266 ?_
            refine K_callVv C (As := [.int x6_21]) (rest := []) (Nat.le_of_ble_eq_true rfl) (shM_0 G ad) rfl hy_X12_becomesEmpty wm_X12_99 (by decide) ⟨Nat.le_refl _, Nat.le_refl _⟩ (fun rr ff hh => km_X12_becomesEmpty l G ad g24 x6_21 rr ff hh) rfl rfl (Nat.le_of_ble_eq_true rfl) rfl dX12_doesRun_268 (fun r51 g52 => ?_)
            refine K_sub [0, 1, 2, 3, 4, 5] rfl ?_
            exact kcj_X12_doesRun_271 C g52 x1_16 x2_17 x3_18 x4_19 x5_20
        · refine K_aload_n C 0 rfl rfl dX12_doesRun_166 ?_
          refine K_bipush C (v := 10) (by decide) dX12_doesRun_167 ?_
          refine K_iconst C (v := 0) (by decide) dX12_doesRun_169 ?_
          refine K_callVi C (As := [.int 10, .int 0]) (rest := []) (Nat.le_of_ble_eq_true rfl) (shM_0 G ad) rfl hy_X12_refuses wm_X12_75 (by decide) ⟨Nat.le_refl _, Nat.le_refl _⟩ (fun rr ff hh => km_X12_refuses l G ad g23 10 0 rr ff hh) rfl rfl (Nat.le_of_ble_eq_true rfl) rfl dX12_doesRun_170 (fun r53 g54 => ?_)
          refine K_istore C (lv1 := [(8, .int r53), (0, .ref (kad (wM G ad) 0)), (1, .int x1_16), (2, .int x2_17), (3, .int x3_18), (4, .int x4_19), (5, .int x5_20), (6, .int x6_21), (7, .int x7_22)]) (by decide) rfl dX12_doesRun_173 ?_
          refine K_iload C 8 rfl dX12_doesRun_175 ?_
          refine K_if_ge C (tgt := 183) (by decide) dX12_doesRun_177 ?_ ?_
          · refine K_aload_n C 1 rfl rfl dX12_doesRun_183 ?_
            refine K_getR C kin_X12 rfl (Nat.le_of_ble_eq_true rfl) (shM_0 G ad) 0 (by decide) (b := 1) rfl wf_X12_9 rfl dX12_doesRun_184 ?_
            refine K_bipush C (v := 13) (by decide) dX12_doesRun_187 ?_
            refine K_ialdC C (Nat.le_of_ble_eq_true rfl) (shM_1 G ad) (kin_in (by decide)) dX12_doesRun_189 13 (by decide) ?_
            refine K_aload_n C 1 rfl rfl dX12_doesRun_190 ?_
            refine K_getR C kin_X12 rfl (Nat.le_of_ble_eq_true rfl) (shM_0 G ad) 0 (by decide) (b := 1) rfl wf_X12_9 rfl dX12_doesRun_191 ?_
            refine K_iload C 8 rfl dX12_doesRun_194 ?_
            refine K_iconst C (v := 2) (by decide) dX12_doesRun_196 ?_
            refine K_iadd C dX12_doesRun_197 ?_
            refine K_iald C (Nat.le_of_ble_eq_true rfl) (shM_1 G ad) dX12_doesRun_198 ?_
            refine K_isub C dX12_doesRun_199 ?_
            refine K_let rfl (fun x9_55 => ?_)
            refine K_istore C (lv1 := [(9, .int x9_55), (8, .int r53), (0, .ref (kad (wM G ad) 0)), (1, .int x1_16), (2, .int x2_17), (3, .int x3_18), (4, .int x4_19), (5, .int x5_20), (6, .int x6_21), (7, .int x7_22)]) (by decide) rfl dX12_doesRun_200 ?_
            refine K_iload C 0 rfl dX12_doesRun_202 ?_
            refine K_if_le C (tgt := 218) (by decide) dX12_doesRun_204 ?_ ?_
            · refine K_aload_n C 2 rfl rfl dX12_doesRun_218 ?_
              refine K_bipush C (v := 12) (by decide) dX12_doesRun_219 ?_
              refine K_iload C 7 rfl dX12_doesRun_221 ?_
              refine K_aload_n C 2 rfl rfl dX12_doesRun_223 ?_
              refine K_getR C kin_X12 rfl (Nat.le_of_ble_eq_true rfl) (shM_0 G ad) 0 (by decide) (b := 1) rfl wf_X12_9 rfl dX12_doesRun_224 ?_
              refine K_iload C 9 rfl dX12_doesRun_227 ?_
              refine K_iconst C (v := 1) (by decide) dX12_doesRun_229 ?_
              refine K_iadd C dX12_doesRun_230 ?_
              refine K_iald C (Nat.le_of_ble_eq_true rfl) (shM_1 G ad) dX12_doesRun_231 ?_
              refine K_isub C dX12_doesRun_232 ?_
              refine K_callVv C (As := [.int 12, .int (x5_20 - (g54 1 (Int32.toNatClampNeg (x7_22 + 1))))]) (rest := []) (Nat.le_of_ble_eq_true rfl) (shM_0 G ad) rfl hy_X12_behind wm_X12_114 (by decide) ⟨Nat.le_refl _, Nat.le_refl _⟩ (fun rr ff hh => km_X12_behind l G ad g54 12 (x5_20 - (g54 1 (Int32.toNatClampNeg (x7_22 + 1)))) rr ff hh) rfl rfl (Nat.le_of_ble_eq_true rfl) rfl dX12_doesRun_233 (fun r56 g57 => ?_)
              refine K_iload C 1 rfl dX12_doesRun_236 ?_
              exact K_bret C rfl dX12_doesRun_238
            · refine K_aload_n C 2 rfl rfl dX12_doesRun_207 ?_
              refine K_bipush C (v := 11) (by decide) dX12_doesRun_208 ?_
              refine K_iload C 0 rfl dX12_doesRun_210 ?_
              refine K_callVv C (As := [.int 11, .int x9_55]) (rest := []) (Nat.le_of_ble_eq_true rfl) (shM_0 G ad) rfl hy_X12_behind wm_X12_114 (by decide) ⟨Nat.le_refl _, Nat.le_refl _⟩ (fun rr ff hh => km_X12_behind l G ad g54 11 x9_55 rr ff hh) rfl rfl (Nat.le_of_ble_eq_true rfl) rfl dX12_doesRun_212 (fun r58 g59 => ?_)
              refine K_goto C (tgt := 236) (by decide) dX12_doesRun_215 ?_
              refine K_iload C 1 rfl dX12_doesRun_236 ?_
              exact K_bret C rfl dX12_doesRun_238
          · refine K_iload C 0 rfl dX12_doesRun_180 ?_
            exact K_bret C rfl dX12_doesRun_182
      · refine K_aload_n C 1 rfl rfl dX12_doesRun_44 ?_
        refine K_iconst C (v := 5) (by decide) dX12_doesRun_45 ?_
        refine K_iconst C (v := 0) (by decide) dX12_doesRun_46 ?_
        refine K_callVi C (As := [.int 5, .int 0]) (rest := []) (Nat.le_of_ble_eq_true rfl) (shM_0 G ad) rfl hy_X12_refuses wm_X12_75 (by decide) ⟨Nat.le_refl _, Nat.le_refl _⟩ (fun rr ff hh => km_X12_refuses l G ad g4 5 0 rr ff hh) rfl rfl (Nat.le_of_ble_eq_true rfl) rfl dX12_doesRun_47 (fun r60 g61 => ?_)
        exact K_bret C rfl dX12_doesRun_50
    · refine K_aload_n C 0 rfl rfl dX12_doesRun_26 ?_
      refine K_iconst C (v := 2) (by decide) dX12_doesRun_27 ?_
      refine K_iconst C (v := 0) (by decide) dX12_doesRun_28 ?_
      refine K_callVi C (As := [.int 2, .int 0]) (rest := []) (Nat.le_of_ble_eq_true rfl) (shM_0 G ad) rfl hy_X12_refuses wm_X12_75 (by decide) ⟨Nat.le_refl _, Nat.le_refl _⟩ (fun rr ff hh => km_X12_refuses l G ad g4 2 0 rr ff hh) rfl rfl (Nat.le_of_ble_eq_true rfl) rfl dX12_doesRun_29 (fun r62 g63 => ?_)
      exact K_bret C rfl dX12_doesRun_32
  · refine K_aload_n C 0 rfl rfl dX12_doesRun_8 ?_
    refine K_iconst C (v := 1) (by decide) dX12_doesRun_9 ?_
    refine K_iconst C (v := 0) (by decide) dX12_doesRun_10 ?_
    refine K_callVi C (As := [.int 1, .int 0]) (rest := []) (Nat.le_of_ble_eq_true rfl) (shM_0 G ad) rfl hy_X12_refuses wm_X12_75 (by decide) ⟨Nat.le_refl _, Nat.le_refl _⟩ (fun rr ff hh => km_X12_refuses l G ad g2 1 0 rr ff hh) rfl rfl (Nat.le_of_ble_eq_true rfl) rfl dX12_doesRun_11 (fun r64 g65 => ?_)
    exact K_bret C rfl dX12_doesRun_14
def cj_X12_doesOrder_16 (f : kMem) : Option (Int32 × kMem) := kbind (cf_X12_refuses f 1 0) (fun r3 g4 => kchk (kbool r3) (some (r3, g4)))
def cj_X12_doesOrder_44 (f : kMem) : Option (Int32 × kMem) := kbind (cf_X12_refuses f 2 0) (fun r9 g10 => kchk (kbool r9) (some (r9, g10)))
def cf_X12_doesOrder (f : kMem) (x1 x2 x3 x4 : Int32) : Option (Int32 × kMem) := kbind (cf_X12_isPart f x1) (fun r1 g2 => keq r1 0 ((cj_X12_doesOrder_16 g2)) (kbind (cf_X12_isColour g2 x2) (fun r5 g6 => keq r5 0 ((cj_X12_doesOrder_16 g6)) (kbind (cf_X12_in g6 x3 1 20) (fun r7 g8 => keq r7 0 ((cj_X12_doesOrder_44 g8)) (kbind (cf_X12_in g8 x4 0 99) (fun r11 g12 => keq r11 0 ((cj_X12_doesOrder_44 g12)) (keq (g12 1 3) 10 (kbind (cf_X12_refuses g12 3 0) (fun r23 g24 => kchk (kbool r23) (some (r23, g24)))) (klet (253 + (6 * (g12 1 3))) (fun x5_13 => kchk (kin x5_13 313) (kmem (kup g12 1 (Int32.toNatClampNeg x5_13) x1) (fun g14 => kchk (kin (x5_13 + 1) 313) (kmem (kup g14 1 (Int32.toNatClampNeg (x5_13 + 1)) x2) (fun g15 => kchk (kin (x5_13 + 2) 313) (kmem (kup g15 1 (Int32.toNatClampNeg (x5_13 + 2)) x3) (fun g16 => kchk (kin (x5_13 + 3) 313) (kmem (kup g16 1 (Int32.toNatClampNeg (x5_13 + 3)) x4) (fun g17 => kchk (kin (x5_13 + 4) 313) (kmem (kup g17 1 (Int32.toNatClampNeg (x5_13 + 4)) 0) (fun g18 => kchk (kin (x5_13 + 5) 313) (kmem (kup g18 1 (Int32.toNatClampNeg (x5_13 + 5)) 0) (fun g19 => kmem (kup g19 1 3 ((g19 1 3) + 1)) (fun g20 => kbind (cf_X12_is g20 (g19 1 3)) (fun r21 g22 => kchk (kbool r21) (some (r21, g22))))))))))))))))))))))))))
set_option maxRecDepth 100000 in
set_option maxHeartbeats 4000000 in
theorem kcj_X12_doesOrder_16 {p : Program} {l : Launch} {e : Env} {R : Room} {s : State} {m : MethodId} {args : Array Value} {below : List Frame} {meth : Method} {c : Code} {G : kG} {ad : Nat → Nat} {z : Int32 × kMem} (C : KC p l e R s m args below meth c (wM G ad) RX12 cX12_doesOrder 6 (some .boolean) 2 0 0)  (f : kMem) : K p l e R s m args below meth c (wM G ad) 6 (kQF below (wM G ad) (some .boolean) args s z) z 0 0 f 16 [(0, .ref (kad (wM G ad) 0))] [] (cj_X12_doesOrder_16 f) := by
  unfold cj_X12_doesOrder_16
  refine K_aload_n C 0 rfl rfl dX12_doesOrder_16 ?_
  refine K_iconst C (v := 1) (by decide) dX12_doesOrder_17 ?_
  refine K_iconst C (v := 0) (by decide) dX12_doesOrder_18 ?_
  refine K_callVi C (As := [.int 1, .int 0]) (rest := []) (Nat.le_of_ble_eq_true rfl) (shM_0 G ad) rfl hy_X12_refuses wm_X12_75 (by decide) ⟨Nat.le_refl _, Nat.le_refl _⟩ (fun rr ff hh => km_X12_refuses l G ad f 1 0 rr ff hh) rfl rfl (Nat.le_of_ble_eq_true rfl) rfl dX12_doesOrder_19 (fun r3 g4 => ?_)
  exact K_bret C rfl dX12_doesOrder_22
set_option maxRecDepth 100000 in
set_option maxHeartbeats 4000000 in
theorem kcj_X12_doesOrder_44 {p : Program} {l : Launch} {e : Env} {R : Room} {s : State} {m : MethodId} {args : Array Value} {below : List Frame} {meth : Method} {c : Code} {G : kG} {ad : Nat → Nat} {z : Int32 × kMem} (C : KC p l e R s m args below meth c (wM G ad) RX12 cX12_doesOrder 6 (some .boolean) 2 0 0)  (f : kMem) : K p l e R s m args below meth c (wM G ad) 6 (kQF below (wM G ad) (some .boolean) args s z) z 0 0 f 44 [(0, .ref (kad (wM G ad) 0))] [] (cj_X12_doesOrder_44 f) := by
  unfold cj_X12_doesOrder_44
  refine K_aload_n C 0 rfl rfl dX12_doesOrder_44 ?_
  refine K_iconst C (v := 2) (by decide) dX12_doesOrder_45 ?_
  refine K_iconst C (v := 0) (by decide) dX12_doesOrder_46 ?_
  refine K_callVi C (As := [.int 2, .int 0]) (rest := []) (Nat.le_of_ble_eq_true rfl) (shM_0 G ad) rfl hy_X12_refuses wm_X12_75 (by decide) ⟨Nat.le_refl _, Nat.le_refl _⟩ (fun rr ff hh => km_X12_refuses l G ad f 2 0 rr ff hh) rfl rfl (Nat.le_of_ble_eq_true rfl) rfl dX12_doesOrder_47 (fun r9 g10 => ?_)
  exact K_bret C rfl dX12_doesOrder_50
set_option maxRecDepth 100000 in
set_option maxHeartbeats 4000000 in
theorem km_X12_doesOrder (l : Launch) (G : kG) (ad : Nat → Nat) (f : kMem) (x1 x2 x3 x4 : Int32) (r : Int32) (fo : kMem) (h : cf_X12_doesOrder f x1 x2 x3 x4 = some (r, fo)) : kMet l (wM G ad) yX12_doesOrder cX12_doesOrder 6 (some .boolean) 2 [.ref (kad (wM G ad) 0), .int x1, .int x2, .int x3, .int x4] f r fo := by
  refine kMet_of (own := RX12) (lv := [(0, .ref (kad (wM G ad) 0)), (1, .int x1), (2, .int x2), (3, .int x3), (4, .int x4)]) (by decide) rfl (Nat.le_of_ble_eq_true rfl) rfl h ?_
  intro p e R s m args below meth c C
  unfold cf_X12_doesOrder
  refine K_aload_n C 0 rfl rfl dX12_doesOrder_0 ?_
  refine K_iload_n C 1 rfl rfl dX12_doesOrder_1 ?_
  refine K_callVi C (As := [.int x1]) (rest := []) (Nat.le_of_ble_eq_true rfl) (shM_0 G ad) rfl hy_X12_isPart wm_X12_83 (by decide) ⟨Nat.le_refl _, Nat.le_refl _⟩ (fun rr ff hh => km_X12_isPart l G ad f x1 rr ff hh) rfl rfl (Nat.le_of_ble_eq_true rfl) rfl dX12_doesOrder_2 (fun r1 g2 => ?_)
  refine K_if_eq C (tgt := 16) (by decide) dX12_doesOrder_5 ?_ ?_
  · refine K_sub [0] rfl ?_
    exact kcj_X12_doesOrder_16 C g2
  · refine K_aload_n C 0 rfl rfl dX12_doesOrder_8 ?_
    refine K_iload_n C 2 rfl rfl dX12_doesOrder_9 ?_
    refine K_callVi C (As := [.int x2]) (rest := []) (Nat.le_of_ble_eq_true rfl) (shM_0 G ad) rfl hy_X12_isColour wm_X12_95 (by decide) ⟨Nat.le_refl _, Nat.le_refl _⟩ (fun rr ff hh => km_X12_isColour l G ad g2 x2 rr ff hh) rfl rfl (Nat.le_of_ble_eq_true rfl) rfl dX12_doesOrder_10 (fun r5 g6 => ?_)
    refine K_if_ne C (tgt := 23) (by decide) dX12_doesOrder_13 ?_ ?_
    · refine K_iload_n C 3 rfl rfl dX12_doesOrder_23 ?_
      refine K_iconst C (v := 1) (by decide) dX12_doesOrder_24 ?_
      refine K_bipush C (v := 20) (by decide) dX12_doesOrder_25 ?_
      refine K_callSi C (As := [.int x3, .int 1, .int 20]) (rest := []) hy_X12_in wm_X12_64 (by decide) ⟨Nat.le_refl _, Nat.le_refl _⟩ (fun rr ff hh => km_X12_in l G ad g6 x3 1 20 rr ff hh) rfl rfl (Nat.le_of_ble_eq_true rfl) rfl dX12_doesOrder_27 (fun r7 g8 => ?_)
      refine K_if_eq C (tgt := 44) (by decide) dX12_doesOrder_30 ?_ ?_
      · refine K_sub [0] rfl ?_
        exact kcj_X12_doesOrder_44 C g8
      · refine K_iload C 4 rfl dX12_doesOrder_33 ?_
        refine K_iconst C (v := 0) (by decide) dX12_doesOrder_35 ?_
        refine K_bipush C (v := 99) (by decide) dX12_doesOrder_36 ?_
        refine K_callSi C (As := [.int x4, .int 0, .int 99]) (rest := []) hy_X12_in wm_X12_64 (by decide) ⟨Nat.le_refl _, Nat.le_refl _⟩ (fun rr ff hh => km_X12_in l G ad g8 x4 0 99 rr ff hh) rfl rfl (Nat.le_of_ble_eq_true rfl) rfl dX12_doesOrder_38 (fun r11 g12 => ?_)
        refine K_if_ne C (tgt := 51) (by decide) dX12_doesOrder_41 ?_ ?_
        · refine K_aload_n C 0 rfl rfl dX12_doesOrder_51 ?_
          refine K_getR C kin_X12 rfl (Nat.le_of_ble_eq_true rfl) (shM_0 G ad) 0 (by decide) (b := 1) rfl wf_X12_9 rfl dX12_doesOrder_52 ?_
          refine K_iconst C (v := 3) (by decide) dX12_doesOrder_55 ?_
          refine K_ialdC C (Nat.le_of_ble_eq_true rfl) (shM_1 G ad) (kin_in (by decide)) dX12_doesOrder_56 3 (by decide) ?_
          refine K_bipush C (v := 10) (by decide) dX12_doesOrder_57 ?_
          refine K_icmp_ne C (tgt := 69) (by decide) dX12_doesOrder_59 ?_ ?_
          · refine K_sipush C (v := 253) (by decide) dX12_doesOrder_69 ?_
            refine K_bipush C (v := 6) (by decide) dX12_doesOrder_72 ?_
            refine K_aload_n C 0 rfl rfl dX12_doesOrder_74 ?_
            refine K_getR C kin_X12 rfl (Nat.le_of_ble_eq_true rfl) (shM_0 G ad) 0 (by decide) (b := 1) rfl wf_X12_9 rfl dX12_doesOrder_75 ?_
            refine K_iconst C (v := 3) (by decide) dX12_doesOrder_78 ?_
            refine K_ialdC C (Nat.le_of_ble_eq_true rfl) (shM_1 G ad) (kin_in (by decide)) dX12_doesOrder_79 3 (by decide) ?_
            refine K_imul C dX12_doesOrder_80 ?_
            refine K_iadd C dX12_doesOrder_81 ?_
            refine K_let rfl (fun x5_13 => ?_)
            refine K_istore C (lv1 := [(5, .int x5_13), (0, .ref (kad (wM G ad) 0)), (1, .int x1), (2, .int x2), (3, .int x3), (4, .int x4)]) (by decide) rfl dX12_doesOrder_82 ?_
            refine K_aload_n C 1 rfl rfl dX12_doesOrder_84 ?_
            refine K_getR C kin_X12 rfl (Nat.le_of_ble_eq_true rfl) (shM_0 G ad) 0 (by decide) (b := 1) rfl wf_X12_9 rfl dX12_doesOrder_85 ?_
            refine K_iload C 0 rfl dX12_doesOrder_88 ?_
            refine K_iload_n C 2 rfl rfl dX12_doesOrder_90 ?_
            refine K_iast C (Nat.le_of_ble_eq_true rfl) (shM_1 G ad) dX12_doesOrder_91 (fun g14 => ?_)
            refine K_aload_n C 1 rfl rfl dX12_doesOrder_92 ?_
            refine K_getR C kin_X12 rfl (Nat.le_of_ble_eq_true rfl) (shM_0 G ad) 0 (by decide) (b := 1) rfl wf_X12_9 rfl dX12_doesOrder_93 ?_
            refine K_iload C 0 rfl dX12_doesOrder_96 ?_
            refine K_iconst C (v := 1) (by decide) dX12_doesOrder_98 ?_
            refine K_iadd C dX12_doesOrder_99 ?_
            refine K_iload_n C 3 rfl rfl dX12_doesOrder_100 ?_
            refine K_iast C (Nat.le_of_ble_eq_true rfl) (shM_1 G ad) dX12_doesOrder_101 (fun g15 => ?_)
            refine K_aload_n C 1 rfl rfl dX12_doesOrder_102 ?_
            refine K_getR C kin_X12 rfl (Nat.le_of_ble_eq_true rfl) (shM_0 G ad) 0 (by decide) (b := 1) rfl wf_X12_9 rfl dX12_doesOrder_103 ?_
            refine K_iload C 0 rfl dX12_doesOrder_106 ?_
            refine K_iconst C (v := 2) (by decide) dX12_doesOrder_108 ?_
            refine K_iadd C dX12_doesOrder_109 ?_
            refine K_iload_n C 4 rfl rfl dX12_doesOrder_110 ?_
            refine K_iast C (Nat.le_of_ble_eq_true rfl) (shM_1 G ad) dX12_doesOrder_111 (fun g16 => ?_)
            refine K_aload_n C 1 rfl rfl dX12_doesOrder_112 ?_
            refine K_getR C kin_X12 rfl (Nat.le_of_ble_eq_true rfl) (shM_0 G ad) 0 (by decide) (b := 1) rfl wf_X12_9 rfl dX12_doesOrder_113 ?_
            refine K_iload C 0 rfl dX12_doesOrder_116 ?_
            refine K_iconst C (v := 3) (by decide) dX12_doesOrder_118 ?_
            refine K_iadd C dX12_doesOrder_119 ?_
            refine K_iload C 5 rfl dX12_doesOrder_120 ?_
            refine K_iast C (Nat.le_of_ble_eq_true rfl) (shM_1 G ad) dX12_doesOrder_122 (fun g17 => ?_)
            refine K_aload_n C 1 rfl rfl dX12_doesOrder_123 ?_
            refine K_getR C kin_X12 rfl (Nat.le_of_ble_eq_true rfl) (shM_0 G ad) 0 (by decide) (b := 1) rfl wf_X12_9 rfl dX12_doesOrder_124 ?_
            refine K_iload C 0 rfl dX12_doesOrder_127 ?_
            refine K_iconst C (v := 4) (by decide) dX12_doesOrder_129 ?_
            refine K_iadd C dX12_doesOrder_130 ?_
            refine K_iconst C (v := 0) (by decide) dX12_doesOrder_131 ?_
            refine K_iast C (Nat.le_of_ble_eq_true rfl) (shM_1 G ad) dX12_doesOrder_132 (fun g18 => ?_)
            refine K_aload_n C 1 rfl rfl dX12_doesOrder_133 ?_
            refine K_getR C kin_X12 rfl (Nat.le_of_ble_eq_true rfl) (shM_0 G ad) 0 (by decide) (b := 1) rfl wf_X12_9 rfl dX12_doesOrder_134 ?_
            refine K_iload C 0 rfl dX12_doesOrder_137 ?_
            refine K_iconst C (v := 5) (by decide) dX12_doesOrder_139 ?_
            refine K_iadd C dX12_doesOrder_140 ?_
            refine K_iconst C (v := 0) (by decide) dX12_doesOrder_141 ?_
            refine K_iast C (Nat.le_of_ble_eq_true rfl) (shM_1 G ad) dX12_doesOrder_142 (fun g19 => ?_)
            refine K_aload_n C 1 rfl rfl dX12_doesOrder_143 ?_
            refine K_aload_n C 1 rfl rfl dX12_doesOrder_144 ?_
            refine K_getR C kin_X12 rfl (Nat.le_of_ble_eq_true rfl) (shM_0 G ad) 0 (by decide) (b := 1) rfl wf_X12_9 rfl dX12_doesOrder_145 ?_
            refine K_iconst C (v := 3) (by decide) dX12_doesOrder_148 ?_
            refine K_dup2 C rfl rfl dX12_doesOrder_149 ?_
            refine K_ialdC C (Nat.le_of_ble_eq_true rfl) (shM_1 G ad) (kin_in (by decide)) dX12_doesOrder_150 3 (by decide) ?_
            refine K_dup_x2 C rfl rfl rfl dX12_doesOrder_151 ?_
            refine K_iconst C (v := 1) (by decide) dX12_doesOrder_152 ?_
            refine K_iadd C dX12_doesOrder_153 ?_
            refine K_iastC C (Nat.le_of_ble_eq_true rfl) (shM_1 G ad) (kin_in (by decide)) dX12_doesOrder_154 3 (by decide) (fun g20 => ?_)
            refine K_callVi C (As := [.int (g19 1 3)]) (rest := []) (Nat.le_of_ble_eq_true rfl) (shM_0 G ad) rfl hy_X12_is wm_X12_79 (by decide) ⟨Nat.le_refl _, Nat.le_refl _⟩ (fun rr ff hh => km_X12_is l G ad g20 (g19 1 3) rr ff hh) rfl rfl (Nat.le_of_ble_eq_true rfl) rfl dX12_doesOrder_155 (fun r21 g22 => ?_)
            exact K_bret C rfl dX12_doesOrder_158
          · refine K_aload_n C 0 rfl rfl dX12_doesOrder_62 ?_
            refine K_iconst C (v := 3) (by decide) dX12_doesOrder_63 ?_
            refine K_iconst C (v := 0) (by decide) dX12_doesOrder_64 ?_
            refine K_callVi C (As := [.int 3, .int 0]) (rest := []) (Nat.le_of_ble_eq_true rfl) (shM_0 G ad) rfl hy_X12_refuses wm_X12_75 (by decide) ⟨Nat.le_refl _, Nat.le_refl _⟩ (fun rr ff hh => km_X12_refuses l G ad g12 3 0 rr ff hh) rfl rfl (Nat.le_of_ble_eq_true rfl) rfl dX12_doesOrder_65 (fun r23 g24 => ?_)
            exact K_bret C rfl dX12_doesOrder_68
        · refine K_sub [0] rfl ?_
          exact kcj_X12_doesOrder_44 C g12
    · refine K_sub [0] rfl ?_
      exact kcj_X12_doesOrder_16 C g6
def cl_X12_opens_4 : Nat → kMem → Int32 → Int32 → Option (Int32 × kMem)
  | 0, _, _, _ => none
  | n + 1, f, x1, x2 => kle (f 1 3) x2 (some (x1, f)) (kbind (cf_X12_ordered f x2 4) (fun r1 g2 => keq r1 0 (klet (x1 + Int32.ofInt 1) (fun x1_4 => klet (x2 + Int32.ofInt 1) (fun x2_5 => ((cl_X12_opens_4 n) g2 x1_4 x2_5)))) (klet (x2 + Int32.ofInt 1) (fun x2_3 => ((cl_X12_opens_4 n) g2 x1 x2_3)))))
def cf_X12_opens (f : kMem) : Option (Int32 × kMem) := (cl_X12_opens_4 100 f 0 0)
set_option maxRecDepth 100000 in
set_option maxHeartbeats 4000000 in
theorem kcl_X12_opens_4 {p : Program} {l : Launch} {e : Env} {R : Room} {s : State} {m : MethodId} {args : Array Value} {below : List Frame} {meth : Method} {c : Code} {G : kG} {ad : Nat → Nat} {z : Int32 × kMem} (C : KC p l e R s m args below meth c (wM G ad) RX12 cX12_opens 3 (some .int) 1 0 0)  : ∀ (n : Nat) (f : kMem) (x1 x2 : Int32), K p l e R s m args below meth c (wM G ad) 3 (kQF below (wM G ad) (some .int) args s z) z 0 0 f 4 [(0, .ref (kad (wM G ad) 0)), (1, .int x1), (2, .int x2)] [] (cl_X12_opens_4 n f x1 x2) := by
  intro n
  induction n with
  | zero => intro f x1 x2; exact K_none
  | succ n ih =>
    intro f x1 x2
    unfold cl_X12_opens_4
    refine K_iload_n C 2 rfl rfl dX12_opens_4 ?_
    refine K_aload_n C 0 rfl rfl dX12_opens_5 ?_
    refine K_getR C kin_X12 rfl (Nat.le_of_ble_eq_true rfl) (shM_0 G ad) 0 (by decide) (b := 1) rfl wf_X12_9 rfl dX12_opens_6 ?_
    refine K_iconst C (v := 3) (by decide) dX12_opens_9 ?_
    refine K_ialdC C (Nat.le_of_ble_eq_true rfl) (shM_1 G ad) (kin_in (by decide)) dX12_opens_10 3 (by decide) ?_
    refine K_icmp_ge C (tgt := 32) (by decide) dX12_opens_11 ?_ ?_
    · refine K_iload_n C 1 rfl rfl dX12_opens_32 ?_
      exact K_ret C rfl rfl dX12_opens_33
    · refine K_aload_n C 0 rfl rfl dX12_opens_14 ?_
      refine K_iload_n C 2 rfl rfl dX12_opens_15 ?_
      refine K_iconst C (v := 4) (by decide) dX12_opens_16 ?_
      refine K_callVi C (As := [.int x2, .int 4]) (rest := []) (Nat.le_of_ble_eq_true rfl) (shM_0 G ad) rfl hy_X12_ordered wm_X12_118 (by decide) ⟨Nat.le_refl _, Nat.le_refl _⟩ (fun rr ff hh => km_X12_ordered l G ad f x2 4 rr ff hh) rfl rfl (Nat.le_of_ble_eq_true rfl) rfl dX12_opens_17 (fun r1 g2 => ?_)
      refine K_if_ne C (tgt := 26) (by decide) dX12_opens_20 ?_ ?_
      · refine K_iinc C (k := 2) (lv1 := fun x2_3 => [(2, .int x2_3), (0, .ref (kad (wM G ad) 0)), (1, .int x1)]) rfl (by decide) (fun _ => rfl) dX12_opens_26 (fun x2_3 => ?_)
        refine K_goto C (tgt := 4) (by decide) dX12_opens_29 ?_
        refine K_sub [1, 2, 0] rfl ?_
        exact ih g2 x1 x2_3
      · refine K_iinc C (k := 1) (lv1 := fun x1_4 => [(1, .int x1_4), (0, .ref (kad (wM G ad) 0)), (2, .int x2)]) rfl (by decide) (fun _ => rfl) dX12_opens_23 (fun x1_4 => ?_)
        refine K_iinc C (k := 2) (lv1 := fun x2_5 => [(2, .int x2_5), (1, .int x1_4), (0, .ref (kad (wM G ad) 0))]) rfl (by decide) (fun _ => rfl) dX12_opens_26 (fun x2_5 => ?_)
        refine K_goto C (tgt := 4) (by decide) dX12_opens_29 ?_
        refine K_sub [2, 1, 0] rfl ?_
        exact ih g2 x1_4 x2_5
set_option maxRecDepth 100000 in
set_option maxHeartbeats 4000000 in
theorem km_X12_opens (l : Launch) (G : kG) (ad : Nat → Nat) (f : kMem) (r : Int32) (fo : kMem) (h : cf_X12_opens f = some (r, fo)) : kMet l (wM G ad) yX12_opens cX12_opens 3 (some .int) 1 [.ref (kad (wM G ad) 0)] f r fo := by
  refine kMet_of (own := RX12) (lv := [(0, .ref (kad (wM G ad) 0))]) (by decide) rfl (Nat.le_of_ble_eq_true rfl) rfl h ?_
  intro p e R s m args below meth c C
  unfold cf_X12_opens
  refine K_iconst C (v := 0) (by decide) dX12_opens_0 ?_
  refine K_istore_n C (lv1 := [(1, .int 0), (0, .ref (kad (wM G ad) 0))]) rfl (by decide) rfl dX12_opens_1 ?_
  refine K_iconst C (v := 0) (by decide) dX12_opens_2 ?_
  refine K_istore_n C (lv1 := [(2, .int 0), (1, .int 0), (0, .ref (kad (wM G ad) 0))]) rfl (by decide) rfl dX12_opens_3 ?_
  refine K_sub [2, 1, 0] rfl ?_
  exact kcl_X12_opens_4 C 100 f 0 0
def cf_X12_doesCallOff (f : kMem) (x1 : Int32) : Option (Int32 × kMem) := kbind (cf_X12_isOrder f x1) (fun r1 g2 => keq r1 0 (kbind (cf_X12_refuses g2 1 0) (fun r12 g13 => kchk (kbool r12) (some (r12, g13)))) (kbind (cf_X12_ordered g2 x1 4) (fun r3 g4 => keq r3 0 (kchk (kin ((253 + (6 * x1)) + 4) 313) (kmem (kup g4 1 (Int32.toNatClampNeg ((253 + (6 * x1)) + 4)) 2) (fun g5 => kbind (cf_X12_opens g5) (fun r6 g7 => kbind (cf_X12_is g7 r6) (fun r8 g9 => kchk (kbool r8) (some (r8, g9))))))) (kbind (cf_X12_refuses g4 9 0) (fun r10 g11 => kchk (kbool r10) (some (r10, g11)))))))
set_option maxRecDepth 100000 in
set_option maxHeartbeats 4000000 in
theorem km_X12_doesCallOff (l : Launch) (G : kG) (ad : Nat → Nat) (f : kMem) (x1 : Int32) (r : Int32) (fo : kMem) (h : cf_X12_doesCallOff f x1 = some (r, fo)) : kMet l (wM G ad) yX12_doesCallOff cX12_doesCallOff 2 (some .boolean) 2 [.ref (kad (wM G ad) 0), .int x1] f r fo := by
  refine kMet_of (own := RX12) (lv := [(0, .ref (kad (wM G ad) 0)), (1, .int x1)]) (by decide) rfl (Nat.le_of_ble_eq_true rfl) rfl h ?_
  intro p e R s m args below meth c C
  unfold cf_X12_doesCallOff
  refine K_aload_n C 0 rfl rfl dX12_doesCallOff_0 ?_
  refine K_iload_n C 1 rfl rfl dX12_doesCallOff_1 ?_
  refine K_callVi C (As := [.int x1]) (rest := []) (Nat.le_of_ble_eq_true rfl) (shM_0 G ad) rfl hy_X12_isOrder wm_X12_121 (by decide) ⟨Nat.le_refl _, Nat.le_refl _⟩ (fun rr ff hh => km_X12_isOrder l G ad f x1 rr ff hh) rfl rfl (Nat.le_of_ble_eq_true rfl) rfl dX12_doesCallOff_2 (fun r1 g2 => ?_)
  refine K_if_ne C (tgt := 15) (by decide) dX12_doesCallOff_5 ?_ ?_
  · refine K_aload_n C 0 rfl rfl dX12_doesCallOff_15 ?_
    refine K_iload_n C 1 rfl rfl dX12_doesCallOff_16 ?_
    refine K_iconst C (v := 4) (by decide) dX12_doesCallOff_17 ?_
    refine K_callVi C (As := [.int x1, .int 4]) (rest := []) (Nat.le_of_ble_eq_true rfl) (shM_0 G ad) rfl hy_X12_ordered wm_X12_118 (by decide) ⟨Nat.le_refl _, Nat.le_refl _⟩ (fun rr ff hh => km_X12_ordered l G ad g2 x1 4 rr ff hh) rfl rfl (Nat.le_of_ble_eq_true rfl) rfl dX12_doesCallOff_18 (fun r3 g4 => ?_)
    refine K_if_eq C (tgt := 32) (by decide) dX12_doesCallOff_21 ?_ ?_
    · refine K_aload_n C 0 rfl rfl dX12_doesCallOff_32 ?_
      refine K_getR C kin_X12 rfl (Nat.le_of_ble_eq_true rfl) (shM_0 G ad) 0 (by decide) (b := 1) rfl wf_X12_9 rfl dX12_doesCallOff_33 ?_
      refine K_sipush C (v := 253) (by decide) dX12_doesCallOff_36 ?_
      refine K_bipush C (v := 6) (by decide) dX12_doesCallOff_39 ?_
      refine K_iload_n C 1 rfl rfl dX12_doesCallOff_41 ?_
      refine K_imul C dX12_doesCallOff_42 ?_
      refine K_iadd C dX12_doesCallOff_43 ?_
      refine K_iconst C (v := 4) (by decide) dX12_doesCallOff_44 ?_
      refine K_iadd C dX12_doesCallOff_45 ?_
      refine K_iconst C (v := 2) (by decide) dX12_doesCallOff_46 ?_
      refine K_iast C (Nat.le_of_ble_eq_true rfl) (shM_1 G ad) dX12_doesCallOff_47 (fun g5 => ?_)
      refine K_aload_n C 0 rfl rfl dX12_doesCallOff_48 ?_
      refine K_aload_n C 0 rfl rfl dX12_doesCallOff_49 ?_
      refine K_callVi C (As := []) (rest := [.ref (kad (wM G ad) 0)]) (Nat.le_of_ble_eq_true rfl) (shM_0 G ad) rfl hy_X12_opens wm_X12_124 (by decide) ⟨Nat.le_refl _, Nat.le_refl _⟩ (fun rr ff hh => km_X12_opens l G ad g5 rr ff hh) rfl rfl (Nat.le_of_ble_eq_true rfl) rfl dX12_doesCallOff_50 (fun r6 g7 => ?_)
      refine K_callVi C (As := [.int r6]) (rest := []) (Nat.le_of_ble_eq_true rfl) (shM_0 G ad) rfl hy_X12_is wm_X12_79 (by decide) ⟨Nat.le_refl _, Nat.le_refl _⟩ (fun rr ff hh => km_X12_is l G ad g7 r6 rr ff hh) rfl rfl (Nat.le_of_ble_eq_true rfl) rfl dX12_doesCallOff_53 (fun r8 g9 => ?_)
      exact K_bret C rfl dX12_doesCallOff_56
    · refine K_aload_n C 0 rfl rfl dX12_doesCallOff_24 ?_
      refine K_bipush C (v := 9) (by decide) dX12_doesCallOff_25 ?_
      refine K_iconst C (v := 0) (by decide) dX12_doesCallOff_27 ?_
      refine K_callVi C (As := [.int 9, .int 0]) (rest := []) (Nat.le_of_ble_eq_true rfl) (shM_0 G ad) rfl hy_X12_refuses wm_X12_75 (by decide) ⟨Nat.le_refl _, Nat.le_refl _⟩ (fun rr ff hh => km_X12_refuses l G ad g4 9 0 rr ff hh) rfl rfl (Nat.le_of_ble_eq_true rfl) rfl dX12_doesCallOff_28 (fun r10 g11 => ?_)
      exact K_bret C rfl dX12_doesCallOff_31
  · refine K_aload_n C 0 rfl rfl dX12_doesCallOff_8 ?_
    refine K_iconst C (v := 1) (by decide) dX12_doesCallOff_9 ?_
    refine K_iconst C (v := 0) (by decide) dX12_doesCallOff_10 ?_
    refine K_callVi C (As := [.int 1, .int 0]) (rest := []) (Nat.le_of_ble_eq_true rfl) (shM_0 G ad) rfl hy_X12_refuses wm_X12_75 (by decide) ⟨Nat.le_refl _, Nat.le_refl _⟩ (fun rr ff hh => km_X12_refuses l G ad g2 1 0 rr ff hh) rfl rfl (Nat.le_of_ble_eq_true rfl) rfl dX12_doesCallOff_11 (fun r12 g13 => ?_)
    exact K_bret C rfl dX12_doesCallOff_14
def cj_X12_doesSet_64 (f : kMem) : Option (Int32 × kMem) := kbind (cf_X12_refuses f 2 0) (fun r3 g4 => kchk (kbool r3) (some (r3, g4)))
def cj_X12_doesSet_43 (f : kMem) (x1 x2 x3 t0 : Int32) : Option (Int32 × kMem) := kbind (cf_X12_in f x1 0 3) (fun r1 g2 => keq r1 0 ((cj_X12_doesSet_64 g2)) (kbind (cf_X12_in g2 x2 x3 t0) (fun r5 g6 => keq r5 0 ((cj_X12_doesSet_64 g6)) (kchk (kin (12 + x1) 313) (klet (g6 1 (Int32.toNatClampNeg (12 + x1))) (fun x5_7 => kchk (kin (12 + x1) 313) (kmem (kup g6 1 (Int32.toNatClampNeg (12 + x1)) x2) (fun g8 => kbind (cf_X12_is g8 x5_7) (fun r9 g10 => kchk (kbool r9) (some (r9, g10)))))))))))
def cj_X12_doesSet_10 (f : kMem) (x1 x2 t0 : Int32) : Option (Int32 × kMem) := keq x1 0 ((cj_X12_doesSet_43 f x1 x2 t0 9999)) (keq x1 1 ((cj_X12_doesSet_43 f x1 x2 t0 999)) (keq x1 2 ((cj_X12_doesSet_43 f x1 x2 t0 5)) ((cj_X12_doesSet_43 f x1 x2 t0 99))))
def cf_X12_doesSet (f : kMem) (x1 x2 : Int32) : Option (Int32 × kMem) := keq x1 0 ((cj_X12_doesSet_10 f x1 x2 60)) ((cj_X12_doesSet_10 f x1 x2 0))
set_option maxRecDepth 100000 in
set_option maxHeartbeats 4000000 in
theorem kcj_X12_doesSet_64 {p : Program} {l : Launch} {e : Env} {R : Room} {s : State} {m : MethodId} {args : Array Value} {below : List Frame} {meth : Method} {c : Code} {G : kG} {ad : Nat → Nat} {z : Int32 × kMem} (C : KC p l e R s m args below meth c (wM G ad) RX12 cX12_doesSet 6 (some .boolean) 1 0 0)  (f : kMem) : K p l e R s m args below meth c (wM G ad) 6 (kQF below (wM G ad) (some .boolean) args s z) z 0 0 f 64 [(0, .ref (kad (wM G ad) 0))] [] (cj_X12_doesSet_64 f) := by
  unfold cj_X12_doesSet_64
  refine K_aload_n C 0 rfl rfl dX12_doesSet_64 ?_
  refine K_iconst C (v := 2) (by decide) dX12_doesSet_65 ?_
  refine K_iconst C (v := 0) (by decide) dX12_doesSet_66 ?_
  refine K_callVi C (As := [.int 2, .int 0]) (rest := []) (Nat.le_of_ble_eq_true rfl) (shM_0 G ad) rfl hy_X12_refuses wm_X12_75 (by decide) ⟨Nat.le_refl _, Nat.le_refl _⟩ (fun rr ff hh => km_X12_refuses l G ad f 2 0 rr ff hh) rfl rfl (Nat.le_of_ble_eq_true rfl) rfl dX12_doesSet_67 (fun r3 g4 => ?_)
  exact K_bret C rfl dX12_doesSet_70
set_option maxRecDepth 100000 in
set_option maxHeartbeats 4000000 in
theorem kcj_X12_doesSet_43 {p : Program} {l : Launch} {e : Env} {R : Room} {s : State} {m : MethodId} {args : Array Value} {below : List Frame} {meth : Method} {c : Code} {G : kG} {ad : Nat → Nat} {z : Int32 × kMem} (C : KC p l e R s m args below meth c (wM G ad) RX12 cX12_doesSet 6 (some .boolean) 1 0 0)  (f : kMem) (x1 x2 x3 t0 : Int32) : K p l e R s m args below meth c (wM G ad) 6 (kQF below (wM G ad) (some .boolean) args s z) z 0 0 f 43 [(0, .ref (kad (wM G ad) 0)), (1, .int x1), (2, .int x2), (3, .int x3)] [.int t0] (cj_X12_doesSet_43 f x1 x2 x3 t0) := by
  unfold cj_X12_doesSet_43
  refine K_istore C (lv1 := [(4, .int t0), (0, .ref (kad (wM G ad) 0)), (1, .int x1), (2, .int x2), (3, .int x3)]) (by decide) rfl dX12_doesSet_43 ?_
  refine K_iload_n C 2 rfl rfl dX12_doesSet_45 ?_
  refine K_iconst C (v := 0) (by decide) dX12_doesSet_46 ?_
  refine K_iconst C (v := 3) (by decide) dX12_doesSet_47 ?_
  refine K_callSi C (As := [.int x1, .int 0, .int 3]) (rest := []) hy_X12_in wm_X12_64 (by decide) ⟨Nat.le_refl _, Nat.le_refl _⟩ (fun rr ff hh => km_X12_in l G ad f x1 0 3 rr ff hh) rfl rfl (Nat.le_of_ble_eq_true rfl) rfl dX12_doesSet_48 (fun r1 g2 => ?_)
  refine K_if_eq C (tgt := 64) (by decide) dX12_doesSet_51 ?_ ?_
  · refine K_sub [1] rfl ?_
    exact kcj_X12_doesSet_64 C g2
  · refine K_iload_n C 3 rfl rfl dX12_doesSet_54 ?_
    refine K_iload_n C 4 rfl rfl dX12_doesSet_55 ?_
    refine K_iload C 0 rfl dX12_doesSet_56 ?_
    refine K_callSi C (As := [.int x2, .int x3, .int t0]) (rest := []) hy_X12_in wm_X12_64 (by decide) ⟨Nat.le_refl _, Nat.le_refl _⟩ (fun rr ff hh => km_X12_in l G ad g2 x2 x3 t0 rr ff hh) rfl rfl (Nat.le_of_ble_eq_true rfl) rfl dX12_doesSet_58 (fun r5 g6 => ?_)
    refine K_if_ne C (tgt := 71) (by decide) dX12_doesSet_61 ?_ ?_
    · refine K_aload_n C 1 rfl rfl dX12_doesSet_71 ?_
      refine K_getR C kin_X12 rfl (Nat.le_of_ble_eq_true rfl) (shM_0 G ad) 0 (by decide) (b := 1) rfl wf_X12_9 rfl dX12_doesSet_72 ?_
      refine K_bipush C (v := 12) (by decide) dX12_doesSet_75 ?_
      refine K_iload_n C 2 rfl rfl dX12_doesSet_77 ?_
      refine K_iadd C dX12_doesSet_78 ?_
      refine K_iald C (Nat.le_of_ble_eq_true rfl) (shM_1 G ad) dX12_doesSet_79 ?_
      refine K_let rfl (fun x5_7 => ?_)
      refine K_istore C (lv1 := [(5, .int x5_7), (4, .int t0), (0, .ref (kad (wM G ad) 0)), (1, .int x1), (2, .int x2), (3, .int x3)]) (by decide) rfl dX12_doesSet_80 ?_
      refine K_aload_n C 2 rfl rfl dX12_doesSet_82 ?_
      refine K_getR C kin_X12 rfl (Nat.le_of_ble_eq_true rfl) (shM_0 G ad) 0 (by decide) (b := 1) rfl wf_X12_9 rfl dX12_doesSet_83 ?_
      refine K_bipush C (v := 12) (by decide) dX12_doesSet_86 ?_
      refine K_iload_n C 3 rfl rfl dX12_doesSet_88 ?_
      refine K_iadd C dX12_doesSet_89 ?_
      refine K_iload_n C 4 rfl rfl dX12_doesSet_90 ?_
      refine K_iast C (Nat.le_of_ble_eq_true rfl) (shM_1 G ad) dX12_doesSet_91 (fun g8 => ?_)
      refine K_aload_n C 2 rfl rfl dX12_doesSet_92 ?_
      refine K_iload C 0 rfl dX12_doesSet_93 ?_
      refine K_callVi C (As := [.int x5_7]) (rest := []) (Nat.le_of_ble_eq_true rfl) (shM_0 G ad) rfl hy_X12_is wm_X12_79 (by decide) ⟨Nat.le_refl _, Nat.le_refl _⟩ (fun rr ff hh => km_X12_is l G ad g8 x5_7 rr ff hh) rfl rfl (Nat.le_of_ble_eq_true rfl) rfl dX12_doesSet_95 (fun r9 g10 => ?_)
      exact K_bret C rfl dX12_doesSet_98
    · refine K_sub [1] rfl ?_
      exact kcj_X12_doesSet_64 C g6
set_option maxRecDepth 100000 in
set_option maxHeartbeats 4000000 in
theorem kcj_X12_doesSet_10 {p : Program} {l : Launch} {e : Env} {R : Room} {s : State} {m : MethodId} {args : Array Value} {below : List Frame} {meth : Method} {c : Code} {G : kG} {ad : Nat → Nat} {z : Int32 × kMem} (C : KC p l e R s m args below meth c (wM G ad) RX12 cX12_doesSet 6 (some .boolean) 1 0 0)  (f : kMem) (x1 x2 t0 : Int32) : K p l e R s m args below meth c (wM G ad) 6 (kQF below (wM G ad) (some .boolean) args s z) z 0 0 f 10 [(0, .ref (kad (wM G ad) 0)), (1, .int x1), (2, .int x2)] [.int t0] (cj_X12_doesSet_10 f x1 x2 t0) := by
  unfold cj_X12_doesSet_10
  refine K_istore_n C (lv1 := [(3, .int t0), (0, .ref (kad (wM G ad) 0)), (1, .int x1), (2, .int x2)]) rfl (by decide) rfl dX12_doesSet_10 ?_
  refine K_iload_n C 2 rfl rfl dX12_doesSet_11 ?_
  refine K_if_ne C (tgt := 21) (by decide) dX12_doesSet_12 ?_ ?_
  · refine K_iload_n C 2 rfl rfl dX12_doesSet_21 ?_
    refine K_iconst C (v := 1) (by decide) dX12_doesSet_22 ?_
    refine K_icmp_ne C (tgt := 32) (by decide) dX12_doesSet_23 ?_ ?_
    · refine K_iload_n C 2 rfl rfl dX12_doesSet_32 ?_
      refine K_iconst C (v := 2) (by decide) dX12_doesSet_33 ?_
      refine K_icmp_ne C (tgt := 41) (by decide) dX12_doesSet_34 ?_ ?_
      · refine K_bipush C (v := 99) (by decide) dX12_doesSet_41 ?_
        refine K_sub [1, 2, 3, 0] rfl ?_
        exact kcj_X12_doesSet_43 C f x1 x2 t0 99
      · refine K_iconst C (v := 5) (by decide) dX12_doesSet_37 ?_
        refine K_goto C (tgt := 43) (by decide) dX12_doesSet_38 ?_
        refine K_sub [1, 2, 3, 0] rfl ?_
        exact kcj_X12_doesSet_43 C f x1 x2 t0 5
    · refine K_sipush C (v := 999) (by decide) dX12_doesSet_26 ?_
      refine K_goto C (tgt := 43) (by decide) dX12_doesSet_29 ?_
      refine K_sub [1, 2, 3, 0] rfl ?_
      exact kcj_X12_doesSet_43 C f x1 x2 t0 999
  · refine K_sipush C (v := 9999) (by decide) dX12_doesSet_15 ?_
    refine K_goto C (tgt := 43) (by decide) dX12_doesSet_18 ?_
    refine K_sub [1, 2, 3, 0] rfl ?_
    exact kcj_X12_doesSet_43 C f x1 x2 t0 9999
set_option maxRecDepth 100000 in
set_option maxHeartbeats 4000000 in
theorem km_X12_doesSet (l : Launch) (G : kG) (ad : Nat → Nat) (f : kMem) (x1 x2 : Int32) (r : Int32) (fo : kMem) (h : cf_X12_doesSet f x1 x2 = some (r, fo)) : kMet l (wM G ad) yX12_doesSet cX12_doesSet 6 (some .boolean) 1 [.ref (kad (wM G ad) 0), .int x1, .int x2] f r fo := by
  refine kMet_of (own := RX12) (lv := [(0, .ref (kad (wM G ad) 0)), (1, .int x1), (2, .int x2)]) (by decide) rfl (Nat.le_of_ble_eq_true rfl) rfl h ?_
  intro p e R s m args below meth c C
  unfold cf_X12_doesSet
  refine K_iload_n C 1 rfl rfl dX12_doesSet_0 ?_
  refine K_if_ne C (tgt := 9) (by decide) dX12_doesSet_1 ?_ ?_
  · refine K_iconst C (v := 0) (by decide) dX12_doesSet_9 ?_
    exact kcj_X12_doesSet_10 C f x1 x2 0
  · refine K_bipush C (v := 60) (by decide) dX12_doesSet_4 ?_
    refine K_goto C (tgt := 10) (by decide) dX12_doesSet_6 ?_
    exact kcj_X12_doesSet_10 C f x1 x2 60
def cf_X12_append (f : kMem) (x1 : Int32) : Option (Int32 × kMem) := kmem (kup f 0 18 0) (fun g1 => keq (g1 0 7) 80 (kbind (cf_X12_raises g1 1) (fun r4 g5 => some (r4, g5))) (kmem (kup g1 0 7 ((g1 0 7) + 1)) (fun g2 => kchk (kin (g1 0 7) 80) (kmem (kup g2 5 (Int32.toNatClampNeg (g1 0 7)) (vp_nar .char x1)) (fun g3 => some ((g3 0 7), g3))))))
set_option maxRecDepth 100000 in
set_option maxHeartbeats 4000000 in
theorem km_X12_append (l : Launch) (G : kG) (ad : Nat → Nat) (f : kMem) (x1 : Int32) (r : Int32) (fo : kMem) (h : cf_X12_append f x1 = some (r, fo)) : kMet l (wM G ad) yX12_append cX12_append 2 (some .int) 1 [.ref (kad (wM G ad) 0), .int x1] f r fo := by
  refine kMet_of (own := RX12) (lv := [(0, .ref (kad (wM G ad) 0)), (1, .int x1)]) (by decide) rfl (Nat.le_of_ble_eq_true rfl) rfl h ?_
  intro p e R s m args below meth c C
  unfold cf_X12_append
  refine K_aload_n C 0 rfl rfl dX12_append_0 ?_
  refine K_iconst C (v := 0) (by decide) dX12_append_1 ?_
  refine K_putI C kin_X12 rfl (Nat.le_of_ble_eq_true rfl) (shM_0 G ad) 18 (by decide) rfl wf_X12_45 rfl tyX12 tyX12_ok nmX12 (by decide) (ty := .int) (by decide +kernel) rfl rfl dX12_append_2 (fun g1 => ?_)
  refine K_aload_n C 0 rfl rfl dX12_append_5 ?_
  refine K_getI C kin_X12 rfl (Nat.le_of_ble_eq_true rfl) (shM_0 G ad) 7 (by decide) rfl wf_X12_128 rfl dX12_append_6 ?_
  refine K_bipush C (v := 80) (by decide) dX12_append_9 ?_
  refine K_icmp_ne C (tgt := 20) (by decide) dX12_append_11 ?_ ?_
  · refine K_aload_n C 0 rfl rfl dX12_append_20 ?_
    refine K_getR C kin_X12 rfl (Nat.le_of_ble_eq_true rfl) (shM_0 G ad) 6 (by decide) (b := 5) rfl wf_X12_22 rfl dX12_append_21 ?_
    refine K_aload_n C 0 rfl rfl dX12_append_24 ?_
    refine K_dup C rfl dX12_append_25 ?_
    refine K_getI C kin_X12 rfl (Nat.le_of_ble_eq_true rfl) (shM_0 G ad) 7 (by decide) rfl wf_X12_128 rfl dX12_append_26 ?_
    refine K_dup_x1 C rfl rfl dX12_append_29 ?_
    refine K_iconst C (v := 1) (by decide) dX12_append_30 ?_
    refine K_iadd C dX12_append_31 ?_
    refine K_putI C kin_X12 rfl (Nat.le_of_ble_eq_true rfl) (shM_0 G ad) 7 (by decide) rfl wf_X12_128 rfl tyX12 tyX12_ok nmX12 (by decide) (ty := .int) (by decide +kernel) rfl rfl dX12_append_32 (fun g2 => ?_)
    refine K_iload_n C 1 rfl rfl dX12_append_35 ?_
    refine K_cast C (Nat.le_of_ble_eq_true rfl) (shM_5 G ad) dX12_append_36 (fun g3 => ?_)
    refine K_aload_n C 0 rfl rfl dX12_append_37 ?_
    refine K_getI C kin_X12 rfl (Nat.le_of_ble_eq_true rfl) (shM_0 G ad) 7 (by decide) rfl wf_X12_128 rfl dX12_append_38 ?_
    exact K_ret C rfl rfl dX12_append_41
  · refine K_aload_n C 0 rfl rfl dX12_append_14 ?_
    refine K_iconst C (v := 1) (by decide) dX12_append_15 ?_
    refine K_callVi C (As := [.int 1]) (rest := []) (Nat.le_of_ble_eq_true rfl) (shM_0 G ad) rfl hy_X12_raises wm_X12_54 (by decide) ⟨Nat.le_refl _, Nat.le_refl _⟩ (fun rr ff hh => km_X12_raises l G ad g1 1 rr ff hh) rfl rfl (Nat.le_of_ble_eq_true rfl) rfl dX12_append_16 (fun r4 g5 => ?_)
    exact K_ret C rfl rfl dX12_append_19
def cf_X12_colour (f : kMem) (x1 : Int32) : Option (Int32 × kMem) := kbind (cf_X12_tries f) (fun r1 g2 => kbind (cf_X12_doesColour g2 x1) (fun r3 g4 => kbind (cf_X12_ends g4 r3) (fun r5 g6 => some (r5, g6))))
set_option maxRecDepth 100000 in
set_option maxHeartbeats 4000000 in
theorem km_X12_colour (l : Launch) (G : kG) (ad : Nat → Nat) (f : kMem) (x1 : Int32) (r : Int32) (fo : kMem) (h : cf_X12_colour f x1 = some (r, fo)) : kMet l (wM G ad) yX12_colour cX12_colour 2 (some .int) 2 [.ref (kad (wM G ad) 0), .int x1] f r fo := by
  refine kMet_of (own := RX12) (lv := [(0, .ref (kad (wM G ad) 0)), (1, .int x1)]) (by decide) rfl (Nat.le_of_ble_eq_true rfl) rfl h ?_
  intro p e R s m args below meth c C
  unfold cf_X12_colour
  refine K_aload_n C 0 rfl rfl dX12_colour_0 ?_
  refine K_callVv C (As := []) (rest := []) (Nat.le_of_ble_eq_true rfl) (shM_0 G ad) rfl hy_X12_tries wm_X12_131 (by decide) ⟨Nat.le_refl _, Nat.le_refl _⟩ (fun rr ff hh => km_X12_tries l G ad f rr ff hh) rfl rfl (Nat.le_of_ble_eq_true rfl) rfl dX12_colour_1 (fun r1 g2 => ?_)
  refine K_aload_n C 0 rfl rfl dX12_colour_4 ?_
  refine K_aload_n C 0 rfl rfl dX12_colour_5 ?_
  refine K_iload_n C 1 rfl rfl dX12_colour_6 ?_
  refine K_callVi C (As := [.int x1]) (rest := [.ref (kad (wM G ad) 0)]) (Nat.le_of_ble_eq_true rfl) (shM_0 G ad) rfl hy_X12_doesColour wm_X12_134 (by decide) ⟨Nat.le_refl _, Nat.le_refl _⟩ (fun rr ff hh => km_X12_doesColour l G ad g2 x1 rr ff hh) rfl rfl (Nat.le_of_ble_eq_true rfl) rfl dX12_colour_7 (fun r3 g4 => ?_)
  refine K_callVi C (As := [.int r3]) (rest := []) (Nat.le_of_ble_eq_true rfl) (shM_0 G ad) rfl hy_X12_ends wm_X12_137 (by decide) ⟨Nat.le_refl _, Nat.le_refl _⟩ (fun rr ff hh => km_X12_ends l G ad g4 r3 rr ff hh) rfl rfl (Nat.le_of_ble_eq_true rfl) rfl dX12_colour_10 (fun r5 g6 => ?_)
  exact K_ret C rfl rfl dX12_colour_13
def cf_X12_part (f : kMem) (x1 : Int32) : Option (Int32 × kMem) := kbind (cf_X12_tries f) (fun r1 g2 => kbind (cf_X12_doesPart g2 x1) (fun r3 g4 => kbind (cf_X12_ends g4 r3) (fun r5 g6 => some (r5, g6))))
set_option maxRecDepth 100000 in
set_option maxHeartbeats 4000000 in
theorem km_X12_part (l : Launch) (G : kG) (ad : Nat → Nat) (f : kMem) (x1 : Int32) (r : Int32) (fo : kMem) (h : cf_X12_part f x1 = some (r, fo)) : kMet l (wM G ad) yX12_part cX12_part 2 (some .int) 2 [.ref (kad (wM G ad) 0), .int x1] f r fo := by
  refine kMet_of (own := RX12) (lv := [(0, .ref (kad (wM G ad) 0)), (1, .int x1)]) (by decide) rfl (Nat.le_of_ble_eq_true rfl) rfl h ?_
  intro p e R s m args below meth c C
  unfold cf_X12_part
  refine K_aload_n C 0 rfl rfl dX12_part_0 ?_
  refine K_callVv C (As := []) (rest := []) (Nat.le_of_ble_eq_true rfl) (shM_0 G ad) rfl hy_X12_tries wm_X12_131 (by decide) ⟨Nat.le_refl _, Nat.le_refl _⟩ (fun rr ff hh => km_X12_tries l G ad f rr ff hh) rfl rfl (Nat.le_of_ble_eq_true rfl) rfl dX12_part_1 (fun r1 g2 => ?_)
  refine K_aload_n C 0 rfl rfl dX12_part_4 ?_
  refine K_aload_n C 0 rfl rfl dX12_part_5 ?_
  refine K_iload_n C 1 rfl rfl dX12_part_6 ?_
  refine K_callVi C (As := [.int x1]) (rest := [.ref (kad (wM G ad) 0)]) (Nat.le_of_ble_eq_true rfl) (shM_0 G ad) rfl hy_X12_doesPart wm_X12_141 (by decide) ⟨Nat.le_refl _, Nat.le_refl _⟩ (fun rr ff hh => km_X12_doesPart l G ad g2 x1 rr ff hh) rfl rfl (Nat.le_of_ble_eq_true rfl) rfl dX12_part_7 (fun r3 g4 => ?_)
  refine K_callVi C (As := [.int r3]) (rest := []) (Nat.le_of_ble_eq_true rfl) (shM_0 G ad) rfl hy_X12_ends wm_X12_137 (by decide) ⟨Nat.le_refl _, Nat.le_refl _⟩ (fun rr ff hh => km_X12_ends l G ad g4 r3 rr ff hh) rfl rfl (Nat.le_of_ble_eq_true rfl) rfl dX12_part_10 (fun r5 g6 => ?_)
  exact K_ret C rfl rfl dX12_part_13
def cf_X12_mount (f : kMem) (x1 : Int32) : Option (Int32 × kMem) := kbind (cf_X12_tries f) (fun r1 g2 => kbind (cf_X12_doesMount g2 x1) (fun r3 g4 => kbind (cf_X12_ends g4 r3) (fun r5 g6 => some (r5, g6))))
set_option maxRecDepth 100000 in
set_option maxHeartbeats 4000000 in
theorem km_X12_mount (l : Launch) (G : kG) (ad : Nat → Nat) (f : kMem) (x1 : Int32) (r : Int32) (fo : kMem) (h : cf_X12_mount f x1 = some (r, fo)) : kMet l (wM G ad) yX12_mount cX12_mount 2 (some .int) 4 [.ref (kad (wM G ad) 0), .int x1] f r fo := by
  refine kMet_of (own := RX12) (lv := [(0, .ref (kad (wM G ad) 0)), (1, .int x1)]) (by decide) rfl (Nat.le_of_ble_eq_true rfl) rfl h ?_
  intro p e R s m args below meth c C
  unfold cf_X12_mount
  refine K_aload_n C 0 rfl rfl dX12_mount_0 ?_
  refine K_callVv C (As := []) (rest := []) (Nat.le_of_ble_eq_true rfl) (shM_0 G ad) rfl hy_X12_tries wm_X12_131 (by decide) ⟨Nat.le_refl _, Nat.le_refl _⟩ (fun rr ff hh => km_X12_tries l G ad f rr ff hh) rfl rfl (Nat.le_of_ble_eq_true rfl) rfl dX12_mount_1 (fun r1 g2 => ?_)
  refine K_aload_n C 0 rfl rfl dX12_mount_4 ?_
  refine K_aload_n C 0 rfl rfl dX12_mount_5 ?_
  refine K_iload_n C 1 rfl rfl dX12_mount_6 ?_
  refine K_callVi C (As := [.int x1]) (rest := [.ref (kad (wM G ad) 0)]) (Nat.le_of_ble_eq_true rfl) (shM_0 G ad) rfl hy_X12_doesMount wm_X12_144 (by decide) ⟨Nat.le_refl _, Nat.le_refl _⟩ (fun rr ff hh => km_X12_doesMount l G ad g2 x1 rr ff hh) rfl rfl (Nat.le_of_ble_eq_true rfl) rfl dX12_mount_7 (fun r3 g4 => ?_)
  refine K_callVi C (As := [.int r3]) (rest := []) (Nat.le_of_ble_eq_true rfl) (shM_0 G ad) rfl hy_X12_ends wm_X12_137 (by decide) ⟨Nat.le_refl _, Nat.le_refl _⟩ (fun rr ff hh => km_X12_ends l G ad g4 r3 rr ff hh) rfl rfl (Nat.le_of_ble_eq_true rfl) rfl dX12_mount_10 (fun r5 g6 => ?_)
  exact K_ret C rfl rfl dX12_mount_13
