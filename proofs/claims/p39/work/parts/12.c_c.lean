def cl_X1_fillPurges_10 (Y41 : kMem → Int32 → Option (Int32 × kMem)) : Nat → kMem → Int32 → Int32 → Option (Int32 × kMem)
  | 0, _, _, _ => none
  | n + 1, f, x2, x3 => kle 6 x3 ((Y41 f x2)) (kbind (cf_X0_purgeShots f (x2 - 1) x3) (fun r1 g2 => kchk (kin ((x2 * 6) + x3) 42) (kmem (kup g2 289 (Int32.toNatClampNeg ((x2 * 6) + x3)) r1) (fun g3 => klet (x3 + Int32.ofInt 1) (fun x3_4 => ((cl_X1_fillPurges_10 Y41 n) g3 x2 x3_4))))))
def cl_X1_fillPurges_2 : Nat → kMem → Int32 → Option (Int32 × kMem)
  | 0, _, _ => none
  | n + 1, f, x2 => kle 7 x2 (some (0, f)) ((cl_X1_fillPurges_10 (fun g6 x2_5 => klet (x2_5 + Int32.ofInt 1) (fun x2_7 => ((cl_X1_fillPurges_2 n) g6 x2_7))) 100 f x2 0))
def cf_X1_fillPurges (f : kMem) : Option (Int32 × kMem) := (cl_X1_fillPurges_2 100 f 0)
set_option maxRecDepth 100000 in
set_option maxHeartbeats 4000000 in
theorem kcl_X1_fillPurges_10 {p : Program} {l : Launch} {e : Env} {R : Room} {s : State} {m : MethodId} {args : Array Value} {below : List Frame} {meth : Method} {c : Code} {G : kG} {ad : Nat → Nat} {z : Int32 × kMem} (C : KC p l e R s m args below meth c (wC G ad) RX1 cX1_fillPurges 4 none 3 0 0) (Y41 : kMem → Int32 → Option (Int32 × kMem)) (hY41 : ∀ (f : kMem) (x2 : Int32), K p l e R s m args below meth c (wC G ad) 4 (kQF below (wC G ad) none args s z) z 0 0 f 41 [(0, .ref (kad (wC G ad) 288)), (1, .ref (kad (wC G ad) 1)), (2, .int x2)] [] (Y41 f x2)) : ∀ (n : Nat) (f : kMem) (x2 x3 : Int32), K p l e R s m args below meth c (wC G ad) 4 (kQF below (wC G ad) none args s z) z 0 0 f 10 [(0, .ref (kad (wC G ad) 288)), (1, .ref (kad (wC G ad) 1)), (2, .int x2), (3, .int x3)] [] (cl_X1_fillPurges_10 Y41 n f x2 x3) := by
  intro n
  induction n with
  | zero => intro f x2 x3; exact K_none
  | succ n ih =>
    intro f x2 x3
    unfold cl_X1_fillPurges_10
    refine K_iload_n C 3 rfl rfl dX1_fillPurges_10 ?_
    refine K_bipush C (v := 6) (by decide) dX1_fillPurges_11 ?_
    refine K_icmp_ge C (tgt := 41) (by decide) dX1_fillPurges_13 ?_ ?_
    · refine K_sub [0, 1, 2] rfl ?_
      exact hY41 f x2
    · refine K_aload_n C 0 rfl rfl dX1_fillPurges_16 ?_
      refine K_getR C kin_X1 rfl (Nat.le_of_ble_eq_true rfl) (shC_288 G ad) 0 (by decide) (b := 289) rfl wf_X1_11 rfl dX1_fillPurges_17 ?_
      refine K_iload_n C 2 rfl rfl dX1_fillPurges_20 ?_
      refine K_bipush C (v := 6) (by decide) dX1_fillPurges_21 ?_
      refine K_imul C dX1_fillPurges_23 ?_
      refine K_iload_n C 3 rfl rfl dX1_fillPurges_24 ?_
      refine K_iadd C dX1_fillPurges_25 ?_
      refine K_aload_n C 1 rfl rfl dX1_fillPurges_26 ?_
      refine K_iload_n C 2 rfl rfl dX1_fillPurges_27 ?_
      refine K_iconst C (v := 1) (by decide) dX1_fillPurges_28 ?_
      refine K_isub C dX1_fillPurges_29 ?_
      refine K_iload_n C 3 rfl rfl dX1_fillPurges_30 ?_
      refine K_callVi C (As := [.int (x2 - 1), .int x3]) (rest := [.int ((x2 * 6) + x3), .ref (kad (wC G ad) 289)]) (Nat.le_of_ble_eq_true rfl) (shC_1 G ad) rfl hy_X0_purgeShots wm_X1_49 (by decide) ⟨Nat.le_refl _, Nat.le_refl _⟩ (fun rr ff hh => km_X0_purgeShots l G ad f (x2 - 1) x3 rr ff hh) rfl rfl (Nat.le_of_ble_eq_true rfl) rfl dX1_fillPurges_31 (fun r1 g2 => ?_)
      refine K_iast C (Nat.le_of_ble_eq_true rfl) (shC_289 G ad) dX1_fillPurges_34 (fun g3 => ?_)
      refine K_iinc C (k := 3) (lv1 := fun x3_4 => [(3, .int x3_4), (0, .ref (kad (wC G ad) 288)), (1, .ref (kad (wC G ad) 1)), (2, .int x2)]) rfl (by decide) (fun _ => rfl) dX1_fillPurges_35 (fun x3_4 => ?_)
      refine K_goto C (tgt := 10) (by decide) dX1_fillPurges_38 ?_
      refine K_sub [1, 2, 3, 0] rfl ?_
      exact ih g3 x2 x3_4
set_option maxRecDepth 100000 in
set_option maxHeartbeats 4000000 in
theorem kcl_X1_fillPurges_2 {p : Program} {l : Launch} {e : Env} {R : Room} {s : State} {m : MethodId} {args : Array Value} {below : List Frame} {meth : Method} {c : Code} {G : kG} {ad : Nat → Nat} {z : Int32 × kMem} (C : KC p l e R s m args below meth c (wC G ad) RX1 cX1_fillPurges 4 none 3 0 0)  : ∀ (n : Nat) (f : kMem) (x2 : Int32), K p l e R s m args below meth c (wC G ad) 4 (kQF below (wC G ad) none args s z) z 0 0 f 2 [(0, .ref (kad (wC G ad) 288)), (1, .ref (kad (wC G ad) 1)), (2, .int x2)] [] (cl_X1_fillPurges_2 n f x2) := by
  intro n
  induction n with
  | zero => intro f x2; exact K_none
  | succ n ih =>
    intro f x2
    unfold cl_X1_fillPurges_2
    refine K_iload_n C 2 rfl rfl dX1_fillPurges_2 ?_
    refine K_bipush C (v := 7) (by decide) dX1_fillPurges_3 ?_
    refine K_icmp_ge C (tgt := 47) (by decide) dX1_fillPurges_5 ?_ ?_
    · exact K_vret C rfl dX1_fillPurges_47
    · refine K_iconst C (v := 0) (by decide) dX1_fillPurges_8 ?_
      refine K_istore_n C (lv1 := [(3, .int 0), (0, .ref (kad (wC G ad) 288)), (1, .ref (kad (wC G ad) 1)), (2, .int x2)]) rfl (by decide) rfl dX1_fillPurges_9 ?_
      refine K_sub [1, 2, 3, 0] rfl ?_
      refine kcl_X1_fillPurges_10 C _ (fun g6 x2_5 => ?_) 100 f x2 0
      refine K_iinc C (k := 2) (lv1 := fun x2_7 => [(2, .int x2_7), (0, .ref (kad (wC G ad) 288)), (1, .ref (kad (wC G ad) 1))]) rfl (by decide) (fun _ => rfl) dX1_fillPurges_41 (fun x2_7 => ?_)
      refine K_goto C (tgt := 2) (by decide) dX1_fillPurges_44 ?_
      refine K_sub [1, 2, 0] rfl ?_
      exact ih g6 x2_7
set_option maxRecDepth 100000 in
set_option maxHeartbeats 4000000 in
theorem km_X1_fillPurges (l : Launch) (G : kG) (ad : Nat → Nat) (f : kMem) (r : Int32) (fo : kMem) (h : cf_X1_fillPurges f = some (r, fo)) : kMet l (wC G ad) yX1_fillPurges cX1_fillPurges 4 none 3 [.ref (kad (wC G ad) 288), .ref (kad (wC G ad) 1)] f r fo := by
  refine kMet_of (own := RX1) (lv := [(0, .ref (kad (wC G ad) 288)), (1, .ref (kad (wC G ad) 1))]) (by decide) rfl (Nat.le_of_ble_eq_true rfl) rfl h ?_
  intro p e R s m args below meth c C
  unfold cf_X1_fillPurges
  refine K_iconst C (v := 0) (by decide) dX1_fillPurges_0 ?_
  refine K_istore_n C (lv1 := [(2, .int 0), (0, .ref (kad (wC G ad) 288)), (1, .ref (kad (wC G ad) 1))]) rfl (by decide) rfl dX1_fillPurges_1 ?_
  refine K_sub [1, 2, 0] rfl ?_
  exact kcl_X1_fillPurges_2 C 100 f 0
def cf_X1_sumThrough (f : kMem) (x1 x2 x3 : Int32) : Option (Int32 × kMem) := kchk (kin ((x1 * 6) + x2) 42) (kchk (kin ((((x3 &&& ((1 <<< (x2 &&& 31)) ^^^ (-1))) * 7) + x2) + 1) 448) (some (((f 289 (Int32.toNatClampNeg ((x1 * 6) + x2))) + (f 290 (Int32.toNatClampNeg ((((x3 &&& ((1 <<< (x2 &&& 31)) ^^^ (-1))) * 7) + x2) + 1)))), f)))
set_option maxRecDepth 100000 in
set_option maxHeartbeats 4000000 in
theorem km_X1_sumThrough (l : Launch) (G : kG) (ad : Nat → Nat) (f : kMem) (x1 x2 x3 : Int32) (r : Int32) (fo : kMem) (h : cf_X1_sumThrough f x1 x2 x3 = some (r, fo)) : kMet l (wC G ad) yX1_sumThrough cX1_sumThrough 4 (some .int) 0 [.ref (kad (wC G ad) 288), .int x1, .int x2, .int x3] f r fo := by
  refine kMet_of (own := RX1) (lv := [(0, .ref (kad (wC G ad) 288)), (1, .int x1), (2, .int x2), (3, .int x3)]) (by decide) rfl (Nat.le_of_ble_eq_true rfl) rfl h ?_
  intro p e R s m args below meth c C
  unfold cf_X1_sumThrough
  refine K_aload_n C 0 rfl rfl dX1_sumThrough_0 ?_
  refine K_getR C kin_X1 rfl (Nat.le_of_ble_eq_true rfl) (shC_288 G ad) 0 (by decide) (b := 289) rfl wf_X1_11 rfl dX1_sumThrough_1 ?_
  refine K_iload_n C 1 rfl rfl dX1_sumThrough_4 ?_
  refine K_bipush C (v := 6) (by decide) dX1_sumThrough_5 ?_
  refine K_imul C dX1_sumThrough_7 ?_
  refine K_iload_n C 2 rfl rfl dX1_sumThrough_8 ?_
  refine K_iadd C dX1_sumThrough_9 ?_
  refine K_iald C (Nat.le_of_ble_eq_true rfl) (shC_289 G ad) dX1_sumThrough_10 ?_
  refine K_aload_n C 0 rfl rfl dX1_sumThrough_11 ?_
  refine K_getR C kin_X1 rfl (Nat.le_of_ble_eq_true rfl) (shC_288 G ad) 1 (by decide) (b := 290) rfl wf_X1_15 rfl dX1_sumThrough_12 ?_
  refine K_iload_n C 3 rfl rfl dX1_sumThrough_15 ?_
  refine K_iconst C (v := 1) (by decide) dX1_sumThrough_16 ?_
  refine K_iload_n C 2 rfl rfl dX1_sumThrough_17 ?_
  refine K_ishl C dX1_sumThrough_18 ?_
  refine K_iconst C (v := (-1)) (by decide) dX1_sumThrough_19 ?_
  refine K_ixor C dX1_sumThrough_20 ?_
  refine K_iand C dX1_sumThrough_21 ?_
  refine K_bipush C (v := 7) (by decide) dX1_sumThrough_22 ?_
  refine K_imul C dX1_sumThrough_24 ?_
  refine K_iload_n C 2 rfl rfl dX1_sumThrough_25 ?_
  refine K_iadd C dX1_sumThrough_26 ?_
  refine K_iconst C (v := 1) (by decide) dX1_sumThrough_27 ?_
  refine K_iadd C dX1_sumThrough_28 ?_
  refine K_iald C (Nat.le_of_ble_eq_true rfl) (shC_290 G ad) dX1_sumThrough_29 ?_
  refine K_iadd C dX1_sumThrough_30 ?_
  exact K_ret C rfl rfl dX1_sumThrough_31
def cl_X1_lowestBest_9 : Nat → kMem → Int32 → Int32 → Int32 → Int32 → Int32 → Option (Int32 × kMem)
  | 0, _, _, _, _, _, _ => none
  | n + 1, f, x1, x2, x3, x4, x5 => kle 6 x5 (some (x3, f)) (keq ((x2 >>> (x5 &&& 31)) &&& 1) 1 (kbind (cf_X1_sumThrough f x1 x5 x2) (fun r2 g3 => kle x4 r2 (klet (x5 + Int32.ofInt 1) (fun x5_4 => ((cl_X1_lowestBest_9 n) g3 x1 x2 x3 x4 x5_4))) (kbind (cf_X1_sumThrough g3 x1 x5 x2) (fun r5 g6 => klet (x5 + Int32.ofInt 1) (fun x5_7 => ((cl_X1_lowestBest_9 n) g6 x1 x2 x5 r5 x5_7)))))) (klet (x5 + Int32.ofInt 1) (fun x5_1 => ((cl_X1_lowestBest_9 n) f x1 x2 x3 x4 x5_1))))
def cf_X1_lowestBest (f : kMem) (x1 x2 : Int32) : Option (Int32 × kMem) := (cl_X1_lowestBest_9 100 f x1 x2 0 1000000 0)
set_option maxRecDepth 100000 in
set_option maxHeartbeats 4000000 in
theorem kcl_X1_lowestBest_9 {p : Program} {l : Launch} {e : Env} {R : Room} {s : State} {m : MethodId} {args : Array Value} {below : List Frame} {meth : Method} {c : Code} {G : kG} {ad : Nat → Nat} {z : Int32 × kMem} (C : KC p l e R s m args below meth c (wC G ad) RX1 cX1_lowestBest 6 (some .int) 1 0 0)  : ∀ (n : Nat) (f : kMem) (x1 x2 x3 x4 x5 : Int32), K p l e R s m args below meth c (wC G ad) 6 (kQF below (wC G ad) (some .int) args s z) z 0 0 f 9 [(0, .ref (kad (wC G ad) 288)), (1, .int x1), (2, .int x2), (3, .int x3), (4, .int x4), (5, .int x5)] [] (cl_X1_lowestBest_9 n f x1 x2 x3 x4 x5) := by
  intro n
  induction n with
  | zero => intro f x1 x2 x3 x4 x5; exact K_none
  | succ n ih =>
    intro f x1 x2 x3 x4 x5
    unfold cl_X1_lowestBest_9
    refine K_iload C 5 rfl dX1_lowestBest_9 ?_
    refine K_bipush C (v := 6) (by decide) dX1_lowestBest_11 ?_
    refine K_icmp_ge C (tgt := 58) (by decide) dX1_lowestBest_13 ?_ ?_
    · refine K_iload_n C 3 rfl rfl dX1_lowestBest_58 ?_
      exact K_ret C rfl rfl dX1_lowestBest_59
    · refine K_iload_n C 2 rfl rfl dX1_lowestBest_16 ?_
      refine K_iload C 5 rfl dX1_lowestBest_17 ?_
      refine K_ishr C dX1_lowestBest_19 ?_
      refine K_iconst C (v := 1) (by decide) dX1_lowestBest_20 ?_
      refine K_iand C dX1_lowestBest_21 ?_
      refine K_iconst C (v := 1) (by decide) dX1_lowestBest_22 ?_
      refine K_icmp_ne C (tgt := 52) (by decide) dX1_lowestBest_23 ?_ ?_
      · refine K_iinc C (k := 5) (lv1 := fun x5_1 => [(5, .int x5_1), (0, .ref (kad (wC G ad) 288)), (1, .int x1), (2, .int x2), (3, .int x3), (4, .int x4)]) rfl (by decide) (fun _ => rfl) dX1_lowestBest_52 (fun x5_1 => ?_)
        refine K_goto C (tgt := 9) (by decide) dX1_lowestBest_55 ?_
        refine K_sub [1, 2, 3, 4, 5, 0] rfl ?_
        exact ih f x1 x2 x3 x4 x5_1
      · refine K_aload_n C 0 rfl rfl dX1_lowestBest_26 ?_
        refine K_iload_n C 1 rfl rfl dX1_lowestBest_27 ?_
        refine K_iload C 5 rfl dX1_lowestBest_28 ?_
        refine K_iload_n C 2 rfl rfl dX1_lowestBest_30 ?_
        refine K_callVi C (As := [.int x1, .int x5, .int x2]) (rest := []) (Nat.le_of_ble_eq_true rfl) (shC_288 G ad) rfl hy_X1_sumThrough wm_X1_45 (by decide) ⟨Nat.le_refl _, Nat.le_refl _⟩ (fun rr ff hh => km_X1_sumThrough l G ad f x1 x5 x2 rr ff hh) rfl rfl (Nat.le_of_ble_eq_true rfl) rfl dX1_lowestBest_31 (fun r2 g3 => ?_)
        refine K_iload C 4 rfl dX1_lowestBest_34 ?_
        refine K_icmp_ge C (tgt := 52) (by decide) dX1_lowestBest_36 ?_ ?_
        · refine K_iinc C (k := 5) (lv1 := fun x5_4 => [(5, .int x5_4), (0, .ref (kad (wC G ad) 288)), (1, .int x1), (2, .int x2), (3, .int x3), (4, .int x4)]) rfl (by decide) (fun _ => rfl) dX1_lowestBest_52 (fun x5_4 => ?_)
          refine K_goto C (tgt := 9) (by decide) dX1_lowestBest_55 ?_
          refine K_sub [1, 2, 3, 4, 5, 0] rfl ?_
          exact ih g3 x1 x2 x3 x4 x5_4
        · refine K_aload_n C 0 rfl rfl dX1_lowestBest_39 ?_
          refine K_iload_n C 1 rfl rfl dX1_lowestBest_40 ?_
          refine K_iload C 5 rfl dX1_lowestBest_41 ?_
          refine K_iload_n C 2 rfl rfl dX1_lowestBest_43 ?_
          refine K_callVi C (As := [.int x1, .int x5, .int x2]) (rest := []) (Nat.le_of_ble_eq_true rfl) (shC_288 G ad) rfl hy_X1_sumThrough wm_X1_45 (by decide) ⟨Nat.le_refl _, Nat.le_refl _⟩ (fun rr ff hh => km_X1_sumThrough l G ad g3 x1 x5 x2 rr ff hh) rfl rfl (Nat.le_of_ble_eq_true rfl) rfl dX1_lowestBest_44 (fun r5 g6 => ?_)
          refine K_istore C (lv1 := [(4, .int r5), (0, .ref (kad (wC G ad) 288)), (1, .int x1), (2, .int x2), (3, .int x3), (5, .int x5)]) (by decide) rfl dX1_lowestBest_47 ?_
          refine K_iload C 5 rfl dX1_lowestBest_49 ?_
          refine K_istore_n C (lv1 := [(3, .int x5), (4, .int r5), (0, .ref (kad (wC G ad) 288)), (1, .int x1), (2, .int x2), (5, .int x5)]) rfl (by decide) rfl dX1_lowestBest_51 ?_
          refine K_iinc C (k := 5) (lv1 := fun x5_7 => [(5, .int x5_7), (3, .int x5), (4, .int r5), (0, .ref (kad (wC G ad) 288)), (1, .int x1), (2, .int x2)]) rfl (by decide) (fun _ => rfl) dX1_lowestBest_52 (fun x5_7 => ?_)
          refine K_goto C (tgt := 9) (by decide) dX1_lowestBest_55 ?_
          refine K_sub [3, 4, 5, 1, 2, 0] rfl ?_
          exact ih g6 x1 x2 x5 r5 x5_7
set_option maxRecDepth 100000 in
set_option maxHeartbeats 4000000 in
theorem km_X1_lowestBest (l : Launch) (G : kG) (ad : Nat → Nat) (f : kMem) (x1 x2 : Int32) (r : Int32) (fo : kMem) (h : cf_X1_lowestBest f x1 x2 = some (r, fo)) : kMet l (wC G ad) yX1_lowestBest cX1_lowestBest 6 (some .int) 1 [.ref (kad (wC G ad) 288), .int x1, .int x2] f r fo := by
  refine kMet_of (own := RX1) (lv := [(0, .ref (kad (wC G ad) 288)), (1, .int x1), (2, .int x2)]) (by decide) rfl (Nat.le_of_ble_eq_true rfl) rfl h ?_
  intro p e R s m args below meth c C
  unfold cf_X1_lowestBest
  refine K_iconst C (v := 0) (by decide) dX1_lowestBest_0 ?_
  refine K_istore_n C (lv1 := [(3, .int 0), (0, .ref (kad (wC G ad) 288)), (1, .int x1), (2, .int x2)]) rfl (by decide) rfl dX1_lowestBest_1 ?_
  refine K_ldc C (v := 1000000) wc_X1_44 dX1_lowestBest_2 ?_
  refine K_istore C (lv1 := [(4, .int 1000000), (3, .int 0), (0, .ref (kad (wC G ad) 288)), (1, .int x1), (2, .int x2)]) (by decide) rfl dX1_lowestBest_4 ?_
  refine K_iconst C (v := 0) (by decide) dX1_lowestBest_6 ?_
  refine K_istore C (lv1 := [(5, .int 0), (4, .int 1000000), (3, .int 0), (0, .ref (kad (wC G ad) 288)), (1, .int x1), (2, .int x2)]) (by decide) rfl dX1_lowestBest_7 ?_
  refine K_sub [3, 4, 5, 2, 1, 0] rfl ?_
  exact kcl_X1_lowestBest_9 C 100 f x1 x2 0 1000000 0
def cl_X1_fillSums_21 (Y76 : kMem → Int32 → Int32 → Option (Int32 × kMem)) : Nat → kMem → Int32 → Int32 → Int32 → Option (Int32 × kMem)
  | 0, _, _, _, _ => none
  | n + 1, f, x2, x3, x4 => kle 7 x4 ((Y76 f x2 x3)) (keq (x3 &&& (x2 ^^^ (-1))) 0 (keq x3 0 (kchk (kin ((x3 * 7) + x4) 448) (kmem (kup f 290 (Int32.toNatClampNeg ((x3 * 7) + x4)) 0) (fun g9 => klet (x4 + Int32.ofInt 1) (fun x4_10 => ((cl_X1_fillSums_21 Y76 n) g9 x2 x3 x4_10))))) (kbind (cf_X1_lowestBest f x4 x3) (fun r3 g4 => kbind (cf_X1_sumThrough g4 x4 r3 x3) (fun r5 g6 => kchk (kin ((x3 * 7) + x4) 448) (kmem (kup g6 290 (Int32.toNatClampNeg ((x3 * 7) + x4)) r5) (fun g7 => klet (x4 + Int32.ofInt 1) (fun x4_8 => ((cl_X1_fillSums_21 Y76 n) g7 x2 x3 x4_8)))))))) ((Y76 f x2 x3)))
def cl_X1_fillSums_7 : Nat → kMem → Int32 → Int32 → Option (Int32 × kMem)
  | 0, _, _, _ => none
  | n + 1, f, x2, x3 => klt x2 x3 (some (0, f)) (kle 64 x3 (some (0, f)) ((cl_X1_fillSums_21 (fun g13 x2_11 x3_12 => klet (x3_12 + Int32.ofInt 1) (fun x3_14 => ((cl_X1_fillSums_7 n) g13 x2_11 x3_14))) 100 f x2 x3 0)))
def cf_X1_fillSums (f : kMem) (x2 : Int32) : Option (Int32 × kMem) := kbind (cf_X1_fillPurges f) (fun r1 g2 => (cl_X1_fillSums_7 100 g2 x2 0))
set_option maxRecDepth 100000 in
set_option maxHeartbeats 4000000 in
theorem kcl_X1_fillSums_21 {p : Program} {l : Launch} {e : Env} {R : Room} {s : State} {m : MethodId} {args : Array Value} {below : List Frame} {meth : Method} {c : Code} {G : kG} {ad : Nat → Nat} {z : Int32 × kMem} (C : KC p l e R s m args below meth c (wC G ad) RX1 cX1_fillSums 5 none 4 0 0) (Y76 : kMem → Int32 → Int32 → Option (Int32 × kMem)) (hY76 : ∀ (f : kMem) (x2 x3 : Int32), K p l e R s m args below meth c (wC G ad) 5 (kQF below (wC G ad) none args s z) z 0 0 f 76 [(0, .ref (kad (wC G ad) 288)), (2, .int x2), (3, .int x3)] [] (Y76 f x2 x3)) : ∀ (n : Nat) (f : kMem) (x2 x3 x4 : Int32), K p l e R s m args below meth c (wC G ad) 5 (kQF below (wC G ad) none args s z) z 0 0 f 21 [(0, .ref (kad (wC G ad) 288)), (2, .int x2), (3, .int x3), (4, .int x4)] [] (cl_X1_fillSums_21 Y76 n f x2 x3 x4) := by
  intro n
  induction n with
  | zero => intro f x2 x3 x4; exact K_none
  | succ n ih =>
    intro f x2 x3 x4
    unfold cl_X1_fillSums_21
    refine K_iload C 3 rfl dX1_fillSums_21 ?_
    refine K_bipush C (v := 7) (by decide) dX1_fillSums_23 ?_
    refine K_icmp_ge C (tgt := 76) (by decide) dX1_fillSums_25 ?_ ?_
    · refine K_sub [0, 1, 2] rfl ?_
      exact hY76 f x2 x3
    · refine K_iload_n C 2 rfl rfl dX1_fillSums_28 ?_
      refine K_iload_n C 1 rfl rfl dX1_fillSums_29 ?_
      refine K_iconst C (v := (-1)) (by decide) dX1_fillSums_30 ?_
      refine K_ixor C dX1_fillSums_31 ?_
      refine K_iand C dX1_fillSums_32 ?_
      refine K_if_ne C (tgt := 76) (by decide) dX1_fillSums_33 ?_ ?_
      · refine K_sub [0, 1, 2] rfl ?_
        exact hY76 f x2 x3
      · refine K_aload_n C 0 rfl rfl dX1_fillSums_36 ?_
        refine K_getR C kin_X1 rfl (Nat.le_of_ble_eq_true rfl) (shC_288 G ad) 1 (by decide) (b := 290) rfl wf_X1_15 rfl dX1_fillSums_37 ?_
        refine K_iload_n C 2 rfl rfl dX1_fillSums_40 ?_
        refine K_bipush C (v := 7) (by decide) dX1_fillSums_41 ?_
        refine K_imul C dX1_fillSums_43 ?_
        refine K_iload C 3 rfl dX1_fillSums_44 ?_
        refine K_iadd C dX1_fillSums_46 ?_
        refine K_iload_n C 2 rfl rfl dX1_fillSums_47 ?_
        refine K_if_ne C (tgt := 55) (by decide) dX1_fillSums_48 ?_ ?_
        · refine K_aload_n C 0 rfl rfl dX1_fillSums_55 ?_
          refine K_iload C 3 rfl dX1_fillSums_56 ?_
          refine K_aload_n C 0 rfl rfl dX1_fillSums_58 ?_
          refine K_iload C 3 rfl dX1_fillSums_59 ?_
          refine K_iload_n C 2 rfl rfl dX1_fillSums_61 ?_
          refine K_callVi C (As := [.int x4, .int x3]) (rest := [.int x4, .ref (kad (wC G ad) 288), .int ((x3 * 7) + x4), .ref (kad (wC G ad) 290)]) (Nat.le_of_ble_eq_true rfl) (shC_288 G ad) rfl hy_X1_lowestBest wm_X1_40 (by decide) ⟨Nat.le_refl _, Nat.le_refl _⟩ (fun rr ff hh => km_X1_lowestBest l G ad f x4 x3 rr ff hh) rfl rfl (Nat.le_of_ble_eq_true rfl) rfl dX1_fillSums_62 (fun r3 g4 => ?_)
          refine K_iload_n C 2 rfl rfl dX1_fillSums_65 ?_
          refine K_callVi C (As := [.int x4, .int r3, .int x3]) (rest := [.int ((x3 * 7) + x4), .ref (kad (wC G ad) 290)]) (Nat.le_of_ble_eq_true rfl) (shC_288 G ad) rfl hy_X1_sumThrough wm_X1_45 (by decide) ⟨Nat.le_refl _, Nat.le_refl _⟩ (fun rr ff hh => km_X1_sumThrough l G ad g4 x4 r3 x3 rr ff hh) rfl rfl (Nat.le_of_ble_eq_true rfl) rfl dX1_fillSums_66 (fun r5 g6 => ?_)
          refine K_iast C (Nat.le_of_ble_eq_true rfl) (shC_290 G ad) dX1_fillSums_69 (fun g7 => ?_)
          refine K_iinc C (k := 3) (lv1 := fun x4_8 => [(4, .int x4_8), (0, .ref (kad (wC G ad) 288)), (2, .int x2), (3, .int x3)]) rfl (by decide) (fun _ => rfl) dX1_fillSums_70 (fun x4_8 => ?_)
          refine K_goto C (tgt := 21) (by decide) dX1_fillSums_73 ?_
          refine K_sub [1, 2, 3, 0] rfl ?_
          exact ih g7 x2 x3 x4_8
        · refine K_iconst C (v := 0) (by decide) dX1_fillSums_51 ?_
          refine K_goto C (tgt := 69) (by decide) dX1_fillSums_52 ?_
          refine K_iast C (Nat.le_of_ble_eq_true rfl) (shC_290 G ad) dX1_fillSums_69 (fun g9 => ?_)
          refine K_iinc C (k := 3) (lv1 := fun x4_10 => [(4, .int x4_10), (0, .ref (kad (wC G ad) 288)), (2, .int x2), (3, .int x3)]) rfl (by decide) (fun _ => rfl) dX1_fillSums_70 (fun x4_10 => ?_)
          refine K_goto C (tgt := 21) (by decide) dX1_fillSums_73 ?_
          refine K_sub [1, 2, 3, 0] rfl ?_
          exact ih g9 x2 x3 x4_10
set_option maxRecDepth 100000 in
set_option maxHeartbeats 4000000 in
theorem kcl_X1_fillSums_7 {p : Program} {l : Launch} {e : Env} {R : Room} {s : State} {m : MethodId} {args : Array Value} {below : List Frame} {meth : Method} {c : Code} {G : kG} {ad : Nat → Nat} {z : Int32 × kMem} (C : KC p l e R s m args below meth c (wC G ad) RX1 cX1_fillSums 5 none 4 0 0)  : ∀ (n : Nat) (f : kMem) (x2 x3 : Int32), K p l e R s m args below meth c (wC G ad) 5 (kQF below (wC G ad) none args s z) z 0 0 f 7 [(0, .ref (kad (wC G ad) 288)), (2, .int x2), (3, .int x3)] [] (cl_X1_fillSums_7 n f x2 x3) := by
  intro n
  induction n with
  | zero => intro f x2 x3; exact K_none
  | succ n ih =>
    intro f x2 x3
    unfold cl_X1_fillSums_7
    refine K_iload_n C 2 rfl rfl dX1_fillSums_7 ?_
    refine K_iload_n C 1 rfl rfl dX1_fillSums_8 ?_
    refine K_icmp_gt C (tgt := 82) (by decide) dX1_fillSums_9 ?_ ?_
    · exact K_vret C rfl dX1_fillSums_82
    · refine K_iload_n C 2 rfl rfl dX1_fillSums_12 ?_
      refine K_bipush C (v := 64) (by decide) dX1_fillSums_13 ?_
      refine K_icmp_ge C (tgt := 82) (by decide) dX1_fillSums_15 ?_ ?_
      · exact K_vret C rfl dX1_fillSums_82
      · refine K_iconst C (v := 0) (by decide) dX1_fillSums_18 ?_
        refine K_istore C (lv1 := [(4, .int 0), (0, .ref (kad (wC G ad) 288)), (2, .int x2), (3, .int x3)]) (by decide) rfl dX1_fillSums_19 ?_
        refine K_sub [1, 2, 3, 0] rfl ?_
        refine kcl_X1_fillSums_21 C _ (fun g13 x2_11 x3_12 => ?_) 100 f x2 x3 0
        refine K_iinc C (k := 2) (lv1 := fun x3_14 => [(3, .int x3_14), (0, .ref (kad (wC G ad) 288)), (2, .int x2_11)]) rfl (by decide) (fun _ => rfl) dX1_fillSums_76 (fun x3_14 => ?_)
        refine K_goto C (tgt := 7) (by decide) dX1_fillSums_79 ?_
        refine K_sub [1, 2, 0] rfl ?_
        exact ih g13 x2_11 x3_14
set_option maxRecDepth 100000 in
set_option maxHeartbeats 4000000 in
theorem km_X1_fillSums (l : Launch) (G : kG) (ad : Nat → Nat) (f : kMem) (x2 : Int32) (r : Int32) (fo : kMem) (h : cf_X1_fillSums f x2 = some (r, fo)) : kMet l (wC G ad) yX1_fillSums cX1_fillSums 5 none 4 [.ref (kad (wC G ad) 288), .ref (kad (wC G ad) 1), .int x2] f r fo := by
  refine kMet_of (own := RX1) (lv := [(0, .ref (kad (wC G ad) 288)), (1, .ref (kad (wC G ad) 1)), (2, .int x2)]) (by decide) rfl (Nat.le_of_ble_eq_true rfl) rfl h ?_
  intro p e R s m args below meth c C
  unfold cf_X1_fillSums
  refine K_aload_n C 0 rfl rfl dX1_fillSums_0 ?_
  refine K_aload_n C 1 rfl rfl dX1_fillSums_1 ?_
  refine K_callVv C (As := [.ref (kad (wC G ad) 1)]) (rest := []) (Nat.le_of_ble_eq_true rfl) (shC_288 G ad) rfl hy_X1_fillPurges wm_X1_32 (by decide) ⟨Nat.le_refl _, Nat.le_refl _⟩ (fun rr ff hh => km_X1_fillPurges l G ad f rr ff hh) rfl rfl (Nat.le_of_ble_eq_true rfl) rfl dX1_fillSums_2 (fun r1 g2 => ?_)
  refine K_iconst C (v := 0) (by decide) dX1_fillSums_5 ?_
  refine K_istore_n C (lv1 := [(3, .int 0), (0, .ref (kad (wC G ad) 288)), (1, .ref (kad (wC G ad) 1)), (2, .int x2)]) rfl (by decide) rfl dX1_fillSums_6 ?_
  refine K_sub [1, 3, 0] rfl ?_
  exact kcl_X1_fillSums_7 C 100 g2 x2 0
def cf_X1_leastSum (f : kMem) (x2 : Int32) : Option (Int32 × kMem) := kbind (cf_X1_fillSums f x2) (fun r1 g2 => kchk (kin (((x2 * 7) + (g2 0 7)) + 1) 448) (some ((g2 290 (Int32.toNatClampNeg (((x2 * 7) + (g2 0 7)) + 1))), g2)))
set_option maxRecDepth 100000 in
set_option maxHeartbeats 4000000 in
theorem km_X1_leastSum (l : Launch) (G : kG) (ad : Nat → Nat) (f : kMem) (x2 : Int32) (r : Int32) (fo : kMem) (h : cf_X1_leastSum f x2 = some (r, fo)) : kMet l (wC G ad) yX1_leastSum cX1_leastSum 3 (some .int) 5 [.ref (kad (wC G ad) 288), .ref (kad (wC G ad) 0), .int x2] f r fo := by
  refine kMet_of (own := RX1) (lv := [(0, .ref (kad (wC G ad) 288)), (1, .ref (kad (wC G ad) 0)), (2, .int x2)]) (by decide) rfl (Nat.le_of_ble_eq_true rfl) rfl h ?_
  intro p e R s m args below meth c C
  unfold cf_X1_leastSum
  refine K_aload_n C 0 rfl rfl dX1_leastSum_0 ?_
  refine K_aload_n C 1 rfl rfl dX1_leastSum_1 ?_
  refine K_getR C kin_X4 rfl (Nat.le_of_ble_eq_true rfl) (shC_0 G ad) 0 (by decide) (b := 1) rfl wf_X1_18 rfl dX1_leastSum_2 ?_
  refine K_iload_n C 2 rfl rfl dX1_leastSum_5 ?_
  refine K_callVv C (As := [.ref (kad (wC G ad) 1), .int x2]) (rest := []) (Nat.le_of_ble_eq_true rfl) (shC_288 G ad) rfl hy_X1_fillSums wm_X1_24 (by decide) ⟨Nat.le_refl _, Nat.le_refl _⟩ (fun rr ff hh => km_X1_fillSums l G ad f x2 rr ff hh) rfl rfl (Nat.le_of_ble_eq_true rfl) rfl dX1_leastSum_6 (fun r1 g2 => ?_)
  refine K_aload_n C 0 rfl rfl dX1_leastSum_9 ?_
  refine K_getR C kin_X1 rfl (Nat.le_of_ble_eq_true rfl) (shC_288 G ad) 1 (by decide) (b := 290) rfl wf_X1_15 rfl dX1_leastSum_10 ?_
  refine K_iload_n C 2 rfl rfl dX1_leastSum_13 ?_
  refine K_bipush C (v := 7) (by decide) dX1_leastSum_14 ?_
  refine K_imul C dX1_leastSum_16 ?_
  refine K_aload_n C 1 rfl rfl dX1_leastSum_17 ?_
  refine K_getI C kin_X4 rfl (Nat.le_of_ble_eq_true rfl) (shC_0 G ad) 7 (by decide) rfl wf_X1_28 rfl dX1_leastSum_18 ?_
  refine K_iadd C dX1_leastSum_21 ?_
  refine K_iconst C (v := 1) (by decide) dX1_leastSum_22 ?_
  refine K_iadd C dX1_leastSum_23 ?_
  refine K_iald C (Nat.le_of_ble_eq_true rfl) (shC_290 G ad) dX1_leastSum_24 ?_
  exact K_ret C rfl rfl dX1_leastSum_25
def cl_X1_colourAt_26 : Nat → kMem → Int32 → Int32 → Int32 → Int32 → Int32 → Option (Int32 × kMem)
  | 0, _, _, _, _, _, _ => none
  | n + 1, f, x3, x4, x5, x6, x7 => klt x3 x7 (some (x6, f)) (keq x4 0 (some (x6, f)) (kbind (cf_X1_lowestBest f x5 x4) (fun r4 g5 => klet (x4 &&& ((1 <<< (r4 &&& 31)) ^^^ (-1))) (fun x4_6 => klet (r4 + 1) (fun x5_7 => klet (x7 + Int32.ofInt 1) (fun x7_8 => ((cl_X1_colourAt_26 n) g5 x3 x4_6 x5_7 r4 x7_8)))))))
def cf_X1_colourAt (f : kMem) (x2 x3 : Int32) : Option (Int32 × kMem) := kbind (cf_X1_fillSums f x2) (fun r1 g2 => klet ((g2 0 7) + 1) (fun x5_3 => (cl_X1_colourAt_26 100 g2 x3 x2 x5_3 (-1) 0)))
set_option maxRecDepth 100000 in
set_option maxHeartbeats 4000000 in
theorem kcl_X1_colourAt_26 {p : Program} {l : Launch} {e : Env} {R : Room} {s : State} {m : MethodId} {args : Array Value} {below : List Frame} {meth : Method} {c : Code} {G : kG} {ad : Nat → Nat} {z : Int32 × kMem} (C : KC p l e R s m args below meth c (wC G ad) RX1 cX1_colourAt 8 (some .int) 5 0 0)  : ∀ (n : Nat) (f : kMem) (x3 x4 x5 x6 x7 : Int32), K p l e R s m args below meth c (wC G ad) 8 (kQF below (wC G ad) (some .int) args s z) z 0 0 f 26 [(0, .ref (kad (wC G ad) 288)), (3, .int x3), (4, .int x4), (5, .int x5), (6, .int x6), (7, .int x7)] [] (cl_X1_colourAt_26 n f x3 x4 x5 x6 x7) := by
  intro n
  induction n with
  | zero => intro f x3 x4 x5 x6 x7; exact K_none
  | succ n ih =>
    intro f x3 x4 x5 x6 x7
    unfold cl_X1_colourAt_26
    refine K_iload C 5 rfl dX1_colourAt_26 ?_
    refine K_iload_n C 1 rfl rfl dX1_colourAt_28 ?_
    refine K_icmp_gt C (tgt := 70) (by decide) dX1_colourAt_29 ?_ ?_
    · refine K_iload C 4 rfl dX1_colourAt_70 ?_
      exact K_ret C rfl rfl dX1_colourAt_72
    · refine K_iload C 2 rfl dX1_colourAt_32 ?_
      refine K_if_eq C (tgt := 70) (by decide) dX1_colourAt_34 ?_ ?_
      · refine K_iload C 4 rfl dX1_colourAt_70 ?_
        exact K_ret C rfl rfl dX1_colourAt_72
      · refine K_aload_n C 0 rfl rfl dX1_colourAt_37 ?_
        refine K_iload C 3 rfl dX1_colourAt_38 ?_
        refine K_iload C 2 rfl dX1_colourAt_40 ?_
        refine K_callVi C (As := [.int x5, .int x4]) (rest := []) (Nat.le_of_ble_eq_true rfl) (shC_288 G ad) rfl hy_X1_lowestBest wm_X1_40 (by decide) ⟨Nat.le_refl _, Nat.le_refl _⟩ (fun rr ff hh => km_X1_lowestBest l G ad f x5 x4 rr ff hh) rfl rfl (Nat.le_of_ble_eq_true rfl) rfl dX1_colourAt_42 (fun r4 g5 => ?_)
        refine K_istore C (lv1 := [(6, .int r4), (0, .ref (kad (wC G ad) 288)), (3, .int x3), (4, .int x4), (5, .int x5), (7, .int x7)]) (by decide) rfl dX1_colourAt_45 ?_
        refine K_iload C 3 rfl dX1_colourAt_47 ?_
        refine K_iconst C (v := 1) (by decide) dX1_colourAt_49 ?_
        refine K_iload C 0 rfl dX1_colourAt_50 ?_
        refine K_ishl C dX1_colourAt_52 ?_
        refine K_iconst C (v := (-1)) (by decide) dX1_colourAt_53 ?_
        refine K_ixor C dX1_colourAt_54 ?_
        refine K_iand C dX1_colourAt_55 ?_
        refine K_let rfl (fun x4_6 => ?_)
        refine K_istore C (lv1 := [(4, .int x4_6), (6, .int r4), (0, .ref (kad (wC G ad) 288)), (3, .int x3), (5, .int x5), (7, .int x7)]) (by decide) rfl dX1_colourAt_56 ?_
        refine K_iload C 1 rfl dX1_colourAt_58 ?_
        refine K_iconst C (v := 1) (by decide) dX1_colourAt_60 ?_
        refine K_iadd C dX1_colourAt_61 ?_
        refine K_let rfl (fun x5_7 => ?_)
        refine K_istore C (lv1 := [(5, .int x5_7), (4, .int x4_6), (6, .int r4), (0, .ref (kad (wC G ad) 288)), (3, .int x3), (7, .int x7)]) (by decide) rfl dX1_colourAt_62 ?_
        refine K_iinc C (k := 5) (lv1 := fun x7_8 => [(7, .int x7_8), (5, .int x5_7), (4, .int x4_6), (6, .int r4), (0, .ref (kad (wC G ad) 288)), (3, .int x3)]) rfl (by decide) (fun _ => rfl) dX1_colourAt_64 (fun x7_8 => ?_)
        refine K_goto C (tgt := 26) (by decide) dX1_colourAt_67 ?_
        refine K_sub [4, 5, 2, 1, 3, 0] rfl ?_
        exact ih g5 x3 x4_6 x5_7 r4 x7_8
set_option maxRecDepth 100000 in
set_option maxHeartbeats 4000000 in
theorem km_X1_colourAt (l : Launch) (G : kG) (ad : Nat → Nat) (f : kMem) (x2 x3 : Int32) (r : Int32) (fo : kMem) (h : cf_X1_colourAt f x2 x3 = some (r, fo)) : kMet l (wC G ad) yX1_colourAt cX1_colourAt 8 (some .int) 5 [.ref (kad (wC G ad) 288), .ref (kad (wC G ad) 0), .int x2, .int x3] f r fo := by
  refine kMet_of (own := RX1) (lv := [(0, .ref (kad (wC G ad) 288)), (1, .ref (kad (wC G ad) 0)), (2, .int x2), (3, .int x3)]) (by decide) rfl (Nat.le_of_ble_eq_true rfl) rfl h ?_
  intro p e R s m args below meth c C
  unfold cf_X1_colourAt
  refine K_aload_n C 0 rfl rfl dX1_colourAt_0 ?_
  refine K_aload_n C 1 rfl rfl dX1_colourAt_1 ?_
  refine K_getR C kin_X4 rfl (Nat.le_of_ble_eq_true rfl) (shC_0 G ad) 0 (by decide) (b := 1) rfl wf_X1_18 rfl dX1_colourAt_2 ?_
  refine K_iload_n C 2 rfl rfl dX1_colourAt_5 ?_
  refine K_callVv C (As := [.ref (kad (wC G ad) 1), .int x2]) (rest := []) (Nat.le_of_ble_eq_true rfl) (shC_288 G ad) rfl hy_X1_fillSums wm_X1_24 (by decide) ⟨Nat.le_refl _, Nat.le_refl _⟩ (fun rr ff hh => km_X1_fillSums l G ad f x2 rr ff hh) rfl rfl (Nat.le_of_ble_eq_true rfl) rfl dX1_colourAt_6 (fun r1 g2 => ?_)
  refine K_iload_n C 2 rfl rfl dX1_colourAt_9 ?_
  refine K_istore C (lv1 := [(4, .int x2), (0, .ref (kad (wC G ad) 288)), (1, .ref (kad (wC G ad) 0)), (2, .int x2), (3, .int x3)]) (by decide) rfl dX1_colourAt_10 ?_
  refine K_aload_n C 2 rfl rfl dX1_colourAt_12 ?_
  refine K_getI C kin_X4 rfl (Nat.le_of_ble_eq_true rfl) (shC_0 G ad) 7 (by decide) rfl wf_X1_28 rfl dX1_colourAt_13 ?_
  refine K_iconst C (v := 1) (by decide) dX1_colourAt_16 ?_
  refine K_iadd C dX1_colourAt_17 ?_
  refine K_let rfl (fun x5_3 => ?_)
  refine K_istore C (lv1 := [(5, .int x5_3), (4, .int x2), (0, .ref (kad (wC G ad) 288)), (1, .ref (kad (wC G ad) 0)), (2, .int x2), (3, .int x3)]) (by decide) rfl dX1_colourAt_18 ?_
  refine K_iconst C (v := (-1)) (by decide) dX1_colourAt_20 ?_
  refine K_istore C (lv1 := [(6, .int (-1)), (5, .int x5_3), (4, .int x2), (0, .ref (kad (wC G ad) 288)), (1, .ref (kad (wC G ad) 0)), (2, .int x2), (3, .int x3)]) (by decide) rfl dX1_colourAt_21 ?_
  refine K_iconst C (v := 0) (by decide) dX1_colourAt_23 ?_
  refine K_istore C (lv1 := [(7, .int 0), (6, .int (-1)), (5, .int x5_3), (4, .int x2), (0, .ref (kad (wC G ad) 288)), (1, .ref (kad (wC G ad) 0)), (2, .int x2), (3, .int x3)]) (by decide) rfl dX1_colourAt_24 ?_
  refine K_sub [4, 7, 3, 2, 1, 0] rfl ?_
  exact kcl_X1_colourAt_26 C 100 g2 x3 x2 x5_3 (-1) 0
def cl_X4_pass_22 (Y52 : kMem → Int32 → Int32 → Option (Int32 × kMem)) : Nat → kMem → Int32 → Int32 → Option (Int32 × kMem)
  | 0, _, _, _ => none
  | n + 1, f, x2, x3 => kle x3 0 (some (x2, f)) (klet (kmax 1 ((f 7 0) - (f 0 6))) (fun x4_4 => kle x4_4 x3 (klet (x3 - x4_4) (fun x3_5 => kmem (kup f 0 6 0) (fun g6 => kbind (cf_X6_endWeek g6 (g6 0 5)) (fun r7 g8 => kmem (kup g8 0 5 ((g8 0 5) + 1)) (fun g9 => klet (x2 + Int32.ofInt 1) (fun x2_10 => ((cl_X4_pass_22 Y52 n) g9 x2_10 x3_5))))))) ((Y52 f x2 x3))))
def cf_X4_pass (f : kMem) (x1 : Int32) : Option (Int32 × kMem) := kbind (cf_X2_dry f x1) (fun r1 g2 => kmem (kup g2 0 4 ((g2 0 4) + x1)) (fun g3 => (cl_X4_pass_22 (fun g13 x2_11 x3_12 => kmem (kup g13 0 6 ((g13 0 6) + x3_12)) (fun g14 => some (x2_11, g14))) 100000 g3 0 x1)))
set_option maxRecDepth 100000 in
set_option maxHeartbeats 4000000 in
theorem kcl_X4_pass_22 {p : Program} {l : Launch} {e : Env} {R : Room} {s : State} {m : MethodId} {args : Array Value} {below : List Frame} {meth : Method} {c : Code} {G : kG} {ad : Nat → Nat} {z : Int32 × kMem} (C : KC p l e R s m args below meth c (wC G ad) RX4 cX4_pass 5 (some .int) 2 0 0) (Y52 : kMem → Int32 → Int32 → Option (Int32 × kMem)) (hY52 : ∀ (f : kMem) (x2 x3 : Int32), K p l e R s m args below meth c (wC G ad) 5 (kQF below (wC G ad) (some .int) args s z) z 0 0 f 52 [(0, .ref (kad (wC G ad) 0)), (2, .int x2), (3, .int x3)] [] (Y52 f x2 x3)) : ∀ (n : Nat) (f : kMem) (x2 x3 : Int32), K p l e R s m args below meth c (wC G ad) 5 (kQF below (wC G ad) (some .int) args s z) z 0 0 f 22 [(0, .ref (kad (wC G ad) 0)), (2, .int x2), (3, .int x3)] [] (cl_X4_pass_22 Y52 n f x2 x3) := by
  intro n
  induction n with
  | zero => intro f x2 x3; exact K_none
  | succ n ih =>
    intro f x2 x3
    unfold cl_X4_pass_22
    refine K_iload_n C 2 rfl rfl dX4_pass_22 ?_
    refine K_if_le C (tgt := 105) (by decide) dX4_pass_23 ?_ ?_
    · refine K_iload_n C 1 rfl rfl dX4_pass_105 ?_
      exact K_ret C rfl rfl dX4_pass_106
    · refine K_iconst C (v := 1) (by decide) dX4_pass_26 ?_
      refine K_aload_n C 0 rfl rfl dX4_pass_27 ?_
      refine K_getR C kin_X4 rfl (Nat.le_of_ble_eq_true rfl) (shC_0 G ad) 0 (by decide) (b := 1) rfl wf_X4_12 rfl dX4_pass_28 ?_
      refine K_getR C kin_X0 rfl (Nat.le_of_ble_eq_true rfl) (shC_1 G ad) 8 (by decide) (b := 7) rfl wf_X4_87 rfl dX4_pass_31 ?_
      refine K_iconst C (v := 0) (by decide) dX4_pass_34 ?_
      refine K_ialdC C (Nat.le_of_ble_eq_true rfl) (shC_7 G ad) (kin_in (by decide)) dX4_pass_35 0 (by decide) ?_
      refine K_aload_n C 0 rfl rfl dX4_pass_36 ?_
      refine K_getI C kin_X4 rfl (Nat.le_of_ble_eq_true rfl) (shC_0 G ad) 6 (by decide) rfl wf_X4_65 rfl dX4_pass_37 ?_
      refine K_isub C dX4_pass_40 ?_
      refine K_mmax C wm_X4_169 (by decide) ⟨Nat.le_refl _, Nat.le_refl _⟩ (Nat.le_of_ble_eq_true rfl) dX4_pass_41 ?_
      refine K_let rfl (fun x4_4 => ?_)
      refine K_istore C (lv1 := [(4, .int x4_4), (0, .ref (kad (wC G ad) 0)), (2, .int x2), (3, .int x3)]) (by decide) rfl dX4_pass_44 ?_
      refine K_iload C 0 rfl dX4_pass_46 ?_
      refine K_iload_n C 3 rfl rfl dX4_pass_48 ?_
      refine K_icmp_le C (tgt := 64) (by decide) dX4_pass_49 ?_ ?_
      · refine K_iload_n C 3 rfl rfl dX4_pass_64 ?_
        refine K_iload C 0 rfl dX4_pass_65 ?_
        refine K_isub C dX4_pass_67 ?_
        refine K_let rfl (fun x3_5 => ?_)
        refine K_istore_n C (lv1 := [(3, .int x3_5), (4, .int x4_4), (0, .ref (kad (wC G ad) 0)), (2, .int x2)]) rfl (by decide) rfl dX4_pass_68 ?_
        refine K_aload_n C 2 rfl rfl dX4_pass_69 ?_
        refine K_iconst C (v := 0) (by decide) dX4_pass_70 ?_
        refine K_putI C kin_X4 rfl (Nat.le_of_ble_eq_true rfl) (shC_0 G ad) 6 (by decide) rfl wf_X4_65 rfl tyX4 tyX4_ok nmX4 (by decide) (ty := .int) (by decide +kernel) rfl rfl dX4_pass_71 (fun g6 => ?_)
        refine K_aload_n C 2 rfl rfl dX4_pass_74 ?_
        refine K_getR C kin_X4 rfl (Nat.le_of_ble_eq_true rfl) (shC_0 G ad) 3 (by decide) (b := 18) rfl wf_X4_35 rfl dX4_pass_75 ?_
        refine K_aload_n C 2 rfl rfl dX4_pass_78 ?_
        refine K_getI C kin_X4 rfl (Nat.le_of_ble_eq_true rfl) (shC_0 G ad) 5 (by decide) rfl wf_X4_62 rfl dX4_pass_79 ?_
        refine K_aload_n C 2 rfl rfl dX4_pass_82 ?_
        refine K_getR C kin_X4 rfl (Nat.le_of_ble_eq_true rfl) (shC_0 G ad) 2 (by decide) (b := 12) rfl wf_X4_28 rfl dX4_pass_83 ?_
        refine K_callVv C (As := [.int (g6 0 5), .ref (kad (wC G ad) 12)]) (rest := []) (Nat.le_of_ble_eq_true rfl) (shC_18 G ad) rfl hy_X6_endWeek wm_X4_174 (by decide) ⟨Nat.le_refl _, Nat.le_refl _⟩ (fun rr ff hh => km_X6_endWeek l G ad g6 (g6 0 5) rr ff hh) rfl rfl (Nat.le_of_ble_eq_true rfl) rfl dX4_pass_86 (fun r7 g8 => ?_)
        refine K_aload_n C 2 rfl rfl dX4_pass_89 ?_
        refine K_dup C rfl dX4_pass_90 ?_
        refine K_getI C kin_X4 rfl (Nat.le_of_ble_eq_true rfl) (shC_0 G ad) 5 (by decide) rfl wf_X4_62 rfl dX4_pass_91 ?_
        refine K_iconst C (v := 1) (by decide) dX4_pass_94 ?_
        refine K_iadd C dX4_pass_95 ?_
        refine K_putI C kin_X4 rfl (Nat.le_of_ble_eq_true rfl) (shC_0 G ad) 5 (by decide) rfl wf_X4_62 rfl tyX4 tyX4_ok nmX4 (by decide) (ty := .int) (by decide +kernel) rfl rfl dX4_pass_96 (fun g9 => ?_)
        refine K_iinc C (k := 3) (lv1 := fun x2_10 => [(2, .int x2_10), (3, .int x3_5), (4, .int x4_4), (0, .ref (kad (wC G ad) 0))]) rfl (by decide) (fun _ => rfl) dX4_pass_99 (fun x2_10 => ?_)
        refine K_goto C (tgt := 22) (by decide) dX4_pass_102 ?_
        refine K_sub [3, 0, 1] rfl ?_
        exact ih g9 x2_10 x3_5
      · refine K_sub [1, 2, 3] rfl ?_
        exact hY52 f x2 x3
set_option maxRecDepth 100000 in
set_option maxHeartbeats 4000000 in
theorem km_X4_pass (l : Launch) (G : kG) (ad : Nat → Nat) (f : kMem) (x1 : Int32) (r : Int32) (fo : kMem) (h : cf_X4_pass f x1 = some (r, fo)) : kMet l (wC G ad) yX4_pass cX4_pass 5 (some .int) 2 [.ref (kad (wC G ad) 0), .int x1] f r fo := by
  refine kMet_of (own := RX4) (lv := [(0, .ref (kad (wC G ad) 0)), (1, .int x1)]) (by decide) rfl (Nat.le_of_ble_eq_true rfl) rfl h ?_
  intro p e R s m args below meth c C
  unfold cf_X4_pass
  refine K_aload_n C 0 rfl rfl dX4_pass_0 ?_
  refine K_getR C kin_X4 rfl (Nat.le_of_ble_eq_true rfl) (shC_0 G ad) 1 (by decide) (b := 8) rfl wf_X4_21 rfl dX4_pass_1 ?_
  refine K_iload_n C 1 rfl rfl dX4_pass_4 ?_
  refine K_callVv C (As := [.int x1]) (rest := []) (Nat.le_of_ble_eq_true rfl) (shC_8 G ad) rfl hy_X2_dry wm_X4_165 (by decide) ⟨Nat.le_refl _, Nat.le_refl _⟩ (fun rr ff hh => km_X2_dry l G ad f x1 rr ff hh) rfl rfl (Nat.le_of_ble_eq_true rfl) rfl dX4_pass_5 (fun r1 g2 => ?_)
  refine K_aload_n C 0 rfl rfl dX4_pass_8 ?_
  refine K_dup C rfl dX4_pass_9 ?_
  refine K_getI C kin_X4 rfl (Nat.le_of_ble_eq_true rfl) (shC_0 G ad) 4 (by decide) rfl wf_X4_59 rfl dX4_pass_10 ?_
  refine K_iload_n C 1 rfl rfl dX4_pass_13 ?_
  refine K_iadd C dX4_pass_14 ?_
  refine K_putI C kin_X4 rfl (Nat.le_of_ble_eq_true rfl) (shC_0 G ad) 4 (by decide) rfl wf_X4_59 rfl tyX4 tyX4_ok nmX4 (by decide) (ty := .int) (by decide +kernel) rfl rfl dX4_pass_15 (fun g3 => ?_)
  refine K_iconst C (v := 0) (by decide) dX4_pass_18 ?_
  refine K_istore_n C (lv1 := [(2, .int 0), (0, .ref (kad (wC G ad) 0)), (1, .int x1)]) rfl (by decide) rfl dX4_pass_19 ?_
  refine K_iload_n C 2 rfl rfl dX4_pass_20 ?_
  refine K_istore_n C (lv1 := [(3, .int x1), (2, .int 0), (0, .ref (kad (wC G ad) 0)), (1, .int x1)]) rfl (by decide) rfl dX4_pass_21 ?_
  refine K_sub [2, 1, 0] rfl ?_
  refine kcl_X4_pass_22 C _ (fun g13 x2_11 x3_12 => ?_) 100000 g3 0 x1
  refine K_aload_n C 0 rfl rfl dX4_pass_52 ?_
  refine K_dup C rfl dX4_pass_53 ?_
  refine K_getI C kin_X4 rfl (Nat.le_of_ble_eq_true rfl) (shC_0 G ad) 6 (by decide) rfl wf_X4_65 rfl dX4_pass_54 ?_
  refine K_iload_n C 2 rfl rfl dX4_pass_57 ?_
  refine K_iadd C dX4_pass_58 ?_
  refine K_putI C kin_X4 rfl (Nat.le_of_ble_eq_true rfl) (shC_0 G ad) 6 (by decide) rfl wf_X4_65 rfl tyX4 tyX4_ok nmX4 (by decide) (ty := .int) (by decide +kernel) rfl rfl dX4_pass_59 (fun g14 => ?_)
  refine K_iload_n C 1 rfl rfl dX4_pass_62 ?_
  exact K_ret C rfl rfl dX4_pass_63
def cf_X4_mountFamily (f : kMem) (x1 : Int32) : Option (Int32 × kMem) := kbind (cf_X0_isFamily f x1) (fun r1 g2 => keq r1 0 (kbind (cf_X8_refuse g2 1 0) (fun r8 g9 => some (r8, g9))) (keq (g2 0 8) x1 (kbind (cf_X8_refuse g2 4 0) (fun r6 g7 => some (r6, g7))) (kmem (kup g2 0 8 x1) (fun g3 => kbind (cf_X4_pass g3 (g3 7 3)) (fun r4 g5 => some (r4, g5))))))
set_option maxRecDepth 100000 in
set_option maxHeartbeats 4000000 in
theorem km_X4_mountFamily (l : Launch) (G : kG) (ad : Nat → Nat) (f : kMem) (x1 : Int32) (r : Int32) (fo : kMem) (h : cf_X4_mountFamily f x1 = some (r, fo)) : kMet l (wC G ad) yX4_mountFamily cX4_mountFamily 3 (some .int) 3 [.ref (kad (wC G ad) 0), .int x1, .ref (kad (wC G ad) 277)] f r fo := by
  refine kMet_of (own := RX4) (lv := [(0, .ref (kad (wC G ad) 0)), (1, .int x1), (2, .ref (kad (wC G ad) 277))]) (by decide) rfl (Nat.le_of_ble_eq_true rfl) rfl h ?_
  intro p e R s m args below meth c C
  unfold cf_X4_mountFamily
  refine K_aload_n C 0 rfl rfl dX4_mountFamily_0 ?_
  refine K_getR C kin_X4 rfl (Nat.le_of_ble_eq_true rfl) (shC_0 G ad) 0 (by decide) (b := 1) rfl wf_X4_12 rfl dX4_mountFamily_1 ?_
  refine K_iload_n C 1 rfl rfl dX4_mountFamily_4 ?_
  refine K_callVi C (As := [.int x1]) (rest := []) (Nat.le_of_ble_eq_true rfl) (shC_1 G ad) rfl hy_X0_isFamily wm_X4_77 (by decide) ⟨Nat.le_refl _, Nat.le_refl _⟩ (fun rr ff hh => km_X0_isFamily l G ad f x1 rr ff hh) rfl rfl (Nat.le_of_ble_eq_true rfl) rfl dX4_mountFamily_5 (fun r1 g2 => ?_)
  refine K_if_ne C (tgt := 18) (by decide) dX4_mountFamily_8 ?_ ?_
  · refine K_aload_n C 0 rfl rfl dX4_mountFamily_18 ?_
    refine K_getI C kin_X4 rfl (Nat.le_of_ble_eq_true rfl) (shC_0 G ad) 8 (by decide) rfl wf_X4_43 rfl dX4_mountFamily_19 ?_
    refine K_iload_n C 1 rfl rfl dX4_mountFamily_22 ?_
    refine K_icmp_ne C (tgt := 33) (by decide) dX4_mountFamily_23 ?_ ?_
    · refine K_aload_n C 0 rfl rfl dX4_mountFamily_33 ?_
      refine K_iload_n C 1 rfl rfl dX4_mountFamily_34 ?_
      refine K_putI C kin_X4 rfl (Nat.le_of_ble_eq_true rfl) (shC_0 G ad) 8 (by decide) rfl wf_X4_43 rfl tyX4 tyX4_ok nmX4 (by decide) (ty := .int) (by decide +kernel) rfl rfl dX4_mountFamily_35 (fun g3 => ?_)
      refine K_aload_n C 0 rfl rfl dX4_mountFamily_38 ?_
      refine K_aload_n C 0 rfl rfl dX4_mountFamily_39 ?_
      refine K_getR C kin_X4 rfl (Nat.le_of_ble_eq_true rfl) (shC_0 G ad) 0 (by decide) (b := 1) rfl wf_X4_12 rfl dX4_mountFamily_40 ?_
      refine K_getR C kin_X0 rfl (Nat.le_of_ble_eq_true rfl) (shC_1 G ad) 8 (by decide) (b := 7) rfl wf_X4_87 rfl dX4_mountFamily_43 ?_
      refine K_iconst C (v := 3) (by decide) dX4_mountFamily_46 ?_
      refine K_ialdC C (Nat.le_of_ble_eq_true rfl) (shC_7 G ad) (kin_in (by decide)) dX4_mountFamily_47 3 (by decide) ?_
      refine K_callVi C (As := [.int (g3 7 3)]) (rest := []) (Nat.le_of_ble_eq_true rfl) (shC_0 G ad) rfl hy_X4_pass wm_X4_91 (by decide) ⟨Nat.le_refl _, Nat.le_refl _⟩ (fun rr ff hh => km_X4_pass l G ad g3 (g3 7 3) rr ff hh) rfl rfl (Nat.le_of_ble_eq_true rfl) rfl dX4_mountFamily_48 (fun r4 g5 => ?_)
      exact K_ret C rfl rfl dX4_mountFamily_51
    · refine K_aload_n C 2 rfl rfl dX4_mountFamily_26 ?_
      refine K_iconst C (v := 4) (by decide) dX4_mountFamily_27 ?_
      refine K_iconst C (v := 0) (by decide) dX4_mountFamily_28 ?_
      refine K_callVi C (As := [.int 4, .int 0]) (rest := []) (Nat.le_of_ble_eq_true rfl) (shC_277 G ad) rfl hy_X8_refuse wm_X4_81 (by decide) ⟨Nat.le_refl _, Nat.le_refl _⟩ (fun rr ff hh => km_X8_refuse l G ad g2 4 0 rr ff hh) rfl rfl (Nat.le_of_ble_eq_true rfl) rfl dX4_mountFamily_29 (fun r6 g7 => ?_)
      exact K_ret C rfl rfl dX4_mountFamily_32
  · refine K_aload_n C 2 rfl rfl dX4_mountFamily_11 ?_
    refine K_iconst C (v := 1) (by decide) dX4_mountFamily_12 ?_
    refine K_iconst C (v := 0) (by decide) dX4_mountFamily_13 ?_
    refine K_callVi C (As := [.int 1, .int 0]) (rest := []) (Nat.le_of_ble_eq_true rfl) (shC_277 G ad) rfl hy_X8_refuse wm_X4_81 (by decide) ⟨Nat.le_refl _, Nat.le_refl _⟩ (fun rr ff hh => km_X8_refuse l G ad g2 1 0 rr ff hh) rfl rfl (Nat.le_of_ble_eq_true rfl) rfl dX4_mountFamily_14 (fun r8 g9 => ?_)
    exact K_ret C rfl rfl dX4_mountFamily_17
def cj_X4_loadDryer_20 (f : kMem) : Option (Int32 × kMem) := kbind (cf_X8_refuse f 1 0) (fun r3 g4 => some (r3, g4))
def cf_X4_loadDryer (f : kMem) (x1 x2 x3 : Int32) : Option (Int32 × kMem) := kbind (cf_X11_isWithin f x1 0 2) (fun r1 g2 => keq r1 0 ((cj_X4_loadDryer_20 g2)) (kbind (cf_X0_isColour g2 x2) (fun r5 g6 => keq r5 0 ((cj_X4_loadDryer_20 g6)) (kbind (cf_X2_fill g6 x1 x2 x3) (fun r7 g8 => some (r7, g8))))))
set_option maxRecDepth 100000 in
set_option maxHeartbeats 4000000 in
theorem kcj_X4_loadDryer_20 {p : Program} {l : Launch} {e : Env} {R : Room} {s : State} {m : MethodId} {args : Array Value} {below : List Frame} {meth : Method} {c : Code} {G : kG} {ad : Nat → Nat} {z : Int32 × kMem} (C : KC p l e R s m args below meth c (wC G ad) RX4 cX4_loadDryer 5 (some .int) 3 0 0)  (f : kMem) : K p l e R s m args below meth c (wC G ad) 5 (kQF below (wC G ad) (some .int) args s z) z 0 0 f 20 [(4, .ref (kad (wC G ad) 277))] [] (cj_X4_loadDryer_20 f) := by
  unfold cj_X4_loadDryer_20
  refine K_aload C 0 rfl dX4_loadDryer_20 ?_
  refine K_iconst C (v := 1) (by decide) dX4_loadDryer_22 ?_
  refine K_iconst C (v := 0) (by decide) dX4_loadDryer_23 ?_
  refine K_callVi C (As := [.int 1, .int 0]) (rest := []) (Nat.le_of_ble_eq_true rfl) (shC_277 G ad) rfl hy_X8_refuse wm_X4_81 (by decide) ⟨Nat.le_refl _, Nat.le_refl _⟩ (fun rr ff hh => km_X8_refuse l G ad f 1 0 rr ff hh) rfl rfl (Nat.le_of_ble_eq_true rfl) rfl dX4_loadDryer_24 (fun r3 g4 => ?_)
  exact K_ret C rfl rfl dX4_loadDryer_27
set_option maxRecDepth 100000 in
set_option maxHeartbeats 4000000 in
theorem km_X4_loadDryer (l : Launch) (G : kG) (ad : Nat → Nat) (f : kMem) (x1 x2 x3 : Int32) (r : Int32) (fo : kMem) (h : cf_X4_loadDryer f x1 x2 x3 = some (r, fo)) : kMet l (wC G ad) yX4_loadDryer cX4_loadDryer 5 (some .int) 3 [.ref (kad (wC G ad) 0), .int x1, .int x2, .int x3, .ref (kad (wC G ad) 277)] f r fo := by
  refine kMet_of (own := RX4) (lv := [(0, .ref (kad (wC G ad) 0)), (1, .int x1), (2, .int x2), (3, .int x3), (4, .ref (kad (wC G ad) 277))]) (by decide) rfl (Nat.le_of_ble_eq_true rfl) rfl h ?_
  intro p e R s m args below meth c C
  unfold cf_X4_loadDryer
  refine K_iload_n C 1 rfl rfl dX4_loadDryer_0 ?_
  refine K_iconst C (v := 0) (by decide) dX4_loadDryer_1 ?_
  refine K_iconst C (v := 2) (by decide) dX4_loadDryer_2 ?_
  refine K_callSNi C (As := [.int x1, .int 0, .int 2]) (rest := []) hy_X11_isWithin (by decide +kernel) (by decide) ⟨Nat.le_refl _, Nat.le_refl _⟩ (fun rr ff hh => km_X11_isWithin l G ad f x1 0 2 rr ff hh) rfl rfl (Nat.le_of_ble_eq_true rfl) rfl dX4_loadDryer_3 (fun r1 g2 => ?_)
  refine K_if_eq C (tgt := 20) (by decide) dX4_loadDryer_6 ?_ ?_
  · refine K_sub [4] rfl ?_
    exact kcj_X4_loadDryer_20 C g2
  · refine K_aload_n C 0 rfl rfl dX4_loadDryer_9 ?_
    refine K_getR C kin_X4 rfl (Nat.le_of_ble_eq_true rfl) (shC_0 G ad) 0 (by decide) (b := 1) rfl wf_X4_12 rfl dX4_loadDryer_10 ?_
    refine K_iload_n C 2 rfl rfl dX4_loadDryer_13 ?_
    refine K_callVi C (As := [.int x2]) (rest := []) (Nat.le_of_ble_eq_true rfl) (shC_1 G ad) rfl hy_X0_isColour wm_X4_99 (by decide) ⟨Nat.le_refl _, Nat.le_refl _⟩ (fun rr ff hh => km_X0_isColour l G ad g2 x2 rr ff hh) rfl rfl (Nat.le_of_ble_eq_true rfl) rfl dX4_loadDryer_14 (fun r5 g6 => ?_)
    refine K_if_ne C (tgt := 28) (by decide) dX4_loadDryer_17 ?_ ?_
    · refine K_aload_n C 0 rfl rfl dX4_loadDryer_28 ?_
      refine K_getR C kin_X4 rfl (Nat.le_of_ble_eq_true rfl) (shC_0 G ad) 1 (by decide) (b := 8) rfl wf_X4_21 rfl dX4_loadDryer_29 ?_
      refine K_iload_n C 1 rfl rfl dX4_loadDryer_32 ?_
      refine K_iload_n C 2 rfl rfl dX4_loadDryer_33 ?_
      refine K_iload_n C 3 rfl rfl dX4_loadDryer_34 ?_
      refine K_aload C 4 rfl dX4_loadDryer_35 ?_
      refine K_callVi C (As := [.int x1, .int x2, .int x3, .ref (kad (wC G ad) 277)]) (rest := []) (Nat.le_of_ble_eq_true rfl) (shC_8 G ad) rfl hy_X2_fill wm_X4_102 (by decide) ⟨Nat.le_refl _, Nat.le_refl _⟩ (fun rr ff hh => km_X2_fill l G ad g6 x1 x2 x3 rr ff hh) rfl rfl (Nat.le_of_ble_eq_true rfl) rfl dX4_loadDryer_37 (fun r7 g8 => ?_)
      exact K_ret C rfl rfl dX4_loadDryer_40
    · refine K_sub [4] rfl ?_
      exact kcj_X4_loadDryer_20 C g6
def cf_X4_waitMinutes (f : kMem) (x1 : Int32) : Option (Int32 × kMem) := kbind (cf_X11_isWithin f x1 1 999) (fun r1 g2 => keq r1 0 (kbind (cf_X8_refuse g2 2 0) (fun r5 g6 => some (r5, g6))) (kbind (cf_X4_pass g2 x1) (fun r3 g4 => some (r3, g4))))
set_option maxRecDepth 100000 in
set_option maxHeartbeats 4000000 in
theorem km_X4_waitMinutes (l : Launch) (G : kG) (ad : Nat → Nat) (f : kMem) (x1 : Int32) (r : Int32) (fo : kMem) (h : cf_X4_waitMinutes f x1 = some (r, fo)) : kMet l (wC G ad) yX4_waitMinutes cX4_waitMinutes 3 (some .int) 3 [.ref (kad (wC G ad) 0), .int x1, .ref (kad (wC G ad) 277)] f r fo := by
  refine kMet_of (own := RX4) (lv := [(0, .ref (kad (wC G ad) 0)), (1, .int x1), (2, .ref (kad (wC G ad) 277))]) (by decide) rfl (Nat.le_of_ble_eq_true rfl) rfl h ?_
  intro p e R s m args below meth c C
  unfold cf_X4_waitMinutes
  refine K_iload_n C 1 rfl rfl dX4_waitMinutes_0 ?_
  refine K_iconst C (v := 1) (by decide) dX4_waitMinutes_1 ?_
  refine K_sipush C (v := 999) (by decide) dX4_waitMinutes_2 ?_
  refine K_callSNi C (As := [.int x1, .int 1, .int 999]) (rest := []) hy_X11_isWithin (by decide +kernel) (by decide) ⟨Nat.le_refl _, Nat.le_refl _⟩ (fun rr ff hh => km_X11_isWithin l G ad f x1 1 999 rr ff hh) rfl rfl (Nat.le_of_ble_eq_true rfl) rfl dX4_waitMinutes_5 (fun r1 g2 => ?_)
  refine K_if_ne C (tgt := 18) (by decide) dX4_waitMinutes_8 ?_ ?_
  · refine K_aload_n C 0 rfl rfl dX4_waitMinutes_18 ?_
    refine K_iload_n C 1 rfl rfl dX4_waitMinutes_19 ?_
    refine K_callVi C (As := [.int x1]) (rest := []) (Nat.le_of_ble_eq_true rfl) (shC_0 G ad) rfl hy_X4_pass wm_X4_91 (by decide) ⟨Nat.le_refl _, Nat.le_refl _⟩ (fun rr ff hh => km_X4_pass l G ad g2 x1 rr ff hh) rfl rfl (Nat.le_of_ble_eq_true rfl) rfl dX4_waitMinutes_20 (fun r3 g4 => ?_)
    exact K_ret C rfl rfl dX4_waitMinutes_23
  · refine K_aload_n C 2 rfl rfl dX4_waitMinutes_11 ?_
    refine K_iconst C (v := 2) (by decide) dX4_waitMinutes_12 ?_
    refine K_iconst C (v := 0) (by decide) dX4_waitMinutes_13 ?_
    refine K_callVi C (As := [.int 2, .int 0]) (rest := []) (Nat.le_of_ble_eq_true rfl) (shC_277 G ad) rfl hy_X8_refuse wm_X4_81 (by decide) ⟨Nat.le_refl _, Nat.le_refl _⟩ (fun rr ff hh => km_X8_refuse l G ad g2 2 0 rr ff hh) rfl rfl (Nat.le_of_ble_eq_true rfl) rfl dX4_waitMinutes_14 (fun r5 g6 => ?_)
    exact K_ret C rfl rfl dX4_waitMinutes_17
def cj_X4_addOrder_22 (f : kMem) : Option (Int32 × kMem) := kbind (cf_X8_refuse f 1 0) (fun r3 g4 => some (r3, g4))
def cf_X4_addOrder (f : kMem) (x1 x2 x3 x4 : Int32) : Option (Int32 × kMem) := kbind (cf_X0_isPart f x1) (fun r1 g2 => keq r1 0 ((cj_X4_addOrder_22 g2)) (kbind (cf_X0_isColour g2 x2) (fun r5 g6 => keq r5 0 ((cj_X4_addOrder_22 g6)) (kbind (cf_X6_add g6 x1 x2 x3 x4) (fun r7 g8 => some (r7, g8))))))
set_option maxRecDepth 100000 in
set_option maxHeartbeats 4000000 in
theorem kcj_X4_addOrder_22 {p : Program} {l : Launch} {e : Env} {R : Room} {s : State} {m : MethodId} {args : Array Value} {below : List Frame} {meth : Method} {c : Code} {G : kG} {ad : Nat → Nat} {z : Int32 × kMem} (C : KC p l e R s m args below meth c (wC G ad) RX4 cX4_addOrder 6 (some .int) 3 0 0)  (f : kMem) : K p l e R s m args below meth c (wC G ad) 6 (kQF below (wC G ad) (some .int) args s z) z 0 0 f 22 [(5, .ref (kad (wC G ad) 277))] [] (cj_X4_addOrder_22 f) := by
  unfold cj_X4_addOrder_22
  refine K_aload C 0 rfl dX4_addOrder_22 ?_
  refine K_iconst C (v := 1) (by decide) dX4_addOrder_24 ?_
  refine K_iconst C (v := 0) (by decide) dX4_addOrder_25 ?_
  refine K_callVi C (As := [.int 1, .int 0]) (rest := []) (Nat.le_of_ble_eq_true rfl) (shC_277 G ad) rfl hy_X8_refuse wm_X4_81 (by decide) ⟨Nat.le_refl _, Nat.le_refl _⟩ (fun rr ff hh => km_X8_refuse l G ad f 1 0 rr ff hh) rfl rfl (Nat.le_of_ble_eq_true rfl) rfl dX4_addOrder_26 (fun r3 g4 => ?_)
  exact K_ret C rfl rfl dX4_addOrder_29
set_option maxRecDepth 100000 in
set_option maxHeartbeats 4000000 in
theorem km_X4_addOrder (l : Launch) (G : kG) (ad : Nat → Nat) (f : kMem) (x1 x2 x3 x4 : Int32) (r : Int32) (fo : kMem) (h : cf_X4_addOrder f x1 x2 x3 x4 = some (r, fo)) : kMet l (wC G ad) yX4_addOrder cX4_addOrder 6 (some .int) 3 [.ref (kad (wC G ad) 0), .int x1, .int x2, .int x3, .int x4, .ref (kad (wC G ad) 277)] f r fo := by
  refine kMet_of (own := RX4) (lv := [(0, .ref (kad (wC G ad) 0)), (1, .int x1), (2, .int x2), (3, .int x3), (4, .int x4), (5, .ref (kad (wC G ad) 277))]) (by decide) rfl (Nat.le_of_ble_eq_true rfl) rfl h ?_
  intro p e R s m args below meth c C
  unfold cf_X4_addOrder
  refine K_aload_n C 0 rfl rfl dX4_addOrder_0 ?_
  refine K_getR C kin_X4 rfl (Nat.le_of_ble_eq_true rfl) (shC_0 G ad) 0 (by decide) (b := 1) rfl wf_X4_12 rfl dX4_addOrder_1 ?_
  refine K_iload_n C 1 rfl rfl dX4_addOrder_4 ?_
  refine K_callVi C (As := [.int x1]) (rest := []) (Nat.le_of_ble_eq_true rfl) (shC_1 G ad) rfl hy_X0_isPart wm_X4_106 (by decide) ⟨Nat.le_refl _, Nat.le_refl _⟩ (fun rr ff hh => km_X0_isPart l G ad f x1 rr ff hh) rfl rfl (Nat.le_of_ble_eq_true rfl) rfl dX4_addOrder_5 (fun r1 g2 => ?_)
  refine K_if_eq C (tgt := 22) (by decide) dX4_addOrder_8 ?_ ?_
  · refine K_sub [5] rfl ?_
    exact kcj_X4_addOrder_22 C g2
  · refine K_aload_n C 0 rfl rfl dX4_addOrder_11 ?_
    refine K_getR C kin_X4 rfl (Nat.le_of_ble_eq_true rfl) (shC_0 G ad) 0 (by decide) (b := 1) rfl wf_X4_12 rfl dX4_addOrder_12 ?_
    refine K_iload_n C 2 rfl rfl dX4_addOrder_15 ?_
    refine K_callVi C (As := [.int x2]) (rest := []) (Nat.le_of_ble_eq_true rfl) (shC_1 G ad) rfl hy_X0_isColour wm_X4_99 (by decide) ⟨Nat.le_refl _, Nat.le_refl _⟩ (fun rr ff hh => km_X0_isColour l G ad g2 x2 rr ff hh) rfl rfl (Nat.le_of_ble_eq_true rfl) rfl dX4_addOrder_16 (fun r5 g6 => ?_)
    refine K_if_ne C (tgt := 30) (by decide) dX4_addOrder_19 ?_ ?_
    · refine K_aload_n C 0 rfl rfl dX4_addOrder_30 ?_
      refine K_getR C kin_X4 rfl (Nat.le_of_ble_eq_true rfl) (shC_0 G ad) 3 (by decide) (b := 18) rfl wf_X4_35 rfl dX4_addOrder_31 ?_
      refine K_iload_n C 1 rfl rfl dX4_addOrder_34 ?_
      refine K_iload_n C 2 rfl rfl dX4_addOrder_35 ?_
      refine K_iload_n C 3 rfl rfl dX4_addOrder_36 ?_
      refine K_iload C 4 rfl dX4_addOrder_37 ?_
      refine K_aload C 5 rfl dX4_addOrder_39 ?_
      refine K_callVi C (As := [.int x1, .int x2, .int x3, .int x4, .ref (kad (wC G ad) 277)]) (rest := []) (Nat.le_of_ble_eq_true rfl) (shC_18 G ad) rfl hy_X6_add wm_X4_109 (by decide) ⟨Nat.le_refl _, Nat.le_refl _⟩ (fun rr ff hh => km_X6_add l G ad g6 x1 x2 x3 x4 rr ff hh) rfl rfl (Nat.le_of_ble_eq_true rfl) rfl dX4_addOrder_41 (fun r7 g8 => ?_)
      exact K_ret C rfl rfl dX4_addOrder_44
    · refine K_sub [5] rfl ?_
      exact kcj_X4_addOrder_22 C g6
def cf_X4_refuseForDryers (f : kMem) (x1 x2 : Int32) : Option (Int32 × kMem) := kbind (cf_X8_refuse f 10 0) (fun r1 g2 => kbind (cf_X2_lowestWith g2 x1) (fun r3 g4 => keq r3 (-1) (some ((-1), g4)) (kbind (cf_X2_lackingMinutes g4 r3 (g4 7 1)) (fun r5 g6 => kle r5 0 (kchk (kin r3 3) (kbind (cf_X8_putBehind g6 12 (x2 - (g6 10 (Int32.toNatClampNeg r3)))) (fun r7 g8 => some ((-1), g8)))) (kbind (cf_X8_putBehind g6 11 r5) (fun r9 g10 => some ((-1), g10)))))))
set_option maxRecDepth 100000 in
set_option maxHeartbeats 4000000 in
theorem km_X4_refuseForDryers (l : Launch) (G : kG) (ad : Nat → Nat) (f : kMem) (x1 x2 : Int32) (r : Int32) (fo : kMem) (h : cf_X4_refuseForDryers f x1 x2 = some (r, fo)) : kMet l (wC G ad) yX4_refuseForDryers cX4_refuseForDryers 6 (some .int) 2 [.ref (kad (wC G ad) 0), .int x1, .int x2, .ref (kad (wC G ad) 277)] f r fo := by
  refine kMet_of (own := RX4) (lv := [(0, .ref (kad (wC G ad) 0)), (1, .int x1), (2, .int x2), (3, .ref (kad (wC G ad) 277))]) (by decide) rfl (Nat.le_of_ble_eq_true rfl) rfl h ?_
  intro p e R s m args below meth c C
  unfold cf_X4_refuseForDryers
  refine K_aload_n C 3 rfl rfl dX4_refuseForDryers_0 ?_
  refine K_bipush C (v := 10) (by decide) dX4_refuseForDryers_1 ?_
  refine K_iconst C (v := 0) (by decide) dX4_refuseForDryers_3 ?_
  refine K_callVi C (As := [.int 10, .int 0]) (rest := []) (Nat.le_of_ble_eq_true rfl) (shC_277 G ad) rfl hy_X8_refuse wm_X4_81 (by decide) ⟨Nat.le_refl _, Nat.le_refl _⟩ (fun rr ff hh => km_X8_refuse l G ad f 10 0 rr ff hh) rfl rfl (Nat.le_of_ble_eq_true rfl) rfl dX4_refuseForDryers_4 (fun r1 g2 => ?_)
  refine K_pop C rfl dX4_refuseForDryers_7 ?_
  refine K_aload_n C 0 rfl rfl dX4_refuseForDryers_8 ?_
  refine K_getR C kin_X4 rfl (Nat.le_of_ble_eq_true rfl) (shC_0 G ad) 1 (by decide) (b := 8) rfl wf_X4_21 rfl dX4_refuseForDryers_9 ?_
  refine K_iload_n C 1 rfl rfl dX4_refuseForDryers_12 ?_
  refine K_callVi C (As := [.int x1]) (rest := []) (Nat.le_of_ble_eq_true rfl) (shC_8 G ad) rfl hy_X2_lowestWith wm_X4_137 (by decide) ⟨Nat.le_refl _, Nat.le_refl _⟩ (fun rr ff hh => km_X2_lowestWith l G ad g2 x1 rr ff hh) rfl rfl (Nat.le_of_ble_eq_true rfl) rfl dX4_refuseForDryers_13 (fun r3 g4 => ?_)
  refine K_istore C (lv1 := [(4, .int r3), (0, .ref (kad (wC G ad) 0)), (1, .int x1), (2, .int x2), (3, .ref (kad (wC G ad) 277))]) (by decide) rfl dX4_refuseForDryers_16 ?_
  refine K_iload C 0 rfl dX4_refuseForDryers_18 ?_
  refine K_iconst C (v := (-1)) (by decide) dX4_refuseForDryers_20 ?_
  refine K_icmp_eq C (tgt := 78) (by decide) dX4_refuseForDryers_21 ?_ ?_
  · refine K_iconst C (v := (-1)) (by decide) dX4_refuseForDryers_78 ?_
    exact K_ret C rfl rfl dX4_refuseForDryers_79
  · refine K_aload_n C 1 rfl rfl dX4_refuseForDryers_24 ?_
    refine K_getR C kin_X4 rfl (Nat.le_of_ble_eq_true rfl) (shC_0 G ad) 1 (by decide) (b := 8) rfl wf_X4_21 rfl dX4_refuseForDryers_25 ?_
    refine K_iload C 0 rfl dX4_refuseForDryers_28 ?_
    refine K_aload_n C 1 rfl rfl dX4_refuseForDryers_30 ?_
    refine K_getR C kin_X4 rfl (Nat.le_of_ble_eq_true rfl) (shC_0 G ad) 0 (by decide) (b := 1) rfl wf_X4_12 rfl dX4_refuseForDryers_31 ?_
    refine K_getR C kin_X0 rfl (Nat.le_of_ble_eq_true rfl) (shC_1 G ad) 8 (by decide) (b := 7) rfl wf_X4_87 rfl dX4_refuseForDryers_34 ?_
    refine K_iconst C (v := 1) (by decide) dX4_refuseForDryers_37 ?_
    refine K_ialdC C (Nat.le_of_ble_eq_true rfl) (shC_7 G ad) (kin_in (by decide)) dX4_refuseForDryers_38 1 (by decide) ?_
    refine K_callVi C (As := [.int r3, .int (g4 7 1)]) (rest := []) (Nat.le_of_ble_eq_true rfl) (shC_8 G ad) rfl hy_X2_lackingMinutes wm_X4_140 (by decide) ⟨Nat.le_refl _, Nat.le_refl _⟩ (fun rr ff hh => km_X2_lackingMinutes l G ad g4 r3 (g4 7 1) rr ff hh) rfl rfl (Nat.le_of_ble_eq_true rfl) rfl dX4_refuseForDryers_39 (fun r5 g6 => ?_)
    refine K_istore C (lv1 := [(5, .int r5), (4, .int r3), (0, .ref (kad (wC G ad) 0)), (1, .int x1), (2, .int x2), (3, .ref (kad (wC G ad) 277))]) (by decide) rfl dX4_refuseForDryers_42 ?_
    refine K_iload C 0 rfl dX4_refuseForDryers_44 ?_
    refine K_if_le C (tgt := 60) (by decide) dX4_refuseForDryers_46 ?_ ?_
    · refine K_aload_n C 5 rfl rfl dX4_refuseForDryers_60 ?_
      refine K_bipush C (v := 12) (by decide) dX4_refuseForDryers_61 ?_
      refine K_iload_n C 4 rfl rfl dX4_refuseForDryers_63 ?_
      refine K_aload_n C 2 rfl rfl dX4_refuseForDryers_64 ?_
      refine K_getR C kin_X4 rfl (Nat.le_of_ble_eq_true rfl) (shC_0 G ad) 1 (by decide) (b := 8) rfl wf_X4_21 rfl dX4_refuseForDryers_65 ?_
      refine K_getR C kin_X2 rfl (Nat.le_of_ble_eq_true rfl) (shC_8 G ad) 1 (by decide) (b := 10) rfl wf_X4_146 rfl dX4_refuseForDryers_68 ?_
      refine K_iload C 1 rfl dX4_refuseForDryers_71 ?_
      refine K_iald C (Nat.le_of_ble_eq_true rfl) (shC_10 G ad) dX4_refuseForDryers_73 ?_
      refine K_isub C dX4_refuseForDryers_74 ?_
      refine K_callVv C (As := [.int 12, .int (x2 - (g6 10 (Int32.toNatClampNeg r3)))]) (rest := []) (Nat.le_of_ble_eq_true rfl) (shC_277 G ad) rfl hy_X8_putBehind wm_X4_143 (by decide) ⟨Nat.le_refl _, Nat.le_refl _⟩ (fun rr ff hh => km_X8_putBehind l G ad g6 12 (x2 - (g6 10 (Int32.toNatClampNeg r3))) rr ff hh) rfl rfl (Nat.le_of_ble_eq_true rfl) rfl dX4_refuseForDryers_75 (fun r7 g8 => ?_)
      refine K_iconst C (v := (-1)) (by decide) dX4_refuseForDryers_78 ?_
      exact K_ret C rfl rfl dX4_refuseForDryers_79
    · refine K_aload_n C 5 rfl rfl dX4_refuseForDryers_49 ?_
      refine K_bipush C (v := 11) (by decide) dX4_refuseForDryers_50 ?_
      refine K_iload C 0 rfl dX4_refuseForDryers_52 ?_
      refine K_callVv C (As := [.int 11, .int r5]) (rest := []) (Nat.le_of_ble_eq_true rfl) (shC_277 G ad) rfl hy_X8_putBehind wm_X4_143 (by decide) ⟨Nat.le_refl _, Nat.le_refl _⟩ (fun rr ff hh => km_X8_putBehind l G ad g6 11 r5 rr ff hh) rfl rfl (Nat.le_of_ble_eq_true rfl) rfl dX4_refuseForDryers_54 (fun r9 g10 => ?_)
      refine K_goto C (tgt := 78) (by decide) dX4_refuseForDryers_57 ?_
      refine K_iconst C (v := (-1)) (by decide) dX4_refuseForDryers_78 ?_
      exact K_ret C rfl rfl dX4_refuseForDryers_79
def cl_X4_putPieces_2 : Nat → kMem → Int32 → Int32 → Int32 → Option (Int32 × kMem)
  | 0, _, _, _, _ => none
  | n + 1, f, x1, x2, x3 => kle (f 1 1) x3 (some (0, f)) (kbind (cf_X0_piecesOf f (f 0 8) x3) (fun r1 g2 => kle r1 0 (klet (x3 + Int32.ofInt 1) (fun x3_3 => ((cl_X4_putPieces_2 n) g2 x1 x2 x3_3))) (kbind (cf_X9_addScrap g2 x3 (r1 * x1)) (fun r4 g5 => kchk (kin x3 8) (kbind (cf_X9_addPieces g5 x3 (g5 0 7) (r1 * x2) (g5 3 (Int32.toNatClampNeg x3))) (fun r6 g7 => klet (x3 + Int32.ofInt 1) (fun x3_8 => ((cl_X4_putPieces_2 n) g7 x1 x2 x3_8))))))))
def cf_X4_putPieces (f : kMem) (x1 x2 : Int32) : Option (Int32 × kMem) := (cl_X4_putPieces_2 100 f x1 x2 0)
set_option maxRecDepth 100000 in
set_option maxHeartbeats 4000000 in
theorem kcl_X4_putPieces_2 {p : Program} {l : Launch} {e : Env} {R : Room} {s : State} {m : MethodId} {args : Array Value} {below : List Frame} {meth : Method} {c : Code} {G : kG} {ad : Nat → Nat} {z : Int32 × kMem} (C : KC p l e R s m args below meth c (wC G ad) RX4 cX4_putPieces 5 none 3 0 0)  : ∀ (n : Nat) (f : kMem) (x1 x2 x3 : Int32), K p l e R s m args below meth c (wC G ad) 5 (kQF below (wC G ad) none args s z) z 0 0 f 2 [(0, .ref (kad (wC G ad) 0)), (1, .int x1), (2, .int x2), (3, .int x3)] [] (cl_X4_putPieces_2 n f x1 x2 x3) := by
  intro n
  induction n with
  | zero => intro f x1 x2 x3; exact K_none
  | succ n ih =>
    intro f x1 x2 x3
    unfold cl_X4_putPieces_2
    refine K_iload_n C 3 rfl rfl dX4_putPieces_2 ?_
    refine K_aload_n C 0 rfl rfl dX4_putPieces_3 ?_
    refine K_getR C kin_X4 rfl (Nat.le_of_ble_eq_true rfl) (shC_0 G ad) 0 (by decide) (b := 1) rfl wf_X4_12 rfl dX4_putPieces_4 ?_
    refine K_getI C kin_X0 rfl (Nat.le_of_ble_eq_true rfl) (shC_1 G ad) 1 (by decide) rfl wf_X4_149 rfl dX4_putPieces_7 ?_
    refine K_icmp_ge C (tgt := 75) (by decide) dX4_putPieces_10 ?_ ?_
    · exact K_vret C rfl dX4_putPieces_75
    · refine K_aload_n C 0 rfl rfl dX4_putPieces_13 ?_
      refine K_getR C kin_X4 rfl (Nat.le_of_ble_eq_true rfl) (shC_0 G ad) 0 (by decide) (b := 1) rfl wf_X4_12 rfl dX4_putPieces_14 ?_
      refine K_aload_n C 0 rfl rfl dX4_putPieces_17 ?_
      refine K_getI C kin_X4 rfl (Nat.le_of_ble_eq_true rfl) (shC_0 G ad) 8 (by decide) rfl wf_X4_43 rfl dX4_putPieces_18 ?_
      refine K_iload_n C 3 rfl rfl dX4_putPieces_21 ?_
      refine K_callVi C (As := [.int (f 0 8), .int x3]) (rest := []) (Nat.le_of_ble_eq_true rfl) (shC_1 G ad) rfl hy_X0_piecesOf wm_X4_152 (by decide) ⟨Nat.le_refl _, Nat.le_refl _⟩ (fun rr ff hh => km_X0_piecesOf l G ad f (f 0 8) x3 rr ff hh) rfl rfl (Nat.le_of_ble_eq_true rfl) rfl dX4_putPieces_22 (fun r1 g2 => ?_)
      refine K_istore C (lv1 := [(4, .int r1), (0, .ref (kad (wC G ad) 0)), (1, .int x1), (2, .int x2), (3, .int x3)]) (by decide) rfl dX4_putPieces_25 ?_
      refine K_iload C 0 rfl dX4_putPieces_27 ?_
      refine K_if_le C (tgt := 69) (by decide) dX4_putPieces_29 ?_ ?_
      · refine K_iinc C (k := 4) (lv1 := fun x3_3 => [(3, .int x3_3), (4, .int r1), (0, .ref (kad (wC G ad) 0)), (1, .int x1), (2, .int x2)]) rfl (by decide) (fun _ => rfl) dX4_putPieces_69 (fun x3_3 => ?_)
        refine K_goto C (tgt := 2) (by decide) dX4_putPieces_72 ?_
        refine K_sub [2, 3, 4, 0] rfl ?_
        exact ih g2 x1 x2 x3_3
      · refine K_aload_n C 1 rfl rfl dX4_putPieces_32 ?_
        refine K_getR C kin_X4 rfl (Nat.le_of_ble_eq_true rfl) (shC_0 G ad) 2 (by decide) (b := 12) rfl wf_X4_28 rfl dX4_putPieces_33 ?_
        refine K_iload_n C 4 rfl rfl dX4_putPieces_36 ?_
        refine K_iload C 0 rfl dX4_putPieces_37 ?_
        refine K_iload_n C 2 rfl rfl dX4_putPieces_39 ?_
        refine K_imul C dX4_putPieces_40 ?_
        refine K_callVv C (As := [.int x3, .int (r1 * x1)]) (rest := []) (Nat.le_of_ble_eq_true rfl) (shC_12 G ad) rfl hy_X9_addScrap wm_X4_155 (by decide) ⟨Nat.le_refl _, Nat.le_refl _⟩ (fun rr ff hh => km_X9_addScrap l G ad g2 x3 (r1 * x1) rr ff hh) rfl rfl (Nat.le_of_ble_eq_true rfl) rfl dX4_putPieces_41 (fun r4 g5 => ?_)
        refine K_aload_n C 1 rfl rfl dX4_putPieces_44 ?_
        refine K_getR C kin_X4 rfl (Nat.le_of_ble_eq_true rfl) (shC_0 G ad) 2 (by decide) (b := 12) rfl wf_X4_28 rfl dX4_putPieces_45 ?_
        refine K_iload_n C 4 rfl rfl dX4_putPieces_48 ?_
        refine K_aload_n C 1 rfl rfl dX4_putPieces_49 ?_
        refine K_getI C kin_X4 rfl (Nat.le_of_ble_eq_true rfl) (shC_0 G ad) 7 (by decide) rfl wf_X4_39 rfl dX4_putPieces_50 ?_
        refine K_iload C 0 rfl dX4_putPieces_53 ?_
        refine K_iload_n C 3 rfl rfl dX4_putPieces_55 ?_
        refine K_imul C dX4_putPieces_56 ?_
        refine K_aload_n C 1 rfl rfl dX4_putPieces_57 ?_
        refine K_getR C kin_X4 rfl (Nat.le_of_ble_eq_true rfl) (shC_0 G ad) 0 (by decide) (b := 1) rfl wf_X4_12 rfl dX4_putPieces_58 ?_
        refine K_getR C kin_X0 rfl (Nat.le_of_ble_eq_true rfl) (shC_1 G ad) 4 (by decide) (b := 3) rfl wf_X4_158 rfl dX4_putPieces_61 ?_
        refine K_iload_n C 4 rfl rfl dX4_putPieces_64 ?_
        refine K_iald C (Nat.le_of_ble_eq_true rfl) (shC_3 G ad) dX4_putPieces_65 ?_
        refine K_callVv C (As := [.int x3, .int (g5 0 7), .int (r1 * x2), .int (g5 3 (Int32.toNatClampNeg x3))]) (rest := []) (Nat.le_of_ble_eq_true rfl) (shC_12 G ad) rfl hy_X9_addPieces wm_X4_161 (by decide) ⟨Nat.le_refl _, Nat.le_refl _⟩ (fun rr ff hh => km_X9_addPieces l G ad g5 x3 (g5 0 7) (r1 * x2) (g5 3 (Int32.toNatClampNeg x3)) rr ff hh) rfl rfl (Nat.le_of_ble_eq_true rfl) rfl dX4_putPieces_66 (fun r6 g7 => ?_)
        refine K_iinc C (k := 4) (lv1 := fun x3_8 => [(3, .int x3_8), (4, .int r1), (0, .ref (kad (wC G ad) 0)), (1, .int x1), (2, .int x2)]) rfl (by decide) (fun _ => rfl) dX4_putPieces_69 (fun x3_8 => ?_)
        refine K_goto C (tgt := 2) (by decide) dX4_putPieces_72 ?_
        refine K_sub [2, 3, 4, 0] rfl ?_
        exact ih g7 x1 x2 x3_8
set_option maxRecDepth 100000 in
set_option maxHeartbeats 4000000 in
theorem km_X4_putPieces (l : Launch) (G : kG) (ad : Nat → Nat) (f : kMem) (x1 x2 : Int32) (r : Int32) (fo : kMem) (h : cf_X4_putPieces f x1 x2 = some (r, fo)) : kMet l (wC G ad) yX4_putPieces cX4_putPieces 5 none 3 [.ref (kad (wC G ad) 0), .int x1, .int x2] f r fo := by
  refine kMet_of (own := RX4) (lv := [(0, .ref (kad (wC G ad) 0)), (1, .int x1), (2, .int x2)]) (by decide) rfl (Nat.le_of_ble_eq_true rfl) rfl h ?_
  intro p e R s m args below meth c C
  unfold cf_X4_putPieces
  refine K_iconst C (v := 0) (by decide) dX4_putPieces_0 ?_
  refine K_istore_n C (lv1 := [(3, .int 0), (0, .ref (kad (wC G ad) 0)), (1, .int x1), (2, .int x2)]) rfl (by decide) rfl dX4_putPieces_1 ?_
  refine K_sub [1, 2, 3, 0] rfl ?_
  exact kcl_X4_putPieces_2 C 100 f x1 x2 0
def cf_X4_runShots (f : kMem) (x1 x2 : Int32) : Option (Int32 × kMem) := kbind (cf_X0_isColour f x1) (fun r1 g2 => keq r1 0 (kbind (cf_X8_refuse g2 1 0) (fun r28 g29 => some (r28, g29))) (kbind (cf_X11_isWithin g2 x2 1 200) (fun r3 g4 => keq r3 0 (kbind (cf_X8_refuse g4 2 0) (fun r26 g27 => some (r26, g27))) (kbind (cf_X0_isFamily g4 (g4 0 8)) (fun r5 g6 => keq r5 0 (kbind (cf_X8_refuse g6 5 0) (fun r24 g25 => some (r24, g25))) (kbind (cf_X0_purgeShots g6 (g6 0 7) x1) (fun r7 g8 => kchk (kin (g8 0 8) 6) (klet ((r7 + x2) * (g8 5 (Int32.toNatClampNeg (g8 0 8)))) (fun x5_9 => kbind (cf_X2_lowestUsable g8 x1 x5_9 (g8 7 1)) (fun r10 g11 => keq r10 (-1) (kbind (cf_X4_refuseForDryers g11 x1 x5_9) (fun r22 g23 => some (r22, g23))) (kbind (cf_X2_take g11 r10 x5_9) (fun r12 g13 => kmem (kup g13 0 9 ((g13 0 9) + x5_9)) (fun g14 => kmem (kup g14 0 10 ((g14 0 10) + (r7 + x2))) (fun g15 => kmem (kup g15 0 11 ((g15 0 11) + r7)) (fun g16 => kmem (kup g16 0 7 x1) (fun g17 => kchk (kin (g17 0 8) 6) (kbind (cf_X4_pass g17 ((r7 + x2) * (g17 4 (Int32.toNatClampNeg (g17 0 8))))) (fun r18 g19 => kbind (cf_X4_putPieces g19 r7 x2) (fun r20 g21 => some (r7, g21))))))))))))))))))))
set_option maxRecDepth 100000 in
set_option maxHeartbeats 4000000 in
theorem km_X4_runShots (l : Launch) (G : kG) (ad : Nat → Nat) (f : kMem) (x1 x2 : Int32) (r : Int32) (fo : kMem) (h : cf_X4_runShots f x1 x2 = some (r, fo)) : kMet l (wC G ad) yX4_runShots cX4_runShots 7 (some .int) 4 [.ref (kad (wC G ad) 0), .int x1, .int x2, .ref (kad (wC G ad) 277)] f r fo := by
  refine kMet_of (own := RX4) (lv := [(0, .ref (kad (wC G ad) 0)), (1, .int x1), (2, .int x2), (3, .ref (kad (wC G ad) 277))]) (by decide) rfl (Nat.le_of_ble_eq_true rfl) rfl h ?_
  intro p e R s m args below meth c C
  unfold cf_X4_runShots
  refine K_aload_n C 0 rfl rfl dX4_runShots_0 ?_
  refine K_getR C kin_X4 rfl (Nat.le_of_ble_eq_true rfl) (shC_0 G ad) 0 (by decide) (b := 1) rfl wf_X4_12 rfl dX4_runShots_1 ?_
  refine K_iload_n C 1 rfl rfl dX4_runShots_4 ?_
  refine K_callVi C (As := [.int x1]) (rest := []) (Nat.le_of_ble_eq_true rfl) (shC_1 G ad) rfl hy_X0_isColour wm_X4_99 (by decide) ⟨Nat.le_refl _, Nat.le_refl _⟩ (fun rr ff hh => km_X0_isColour l G ad f x1 rr ff hh) rfl rfl (Nat.le_of_ble_eq_true rfl) rfl dX4_runShots_5 (fun r1 g2 => ?_)
  refine K_if_ne C (tgt := 18) (by decide) dX4_runShots_8 ?_ ?_
  · refine K_iload_n C 2 rfl rfl dX4_runShots_18 ?_
    refine K_iconst C (v := 1) (by decide) dX4_runShots_19 ?_
    refine K_sipush C (v := 200) (by decide) dX4_runShots_20 ?_
    refine K_callSNi C (As := [.int x2, .int 1, .int 200]) (rest := []) hy_X11_isWithin (by decide +kernel) (by decide) ⟨Nat.le_refl _, Nat.le_refl _⟩ (fun rr ff hh => km_X11_isWithin l G ad g2 x2 1 200 rr ff hh) rfl rfl (Nat.le_of_ble_eq_true rfl) rfl dX4_runShots_23 (fun r3 g4 => ?_)
    refine K_if_ne C (tgt := 36) (by decide) dX4_runShots_26 ?_ ?_
    · refine K_aload_n C 0 rfl rfl dX4_runShots_36 ?_
      refine K_getR C kin_X4 rfl (Nat.le_of_ble_eq_true rfl) (shC_0 G ad) 0 (by decide) (b := 1) rfl wf_X4_12 rfl dX4_runShots_37 ?_
      refine K_aload_n C 0 rfl rfl dX4_runShots_40 ?_
      refine K_getI C kin_X4 rfl (Nat.le_of_ble_eq_true rfl) (shC_0 G ad) 8 (by decide) rfl wf_X4_43 rfl dX4_runShots_41 ?_
      refine K_callVi C (As := [.int (g4 0 8)]) (rest := []) (Nat.le_of_ble_eq_true rfl) (shC_1 G ad) rfl hy_X0_isFamily wm_X4_77 (by decide) ⟨Nat.le_refl _, Nat.le_refl _⟩ (fun rr ff hh => km_X0_isFamily l G ad g4 (g4 0 8) rr ff hh) rfl rfl (Nat.le_of_ble_eq_true rfl) rfl dX4_runShots_44 (fun r5 g6 => ?_)
      refine K_if_ne C (tgt := 57) (by decide) dX4_runShots_47 ?_ ?_
      · refine K_aload_n C 0 rfl rfl dX4_runShots_57 ?_
        refine K_getR C kin_X4 rfl (Nat.le_of_ble_eq_true rfl) (shC_0 G ad) 0 (by decide) (b := 1) rfl wf_X4_12 rfl dX4_runShots_58 ?_
        refine K_aload_n C 0 rfl rfl dX4_runShots_61 ?_
        refine K_getI C kin_X4 rfl (Nat.le_of_ble_eq_true rfl) (shC_0 G ad) 7 (by decide) rfl wf_X4_39 rfl dX4_runShots_62 ?_
        refine K_iload_n C 1 rfl rfl dX4_runShots_65 ?_
        refine K_callVi C (As := [.int (g6 0 7), .int x1]) (rest := []) (Nat.le_of_ble_eq_true rfl) (shC_1 G ad) rfl hy_X0_purgeShots wm_X4_113 (by decide) ⟨Nat.le_refl _, Nat.le_refl _⟩ (fun rr ff hh => km_X0_purgeShots l G ad g6 (g6 0 7) x1 rr ff hh) rfl rfl (Nat.le_of_ble_eq_true rfl) rfl dX4_runShots_66 (fun r7 g8 => ?_)
        refine K_istore C (lv1 := [(4, .int r7), (0, .ref (kad (wC G ad) 0)), (1, .int x1), (2, .int x2), (3, .ref (kad (wC G ad) 277))]) (by decide) rfl dX4_runShots_69 ?_
        refine K_iload C 0 rfl dX4_runShots_71 ?_
        refine K_iload_n C 3 rfl rfl dX4_runShots_73 ?_
        refine K_iadd C dX4_runShots_74 ?_
        refine K_aload_n C 1 rfl rfl dX4_runShots_75 ?_
        refine K_getR C kin_X4 rfl (Nat.le_of_ble_eq_true rfl) (shC_0 G ad) 0 (by decide) (b := 1) rfl wf_X4_12 rfl dX4_runShots_76 ?_
        refine K_getR C kin_X0 rfl (Nat.le_of_ble_eq_true rfl) (shC_1 G ad) 6 (by decide) (b := 5) rfl wf_X4_116 rfl dX4_runShots_79 ?_
        refine K_aload_n C 1 rfl rfl dX4_runShots_82 ?_
        refine K_getI C kin_X4 rfl (Nat.le_of_ble_eq_true rfl) (shC_0 G ad) 8 (by decide) rfl wf_X4_43 rfl dX4_runShots_83 ?_
        refine K_iald C (Nat.le_of_ble_eq_true rfl) (shC_5 G ad) dX4_runShots_86 ?_
        refine K_imul C dX4_runShots_87 ?_
        refine K_let rfl (fun x5_9 => ?_)
        refine K_istore C (lv1 := [(5, .int x5_9), (4, .int r7), (0, .ref (kad (wC G ad) 0)), (1, .int x1), (2, .int x2), (3, .ref (kad (wC G ad) 277))]) (by decide) rfl dX4_runShots_88 ?_
        refine K_aload_n C 2 rfl rfl dX4_runShots_90 ?_
        refine K_getR C kin_X4 rfl (Nat.le_of_ble_eq_true rfl) (shC_0 G ad) 1 (by decide) (b := 8) rfl wf_X4_21 rfl dX4_runShots_91 ?_
        refine K_iload_n C 3 rfl rfl dX4_runShots_94 ?_
        refine K_iload C 0 rfl dX4_runShots_95 ?_
        refine K_aload_n C 2 rfl rfl dX4_runShots_97 ?_
        refine K_getR C kin_X4 rfl (Nat.le_of_ble_eq_true rfl) (shC_0 G ad) 0 (by decide) (b := 1) rfl wf_X4_12 rfl dX4_runShots_98 ?_
        refine K_getR C kin_X0 rfl (Nat.le_of_ble_eq_true rfl) (shC_1 G ad) 8 (by decide) (b := 7) rfl wf_X4_87 rfl dX4_runShots_101 ?_
        refine K_iconst C (v := 1) (by decide) dX4_runShots_104 ?_
        refine K_ialdC C (Nat.le_of_ble_eq_true rfl) (shC_7 G ad) (kin_in (by decide)) dX4_runShots_105 1 (by decide) ?_
        refine K_callVi C (As := [.int x1, .int x5_9, .int (g8 7 1)]) (rest := []) (Nat.le_of_ble_eq_true rfl) (shC_8 G ad) rfl hy_X2_lowestUsable wm_X4_119 (by decide) ⟨Nat.le_refl _, Nat.le_refl _⟩ (fun rr ff hh => km_X2_lowestUsable l G ad g8 x1 x5_9 (g8 7 1) rr ff hh) rfl rfl (Nat.le_of_ble_eq_true rfl) rfl dX4_runShots_106 (fun r10 g11 => ?_)
        refine K_istore C (lv1 := [(6, .int r10), (5, .int x5_9), (4, .int r7), (0, .ref (kad (wC G ad) 0)), (1, .int x1), (2, .int x2), (3, .ref (kad (wC G ad) 277))]) (by decide) rfl dX4_runShots_109 ?_
        refine K_iload C 0 rfl dX4_runShots_111 ?_
        refine K_iconst C (v := (-1)) (by decide) dX4_runShots_113 ?_
        refine K_icmp_ne C (tgt := 126) (by decide) dX4_runShots_114 ?_ ?_
        · refine K_aload_n C 3 rfl rfl dX4_runShots_126 ?_
          refine K_getR C kin_X4 rfl (Nat.le_of_ble_eq_true rfl) (shC_0 G ad) 1 (by decide) (b := 8) rfl wf_X4_21 rfl dX4_runShots_127 ?_
          refine K_iload C 0 rfl dX4_runShots_130 ?_
          refine K_iload C 1 rfl dX4_runShots_132 ?_
          refine K_callVv C (As := [.int r10, .int x5_9]) (rest := []) (Nat.le_of_ble_eq_true rfl) (shC_8 G ad) rfl hy_X2_take wm_X4_127 (by decide) ⟨Nat.le_refl _, Nat.le_refl _⟩ (fun rr ff hh => km_X2_take l G ad g11 r10 x5_9 rr ff hh) rfl rfl (Nat.le_of_ble_eq_true rfl) rfl dX4_runShots_134 (fun r12 g13 => ?_)
          refine K_aload_n C 3 rfl rfl dX4_runShots_137 ?_
          refine K_dup C rfl dX4_runShots_138 ?_
          refine K_getI C kin_X4 rfl (Nat.le_of_ble_eq_true rfl) (shC_0 G ad) 9 (by decide) rfl wf_X4_68 rfl dX4_runShots_139 ?_
          refine K_iload C 1 rfl dX4_runShots_142 ?_
          refine K_iadd C dX4_runShots_144 ?_
          refine K_putI C kin_X4 rfl (Nat.le_of_ble_eq_true rfl) (shC_0 G ad) 9 (by decide) rfl wf_X4_68 rfl tyX4 tyX4_ok nmX4 (by decide) (ty := .int) (by decide +kernel) rfl rfl dX4_runShots_145 (fun g14 => ?_)
          refine K_aload_n C 3 rfl rfl dX4_runShots_148 ?_
          refine K_dup C rfl dX4_runShots_149 ?_
          refine K_getI C kin_X4 rfl (Nat.le_of_ble_eq_true rfl) (shC_0 G ad) 10 (by decide) rfl wf_X4_71 rfl dX4_runShots_150 ?_
          refine K_iload C 2 rfl dX4_runShots_153 ?_
          refine K_iload_n C 5 rfl rfl dX4_runShots_155 ?_
          refine K_iadd C dX4_runShots_156 ?_
          refine K_iadd C dX4_runShots_157 ?_
          refine K_putI C kin_X4 rfl (Nat.le_of_ble_eq_true rfl) (shC_0 G ad) 10 (by decide) rfl wf_X4_71 rfl tyX4 tyX4_ok nmX4 (by decide) (ty := .int) (by decide +kernel) rfl rfl dX4_runShots_158 (fun g15 => ?_)
          refine K_aload_n C 3 rfl rfl dX4_runShots_161 ?_
          refine K_dup C rfl dX4_runShots_162 ?_
          refine K_getI C kin_X4 rfl (Nat.le_of_ble_eq_true rfl) (shC_0 G ad) 11 (by decide) rfl wf_X4_74 rfl dX4_runShots_163 ?_
          refine K_iload C 2 rfl dX4_runShots_166 ?_
          refine K_iadd C dX4_runShots_168 ?_
          refine K_putI C kin_X4 rfl (Nat.le_of_ble_eq_true rfl) (shC_0 G ad) 11 (by decide) rfl wf_X4_74 rfl tyX4 tyX4_ok nmX4 (by decide) (ty := .int) (by decide +kernel) rfl rfl dX4_runShots_169 (fun g16 => ?_)
          refine K_aload_n C 3 rfl rfl dX4_runShots_172 ?_
          refine K_iload_n C 4 rfl rfl dX4_runShots_173 ?_
          refine K_putI C kin_X4 rfl (Nat.le_of_ble_eq_true rfl) (shC_0 G ad) 7 (by decide) rfl wf_X4_39 rfl tyX4 tyX4_ok nmX4 (by decide) (ty := .int) (by decide +kernel) rfl rfl dX4_runShots_174 (fun g17 => ?_)
          refine K_aload_n C 3 rfl rfl dX4_runShots_177 ?_
          refine K_iload C 2 rfl dX4_runShots_178 ?_
          refine K_iload_n C 5 rfl rfl dX4_runShots_180 ?_
          refine K_iadd C dX4_runShots_181 ?_
          refine K_aload_n C 3 rfl rfl dX4_runShots_182 ?_
          refine K_getR C kin_X4 rfl (Nat.le_of_ble_eq_true rfl) (shC_0 G ad) 0 (by decide) (b := 1) rfl wf_X4_12 rfl dX4_runShots_183 ?_
          refine K_getR C kin_X0 rfl (Nat.le_of_ble_eq_true rfl) (shC_1 G ad) 5 (by decide) (b := 4) rfl wf_X4_131 rfl dX4_runShots_186 ?_
          refine K_aload_n C 3 rfl rfl dX4_runShots_189 ?_
          refine K_getI C kin_X4 rfl (Nat.le_of_ble_eq_true rfl) (shC_0 G ad) 8 (by decide) rfl wf_X4_43 rfl dX4_runShots_190 ?_
          refine K_iald C (Nat.le_of_ble_eq_true rfl) (shC_4 G ad) dX4_runShots_193 ?_
          refine K_imul C dX4_runShots_194 ?_
          refine K_callVi C (As := [.int ((r7 + x2) * (g17 4 (Int32.toNatClampNeg (g17 0 8))))]) (rest := []) (Nat.le_of_ble_eq_true rfl) (shC_0 G ad) rfl hy_X4_pass wm_X4_91 (by decide) ⟨Nat.le_refl _, Nat.le_refl _⟩ (fun rr ff hh => km_X4_pass l G ad g17 ((r7 + x2) * (g17 4 (Int32.toNatClampNeg (g17 0 8)))) rr ff hh) rfl rfl (Nat.le_of_ble_eq_true rfl) rfl dX4_runShots_195 (fun r18 g19 => ?_)
          refine K_pop C rfl dX4_runShots_198 ?_
          refine K_aload_n C 3 rfl rfl dX4_runShots_199 ?_
          refine K_iload C 2 rfl dX4_runShots_200 ?_
          refine K_iload_n C 5 rfl rfl dX4_runShots_202 ?_
          refine K_callVv C (As := [.int r7, .int x2]) (rest := []) (Nat.le_of_ble_eq_true rfl) (shC_0 G ad) rfl hy_X4_putPieces wm_X4_134 (by decide) ⟨Nat.le_refl _, Nat.le_refl _⟩ (fun rr ff hh => km_X4_putPieces l G ad g19 r7 x2 rr ff hh) rfl rfl (Nat.le_of_ble_eq_true rfl) rfl dX4_runShots_203 (fun r20 g21 => ?_)
          refine K_iload C 2 rfl dX4_runShots_206 ?_
          exact K_ret C rfl rfl dX4_runShots_208
        · refine K_aload_n C 3 rfl rfl dX4_runShots_117 ?_
          refine K_iload_n C 4 rfl rfl dX4_runShots_118 ?_
          refine K_iload C 1 rfl dX4_runShots_119 ?_
          refine K_aload_n C 6 rfl rfl dX4_runShots_121 ?_
          refine K_callVi C (As := [.int x1, .int x5_9, .ref (kad (wC G ad) 277)]) (rest := []) (Nat.le_of_ble_eq_true rfl) (shC_0 G ad) rfl hy_X4_refuseForDryers wm_X4_123 (by decide) ⟨Nat.le_refl _, Nat.le_refl _⟩ (fun rr ff hh => km_X4_refuseForDryers l G ad g11 x1 x5_9 rr ff hh) rfl rfl (Nat.le_of_ble_eq_true rfl) rfl dX4_runShots_122 (fun r22 g23 => ?_)
          exact K_ret C rfl rfl dX4_runShots_125
      · refine K_aload_n C 3 rfl rfl dX4_runShots_50 ?_
        refine K_iconst C (v := 5) (by decide) dX4_runShots_51 ?_
        refine K_iconst C (v := 0) (by decide) dX4_runShots_52 ?_
        refine K_callVi C (As := [.int 5, .int 0]) (rest := []) (Nat.le_of_ble_eq_true rfl) (shC_277 G ad) rfl hy_X8_refuse wm_X4_81 (by decide) ⟨Nat.le_refl _, Nat.le_refl _⟩ (fun rr ff hh => km_X8_refuse l G ad g6 5 0 rr ff hh) rfl rfl (Nat.le_of_ble_eq_true rfl) rfl dX4_runShots_53 (fun r24 g25 => ?_)
        exact K_ret C rfl rfl dX4_runShots_56
    · refine K_aload_n C 3 rfl rfl dX4_runShots_29 ?_
      refine K_iconst C (v := 2) (by decide) dX4_runShots_30 ?_
      refine K_iconst C (v := 0) (by decide) dX4_runShots_31 ?_
      refine K_callVi C (As := [.int 2, .int 0]) (rest := []) (Nat.le_of_ble_eq_true rfl) (shC_277 G ad) rfl hy_X8_refuse wm_X4_81 (by decide) ⟨Nat.le_refl _, Nat.le_refl _⟩ (fun rr ff hh => km_X8_refuse l G ad g4 2 0 rr ff hh) rfl rfl (Nat.le_of_ble_eq_true rfl) rfl dX4_runShots_32 (fun r26 g27 => ?_)
      exact K_ret C rfl rfl dX4_runShots_35
  · refine K_aload_n C 3 rfl rfl dX4_runShots_11 ?_
    refine K_iconst C (v := 1) (by decide) dX4_runShots_12 ?_
    refine K_iconst C (v := 0) (by decide) dX4_runShots_13 ?_
    refine K_callVi C (As := [.int 1, .int 0]) (rest := []) (Nat.le_of_ble_eq_true rfl) (shC_277 G ad) rfl hy_X8_refuse wm_X4_81 (by decide) ⟨Nat.le_refl _, Nat.le_refl _⟩ (fun rr ff hh => km_X8_refuse l G ad g2 1 0 rr ff hh) rfl rfl (Nat.le_of_ble_eq_true rfl) rfl dX4_runShots_14 (fun r28 g29 => ?_)
    exact K_ret C rfl rfl dX4_runShots_17
def cf_X4_piecesFor (f : kMem) (x1 : Int32) : Option (Int32 × kMem) := kchk (kin x1 10) (kbind (cf_X0_piecesOf f (f 0 8) (f 19 (Int32.toNatClampNeg x1))) (fun r1 g2 => some (r1, g2)))
set_option maxRecDepth 100000 in
set_option maxHeartbeats 4000000 in
theorem km_X4_piecesFor (l : Launch) (G : kG) (ad : Nat → Nat) (f : kMem) (x1 : Int32) (r : Int32) (fo : kMem) (h : cf_X4_piecesFor f x1 = some (r, fo)) : kMet l (wC G ad) yX4_piecesFor cX4_piecesFor 2 (some .int) 3 [.ref (kad (wC G ad) 0), .int x1] f r fo := by
  refine kMet_of (own := RX4) (lv := [(0, .ref (kad (wC G ad) 0)), (1, .int x1)]) (by decide) rfl (Nat.le_of_ble_eq_true rfl) rfl h ?_
  intro p e R s m args below meth c C
  unfold cf_X4_piecesFor
  refine K_aload_n C 0 rfl rfl dX4_piecesFor_0 ?_
  refine K_getR C kin_X4 rfl (Nat.le_of_ble_eq_true rfl) (shC_0 G ad) 0 (by decide) (b := 1) rfl wf_X4_12 rfl dX4_piecesFor_1 ?_
  refine K_aload_n C 0 rfl rfl dX4_piecesFor_4 ?_
  refine K_getI C kin_X4 rfl (Nat.le_of_ble_eq_true rfl) (shC_0 G ad) 8 (by decide) rfl wf_X4_43 rfl dX4_piecesFor_5 ?_
  refine K_aload_n C 0 rfl rfl dX4_piecesFor_8 ?_
  refine K_getR C kin_X4 rfl (Nat.le_of_ble_eq_true rfl) (shC_0 G ad) 3 (by decide) (b := 18) rfl wf_X4_35 rfl dX4_piecesFor_9 ?_
  refine K_getR C kin_X6 rfl (Nat.le_of_ble_eq_true rfl) (shC_18 G ad) 1 (by decide) (b := 19) rfl wf_X4_178 rfl dX4_piecesFor_12 ?_
  refine K_iload_n C 1 rfl rfl dX4_piecesFor_15 ?_
  refine K_iald C (Nat.le_of_ble_eq_true rfl) (shC_19 G ad) dX4_piecesFor_16 ?_
  refine K_callVi C (As := [.int (f 0 8), .int (f 19 (Int32.toNatClampNeg x1))]) (rest := []) (Nat.le_of_ble_eq_true rfl) (shC_1 G ad) rfl hy_X0_piecesOf wm_X4_152 (by decide) ⟨Nat.le_refl _, Nat.le_refl _⟩ (fun rr ff hh => km_X0_piecesOf l G ad f (f 0 8) (f 19 (Int32.toNatClampNeg x1)) rr ff hh) rfl rfl (Nat.le_of_ble_eq_true rfl) rfl dX4_piecesFor_17 (fun r1 g2 => ?_)
  exact K_ret C rfl rfl dX4_piecesFor_20
def cf_X4_lackingPieces (f : kMem) (x1 : Int32) : Option (Int32 × kMem) := kchk (kin x1 10) (klet (f 19 (Int32.toNatClampNeg x1)) (fun x2_1 => kchk (kin x1 10) (klet ((x2_1 * 6) + (f 20 (Int32.toNatClampNeg x1))) (fun x3_2 => kchk (kin x1 10) (kchk (kin x3_2 48) (klet ((f 21 (Int32.toNatClampNeg x1)) - (f 13 (Int32.toNatClampNeg x3_2))) (fun x4_3 => klt 0 x4_3 (kchk (kin x2_1 8) (kchk (kin x3_2 48) (some (((x4_3 * (f 3 (Int32.toNatClampNeg x2_1))) - (f 14 (Int32.toNatClampNeg x3_2))), f)))) (some (0, f)))))))))
set_option maxRecDepth 100000 in
set_option maxHeartbeats 4000000 in
theorem km_X4_lackingPieces (l : Launch) (G : kG) (ad : Nat → Nat) (f : kMem) (x1 : Int32) (r : Int32) (fo : kMem) (h : cf_X4_lackingPieces f x1 = some (r, fo)) : kMet l (wC G ad) yX4_lackingPieces cX4_lackingPieces 5 (some .int) 0 [.ref (kad (wC G ad) 0), .int x1] f r fo := by
  refine kMet_of (own := RX4) (lv := [(0, .ref (kad (wC G ad) 0)), (1, .int x1)]) (by decide) rfl (Nat.le_of_ble_eq_true rfl) rfl h ?_
  intro p e R s m args below meth c C
  unfold cf_X4_lackingPieces
  refine K_aload_n C 0 rfl rfl dX4_lackingPieces_0 ?_
  refine K_getR C kin_X4 rfl (Nat.le_of_ble_eq_true rfl) (shC_0 G ad) 3 (by decide) (b := 18) rfl wf_X4_35 rfl dX4_lackingPieces_1 ?_
  refine K_getR C kin_X6 rfl (Nat.le_of_ble_eq_true rfl) (shC_18 G ad) 1 (by decide) (b := 19) rfl wf_X4_178 rfl dX4_lackingPieces_4 ?_
  refine K_iload_n C 1 rfl rfl dX4_lackingPieces_7 ?_
  refine K_iald C (Nat.le_of_ble_eq_true rfl) (shC_19 G ad) dX4_lackingPieces_8 ?_
  refine K_let rfl (fun x2_1 => ?_)
  refine K_istore_n C (lv1 := [(2, .int x2_1), (0, .ref (kad (wC G ad) 0)), (1, .int x1)]) rfl (by decide) rfl dX4_lackingPieces_9 ?_
  refine K_iload_n C 0 rfl rfl dX4_lackingPieces_10 ?_
  refine K_bipush C (v := 6) (by decide) dX4_lackingPieces_11 ?_
  refine K_imul C dX4_lackingPieces_13 ?_
  refine K_aload_n C 1 rfl rfl dX4_lackingPieces_14 ?_
  refine K_getR C kin_X4 rfl (Nat.le_of_ble_eq_true rfl) (shC_0 G ad) 3 (by decide) (b := 18) rfl wf_X4_35 rfl dX4_lackingPieces_15 ?_
  refine K_getR C kin_X6 rfl (Nat.le_of_ble_eq_true rfl) (shC_18 G ad) 2 (by decide) (b := 20) rfl wf_X4_181 rfl dX4_lackingPieces_18 ?_
  refine K_iload_n C 2 rfl rfl dX4_lackingPieces_21 ?_
  refine K_iald C (Nat.le_of_ble_eq_true rfl) (shC_20 G ad) dX4_lackingPieces_22 ?_
  refine K_iadd C dX4_lackingPieces_23 ?_
  refine K_let rfl (fun x3_2 => ?_)
  refine K_istore_n C (lv1 := [(3, .int x3_2), (2, .int x2_1), (0, .ref (kad (wC G ad) 0)), (1, .int x1)]) rfl (by decide) rfl dX4_lackingPieces_24 ?_
  refine K_aload_n C 2 rfl rfl dX4_lackingPieces_25 ?_
  refine K_getR C kin_X4 rfl (Nat.le_of_ble_eq_true rfl) (shC_0 G ad) 3 (by decide) (b := 18) rfl wf_X4_35 rfl dX4_lackingPieces_26 ?_
  refine K_getR C kin_X6 rfl (Nat.le_of_ble_eq_true rfl) (shC_18 G ad) 3 (by decide) (b := 21) rfl wf_X4_184 rfl dX4_lackingPieces_29 ?_
  refine K_iload_n C 3 rfl rfl dX4_lackingPieces_32 ?_
  refine K_iald C (Nat.le_of_ble_eq_true rfl) (shC_21 G ad) dX4_lackingPieces_33 ?_
  refine K_aload_n C 2 rfl rfl dX4_lackingPieces_34 ?_
  refine K_getR C kin_X4 rfl (Nat.le_of_ble_eq_true rfl) (shC_0 G ad) 2 (by decide) (b := 12) rfl wf_X4_28 rfl dX4_lackingPieces_35 ?_
  refine K_getR C kin_X9 rfl (Nat.le_of_ble_eq_true rfl) (shC_12 G ad) 0 (by decide) (b := 13) rfl wf_X4_187 rfl dX4_lackingPieces_38 ?_
  refine K_iload_n C 0 rfl rfl dX4_lackingPieces_41 ?_
  refine K_iald C (Nat.le_of_ble_eq_true rfl) (shC_13 G ad) dX4_lackingPieces_42 ?_
  refine K_isub C dX4_lackingPieces_43 ?_
  refine K_let rfl (fun x4_3 => ?_)
  refine K_istore C (lv1 := [(4, .int x4_3), (3, .int x3_2), (2, .int x2_1), (0, .ref (kad (wC G ad) 0)), (1, .int x1)]) (by decide) rfl dX4_lackingPieces_44 ?_
  refine K_iload C 0 rfl dX4_lackingPieces_46 ?_
  refine K_if_gt C (tgt := 55) (by decide) dX4_lackingPieces_48 ?_ ?_
  · refine K_iload C 0 rfl dX4_lackingPieces_55 ?_
    refine K_aload_n C 3 rfl rfl dX4_lackingPieces_57 ?_
    refine K_getR C kin_X4 rfl (Nat.le_of_ble_eq_true rfl) (shC_0 G ad) 0 (by decide) (b := 1) rfl wf_X4_12 rfl dX4_lackingPieces_58 ?_
    refine K_getR C kin_X0 rfl (Nat.le_of_ble_eq_true rfl) (shC_1 G ad) 4 (by decide) (b := 3) rfl wf_X4_158 rfl dX4_lackingPieces_61 ?_
    refine K_iload_n C 2 rfl rfl dX4_lackingPieces_64 ?_
    refine K_iald C (Nat.le_of_ble_eq_true rfl) (shC_3 G ad) dX4_lackingPieces_65 ?_
    refine K_imul C dX4_lackingPieces_66 ?_
    refine K_aload_n C 3 rfl rfl dX4_lackingPieces_67 ?_
    refine K_getR C kin_X4 rfl (Nat.le_of_ble_eq_true rfl) (shC_0 G ad) 2 (by decide) (b := 12) rfl wf_X4_28 rfl dX4_lackingPieces_68 ?_
    refine K_getR C kin_X9 rfl (Nat.le_of_ble_eq_true rfl) (shC_12 G ad) 1 (by decide) (b := 14) rfl wf_X4_190 rfl dX4_lackingPieces_71 ?_
    refine K_iload_n C 1 rfl rfl dX4_lackingPieces_74 ?_
    refine K_iald C (Nat.le_of_ble_eq_true rfl) (shC_14 G ad) dX4_lackingPieces_75 ?_
    refine K_isub C dX4_lackingPieces_76 ?_
    exact K_ret C rfl rfl dX4_lackingPieces_77
  · refine K_iconst C (v := 0) (by decide) dX4_lackingPieces_51 ?_
    refine K_goto C (tgt := 77) (by decide) dX4_lackingPieces_52 ?_
    exact K_ret C rfl rfl dX4_lackingPieces_77
def cf_X5_keep (f : kMem) : Option (Int32 × kMem) := kle 8 (f 275 2) (kchk (!decide (9 = 0)) (kmem (kup f 275 1 (((f 275 1) + 1) - ((f 275 1) + 1) / 9 * 9)) (fun g1 => some (0, g1)))) (kmem (kup f 275 2 ((f 275 2) + 1)) (fun g2 => some (0, g2)))
set_option maxRecDepth 100000 in
set_option maxHeartbeats 4000000 in
theorem km_X5_keep (l : Launch) (G : kG) (ad : Nat → Nat) (f : kMem) (r : Int32) (fo : kMem) (h : cf_X5_keep f = some (r, fo)) : kMet l (wC G ad) yX5_keep cX5_keep 1 none 0 [.ref (kad (wC G ad) 275)] f r fo := by
  refine kMet_of (own := RX5) (lv := [(0, .ref (kad (wC G ad) 275))]) (by decide) rfl (Nat.le_of_ble_eq_true rfl) rfl h ?_
  intro p e R s m args below meth c C
  unfold cf_X5_keep
  refine K_aload_n C 0 rfl rfl dX5_keep_0 ?_
  refine K_getI C kin_X5 rfl (Nat.le_of_ble_eq_true rfl) (shC_275 G ad) 2 (by decide) rfl wf_X5_26 rfl dX5_keep_1 ?_
  refine K_bipush C (v := 8) (by decide) dX5_keep_4 ?_
  refine K_icmp_ge C (tgt := 22) (by decide) dX5_keep_6 ?_ ?_
  · refine K_aload_n C 0 rfl rfl dX5_keep_22 ?_
    refine K_aload_n C 0 rfl rfl dX5_keep_23 ?_
    refine K_getI C kin_X5 rfl (Nat.le_of_ble_eq_true rfl) (shC_275 G ad) 1 (by decide) rfl wf_X5_30 rfl dX5_keep_24 ?_
    refine K_iconst C (v := 1) (by decide) dX5_keep_27 ?_
    refine K_iadd C dX5_keep_28 ?_
    refine K_bipush C (v := 9) (by decide) dX5_keep_29 ?_
    refine K_irem C dX5_keep_31 ?_
    refine K_putI C kin_X5 rfl (Nat.le_of_ble_eq_true rfl) (shC_275 G ad) 1 (by decide) rfl wf_X5_30 rfl tyX5 tyX5_ok nmX5 (by decide) (ty := .int) (by decide +kernel) rfl rfl dX5_keep_32 (fun g1 => ?_)
    exact K_vret C rfl dX5_keep_35
  · refine K_aload_n C 0 rfl rfl dX5_keep_9 ?_
    refine K_dup C rfl dX5_keep_10 ?_
    refine K_getI C kin_X5 rfl (Nat.le_of_ble_eq_true rfl) (shC_275 G ad) 2 (by decide) rfl wf_X5_26 rfl dX5_keep_11 ?_
    refine K_iconst C (v := 1) (by decide) dX5_keep_14 ?_
    refine K_iadd C dX5_keep_15 ?_
    refine K_putI C kin_X5 rfl (Nat.le_of_ble_eq_true rfl) (shC_275 G ad) 2 (by decide) rfl wf_X5_26 rfl tyX5 tyX5_ok nmX5 (by decide) (ty := .int) (by decide +kernel) rfl rfl dX5_keep_16 (fun g2 => ?_)
    refine K_goto C (tgt := 35) (by decide) dX5_keep_19 ?_
    exact K_vret C rfl dX5_keep_35
def cf_X5_forget (f : kMem) : Option (Int32 × kMem) := kmem (kup f 275 2 0) (fun g1 => some (0, g1))
set_option maxRecDepth 100000 in
set_option maxHeartbeats 4000000 in
theorem km_X5_forget (l : Launch) (G : kG) (ad : Nat → Nat) (f : kMem) (r : Int32) (fo : kMem) (h : cf_X5_forget f = some (r, fo)) : kMet l (wC G ad) yX5_forget cX5_forget 1 none 0 [.ref (kad (wC G ad) 275)] f r fo := by
  refine kMet_of (own := RX5) (lv := [(0, .ref (kad (wC G ad) 275))]) (by decide) rfl (Nat.le_of_ble_eq_true rfl) rfl h ?_
  intro p e R s m args below meth c C
  unfold cf_X5_forget
  refine K_aload_n C 0 rfl rfl dX5_forget_0 ?_
  refine K_iconst C (v := 0) (by decide) dX5_forget_1 ?_
  refine K_putI C kin_X5 rfl (Nat.le_of_ble_eq_true rfl) (shC_275 G ad) 2 (by decide) rfl wf_X5_26 rfl tyX5 tyX5_ok nmX5 (by decide) (ty := .int) (by decide +kernel) rfl rfl dX5_forget_2 (fun g1 => ?_)
  exact K_vret C rfl dX5_forget_5
def cf_X5_roomBehind (f : kMem) : Option (Int32 × kMem) := kchk (!decide (9 = 0)) (some ((((f 275 1) + (f 275 2)) - ((f 275 1) + (f 275 2)) / 9 * 9), f))
set_option maxRecDepth 100000 in
set_option maxHeartbeats 4000000 in
theorem km_X5_roomBehind (l : Launch) (G : kG) (ad : Nat → Nat) (f : kMem) (r : Int32) (fo : kMem) (h : cf_X5_roomBehind f = some (r, fo)) : kMet l (wC G ad) yX5_roomBehind cX5_roomBehind 1 (some .int) 0 [.ref (kad (wC G ad) 275)] f r fo := by
  refine kMet_of (own := RX5) (lv := [(0, .ref (kad (wC G ad) 275))]) (by decide) rfl (Nat.le_of_ble_eq_true rfl) rfl h ?_
  intro p e R s m args below meth c C
  unfold cf_X5_roomBehind
  refine K_aload_n C 0 rfl rfl dX5_roomBehind_0 ?_
  refine K_getI C kin_X5 rfl (Nat.le_of_ble_eq_true rfl) (shC_275 G ad) 1 (by decide) rfl wf_X5_30 rfl dX5_roomBehind_1 ?_
  refine K_aload_n C 0 rfl rfl dX5_roomBehind_4 ?_
  refine K_getI C kin_X5 rfl (Nat.le_of_ble_eq_true rfl) (shC_275 G ad) 2 (by decide) rfl wf_X5_26 rfl dX5_roomBehind_5 ?_
  refine K_iadd C dX5_roomBehind_8 ?_
  refine K_bipush C (v := 9) (by decide) dX5_roomBehind_9 ?_
  refine K_irem C dX5_roomBehind_11 ?_
  exact K_ret C rfl rfl dX5_roomBehind_12
def cf_X11_commandCarriedOut (f : kMem) (x1 : Int32) : Option (Int32 × kMem) := kbind (cf_X7_numberOf f x1 0) (fun r1 g2 => kbind (cf_X7_numberOf g2 x1 1) (fun r3 g4 => kbind (cf_X7_kindOf g4 x1) (fun r5 g6 => keq r5 0 (kbind (cf_X4_mountFamily g6 r1) (fun r8 g9 => some (r8, g9))) (keq r5 1 (kbind (cf_X4_runShots g6 r1 r3) (fun r11 g12 => some (r11, g12))) (keq r5 2 (kbind (cf_X4_waitMinutes g6 r1) (fun r14 g15 => some (r14, g15))) (kbind (cf_X7_numberOf g6 x1 2) (fun r16 g17 => kbind (cf_X4_loadDryer g17 r1 r3 r16) (fun r18 g19 => some (r18, g19)))))))))
set_option maxRecDepth 100000 in
set_option maxHeartbeats 4000000 in
theorem km_X11_commandCarriedOut (l : Launch) (G : kG) (ad : Nat → Nat) (f : kMem) (x1 : Int32) (r : Int32) (fo : kMem) (h : cf_X11_commandCarriedOut f x1 = some (r, fo)) : kMet l (wC G ad) yX11_commandCarriedOut cX11_commandCarriedOut 4 (some .int) 5 [.ref (kad (wC G ad) 291), .int x1] f r fo := by
  refine kMet_of (own := RX11) (lv := [(0, .ref (kad (wC G ad) 291)), (1, .int x1)]) (by decide) rfl (Nat.le_of_ble_eq_true rfl) rfl h ?_
  intro p e R s m args below meth c C
  unfold cf_X11_commandCarriedOut
  refine K_aload_n C 0 rfl rfl dX11_commandCarriedOut_0 ?_
  refine K_getR C kin_X11 rfl (Nat.le_of_ble_eq_true rfl) (shC_291 G ad) 6 (by decide) (b := 285) rfl wf_X11_50 rfl dX11_commandCarriedOut_1 ?_
  refine K_iload_n C 1 rfl rfl dX11_commandCarriedOut_4 ?_
  refine K_iconst C (v := 0) (by decide) dX11_commandCarriedOut_5 ?_
  refine K_callVi C (As := [.int x1, .int 0]) (rest := []) (Nat.le_of_ble_eq_true rfl) (shC_285 G ad) rfl hy_X7_numberOf wm_X11_435 (by decide) ⟨Nat.le_refl _, Nat.le_refl _⟩ (fun rr ff hh => km_X7_numberOf l G ad f x1 0 rr ff hh) rfl rfl (Nat.le_of_ble_eq_true rfl) rfl dX11_commandCarriedOut_6 (fun r1 g2 => ?_)
  refine K_istore_n C (lv1 := [(2, .int r1), (0, .ref (kad (wC G ad) 291)), (1, .int x1)]) rfl (by decide) rfl dX11_commandCarriedOut_9 ?_
  refine K_aload_n C 1 rfl rfl dX11_commandCarriedOut_10 ?_
  refine K_getR C kin_X11 rfl (Nat.le_of_ble_eq_true rfl) (shC_291 G ad) 6 (by decide) (b := 285) rfl wf_X11_50 rfl dX11_commandCarriedOut_11 ?_
  refine K_iload_n C 2 rfl rfl dX11_commandCarriedOut_14 ?_
  refine K_iconst C (v := 1) (by decide) dX11_commandCarriedOut_15 ?_
  refine K_callVi C (As := [.int x1, .int 1]) (rest := []) (Nat.le_of_ble_eq_true rfl) (shC_285 G ad) rfl hy_X7_numberOf wm_X11_435 (by decide) ⟨Nat.le_refl _, Nat.le_refl _⟩ (fun rr ff hh => km_X7_numberOf l G ad g2 x1 1 rr ff hh) rfl rfl (Nat.le_of_ble_eq_true rfl) rfl dX11_commandCarriedOut_16 (fun r3 g4 => ?_)
  refine K_istore_n C (lv1 := [(3, .int r3), (2, .int r1), (0, .ref (kad (wC G ad) 291)), (1, .int x1)]) rfl (by decide) rfl dX11_commandCarriedOut_19 ?_
  refine K_aload_n C 2 rfl rfl dX11_commandCarriedOut_20 ?_
  refine K_getR C kin_X11 rfl (Nat.le_of_ble_eq_true rfl) (shC_291 G ad) 6 (by decide) (b := 285) rfl wf_X11_50 rfl dX11_commandCarriedOut_21 ?_
  refine K_iload_n C 3 rfl rfl dX11_commandCarriedOut_24 ?_
  refine K_callVi C (As := [.int x1]) (rest := []) (Nat.le_of_ble_eq_true rfl) (shC_285 G ad) rfl hy_X7_kindOf wm_X11_438 (by decide) ⟨Nat.le_refl _, Nat.le_refl _⟩ (fun rr ff hh => km_X7_kindOf l G ad g4 x1 rr ff hh) rfl rfl (Nat.le_of_ble_eq_true rfl) rfl dX11_commandCarriedOut_25 (fun r5 g6 => ?_)
  refine K_case (fun hc7 => ?_) (fun hc7 => ?_)
  · refine K_tin C (off := 28) (tgt := 56) (by rw [hc7]; decide) (by rw [hc7]; decide) (by rw [hc7]; decide) (by decide) dX11_commandCarriedOut_28 ?_
    refine K_aload_n C 2 rfl rfl dX11_commandCarriedOut_56 ?_
    refine K_getR C kin_X11 rfl (Nat.le_of_ble_eq_true rfl) (shC_291 G ad) 0 (by decide) (b := 0) rfl wf_X11_12 rfl dX11_commandCarriedOut_57 ?_
    refine K_iload_n C 1 rfl rfl dX11_commandCarriedOut_60 ?_
    refine K_aload_n C 2 rfl rfl dX11_commandCarriedOut_61 ?_
    refine K_getR C kin_X11 rfl (Nat.le_of_ble_eq_true rfl) (shC_291 G ad) 3 (by decide) (b := 277) rfl wf_X11_29 rfl dX11_commandCarriedOut_62 ?_
    refine K_callVi C (As := [.int r1, .ref (kad (wC G ad) 277)]) (rest := []) (Nat.le_of_ble_eq_true rfl) (shC_0 G ad) rfl hy_X4_mountFamily wm_X11_137 (by decide) ⟨Nat.le_refl _, Nat.le_refl _⟩ (fun rr ff hh => km_X4_mountFamily l G ad g6 r1 rr ff hh) rfl rfl (Nat.le_of_ble_eq_true rfl) rfl dX11_commandCarriedOut_65 (fun r8 g9 => ?_)
    exact K_ret C rfl rfl dX11_commandCarriedOut_68
  · refine K_case (fun hc10 => ?_) (fun hc10 => ?_)
    · refine K_tin C (off := 41) (tgt := 69) (by rw [hc10]; decide) (by rw [hc10]; decide) (by rw [hc10]; decide) (by decide) dX11_commandCarriedOut_28 ?_
      refine K_aload_n C 2 rfl rfl dX11_commandCarriedOut_69 ?_
      refine K_getR C kin_X11 rfl (Nat.le_of_ble_eq_true rfl) (shC_291 G ad) 0 (by decide) (b := 0) rfl wf_X11_12 rfl dX11_commandCarriedOut_70 ?_
      refine K_iload_n C 1 rfl rfl dX11_commandCarriedOut_73 ?_
      refine K_iload_n C 0 rfl rfl dX11_commandCarriedOut_74 ?_
      refine K_aload_n C 2 rfl rfl dX11_commandCarriedOut_75 ?_
      refine K_getR C kin_X11 rfl (Nat.le_of_ble_eq_true rfl) (shC_291 G ad) 3 (by decide) (b := 277) rfl wf_X11_29 rfl dX11_commandCarriedOut_76 ?_
      refine K_callVi C (As := [.int r1, .int r3, .ref (kad (wC G ad) 277)]) (rest := []) (Nat.le_of_ble_eq_true rfl) (shC_0 G ad) rfl hy_X4_runShots wm_X11_156 (by decide) ⟨Nat.le_refl _, Nat.le_refl _⟩ (fun rr ff hh => km_X4_runShots l G ad g6 r1 r3 rr ff hh) rfl rfl (Nat.le_of_ble_eq_true rfl) rfl dX11_commandCarriedOut_79 (fun r11 g12 => ?_)
      exact K_ret C rfl rfl dX11_commandCarriedOut_82
    · refine K_case (fun hc13 => ?_) (fun hc13 => ?_)
      · refine K_tin C (off := 55) (tgt := 83) (by rw [hc13]; decide) (by rw [hc13]; decide) (by rw [hc13]; decide) (by decide) dX11_commandCarriedOut_28 ?_
        refine K_aload_n C 2 rfl rfl dX11_commandCarriedOut_83 ?_
        refine K_getR C kin_X11 rfl (Nat.le_of_ble_eq_true rfl) (shC_291 G ad) 0 (by decide) (b := 0) rfl wf_X11_12 rfl dX11_commandCarriedOut_84 ?_
        refine K_iload_n C 1 rfl rfl dX11_commandCarriedOut_87 ?_
        refine K_aload_n C 2 rfl rfl dX11_commandCarriedOut_88 ?_
        refine K_getR C kin_X11 rfl (Nat.le_of_ble_eq_true rfl) (shC_291 G ad) 3 (by decide) (b := 277) rfl wf_X11_29 rfl dX11_commandCarriedOut_89 ?_
        refine K_callVi C (As := [.int r1, .ref (kad (wC G ad) 277)]) (rest := []) (Nat.le_of_ble_eq_true rfl) (shC_0 G ad) rfl hy_X4_waitMinutes wm_X11_153 (by decide) ⟨Nat.le_refl _, Nat.le_refl _⟩ (fun rr ff hh => km_X4_waitMinutes l G ad g6 r1 rr ff hh) rfl rfl (Nat.le_of_ble_eq_true rfl) rfl dX11_commandCarriedOut_92 (fun r14 g15 => ?_)
        exact K_ret C rfl rfl dX11_commandCarriedOut_95
      · refine K_tout C (tgt := 96) (by have q0 := kne 0 (by decide) hc7; have q1 := kne 1 (by decide) hc10; have q2 := kne 2 (by decide) hc13; omega) (by decide) dX11_commandCarriedOut_28 ?_
        refine K_aload_n C 2 rfl rfl dX11_commandCarriedOut_96 ?_
        refine K_getR C kin_X11 rfl (Nat.le_of_ble_eq_true rfl) (shC_291 G ad) 0 (by decide) (b := 0) rfl wf_X11_12 rfl dX11_commandCarriedOut_97 ?_
        refine K_iload_n C 1 rfl rfl dX11_commandCarriedOut_100 ?_
        refine K_iload_n C 0 rfl rfl dX11_commandCarriedOut_101 ?_
        refine K_aload_n C 2 rfl rfl dX11_commandCarriedOut_102 ?_
        refine K_getR C kin_X11 rfl (Nat.le_of_ble_eq_true rfl) (shC_291 G ad) 6 (by decide) (b := 285) rfl wf_X11_50 rfl dX11_commandCarriedOut_103 ?_
        refine K_iload_n C 3 rfl rfl dX11_commandCarriedOut_106 ?_
        refine K_iconst C (v := 2) (by decide) dX11_commandCarriedOut_107 ?_
        refine K_callVi C (As := [.int x1, .int 2]) (rest := [.int r3, .int r1, .ref (kad (wC G ad) 0)]) (Nat.le_of_ble_eq_true rfl) (shC_285 G ad) rfl hy_X7_numberOf wm_X11_435 (by decide) ⟨Nat.le_refl _, Nat.le_refl _⟩ (fun rr ff hh => km_X7_numberOf l G ad g6 x1 2 rr ff hh) rfl rfl (Nat.le_of_ble_eq_true rfl) rfl dX11_commandCarriedOut_108 (fun r16 g17 => ?_)
        refine K_aload_n C 2 rfl rfl dX11_commandCarriedOut_111 ?_
        refine K_getR C kin_X11 rfl (Nat.le_of_ble_eq_true rfl) (shC_291 G ad) 3 (by decide) (b := 277) rfl wf_X11_29 rfl dX11_commandCarriedOut_112 ?_
        refine K_callVi C (As := [.int r1, .int r3, .int r16, .ref (kad (wC G ad) 277)]) (rest := []) (Nat.le_of_ble_eq_true rfl) (shC_0 G ad) rfl hy_X4_loadDryer wm_X11_140 (by decide) ⟨Nat.le_refl _, Nat.le_refl _⟩ (fun rr ff hh => km_X4_loadDryer l G ad g17 r1 r3 r16 rr ff hh) rfl rfl (Nat.le_of_ble_eq_true rfl) rfl dX11_commandCarriedOut_115 (fun r18 g19 => ?_)
        exact K_ret C rfl rfl dX11_commandCarriedOut_118
def cf_X11_faultPosition (f : kMem) : Option (Int32 × kMem) := some ((f 280 3), f)
set_option maxRecDepth 100000 in
set_option maxHeartbeats 4000000 in
theorem km_X11_faultPosition (l : Launch) (G : kG) (ad : Nat → Nat) (f : kMem) (r : Int32) (fo : kMem) (h : cf_X11_faultPosition f = some (r, fo)) : kMet l (wC G ad) yX11_faultPosition cX11_faultPosition 1 (some .int) 0 [.ref (kad (wC G ad) 291)] f r fo := by
  refine kMet_of (own := RX11) (lv := [(0, .ref (kad (wC G ad) 291))]) (by decide) rfl (Nat.le_of_ble_eq_true rfl) rfl h ?_
  intro p e R s m args below meth c C
  unfold cf_X11_faultPosition
  refine K_aload_n C 0 rfl rfl dX11_faultPosition_0 ?_
  refine K_getR C kin_X11 rfl (Nat.le_of_ble_eq_true rfl) (shC_291 G ad) 4 (by decide) (b := 280) rfl wf_X11_36 rfl dX11_faultPosition_1 ?_
  refine K_getI C kin_X10 rfl (Nat.le_of_ble_eq_true rfl) (shC_280 G ad) 3 (by decide) rfl wf_X11_134 rfl dX11_faultPosition_4 ?_
  exact K_ret C rfl rfl dX11_faultPosition_7
