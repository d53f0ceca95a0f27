def cf_X11_isWithin (f : kMem) (x0 x1 x2 : Int32) : Option (Int32 × kMem) := klt x0 x1 (some (0, f)) (klt x2 x0 (some (0, f)) (some (1, f)))
set_option maxRecDepth 100000 in
set_option maxHeartbeats 4000000 in
theorem km_X11_isWithin (l : Launch) (G : kG) (ad : Nat → Nat) (f : kMem) (x0 x1 x2 : Int32) (r : Int32) (fo : kMem) (h : cf_X11_isWithin f x0 x1 x2 = some (r, fo)) : kMet l (wC G ad) yX11_isWithin cX11_isWithin 3 (some .boolean) 0 [.int x0, .int x1, .int x2] f r fo := by
  refine kMet_of (own := RX11) (lv := [(0, .int x0), (1, .int x1), (2, .int x2)]) (by decide) rfl (Nat.le_of_ble_eq_true rfl) rfl h ?_
  intro p e R s m args below meth c C
  unfold cf_X11_isWithin
  refine K_iload_n C 0 rfl rfl dX11_isWithin_0 ?_
  refine K_iload_n C 1 rfl rfl dX11_isWithin_1 ?_
  refine K_icmp_lt C (tgt := 14) (by decide) dX11_isWithin_2 ?_ ?_
  · refine K_iconst C (v := 0) (by decide) dX11_isWithin_14 ?_
    exact K_ret C rfl (by decide) dX11_isWithin_15
  · refine K_iload_n C 0 rfl rfl dX11_isWithin_5 ?_
    refine K_iload_n C 2 rfl rfl dX11_isWithin_6 ?_
    refine K_icmp_gt C (tgt := 14) (by decide) dX11_isWithin_7 ?_ ?_
    · refine K_iconst C (v := 0) (by decide) dX11_isWithin_14 ?_
      exact K_ret C rfl (by decide) dX11_isWithin_15
    · refine K_iconst C (v := 1) (by decide) dX11_isWithin_10 ?_
      refine K_goto C (tgt := 15) (by decide) dX11_isWithin_11 ?_
      exact K_ret C rfl (by decide) dX11_isWithin_15
def cf_X8_putBehind (f : kMem) (x1 x2 : Int32) : Option (Int32 × kMem) := kle 3 (f 277 2) (some (0, f)) (kchk (kin (f 277 2) 3) (kmem (kup f 278 (Int32.toNatClampNeg (f 277 2)) x1) (fun g1 => kchk (kin (g1 277 2) 3) (kmem (kup g1 279 (Int32.toNatClampNeg (g1 277 2)) x2) (fun g2 => kmem (kup g2 277 2 ((g2 277 2) + 1)) (fun g3 => some (0, g3)))))))
set_option maxRecDepth 100000 in
set_option maxHeartbeats 4000000 in
theorem km_X8_putBehind (l : Launch) (G : kG) (ad : Nat → Nat) (f : kMem) (x1 x2 : Int32) (r : Int32) (fo : kMem) (h : cf_X8_putBehind f x1 x2 = some (r, fo)) : kMet l (wC G ad) yX8_putBehind cX8_putBehind 3 none 0 [.ref (kad (wC G ad) 277), .int x1, .int x2] f r fo := by
  refine kMet_of (own := RX8) (lv := [(0, .ref (kad (wC G ad) 277)), (1, .int x1), (2, .int x2)]) (by decide) rfl (Nat.le_of_ble_eq_true rfl) rfl h ?_
  intro p e R s m args below meth c C
  unfold cf_X8_putBehind
  refine K_aload_n C 0 rfl rfl dX8_putBehind_0 ?_
  refine K_getI C kin_X8 rfl (Nat.le_of_ble_eq_true rfl) (shC_277 G ad) 2 (by decide) rfl wf_X8_18 rfl dX8_putBehind_1 ?_
  refine K_iconst C (v := 3) (by decide) dX8_putBehind_4 ?_
  refine K_icmp_ge C (tgt := 38) (by decide) dX8_putBehind_5 ?_ ?_
  · exact K_vret C rfl dX8_putBehind_38
  · refine K_aload_n C 0 rfl rfl dX8_putBehind_8 ?_
    refine K_getR C kin_X8 rfl (Nat.le_of_ble_eq_true rfl) (shC_277 G ad) 0 (by decide) (b := 278) rfl wf_X8_9 rfl dX8_putBehind_9 ?_
    refine K_aload_n C 0 rfl rfl dX8_putBehind_12 ?_
    refine K_getI C kin_X8 rfl (Nat.le_of_ble_eq_true rfl) (shC_277 G ad) 2 (by decide) rfl wf_X8_18 rfl dX8_putBehind_13 ?_
    refine K_iload_n C 1 rfl rfl dX8_putBehind_16 ?_
    refine K_iast C (Nat.le_of_ble_eq_true rfl) (shC_278 G ad) dX8_putBehind_17 (fun g1 => ?_)
    refine K_aload_n C 0 rfl rfl dX8_putBehind_18 ?_
    refine K_getR C kin_X8 rfl (Nat.le_of_ble_eq_true rfl) (shC_277 G ad) 1 (by decide) (b := 279) rfl wf_X8_15 rfl dX8_putBehind_19 ?_
    refine K_aload_n C 0 rfl rfl dX8_putBehind_22 ?_
    refine K_getI C kin_X8 rfl (Nat.le_of_ble_eq_true rfl) (shC_277 G ad) 2 (by decide) rfl wf_X8_18 rfl dX8_putBehind_23 ?_
    refine K_iload_n C 2 rfl rfl dX8_putBehind_26 ?_
    refine K_iast C (Nat.le_of_ble_eq_true rfl) (shC_279 G ad) dX8_putBehind_27 (fun g2 => ?_)
    refine K_aload_n C 0 rfl rfl dX8_putBehind_28 ?_
    refine K_dup C rfl dX8_putBehind_29 ?_
    refine K_getI C kin_X8 rfl (Nat.le_of_ble_eq_true rfl) (shC_277 G ad) 2 (by decide) rfl wf_X8_18 rfl dX8_putBehind_30 ?_
    refine K_iconst C (v := 1) (by decide) dX8_putBehind_33 ?_
    refine K_iadd C dX8_putBehind_34 ?_
    refine K_putI C kin_X8 rfl (Nat.le_of_ble_eq_true rfl) (shC_277 G ad) 2 (by decide) rfl wf_X8_18 rfl tyX8 tyX8_ok nmX8 (by decide) (ty := .int) (by decide +kernel) rfl rfl dX8_putBehind_35 (fun g3 => ?_)
    exact K_vret C rfl dX8_putBehind_38
def cf_X8_refuse (f : kMem) (x1 x2 : Int32) : Option (Int32 × kMem) := kmem (kup f 277 2 0) (fun g1 => kbind (cf_X8_putBehind g1 x1 x2) (fun r2 g3 => some ((-1), g3)))
set_option maxRecDepth 100000 in
set_option maxHeartbeats 4000000 in
theorem km_X8_refuse (l : Launch) (G : kG) (ad : Nat → Nat) (f : kMem) (x1 x2 : Int32) (r : Int32) (fo : kMem) (h : cf_X8_refuse f x1 x2 = some (r, fo)) : kMet l (wC G ad) yX8_refuse cX8_refuse 3 (some .int) 1 [.ref (kad (wC G ad) 277), .int x1, .int x2] f r fo := by
  refine kMet_of (own := RX8) (lv := [(0, .ref (kad (wC G ad) 277)), (1, .int x1), (2, .int x2)]) (by decide) rfl (Nat.le_of_ble_eq_true rfl) rfl h ?_
  intro p e R s m args below meth c C
  unfold cf_X8_refuse
  refine K_aload_n C 0 rfl rfl dX8_refuse_0 ?_
  refine K_iconst C (v := 0) (by decide) dX8_refuse_1 ?_
  refine K_putI C kin_X8 rfl (Nat.le_of_ble_eq_true rfl) (shC_277 G ad) 2 (by decide) rfl wf_X8_18 rfl tyX8 tyX8_ok nmX8 (by decide) (ty := .int) (by decide +kernel) rfl rfl dX8_refuse_2 (fun g1 => ?_)
  refine K_aload_n C 0 rfl rfl dX8_refuse_5 ?_
  refine K_iload_n C 1 rfl rfl dX8_refuse_6 ?_
  refine K_iload_n C 2 rfl rfl dX8_refuse_7 ?_
  refine K_callVv C (As := [.int x1, .int x2]) (rest := []) (Nat.le_of_ble_eq_true rfl) (shC_277 G ad) rfl hy_X8_putBehind wm_X8_22 (by decide) ⟨Nat.le_refl _, Nat.le_refl _⟩ (fun rr ff hh => km_X8_putBehind l G ad g1 x1 x2 rr ff hh) rfl rfl (Nat.le_of_ble_eq_true rfl) rfl dX8_refuse_8 (fun r2 g3 => ?_)
  refine K_iconst C (v := (-1)) (by decide) dX8_refuse_11 ?_
  exact K_ret C rfl rfl dX8_refuse_12
def cf_X10_start (f : kMem) : Option (Int32 × kMem) := kmem (kup f 280 1 0) (fun g1 => some (0, g1))
set_option maxRecDepth 100000 in
set_option maxHeartbeats 4000000 in
theorem km_X10_start (l : Launch) (G : kG) (ad : Nat → Nat) (f : kMem) (r : Int32) (fo : kMem) (h : cf_X10_start f = some (r, fo)) : kMet l (wC G ad) yX10_start cX10_start 1 none 0 [.ref (kad (wC G ad) 280)] f r fo := by
  refine kMet_of (own := RX10) (lv := [(0, .ref (kad (wC G ad) 280))]) (by decide) rfl (Nat.le_of_ble_eq_true rfl) rfl h ?_
  intro p e R s m args below meth c C
  unfold cf_X10_start
  refine K_aload_n C 0 rfl rfl dX10_start_0 ?_
  refine K_iconst C (v := 0) (by decide) dX10_start_1 ?_
  refine K_putI C kin_X10 rfl (Nat.le_of_ble_eq_true rfl) (shC_280 G ad) 1 (by decide) rfl wf_X10_22 rfl tyX10 tyX10_ok nmX10 (by decide) (ty := .int) (by decide +kernel) rfl rfl dX10_start_2 (fun g1 => ?_)
  exact K_vret C rfl dX10_start_5
def cf_X10_isAtDigit (f : kMem) : Option (Int32 × kMem) := kle (f 280 2) (f 280 1) (some (0, f)) (kchk (kin (f 280 1) 80) (klt (f 281 (Int32.toNatClampNeg (f 280 1))) 48 (some (0, f)) (kchk (kin (f 280 1) 80) (klt 57 (f 281 (Int32.toNatClampNeg (f 280 1))) (some (0, f)) (some (1, f))))))
set_option maxRecDepth 100000 in
set_option maxHeartbeats 4000000 in
theorem km_X10_isAtDigit (l : Launch) (G : kG) (ad : Nat → Nat) (f : kMem) (r : Int32) (fo : kMem) (h : cf_X10_isAtDigit f = some (r, fo)) : kMet l (wC G ad) yX10_isAtDigit cX10_isAtDigit 1 (some .boolean) 0 [.ref (kad (wC G ad) 280)] f r fo := by
  refine kMet_of (own := RX10) (lv := [(0, .ref (kad (wC G ad) 280))]) (by decide) rfl (Nat.le_of_ble_eq_true rfl) rfl h ?_
  intro p e R s m args below meth c C
  unfold cf_X10_isAtDigit
  refine K_aload_n C 0 rfl rfl dX10_isAtDigit_0 ?_
  refine K_getI C kin_X10 rfl (Nat.le_of_ble_eq_true rfl) (shC_280 G ad) 1 (by decide) rfl wf_X10_22 rfl dX10_isAtDigit_1 ?_
  refine K_aload_n C 0 rfl rfl dX10_isAtDigit_4 ?_
  refine K_getI C kin_X10 rfl (Nat.le_of_ble_eq_true rfl) (shC_280 G ad) 2 (by decide) rfl wf_X10_19 rfl dX10_isAtDigit_5 ?_
  refine K_icmp_ge C (tgt := 43) (by decide) dX10_isAtDigit_8 ?_ ?_
  · refine K_iconst C (v := 0) (by decide) dX10_isAtDigit_43 ?_
    exact K_ret C rfl (by decide) dX10_isAtDigit_44
  · refine K_aload_n C 0 rfl rfl dX10_isAtDigit_11 ?_
    refine K_getR C kin_X10 rfl (Nat.le_of_ble_eq_true rfl) (shC_280 G ad) 0 (by decide) (b := 281) rfl wf_X10_9 rfl dX10_isAtDigit_12 ?_
    refine K_aload_n C 0 rfl rfl dX10_isAtDigit_15 ?_
    refine K_getI C kin_X10 rfl (Nat.le_of_ble_eq_true rfl) (shC_280 G ad) 1 (by decide) rfl wf_X10_22 rfl dX10_isAtDigit_16 ?_
    refine K_cald C (Nat.le_of_ble_eq_true rfl) (shC_281 G ad) dX10_isAtDigit_19 ?_
    refine K_bipush C (v := 48) (by decide) dX10_isAtDigit_20 ?_
    refine K_icmp_lt C (tgt := 43) (by decide) dX10_isAtDigit_22 ?_ ?_
    · refine K_iconst C (v := 0) (by decide) dX10_isAtDigit_43 ?_
      exact K_ret C rfl (by decide) dX10_isAtDigit_44
    · refine K_aload_n C 0 rfl rfl dX10_isAtDigit_25 ?_
      refine K_getR C kin_X10 rfl (Nat.le_of_ble_eq_true rfl) (shC_280 G ad) 0 (by decide) (b := 281) rfl wf_X10_9 rfl dX10_isAtDigit_26 ?_
      refine K_aload_n C 0 rfl rfl dX10_isAtDigit_29 ?_
      refine K_getI C kin_X10 rfl (Nat.le_of_ble_eq_true rfl) (shC_280 G ad) 1 (by decide) rfl wf_X10_22 rfl dX10_isAtDigit_30 ?_
      refine K_cald C (Nat.le_of_ble_eq_true rfl) (shC_281 G ad) dX10_isAtDigit_33 ?_
      refine K_bipush C (v := 57) (by decide) dX10_isAtDigit_34 ?_
      refine K_icmp_gt C (tgt := 43) (by decide) dX10_isAtDigit_36 ?_ ?_
      · refine K_iconst C (v := 0) (by decide) dX10_isAtDigit_43 ?_
        exact K_ret C rfl (by decide) dX10_isAtDigit_44
      · refine K_iconst C (v := 1) (by decide) dX10_isAtDigit_39 ?_
        refine K_goto C (tgt := 44) (by decide) dX10_isAtDigit_40 ?_
        exact K_ret C rfl (by decide) dX10_isAtDigit_44
def cl_X10_number_4 : Nat → kMem → Int32 → Int32 → Int32 → Option (Int32 × kMem)
  | 0, _, _, _, _ => none
  | n + 1, f, x1, x2, x3 => kle x1 x3 (some (x2, f)) (kbind (cf_X10_isAtDigit f) (fun r1 g2 => keq r1 0 (some (x2, g2)) (kchk (kin (g2 280 1) 80) (klet (((kmax 0 x2) * 10) + ((g2 281 (Int32.toNatClampNeg (g2 280 1))) - 48)) (fun x2_3 => kmem (kup g2 280 1 ((g2 280 1) + 1)) (fun g4 => klet (x3 + Int32.ofInt 1) (fun x3_5 => ((cl_X10_number_4 n) g4 x1 x2_3 x3_5))))))))
def cf_X10_number (f : kMem) (x1 : Int32) : Option (Int32 × kMem) := (cl_X10_number_4 100 f x1 (-1) 0)
set_option maxRecDepth 100000 in
set_option maxHeartbeats 4000000 in
theorem kcl_X10_number_4 {p : Program} {l : Launch} {e : Env} {R : Room} {s : State} {m : MethodId} {args : Array Value} {below : List Frame} {meth : Method} {c : Code} {G : kG} {ad : Nat → Nat} {z : Int32 × kMem} (C : KC p l e R s m args below meth c (wC G ad) RX10 cX10_number 4 (some .int) 1 0 0)  : ∀ (n : Nat) (f : kMem) (x1 x2 x3 : Int32), K p l e R s m args below meth c (wC G ad) 4 (kQF below (wC G ad) (some .int) args s z) z 0 0 f 4 [(0, .ref (kad (wC G ad) 280)), (1, .int x1), (2, .int x2), (3, .int x3)] [] (cl_X10_number_4 n f x1 x2 x3) := by
  intro n
  induction n with
  | zero => intro f x1 x2 x3; exact K_none
  | succ n ih =>
    intro f x1 x2 x3
    unfold cl_X10_number_4
    refine K_iload_n C 3 rfl rfl dX10_number_4 ?_
    refine K_iload_n C 1 rfl rfl dX10_number_5 ?_
    refine K_icmp_ge C (tgt := 54) (by decide) dX10_number_6 ?_ ?_
    · refine K_iload_n C 2 rfl rfl dX10_number_54 ?_
      exact K_ret C rfl rfl dX10_number_55
    · refine K_aload_n C 0 rfl rfl dX10_number_9 ?_
      refine K_callVi C (As := []) (rest := []) (Nat.le_of_ble_eq_true rfl) (shC_280 G ad) rfl hy_X10_isAtDigit wm_X10_29 (by decide) ⟨Nat.le_refl _, Nat.le_refl _⟩ (fun rr ff hh => km_X10_isAtDigit l G ad f rr ff hh) rfl rfl (Nat.le_of_ble_eq_true rfl) rfl dX10_number_10 (fun r1 g2 => ?_)
      refine K_if_eq C (tgt := 54) (by decide) dX10_number_13 ?_ ?_
      · refine K_iload_n C 2 rfl rfl dX10_number_54 ?_
        exact K_ret C rfl rfl dX10_number_55
      · refine K_iconst C (v := 0) (by decide) dX10_number_16 ?_
        refine K_iload_n C 2 rfl rfl dX10_number_17 ?_
        refine K_mmax C wm_X10_32 (by decide) ⟨Nat.le_refl _, Nat.le_refl _⟩ (Nat.le_of_ble_eq_true rfl) dX10_number_18 ?_
        refine K_bipush C (v := 10) (by decide) dX10_number_21 ?_
        refine K_imul C dX10_number_23 ?_
        refine K_aload_n C 0 rfl rfl dX10_number_24 ?_
        refine K_getR C kin_X10 rfl (Nat.le_of_ble_eq_true rfl) (shC_280 G ad) 0 (by decide) (b := 281) rfl wf_X10_9 rfl dX10_number_25 ?_
        refine K_aload_n C 0 rfl rfl dX10_number_28 ?_
        refine K_getI C kin_X10 rfl (Nat.le_of_ble_eq_true rfl) (shC_280 G ad) 1 (by decide) rfl wf_X10_22 rfl dX10_number_29 ?_
        refine K_cald C (Nat.le_of_ble_eq_true rfl) (shC_281 G ad) dX10_number_32 ?_
        refine K_bipush C (v := 48) (by decide) dX10_number_33 ?_
        refine K_isub C dX10_number_35 ?_
        refine K_iadd C dX10_number_36 ?_
        refine K_let rfl (fun x2_3 => ?_)
        refine K_istore_n C (lv1 := [(2, .int x2_3), (0, .ref (kad (wC G ad) 280)), (1, .int x1), (3, .int x3)]) rfl (by decide) rfl dX10_number_37 ?_
        refine K_aload_n C 1 rfl rfl dX10_number_38 ?_
        refine K_dup C rfl dX10_number_39 ?_
        refine K_getI C kin_X10 rfl (Nat.le_of_ble_eq_true rfl) (shC_280 G ad) 1 (by decide) rfl wf_X10_22 rfl dX10_number_40 ?_
        refine K_iconst C (v := 1) (by decide) dX10_number_43 ?_
        refine K_iadd C dX10_number_44 ?_
        refine K_putI C kin_X10 rfl (Nat.le_of_ble_eq_true rfl) (shC_280 G ad) 1 (by decide) rfl wf_X10_22 rfl tyX10 tyX10_ok nmX10 (by decide) (ty := .int) (by decide +kernel) rfl rfl dX10_number_45 (fun g4 => ?_)
        refine K_iinc C (k := 3) (lv1 := fun x3_5 => [(3, .int x3_5), (2, .int x2_3), (0, .ref (kad (wC G ad) 280)), (1, .int x1)]) rfl (by decide) (fun _ => rfl) dX10_number_48 (fun x3_5 => ?_)
        refine K_goto C (tgt := 4) (by decide) dX10_number_51 ?_
        refine K_sub [2, 3, 1, 0] rfl ?_
        exact ih g4 x1 x2_3 x3_5
set_option maxRecDepth 100000 in
set_option maxHeartbeats 4000000 in
theorem km_X10_number (l : Launch) (G : kG) (ad : Nat → Nat) (f : kMem) (x1 : Int32) (r : Int32) (fo : kMem) (h : cf_X10_number f x1 = some (r, fo)) : kMet l (wC G ad) yX10_number cX10_number 4 (some .int) 1 [.ref (kad (wC G ad) 280), .int x1] f r fo := by
  refine kMet_of (own := RX10) (lv := [(0, .ref (kad (wC G ad) 280)), (1, .int x1)]) (by decide) rfl (Nat.le_of_ble_eq_true rfl) rfl h ?_
  intro p e R s m args below meth c C
  unfold cf_X10_number
  refine K_iconst C (v := (-1)) (by decide) dX10_number_0 ?_
  refine K_istore_n C (lv1 := [(2, .int (-1)), (0, .ref (kad (wC G ad) 280)), (1, .int x1)]) rfl (by decide) rfl dX10_number_1 ?_
  refine K_iconst C (v := 0) (by decide) dX10_number_2 ?_
  refine K_istore_n C (lv1 := [(3, .int 0), (2, .int (-1)), (0, .ref (kad (wC G ad) 280)), (1, .int x1)]) rfl (by decide) rfl dX10_number_3 ?_
  refine K_sub [2, 3, 1, 0] rfl ?_
  exact kcl_X10_number_4 C 100 f x1 (-1) 0
def cf_X10_isAtEnd (f : kMem) : Option (Int32 × kMem) := klt (f 280 1) (f 280 2) (some (0, f)) (some (1, f))
set_option maxRecDepth 100000 in
set_option maxHeartbeats 4000000 in
theorem km_X10_isAtEnd (l : Launch) (G : kG) (ad : Nat → Nat) (f : kMem) (r : Int32) (fo : kMem) (h : cf_X10_isAtEnd f = some (r, fo)) : kMet l (wC G ad) yX10_isAtEnd cX10_isAtEnd 1 (some .boolean) 0 [.ref (kad (wC G ad) 280)] f r fo := by
  refine kMet_of (own := RX10) (lv := [(0, .ref (kad (wC G ad) 280))]) (by decide) rfl (Nat.le_of_ble_eq_true rfl) rfl h ?_
  intro p e R s m args below meth c C
  unfold cf_X10_isAtEnd
  refine K_aload_n C 0 rfl rfl dX10_isAtEnd_0 ?_
  refine K_getI C kin_X10 rfl (Nat.le_of_ble_eq_true rfl) (shC_280 G ad) 1 (by decide) rfl wf_X10_22 rfl dX10_isAtEnd_1 ?_
  refine K_aload_n C 0 rfl rfl dX10_isAtEnd_4 ?_
  refine K_getI C kin_X10 rfl (Nat.le_of_ble_eq_true rfl) (shC_280 G ad) 2 (by decide) rfl wf_X10_19 rfl dX10_isAtEnd_5 ?_
  refine K_icmp_lt C (tgt := 15) (by decide) dX10_isAtEnd_8 ?_ ?_
  · refine K_iconst C (v := 0) (by decide) dX10_isAtEnd_15 ?_
    exact K_ret C rfl (by decide) dX10_isAtEnd_16
  · refine K_iconst C (v := 1) (by decide) dX10_isAtEnd_11 ?_
    refine K_goto C (tgt := 16) (by decide) dX10_isAtEnd_12 ?_
    exact K_ret C rfl (by decide) dX10_isAtEnd_16
def cf_X10_skip (f : kMem) (x1 : Int32) : Option (Int32 × kMem) := kbind (cf_X10_isAtEnd f) (fun r1 g2 => keq r1 0 (kchk (kin (g2 280 1) 80) (keq (g2 281 (Int32.toNatClampNeg (g2 280 1))) x1 (kmem (kup g2 280 1 ((g2 280 1) + 1)) (fun g3 => some (1, g3))) (some (0, g2)))) (some (0, g2)))
set_option maxRecDepth 100000 in
set_option maxHeartbeats 4000000 in
theorem km_X10_skip (l : Launch) (G : kG) (ad : Nat → Nat) (f : kMem) (x1 : Int32) (r : Int32) (fo : kMem) (h : cf_X10_skip f x1 = some (r, fo)) : kMet l (wC G ad) yX10_skip cX10_skip 2 (some .boolean) 1 [.ref (kad (wC G ad) 280), .int x1] f r fo := by
  refine kMet_of (own := RX10) (lv := [(0, .ref (kad (wC G ad) 280)), (1, .int x1)]) (by decide) rfl (Nat.le_of_ble_eq_true rfl) rfl h ?_
  intro p e R s m args below meth c C
  unfold cf_X10_skip
  refine K_aload_n C 0 rfl rfl dX10_skip_0 ?_
  refine K_callVi C (As := []) (rest := []) (Nat.le_of_ble_eq_true rfl) (shC_280 G ad) rfl hy_X10_isAtEnd wm_X10_25 (by decide) ⟨Nat.le_refl _, Nat.le_refl _⟩ (fun rr ff hh => km_X10_isAtEnd l G ad f rr ff hh) rfl rfl (Nat.le_of_ble_eq_true rfl) rfl dX10_skip_1 (fun r1 g2 => ?_)
  refine K_if_ne C (tgt := 20) (by decide) dX10_skip_4 ?_ ?_
  · refine K_iconst C (v := 0) (by decide) dX10_skip_20 ?_
    exact K_ret C rfl (by decide) dX10_skip_21
  · refine K_aload_n C 0 rfl rfl dX10_skip_7 ?_
    refine K_getR C kin_X10 rfl (Nat.le_of_ble_eq_true rfl) (shC_280 G ad) 0 (by decide) (b := 281) rfl wf_X10_9 rfl dX10_skip_8 ?_
    refine K_aload_n C 0 rfl rfl dX10_skip_11 ?_
    refine K_getI C kin_X10 rfl (Nat.le_of_ble_eq_true rfl) (shC_280 G ad) 1 (by decide) rfl wf_X10_22 rfl dX10_skip_12 ?_
    refine K_cald C (Nat.le_of_ble_eq_true rfl) (shC_281 G ad) dX10_skip_15 ?_
    refine K_iload_n C 1 rfl rfl dX10_skip_16 ?_
    refine K_icmp_eq C (tgt := 22) (by decide) dX10_skip_17 ?_ ?_
    · refine K_aload_n C 0 rfl rfl dX10_skip_22 ?_
      refine K_dup C rfl dX10_skip_23 ?_
      refine K_getI C kin_X10 rfl (Nat.le_of_ble_eq_true rfl) (shC_280 G ad) 1 (by decide) rfl wf_X10_22 rfl dX10_skip_24 ?_
      refine K_iconst C (v := 1) (by decide) dX10_skip_27 ?_
      refine K_iadd C dX10_skip_28 ?_
      refine K_putI C kin_X10 rfl (Nat.le_of_ble_eq_true rfl) (shC_280 G ad) 1 (by decide) rfl wf_X10_22 rfl tyX10 tyX10_ok nmX10 (by decide) (ty := .int) (by decide +kernel) rfl rfl dX10_skip_29 (fun g3 => ?_)
      refine K_iconst C (v := 1) (by decide) dX10_skip_32 ?_
      exact K_ret C rfl (by decide) dX10_skip_33
    · refine K_iconst C (v := 0) (by decide) dX10_skip_20 ?_
      exact K_ret C rfl (by decide) dX10_skip_21
def cf_X10_end (f : kMem) (x1 : Int32) : Option (Int32 × kMem) := keq x1 0 (kmem (kup f 280 3 (f 280 1)) (fun g1 => kchk (kbool x1) (some (x1, g1)))) (kmem (kup f 280 3 (-1)) (fun g2 => kchk (kbool x1) (some (x1, g2))))
set_option maxRecDepth 100000 in
set_option maxHeartbeats 4000000 in
theorem km_X10_end (l : Launch) (G : kG) (ad : Nat → Nat) (f : kMem) (x1 : Int32) (r : Int32) (fo : kMem) (h : cf_X10_end f x1 = some (r, fo)) : kMet l (wC G ad) yX10_end cX10_end 2 (some .boolean) 0 [.ref (kad (wC G ad) 280), .int x1] f r fo := by
  refine kMet_of (own := RX10) (lv := [(0, .ref (kad (wC G ad) 280)), (1, .int x1)]) (by decide) rfl (Nat.le_of_ble_eq_true rfl) rfl h ?_
  intro p e R s m args below meth c C
  unfold cf_X10_end
  refine K_aload_n C 0 rfl rfl dX10_end_0 ?_
  refine K_iload_n C 1 rfl rfl dX10_end_1 ?_
  refine K_if_eq C (tgt := 9) (by decide) dX10_end_2 ?_ ?_
  · refine K_aload_n C 0 rfl rfl dX10_end_9 ?_
    refine K_getI C kin_X10 rfl (Nat.le_of_ble_eq_true rfl) (shC_280 G ad) 1 (by decide) rfl wf_X10_22 rfl dX10_end_10 ?_
    refine K_putI C kin_X10 rfl (Nat.le_of_ble_eq_true rfl) (shC_280 G ad) 3 (by decide) rfl wf_X10_15 rfl tyX10 tyX10_ok nmX10 (by decide) (ty := .int) (by decide +kernel) rfl rfl dX10_end_13 (fun g1 => ?_)
    refine K_iload_n C 1 rfl rfl dX10_end_16 ?_
    exact K_bret C rfl dX10_end_17
  · refine K_iconst C (v := (-1)) (by decide) dX10_end_5 ?_
    refine K_goto C (tgt := 13) (by decide) dX10_end_6 ?_
    refine K_putI C kin_X10 rfl (Nat.le_of_ble_eq_true rfl) (shC_280 G ad) 3 (by decide) rfl wf_X10_15 rfl tyX10 tyX10_ok nmX10 (by decide) (ty := .int) (by decide +kernel) rfl rfl dX10_end_13 (fun g2 => ?_)
    refine K_iload_n C 1 rfl rfl dX10_end_16 ?_
    exact K_bret C rfl dX10_end_17
def cl_X8_putAhead_21 (Y59 : kMem → Int32 → Int32 → Option (Int32 × kMem)) : Nat → kMem → Int32 → Int32 → Int32 → Option (Int32 × kMem)
  | 0, _, _, _, _ => none
  | n + 1, f, x1, x2, x3 => kle x3 0 ((Y59 f x1 x2)) (kchk (kin (x3 - 1) 3) (kchk (kin x3 3) (kmem (kup f 278 (Int32.toNatClampNeg x3) (f 278 (Int32.toNatClampNeg (x3 - 1)))) (fun g3 => kchk (kin (x3 - 1) 3) (kchk (kin x3 3) (kmem (kup g3 279 (Int32.toNatClampNeg x3) (g3 279 (Int32.toNatClampNeg (x3 - 1)))) (fun g4 => klet (x3 + Int32.ofInt (-1)) (fun x3_5 => ((cl_X8_putAhead_21 Y59 n) g4 x1 x2 x3_5)))))))))
def cf_X8_putAhead (f : kMem) (x1 x2 : Int32) : Option (Int32 × kMem) := kmem (kup f 277 2 (kmin ((f 277 2) + 1) 3)) (fun g1 => klet ((g1 277 2) - 1) (fun x3_2 => (cl_X8_putAhead_21 (fun g8 x1_6 x2_7 => kmem (kup g8 278 0 x1_6) (fun g9 => kmem (kup g9 279 0 x2_7) (fun g10 => some (0, g10)))) 100 g1 x1 x2 x3_2)))
set_option maxRecDepth 100000 in
set_option maxHeartbeats 4000000 in
theorem kcl_X8_putAhead_21 {p : Program} {l : Launch} {e : Env} {R : Room} {s : State} {m : MethodId} {args : Array Value} {below : List Frame} {meth : Method} {c : Code} {G : kG} {ad : Nat → Nat} {z : Int32 × kMem} (C : KC p l e R s m args below meth c (wC G ad) RX8 cX8_putAhead 4 none 1 0 0) (Y59 : kMem → Int32 → Int32 → Option (Int32 × kMem)) (hY59 : ∀ (f : kMem) (x1 x2 : Int32), K p l e R s m args below meth c (wC G ad) 4 (kQF below (wC G ad) none args s z) z 0 0 f 59 [(0, .ref (kad (wC G ad) 277)), (1, .int x1), (2, .int x2)] [] (Y59 f x1 x2)) : ∀ (n : Nat) (f : kMem) (x1 x2 x3 : Int32), K p l e R s m args below meth c (wC G ad) 4 (kQF below (wC G ad) none args s z) z 0 0 f 21 [(0, .ref (kad (wC G ad) 277)), (1, .int x1), (2, .int x2), (3, .int x3)] [] (cl_X8_putAhead_21 Y59 n f x1 x2 x3) := by
  intro n
  induction n with
  | zero => intro f x1 x2 x3; exact K_none
  | succ n ih =>
    intro f x1 x2 x3
    unfold cl_X8_putAhead_21
    refine K_iload_n C 3 rfl rfl dX8_putAhead_21 ?_
    refine K_if_le C (tgt := 59) (by decide) dX8_putAhead_22 ?_ ?_
    · refine K_sub [0, 1, 2] rfl ?_
      exact hY59 f x1 x2
    · refine K_aload_n C 0 rfl rfl dX8_putAhead_25 ?_
      refine K_getR C kin_X8 rfl (Nat.le_of_ble_eq_true rfl) (shC_277 G ad) 0 (by decide) (b := 278) rfl wf_X8_9 rfl dX8_putAhead_26 ?_
      refine K_iload_n C 3 rfl rfl dX8_putAhead_29 ?_
      refine K_aload_n C 0 rfl rfl dX8_putAhead_30 ?_
      refine K_getR C kin_X8 rfl (Nat.le_of_ble_eq_true rfl) (shC_277 G ad) 0 (by decide) (b := 278) rfl wf_X8_9 rfl dX8_putAhead_31 ?_
      refine K_iload_n C 3 rfl rfl dX8_putAhead_34 ?_
      refine K_iconst C (v := 1) (by decide) dX8_putAhead_35 ?_
      refine K_isub C dX8_putAhead_36 ?_
      refine K_iald C (Nat.le_of_ble_eq_true rfl) (shC_278 G ad) dX8_putAhead_37 ?_
      refine K_iast C (Nat.le_of_ble_eq_true rfl) (shC_278 G ad) dX8_putAhead_38 (fun g3 => ?_)
      refine K_aload_n C 0 rfl rfl dX8_putAhead_39 ?_
      refine K_getR C kin_X8 rfl (Nat.le_of_ble_eq_true rfl) (shC_277 G ad) 1 (by decide) (b := 279) rfl wf_X8_15 rfl dX8_putAhead_40 ?_
      refine K_iload_n C 3 rfl rfl dX8_putAhead_43 ?_
      refine K_aload_n C 0 rfl rfl dX8_putAhead_44 ?_
      refine K_getR C kin_X8 rfl (Nat.le_of_ble_eq_true rfl) (shC_277 G ad) 1 (by decide) (b := 279) rfl wf_X8_15 rfl dX8_putAhead_45 ?_
      refine K_iload_n C 3 rfl rfl dX8_putAhead_48 ?_
      refine K_iconst C (v := 1) (by decide) dX8_putAhead_49 ?_
      refine K_isub C dX8_putAhead_50 ?_
      refine K_iald C (Nat.le_of_ble_eq_true rfl) (shC_279 G ad) dX8_putAhead_51 ?_
      refine K_iast C (Nat.le_of_ble_eq_true rfl) (shC_279 G ad) dX8_putAhead_52 (fun g4 => ?_)
      refine K_iinc C (k := 3) (lv1 := fun x3_5 => [(3, .int x3_5), (0, .ref (kad (wC G ad) 277)), (1, .int x1), (2, .int x2)]) rfl (by decide) (fun _ => rfl) dX8_putAhead_53 (fun x3_5 => ?_)
      refine K_goto C (tgt := 21) (by decide) dX8_putAhead_56 ?_
      refine K_sub [1, 2, 3, 0] rfl ?_
      exact ih g4 x1 x2 x3_5
set_option maxRecDepth 100000 in
set_option maxHeartbeats 4000000 in
theorem km_X8_putAhead (l : Launch) (G : kG) (ad : Nat → Nat) (f : kMem) (x1 x2 : Int32) (r : Int32) (fo : kMem) (h : cf_X8_putAhead f x1 x2 = some (r, fo)) : kMet l (wC G ad) yX8_putAhead cX8_putAhead 4 none 1 [.ref (kad (wC G ad) 277), .int x1, .int x2] f r fo := by
  refine kMet_of (own := RX8) (lv := [(0, .ref (kad (wC G ad) 277)), (1, .int x1), (2, .int x2)]) (by decide) rfl (Nat.le_of_ble_eq_true rfl) rfl h ?_
  intro p e R s m args below meth c C
  unfold cf_X8_putAhead
  refine K_aload_n C 0 rfl rfl dX8_putAhead_0 ?_
  refine K_aload_n C 0 rfl rfl dX8_putAhead_1 ?_
  refine K_getI C kin_X8 rfl (Nat.le_of_ble_eq_true rfl) (shC_277 G ad) 2 (by decide) rfl wf_X8_18 rfl dX8_putAhead_2 ?_
  refine K_iconst C (v := 1) (by decide) dX8_putAhead_5 ?_
  refine K_iadd C dX8_putAhead_6 ?_
  refine K_iconst C (v := 3) (by decide) dX8_putAhead_7 ?_
  refine K_mmin C wm_X8_26 (by decide) ⟨Nat.le_refl _, Nat.le_refl _⟩ (Nat.le_of_ble_eq_true rfl) dX8_putAhead_8 ?_
  refine K_putI C kin_X8 rfl (Nat.le_of_ble_eq_true rfl) (shC_277 G ad) 2 (by decide) rfl wf_X8_18 rfl tyX8 tyX8_ok nmX8 (by decide) (ty := .int) (by decide +kernel) rfl rfl dX8_putAhead_11 (fun g1 => ?_)
  refine K_aload_n C 0 rfl rfl dX8_putAhead_14 ?_
  refine K_getI C kin_X8 rfl (Nat.le_of_ble_eq_true rfl) (shC_277 G ad) 2 (by decide) rfl wf_X8_18 rfl dX8_putAhead_15 ?_
  refine K_iconst C (v := 1) (by decide) dX8_putAhead_18 ?_
  refine K_isub C dX8_putAhead_19 ?_
  refine K_let rfl (fun x3_2 => ?_)
  refine K_istore_n C (lv1 := [(3, .int x3_2), (0, .ref (kad (wC G ad) 277)), (1, .int x1), (2, .int x2)]) rfl (by decide) rfl dX8_putAhead_20 ?_
  refine K_sub [1, 2, 3, 0] rfl ?_
  refine kcl_X8_putAhead_21 C _ (fun g8 x1_6 x2_7 => ?_) 100 g1 x1 x2 x3_2
  refine K_aload_n C 0 rfl rfl dX8_putAhead_59 ?_
  refine K_getR C kin_X8 rfl (Nat.le_of_ble_eq_true rfl) (shC_277 G ad) 0 (by decide) (b := 278) rfl wf_X8_9 rfl dX8_putAhead_60 ?_
  refine K_iconst C (v := 0) (by decide) dX8_putAhead_63 ?_
  refine K_iload_n C 1 rfl rfl dX8_putAhead_64 ?_
  refine K_iastC C (Nat.le_of_ble_eq_true rfl) (shC_278 G ad) (kin_in (by decide)) dX8_putAhead_65 0 (by decide) (fun g9 => ?_)
  refine K_aload_n C 0 rfl rfl dX8_putAhead_66 ?_
  refine K_getR C kin_X8 rfl (Nat.le_of_ble_eq_true rfl) (shC_277 G ad) 1 (by decide) (b := 279) rfl wf_X8_15 rfl dX8_putAhead_67 ?_
  refine K_iconst C (v := 0) (by decide) dX8_putAhead_70 ?_
  refine K_iload_n C 2 rfl rfl dX8_putAhead_71 ?_
  refine K_iastC C (Nat.le_of_ble_eq_true rfl) (shC_279 G ad) (kin_in (by decide)) dX8_putAhead_72 0 (by decide) (fun g10 => ?_)
  exact K_vret C rfl dX8_putAhead_73
def cf_X10_add (f : kMem) (x1 : Int32) : Option (Int32 × kMem) := klt (f 280 2) 80 (kchk (kin (f 280 2) 80) (kmem (kup f 281 (Int32.toNatClampNeg (f 280 2)) (vp_nar .char x1)) (fun g1 => kmem (kup g1 280 2 ((g1 280 2) + 1)) (fun g2 => some (1, g2))))) (some (0, f))
set_option maxRecDepth 100000 in
set_option maxHeartbeats 4000000 in
theorem km_X10_add (l : Launch) (G : kG) (ad : Nat → Nat) (f : kMem) (x1 : Int32) (r : Int32) (fo : kMem) (h : cf_X10_add f x1 = some (r, fo)) : kMet l (wC G ad) yX10_add cX10_add 2 (some .boolean) 0 [.ref (kad (wC G ad) 280), .int x1] f r fo := by
  refine kMet_of (own := RX10) (lv := [(0, .ref (kad (wC G ad) 280)), (1, .int x1)]) (by decide) rfl (Nat.le_of_ble_eq_true rfl) rfl h ?_
  intro p e R s m args below meth c C
  unfold cf_X10_add
  refine K_aload_n C 0 rfl rfl dX10_add_0 ?_
  refine K_getI C kin_X10 rfl (Nat.le_of_ble_eq_true rfl) (shC_280 G ad) 2 (by decide) rfl wf_X10_19 rfl dX10_add_1 ?_
  refine K_bipush C (v := 80) (by decide) dX10_add_4 ?_
  refine K_icmp_lt C (tgt := 11) (by decide) dX10_add_6 ?_ ?_
  · refine K_aload_n C 0 rfl rfl dX10_add_11 ?_
    refine K_getR C kin_X10 rfl (Nat.le_of_ble_eq_true rfl) (shC_280 G ad) 0 (by decide) (b := 281) rfl wf_X10_9 rfl dX10_add_12 ?_
    refine K_aload_n C 0 rfl rfl dX10_add_15 ?_
    refine K_getI C kin_X10 rfl (Nat.le_of_ble_eq_true rfl) (shC_280 G ad) 2 (by decide) rfl wf_X10_19 rfl dX10_add_16 ?_
    refine K_iload_n C 1 rfl rfl dX10_add_19 ?_
    refine K_cast C (Nat.le_of_ble_eq_true rfl) (shC_281 G ad) dX10_add_20 (fun g1 => ?_)
    refine K_aload_n C 0 rfl rfl dX10_add_21 ?_
    refine K_dup C rfl dX10_add_22 ?_
    refine K_getI C kin_X10 rfl (Nat.le_of_ble_eq_true rfl) (shC_280 G ad) 2 (by decide) rfl wf_X10_19 rfl dX10_add_23 ?_
    refine K_iconst C (v := 1) (by decide) dX10_add_26 ?_
    refine K_iadd C dX10_add_27 ?_
    refine K_putI C kin_X10 rfl (Nat.le_of_ble_eq_true rfl) (shC_280 G ad) 2 (by decide) rfl wf_X10_19 rfl tyX10 tyX10_ok nmX10 (by decide) (ty := .int) (by decide +kernel) rfl rfl dX10_add_28 (fun g2 => ?_)
    refine K_iconst C (v := 1) (by decide) dX10_add_31 ?_
    exact K_ret C rfl (by decide) dX10_add_32
  · refine K_iconst C (v := 0) (by decide) dX10_add_9 ?_
    exact K_ret C rfl (by decide) dX10_add_10
def cf_X10_clear (f : kMem) : Option (Int32 × kMem) := kmem (kup f 280 2 0) (fun g1 => some (0, g1))
set_option maxRecDepth 100000 in
set_option maxHeartbeats 4000000 in
theorem km_X10_clear (l : Launch) (G : kG) (ad : Nat → Nat) (f : kMem) (r : Int32) (fo : kMem) (h : cf_X10_clear f = some (r, fo)) : kMet l (wC G ad) yX10_clear cX10_clear 1 none 0 [.ref (kad (wC G ad) 280)] f r fo := by
  refine kMet_of (own := RX10) (lv := [(0, .ref (kad (wC G ad) 280))]) (by decide) rfl (Nat.le_of_ble_eq_true rfl) rfl h ?_
  intro p e R s m args below meth c C
  unfold cf_X10_clear
  refine K_aload_n C 0 rfl rfl dX10_clear_0 ?_
  refine K_iconst C (v := 0) (by decide) dX10_clear_1 ?_
  refine K_putI C kin_X10 rfl (Nat.le_of_ble_eq_true rfl) (shC_280 G ad) 2 (by decide) rfl wf_X10_19 rfl tyX10 tyX10_ok nmX10 (by decide) (ty := .int) (by decide +kernel) rfl rfl dX10_clear_2 (fun g1 => ?_)
  exact K_vret C rfl dX10_clear_5
def cf_J6_bitCount_0f7a4 (f : kMem) (x0 : Int32) : Option (Int32 × kMem) := klet (x0 - ((Int32.toUInt32 x0 >>> (Int32.toUInt32 1 &&& Int32.toUInt32 31)).toInt32 &&& 1431655765)) (fun x0_1 => klet ((x0_1 &&& 858993459) + ((Int32.toUInt32 x0_1 >>> (Int32.toUInt32 2 &&& Int32.toUInt32 31)).toInt32 &&& 858993459)) (fun x0_2 => klet ((x0_2 + (Int32.toUInt32 x0_2 >>> (Int32.toUInt32 4 &&& Int32.toUInt32 31)).toInt32) &&& 252645135) (fun x0_3 => klet (x0_3 + (Int32.toUInt32 x0_3 >>> (Int32.toUInt32 8 &&& Int32.toUInt32 31)).toInt32) (fun x0_4 => klet (x0_4 + (Int32.toUInt32 x0_4 >>> (Int32.toUInt32 16 &&& Int32.toUInt32 31)).toInt32) (fun x0_5 => some ((x0_5 &&& 63), f))))))
set_option maxRecDepth 100000 in
set_option maxHeartbeats 4000000 in
theorem km_J6_bitCount_0f7a4 (l : Launch) (w : KW) (f : kMem) (x0 : Int32) (r : Int32) (fo : kMem) (h : cf_J6_bitCount_0f7a4 f x0 = some (r, fo)) : kMet l w yJ6_bitCount_0f7a4 cJ6_bitCount_0f7a4 1 (some .int) 0 [.int x0] f r fo := by
  refine kMet_of (own := RJ6) (lv := [(0, .int x0)]) (by decide) rfl (Nat.le_of_ble_eq_true rfl) rfl h ?_
  intro p e R s m args below meth c C
  unfold cf_J6_bitCount_0f7a4
  refine K_iload_n C 0 rfl rfl dJ6_bitCount_0f7a4_0 ?_
  refine K_iload_n C 0 rfl rfl dJ6_bitCount_0f7a4_1 ?_
  refine K_iconst C (v := 1) (by decide) dJ6_bitCount_0f7a4_2 ?_
  refine K_iushr C dJ6_bitCount_0f7a4_3 ?_
  refine K_ldc_w C (v := 1431655765) wc_J6_265 dJ6_bitCount_0f7a4_4 ?_
  refine K_iand C dJ6_bitCount_0f7a4_7 ?_
  refine K_isub C dJ6_bitCount_0f7a4_8 ?_
  refine K_let rfl (fun x0_1 => ?_)
  refine K_istore_n C (lv1 := [(0, .int x0_1)]) rfl (by decide) rfl dJ6_bitCount_0f7a4_9 ?_
  refine K_iload_n C 0 rfl rfl dJ6_bitCount_0f7a4_10 ?_
  refine K_ldc_w C (v := 858993459) wc_J6_266 dJ6_bitCount_0f7a4_11 ?_
  refine K_iand C dJ6_bitCount_0f7a4_14 ?_
  refine K_iload_n C 0 rfl rfl dJ6_bitCount_0f7a4_15 ?_
  refine K_iconst C (v := 2) (by decide) dJ6_bitCount_0f7a4_16 ?_
  refine K_iushr C dJ6_bitCount_0f7a4_17 ?_
  refine K_ldc_w C (v := 858993459) wc_J6_266 dJ6_bitCount_0f7a4_18 ?_
  refine K_iand C dJ6_bitCount_0f7a4_21 ?_
  refine K_iadd C dJ6_bitCount_0f7a4_22 ?_
  refine K_let rfl (fun x0_2 => ?_)
  refine K_istore_n C (lv1 := [(0, .int x0_2)]) rfl (by decide) rfl dJ6_bitCount_0f7a4_23 ?_
  refine K_iload_n C 0 rfl rfl dJ6_bitCount_0f7a4_24 ?_
  refine K_iload_n C 0 rfl rfl dJ6_bitCount_0f7a4_25 ?_
  refine K_iconst C (v := 4) (by decide) dJ6_bitCount_0f7a4_26 ?_
  refine K_iushr C dJ6_bitCount_0f7a4_27 ?_
  refine K_iadd C dJ6_bitCount_0f7a4_28 ?_
  refine K_ldc_w C (v := 252645135) wc_J6_267 dJ6_bitCount_0f7a4_29 ?_
  refine K_iand C dJ6_bitCount_0f7a4_32 ?_
  refine K_let rfl (fun x0_3 => ?_)
  refine K_istore_n C (lv1 := [(0, .int x0_3)]) rfl (by decide) rfl dJ6_bitCount_0f7a4_33 ?_
  refine K_iload_n C 0 rfl rfl dJ6_bitCount_0f7a4_34 ?_
  refine K_iload_n C 0 rfl rfl dJ6_bitCount_0f7a4_35 ?_
  refine K_bipush C (v := 8) (by decide) dJ6_bitCount_0f7a4_36 ?_
  refine K_iushr C dJ6_bitCount_0f7a4_38 ?_
  refine K_iadd C dJ6_bitCount_0f7a4_39 ?_
  refine K_let rfl (fun x0_4 => ?_)
  refine K_istore_n C (lv1 := [(0, .int x0_4)]) rfl (by decide) rfl dJ6_bitCount_0f7a4_40 ?_
  refine K_iload_n C 0 rfl rfl dJ6_bitCount_0f7a4_41 ?_
  refine K_iload_n C 0 rfl rfl dJ6_bitCount_0f7a4_42 ?_
  refine K_bipush C (v := 16) (by decide) dJ6_bitCount_0f7a4_43 ?_
  refine K_iushr C dJ6_bitCount_0f7a4_45 ?_
  refine K_iadd C dJ6_bitCount_0f7a4_46 ?_
  refine K_let rfl (fun x0_5 => ?_)
  refine K_istore_n C (lv1 := [(0, .int x0_5)]) rfl (by decide) rfl dJ6_bitCount_0f7a4_47 ?_
  refine K_iload_n C 0 rfl rfl dJ6_bitCount_0f7a4_48 ?_
  refine K_bipush C (v := 63) (by decide) dJ6_bitCount_0f7a4_49 ?_
  refine K_iand C dJ6_bitCount_0f7a4_51 ?_
  exact K_ret C rfl rfl dJ6_bitCount_0f7a4_52
