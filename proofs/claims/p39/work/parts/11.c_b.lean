def cf_X0_isColour (f : kMem) (x1 : Int32) : Option (Int32 × kMem) := kbind (cf_X11_isWithin f x1 0 ((f 1 0) - 1)) (fun r1 g2 => kchk (kbool r1) (some (r1, g2)))
set_option maxRecDepth 100000 in
set_option maxHeartbeats 4000000 in
theorem km_X0_isColour (l : Launch) (G : kG) (ad : Nat → Nat) (f : kMem) (x1 : Int32) (r : Int32) (fo : kMem) (h : cf_X0_isColour f x1 = some (r, fo)) : kMet l (wC G ad) yX0_isColour cX0_isColour 2 (some .boolean) 1 [.ref (kad (wC G ad) 1), .int x1] f r fo := by
  refine kMet_of (own := RX0) (lv := [(0, .ref (kad (wC G ad) 1)), (1, .int x1)]) (by decide) rfl (Nat.le_of_ble_eq_true rfl) rfl h ?_
  intro p e R s m args below meth c C
  unfold cf_X0_isColour
  refine K_iload_n C 1 rfl rfl dX0_isColour_0 ?_
  refine K_iconst C (v := 0) (by decide) dX0_isColour_1 ?_
  refine K_aload_n C 0 rfl rfl dX0_isColour_2 ?_
  refine K_getI C kin_X0 rfl (Nat.le_of_ble_eq_true rfl) (shC_1 G ad) 0 (by decide) rfl wf_X0_30 rfl dX0_isColour_3 ?_
  refine K_iconst C (v := 1) (by decide) dX0_isColour_6 ?_
  refine K_isub C dX0_isColour_7 ?_
  refine K_callSNi C (As := [.int x1, .int 0, .int ((f 1 0) - 1)]) (rest := []) hy_X11_isWithin (by decide +kernel) (by decide) ⟨Nat.le_refl _, Nat.le_refl _⟩ (fun rr ff hh => km_X11_isWithin l G ad f x1 0 ((f 1 0) - 1) rr ff hh) rfl rfl (Nat.le_of_ble_eq_true rfl) rfl dX0_isColour_8 (fun r1 g2 => ?_)
  exact K_bret C rfl dX0_isColour_11
def cf_X0_isPart (f : kMem) (x1 : Int32) : Option (Int32 × kMem) := kbind (cf_X11_isWithin f x1 0 ((f 1 1) - 1)) (fun r1 g2 => kchk (kbool r1) (some (r1, g2)))
set_option maxRecDepth 100000 in
set_option maxHeartbeats 4000000 in
theorem km_X0_isPart (l : Launch) (G : kG) (ad : Nat → Nat) (f : kMem) (x1 : Int32) (r : Int32) (fo : kMem) (h : cf_X0_isPart f x1 = some (r, fo)) : kMet l (wC G ad) yX0_isPart cX0_isPart 2 (some .boolean) 1 [.ref (kad (wC G ad) 1), .int x1] f r fo := by
  refine kMet_of (own := RX0) (lv := [(0, .ref (kad (wC G ad) 1)), (1, .int x1)]) (by decide) rfl (Nat.le_of_ble_eq_true rfl) rfl h ?_
  intro p e R s m args below meth c C
  unfold cf_X0_isPart
  refine K_iload_n C 1 rfl rfl dX0_isPart_0 ?_
  refine K_iconst C (v := 0) (by decide) dX0_isPart_1 ?_
  refine K_aload_n C 0 rfl rfl dX0_isPart_2 ?_
  refine K_getI C kin_X0 rfl (Nat.le_of_ble_eq_true rfl) (shC_1 G ad) 1 (by decide) rfl wf_X0_34 rfl dX0_isPart_3 ?_
  refine K_iconst C (v := 1) (by decide) dX0_isPart_6 ?_
  refine K_isub C dX0_isPart_7 ?_
  refine K_callSNi C (As := [.int x1, .int 0, .int ((f 1 1) - 1)]) (rest := []) hy_X11_isWithin (by decide +kernel) (by decide) ⟨Nat.le_refl _, Nat.le_refl _⟩ (fun rr ff hh => km_X11_isWithin l G ad f x1 0 ((f 1 1) - 1) rr ff hh) rfl rfl (Nat.le_of_ble_eq_true rfl) rfl dX0_isPart_8 (fun r1 g2 => ?_)
  exact K_bret C rfl dX0_isPart_11
def cf_X0_isFamily (f : kMem) (x1 : Int32) : Option (Int32 × kMem) := kbind (cf_X11_isWithin f x1 0 ((f 1 2) - 1)) (fun r1 g2 => kchk (kbool r1) (some (r1, g2)))
set_option maxRecDepth 100000 in
set_option maxHeartbeats 4000000 in
theorem km_X0_isFamily (l : Launch) (G : kG) (ad : Nat → Nat) (f : kMem) (x1 : Int32) (r : Int32) (fo : kMem) (h : cf_X0_isFamily f x1 = some (r, fo)) : kMet l (wC G ad) yX0_isFamily cX0_isFamily 2 (some .boolean) 1 [.ref (kad (wC G ad) 1), .int x1] f r fo := by
  refine kMet_of (own := RX0) (lv := [(0, .ref (kad (wC G ad) 1)), (1, .int x1)]) (by decide) rfl (Nat.le_of_ble_eq_true rfl) rfl h ?_
  intro p e R s m args below meth c C
  unfold cf_X0_isFamily
  refine K_iload_n C 1 rfl rfl dX0_isFamily_0 ?_
  refine K_iconst C (v := 0) (by decide) dX0_isFamily_1 ?_
  refine K_aload_n C 0 rfl rfl dX0_isFamily_2 ?_
  refine K_getI C kin_X0 rfl (Nat.le_of_ble_eq_true rfl) (shC_1 G ad) 2 (by decide) rfl wf_X0_37 rfl dX0_isFamily_3 ?_
  refine K_iconst C (v := 1) (by decide) dX0_isFamily_6 ?_
  refine K_isub C dX0_isFamily_7 ?_
  refine K_callSNi C (As := [.int x1, .int 0, .int ((f 1 2) - 1)]) (rest := []) hy_X11_isWithin (by decide +kernel) (by decide) ⟨Nat.le_refl _, Nat.le_refl _⟩ (fun rr ff hh => km_X11_isWithin l G ad f x1 0 ((f 1 2) - 1) rr ff hh) rfl rfl (Nat.le_of_ble_eq_true rfl) rfl dX0_isFamily_8 (fun r1 g2 => ?_)
  exact K_bret C rfl dX0_isFamily_11
def cf_X0_addColour (f : kMem) (x1 : Int32) : Option (Int32 × kMem) := kbind (cf_X11_isWithin f x1 0 9) (fun r1 g2 => keq r1 0 (kbind (cf_X8_refuse g2 2 0) (fun r7 g8 => some (r7, g8))) (klt (g2 1 0) 6 (kchk (kin (g2 1 0) 6) (kmem (kup g2 2 (Int32.toNatClampNeg (g2 1 0)) x1) (fun g3 => kmem (kup g3 1 0 ((g3 1 0) + 1)) (fun g4 => some (((g4 1 0) - 1), g4))))) (kbind (cf_X8_refuse g2 3 0) (fun r5 g6 => some (r5, g6)))))
set_option maxRecDepth 100000 in
set_option maxHeartbeats 4000000 in
theorem km_X0_addColour (l : Launch) (G : kG) (ad : Nat → Nat) (f : kMem) (x1 : Int32) (r : Int32) (fo : kMem) (h : cf_X0_addColour f x1 = some (r, fo)) : kMet l (wC G ad) yX0_addColour cX0_addColour 3 (some .int) 2 [.ref (kad (wC G ad) 1), .int x1, .ref (kad (wC G ad) 277)] f r fo := by
  refine kMet_of (own := RX0) (lv := [(0, .ref (kad (wC G ad) 1)), (1, .int x1), (2, .ref (kad (wC G ad) 277))]) (by decide) rfl (Nat.le_of_ble_eq_true rfl) rfl h ?_
  intro p e R s m args below meth c C
  unfold cf_X0_addColour
  refine K_iload_n C 1 rfl rfl dX0_addColour_0 ?_
  refine K_iconst C (v := 0) (by decide) dX0_addColour_1 ?_
  refine K_bipush C (v := 9) (by decide) dX0_addColour_2 ?_
  refine K_callSNi C (As := [.int x1, .int 0, .int 9]) (rest := []) hy_X11_isWithin (by decide +kernel) (by decide) ⟨Nat.le_refl _, Nat.le_refl _⟩ (fun rr ff hh => km_X11_isWithin l G ad f x1 0 9 rr ff hh) rfl rfl (Nat.le_of_ble_eq_true rfl) rfl dX0_addColour_4 (fun r1 g2 => ?_)
  refine K_if_ne C (tgt := 17) (by decide) dX0_addColour_7 ?_ ?_
  · refine K_aload_n C 0 rfl rfl dX0_addColour_17 ?_
    refine K_getI C kin_X0 rfl (Nat.le_of_ble_eq_true rfl) (shC_1 G ad) 0 (by decide) rfl wf_X0_30 rfl dX0_addColour_18 ?_
    refine K_bipush C (v := 6) (by decide) dX0_addColour_21 ?_
    refine K_icmp_lt C (tgt := 33) (by decide) dX0_addColour_23 ?_ ?_
    · refine K_aload_n C 0 rfl rfl dX0_addColour_33 ?_
      refine K_getR C kin_X0 rfl (Nat.le_of_ble_eq_true rfl) (shC_1 G ad) 3 (by decide) (b := 2) rfl wf_X0_9 rfl dX0_addColour_34 ?_
      refine K_aload_n C 0 rfl rfl dX0_addColour_37 ?_
      refine K_getI C kin_X0 rfl (Nat.le_of_ble_eq_true rfl) (shC_1 G ad) 0 (by decide) rfl wf_X0_30 rfl dX0_addColour_38 ?_
      refine K_iload_n C 1 rfl rfl dX0_addColour_41 ?_
      refine K_iast C (Nat.le_of_ble_eq_true rfl) (shC_2 G ad) dX0_addColour_42 (fun g3 => ?_)
      refine K_aload_n C 0 rfl rfl dX0_addColour_43 ?_
      refine K_dup C rfl dX0_addColour_44 ?_
      refine K_getI C kin_X0 rfl (Nat.le_of_ble_eq_true rfl) (shC_1 G ad) 0 (by decide) rfl wf_X0_30 rfl dX0_addColour_45 ?_
      refine K_iconst C (v := 1) (by decide) dX0_addColour_48 ?_
      refine K_iadd C dX0_addColour_49 ?_
      refine K_putI C kin_X0 rfl (Nat.le_of_ble_eq_true rfl) (shC_1 G ad) 0 (by decide) rfl wf_X0_30 rfl tyX0 tyX0_ok nmX0 (by decide) (ty := .int) (by decide +kernel) rfl rfl dX0_addColour_50 (fun g4 => ?_)
      refine K_aload_n C 0 rfl rfl dX0_addColour_53 ?_
      refine K_getI C kin_X0 rfl (Nat.le_of_ble_eq_true rfl) (shC_1 G ad) 0 (by decide) rfl wf_X0_30 rfl dX0_addColour_54 ?_
      refine K_iconst C (v := 1) (by decide) dX0_addColour_57 ?_
      refine K_isub C dX0_addColour_58 ?_
      exact K_ret C rfl rfl dX0_addColour_59
    · refine K_aload_n C 2 rfl rfl dX0_addColour_26 ?_
      refine K_iconst C (v := 3) (by decide) dX0_addColour_27 ?_
      refine K_iconst C (v := 0) (by decide) dX0_addColour_28 ?_
      refine K_callVi C (As := [.int 3, .int 0]) (rest := []) (Nat.le_of_ble_eq_true rfl) (shC_277 G ad) rfl hy_X8_refuse wm_X0_48 (by decide) ⟨Nat.le_refl _, Nat.le_refl _⟩ (fun rr ff hh => km_X8_refuse l G ad g2 3 0 rr ff hh) rfl rfl (Nat.le_of_ble_eq_true rfl) rfl dX0_addColour_29 (fun r5 g6 => ?_)
      exact K_ret C rfl rfl dX0_addColour_32
  · refine K_aload_n C 2 rfl rfl dX0_addColour_10 ?_
    refine K_iconst C (v := 2) (by decide) dX0_addColour_11 ?_
    refine K_iconst C (v := 0) (by decide) dX0_addColour_12 ?_
    refine K_callVi C (As := [.int 2, .int 0]) (rest := []) (Nat.le_of_ble_eq_true rfl) (shC_277 G ad) rfl hy_X8_refuse wm_X0_48 (by decide) ⟨Nat.le_refl _, Nat.le_refl _⟩ (fun rr ff hh => km_X8_refuse l G ad g2 2 0 rr ff hh) rfl rfl (Nat.le_of_ble_eq_true rfl) rfl dX0_addColour_13 (fun r7 g8 => ?_)
    exact K_ret C rfl rfl dX0_addColour_16
def cf_X0_addPart (f : kMem) (x1 : Int32) : Option (Int32 × kMem) := kbind (cf_X11_isWithin f x1 1 50) (fun r1 g2 => keq r1 0 (kbind (cf_X8_refuse g2 2 0) (fun r7 g8 => some (r7, g8))) (klt (g2 1 1) 8 (kchk (kin (g2 1 1) 8) (kmem (kup g2 3 (Int32.toNatClampNeg (g2 1 1)) x1) (fun g3 => kmem (kup g3 1 1 ((g3 1 1) + 1)) (fun g4 => some (((g4 1 1) - 1), g4))))) (kbind (cf_X8_refuse g2 3 0) (fun r5 g6 => some (r5, g6)))))
set_option maxRecDepth 100000 in
set_option maxHeartbeats 4000000 in
theorem km_X0_addPart (l : Launch) (G : kG) (ad : Nat → Nat) (f : kMem) (x1 : Int32) (r : Int32) (fo : kMem) (h : cf_X0_addPart f x1 = some (r, fo)) : kMet l (wC G ad) yX0_addPart cX0_addPart 3 (some .int) 2 [.ref (kad (wC G ad) 1), .int x1, .ref (kad (wC G ad) 277)] f r fo := by
  refine kMet_of (own := RX0) (lv := [(0, .ref (kad (wC G ad) 1)), (1, .int x1), (2, .ref (kad (wC G ad) 277))]) (by decide) rfl (Nat.le_of_ble_eq_true rfl) rfl h ?_
  intro p e R s m args below meth c C
  unfold cf_X0_addPart
  refine K_iload_n C 1 rfl rfl dX0_addPart_0 ?_
  refine K_iconst C (v := 1) (by decide) dX0_addPart_1 ?_
  refine K_bipush C (v := 50) (by decide) dX0_addPart_2 ?_
  refine K_callSNi C (As := [.int x1, .int 1, .int 50]) (rest := []) hy_X11_isWithin (by decide +kernel) (by decide) ⟨Nat.le_refl _, Nat.le_refl _⟩ (fun rr ff hh => km_X11_isWithin l G ad f x1 1 50 rr ff hh) rfl rfl (Nat.le_of_ble_eq_true rfl) rfl dX0_addPart_4 (fun r1 g2 => ?_)
  refine K_if_ne C (tgt := 17) (by decide) dX0_addPart_7 ?_ ?_
  · refine K_aload_n C 0 rfl rfl dX0_addPart_17 ?_
    refine K_getI C kin_X0 rfl (Nat.le_of_ble_eq_true rfl) (shC_1 G ad) 1 (by decide) rfl wf_X0_34 rfl dX0_addPart_18 ?_
    refine K_bipush C (v := 8) (by decide) dX0_addPart_21 ?_
    refine K_icmp_lt C (tgt := 33) (by decide) dX0_addPart_23 ?_ ?_
    · refine K_aload_n C 0 rfl rfl dX0_addPart_33 ?_
      refine K_getR C kin_X0 rfl (Nat.le_of_ble_eq_true rfl) (shC_1 G ad) 4 (by decide) (b := 3) rfl wf_X0_15 rfl dX0_addPart_34 ?_
      refine K_aload_n C 0 rfl rfl dX0_addPart_37 ?_
      refine K_getI C kin_X0 rfl (Nat.le_of_ble_eq_true rfl) (shC_1 G ad) 1 (by decide) rfl wf_X0_34 rfl dX0_addPart_38 ?_
      refine K_iload_n C 1 rfl rfl dX0_addPart_41 ?_
      refine K_iast C (Nat.le_of_ble_eq_true rfl) (shC_3 G ad) dX0_addPart_42 (fun g3 => ?_)
      refine K_aload_n C 0 rfl rfl dX0_addPart_43 ?_
      refine K_dup C rfl dX0_addPart_44 ?_
      refine K_getI C kin_X0 rfl (Nat.le_of_ble_eq_true rfl) (shC_1 G ad) 1 (by decide) rfl wf_X0_34 rfl dX0_addPart_45 ?_
      refine K_iconst C (v := 1) (by decide) dX0_addPart_48 ?_
      refine K_iadd C dX0_addPart_49 ?_
      refine K_putI C kin_X0 rfl (Nat.le_of_ble_eq_true rfl) (shC_1 G ad) 1 (by decide) rfl wf_X0_34 rfl tyX0 tyX0_ok nmX0 (by decide) (ty := .int) (by decide +kernel) rfl rfl dX0_addPart_50 (fun g4 => ?_)
      refine K_aload_n C 0 rfl rfl dX0_addPart_53 ?_
      refine K_getI C kin_X0 rfl (Nat.le_of_ble_eq_true rfl) (shC_1 G ad) 1 (by decide) rfl wf_X0_34 rfl dX0_addPart_54 ?_
      refine K_iconst C (v := 1) (by decide) dX0_addPart_57 ?_
      refine K_isub C dX0_addPart_58 ?_
      exact K_ret C rfl rfl dX0_addPart_59
    · refine K_aload_n C 2 rfl rfl dX0_addPart_26 ?_
      refine K_iconst C (v := 3) (by decide) dX0_addPart_27 ?_
      refine K_iconst C (v := 0) (by decide) dX0_addPart_28 ?_
      refine K_callVi C (As := [.int 3, .int 0]) (rest := []) (Nat.le_of_ble_eq_true rfl) (shC_277 G ad) rfl hy_X8_refuse wm_X0_48 (by decide) ⟨Nat.le_refl _, Nat.le_refl _⟩ (fun rr ff hh => km_X8_refuse l G ad g2 3 0 rr ff hh) rfl rfl (Nat.le_of_ble_eq_true rfl) rfl dX0_addPart_29 (fun r5 g6 => ?_)
      exact K_ret C rfl rfl dX0_addPart_32
  · refine K_aload_n C 2 rfl rfl dX0_addPart_10 ?_
    refine K_iconst C (v := 2) (by decide) dX0_addPart_11 ?_
    refine K_iconst C (v := 0) (by decide) dX0_addPart_12 ?_
    refine K_callVi C (As := [.int 2, .int 0]) (rest := []) (Nat.le_of_ble_eq_true rfl) (shC_277 G ad) rfl hy_X8_refuse wm_X0_48 (by decide) ⟨Nat.le_refl _, Nat.le_refl _⟩ (fun rr ff hh => km_X8_refuse l G ad g2 2 0 rr ff hh) rfl rfl (Nat.le_of_ble_eq_true rfl) rfl dX0_addPart_13 (fun r7 g8 => ?_)
    exact K_ret C rfl rfl dX0_addPart_16
def cl_X3_hasZero_2 (Y27 : kMem → Option (Int32 × kMem)) : Nat → kMem → Int32 → Option (Int32 × kMem)
  | 0, _, _ => none
  | n + 1, f, x1 => kle (f 282 2) x1 ((Y27 f)) (kchk (kin x1 3) (keq (f 284 (Int32.toNatClampNeg x1)) 0 (some (1, f)) (klet (x1 + Int32.ofInt 1) (fun x1_1 => ((cl_X3_hasZero_2 Y27 n) f x1_1)))))
def cf_X3_hasZero (f : kMem) : Option (Int32 × kMem) := (cl_X3_hasZero_2 (fun g2 => keq (g2 282 3) 0 (some (1, g2)) (keq (g2 282 4) 0 (some (1, g2)) (some (0, g2)))) 100 f 0)
set_option maxRecDepth 100000 in
set_option maxHeartbeats 4000000 in
theorem kcl_X3_hasZero_2 {p : Program} {l : Launch} {e : Env} {R : Room} {s : State} {m : MethodId} {args : Array Value} {below : List Frame} {meth : Method} {c : Code} {G : kG} {ad : Nat → Nat} {z : Int32 × kMem} (C : KC p l e R s m args below meth c (wC G ad) RX3 cX3_hasZero 2 (some .boolean) 0 0 0) (Y27 : kMem → Option (Int32 × kMem)) (hY27 : ∀ (f : kMem), K p l e R s m args below meth c (wC G ad) 2 (kQF below (wC G ad) (some .boolean) args s z) z 0 0 f 27 [(0, .ref (kad (wC G ad) 282))] [] (Y27 f)) : ∀ (n : Nat) (f : kMem) (x1 : Int32), K p l e R s m args below meth c (wC G ad) 2 (kQF below (wC G ad) (some .boolean) args s z) z 0 0 f 2 [(0, .ref (kad (wC G ad) 282)), (1, .int x1)] [] (cl_X3_hasZero_2 Y27 n f x1) := by
  intro n
  induction n with
  | zero => intro f x1; exact K_none
  | succ n ih =>
    intro f x1
    unfold cl_X3_hasZero_2
    refine K_iload_n C 1 rfl rfl dX3_hasZero_2 ?_
    refine K_aload_n C 0 rfl rfl dX3_hasZero_3 ?_
    refine K_getI C kin_X3 rfl (Nat.le_of_ble_eq_true rfl) (shC_282 G ad) 2 (by decide) rfl wf_X3_37 rfl dX3_hasZero_4 ?_
    refine K_icmp_ge C (tgt := 27) (by decide) dX3_hasZero_7 ?_ ?_
    · refine K_sub [0] rfl ?_
      exact hY27 f
    · refine K_aload_n C 0 rfl rfl dX3_hasZero_10 ?_
      refine K_getR C kin_X3 rfl (Nat.le_of_ble_eq_true rfl) (shC_282 G ad) 1 (by decide) (b := 284) rfl wf_X3_15 rfl dX3_hasZero_11 ?_
      refine K_iload_n C 1 rfl rfl dX3_hasZero_14 ?_
      refine K_iald C (Nat.le_of_ble_eq_true rfl) (shC_284 G ad) dX3_hasZero_15 ?_
      refine K_if_ne C (tgt := 21) (by decide) dX3_hasZero_16 ?_ ?_
      · refine K_iinc C (k := 1) (lv1 := fun x1_1 => [(1, .int x1_1), (0, .ref (kad (wC G ad) 282))]) rfl (by decide) (fun _ => rfl) dX3_hasZero_21 (fun x1_1 => ?_)
        refine K_goto C (tgt := 2) (by decide) dX3_hasZero_24 ?_
        refine K_sub [1, 0] rfl ?_
        exact ih f x1_1
      · refine K_iconst C (v := 1) (by decide) dX3_hasZero_19 ?_
        exact K_ret C rfl (by decide) dX3_hasZero_20
set_option maxRecDepth 100000 in
set_option maxHeartbeats 4000000 in
theorem km_X3_hasZero (l : Launch) (G : kG) (ad : Nat → Nat) (f : kMem) (r : Int32) (fo : kMem) (h : cf_X3_hasZero f = some (r, fo)) : kMet l (wC G ad) yX3_hasZero cX3_hasZero 2 (some .boolean) 0 [.ref (kad (wC G ad) 282)] f r fo := by
  refine kMet_of (own := RX3) (lv := [(0, .ref (kad (wC G ad) 282))]) (by decide) rfl (Nat.le_of_ble_eq_true rfl) rfl h ?_
  intro p e R s m args below meth c C
  unfold cf_X3_hasZero
  refine K_iconst C (v := 0) (by decide) dX3_hasZero_0 ?_
  refine K_istore_n C (lv1 := [(1, .int 0), (0, .ref (kad (wC G ad) 282))]) rfl (by decide) rfl dX3_hasZero_1 ?_
  refine K_sub [1, 0] rfl ?_
  refine kcl_X3_hasZero_2 C _ (fun g2 => ?_) 100 f 0
  refine K_aload_n C 0 rfl rfl dX3_hasZero_27 ?_
  refine K_getI C kin_X3 rfl (Nat.le_of_ble_eq_true rfl) (shC_282 G ad) 3 (by decide) rfl wf_X3_45 rfl dX3_hasZero_28 ?_
  refine K_if_eq C (tgt := 41) (by decide) dX3_hasZero_31 ?_ ?_
  · refine K_iconst C (v := 1) (by decide) dX3_hasZero_41 ?_
    refine K_goto C (tgt := 46) (by decide) dX3_hasZero_42 ?_
    exact K_ret C rfl (by decide) dX3_hasZero_46
  · refine K_aload_n C 0 rfl rfl dX3_hasZero_34 ?_
    refine K_getI C kin_X3 rfl (Nat.le_of_ble_eq_true rfl) (shC_282 G ad) 4 (by decide) rfl wf_X3_52 rfl dX3_hasZero_35 ?_
    refine K_if_ne C (tgt := 45) (by decide) dX3_hasZero_38 ?_ ?_
    · refine K_iconst C (v := 0) (by decide) dX3_hasZero_45 ?_
      exact K_ret C rfl (by decide) dX3_hasZero_46
    · refine K_iconst C (v := 1) (by decide) dX3_hasZero_41 ?_
      refine K_goto C (tgt := 46) (by decide) dX3_hasZero_42 ?_
      exact K_ret C rfl (by decide) dX3_hasZero_46
def cl_X3_highestPart_4 : Nat → kMem → Int32 → Int32 → Option (Int32 × kMem)
  | 0, _, _, _ => none
  | n + 1, f, x1, x2 => kle (f 282 2) x2 (some (x1, f)) (kchk (kin x2 3) (klet (kmax x1 (f 283 (Int32.toNatClampNeg x2))) (fun x1_1 => klet (x2 + Int32.ofInt 1) (fun x2_2 => ((cl_X3_highestPart_4 n) f x1_1 x2_2)))))
def cf_X3_highestPart (f : kMem) : Option (Int32 × kMem) := (cl_X3_highestPart_4 100 f 0 0)
set_option maxRecDepth 100000 in
set_option maxHeartbeats 4000000 in
theorem kcl_X3_highestPart_4 {p : Program} {l : Launch} {e : Env} {R : Room} {s : State} {m : MethodId} {args : Array Value} {below : List Frame} {meth : Method} {c : Code} {G : kG} {ad : Nat → Nat} {z : Int32 × kMem} (C : KC p l e R s m args below meth c (wC G ad) RX3 cX3_highestPart 3 (some .int) 1 0 0)  : ∀ (n : Nat) (f : kMem) (x1 x2 : Int32), K p l e R s m args below meth c (wC G ad) 3 (kQF below (wC G ad) (some .int) args s z) z 0 0 f 4 [(0, .ref (kad (wC G ad) 282)), (1, .int x1), (2, .int x2)] [] (cl_X3_highestPart_4 n f x1 x2) := by
  intro n
  induction n with
  | zero => intro f x1 x2; exact K_none
  | succ n ih =>
    intro f x1 x2
    unfold cl_X3_highestPart_4
    refine K_iload_n C 2 rfl rfl dX3_highestPart_4 ?_
    refine K_aload_n C 0 rfl rfl dX3_highestPart_5 ?_
    refine K_getI C kin_X3 rfl (Nat.le_of_ble_eq_true rfl) (shC_282 G ad) 2 (by decide) rfl wf_X3_37 rfl dX3_highestPart_6 ?_
    refine K_icmp_ge C (tgt := 29) (by decide) dX3_highestPart_9 ?_ ?_
    · refine K_iload_n C 1 rfl rfl dX3_highestPart_29 ?_
      exact K_ret C rfl rfl dX3_highestPart_30
    · refine K_iload_n C 1 rfl rfl dX3_highestPart_12 ?_
      refine K_aload_n C 0 rfl rfl dX3_highestPart_13 ?_
      refine K_getR C kin_X3 rfl (Nat.le_of_ble_eq_true rfl) (shC_282 G ad) 0 (by decide) (b := 283) rfl wf_X3_9 rfl dX3_highestPart_14 ?_
      refine K_iload_n C 2 rfl rfl dX3_highestPart_17 ?_
      refine K_iald C (Nat.le_of_ble_eq_true rfl) (shC_283 G ad) dX3_highestPart_18 ?_
      refine K_mmax C wm_X3_59 (by decide) ⟨Nat.le_refl _, Nat.le_refl _⟩ (Nat.le_of_ble_eq_true rfl) dX3_highestPart_19 ?_
      refine K_let rfl (fun x1_1 => ?_)
      refine K_istore_n C (lv1 := [(1, .int x1_1), (0, .ref (kad (wC G ad) 282)), (2, .int x2)]) rfl (by decide) rfl dX3_highestPart_22 ?_
      refine K_iinc C (k := 2) (lv1 := fun x2_2 => [(2, .int x2_2), (1, .int x1_1), (0, .ref (kad (wC G ad) 282))]) rfl (by decide) (fun _ => rfl) dX3_highestPart_23 (fun x2_2 => ?_)
      refine K_goto C (tgt := 4) (by decide) dX3_highestPart_26 ?_
      refine K_sub [2, 1, 0] rfl ?_
      exact ih f x1_1 x2_2
set_option maxRecDepth 100000 in
set_option maxHeartbeats 4000000 in
theorem km_X3_highestPart (l : Launch) (G : kG) (ad : Nat → Nat) (f : kMem) (r : Int32) (fo : kMem) (h : cf_X3_highestPart f = some (r, fo)) : kMet l (wC G ad) yX3_highestPart cX3_highestPart 3 (some .int) 1 [.ref (kad (wC G ad) 282)] f r fo := by
  refine kMet_of (own := RX3) (lv := [(0, .ref (kad (wC G ad) 282))]) (by decide) rfl (Nat.le_of_ble_eq_true rfl) rfl h ?_
  intro p e R s m args below meth c C
  unfold cf_X3_highestPart
  refine K_iconst C (v := 0) (by decide) dX3_highestPart_0 ?_
  refine K_istore_n C (lv1 := [(1, .int 0), (0, .ref (kad (wC G ad) 282))]) rfl (by decide) rfl dX3_highestPart_1 ?_
  refine K_iconst C (v := 0) (by decide) dX3_highestPart_2 ?_
  refine K_istore_n C (lv1 := [(2, .int 0), (1, .int 0), (0, .ref (kad (wC G ad) 282))]) rfl (by decide) rfl dX3_highestPart_3 ?_
  refine K_sub [2, 1, 0] rfl ?_
  exact kcl_X3_highestPart_4 C 100 f 0 0
def cl_X3_partTwice_12 (Y45 : kMem → Int32 → Option (Int32 × kMem)) : Nat → kMem → Int32 → Int32 → Option (Int32 × kMem)
  | 0, _, _, _ => none
  | n + 1, f, x1, x2 => kle x1 x2 ((Y45 f x1)) (kchk (kin x2 3) (kchk (kin x1 3) (keq (f 283 (Int32.toNatClampNeg x2)) (f 283 (Int32.toNatClampNeg x1)) (kchk (kin x1 3) (some ((f 283 (Int32.toNatClampNeg x1)), f))) (klet (x2 + Int32.ofInt 1) (fun x2_1 => ((cl_X3_partTwice_12 Y45 n) f x1 x2_1))))))
def cl_X3_partTwice_2 : Nat → kMem → Int32 → Option (Int32 × kMem)
  | 0, _, _ => none
  | n + 1, f, x1 => kle (f 282 2) x1 (some ((-1), f)) ((cl_X3_partTwice_12 (fun g3 x1_2 => klet (x1_2 + Int32.ofInt 1) (fun x1_4 => ((cl_X3_partTwice_2 n) g3 x1_4))) 100 f x1 0))
def cf_X3_partTwice (f : kMem) : Option (Int32 × kMem) := (cl_X3_partTwice_2 100 f 0)
set_option maxRecDepth 100000 in
set_option maxHeartbeats 4000000 in
theorem kcl_X3_partTwice_12 {p : Program} {l : Launch} {e : Env} {R : Room} {s : State} {m : MethodId} {args : Array Value} {below : List Frame} {meth : Method} {c : Code} {G : kG} {ad : Nat → Nat} {z : Int32 × kMem} (C : KC p l e R s m args below meth c (wC G ad) RX3 cX3_partTwice 3 (some .int) 0 0 0) (Y45 : kMem → Int32 → Option (Int32 × kMem)) (hY45 : ∀ (f : kMem) (x1 : Int32), K p l e R s m args below meth c (wC G ad) 3 (kQF below (wC G ad) (some .int) args s z) z 0 0 f 45 [(0, .ref (kad (wC G ad) 282)), (1, .int x1)] [] (Y45 f x1)) : ∀ (n : Nat) (f : kMem) (x1 x2 : Int32), K p l e R s m args below meth c (wC G ad) 3 (kQF below (wC G ad) (some .int) args s z) z 0 0 f 12 [(0, .ref (kad (wC G ad) 282)), (1, .int x1), (2, .int x2)] [] (cl_X3_partTwice_12 Y45 n f x1 x2) := by
  intro n
  induction n with
  | zero => intro f x1 x2; exact K_none
  | succ n ih =>
    intro f x1 x2
    unfold cl_X3_partTwice_12
    refine K_iload_n C 2 rfl rfl dX3_partTwice_12 ?_
    refine K_iload_n C 1 rfl rfl dX3_partTwice_13 ?_
    refine K_icmp_ge C (tgt := 45) (by decide) dX3_partTwice_14 ?_ ?_
    · refine K_sub [0, 1] rfl ?_
      exact hY45 f x1
    · refine K_aload_n C 0 rfl rfl dX3_partTwice_17 ?_
      refine K_getR C kin_X3 rfl (Nat.le_of_ble_eq_true rfl) (shC_282 G ad) 0 (by decide) (b := 283) rfl wf_X3_9 rfl dX3_partTwice_18 ?_
      refine K_iload_n C 2 rfl rfl dX3_partTwice_21 ?_
      refine K_iald C (Nat.le_of_ble_eq_true rfl) (shC_283 G ad) dX3_partTwice_22 ?_
      refine K_aload_n C 0 rfl rfl dX3_partTwice_23 ?_
      refine K_getR C kin_X3 rfl (Nat.le_of_ble_eq_true rfl) (shC_282 G ad) 0 (by decide) (b := 283) rfl wf_X3_9 rfl dX3_partTwice_24 ?_
      refine K_iload_n C 1 rfl rfl dX3_partTwice_27 ?_
      refine K_iald C (Nat.le_of_ble_eq_true rfl) (shC_283 G ad) dX3_partTwice_28 ?_
      refine K_icmp_ne C (tgt := 39) (by decide) dX3_partTwice_29 ?_ ?_
      · refine K_iinc C (k := 2) (lv1 := fun x2_1 => [(2, .int x2_1), (0, .ref (kad (wC G ad) 282)), (1, .int x1)]) rfl (by decide) (fun _ => rfl) dX3_partTwice_39 (fun x2_1 => ?_)
        refine K_goto C (tgt := 12) (by decide) dX3_partTwice_42 ?_
        refine K_sub [1, 2, 0] rfl ?_
        exact ih f x1 x2_1
      · refine K_aload_n C 0 rfl rfl dX3_partTwice_32 ?_
        refine K_getR C kin_X3 rfl (Nat.le_of_ble_eq_true rfl) (shC_282 G ad) 0 (by decide) (b := 283) rfl wf_X3_9 rfl dX3_partTwice_33 ?_
        refine K_iload_n C 1 rfl rfl dX3_partTwice_36 ?_
        refine K_iald C (Nat.le_of_ble_eq_true rfl) (shC_283 G ad) dX3_partTwice_37 ?_
        exact K_ret C rfl rfl dX3_partTwice_38
set_option maxRecDepth 100000 in
set_option maxHeartbeats 4000000 in
theorem kcl_X3_partTwice_2 {p : Program} {l : Launch} {e : Env} {R : Room} {s : State} {m : MethodId} {args : Array Value} {below : List Frame} {meth : Method} {c : Code} {G : kG} {ad : Nat → Nat} {z : Int32 × kMem} (C : KC p l e R s m args below meth c (wC G ad) RX3 cX3_partTwice 3 (some .int) 0 0 0)  : ∀ (n : Nat) (f : kMem) (x1 : Int32), K p l e R s m args below meth c (wC G ad) 3 (kQF below (wC G ad) (some .int) args s z) z 0 0 f 2 [(0, .ref (kad (wC G ad) 282)), (1, .int x1)] [] (cl_X3_partTwice_2 n f x1) := by
  intro n
  induction n with
  | zero => intro f x1; exact K_none
  | succ n ih =>
    intro f x1
    unfold cl_X3_partTwice_2
    refine K_iload_n C 1 rfl rfl dX3_partTwice_2 ?_
    refine K_aload_n C 0 rfl rfl dX3_partTwice_3 ?_
    refine K_getI C kin_X3 rfl (Nat.le_of_ble_eq_true rfl) (shC_282 G ad) 2 (by decide) rfl wf_X3_37 rfl dX3_partTwice_4 ?_
    refine K_icmp_ge C (tgt := 51) (by decide) dX3_partTwice_7 ?_ ?_
    · refine K_iconst C (v := (-1)) (by decide) dX3_partTwice_51 ?_
      exact K_ret C rfl rfl dX3_partTwice_52
    · refine K_iconst C (v := 0) (by decide) dX3_partTwice_10 ?_
      refine K_istore_n C (lv1 := [(2, .int 0), (0, .ref (kad (wC G ad) 282)), (1, .int x1)]) rfl (by decide) rfl dX3_partTwice_11 ?_
      refine K_sub [1, 2, 0] rfl ?_
      refine kcl_X3_partTwice_12 C _ (fun g3 x1_2 => ?_) 100 f x1 0
      refine K_iinc C (k := 1) (lv1 := fun x1_4 => [(1, .int x1_4), (0, .ref (kad (wC G ad) 282))]) rfl (by decide) (fun _ => rfl) dX3_partTwice_45 (fun x1_4 => ?_)
      refine K_goto C (tgt := 2) (by decide) dX3_partTwice_48 ?_
      refine K_sub [1, 0] rfl ?_
      exact ih g3 x1_4
set_option maxRecDepth 100000 in
set_option maxHeartbeats 4000000 in
theorem km_X3_partTwice (l : Launch) (G : kG) (ad : Nat → Nat) (f : kMem) (r : Int32) (fo : kMem) (h : cf_X3_partTwice f = some (r, fo)) : kMet l (wC G ad) yX3_partTwice cX3_partTwice 3 (some .int) 0 [.ref (kad (wC G ad) 282)] f r fo := by
  refine kMet_of (own := RX3) (lv := [(0, .ref (kad (wC G ad) 282))]) (by decide) rfl (Nat.le_of_ble_eq_true rfl) rfl h ?_
  intro p e R s m args below meth c C
  unfold cf_X3_partTwice
  refine K_iconst C (v := 0) (by decide) dX3_partTwice_0 ?_
  refine K_istore_n C (lv1 := [(1, .int 0), (0, .ref (kad (wC G ad) 282))]) rfl (by decide) rfl dX3_partTwice_1 ?_
  refine K_sub [1, 0] rfl ?_
  exact kcl_X3_partTwice_2 C 100 f 0
def cl_X3_piecesFor_2 : Nat → kMem → Int32 → Int32 → Option (Int32 × kMem)
  | 0, _, _, _ => none
  | n + 1, f, x1, x2 => kle (f 282 2) x2 (some (0, f)) (kchk (kin x2 3) (keq (f 283 (Int32.toNatClampNeg x2)) x1 (kchk (kin x2 3) (some ((f 284 (Int32.toNatClampNeg x2)), f))) (klet (x2 + Int32.ofInt 1) (fun x2_1 => ((cl_X3_piecesFor_2 n) f x1 x2_1)))))
def cf_X3_piecesFor (f : kMem) (x1 : Int32) : Option (Int32 × kMem) := (cl_X3_piecesFor_2 100 f x1 0)
set_option maxRecDepth 100000 in
set_option maxHeartbeats 4000000 in
theorem kcl_X3_piecesFor_2 {p : Program} {l : Launch} {e : Env} {R : Room} {s : State} {m : MethodId} {args : Array Value} {below : List Frame} {meth : Method} {c : Code} {G : kG} {ad : Nat → Nat} {z : Int32 × kMem} (C : KC p l e R s m args below meth c (wC G ad) RX3 cX3_piecesFor 3 (some .int) 0 0 0)  : ∀ (n : Nat) (f : kMem) (x1 x2 : Int32), K p l e R s m args below meth c (wC G ad) 3 (kQF below (wC G ad) (some .int) args s z) z 0 0 f 2 [(0, .ref (kad (wC G ad) 282)), (1, .int x1), (2, .int x2)] [] (cl_X3_piecesFor_2 n f x1 x2) := by
  intro n
  induction n with
  | zero => intro f x1 x2; exact K_none
  | succ n ih =>
    intro f x1 x2
    unfold cl_X3_piecesFor_2
    refine K_iload_n C 2 rfl rfl dX3_piecesFor_2 ?_
    refine K_aload_n C 0 rfl rfl dX3_piecesFor_3 ?_
    refine K_getI C kin_X3 rfl (Nat.le_of_ble_eq_true rfl) (shC_282 G ad) 2 (by decide) rfl wf_X3_37 rfl dX3_piecesFor_4 ?_
    refine K_icmp_ge C (tgt := 33) (by decide) dX3_piecesFor_7 ?_ ?_
    · refine K_iconst C (v := 0) (by decide) dX3_piecesFor_33 ?_
      exact K_ret C rfl rfl dX3_piecesFor_34
    · refine K_aload_n C 0 rfl rfl dX3_piecesFor_10 ?_
      refine K_getR C kin_X3 rfl (Nat.le_of_ble_eq_true rfl) (shC_282 G ad) 0 (by decide) (b := 283) rfl wf_X3_9 rfl dX3_piecesFor_11 ?_
      refine K_iload_n C 2 rfl rfl dX3_piecesFor_14 ?_
      refine K_iald C (Nat.le_of_ble_eq_true rfl) (shC_283 G ad) dX3_piecesFor_15 ?_
      refine K_iload_n C 1 rfl rfl dX3_piecesFor_16 ?_
      refine K_icmp_ne C (tgt := 27) (by decide) dX3_piecesFor_17 ?_ ?_
      · refine K_iinc C (k := 2) (lv1 := fun x2_1 => [(2, .int x2_1), (0, .ref (kad (wC G ad) 282)), (1, .int x1)]) rfl (by decide) (fun _ => rfl) dX3_piecesFor_27 (fun x2_1 => ?_)
        refine K_goto C (tgt := 2) (by decide) dX3_piecesFor_30 ?_
        refine K_sub [1, 2, 0] rfl ?_
        exact ih f x1 x2_1
      · refine K_aload_n C 0 rfl rfl dX3_piecesFor_20 ?_
        refine K_getR C kin_X3 rfl (Nat.le_of_ble_eq_true rfl) (shC_282 G ad) 1 (by decide) (b := 284) rfl wf_X3_15 rfl dX3_piecesFor_21 ?_
        refine K_iload_n C 2 rfl rfl dX3_piecesFor_24 ?_
        refine K_iald C (Nat.le_of_ble_eq_true rfl) (shC_284 G ad) dX3_piecesFor_25 ?_
        exact K_ret C rfl rfl dX3_piecesFor_26
set_option maxRecDepth 100000 in
set_option maxHeartbeats 4000000 in
theorem km_X3_piecesFor (l : Launch) (G : kG) (ad : Nat → Nat) (f : kMem) (x1 : Int32) (r : Int32) (fo : kMem) (h : cf_X3_piecesFor f x1 = some (r, fo)) : kMet l (wC G ad) yX3_piecesFor cX3_piecesFor 3 (some .int) 0 [.ref (kad (wC G ad) 282), .int x1] f r fo := by
  refine kMet_of (own := RX3) (lv := [(0, .ref (kad (wC G ad) 282)), (1, .int x1)]) (by decide) rfl (Nat.le_of_ble_eq_true rfl) rfl h ?_
  intro p e R s m args below meth c C
  unfold cf_X3_piecesFor
  refine K_iconst C (v := 0) (by decide) dX3_piecesFor_0 ?_
  refine K_istore_n C (lv1 := [(2, .int 0), (0, .ref (kad (wC G ad) 282)), (1, .int x1)]) rfl (by decide) rfl dX3_piecesFor_1 ?_
  refine K_sub [1, 2, 0] rfl ?_
  exact kcl_X3_piecesFor_2 C 100 f x1 0
def cl_X0_addFamily_95 (Y129 : kMem → Option (Int32 × kMem)) : Nat → kMem → Int32 → Option (Int32 × kMem)
  | 0, _, _ => none
  | n + 1, f, x4 => kle 8 x4 ((Y129 f)) (kbind (cf_X3_piecesFor f x4) (fun r11 g12 => kchk (kin (((f 1 2) * 8) + x4) 48) (kmem (kup g12 6 (Int32.toNatClampNeg (((f 1 2) * 8) + x4)) r11) (fun g13 => klet (x4 + Int32.ofInt 1) (fun x4_14 => ((cl_X0_addFamily_95 Y129 n) g13 x4_14))))))
def cf_X0_addFamily (f : kMem) : Option (Int32 × kMem) := kbind (cf_X3_hasZero f) (fun r1 g2 => keq r1 0 (kbind (cf_X3_highestPart g2) (fun r3 g4 => kbind (cf_X0_isPart g4 r3) (fun r5 g6 => keq r5 0 (kbind (cf_X8_refuse g6 1 0) (fun r21 g22 => some (r21, g22))) (kbind (cf_X3_partTwice g6) (fun r7 g8 => keq r7 (-1) (klt (g8 1 2) 6 (kchk (kin (g8 1 2) 6) (kmem (kup g8 4 (Int32.toNatClampNeg (g8 1 2)) (g8 282 3)) (fun g9 => kchk (kin (g9 1 2) 6) (kmem (kup g9 5 (Int32.toNatClampNeg (g9 1 2)) (g9 282 4)) (fun g10 => (cl_X0_addFamily_95 (fun g15 => kmem (kup g15 1 2 ((g15 1 2) + 1)) (fun g16 => some (((g16 1 2) - 1), g16))) 100 g10 0)))))) (kbind (cf_X8_refuse g8 3 0) (fun r17 g18 => some (r17, g18)))) (kbind (cf_X8_refuse g8 14 r7) (fun r19 g20 => some (r19, g20)))))))) (kbind (cf_X8_refuse g2 2 0) (fun r23 g24 => some (r23, g24))))
set_option maxRecDepth 100000 in
set_option maxHeartbeats 4000000 in
theorem kcl_X0_addFamily_95 {p : Program} {l : Launch} {e : Env} {R : Room} {s : State} {m : MethodId} {args : Array Value} {below : List Frame} {meth : Method} {c : Code} {G : kG} {ad : Nat → Nat} {z : Int32 × kMem} (C : KC p l e R s m args below meth c (wC G ad) RX0 cX0_addFamily 5 (some .int) 2 0 0) (Y129 : kMem → Option (Int32 × kMem)) (hY129 : ∀ (f : kMem), K p l e R s m args below meth c (wC G ad) 5 (kQF below (wC G ad) (some .int) args s z) z 0 0 f 129 [(0, .ref (kad (wC G ad) 1))] [] (Y129 f)) : ∀ (n : Nat) (f : kMem) (x4 : Int32), K p l e R s m args below meth c (wC G ad) 5 (kQF below (wC G ad) (some .int) args s z) z 0 0 f 95 [(0, .ref (kad (wC G ad) 1)), (1, .ref (kad (wC G ad) 282)), (4, .int x4)] [] (cl_X0_addFamily_95 Y129 n f x4) := by
  intro n
  induction n with
  | zero => intro f x4; exact K_none
  | succ n ih =>
    intro f x4
    unfold cl_X0_addFamily_95
    refine K_iload C 2 rfl dX0_addFamily_95 ?_
    refine K_bipush C (v := 8) (by decide) dX0_addFamily_97 ?_
    refine K_icmp_ge C (tgt := 129) (by decide) dX0_addFamily_99 ?_ ?_
    · refine K_sub [0] rfl ?_
      exact hY129 f
    · refine K_aload_n C 0 rfl rfl dX0_addFamily_102 ?_
      refine K_getR C kin_X0 rfl (Nat.le_of_ble_eq_true rfl) (shC_1 G ad) 7 (by decide) (b := 6) rfl wf_X0_24 rfl dX0_addFamily_103 ?_
      refine K_aload_n C 0 rfl rfl dX0_addFamily_106 ?_
      refine K_getI C kin_X0 rfl (Nat.le_of_ble_eq_true rfl) (shC_1 G ad) 2 (by decide) rfl wf_X0_37 rfl dX0_addFamily_107 ?_
      refine K_bipush C (v := 8) (by decide) dX0_addFamily_110 ?_
      refine K_imul C dX0_addFamily_112 ?_
      refine K_iload C 2 rfl dX0_addFamily_113 ?_
      refine K_iadd C dX0_addFamily_115 ?_
      refine K_aload_n C 1 rfl rfl dX0_addFamily_116 ?_
      refine K_iload C 2 rfl dX0_addFamily_117 ?_
      refine K_callVi C (As := [.int x4]) (rest := [.int (((f 1 2) * 8) + x4), .ref (kad (wC G ad) 6)]) (Nat.le_of_ble_eq_true rfl) (shC_282 G ad) rfl hy_X3_piecesFor wm_X0_77 (by decide) ⟨Nat.le_refl _, Nat.le_refl _⟩ (fun rr ff hh => km_X3_piecesFor l G ad f x4 rr ff hh) rfl rfl (Nat.le_of_ble_eq_true rfl) rfl dX0_addFamily_119 (fun r11 g12 => ?_)
      refine K_iast C (Nat.le_of_ble_eq_true rfl) (shC_6 G ad) dX0_addFamily_122 (fun g13 => ?_)
      refine K_iinc C (k := 2) (lv1 := fun x4_14 => [(4, .int x4_14), (0, .ref (kad (wC G ad) 1)), (1, .ref (kad (wC G ad) 282))]) rfl (by decide) (fun _ => rfl) dX0_addFamily_123 (fun x4_14 => ?_)
      refine K_goto C (tgt := 95) (by decide) dX0_addFamily_126 ?_
      refine K_sub [1, 2, 0] rfl ?_
      exact ih g13 x4_14
set_option maxRecDepth 100000 in
set_option maxHeartbeats 4000000 in
theorem km_X0_addFamily (l : Launch) (G : kG) (ad : Nat → Nat) (f : kMem) (r : Int32) (fo : kMem) (h : cf_X0_addFamily f = some (r, fo)) : kMet l (wC G ad) yX0_addFamily cX0_addFamily 5 (some .int) 2 [.ref (kad (wC G ad) 1), .ref (kad (wC G ad) 282), .ref (kad (wC G ad) 277)] f r fo := by
  refine kMet_of (own := RX0) (lv := [(0, .ref (kad (wC G ad) 1)), (1, .ref (kad (wC G ad) 282)), (2, .ref (kad (wC G ad) 277))]) (by decide) rfl (Nat.le_of_ble_eq_true rfl) rfl h ?_
  intro p e R s m args below meth c C
  unfold cf_X0_addFamily
  refine K_aload_n C 1 rfl rfl dX0_addFamily_0 ?_
  refine K_callVi C (As := []) (rest := []) (Nat.le_of_ble_eq_true rfl) (shC_282 G ad) rfl hy_X3_hasZero wm_X0_54 (by decide) ⟨Nat.le_refl _, Nat.le_refl _⟩ (fun rr ff hh => km_X3_hasZero l G ad f rr ff hh) rfl rfl (Nat.le_of_ble_eq_true rfl) rfl dX0_addFamily_1 (fun r1 g2 => ?_)
  refine K_if_eq C (tgt := 14) (by decide) dX0_addFamily_4 ?_ ?_
  · refine K_aload_n C 0 rfl rfl dX0_addFamily_14 ?_
    refine K_aload_n C 1 rfl rfl dX0_addFamily_15 ?_
    refine K_callVi C (As := []) (rest := [.ref (kad (wC G ad) 1)]) (Nat.le_of_ble_eq_true rfl) (shC_282 G ad) rfl hy_X3_highestPart wm_X0_60 (by decide) ⟨Nat.le_refl _, Nat.le_refl _⟩ (fun rr ff hh => km_X3_highestPart l G ad g2 rr ff hh) rfl rfl (Nat.le_of_ble_eq_true rfl) rfl dX0_addFamily_16 (fun r3 g4 => ?_)
    refine K_callVi C (As := [.int r3]) (rest := []) (Nat.le_of_ble_eq_true rfl) (shC_1 G ad) rfl hy_X0_isPart wm_X0_64 (by decide) ⟨Nat.le_refl _, Nat.le_refl _⟩ (fun rr ff hh => km_X0_isPart l G ad g4 r3 rr ff hh) rfl rfl (Nat.le_of_ble_eq_true rfl) rfl dX0_addFamily_19 (fun r5 g6 => ?_)
    refine K_if_ne C (tgt := 32) (by decide) dX0_addFamily_22 ?_ ?_
    · refine K_aload_n C 1 rfl rfl dX0_addFamily_32 ?_
      refine K_callVi C (As := []) (rest := []) (Nat.le_of_ble_eq_true rfl) (shC_282 G ad) rfl hy_X3_partTwice wm_X0_68 (by decide) ⟨Nat.le_refl _, Nat.le_refl _⟩ (fun rr ff hh => km_X3_partTwice l G ad g6 rr ff hh) rfl rfl (Nat.le_of_ble_eq_true rfl) rfl dX0_addFamily_33 (fun r7 g8 => ?_)
      refine K_istore_n C (lv1 := [(3, .int r7), (0, .ref (kad (wC G ad) 1)), (1, .ref (kad (wC G ad) 282)), (2, .ref (kad (wC G ad) 277))]) rfl (by decide) rfl dX0_addFamily_36 ?_
      refine K_iload_n C 0 rfl rfl dX0_addFamily_37 ?_
      refine K_iconst C (v := (-1)) (by decide) dX0_addFamily_38 ?_
      refine K_icmp_eq C (tgt := 50) (by decide) dX0_addFamily_39 ?_ ?_
      · refine K_aload_n C 1 rfl rfl dX0_addFamily_50 ?_
        refine K_getI C kin_X0 rfl (Nat.le_of_ble_eq_true rfl) (shC_1 G ad) 2 (by decide) rfl wf_X0_37 rfl dX0_addFamily_51 ?_
        refine K_bipush C (v := 6) (by decide) dX0_addFamily_54 ?_
        refine K_icmp_lt C (tgt := 66) (by decide) dX0_addFamily_56 ?_ ?_
        · refine K_aload_n C 1 rfl rfl dX0_addFamily_66 ?_
          refine K_getR C kin_X0 rfl (Nat.le_of_ble_eq_true rfl) (shC_1 G ad) 5 (by decide) (b := 4) rfl wf_X0_18 rfl dX0_addFamily_67 ?_
          refine K_aload_n C 1 rfl rfl dX0_addFamily_70 ?_
          refine K_getI C kin_X0 rfl (Nat.le_of_ble_eq_true rfl) (shC_1 G ad) 2 (by decide) rfl wf_X0_37 rfl dX0_addFamily_71 ?_
          refine K_aload_n C 2 rfl rfl dX0_addFamily_74 ?_
          refine K_getI C kin_X3 rfl (Nat.le_of_ble_eq_true rfl) (shC_282 G ad) 3 (by decide) rfl wf_X0_71 rfl dX0_addFamily_75 ?_
          refine K_iast C (Nat.le_of_ble_eq_true rfl) (shC_4 G ad) dX0_addFamily_78 (fun g9 => ?_)
          refine K_aload_n C 1 rfl rfl dX0_addFamily_79 ?_
          refine K_getR C kin_X0 rfl (Nat.le_of_ble_eq_true rfl) (shC_1 G ad) 6 (by decide) (b := 5) rfl wf_X0_21 rfl dX0_addFamily_80 ?_
          refine K_aload_n C 1 rfl rfl dX0_addFamily_83 ?_
          refine K_getI C kin_X0 rfl (Nat.le_of_ble_eq_true rfl) (shC_1 G ad) 2 (by decide) rfl wf_X0_37 rfl dX0_addFamily_84 ?_
          refine K_aload_n C 2 rfl rfl dX0_addFamily_87 ?_
          refine K_getI C kin_X3 rfl (Nat.le_of_ble_eq_true rfl) (shC_282 G ad) 4 (by decide) rfl wf_X0_74 rfl dX0_addFamily_88 ?_
          refine K_iast C (Nat.le_of_ble_eq_true rfl) (shC_5 G ad) dX0_addFamily_91 (fun g10 => ?_)
          refine K_iconst C (v := 0) (by decide) dX0_addFamily_92 ?_
          refine K_istore C (lv1 := [(4, .int 0), (3, .int r7), (0, .ref (kad (wC G ad) 1)), (1, .ref (kad (wC G ad) 282)), (2, .ref (kad (wC G ad) 277))]) (by decide) rfl dX0_addFamily_93 ?_
          refine K_sub [2, 3, 0] rfl ?_
          refine kcl_X0_addFamily_95 C _ (fun g15 => ?_) 100 g10 0
          refine K_aload_n C 0 rfl rfl dX0_addFamily_129 ?_
          refine K_dup C rfl dX0_addFamily_130 ?_
          refine K_getI C kin_X0 rfl (Nat.le_of_ble_eq_true rfl) (shC_1 G ad) 2 (by decide) rfl wf_X0_37 rfl dX0_addFamily_131 ?_
          refine K_iconst C (v := 1) (by decide) dX0_addFamily_134 ?_
          refine K_iadd C dX0_addFamily_135 ?_
          refine K_putI C kin_X0 rfl (Nat.le_of_ble_eq_true rfl) (shC_1 G ad) 2 (by decide) rfl wf_X0_37 rfl tyX0 tyX0_ok nmX0 (by decide) (ty := .int) (by decide +kernel) rfl rfl dX0_addFamily_136 (fun g16 => ?_)
          refine K_aload_n C 0 rfl rfl dX0_addFamily_139 ?_
          refine K_getI C kin_X0 rfl (Nat.le_of_ble_eq_true rfl) (shC_1 G ad) 2 (by decide) rfl wf_X0_37 rfl dX0_addFamily_140 ?_
          refine K_iconst C (v := 1) (by decide) dX0_addFamily_143 ?_
          refine K_isub C dX0_addFamily_144 ?_
          exact K_ret C rfl rfl dX0_addFamily_145
        · refine K_aload_n C 3 rfl rfl dX0_addFamily_59 ?_
          refine K_iconst C (v := 3) (by decide) dX0_addFamily_60 ?_
          refine K_iconst C (v := 0) (by decide) dX0_addFamily_61 ?_
          refine K_callVi C (As := [.int 3, .int 0]) (rest := []) (Nat.le_of_ble_eq_true rfl) (shC_277 G ad) rfl hy_X8_refuse wm_X0_48 (by decide) ⟨Nat.le_refl _, Nat.le_refl _⟩ (fun rr ff hh => km_X8_refuse l G ad g8 3 0 rr ff hh) rfl rfl (Nat.le_of_ble_eq_true rfl) rfl dX0_addFamily_62 (fun r17 g18 => ?_)
          exact K_ret C rfl rfl dX0_addFamily_65
      · refine K_aload_n C 3 rfl rfl dX0_addFamily_42 ?_
        refine K_bipush C (v := 14) (by decide) dX0_addFamily_43 ?_
        refine K_iload_n C 0 rfl rfl dX0_addFamily_45 ?_
        refine K_callVi C (As := [.int 14, .int r7]) (rest := []) (Nat.le_of_ble_eq_true rfl) (shC_277 G ad) rfl hy_X8_refuse wm_X0_48 (by decide) ⟨Nat.le_refl _, Nat.le_refl _⟩ (fun rr ff hh => km_X8_refuse l G ad g8 14 r7 rr ff hh) rfl rfl (Nat.le_of_ble_eq_true rfl) rfl dX0_addFamily_46 (fun r19 g20 => ?_)
        exact K_ret C rfl rfl dX0_addFamily_49
    · refine K_aload_n C 2 rfl rfl dX0_addFamily_25 ?_
      refine K_iconst C (v := 1) (by decide) dX0_addFamily_26 ?_
      refine K_iconst C (v := 0) (by decide) dX0_addFamily_27 ?_
      refine K_callVi C (As := [.int 1, .int 0]) (rest := []) (Nat.le_of_ble_eq_true rfl) (shC_277 G ad) rfl hy_X8_refuse wm_X0_48 (by decide) ⟨Nat.le_refl _, Nat.le_refl _⟩ (fun rr ff hh => km_X8_refuse l G ad g6 1 0 rr ff hh) rfl rfl (Nat.le_of_ble_eq_true rfl) rfl dX0_addFamily_28 (fun r21 g22 => ?_)
      exact K_ret C rfl rfl dX0_addFamily_31
  · refine K_aload_n C 2 rfl rfl dX0_addFamily_7 ?_
    refine K_iconst C (v := 2) (by decide) dX0_addFamily_8 ?_
    refine K_iconst C (v := 0) (by decide) dX0_addFamily_9 ?_
    refine K_callVi C (As := [.int 2, .int 0]) (rest := []) (Nat.le_of_ble_eq_true rfl) (shC_277 G ad) rfl hy_X8_refuse wm_X0_48 (by decide) ⟨Nat.le_refl _, Nat.le_refl _⟩ (fun rr ff hh => km_X8_refuse l G ad g2 2 0 rr ff hh) rfl rfl (Nat.le_of_ble_eq_true rfl) rfl dX0_addFamily_10 (fun r23 g24 => ?_)
    exact K_ret C rfl rfl dX0_addFamily_13
def cj_X0_changeSetting_26 (f : kMem) : Option (Int32 × kMem) := kbind (cf_X8_refuse f 2 0) (fun r3 g4 => some (r3, g4))
def cf_X0_changeSetting (f : kMem) (x1 x2 : Int32) : Option (Int32 × kMem) := kbind (cf_X11_isWithin f x1 0 3) (fun r1 g2 => keq r1 0 ((cj_X0_changeSetting_26 g2)) (kchk (kin x1 4) (kchk (kin x1 4) (kbind (cf_X11_isWithin g2 x2 (kst 1 (Int32.toNatClampNeg x1)) (kst 2 (Int32.toNatClampNeg x1))) (fun r5 g6 => keq r5 0 ((cj_X0_changeSetting_26 g6)) (kchk (kin x1 4) (klet (g6 7 (Int32.toNatClampNeg x1)) (fun x4_7 => kchk (kin x1 4) (kmem (kup g6 7 (Int32.toNatClampNeg x1) x2) (fun g8 => some (x4_7, g8)))))))))))
set_option maxRecDepth 100000 in
set_option maxHeartbeats 4000000 in
theorem kcj_X0_changeSetting_26 {p : Program} {l : Launch} {e : Env} {R : Room} {s : State} {m : MethodId} {args : Array Value} {below : List Frame} {meth : Method} {c : Code} {G : kG} {ad : Nat → Nat} {z : Int32 × kMem} (C : KC p l e R s m args below meth c (wC G ad) RX0 cX0_changeSetting 5 (some .int) 2 0 0)  (f : kMem) : K p l e R s m args below meth c (wC G ad) 5 (kQF below (wC G ad) (some .int) args s z) z 0 0 f 26 [(3, .ref (kad (wC G ad) 277))] [] (cj_X0_changeSetting_26 f) := by
  unfold cj_X0_changeSetting_26
  refine K_aload_n C 0 rfl rfl dX0_changeSetting_26 ?_
  refine K_iconst C (v := 2) (by decide) dX0_changeSetting_27 ?_
  refine K_iconst C (v := 0) (by decide) dX0_changeSetting_28 ?_
  refine K_callVi C (As := [.int 2, .int 0]) (rest := []) (Nat.le_of_ble_eq_true rfl) (shC_277 G ad) rfl hy_X8_refuse wm_X0_48 (by decide) ⟨Nat.le_refl _, Nat.le_refl _⟩ (fun rr ff hh => km_X8_refuse l G ad f 2 0 rr ff hh) rfl rfl (Nat.le_of_ble_eq_true rfl) rfl dX0_changeSetting_29 (fun r3 g4 => ?_)
  exact K_ret C rfl rfl dX0_changeSetting_32
set_option maxRecDepth 100000 in
set_option maxHeartbeats 4000000 in
theorem km_X0_changeSetting (l : Launch) (G : kG) (ad : Nat → Nat) (f : kMem) (x1 x2 : Int32) (r : Int32) (fo : kMem) (h : cf_X0_changeSetting f x1 x2 = some (r, fo)) : kMet l (wC G ad) yX0_changeSetting cX0_changeSetting 5 (some .int) 2 [.ref (kad (wC G ad) 1), .int x1, .int x2, .ref (kad (wC G ad) 277)] f r fo := by
  refine kMet_of (own := RX0) (lv := [(0, .ref (kad (wC G ad) 1)), (1, .int x1), (2, .int x2), (3, .ref (kad (wC G ad) 277))]) (by decide) rfl (Nat.le_of_ble_eq_true rfl) rfl h ?_
  intro p e R s m args below meth c C
  unfold cf_X0_changeSetting
  refine K_iload_n C 1 rfl rfl dX0_changeSetting_0 ?_
  refine K_iconst C (v := 0) (by decide) dX0_changeSetting_1 ?_
  refine K_iconst C (v := 3) (by decide) dX0_changeSetting_2 ?_
  refine K_callSNi C (As := [.int x1, .int 0, .int 3]) (rest := []) hy_X11_isWithin (by decide +kernel) (by decide) ⟨Nat.le_refl _, Nat.le_refl _⟩ (fun rr ff hh => km_X11_isWithin l G ad f x1 0 3 rr ff hh) rfl rfl (Nat.le_of_ble_eq_true rfl) rfl dX0_changeSetting_3 (fun r1 g2 => ?_)
  refine K_if_eq C (tgt := 26) (by decide) dX0_changeSetting_6 ?_ ?_
  · refine K_sub [3] rfl ?_
    exact kcj_X0_changeSetting_26 C g2
  · refine K_iload_n C 2 rfl rfl dX0_changeSetting_9 ?_
    refine K_gs1 C (index := 81) (by decide +kernel) dX0_changeSetting_10 ?_
    refine K_iload_n C 1 rfl rfl dX0_changeSetting_13 ?_
    refine K_ts1 C dX0_changeSetting_14 ?_
    refine K_gs2 C (index := 84) (by decide +kernel) dX0_changeSetting_15 ?_
    refine K_iload_n C 1 rfl rfl dX0_changeSetting_18 ?_
    refine K_ts2 C dX0_changeSetting_19 ?_
    refine K_callSNi C (As := [.int x2, .int (kst 1 (Int32.toNatClampNeg x1)), .int (kst 2 (Int32.toNatClampNeg x1))]) (rest := []) hy_X11_isWithin (by decide +kernel) (by decide) ⟨Nat.le_refl _, Nat.le_refl _⟩ (fun rr ff hh => km_X11_isWithin l G ad g2 x2 (kst 1 (Int32.toNatClampNeg x1)) (kst 2 (Int32.toNatClampNeg x1)) rr ff hh) rfl rfl (Nat.le_of_ble_eq_true rfl) rfl dX0_changeSetting_20 (fun r5 g6 => ?_)
    refine K_if_ne C (tgt := 33) (by decide) dX0_changeSetting_23 ?_ ?_
    · refine K_aload_n C 0 rfl rfl dX0_changeSetting_33 ?_
      refine K_getR C kin_X0 rfl (Nat.le_of_ble_eq_true rfl) (shC_1 G ad) 8 (by decide) (b := 7) rfl wf_X0_27 rfl dX0_changeSetting_34 ?_
      refine K_iload_n C 1 rfl rfl dX0_changeSetting_37 ?_
      refine K_iald C (Nat.le_of_ble_eq_true rfl) (shC_7 G ad) dX0_changeSetting_38 ?_
      refine K_let rfl (fun x4_7 => ?_)
      refine K_istore C (lv1 := [(4, .int x4_7), (0, .ref (kad (wC G ad) 1)), (1, .int x1), (2, .int x2), (3, .ref (kad (wC G ad) 277))]) (by decide) rfl dX0_changeSetting_39 ?_
      refine K_aload_n C 1 rfl rfl dX0_changeSetting_41 ?_
      refine K_getR C kin_X0 rfl (Nat.le_of_ble_eq_true rfl) (shC_1 G ad) 8 (by decide) (b := 7) rfl wf_X0_27 rfl dX0_changeSetting_42 ?_
      refine K_iload_n C 2 rfl rfl dX0_changeSetting_45 ?_
      refine K_iload_n C 3 rfl rfl dX0_changeSetting_46 ?_
      refine K_iast C (Nat.le_of_ble_eq_true rfl) (shC_7 G ad) dX0_changeSetting_47 (fun g8 => ?_)
      refine K_iload C 0 rfl dX0_changeSetting_48 ?_
      exact K_ret C rfl rfl dX0_changeSetting_50
    · refine K_sub [3] rfl ?_
      exact kcj_X0_changeSetting_26 C g6
def cf_X0_purgeShots (f : kMem) (x1 x2 : Int32) : Option (Int32 × kMem) := kbind (cf_X0_isColour f x1) (fun r1 g2 => keq r1 0 (some (0, g2)) (kbind (cf_X0_isColour g2 x2) (fun r3 g4 => keq r3 0 (some (0, g4)) (keq x1 x2 (some (0, g4)) (kchk (kin x1 6) (kchk (kin x2 6) (some ((1 + ((kmax 0 ((g4 2 (Int32.toNatClampNeg x1)) - (g4 2 (Int32.toNatClampNeg x2)))) * (g4 7 2))), g4))))))))
set_option maxRecDepth 100000 in
set_option maxHeartbeats 4000000 in
theorem km_X0_purgeShots (l : Launch) (G : kG) (ad : Nat → Nat) (f : kMem) (x1 x2 : Int32) (r : Int32) (fo : kMem) (h : cf_X0_purgeShots f x1 x2 = some (r, fo)) : kMet l (wC G ad) yX0_purgeShots cX0_purgeShots 3 (some .int) 2 [.ref (kad (wC G ad) 1), .int x1, .int x2] f r fo := by
  refine kMet_of (own := RX0) (lv := [(0, .ref (kad (wC G ad) 1)), (1, .int x1), (2, .int x2)]) (by decide) rfl (Nat.le_of_ble_eq_true rfl) rfl h ?_
  intro p e R s m args below meth c C
  unfold cf_X0_purgeShots
  refine K_aload_n C 0 rfl rfl dX0_purgeShots_0 ?_
  refine K_iload_n C 1 rfl rfl dX0_purgeShots_1 ?_
  refine K_callVi C (As := [.int x1]) (rest := []) (Nat.le_of_ble_eq_true rfl) (shC_1 G ad) rfl hy_X0_isColour wm_X0_87 (by decide) ⟨Nat.le_refl _, Nat.le_refl _⟩ (fun rr ff hh => km_X0_isColour l G ad f x1 rr ff hh) rfl rfl (Nat.le_of_ble_eq_true rfl) rfl dX0_purgeShots_2 (fun r1 g2 => ?_)
  refine K_if_eq C (tgt := 21) (by decide) dX0_purgeShots_5 ?_ ?_
  · refine K_iconst C (v := 0) (by decide) dX0_purgeShots_21 ?_
    exact K_ret C rfl rfl dX0_purgeShots_22
  · refine K_aload_n C 0 rfl rfl dX0_purgeShots_8 ?_
    refine K_iload_n C 2 rfl rfl dX0_purgeShots_9 ?_
    refine K_callVi C (As := [.int x2]) (rest := []) (Nat.le_of_ble_eq_true rfl) (shC_1 G ad) rfl hy_X0_isColour wm_X0_87 (by decide) ⟨Nat.le_refl _, Nat.le_refl _⟩ (fun rr ff hh => km_X0_isColour l G ad g2 x2 rr ff hh) rfl rfl (Nat.le_of_ble_eq_true rfl) rfl dX0_purgeShots_10 (fun r3 g4 => ?_)
    refine K_if_eq C (tgt := 21) (by decide) dX0_purgeShots_13 ?_ ?_
    · refine K_iconst C (v := 0) (by decide) dX0_purgeShots_21 ?_
      exact K_ret C rfl rfl dX0_purgeShots_22
    · refine K_iload_n C 1 rfl rfl dX0_purgeShots_16 ?_
      refine K_iload_n C 2 rfl rfl dX0_purgeShots_17 ?_
      refine K_icmp_ne C (tgt := 23) (by decide) dX0_purgeShots_18 ?_ ?_
      · refine K_iconst C (v := 1) (by decide) dX0_purgeShots_23 ?_
        refine K_iconst C (v := 0) (by decide) dX0_purgeShots_24 ?_
        refine K_aload_n C 0 rfl rfl dX0_purgeShots_25 ?_
        refine K_getR C kin_X0 rfl (Nat.le_of_ble_eq_true rfl) (shC_1 G ad) 3 (by decide) (b := 2) rfl wf_X0_9 rfl dX0_purgeShots_26 ?_
        refine K_iload_n C 1 rfl rfl dX0_purgeShots_29 ?_
        refine K_iald C (Nat.le_of_ble_eq_true rfl) (shC_2 G ad) dX0_purgeShots_30 ?_
        refine K_aload_n C 0 rfl rfl dX0_purgeShots_31 ?_
        refine K_getR C kin_X0 rfl (Nat.le_of_ble_eq_true rfl) (shC_1 G ad) 3 (by decide) (b := 2) rfl wf_X0_9 rfl dX0_purgeShots_32 ?_
        refine K_iload_n C 2 rfl rfl dX0_purgeShots_35 ?_
        refine K_iald C (Nat.le_of_ble_eq_true rfl) (shC_2 G ad) dX0_purgeShots_36 ?_
        refine K_isub C dX0_purgeShots_37 ?_
        refine K_mmax C wm_X0_90 (by decide) ⟨Nat.le_refl _, Nat.le_refl _⟩ (Nat.le_of_ble_eq_true rfl) dX0_purgeShots_38 ?_
        refine K_aload_n C 0 rfl rfl dX0_purgeShots_41 ?_
        refine K_getR C kin_X0 rfl (Nat.le_of_ble_eq_true rfl) (shC_1 G ad) 8 (by decide) (b := 7) rfl wf_X0_27 rfl dX0_purgeShots_42 ?_
        refine K_iconst C (v := 2) (by decide) dX0_purgeShots_45 ?_
        refine K_ialdC C (Nat.le_of_ble_eq_true rfl) (shC_7 G ad) (kin_in (by decide)) dX0_purgeShots_46 2 (by decide) ?_
        refine K_imul C dX0_purgeShots_47 ?_
        refine K_iadd C dX0_purgeShots_48 ?_
        exact K_ret C rfl rfl dX0_purgeShots_49
      · refine K_iconst C (v := 0) (by decide) dX0_purgeShots_21 ?_
        exact K_ret C rfl rfl dX0_purgeShots_22
def cf_X0_piecesOf (f : kMem) (x1 x2 : Int32) : Option (Int32 × kMem) := kbind (cf_X0_isFamily f x1) (fun r1 g2 => keq r1 0 (some (0, g2)) (kbind (cf_X0_isPart g2 x2) (fun r3 g4 => keq r3 0 (some (0, g4)) (kchk (kin ((x1 * 8) + x2) 48) (some ((g4 6 (Int32.toNatClampNeg ((x1 * 8) + x2))), g4))))))
set_option maxRecDepth 100000 in
set_option maxHeartbeats 4000000 in
theorem km_X0_piecesOf (l : Launch) (G : kG) (ad : Nat → Nat) (f : kMem) (x1 x2 : Int32) (r : Int32) (fo : kMem) (h : cf_X0_piecesOf f x1 x2 = some (r, fo)) : kMet l (wC G ad) yX0_piecesOf cX0_piecesOf 3 (some .int) 2 [.ref (kad (wC G ad) 1), .int x1, .int x2] f r fo := by
  refine kMet_of (own := RX0) (lv := [(0, .ref (kad (wC G ad) 1)), (1, .int x1), (2, .int x2)]) (by decide) rfl (Nat.le_of_ble_eq_true rfl) rfl h ?_
  intro p e R s m args below meth c C
  unfold cf_X0_piecesOf
  refine K_aload_n C 0 rfl rfl dX0_piecesOf_0 ?_
  refine K_iload_n C 1 rfl rfl dX0_piecesOf_1 ?_
  refine K_callVi C (As := [.int x1]) (rest := []) (Nat.le_of_ble_eq_true rfl) (shC_1 G ad) rfl hy_X0_isFamily wm_X0_95 (by decide) ⟨Nat.le_refl _, Nat.le_refl _⟩ (fun rr ff hh => km_X0_isFamily l G ad f x1 rr ff hh) rfl rfl (Nat.le_of_ble_eq_true rfl) rfl dX0_piecesOf_2 (fun r1 g2 => ?_)
  refine K_if_eq C (tgt := 16) (by decide) dX0_piecesOf_5 ?_ ?_
  · refine K_iconst C (v := 0) (by decide) dX0_piecesOf_16 ?_
    exact K_ret C rfl rfl dX0_piecesOf_17
  · refine K_aload_n C 0 rfl rfl dX0_piecesOf_8 ?_
    refine K_iload_n C 2 rfl rfl dX0_piecesOf_9 ?_
    refine K_callVi C (As := [.int x2]) (rest := []) (Nat.le_of_ble_eq_true rfl) (shC_1 G ad) rfl hy_X0_isPart wm_X0_64 (by decide) ⟨Nat.le_refl _, Nat.le_refl _⟩ (fun rr ff hh => km_X0_isPart l G ad g2 x2 rr ff hh) rfl rfl (Nat.le_of_ble_eq_true rfl) rfl dX0_piecesOf_10 (fun r3 g4 => ?_)
    refine K_if_ne C (tgt := 18) (by decide) dX0_piecesOf_13 ?_ ?_
    · refine K_aload_n C 0 rfl rfl dX0_piecesOf_18 ?_
      refine K_getR C kin_X0 rfl (Nat.le_of_ble_eq_true rfl) (shC_1 G ad) 7 (by decide) (b := 6) rfl wf_X0_24 rfl dX0_piecesOf_19 ?_
      refine K_iload_n C 1 rfl rfl dX0_piecesOf_22 ?_
      refine K_bipush C (v := 8) (by decide) dX0_piecesOf_23 ?_
      refine K_imul C dX0_piecesOf_25 ?_
      refine K_iload_n C 2 rfl rfl dX0_piecesOf_26 ?_
      refine K_iadd C dX0_piecesOf_27 ?_
      refine K_iald C (Nat.le_of_ble_eq_true rfl) (shC_6 G ad) dX0_piecesOf_28 ?_
      exact K_ret C rfl rfl dX0_piecesOf_29
    · refine K_iconst C (v := 0) (by decide) dX0_piecesOf_16 ?_
      exact K_ret C rfl rfl dX0_piecesOf_17
def cl_X0_partsOf_4 : Nat → kMem → Int32 → Int32 → Int32 → Option (Int32 × kMem)
  | 0, _, _, _, _ => none
  | n + 1, f, x1, x2, x3 => kle (f 1 1) x3 (some (x2, f)) (kbind (cf_X0_piecesOf f x1 x3) (fun r1 g2 => kle r1 0 (klet (x2 + 0) (fun x2_3 => klet (x3 + Int32.ofInt 1) (fun x3_4 => ((cl_X0_partsOf_4 n) g2 x1 x2_3 x3_4)))) (klet (x2 + 1) (fun x2_5 => klet (x3 + Int32.ofInt 1) (fun x3_6 => ((cl_X0_partsOf_4 n) g2 x1 x2_5 x3_6))))))
def cf_X0_partsOf (f : kMem) (x1 : Int32) : Option (Int32 × kMem) := (cl_X0_partsOf_4 100 f x1 0 0)
set_option maxRecDepth 100000 in
set_option maxHeartbeats 4000000 in
theorem kcl_X0_partsOf_4 {p : Program} {l : Launch} {e : Env} {R : Room} {s : State} {m : MethodId} {args : Array Value} {below : List Frame} {meth : Method} {c : Code} {G : kG} {ad : Nat → Nat} {z : Int32 × kMem} (C : KC p l e R s m args below meth c (wC G ad) RX0 cX0_partsOf 4 (some .int) 3 0 0)  : ∀ (n : Nat) (f : kMem) (x1 x2 x3 : Int32), K p l e R s m args below meth c (wC G ad) 4 (kQF below (wC G ad) (some .int) args s z) z 0 0 f 4 [(0, .ref (kad (wC G ad) 1)), (1, .int x1), (2, .int x2), (3, .int x3)] [] (cl_X0_partsOf_4 n f x1 x2 x3) := by
  intro n
  induction n with
  | zero => intro f x1 x2 x3; exact K_none
  | succ n ih =>
    intro f x1 x2 x3
    unfold cl_X0_partsOf_4
    refine K_iload_n C 3 rfl rfl dX0_partsOf_4 ?_
    refine K_aload_n C 0 rfl rfl dX0_partsOf_5 ?_
    refine K_getI C kin_X0 rfl (Nat.le_of_ble_eq_true rfl) (shC_1 G ad) 1 (by decide) rfl wf_X0_34 rfl dX0_partsOf_6 ?_
    refine K_icmp_ge C (tgt := 35) (by decide) dX0_partsOf_9 ?_ ?_
    · refine K_iload_n C 2 rfl rfl dX0_partsOf_35 ?_
      exact K_ret C rfl rfl dX0_partsOf_36
    · refine K_iload_n C 2 rfl rfl dX0_partsOf_12 ?_
      refine K_aload_n C 0 rfl rfl dX0_partsOf_13 ?_
      refine K_iload_n C 1 rfl rfl dX0_partsOf_14 ?_
      refine K_iload_n C 3 rfl rfl dX0_partsOf_15 ?_
      refine K_callVi C (As := [.int x1, .int x3]) (rest := [.int x2]) (Nat.le_of_ble_eq_true rfl) (shC_1 G ad) rfl hy_X0_piecesOf wm_X0_98 (by decide) ⟨Nat.le_refl _, Nat.le_refl _⟩ (fun rr ff hh => km_X0_piecesOf l G ad f x1 x3 rr ff hh) rfl rfl (Nat.le_of_ble_eq_true rfl) rfl dX0_partsOf_16 (fun r1 g2 => ?_)
      refine K_if_le C (tgt := 26) (by decide) dX0_partsOf_19 ?_ ?_
      · refine K_iconst C (v := 0) (by decide) dX0_partsOf_26 ?_
        refine K_iadd C dX0_partsOf_27 ?_
        refine K_let rfl (fun x2_3 => ?_)
        refine K_istore_n C (lv1 := [(2, .int x2_3), (0, .ref (kad (wC G ad) 1)), (1, .int x1), (3, .int x3)]) rfl (by decide) rfl dX0_partsOf_28 ?_
        refine K_iinc C (k := 3) (lv1 := fun x3_4 => [(3, .int x3_4), (2, .int x2_3), (0, .ref (kad (wC G ad) 1)), (1, .int x1)]) rfl (by decide) (fun _ => rfl) dX0_partsOf_29 (fun x3_4 => ?_)
        refine K_goto C (tgt := 4) (by decide) dX0_partsOf_32 ?_
        refine K_sub [2, 3, 1, 0] rfl ?_
        exact ih g2 x1 x2_3 x3_4
      · refine K_iconst C (v := 1) (by decide) dX0_partsOf_22 ?_
        refine K_goto C (tgt := 27) (by decide) dX0_partsOf_23 ?_
        refine K_iadd C dX0_partsOf_27 ?_
        refine K_let rfl (fun x2_5 => ?_)
        refine K_istore_n C (lv1 := [(2, .int x2_5), (0, .ref (kad (wC G ad) 1)), (1, .int x1), (3, .int x3)]) rfl (by decide) rfl dX0_partsOf_28 ?_
        refine K_iinc C (k := 3) (lv1 := fun x3_6 => [(3, .int x3_6), (2, .int x2_5), (0, .ref (kad (wC G ad) 1)), (1, .int x1)]) rfl (by decide) (fun _ => rfl) dX0_partsOf_29 (fun x3_6 => ?_)
        refine K_goto C (tgt := 4) (by decide) dX0_partsOf_32 ?_
        refine K_sub [2, 3, 1, 0] rfl ?_
        exact ih g2 x1 x2_5 x3_6
set_option maxRecDepth 100000 in
set_option maxHeartbeats 4000000 in
theorem km_X0_partsOf (l : Launch) (G : kG) (ad : Nat → Nat) (f : kMem) (x1 : Int32) (r : Int32) (fo : kMem) (h : cf_X0_partsOf f x1 = some (r, fo)) : kMet l (wC G ad) yX0_partsOf cX0_partsOf 4 (some .int) 3 [.ref (kad (wC G ad) 1), .int x1] f r fo := by
  refine kMet_of (own := RX0) (lv := [(0, .ref (kad (wC G ad) 1)), (1, .int x1)]) (by decide) rfl (Nat.le_of_ble_eq_true rfl) rfl h ?_
  intro p e R s m args below meth c C
  unfold cf_X0_partsOf
  refine K_iconst C (v := 0) (by decide) dX0_partsOf_0 ?_
  refine K_istore_n C (lv1 := [(2, .int 0), (0, .ref (kad (wC G ad) 1)), (1, .int x1)]) rfl (by decide) rfl dX0_partsOf_1 ?_
  refine K_iconst C (v := 0) (by decide) dX0_partsOf_2 ?_
  refine K_istore_n C (lv1 := [(3, .int 0), (2, .int 0), (0, .ref (kad (wC G ad) 1)), (1, .int x1)]) rfl (by decide) rfl dX0_partsOf_3 ?_
  refine K_sub [2, 3, 1, 0] rfl ?_
  exact kcl_X0_partsOf_4 C 100 f x1 0 0
def cl_X0_allPiecesOf_4 : Nat → kMem → Int32 → Int32 → Int32 → Option (Int32 × kMem)
  | 0, _, _, _, _ => none
  | n + 1, f, x1, x2, x3 => kle (f 1 1) x3 (some (x2, f)) (kbind (cf_X0_piecesOf f x1 x3) (fun r1 g2 => klet (x2 + r1) (fun x2_3 => klet (x3 + Int32.ofInt 1) (fun x3_4 => ((cl_X0_allPiecesOf_4 n) g2 x1 x2_3 x3_4)))))
def cf_X0_allPiecesOf (f : kMem) (x1 : Int32) : Option (Int32 × kMem) := (cl_X0_allPiecesOf_4 100 f x1 0 0)
set_option maxRecDepth 100000 in
set_option maxHeartbeats 4000000 in
theorem kcl_X0_allPiecesOf_4 {p : Program} {l : Launch} {e : Env} {R : Room} {s : State} {m : MethodId} {args : Array Value} {below : List Frame} {meth : Method} {c : Code} {G : kG} {ad : Nat → Nat} {z : Int32 × kMem} (C : KC p l e R s m args below meth c (wC G ad) RX0 cX0_allPiecesOf 4 (some .int) 3 0 0)  : ∀ (n : Nat) (f : kMem) (x1 x2 x3 : Int32), K p l e R s m args below meth c (wC G ad) 4 (kQF below (wC G ad) (some .int) args s z) z 0 0 f 4 [(0, .ref (kad (wC G ad) 1)), (1, .int x1), (2, .int x2), (3, .int x3)] [] (cl_X0_allPiecesOf_4 n f x1 x2 x3) := by
  intro n
  induction n with
  | zero => intro f x1 x2 x3; exact K_none
  | succ n ih =>
    intro f x1 x2 x3
    unfold cl_X0_allPiecesOf_4
    refine K_iload_n C 3 rfl rfl dX0_allPiecesOf_4 ?_
    refine K_aload_n C 0 rfl rfl dX0_allPiecesOf_5 ?_
    refine K_getI C kin_X0 rfl (Nat.le_of_ble_eq_true rfl) (shC_1 G ad) 1 (by decide) rfl wf_X0_34 rfl dX0_allPiecesOf_6 ?_
    refine K_icmp_ge C (tgt := 27) (by decide) dX0_allPiecesOf_9 ?_ ?_
    · refine K_iload_n C 2 rfl rfl dX0_allPiecesOf_27 ?_
      exact K_ret C rfl rfl dX0_allPiecesOf_28
    · refine K_iload_n C 2 rfl rfl dX0_allPiecesOf_12 ?_
      refine K_aload_n C 0 rfl rfl dX0_allPiecesOf_13 ?_
      refine K_iload_n C 1 rfl rfl dX0_allPiecesOf_14 ?_
      refine K_iload_n C 3 rfl rfl dX0_allPiecesOf_15 ?_
      refine K_callVi C (As := [.int x1, .int x3]) (rest := [.int x2]) (Nat.le_of_ble_eq_true rfl) (shC_1 G ad) rfl hy_X0_piecesOf wm_X0_98 (by decide) ⟨Nat.le_refl _, Nat.le_refl _⟩ (fun rr ff hh => km_X0_piecesOf l G ad f x1 x3 rr ff hh) rfl rfl (Nat.le_of_ble_eq_true rfl) rfl dX0_allPiecesOf_16 (fun r1 g2 => ?_)
      refine K_iadd C dX0_allPiecesOf_19 ?_
      refine K_let rfl (fun x2_3 => ?_)
      refine K_istore_n C (lv1 := [(2, .int x2_3), (0, .ref (kad (wC G ad) 1)), (1, .int x1), (3, .int x3)]) rfl (by decide) rfl dX0_allPiecesOf_20 ?_
      refine K_iinc C (k := 3) (lv1 := fun x3_4 => [(3, .int x3_4), (2, .int x2_3), (0, .ref (kad (wC G ad) 1)), (1, .int x1)]) rfl (by decide) (fun _ => rfl) dX0_allPiecesOf_21 (fun x3_4 => ?_)
      refine K_goto C (tgt := 4) (by decide) dX0_allPiecesOf_24 ?_
      refine K_sub [2, 3, 1, 0] rfl ?_
      exact ih g2 x1 x2_3 x3_4
set_option maxRecDepth 100000 in
set_option maxHeartbeats 4000000 in
theorem km_X0_allPiecesOf (l : Launch) (G : kG) (ad : Nat → Nat) (f : kMem) (x1 : Int32) (r : Int32) (fo : kMem) (h : cf_X0_allPiecesOf f x1 = some (r, fo)) : kMet l (wC G ad) yX0_allPiecesOf cX0_allPiecesOf 4 (some .int) 3 [.ref (kad (wC G ad) 1), .int x1] f r fo := by
  refine kMet_of (own := RX0) (lv := [(0, .ref (kad (wC G ad) 1)), (1, .int x1)]) (by decide) rfl (Nat.le_of_ble_eq_true rfl) rfl h ?_
  intro p e R s m args below meth c C
  unfold cf_X0_allPiecesOf
  refine K_iconst C (v := 0) (by decide) dX0_allPiecesOf_0 ?_
  refine K_istore_n C (lv1 := [(2, .int 0), (0, .ref (kad (wC G ad) 1)), (1, .int x1)]) rfl (by decide) rfl dX0_allPiecesOf_1 ?_
  refine K_iconst C (v := 0) (by decide) dX0_allPiecesOf_2 ?_
  refine K_istore_n C (lv1 := [(3, .int 0), (2, .int 0), (0, .ref (kad (wC G ad) 1)), (1, .int x1)]) rfl (by decide) rfl dX0_allPiecesOf_3 ?_
  refine K_sub [2, 3, 1, 0] rfl ?_
  exact kcl_X0_allPiecesOf_4 C 100 f x1 0 0
def cl_X0_familiesWith_4 : Nat → kMem → Int32 → Int32 → Int32 → Option (Int32 × kMem)
  | 0, _, _, _, _ => none
  | n + 1, f, x1, x2, x3 => kle (f 1 2) x3 (some (x2, f)) (kbind (cf_X0_piecesOf f x3 x1) (fun r1 g2 => kle r1 0 (klet (x2 ||| 0) (fun x2_3 => klet (x3 + Int32.ofInt 1) (fun x3_4 => ((cl_X0_familiesWith_4 n) g2 x1 x2_3 x3_4)))) (klet (x2 ||| (1 <<< (x3 &&& 31))) (fun x2_5 => klet (x3 + Int32.ofInt 1) (fun x3_6 => ((cl_X0_familiesWith_4 n) g2 x1 x2_5 x3_6))))))
def cf_X0_familiesWith (f : kMem) (x1 : Int32) : Option (Int32 × kMem) := (cl_X0_familiesWith_4 100 f x1 0 0)
set_option maxRecDepth 100000 in
set_option maxHeartbeats 4000000 in
theorem kcl_X0_familiesWith_4 {p : Program} {l : Launch} {e : Env} {R : Room} {s : State} {m : MethodId} {args : Array Value} {below : List Frame} {meth : Method} {c : Code} {G : kG} {ad : Nat → Nat} {z : Int32 × kMem} (C : KC p l e R s m args below meth c (wC G ad) RX0 cX0_familiesWith 4 (some .int) 3 0 0)  : ∀ (n : Nat) (f : kMem) (x1 x2 x3 : Int32), K p l e R s m args below meth c (wC G ad) 4 (kQF below (wC G ad) (some .int) args s z) z 0 0 f 4 [(0, .ref (kad (wC G ad) 1)), (1, .int x1), (2, .int x2), (3, .int x3)] [] (cl_X0_familiesWith_4 n f x1 x2 x3) := by
  intro n
  induction n with
  | zero => intro f x1 x2 x3; exact K_none
  | succ n ih =>
    intro f x1 x2 x3
    unfold cl_X0_familiesWith_4
    refine K_iload_n C 3 rfl rfl dX0_familiesWith_4 ?_
    refine K_aload_n C 0 rfl rfl dX0_familiesWith_5 ?_
    refine K_getI C kin_X0 rfl (Nat.le_of_ble_eq_true rfl) (shC_1 G ad) 2 (by decide) rfl wf_X0_37 rfl dX0_familiesWith_6 ?_
    refine K_icmp_ge C (tgt := 37) (by decide) dX0_familiesWith_9 ?_ ?_
    · refine K_iload_n C 2 rfl rfl dX0_familiesWith_37 ?_
      exact K_ret C rfl rfl dX0_familiesWith_38
    · refine K_iload_n C 2 rfl rfl dX0_familiesWith_12 ?_
      refine K_aload_n C 0 rfl rfl dX0_familiesWith_13 ?_
      refine K_iload_n C 3 rfl rfl dX0_familiesWith_14 ?_
      refine K_iload_n C 1 rfl rfl dX0_familiesWith_15 ?_
      refine K_callVi C (As := [.int x3, .int x1]) (rest := [.int x2]) (Nat.le_of_ble_eq_true rfl) (shC_1 G ad) rfl hy_X0_piecesOf wm_X0_98 (by decide) ⟨Nat.le_refl _, Nat.le_refl _⟩ (fun rr ff hh => km_X0_piecesOf l G ad f x3 x1 rr ff hh) rfl rfl (Nat.le_of_ble_eq_true rfl) rfl dX0_familiesWith_16 (fun r1 g2 => ?_)
      refine K_if_le C (tgt := 28) (by decide) dX0_familiesWith_19 ?_ ?_
      · refine K_iconst C (v := 0) (by decide) dX0_familiesWith_28 ?_
        refine K_ior C dX0_familiesWith_29 ?_
        refine K_let rfl (fun x2_3 => ?_)
        refine K_istore_n C (lv1 := [(2, .int x2_3), (0, .ref (kad (wC G ad) 1)), (1, .int x1), (3, .int x3)]) rfl (by decide) rfl dX0_familiesWith_30 ?_
        refine K_iinc C (k := 3) (lv1 := fun x3_4 => [(3, .int x3_4), (2, .int x2_3), (0, .ref (kad (wC G ad) 1)), (1, .int x1)]) rfl (by decide) (fun _ => rfl) dX0_familiesWith_31 (fun x3_4 => ?_)
        refine K_goto C (tgt := 4) (by decide) dX0_familiesWith_34 ?_
        refine K_sub [2, 3, 1, 0] rfl ?_
        exact ih g2 x1 x2_3 x3_4
      · refine K_iconst C (v := 1) (by decide) dX0_familiesWith_22 ?_
        refine K_iload_n C 3 rfl rfl dX0_familiesWith_23 ?_
        refine K_ishl C dX0_familiesWith_24 ?_
        refine K_goto C (tgt := 29) (by decide) dX0_familiesWith_25 ?_
        refine K_ior C dX0_familiesWith_29 ?_
        refine K_let rfl (fun x2_5 => ?_)
        refine K_istore_n C (lv1 := [(2, .int x2_5), (0, .ref (kad (wC G ad) 1)), (1, .int x1), (3, .int x3)]) rfl (by decide) rfl dX0_familiesWith_30 ?_
        refine K_iinc C (k := 3) (lv1 := fun x3_6 => [(3, .int x3_6), (2, .int x2_5), (0, .ref (kad (wC G ad) 1)), (1, .int x1)]) rfl (by decide) (fun _ => rfl) dX0_familiesWith_31 (fun x3_6 => ?_)
        refine K_goto C (tgt := 4) (by decide) dX0_familiesWith_34 ?_
        refine K_sub [2, 3, 1, 0] rfl ?_
        exact ih g2 x1 x2_5 x3_6
set_option maxRecDepth 100000 in
set_option maxHeartbeats 4000000 in
theorem km_X0_familiesWith (l : Launch) (G : kG) (ad : Nat → Nat) (f : kMem) (x1 : Int32) (r : Int32) (fo : kMem) (h : cf_X0_familiesWith f x1 = some (r, fo)) : kMet l (wC G ad) yX0_familiesWith cX0_familiesWith 4 (some .int) 3 [.ref (kad (wC G ad) 1), .int x1] f r fo := by
  refine kMet_of (own := RX0) (lv := [(0, .ref (kad (wC G ad) 1)), (1, .int x1)]) (by decide) rfl (Nat.le_of_ble_eq_true rfl) rfl h ?_
  intro p e R s m args below meth c C
  unfold cf_X0_familiesWith
  refine K_iconst C (v := 0) (by decide) dX0_familiesWith_0 ?_
  refine K_istore_n C (lv1 := [(2, .int 0), (0, .ref (kad (wC G ad) 1)), (1, .int x1)]) rfl (by decide) rfl dX0_familiesWith_1 ?_
  refine K_iconst C (v := 0) (by decide) dX0_familiesWith_2 ?_
  refine K_istore_n C (lv1 := [(3, .int 0), (2, .int 0), (0, .ref (kad (wC G ad) 1)), (1, .int x1)]) rfl (by decide) rfl dX0_familiesWith_3 ?_
  refine K_sub [2, 3, 1, 0] rfl ?_
  exact kcl_X0_familiesWith_4 C 100 f x1 0 0
def cj_X2_fill_52 (f : kMem) (x1 x2 x3 : Int32) : Option (Int32 × kMem) := kchk (kin x1 3) (kle ((f 10 (Int32.toNatClampNeg x1)) + x3) 99999 (kchk (kin x1 3) (kmem (kup f 9 (Int32.toNatClampNeg x1) x2) (fun g3 => kchk (kin x1 3) (kchk (kin x1 3) (kmem (kup g3 10 (Int32.toNatClampNeg x1) ((g3 10 (Int32.toNatClampNeg x1)) + x3)) (fun g4 => kchk (kin x1 3) (kmem (kup g4 11 (Int32.toNatClampNeg x1) 0) (fun g5 => kchk (kin x1 3) (some ((g5 10 (Int32.toNatClampNeg x1)), g5)))))))))) (kbind (cf_X8_refuse f 7 0) (fun r6 g7 => some (r6, g7))))
def cf_X2_fill (f : kMem) (x1 x2 x3 : Int32) : Option (Int32 × kMem) := kbind (cf_X11_isWithin f x3 1 99999) (fun r1 g2 => keq r1 0 (kbind (cf_X8_refuse g2 2 0) (fun r10 g11 => some (r10, g11))) (kchk (kin x1 3) (keq (g2 9 (Int32.toNatClampNeg x1)) (-1) ((cj_X2_fill_52 g2 x1 x2 x3)) (kchk (kin x1 3) (keq (g2 9 (Int32.toNatClampNeg x1)) x2 ((cj_X2_fill_52 g2 x1 x2 x3)) (kchk (kin x1 3) (kbind (cf_X8_refuse g2 6 (g2 9 (Int32.toNatClampNeg x1))) (fun r8 g9 => some (r8, g9)))))))))
set_option maxRecDepth 100000 in
set_option maxHeartbeats 4000000 in
theorem kcj_X2_fill_52 {p : Program} {l : Launch} {e : Env} {R : Room} {s : State} {m : MethodId} {args : Array Value} {below : List Frame} {meth : Method} {c : Code} {G : kG} {ad : Nat → Nat} {z : Int32 × kMem} (C : KC p l e R s m args below meth c (wC G ad) RX2 cX2_fill 5 (some .int) 2 0 0)  (f : kMem) (x1 x2 x3 : Int32) : K p l e R s m args below meth c (wC G ad) 5 (kQF below (wC G ad) (some .int) args s z) z 0 0 f 52 [(0, .ref (kad (wC G ad) 8)), (1, .int x1), (2, .int x2), (3, .int x3), (4, .ref (kad (wC G ad) 277))] [] (cj_X2_fill_52 f x1 x2 x3) := by
  unfold cj_X2_fill_52
  refine K_aload_n C 0 rfl rfl dX2_fill_52 ?_
  refine K_getR C kin_X2 rfl (Nat.le_of_ble_eq_true rfl) (shC_8 G ad) 1 (by decide) (b := 10) rfl wf_X2_15 rfl dX2_fill_53 ?_
  refine K_iload_n C 1 rfl rfl dX2_fill_56 ?_
  refine K_iald C (Nat.le_of_ble_eq_true rfl) (shC_10 G ad) dX2_fill_57 ?_
  refine K_iload_n C 3 rfl rfl dX2_fill_58 ?_
  refine K_iadd C dX2_fill_59 ?_
  refine K_ldc C (v := 99999) wc_X2_25 dX2_fill_60 ?_
  refine K_icmp_le C (tgt := 74) (by decide) dX2_fill_62 ?_ ?_
  · refine K_aload_n C 0 rfl rfl dX2_fill_74 ?_
    refine K_getR C kin_X2 rfl (Nat.le_of_ble_eq_true rfl) (shC_8 G ad) 0 (by decide) (b := 9) rfl wf_X2_9 rfl dX2_fill_75 ?_
    refine K_iload_n C 1 rfl rfl dX2_fill_78 ?_
    refine K_iload_n C 2 rfl rfl dX2_fill_79 ?_
    refine K_iast C (Nat.le_of_ble_eq_true rfl) (shC_9 G ad) dX2_fill_80 (fun g3 => ?_)
    refine K_aload_n C 0 rfl rfl dX2_fill_81 ?_
    refine K_getR C kin_X2 rfl (Nat.le_of_ble_eq_true rfl) (shC_8 G ad) 1 (by decide) (b := 10) rfl wf_X2_15 rfl dX2_fill_82 ?_
    refine K_iload_n C 1 rfl rfl dX2_fill_85 ?_
    refine K_dup2 C rfl rfl dX2_fill_86 ?_
    refine K_iald C (Nat.le_of_ble_eq_true rfl) (shC_10 G ad) dX2_fill_87 ?_
    refine K_iload_n C 3 rfl rfl dX2_fill_88 ?_
    refine K_iadd C dX2_fill_89 ?_
    refine K_iast C (Nat.le_of_ble_eq_true rfl) (shC_10 G ad) dX2_fill_90 (fun g4 => ?_)
    refine K_aload_n C 0 rfl rfl dX2_fill_91 ?_
    refine K_getR C kin_X2 rfl (Nat.le_of_ble_eq_true rfl) (shC_8 G ad) 2 (by decide) (b := 11) rfl wf_X2_18 rfl dX2_fill_92 ?_
    refine K_iload_n C 1 rfl rfl dX2_fill_95 ?_
    refine K_iconst C (v := 0) (by decide) dX2_fill_96 ?_
    refine K_iast C (Nat.le_of_ble_eq_true rfl) (shC_11 G ad) dX2_fill_97 (fun g5 => ?_)
    refine K_aload_n C 0 rfl rfl dX2_fill_98 ?_
    refine K_getR C kin_X2 rfl (Nat.le_of_ble_eq_true rfl) (shC_8 G ad) 1 (by decide) (b := 10) rfl wf_X2_15 rfl dX2_fill_99 ?_
    refine K_iload_n C 1 rfl rfl dX2_fill_102 ?_
    refine K_iald C (Nat.le_of_ble_eq_true rfl) (shC_10 G ad) dX2_fill_103 ?_
    exact K_ret C rfl rfl dX2_fill_104
  · refine K_aload C 4 rfl dX2_fill_65 ?_
    refine K_bipush C (v := 7) (by decide) dX2_fill_67 ?_
    refine K_iconst C (v := 0) (by decide) dX2_fill_69 ?_
    refine K_callVi C (As := [.int 7, .int 0]) (rest := []) (Nat.le_of_ble_eq_true rfl) (shC_277 G ad) rfl hy_X8_refuse wm_X2_30 (by decide) ⟨Nat.le_refl _, Nat.le_refl _⟩ (fun rr ff hh => km_X8_refuse l G ad f 7 0 rr ff hh) rfl rfl (Nat.le_of_ble_eq_true rfl) rfl dX2_fill_70 (fun r6 g7 => ?_)
    exact K_ret C rfl rfl dX2_fill_73
set_option maxRecDepth 100000 in
set_option maxHeartbeats 4000000 in
theorem km_X2_fill (l : Launch) (G : kG) (ad : Nat → Nat) (f : kMem) (x1 x2 x3 : Int32) (r : Int32) (fo : kMem) (h : cf_X2_fill f x1 x2 x3 = some (r, fo)) : kMet l (wC G ad) yX2_fill cX2_fill 5 (some .int) 2 [.ref (kad (wC G ad) 8), .int x1, .int x2, .int x3, .ref (kad (wC G ad) 277)] f r fo := by
  refine kMet_of (own := RX2) (lv := [(0, .ref (kad (wC G ad) 8)), (1, .int x1), (2, .int x2), (3, .int x3), (4, .ref (kad (wC G ad) 277))]) (by decide) rfl (Nat.le_of_ble_eq_true rfl) rfl h ?_
  intro p e R s m args below meth c C
  unfold cf_X2_fill
  refine K_iload_n C 3 rfl rfl dX2_fill_0 ?_
  refine K_iconst C (v := 1) (by decide) dX2_fill_1 ?_
  refine K_ldc C (v := 99999) wc_X2_25 dX2_fill_2 ?_
  refine K_callSNi C (As := [.int x3, .int 1, .int 99999]) (rest := []) hy_X11_isWithin (by decide +kernel) (by decide) ⟨Nat.le_refl _, Nat.le_refl _⟩ (fun rr ff hh => km_X11_isWithin l G ad f x3 1 99999 rr ff hh) rfl rfl (Nat.le_of_ble_eq_true rfl) rfl dX2_fill_4 (fun r1 g2 => ?_)
  refine K_if_ne C (tgt := 18) (by decide) dX2_fill_7 ?_ ?_
  · refine K_aload_n C 0 rfl rfl dX2_fill_18 ?_
    refine K_getR C kin_X2 rfl (Nat.le_of_ble_eq_true rfl) (shC_8 G ad) 0 (by decide) (b := 9) rfl wf_X2_9 rfl dX2_fill_19 ?_
    refine K_iload_n C 1 rfl rfl dX2_fill_22 ?_
    refine K_iald C (Nat.le_of_ble_eq_true rfl) (shC_9 G ad) dX2_fill_23 ?_
    refine K_iconst C (v := (-1)) (by decide) dX2_fill_24 ?_
    refine K_icmp_eq C (tgt := 52) (by decide) dX2_fill_25 ?_ ?_
    · exact kcj_X2_fill_52 C g2 x1 x2 x3
    · refine K_aload_n C 0 rfl rfl dX2_fill_28 ?_
      refine K_getR C kin_X2 rfl (Nat.le_of_ble_eq_true rfl) (shC_8 G ad) 0 (by decide) (b := 9) rfl wf_X2_9 rfl dX2_fill_29 ?_
      refine K_iload_n C 1 rfl rfl dX2_fill_32 ?_
      refine K_iald C (Nat.le_of_ble_eq_true rfl) (shC_9 G ad) dX2_fill_33 ?_
      refine K_iload_n C 2 rfl rfl dX2_fill_34 ?_
      refine K_icmp_eq C (tgt := 52) (by decide) dX2_fill_35 ?_ ?_
      · exact kcj_X2_fill_52 C g2 x1 x2 x3
      · refine K_aload C 4 rfl dX2_fill_38 ?_
        refine K_bipush C (v := 6) (by decide) dX2_fill_40 ?_
        refine K_aload_n C 0 rfl rfl dX2_fill_42 ?_
        refine K_getR C kin_X2 rfl (Nat.le_of_ble_eq_true rfl) (shC_8 G ad) 0 (by decide) (b := 9) rfl wf_X2_9 rfl dX2_fill_43 ?_
        refine K_iload_n C 1 rfl rfl dX2_fill_46 ?_
        refine K_iald C (Nat.le_of_ble_eq_true rfl) (shC_9 G ad) dX2_fill_47 ?_
        refine K_callVi C (As := [.int 6, .int (g2 9 (Int32.toNatClampNeg x1))]) (rest := []) (Nat.le_of_ble_eq_true rfl) (shC_277 G ad) rfl hy_X8_refuse wm_X2_30 (by decide) ⟨Nat.le_refl _, Nat.le_refl _⟩ (fun rr ff hh => km_X8_refuse l G ad g2 6 (g2 9 (Int32.toNatClampNeg x1)) rr ff hh) rfl rfl (Nat.le_of_ble_eq_true rfl) rfl dX2_fill_48 (fun r8 g9 => ?_)
        exact K_ret C rfl rfl dX2_fill_51
  · refine K_aload C 4 rfl dX2_fill_10 ?_
    refine K_iconst C (v := 2) (by decide) dX2_fill_12 ?_
    refine K_iconst C (v := 0) (by decide) dX2_fill_13 ?_
    refine K_callVi C (As := [.int 2, .int 0]) (rest := []) (Nat.le_of_ble_eq_true rfl) (shC_277 G ad) rfl hy_X8_refuse wm_X2_30 (by decide) ⟨Nat.le_refl _, Nat.le_refl _⟩ (fun rr ff hh => km_X8_refuse l G ad g2 2 0 rr ff hh) rfl rfl (Nat.le_of_ble_eq_true rfl) rfl dX2_fill_14 (fun r10 g11 => ?_)
    exact K_ret C rfl rfl dX2_fill_17
def cf_X2_take (f : kMem) (x1 x2 : Int32) : Option (Int32 × kMem) := kchk (kin x1 3) (kchk (kin x1 3) (kmem (kup f 10 (Int32.toNatClampNeg x1) ((f 10 (Int32.toNatClampNeg x1)) - x2)) (fun g1 => kchk (kin x1 3) (keq (g1 10 (Int32.toNatClampNeg x1)) 0 (kchk (kin x1 3) (kmem (kup g1 9 (Int32.toNatClampNeg x1) (-1)) (fun g2 => kchk (kin x1 3) (kmem (kup g2 11 (Int32.toNatClampNeg x1) 0) (fun g3 => some (0, g3)))))) (some (0, g1))))))
set_option maxRecDepth 100000 in
set_option maxHeartbeats 4000000 in
theorem km_X2_take (l : Launch) (G : kG) (ad : Nat → Nat) (f : kMem) (x1 x2 : Int32) (r : Int32) (fo : kMem) (h : cf_X2_take f x1 x2 = some (r, fo)) : kMet l (wC G ad) yX2_take cX2_take 3 none 0 [.ref (kad (wC G ad) 8), .int x1, .int x2] f r fo := by
  refine kMet_of (own := RX2) (lv := [(0, .ref (kad (wC G ad) 8)), (1, .int x1), (2, .int x2)]) (by decide) rfl (Nat.le_of_ble_eq_true rfl) rfl h ?_
  intro p e R s m args below meth c C
  unfold cf_X2_take
  refine K_aload_n C 0 rfl rfl dX2_take_0 ?_
  refine K_getR C kin_X2 rfl (Nat.le_of_ble_eq_true rfl) (shC_8 G ad) 1 (by decide) (b := 10) rfl wf_X2_15 rfl dX2_take_1 ?_
  refine K_iload_n C 1 rfl rfl dX2_take_4 ?_
  refine K_dup2 C rfl rfl dX2_take_5 ?_
  refine K_iald C (Nat.le_of_ble_eq_true rfl) (shC_10 G ad) dX2_take_6 ?_
  refine K_iload_n C 2 rfl rfl dX2_take_7 ?_
  refine K_isub C dX2_take_8 ?_
  refine K_iast C (Nat.le_of_ble_eq_true rfl) (shC_10 G ad) dX2_take_9 (fun g1 => ?_)
  refine K_aload_n C 0 rfl rfl dX2_take_10 ?_
  refine K_getR C kin_X2 rfl (Nat.le_of_ble_eq_true rfl) (shC_8 G ad) 1 (by decide) (b := 10) rfl wf_X2_15 rfl dX2_take_11 ?_
  refine K_iload_n C 1 rfl rfl dX2_take_14 ?_
  refine K_iald C (Nat.le_of_ble_eq_true rfl) (shC_10 G ad) dX2_take_15 ?_
  refine K_if_ne C (tgt := 33) (by decide) dX2_take_16 ?_ ?_
  · exact K_vret C rfl dX2_take_33
  · refine K_aload_n C 0 rfl rfl dX2_take_19 ?_
    refine K_getR C kin_X2 rfl (Nat.le_of_ble_eq_true rfl) (shC_8 G ad) 0 (by decide) (b := 9) rfl wf_X2_9 rfl dX2_take_20 ?_
    refine K_iload_n C 1 rfl rfl dX2_take_23 ?_
    refine K_iconst C (v := (-1)) (by decide) dX2_take_24 ?_
    refine K_iast C (Nat.le_of_ble_eq_true rfl) (shC_9 G ad) dX2_take_25 (fun g2 => ?_)
    refine K_aload_n C 0 rfl rfl dX2_take_26 ?_
    refine K_getR C kin_X2 rfl (Nat.le_of_ble_eq_true rfl) (shC_8 G ad) 2 (by decide) (b := 11) rfl wf_X2_18 rfl dX2_take_27 ?_
    refine K_iload_n C 1 rfl rfl dX2_take_30 ?_
    refine K_iconst C (v := 0) (by decide) dX2_take_31 ?_
    refine K_iast C (Nat.le_of_ble_eq_true rfl) (shC_11 G ad) dX2_take_32 (fun g3 => ?_)
    exact K_vret C rfl dX2_take_33
def cf_X2_takeAll (f : kMem) (x1 : Int32) : Option (Int32 × kMem) := kbind (cf_X11_isWithin f x1 0 2) (fun r1 g2 => keq r1 0 (kbind (cf_X8_refuse g2 1 0) (fun r8 g9 => some (r8, g9))) (kchk (kin x1 3) (keq (g2 9 (Int32.toNatClampNeg x1)) (-1) (kbind (cf_X8_refuse g2 8 0) (fun r6 g7 => some (r6, g7))) (kchk (kin x1 3) (klet (g2 10 (Int32.toNatClampNeg x1)) (fun x3_3 => kbind (cf_X2_take g2 x1 x3_3) (fun r4 g5 => some (x3_3, g5))))))))
set_option maxRecDepth 100000 in
set_option maxHeartbeats 4000000 in
theorem km_X2_takeAll (l : Launch) (G : kG) (ad : Nat → Nat) (f : kMem) (x1 : Int32) (r : Int32) (fo : kMem) (h : cf_X2_takeAll f x1 = some (r, fo)) : kMet l (wC G ad) yX2_takeAll cX2_takeAll 4 (some .int) 2 [.ref (kad (wC G ad) 8), .int x1, .ref (kad (wC G ad) 277)] f r fo := by
  refine kMet_of (own := RX2) (lv := [(0, .ref (kad (wC G ad) 8)), (1, .int x1), (2, .ref (kad (wC G ad) 277))]) (by decide) rfl (Nat.le_of_ble_eq_true rfl) rfl h ?_
  intro p e R s m args below meth c C
  unfold cf_X2_takeAll
  refine K_iload_n C 1 rfl rfl dX2_takeAll_0 ?_
  refine K_iconst C (v := 0) (by decide) dX2_takeAll_1 ?_
  refine K_iconst C (v := 2) (by decide) dX2_takeAll_2 ?_
  refine K_callSNi C (As := [.int x1, .int 0, .int 2]) (rest := []) hy_X11_isWithin (by decide +kernel) (by decide) ⟨Nat.le_refl _, Nat.le_refl _⟩ (fun rr ff hh => km_X11_isWithin l G ad f x1 0 2 rr ff hh) rfl rfl (Nat.le_of_ble_eq_true rfl) rfl dX2_takeAll_3 (fun r1 g2 => ?_)
  refine K_if_ne C (tgt := 16) (by decide) dX2_takeAll_6 ?_ ?_
  · refine K_aload_n C 0 rfl rfl dX2_takeAll_16 ?_
    refine K_getR C kin_X2 rfl (Nat.le_of_ble_eq_true rfl) (shC_8 G ad) 0 (by decide) (b := 9) rfl wf_X2_9 rfl dX2_takeAll_17 ?_
    refine K_iload_n C 1 rfl rfl dX2_takeAll_20 ?_
    refine K_iald C (Nat.le_of_ble_eq_true rfl) (shC_9 G ad) dX2_takeAll_21 ?_
    refine K_iconst C (v := (-1)) (by decide) dX2_takeAll_22 ?_
    refine K_icmp_ne C (tgt := 34) (by decide) dX2_takeAll_23 ?_ ?_
    · refine K_aload_n C 0 rfl rfl dX2_takeAll_34 ?_
      refine K_getR C kin_X2 rfl (Nat.le_of_ble_eq_true rfl) (shC_8 G ad) 1 (by decide) (b := 10) rfl wf_X2_15 rfl dX2_takeAll_35 ?_
      refine K_iload_n C 1 rfl rfl dX2_takeAll_38 ?_
      refine K_iald C (Nat.le_of_ble_eq_true rfl) (shC_10 G ad) dX2_takeAll_39 ?_
      refine K_let rfl (fun x3_3 => ?_)
      refine K_istore_n C (lv1 := [(3, .int x3_3), (0, .ref (kad (wC G ad) 8)), (1, .int x1), (2, .ref (kad (wC G ad) 277))]) rfl (by decide) rfl dX2_takeAll_40 ?_
      refine K_aload_n C 1 rfl rfl dX2_takeAll_41 ?_
      refine K_iload_n C 2 rfl rfl dX2_takeAll_42 ?_
      refine K_iload_n C 0 rfl rfl dX2_takeAll_43 ?_
      refine K_callVv C (As := [.int x1, .int x3_3]) (rest := []) (Nat.le_of_ble_eq_true rfl) (shC_8 G ad) rfl hy_X2_take wm_X2_36 (by decide) ⟨Nat.le_refl _, Nat.le_refl _⟩ (fun rr ff hh => km_X2_take l G ad g2 x1 x3_3 rr ff hh) rfl rfl (Nat.le_of_ble_eq_true rfl) rfl dX2_takeAll_44 (fun r4 g5 => ?_)
      refine K_iload_n C 0 rfl rfl dX2_takeAll_47 ?_
      exact K_ret C rfl rfl dX2_takeAll_48
    · refine K_aload_n C 2 rfl rfl dX2_takeAll_26 ?_
      refine K_bipush C (v := 8) (by decide) dX2_takeAll_27 ?_
      refine K_iconst C (v := 0) (by decide) dX2_takeAll_29 ?_
      refine K_callVi C (As := [.int 8, .int 0]) (rest := []) (Nat.le_of_ble_eq_true rfl) (shC_277 G ad) rfl hy_X8_refuse wm_X2_30 (by decide) ⟨Nat.le_refl _, Nat.le_refl _⟩ (fun rr ff hh => km_X8_refuse l G ad g2 8 0 rr ff hh) rfl rfl (Nat.le_of_ble_eq_true rfl) rfl dX2_takeAll_30 (fun r6 g7 => ?_)
      exact K_ret C rfl rfl dX2_takeAll_33
  · refine K_aload_n C 2 rfl rfl dX2_takeAll_9 ?_
    refine K_iconst C (v := 1) (by decide) dX2_takeAll_10 ?_
    refine K_iconst C (v := 0) (by decide) dX2_takeAll_11 ?_
    refine K_callVi C (As := [.int 1, .int 0]) (rest := []) (Nat.le_of_ble_eq_true rfl) (shC_277 G ad) rfl hy_X8_refuse wm_X2_30 (by decide) ⟨Nat.le_refl _, Nat.le_refl _⟩ (fun rr ff hh => km_X8_refuse l G ad g2 1 0 rr ff hh) rfl rfl (Nat.le_of_ble_eq_true rfl) rfl dX2_takeAll_12 (fun r8 g9 => ?_)
    exact K_ret C rfl rfl dX2_takeAll_15
def cl_X2_dry_2 : Nat → kMem → Int32 → Int32 → Option (Int32 × kMem)
  | 0, _, _, _ => none
  | n + 1, f, x1, x2 => kle 3 x2 (some (0, f)) (kchk (kin x2 3) (kchk (kin x2 3) (keq (f 9 (Int32.toNatClampNeg x2)) (-1) (kchk (kin x2 3) (kmem (kup f 11 (Int32.toNatClampNeg x2) ((f 11 (Int32.toNatClampNeg x2)) + 0)) (fun g3 => klet (x2 + Int32.ofInt 1) (fun x2_4 => ((cl_X2_dry_2 n) g3 x1 x2_4))))) (kchk (kin x2 3) (kmem (kup f 11 (Int32.toNatClampNeg x2) ((f 11 (Int32.toNatClampNeg x2)) + x1)) (fun g1 => klet (x2 + Int32.ofInt 1) (fun x2_2 => ((cl_X2_dry_2 n) g1 x1 x2_2))))))))
def cf_X2_dry (f : kMem) (x1 : Int32) : Option (Int32 × kMem) := (cl_X2_dry_2 100 f x1 0)
set_option maxRecDepth 100000 in
set_option maxHeartbeats 4000000 in
theorem kcl_X2_dry_2 {p : Program} {l : Launch} {e : Env} {R : Room} {s : State} {m : MethodId} {args : Array Value} {below : List Frame} {meth : Method} {c : Code} {G : kG} {ad : Nat → Nat} {z : Int32 × kMem} (C : KC p l e R s m args below meth c (wC G ad) RX2 cX2_dry 3 none 0 0 0)  : ∀ (n : Nat) (f : kMem) (x1 x2 : Int32), K p l e R s m args below meth c (wC G ad) 3 (kQF below (wC G ad) none args s z) z 0 0 f 2 [(0, .ref (kad (wC G ad) 8)), (1, .int x1), (2, .int x2)] [] (cl_X2_dry_2 n f x1 x2) := by
  intro n
  induction n with
  | zero => intro f x1 x2; exact K_none
  | succ n ih =>
    intro f x1 x2
    unfold cl_X2_dry_2
    refine K_iload_n C 2 rfl rfl dX2_dry_2 ?_
    refine K_iconst C (v := 3) (by decide) dX2_dry_3 ?_
    refine K_icmp_ge C (tgt := 37) (by decide) dX2_dry_4 ?_ ?_
    · exact K_vret C rfl dX2_dry_37
    · refine K_aload_n C 0 rfl rfl dX2_dry_7 ?_
      refine K_getR C kin_X2 rfl (Nat.le_of_ble_eq_true rfl) (shC_8 G ad) 2 (by decide) (b := 11) rfl wf_X2_18 rfl dX2_dry_8 ?_
      refine K_iload_n C 2 rfl rfl dX2_dry_11 ?_
      refine K_dup2 C rfl rfl dX2_dry_12 ?_
      refine K_iald C (Nat.le_of_ble_eq_true rfl) (shC_11 G ad) dX2_dry_13 ?_
      refine K_aload_n C 0 rfl rfl dX2_dry_14 ?_
      refine K_getR C kin_X2 rfl (Nat.le_of_ble_eq_true rfl) (shC_8 G ad) 0 (by decide) (b := 9) rfl wf_X2_9 rfl dX2_dry_15 ?_
      refine K_iload_n C 2 rfl rfl dX2_dry_18 ?_
      refine K_iald C (Nat.le_of_ble_eq_true rfl) (shC_9 G ad) dX2_dry_19 ?_
      refine K_iconst C (v := (-1)) (by decide) dX2_dry_20 ?_
      refine K_icmp_ne C (tgt := 28) (by decide) dX2_dry_21 ?_ ?_
      · refine K_iload_n C 1 rfl rfl dX2_dry_28 ?_
        refine K_iadd C dX2_dry_29 ?_
        refine K_iast C (Nat.le_of_ble_eq_true rfl) (shC_11 G ad) dX2_dry_30 (fun g1 => ?_)
        refine K_iinc C (k := 2) (lv1 := fun x2_2 => [(2, .int x2_2), (0, .ref (kad (wC G ad) 8)), (1, .int x1)]) rfl (by decide) (fun _ => rfl) dX2_dry_31 (fun x2_2 => ?_)
        refine K_goto C (tgt := 2) (by decide) dX2_dry_34 ?_
        refine K_sub [1, 2, 0] rfl ?_
        exact ih g1 x1 x2_2
      · refine K_iconst C (v := 0) (by decide) dX2_dry_24 ?_
        refine K_goto C (tgt := 29) (by decide) dX2_dry_25 ?_
        refine K_iadd C dX2_dry_29 ?_
        refine K_iast C (Nat.le_of_ble_eq_true rfl) (shC_11 G ad) dX2_dry_30 (fun g3 => ?_)
        refine K_iinc C (k := 2) (lv1 := fun x2_4 => [(2, .int x2_4), (0, .ref (kad (wC G ad) 8)), (1, .int x1)]) rfl (by decide) (fun _ => rfl) dX2_dry_31 (fun x2_4 => ?_)
        refine K_goto C (tgt := 2) (by decide) dX2_dry_34 ?_
        refine K_sub [1, 2, 0] rfl ?_
        exact ih g3 x1 x2_4
set_option maxRecDepth 100000 in
set_option maxHeartbeats 4000000 in
theorem km_X2_dry (l : Launch) (G : kG) (ad : Nat → Nat) (f : kMem) (x1 : Int32) (r : Int32) (fo : kMem) (h : cf_X2_dry f x1 = some (r, fo)) : kMet l (wC G ad) yX2_dry cX2_dry 3 none 0 [.ref (kad (wC G ad) 8), .int x1] f r fo := by
  refine kMet_of (own := RX2) (lv := [(0, .ref (kad (wC G ad) 8)), (1, .int x1)]) (by decide) rfl (Nat.le_of_ble_eq_true rfl) rfl h ?_
  intro p e R s m args below meth c C
  unfold cf_X2_dry
  refine K_iconst C (v := 0) (by decide) dX2_dry_0 ?_
  refine K_istore_n C (lv1 := [(2, .int 0), (0, .ref (kad (wC G ad) 8)), (1, .int x1)]) rfl (by decide) rfl dX2_dry_1 ?_
  refine K_sub [1, 2, 0] rfl ?_
  exact kcl_X2_dry_2 C 100 f x1 0
def cf_X2_lackingMinutes (f : kMem) (x1 x2 : Int32) : Option (Int32 × kMem) := kchk (kin x1 3) (keq (f 9 (Int32.toNatClampNeg x1)) (-1) (some (0, f)) (kchk (kin x1 3) (some ((kmax 0 (x2 - (f 11 (Int32.toNatClampNeg x1)))), f))))
set_option maxRecDepth 100000 in
set_option maxHeartbeats 4000000 in
theorem km_X2_lackingMinutes (l : Launch) (G : kG) (ad : Nat → Nat) (f : kMem) (x1 x2 : Int32) (r : Int32) (fo : kMem) (h : cf_X2_lackingMinutes f x1 x2 = some (r, fo)) : kMet l (wC G ad) yX2_lackingMinutes cX2_lackingMinutes 3 (some .int) 1 [.ref (kad (wC G ad) 8), .int x1, .int x2] f r fo := by
  refine kMet_of (own := RX2) (lv := [(0, .ref (kad (wC G ad) 8)), (1, .int x1), (2, .int x2)]) (by decide) rfl (Nat.le_of_ble_eq_true rfl) rfl h ?_
  intro p e R s m args below meth c C
  unfold cf_X2_lackingMinutes
  refine K_aload_n C 0 rfl rfl dX2_lackingMinutes_0 ?_
  refine K_getR C kin_X2 rfl (Nat.le_of_ble_eq_true rfl) (shC_8 G ad) 0 (by decide) (b := 9) rfl wf_X2_9 rfl dX2_lackingMinutes_1 ?_
  refine K_iload_n C 1 rfl rfl dX2_lackingMinutes_4 ?_
  refine K_iald C (Nat.le_of_ble_eq_true rfl) (shC_9 G ad) dX2_lackingMinutes_5 ?_
  refine K_iconst C (v := (-1)) (by decide) dX2_lackingMinutes_6 ?_
  refine K_icmp_ne C (tgt := 14) (by decide) dX2_lackingMinutes_7 ?_ ?_
  · refine K_iconst C (v := 0) (by decide) dX2_lackingMinutes_14 ?_
    refine K_iload_n C 2 rfl rfl dX2_lackingMinutes_15 ?_
    refine K_aload_n C 0 rfl rfl dX2_lackingMinutes_16 ?_
    refine K_getR C kin_X2 rfl (Nat.le_of_ble_eq_true rfl) (shC_8 G ad) 2 (by decide) (b := 11) rfl wf_X2_18 rfl dX2_lackingMinutes_17 ?_
    refine K_iload_n C 1 rfl rfl dX2_lackingMinutes_20 ?_
    refine K_iald C (Nat.le_of_ble_eq_true rfl) (shC_11 G ad) dX2_lackingMinutes_21 ?_
    refine K_isub C dX2_lackingMinutes_22 ?_
    refine K_mmax C wm_X2_40 (by decide) ⟨Nat.le_refl _, Nat.le_refl _⟩ (Nat.le_of_ble_eq_true rfl) dX2_lackingMinutes_23 ?_
    exact K_ret C rfl rfl dX2_lackingMinutes_26
  · refine K_iconst C (v := 0) (by decide) dX2_lackingMinutes_10 ?_
    refine K_goto C (tgt := 26) (by decide) dX2_lackingMinutes_11 ?_
    exact K_ret C rfl rfl dX2_lackingMinutes_26
def cl_X2_lowestWith_2 : Nat → kMem → Int32 → Int32 → Option (Int32 × kMem)
  | 0, _, _, _ => none
  | n + 1, f, x1, x2 => kle 3 x2 (some ((-1), f)) (kchk (kin x2 3) (keq (f 9 (Int32.toNatClampNeg x2)) x1 (some (x2, f)) (klet (x2 + Int32.ofInt 1) (fun x2_1 => ((cl_X2_lowestWith_2 n) f x1 x2_1)))))
def cf_X2_lowestWith (f : kMem) (x1 : Int32) : Option (Int32 × kMem) := (cl_X2_lowestWith_2 100 f x1 0)
set_option maxRecDepth 100000 in
set_option maxHeartbeats 4000000 in
theorem kcl_X2_lowestWith_2 {p : Program} {l : Launch} {e : Env} {R : Room} {s : State} {m : MethodId} {args : Array Value} {below : List Frame} {meth : Method} {c : Code} {G : kG} {ad : Nat → Nat} {z : Int32 × kMem} (C : KC p l e R s m args below meth c (wC G ad) RX2 cX2_lowestWith 3 (some .int) 0 0 0)  : ∀ (n : Nat) (f : kMem) (x1 x2 : Int32), K p l e R s m args below meth c (wC G ad) 3 (kQF below (wC G ad) (some .int) args s z) z 0 0 f 2 [(0, .ref (kad (wC G ad) 8)), (1, .int x1), (2, .int x2)] [] (cl_X2_lowestWith_2 n f x1 x2) := by
  intro n
  induction n with
  | zero => intro f x1 x2; exact K_none
  | succ n ih =>
    intro f x1 x2
    unfold cl_X2_lowestWith_2
    refine K_iload_n C 2 rfl rfl dX2_lowestWith_2 ?_
    refine K_iconst C (v := 3) (by decide) dX2_lowestWith_3 ?_
    refine K_icmp_ge C (tgt := 25) (by decide) dX2_lowestWith_4 ?_ ?_
    · refine K_iconst C (v := (-1)) (by decide) dX2_lowestWith_25 ?_
      exact K_ret C rfl rfl dX2_lowestWith_26
    · refine K_aload_n C 0 rfl rfl dX2_lowestWith_7 ?_
      refine K_getR C kin_X2 rfl (Nat.le_of_ble_eq_true rfl) (shC_8 G ad) 0 (by decide) (b := 9) rfl wf_X2_9 rfl dX2_lowestWith_8 ?_
      refine K_iload_n C 2 rfl rfl dX2_lowestWith_11 ?_
      refine K_iald C (Nat.le_of_ble_eq_true rfl) (shC_9 G ad) dX2_lowestWith_12 ?_
      refine K_iload_n C 1 rfl rfl dX2_lowestWith_13 ?_
      refine K_icmp_ne C (tgt := 19) (by decide) dX2_lowestWith_14 ?_ ?_
      · refine K_iinc C (k := 2) (lv1 := fun x2_1 => [(2, .int x2_1), (0, .ref (kad (wC G ad) 8)), (1, .int x1)]) rfl (by decide) (fun _ => rfl) dX2_lowestWith_19 (fun x2_1 => ?_)
        refine K_goto C (tgt := 2) (by decide) dX2_lowestWith_22 ?_
        refine K_sub [1, 2, 0] rfl ?_
        exact ih f x1 x2_1
      · refine K_iload_n C 2 rfl rfl dX2_lowestWith_17 ?_
        exact K_ret C rfl rfl dX2_lowestWith_18
set_option maxRecDepth 100000 in
set_option maxHeartbeats 4000000 in
theorem km_X2_lowestWith (l : Launch) (G : kG) (ad : Nat → Nat) (f : kMem) (x1 : Int32) (r : Int32) (fo : kMem) (h : cf_X2_lowestWith f x1 = some (r, fo)) : kMet l (wC G ad) yX2_lowestWith cX2_lowestWith 3 (some .int) 0 [.ref (kad (wC G ad) 8), .int x1] f r fo := by
  refine kMet_of (own := RX2) (lv := [(0, .ref (kad (wC G ad) 8)), (1, .int x1)]) (by decide) rfl (Nat.le_of_ble_eq_true rfl) rfl h ?_
  intro p e R s m args below meth c C
  unfold cf_X2_lowestWith
  refine K_iconst C (v := 0) (by decide) dX2_lowestWith_0 ?_
  refine K_istore_n C (lv1 := [(2, .int 0), (0, .ref (kad (wC G ad) 8)), (1, .int x1)]) rfl (by decide) rfl dX2_lowestWith_1 ?_
  refine K_sub [1, 2, 0] rfl ?_
  exact kcl_X2_lowestWith_2 C 100 f x1 0
def cl_X2_lowestUsable_3 : Nat → kMem → Int32 → Int32 → Int32 → Int32 → Option (Int32 × kMem)
  | 0, _, _, _, _, _ => none
  | n + 1, f, x1, x2, x3, x4 => kle 3 x4 (some ((-1), f)) (kchk (kin x4 3) (keq (f 9 (Int32.toNatClampNeg x4)) x1 (kchk (kin x4 3) (klt (f 11 (Int32.toNatClampNeg x4)) x3 (klet (x4 + Int32.ofInt 1) (fun x4_2 => ((cl_X2_lowestUsable_3 n) f x1 x2 x3 x4_2))) (kchk (kin x4 3) (klt (f 10 (Int32.toNatClampNeg x4)) x2 (klet (x4 + Int32.ofInt 1) (fun x4_3 => ((cl_X2_lowestUsable_3 n) f x1 x2 x3 x4_3))) (some (x4, f)))))) (klet (x4 + Int32.ofInt 1) (fun x4_1 => ((cl_X2_lowestUsable_3 n) f x1 x2 x3 x4_1)))))
def cf_X2_lowestUsable (f : kMem) (x1 x2 x3 : Int32) : Option (Int32 × kMem) := (cl_X2_lowestUsable_3 100 f x1 x2 x3 0)
set_option maxRecDepth 100000 in
set_option maxHeartbeats 4000000 in
theorem kcl_X2_lowestUsable_3 {p : Program} {l : Launch} {e : Env} {R : Room} {s : State} {m : MethodId} {args : Array Value} {below : List Frame} {meth : Method} {c : Code} {G : kG} {ad : Nat → Nat} {z : Int32 × kMem} (C : KC p l e R s m args below meth c (wC G ad) RX2 cX2_lowestUsable 5 (some .int) 0 0 0)  : ∀ (n : Nat) (f : kMem) (x1 x2 x3 x4 : Int32), K p l e R s m args below meth c (wC G ad) 5 (kQF below (wC G ad) (some .int) args s z) z 0 0 f 3 [(0, .ref (kad (wC G ad) 8)), (1, .int x1), (2, .int x2), (3, .int x3), (4, .int x4)] [] (cl_X2_lowestUsable_3 n f x1 x2 x3 x4) := by
  intro n
  induction n with
  | zero => intro f x1 x2 x3 x4; exact K_none
  | succ n ih =>
    intro f x1 x2 x3 x4
    unfold cl_X2_lowestUsable_3
    refine K_iload C 4 rfl dX2_lowestUsable_3 ?_
    refine K_iconst C (v := 3) (by decide) dX2_lowestUsable_5 ?_
    refine K_icmp_ge C (tgt := 51) (by decide) dX2_lowestUsable_6 ?_ ?_
    · refine K_iconst C (v := (-1)) (by decide) dX2_lowestUsable_51 ?_
      exact K_ret C rfl rfl dX2_lowestUsable_52
    · refine K_aload_n C 0 rfl rfl dX2_lowestUsable_9 ?_
      refine K_getR C kin_X2 rfl (Nat.le_of_ble_eq_true rfl) (shC_8 G ad) 0 (by decide) (b := 9) rfl wf_X2_9 rfl dX2_lowestUsable_10 ?_
      refine K_iload C 4 rfl dX2_lowestUsable_13 ?_
      refine K_iald C (Nat.le_of_ble_eq_true rfl) (shC_9 G ad) dX2_lowestUsable_15 ?_
      refine K_iload_n C 1 rfl rfl dX2_lowestUsable_16 ?_
      refine K_icmp_ne C (tgt := 45) (by decide) dX2_lowestUsable_17 ?_ ?_
      · refine K_iinc C (k := 4) (lv1 := fun x4_1 => [(4, .int x4_1), (0, .ref (kad (wC G ad) 8)), (1, .int x1), (2, .int x2), (3, .int x3)]) rfl (by decide) (fun _ => rfl) dX2_lowestUsable_45 (fun x4_1 => ?_)
        refine K_goto C (tgt := 3) (by decide) dX2_lowestUsable_48 ?_
        refine K_sub [1, 2, 3, 4, 0] rfl ?_
        exact ih f x1 x2 x3 x4_1
      · refine K_aload_n C 0 rfl rfl dX2_lowestUsable_20 ?_
        refine K_getR C kin_X2 rfl (Nat.le_of_ble_eq_true rfl) (shC_8 G ad) 2 (by decide) (b := 11) rfl wf_X2_18 rfl dX2_lowestUsable_21 ?_
        refine K_iload C 4 rfl dX2_lowestUsable_24 ?_
        refine K_iald C (Nat.le_of_ble_eq_true rfl) (shC_11 G ad) dX2_lowestUsable_26 ?_
        refine K_iload_n C 3 rfl rfl dX2_lowestUsable_27 ?_
        refine K_icmp_lt C (tgt := 45) (by decide) dX2_lowestUsable_28 ?_ ?_
        · refine K_iinc C (k := 4) (lv1 := fun x4_2 => [(4, .int x4_2), (0, .ref (kad (wC G ad) 8)), (1, .int x1), (2, .int x2), (3, .int x3)]) rfl (by decide) (fun _ => rfl) dX2_lowestUsable_45 (fun x4_2 => ?_)
          refine K_goto C (tgt := 3) (by decide) dX2_lowestUsable_48 ?_
          refine K_sub [1, 2, 3, 4, 0] rfl ?_
          exact ih f x1 x2 x3 x4_2
        · refine K_aload_n C 0 rfl rfl dX2_lowestUsable_31 ?_
          refine K_getR C kin_X2 rfl (Nat.le_of_ble_eq_true rfl) (shC_8 G ad) 1 (by decide) (b := 10) rfl wf_X2_15 rfl dX2_lowestUsable_32 ?_
          refine K_iload C 4 rfl dX2_lowestUsable_35 ?_
          refine K_iald C (Nat.le_of_ble_eq_true rfl) (shC_10 G ad) dX2_lowestUsable_37 ?_
          refine K_iload_n C 2 rfl rfl dX2_lowestUsable_38 ?_
          refine K_icmp_lt C (tgt := 45) (by decide) dX2_lowestUsable_39 ?_ ?_
          · refine K_iinc C (k := 4) (lv1 := fun x4_3 => [(4, .int x4_3), (0, .ref (kad (wC G ad) 8)), (1, .int x1), (2, .int x2), (3, .int x3)]) rfl (by decide) (fun _ => rfl) dX2_lowestUsable_45 (fun x4_3 => ?_)
            refine K_goto C (tgt := 3) (by decide) dX2_lowestUsable_48 ?_
            refine K_sub [1, 2, 3, 4, 0] rfl ?_
            exact ih f x1 x2 x3 x4_3
          · refine K_iload C 4 rfl dX2_lowestUsable_42 ?_
            exact K_ret C rfl rfl dX2_lowestUsable_44
set_option maxRecDepth 100000 in
set_option maxHeartbeats 4000000 in
theorem km_X2_lowestUsable (l : Launch) (G : kG) (ad : Nat → Nat) (f : kMem) (x1 x2 x3 : Int32) (r : Int32) (fo : kMem) (h : cf_X2_lowestUsable f x1 x2 x3 = some (r, fo)) : kMet l (wC G ad) yX2_lowestUsable cX2_lowestUsable 5 (some .int) 0 [.ref (kad (wC G ad) 8), .int x1, .int x2, .int x3] f r fo := by
  refine kMet_of (own := RX2) (lv := [(0, .ref (kad (wC G ad) 8)), (1, .int x1), (2, .int x2), (3, .int x3)]) (by decide) rfl (Nat.le_of_ble_eq_true rfl) rfl h ?_
  intro p e R s m args below meth c C
  unfold cf_X2_lowestUsable
  refine K_iconst C (v := 0) (by decide) dX2_lowestUsable_0 ?_
  refine K_istore C (lv1 := [(4, .int 0), (0, .ref (kad (wC G ad) 8)), (1, .int x1), (2, .int x2), (3, .int x3)]) (by decide) rfl dX2_lowestUsable_1 ?_
  refine K_sub [1, 2, 3, 4, 0] rfl ?_
  exact kcl_X2_lowestUsable_3 C 100 f x1 x2 x3 0
def cl_X2_allGrams_4 : Nat → kMem → Int32 → Int32 → Option (Int32 × kMem)
  | 0, _, _, _ => none
  | n + 1, f, x1, x2 => kle 3 x2 (some (x1, f)) (kchk (kin x2 3) (klet (x1 + (f 10 (Int32.toNatClampNeg x2))) (fun x1_1 => klet (x2 + Int32.ofInt 1) (fun x2_2 => ((cl_X2_allGrams_4 n) f x1_1 x2_2)))))
def cf_X2_allGrams (f : kMem) : Option (Int32 × kMem) := (cl_X2_allGrams_4 100 f 0 0)
set_option maxRecDepth 100000 in
set_option maxHeartbeats 4000000 in
theorem kcl_X2_allGrams_4 {p : Program} {l : Launch} {e : Env} {R : Room} {s : State} {m : MethodId} {args : Array Value} {below : List Frame} {meth : Method} {c : Code} {G : kG} {ad : Nat → Nat} {z : Int32 × kMem} (C : KC p l e R s m args below meth c (wC G ad) RX2 cX2_allGrams 3 (some .int) 0 0 0)  : ∀ (n : Nat) (f : kMem) (x1 x2 : Int32), K p l e R s m args below meth c (wC G ad) 3 (kQF below (wC G ad) (some .int) args s z) z 0 0 f 4 [(0, .ref (kad (wC G ad) 8)), (1, .int x1), (2, .int x2)] [] (cl_X2_allGrams_4 n f x1 x2) := by
  intro n
  induction n with
  | zero => intro f x1 x2; exact K_none
  | succ n ih =>
    intro f x1 x2
    unfold cl_X2_allGrams_4
    refine K_iload_n C 2 rfl rfl dX2_allGrams_4 ?_
    refine K_iconst C (v := 3) (by decide) dX2_allGrams_5 ?_
    refine K_icmp_ge C (tgt := 24) (by decide) dX2_allGrams_6 ?_ ?_
    · refine K_iload_n C 1 rfl rfl dX2_allGrams_24 ?_
      exact K_ret C rfl rfl dX2_allGrams_25
    · refine K_iload_n C 1 rfl rfl dX2_allGrams_9 ?_
      refine K_aload_n C 0 rfl rfl dX2_allGrams_10 ?_
      refine K_getR C kin_X2 rfl (Nat.le_of_ble_eq_true rfl) (shC_8 G ad) 1 (by decide) (b := 10) rfl wf_X2_15 rfl dX2_allGrams_11 ?_
      refine K_iload_n C 2 rfl rfl dX2_allGrams_14 ?_
      refine K_iald C (Nat.le_of_ble_eq_true rfl) (shC_10 G ad) dX2_allGrams_15 ?_
      refine K_iadd C dX2_allGrams_16 ?_
      refine K_let rfl (fun x1_1 => ?_)
      refine K_istore_n C (lv1 := [(1, .int x1_1), (0, .ref (kad (wC G ad) 8)), (2, .int x2)]) rfl (by decide) rfl dX2_allGrams_17 ?_
      refine K_iinc C (k := 2) (lv1 := fun x2_2 => [(2, .int x2_2), (1, .int x1_1), (0, .ref (kad (wC G ad) 8))]) rfl (by decide) (fun _ => rfl) dX2_allGrams_18 (fun x2_2 => ?_)
      refine K_goto C (tgt := 4) (by decide) dX2_allGrams_21 ?_
      refine K_sub [2, 1, 0] rfl ?_
      exact ih f x1_1 x2_2
set_option maxRecDepth 100000 in
set_option maxHeartbeats 4000000 in
theorem km_X2_allGrams (l : Launch) (G : kG) (ad : Nat → Nat) (f : kMem) (r : Int32) (fo : kMem) (h : cf_X2_allGrams f = some (r, fo)) : kMet l (wC G ad) yX2_allGrams cX2_allGrams 3 (some .int) 0 [.ref (kad (wC G ad) 8)] f r fo := by
  refine kMet_of (own := RX2) (lv := [(0, .ref (kad (wC G ad) 8))]) (by decide) rfl (Nat.le_of_ble_eq_true rfl) rfl h ?_
  intro p e R s m args below meth c C
  unfold cf_X2_allGrams
  refine K_iconst C (v := 0) (by decide) dX2_allGrams_0 ?_
  refine K_istore_n C (lv1 := [(1, .int 0), (0, .ref (kad (wC G ad) 8))]) rfl (by decide) rfl dX2_allGrams_1 ?_
  refine K_iconst C (v := 0) (by decide) dX2_allGrams_2 ?_
  refine K_istore_n C (lv1 := [(2, .int 0), (1, .int 0), (0, .ref (kad (wC G ad) 8))]) rfl (by decide) rfl dX2_allGrams_3 ?_
  refine K_sub [2, 1, 0] rfl ?_
  exact kcl_X2_allGrams_4 C 100 f 0 0
def cf_X3_isHeadRead (f : kMem) : Option (Int32 × kMem) := kmem (kup f 282 2 0) (fun g1 => kbind (cf_X10_number g1 2) (fun r2 g3 => kmem (kup g3 282 3 r2) (fun g4 => keq (g4 282 3) (-1) (some (0, g4)) (kbind (cf_X10_skip g4 32) (fun r5 g6 => keq r5 0 (some (0, g6)) (kbind (cf_X10_number g6 3) (fun r7 g8 => kmem (kup g8 282 4 r7) (fun g9 => keq (g9 282 4) (-1) (some (0, g9)) (some (1, g9))))))))))
set_option maxRecDepth 100000 in
set_option maxHeartbeats 4000000 in
theorem km_X3_isHeadRead (l : Launch) (G : kG) (ad : Nat → Nat) (f : kMem) (r : Int32) (fo : kMem) (h : cf_X3_isHeadRead f = some (r, fo)) : kMet l (wC G ad) yX3_isHeadRead cX3_isHeadRead 2 (some .boolean) 2 [.ref (kad (wC G ad) 282), .ref (kad (wC G ad) 280)] f r fo := by
  refine kMet_of (own := RX3) (lv := [(0, .ref (kad (wC G ad) 282)), (1, .ref (kad (wC G ad) 280))]) (by decide) rfl (Nat.le_of_ble_eq_true rfl) rfl h ?_
  intro p e R s m args below meth c C
  unfold cf_X3_isHeadRead
  refine K_aload_n C 0 rfl rfl dX3_isHeadRead_0 ?_
  refine K_iconst C (v := 0) (by decide) dX3_isHeadRead_1 ?_
  refine K_putI C kin_X3 rfl (Nat.le_of_ble_eq_true rfl) (shC_282 G ad) 2 (by decide) rfl wf_X3_37 rfl tyX3 tyX3_ok nmX3 (by decide) (ty := .int) (by decide +kernel) rfl rfl dX3_isHeadRead_2 (fun g1 => ?_)
  refine K_aload_n C 0 rfl rfl dX3_isHeadRead_5 ?_
  refine K_aload_n C 1 rfl rfl dX3_isHeadRead_6 ?_
  refine K_iconst C (v := 2) (by decide) dX3_isHeadRead_7 ?_
  refine K_callVi C (As := [.int 2]) (rest := [.ref (kad (wC G ad) 282)]) (Nat.le_of_ble_eq_true rfl) (shC_280 G ad) rfl hy_X10_number wm_X3_41 (by decide) ⟨Nat.le_refl _, Nat.le_refl _⟩ (fun rr ff hh => km_X10_number l G ad g1 2 rr ff hh) rfl rfl (Nat.le_of_ble_eq_true rfl) rfl dX3_isHeadRead_8 (fun r2 g3 => ?_)
  refine K_putI C kin_X3 rfl (Nat.le_of_ble_eq_true rfl) (shC_282 G ad) 3 (by decide) rfl wf_X3_45 rfl tyX3 tyX3_ok nmX3 (by decide) (ty := .int) (by decide +kernel) rfl rfl dX3_isHeadRead_11 (fun g4 => ?_)
  refine K_aload_n C 0 rfl rfl dX3_isHeadRead_14 ?_
  refine K_getI C kin_X3 rfl (Nat.le_of_ble_eq_true rfl) (shC_282 G ad) 3 (by decide) rfl wf_X3_45 rfl dX3_isHeadRead_15 ?_
  refine K_iconst C (v := (-1)) (by decide) dX3_isHeadRead_18 ?_
  refine K_icmp_eq C (tgt := 31) (by decide) dX3_isHeadRead_19 ?_ ?_
  · refine K_iconst C (v := 0) (by decide) dX3_isHeadRead_31 ?_
    exact K_ret C rfl (by decide) dX3_isHeadRead_32
  · refine K_aload_n C 1 rfl rfl dX3_isHeadRead_22 ?_
    refine K_bipush C (v := 32) (by decide) dX3_isHeadRead_23 ?_
    refine K_callVi C (As := [.int 32]) (rest := []) (Nat.le_of_ble_eq_true rfl) (shC_280 G ad) rfl hy_X10_skip wm_X3_48 (by decide) ⟨Nat.le_refl _, Nat.le_refl _⟩ (fun rr ff hh => km_X10_skip l G ad g4 32 rr ff hh) rfl rfl (Nat.le_of_ble_eq_true rfl) rfl dX3_isHeadRead_25 (fun r5 g6 => ?_)
    refine K_if_ne C (tgt := 33) (by decide) dX3_isHeadRead_28 ?_ ?_
    · refine K_aload_n C 0 rfl rfl dX3_isHeadRead_33 ?_
      refine K_aload_n C 1 rfl rfl dX3_isHeadRead_34 ?_
      refine K_iconst C (v := 3) (by decide) dX3_isHeadRead_35 ?_
      refine K_callVi C (As := [.int 3]) (rest := [.ref (kad (wC G ad) 282)]) (Nat.le_of_ble_eq_true rfl) (shC_280 G ad) rfl hy_X10_number wm_X3_41 (by decide) ⟨Nat.le_refl _, Nat.le_refl _⟩ (fun rr ff hh => km_X10_number l G ad g6 3 rr ff hh) rfl rfl (Nat.le_of_ble_eq_true rfl) rfl dX3_isHeadRead_36 (fun r7 g8 => ?_)
      refine K_putI C kin_X3 rfl (Nat.le_of_ble_eq_true rfl) (shC_282 G ad) 4 (by decide) rfl wf_X3_52 rfl tyX3 tyX3_ok nmX3 (by decide) (ty := .int) (by decide +kernel) rfl rfl dX3_isHeadRead_39 (fun g9 => ?_)
      refine K_aload_n C 0 rfl rfl dX3_isHeadRead_42 ?_
      refine K_getI C kin_X3 rfl (Nat.le_of_ble_eq_true rfl) (shC_282 G ad) 4 (by decide) rfl wf_X3_52 rfl dX3_isHeadRead_43 ?_
      refine K_iconst C (v := (-1)) (by decide) dX3_isHeadRead_46 ?_
      refine K_icmp_eq C (tgt := 54) (by decide) dX3_isHeadRead_47 ?_ ?_
      · refine K_iconst C (v := 0) (by decide) dX3_isHeadRead_54 ?_
        exact K_ret C rfl (by decide) dX3_isHeadRead_55
      · refine K_iconst C (v := 1) (by decide) dX3_isHeadRead_50 ?_
        refine K_goto C (tgt := 55) (by decide) dX3_isHeadRead_51 ?_
        exact K_ret C rfl (by decide) dX3_isHeadRead_55
    · refine K_iconst C (v := 0) (by decide) dX3_isHeadRead_31 ?_
      exact K_ret C rfl (by decide) dX3_isHeadRead_32
def cf_X3_isPartRead (f : kMem) : Option (Int32 × kMem) := kle 3 (f 282 2) (some (0, f)) (kbind (cf_X10_skip f 32) (fun r1 g2 => keq r1 0 (some (0, g2)) (kbind (cf_X10_number g2 1) (fun r3 g4 => kchk (kin (g2 282 2) 3) (kmem (kup g4 283 (Int32.toNatClampNeg (g2 282 2)) r3) (fun g5 => kchk (kin (g5 282 2) 3) (keq (g5 283 (Int32.toNatClampNeg (g5 282 2))) (-1) (some (0, g5)) (kbind (cf_X10_skip g5 120) (fun r6 g7 => keq r6 0 (some (0, g7)) (kbind (cf_X10_number g7 1) (fun r8 g9 => kchk (kin (g7 282 2) 3) (kmem (kup g9 284 (Int32.toNatClampNeg (g7 282 2)) r8) (fun g10 => kmem (kup g10 282 2 ((g10 282 2) + 1)) (fun g11 => kchk (kin ((g11 282 2) - 1) 3) (keq (g11 284 (Int32.toNatClampNeg ((g11 282 2) - 1))) (-1) (some (0, g11)) (some (1, g11)))))))))))))))))
set_option maxRecDepth 100000 in
set_option maxHeartbeats 4000000 in
theorem km_X3_isPartRead (l : Launch) (G : kG) (ad : Nat → Nat) (f : kMem) (r : Int32) (fo : kMem) (h : cf_X3_isPartRead f = some (r, fo)) : kMet l (wC G ad) yX3_isPartRead cX3_isPartRead 2 (some .boolean) 2 [.ref (kad (wC G ad) 282), .ref (kad (wC G ad) 280)] f r fo := by
  refine kMet_of (own := RX3) (lv := [(0, .ref (kad (wC G ad) 282)), (1, .ref (kad (wC G ad) 280))]) (by decide) rfl (Nat.le_of_ble_eq_true rfl) rfl h ?_
  intro p e R s m args below meth c C
  unfold cf_X3_isPartRead
  refine K_aload_n C 0 rfl rfl dX3_isPartRead_0 ?_
  refine K_getI C kin_X3 rfl (Nat.le_of_ble_eq_true rfl) (shC_282 G ad) 2 (by decide) rfl wf_X3_37 rfl dX3_isPartRead_1 ?_
  refine K_iconst C (v := 3) (by decide) dX3_isPartRead_4 ?_
  refine K_icmp_ge C (tgt := 17) (by decide) dX3_isPartRead_5 ?_ ?_
  · refine K_iconst C (v := 0) (by decide) dX3_isPartRead_17 ?_
    exact K_ret C rfl (by decide) dX3_isPartRead_18
  · refine K_aload_n C 1 rfl rfl dX3_isPartRead_8 ?_
    refine K_bipush C (v := 32) (by decide) dX3_isPartRead_9 ?_
    refine K_callVi C (As := [.int 32]) (rest := []) (Nat.le_of_ble_eq_true rfl) (shC_280 G ad) rfl hy_X10_skip wm_X3_48 (by decide) ⟨Nat.le_refl _, Nat.le_refl _⟩ (fun rr ff hh => km_X10_skip l G ad f 32 rr ff hh) rfl rfl (Nat.le_of_ble_eq_true rfl) rfl dX3_isPartRead_11 (fun r1 g2 => ?_)
    refine K_if_ne C (tgt := 19) (by decide) dX3_isPartRead_14 ?_ ?_
    · refine K_aload_n C 0 rfl rfl dX3_isPartRead_19 ?_
      refine K_getR C kin_X3 rfl (Nat.le_of_ble_eq_true rfl) (shC_282 G ad) 0 (by decide) (b := 283) rfl wf_X3_9 rfl dX3_isPartRead_20 ?_
      refine K_aload_n C 0 rfl rfl dX3_isPartRead_23 ?_
      refine K_getI C kin_X3 rfl (Nat.le_of_ble_eq_true rfl) (shC_282 G ad) 2 (by decide) rfl wf_X3_37 rfl dX3_isPartRead_24 ?_
      refine K_aload_n C 1 rfl rfl dX3_isPartRead_27 ?_
      refine K_iconst C (v := 1) (by decide) dX3_isPartRead_28 ?_
      refine K_callVi C (As := [.int 1]) (rest := [.int (g2 282 2), .ref (kad (wC G ad) 283)]) (Nat.le_of_ble_eq_true rfl) (shC_280 G ad) rfl hy_X10_number wm_X3_41 (by decide) ⟨Nat.le_refl _, Nat.le_refl _⟩ (fun rr ff hh => km_X10_number l G ad g2 1 rr ff hh) rfl rfl (Nat.le_of_ble_eq_true rfl) rfl dX3_isPartRead_29 (fun r3 g4 => ?_)
      refine K_iast C (Nat.le_of_ble_eq_true rfl) (shC_283 G ad) dX3_isPartRead_32 (fun g5 => ?_)
      refine K_aload_n C 0 rfl rfl dX3_isPartRead_33 ?_
      refine K_getR C kin_X3 rfl (Nat.le_of_ble_eq_true rfl) (shC_282 G ad) 0 (by decide) (b := 283) rfl wf_X3_9 rfl dX3_isPartRead_34 ?_
      refine K_aload_n C 0 rfl rfl dX3_isPartRead_37 ?_
      refine K_getI C kin_X3 rfl (Nat.le_of_ble_eq_true rfl) (shC_282 G ad) 2 (by decide) rfl wf_X3_37 rfl dX3_isPartRead_38 ?_
      refine K_iald C (Nat.le_of_ble_eq_true rfl) (shC_283 G ad) dX3_isPartRead_41 ?_
      refine K_iconst C (v := (-1)) (by decide) dX3_isPartRead_42 ?_
      refine K_icmp_eq C (tgt := 55) (by decide) dX3_isPartRead_43 ?_ ?_
      · refine K_iconst C (v := 0) (by decide) dX3_isPartRead_55 ?_
        exact K_ret C rfl (by decide) dX3_isPartRead_56
      · refine K_aload_n C 1 rfl rfl dX3_isPartRead_46 ?_
        refine K_bipush C (v := 120) (by decide) dX3_isPartRead_47 ?_
        refine K_callVi C (As := [.int 120]) (rest := []) (Nat.le_of_ble_eq_true rfl) (shC_280 G ad) rfl hy_X10_skip wm_X3_48 (by decide) ⟨Nat.le_refl _, Nat.le_refl _⟩ (fun rr ff hh => km_X10_skip l G ad g5 120 rr ff hh) rfl rfl (Nat.le_of_ble_eq_true rfl) rfl dX3_isPartRead_49 (fun r6 g7 => ?_)
        refine K_if_ne C (tgt := 57) (by decide) dX3_isPartRead_52 ?_ ?_
        · refine K_aload_n C 0 rfl rfl dX3_isPartRead_57 ?_
          refine K_getR C kin_X3 rfl (Nat.le_of_ble_eq_true rfl) (shC_282 G ad) 1 (by decide) (b := 284) rfl wf_X3_15 rfl dX3_isPartRead_58 ?_
          refine K_aload_n C 0 rfl rfl dX3_isPartRead_61 ?_
          refine K_getI C kin_X3 rfl (Nat.le_of_ble_eq_true rfl) (shC_282 G ad) 2 (by decide) rfl wf_X3_37 rfl dX3_isPartRead_62 ?_
          refine K_aload_n C 1 rfl rfl dX3_isPartRead_65 ?_
          refine K_iconst C (v := 1) (by decide) dX3_isPartRead_66 ?_
          refine K_callVi C (As := [.int 1]) (rest := [.int (g7 282 2), .ref (kad (wC G ad) 284)]) (Nat.le_of_ble_eq_true rfl) (shC_280 G ad) rfl hy_X10_number wm_X3_41 (by decide) ⟨Nat.le_refl _, Nat.le_refl _⟩ (fun rr ff hh => km_X10_number l G ad g7 1 rr ff hh) rfl rfl (Nat.le_of_ble_eq_true rfl) rfl dX3_isPartRead_67 (fun r8 g9 => ?_)
          refine K_iast C (Nat.le_of_ble_eq_true rfl) (shC_284 G ad) dX3_isPartRead_70 (fun g10 => ?_)
          refine K_aload_n C 0 rfl rfl dX3_isPartRead_71 ?_
          refine K_dup C rfl dX3_isPartRead_72 ?_
          refine K_getI C kin_X3 rfl (Nat.le_of_ble_eq_true rfl) (shC_282 G ad) 2 (by decide) rfl wf_X3_37 rfl dX3_isPartRead_73 ?_
          refine K_iconst C (v := 1) (by decide) dX3_isPartRead_76 ?_
          refine K_iadd C dX3_isPartRead_77 ?_
          refine K_putI C kin_X3 rfl (Nat.le_of_ble_eq_true rfl) (shC_282 G ad) 2 (by decide) rfl wf_X3_37 rfl tyX3 tyX3_ok nmX3 (by decide) (ty := .int) (by decide +kernel) rfl rfl dX3_isPartRead_78 (fun g11 => ?_)
          refine K_aload_n C 0 rfl rfl dX3_isPartRead_81 ?_
          refine K_getR C kin_X3 rfl (Nat.le_of_ble_eq_true rfl) (shC_282 G ad) 1 (by decide) (b := 284) rfl wf_X3_15 rfl dX3_isPartRead_82 ?_
          refine K_aload_n C 0 rfl rfl dX3_isPartRead_85 ?_
          refine K_getI C kin_X3 rfl (Nat.le_of_ble_eq_true rfl) (shC_282 G ad) 2 (by decide) rfl wf_X3_37 rfl dX3_isPartRead_86 ?_
          refine K_iconst C (v := 1) (by decide) dX3_isPartRead_89 ?_
          refine K_isub C dX3_isPartRead_90 ?_
          refine K_iald C (Nat.le_of_ble_eq_true rfl) (shC_284 G ad) dX3_isPartRead_91 ?_
          refine K_iconst C (v := (-1)) (by decide) dX3_isPartRead_92 ?_
          refine K_icmp_eq C (tgt := 100) (by decide) dX3_isPartRead_93 ?_ ?_
          · refine K_iconst C (v := 0) (by decide) dX3_isPartRead_100 ?_
            exact K_ret C rfl (by decide) dX3_isPartRead_101
          · refine K_iconst C (v := 1) (by decide) dX3_isPartRead_96 ?_
            refine K_goto C (tgt := 101) (by decide) dX3_isPartRead_97 ?_
            exact K_ret C rfl (by decide) dX3_isPartRead_101
        · refine K_iconst C (v := 0) (by decide) dX3_isPartRead_55 ?_
          exact K_ret C rfl (by decide) dX3_isPartRead_56
    · refine K_iconst C (v := 0) (by decide) dX3_isPartRead_17 ?_
      exact K_ret C rfl (by decide) dX3_isPartRead_18
def cl_X3_isTailRead_2 (Y30 : kMem → Option (Int32 × kMem)) : Nat → kMem → Int32 → Option (Int32 × kMem)
  | 0, _, _ => none
  | n + 1, f, x2 => kle 3 x2 ((Y30 f)) (kbind (cf_X10_isAtEnd f) (fun r1 g2 => keq r1 0 (kbind (cf_X3_isPartRead g2) (fun r3 g4 => keq r3 0 (some (0, g4)) (klet (x2 + Int32.ofInt 1) (fun x2_5 => ((cl_X3_isTailRead_2 Y30 n) g4 x2_5))))) ((Y30 g2))))
def cj_X3_isTailRead_30 (f : kMem) : Option (Int32 × kMem) := kbind (cf_X10_isAtEnd f) (fun r7 g8 => kchk (kbool r7) (some (r7, g8)))
def cf_X3_isTailRead (f : kMem) : Option (Int32 × kMem) := (cl_X3_isTailRead_2 (fun g6 => (cj_X3_isTailRead_30 g6)) 100 f 1)
set_option maxRecDepth 100000 in
set_option maxHeartbeats 4000000 in
theorem kcl_X3_isTailRead_2 {p : Program} {l : Launch} {e : Env} {R : Room} {s : State} {m : MethodId} {args : Array Value} {below : List Frame} {meth : Method} {c : Code} {G : kG} {ad : Nat → Nat} {z : Int32 × kMem} (C : KC p l e R s m args below meth c (wC G ad) RX3 cX3_isTailRead 3 (some .boolean) 3 0 0) (Y30 : kMem → Option (Int32 × kMem)) (hY30 : ∀ (f : kMem), K p l e R s m args below meth c (wC G ad) 3 (kQF below (wC G ad) (some .boolean) args s z) z 0 0 f 30 [(1, .ref (kad (wC G ad) 280))] [] (Y30 f)) : ∀ (n : Nat) (f : kMem) (x2 : Int32), K p l e R s m args below meth c (wC G ad) 3 (kQF below (wC G ad) (some .boolean) args s z) z 0 0 f 2 [(0, .ref (kad (wC G ad) 282)), (1, .ref (kad (wC G ad) 280)), (2, .int x2)] [] (cl_X3_isTailRead_2 Y30 n f x2) := by
  intro n
  induction n with
  | zero => intro f x2; exact K_none
  | succ n ih =>
    intro f x2
    unfold cl_X3_isTailRead_2
    refine K_iload_n C 2 rfl rfl dX3_isTailRead_2 ?_
    refine K_iconst C (v := 3) (by decide) dX3_isTailRead_3 ?_
    refine K_icmp_ge C (tgt := 30) (by decide) dX3_isTailRead_4 ?_ ?_
    · refine K_sub [1] rfl ?_
      exact hY30 f
    · refine K_aload_n C 1 rfl rfl dX3_isTailRead_7 ?_
      refine K_callVi C (As := []) (rest := []) (Nat.le_of_ble_eq_true rfl) (shC_280 G ad) rfl hy_X10_isAtEnd wm_X3_55 (by decide) ⟨Nat.le_refl _, Nat.le_refl _⟩ (fun rr ff hh => km_X10_isAtEnd l G ad f rr ff hh) rfl rfl (Nat.le_of_ble_eq_true rfl) rfl dX3_isTailRead_8 (fun r1 g2 => ?_)
      refine K_if_ne C (tgt := 30) (by decide) dX3_isTailRead_11 ?_ ?_
      · refine K_sub [1] rfl ?_
        exact hY30 g2
      · refine K_aload_n C 0 rfl rfl dX3_isTailRead_14 ?_
        refine K_aload_n C 1 rfl rfl dX3_isTailRead_15 ?_
        refine K_callVi C (As := [.ref (kad (wC G ad) 280)]) (rest := []) (Nat.le_of_ble_eq_true rfl) (shC_282 G ad) rfl hy_X3_isPartRead wm_X3_27 (by decide) ⟨Nat.le_refl _, Nat.le_refl _⟩ (fun rr ff hh => km_X3_isPartRead l G ad g2 rr ff hh) rfl rfl (Nat.le_of_ble_eq_true rfl) rfl dX3_isTailRead_16 (fun r3 g4 => ?_)
        refine K_if_ne C (tgt := 24) (by decide) dX3_isTailRead_19 ?_ ?_
        · refine K_iinc C (k := 2) (lv1 := fun x2_5 => [(2, .int x2_5), (0, .ref (kad (wC G ad) 282)), (1, .ref (kad (wC G ad) 280))]) rfl (by decide) (fun _ => rfl) dX3_isTailRead_24 (fun x2_5 => ?_)
          refine K_goto C (tgt := 2) (by decide) dX3_isTailRead_27 ?_
          refine K_sub [1, 2, 0] rfl ?_
          exact ih g4 x2_5
        · refine K_iconst C (v := 0) (by decide) dX3_isTailRead_22 ?_
          exact K_ret C rfl (by decide) dX3_isTailRead_23
set_option maxRecDepth 100000 in
set_option maxHeartbeats 4000000 in
theorem kcj_X3_isTailRead_30 {p : Program} {l : Launch} {e : Env} {R : Room} {s : State} {m : MethodId} {args : Array Value} {below : List Frame} {meth : Method} {c : Code} {G : kG} {ad : Nat → Nat} {z : Int32 × kMem} (C : KC p l e R s m args below meth c (wC G ad) RX3 cX3_isTailRead 3 (some .boolean) 3 0 0)  (f : kMem) : K p l e R s m args below meth c (wC G ad) 3 (kQF below (wC G ad) (some .boolean) args s z) z 0 0 f 30 [(1, .ref (kad (wC G ad) 280))] [] (cj_X3_isTailRead_30 f) := by
  unfold cj_X3_isTailRead_30
  refine K_aload_n C 0 rfl rfl dX3_isTailRead_30 ?_
  refine K_callVi C (As := []) (rest := []) (Nat.le_of_ble_eq_true rfl) (shC_280 G ad) rfl hy_X10_isAtEnd wm_X3_55 (by decide) ⟨Nat.le_refl _, Nat.le_refl _⟩ (fun rr ff hh => km_X10_isAtEnd l G ad f rr ff hh) rfl rfl (Nat.le_of_ble_eq_true rfl) rfl dX3_isTailRead_31 (fun r7 g8 => ?_)
  exact K_bret C rfl dX3_isTailRead_34
set_option maxRecDepth 100000 in
set_option maxHeartbeats 4000000 in
theorem km_X3_isTailRead (l : Launch) (G : kG) (ad : Nat → Nat) (f : kMem) (r : Int32) (fo : kMem) (h : cf_X3_isTailRead f = some (r, fo)) : kMet l (wC G ad) yX3_isTailRead cX3_isTailRead 3 (some .boolean) 3 [.ref (kad (wC G ad) 282), .ref (kad (wC G ad) 280)] f r fo := by
  refine kMet_of (own := RX3) (lv := [(0, .ref (kad (wC G ad) 282)), (1, .ref (kad (wC G ad) 280))]) (by decide) rfl (Nat.le_of_ble_eq_true rfl) rfl h ?_
  intro p e R s m args below meth c C
  unfold cf_X3_isTailRead
  refine K_iconst C (v := 1) (by decide) dX3_isTailRead_0 ?_
  refine K_istore_n C (lv1 := [(2, .int 1), (0, .ref (kad (wC G ad) 282)), (1, .ref (kad (wC G ad) 280))]) rfl (by decide) rfl dX3_isTailRead_1 ?_
  refine K_sub [1, 2, 0] rfl ?_
  refine kcl_X3_isTailRead_2 C _ (fun g6 => ?_) 100 f 1
  exact kcj_X3_isTailRead_30 C g6
def cj_X3_isReadFrom_34 (f : kMem) (t0 : Int32) : Option (Int32 × kMem) := kbind (cf_X10_end f t0) (fun r5 g6 => kchk (kbool r5) (some (r5, g6)))
def cj_X3_isReadFrom_33 (f : kMem) : Option (Int32 × kMem) := (cj_X3_isReadFrom_34 f 0)
def cf_X3_isReadFrom (f : kMem) : Option (Int32 × kMem) := kbind (cf_X10_start f) (fun r1 g2 => kbind (cf_X3_isHeadRead g2) (fun r3 g4 => keq r3 0 ((cj_X3_isReadFrom_33 g4)) (kbind (cf_X3_isPartRead g4) (fun r7 g8 => keq r7 0 ((cj_X3_isReadFrom_33 g8)) (kbind (cf_X3_isTailRead g8) (fun r9 g10 => keq r9 0 ((cj_X3_isReadFrom_33 g10)) ((cj_X3_isReadFrom_34 g10 1))))))))
set_option maxRecDepth 100000 in
set_option maxHeartbeats 4000000 in
theorem kcj_X3_isReadFrom_34 {p : Program} {l : Launch} {e : Env} {R : Room} {s : State} {m : MethodId} {args : Array Value} {below : List Frame} {meth : Method} {c : Code} {G : kG} {ad : Nat → Nat} {z : Int32 × kMem} (C : KC p l e R s m args below meth c (wC G ad) RX3 cX3_isReadFrom 2 (some .boolean) 4 0 0)  (f : kMem) (t0 : Int32) : K p l e R s m args below meth c (wC G ad) 2 (kQF below (wC G ad) (some .boolean) args s z) z 0 0 f 34 [] [.int t0, .ref (kad (wC G ad) 280)] (cj_X3_isReadFrom_34 f t0) := by
  unfold cj_X3_isReadFrom_34
  refine K_callVi C (As := [.int t0]) (rest := []) (Nat.le_of_ble_eq_true rfl) (shC_280 G ad) rfl hy_X10_end wm_X3_33 (by decide) ⟨Nat.le_refl _, Nat.le_refl _⟩ (fun rr ff hh => km_X10_end l G ad f t0 rr ff hh) rfl rfl (Nat.le_of_ble_eq_true rfl) rfl dX3_isReadFrom_34 (fun r5 g6 => ?_)
  exact K_bret C rfl dX3_isReadFrom_37
set_option maxRecDepth 100000 in
set_option maxHeartbeats 4000000 in
theorem kcj_X3_isReadFrom_33 {p : Program} {l : Launch} {e : Env} {R : Room} {s : State} {m : MethodId} {args : Array Value} {below : List Frame} {meth : Method} {c : Code} {G : kG} {ad : Nat → Nat} {z : Int32 × kMem} (C : KC p l e R s m args below meth c (wC G ad) RX3 cX3_isReadFrom 2 (some .boolean) 4 0 0)  (f : kMem) : K p l e R s m args below meth c (wC G ad) 2 (kQF below (wC G ad) (some .boolean) args s z) z 0 0 f 33 [] [.ref (kad (wC G ad) 280)] (cj_X3_isReadFrom_33 f) := by
  unfold cj_X3_isReadFrom_33
  refine K_iconst C (v := 0) (by decide) dX3_isReadFrom_33 ?_
  exact kcj_X3_isReadFrom_34 C f 0
set_option maxRecDepth 100000 in
set_option maxHeartbeats 4000000 in
theorem km_X3_isReadFrom (l : Launch) (G : kG) (ad : Nat → Nat) (f : kMem) (r : Int32) (fo : kMem) (h : cf_X3_isReadFrom f = some (r, fo)) : kMet l (wC G ad) yX3_isReadFrom cX3_isReadFrom 2 (some .boolean) 4 [.ref (kad (wC G ad) 282), .ref (kad (wC G ad) 280)] f r fo := by
  refine kMet_of (own := RX3) (lv := [(0, .ref (kad (wC G ad) 282)), (1, .ref (kad (wC G ad) 280))]) (by decide) rfl (Nat.le_of_ble_eq_true rfl) rfl h ?_
  intro p e R s m args below meth c C
  unfold cf_X3_isReadFrom
  refine K_aload_n C 1 rfl rfl dX3_isReadFrom_0 ?_
  refine K_callVv C (As := []) (rest := []) (Nat.le_of_ble_eq_true rfl) (shC_280 G ad) rfl hy_X10_start wm_X3_18 (by decide) ⟨Nat.le_refl _, Nat.le_refl _⟩ (fun rr ff hh => km_X10_start l G ad f rr ff hh) rfl rfl (Nat.le_of_ble_eq_true rfl) rfl dX3_isReadFrom_1 (fun r1 g2 => ?_)
  refine K_aload_n C 1 rfl rfl dX3_isReadFrom_4 ?_
  refine K_aload_n C 0 rfl rfl dX3_isReadFrom_5 ?_
  refine K_aload_n C 1 rfl rfl dX3_isReadFrom_6 ?_
  refine K_callVi C (As := [.ref (kad (wC G ad) 280)]) (rest := [.ref (kad (wC G ad) 280)]) (Nat.le_of_ble_eq_true rfl) (shC_282 G ad) rfl hy_X3_isHeadRead wm_X3_23 (by decide) ⟨Nat.le_refl _, Nat.le_refl _⟩ (fun rr ff hh => km_X3_isHeadRead l G ad g2 rr ff hh) rfl rfl (Nat.le_of_ble_eq_true rfl) rfl dX3_isReadFrom_7 (fun r3 g4 => ?_)
  refine K_if_eq C (tgt := 33) (by decide) dX3_isReadFrom_10 ?_ ?_
  · refine K_sub [] rfl ?_
    exact kcj_X3_isReadFrom_33 C g4
  · refine K_aload_n C 0 rfl rfl dX3_isReadFrom_13 ?_
    refine K_aload_n C 1 rfl rfl dX3_isReadFrom_14 ?_
    refine K_callVi C (As := [.ref (kad (wC G ad) 280)]) (rest := [.ref (kad (wC G ad) 280)]) (Nat.le_of_ble_eq_true rfl) (shC_282 G ad) rfl hy_X3_isPartRead wm_X3_27 (by decide) ⟨Nat.le_refl _, Nat.le_refl _⟩ (fun rr ff hh => km_X3_isPartRead l G ad g4 rr ff hh) rfl rfl (Nat.le_of_ble_eq_true rfl) rfl dX3_isReadFrom_15 (fun r7 g8 => ?_)
    refine K_if_eq C (tgt := 33) (by decide) dX3_isReadFrom_18 ?_ ?_
    · refine K_sub [] rfl ?_
      exact kcj_X3_isReadFrom_33 C g8
    · refine K_aload_n C 0 rfl rfl dX3_isReadFrom_21 ?_
      refine K_aload_n C 1 rfl rfl dX3_isReadFrom_22 ?_
      refine K_callVi C (As := [.ref (kad (wC G ad) 280)]) (rest := [.ref (kad (wC G ad) 280)]) (Nat.le_of_ble_eq_true rfl) (shC_282 G ad) rfl hy_X3_isTailRead wm_X3_30 (by decide) ⟨Nat.le_refl _, Nat.le_refl _⟩ (fun rr ff hh => km_X3_isTailRead l G ad g8 rr ff hh) rfl rfl (Nat.le_of_ble_eq_true rfl) rfl dX3_isReadFrom_23 (fun r9 g10 => ?_)
      refine K_if_eq C (tgt := 33) (by decide) dX3_isReadFrom_26 ?_ ?_
      · refine K_sub [] rfl ?_
        exact kcj_X3_isReadFrom_33 C g10
      · refine K_iconst C (v := 1) (by decide) dX3_isReadFrom_29 ?_
        refine K_goto C (tgt := 34) (by decide) dX3_isReadFrom_30 ?_
        refine K_sub [] rfl ?_
        exact kcj_X3_isReadFrom_34 C g10 1
def cf_X6_isOpen (f : kMem) (x1 : Int32) : Option (Int32 × kMem) := kchk (kin x1 10) (keq (f 23 (Int32.toNatClampNeg x1)) 0 (some (1, f)) (some (0, f)))
set_option maxRecDepth 100000 in
set_option maxHeartbeats 4000000 in
theorem km_X6_isOpen (l : Launch) (G : kG) (ad : Nat → Nat) (f : kMem) (x1 : Int32) (r : Int32) (fo : kMem) (h : cf_X6_isOpen f x1 = some (r, fo)) : kMet l (wC G ad) yX6_isOpen cX6_isOpen 2 (some .boolean) 0 [.ref (kad (wC G ad) 18), .int x1] f r fo := by
  refine kMet_of (own := RX6) (lv := [(0, .ref (kad (wC G ad) 18)), (1, .int x1)]) (by decide) rfl (Nat.le_of_ble_eq_true rfl) rfl h ?_
  intro p e R s m args below meth c C
  unfold cf_X6_isOpen
  refine K_aload_n C 0 rfl rfl dX6_isOpen_0 ?_
  refine K_getR C kin_X6 rfl (Nat.le_of_ble_eq_true rfl) (shC_18 G ad) 5 (by decide) (b := 23) rfl wf_X6_24 rfl dX6_isOpen_1 ?_
  refine K_iload_n C 1 rfl rfl dX6_isOpen_4 ?_
  refine K_iald C (Nat.le_of_ble_eq_true rfl) (shC_23 G ad) dX6_isOpen_5 ?_
  refine K_if_ne C (tgt := 13) (by decide) dX6_isOpen_6 ?_ ?_
  · refine K_iconst C (v := 0) (by decide) dX6_isOpen_13 ?_
    exact K_ret C rfl (by decide) dX6_isOpen_14
  · refine K_iconst C (v := 1) (by decide) dX6_isOpen_9 ?_
    refine K_goto C (tgt := 14) (by decide) dX6_isOpen_10 ?_
    exact K_ret C rfl (by decide) dX6_isOpen_14
def cf_X9_isDelivered (f : kMem) (x1 x2 x3 : Int32) : Option (Int32 × kMem) := klet ((x1 * 6) + x2) (fun x4_1 => kchk (kin x4_1 48) (kle x3 (f 13 (Int32.toNatClampNeg x4_1)) (kchk (kin x4_1 48) (kchk (kin x4_1 48) (kmem (kup f 13 (Int32.toNatClampNeg x4_1) ((f 13 (Int32.toNatClampNeg x4_1)) - x3)) (fun g2 => kchk (kin x4_1 48) (kchk (kin x4_1 48) (kmem (kup g2 15 (Int32.toNatClampNeg x4_1) ((g2 15 (Int32.toNatClampNeg x4_1)) + x3)) (fun g3 => some (1, g3)))))))) (some (0, f))))
set_option maxRecDepth 100000 in
set_option maxHeartbeats 4000000 in
theorem km_X9_isDelivered (l : Launch) (G : kG) (ad : Nat → Nat) (f : kMem) (x1 x2 x3 : Int32) (r : Int32) (fo : kMem) (h : cf_X9_isDelivered f x1 x2 x3 = some (r, fo)) : kMet l (wC G ad) yX9_isDelivered cX9_isDelivered 5 (some .boolean) 0 [.ref (kad (wC G ad) 12), .int x1, .int x2, .int x3] f r fo := by
  refine kMet_of (own := RX9) (lv := [(0, .ref (kad (wC G ad) 12)), (1, .int x1), (2, .int x2), (3, .int x3)]) (by decide) rfl (Nat.le_of_ble_eq_true rfl) rfl h ?_
  intro p e R s m args below meth c C
  unfold cf_X9_isDelivered
  refine K_iload_n C 1 rfl rfl dX9_isDelivered_0 ?_
  refine K_bipush C (v := 6) (by decide) dX9_isDelivered_1 ?_
  refine K_imul C dX9_isDelivered_3 ?_
  refine K_iload_n C 2 rfl rfl dX9_isDelivered_4 ?_
  refine K_iadd C dX9_isDelivered_5 ?_
  refine K_let rfl (fun x4_1 => ?_)
  refine K_istore C (lv1 := [(4, .int x4_1), (0, .ref (kad (wC G ad) 12)), (1, .int x1), (2, .int x2), (3, .int x3)]) (by decide) rfl dX9_isDelivered_6 ?_
  refine K_aload_n C 1 rfl rfl dX9_isDelivered_8 ?_
  refine K_getR C kin_X9 rfl (Nat.le_of_ble_eq_true rfl) (shC_12 G ad) 0 (by decide) (b := 13) rfl wf_X9_9 rfl dX9_isDelivered_9 ?_
  refine K_iload C 0 rfl dX9_isDelivered_12 ?_
  refine K_iald C (Nat.le_of_ble_eq_true rfl) (shC_13 G ad) dX9_isDelivered_14 ?_
  refine K_iload_n C 4 rfl rfl dX9_isDelivered_15 ?_
  refine K_icmp_ge C (tgt := 21) (by decide) dX9_isDelivered_16 ?_ ?_
  · refine K_aload_n C 1 rfl rfl dX9_isDelivered_21 ?_
    refine K_getR C kin_X9 rfl (Nat.le_of_ble_eq_true rfl) (shC_12 G ad) 0 (by decide) (b := 13) rfl wf_X9_9 rfl dX9_isDelivered_22 ?_
    refine K_iload C 0 rfl dX9_isDelivered_25 ?_
    refine K_dup2 C rfl rfl dX9_isDelivered_27 ?_
    refine K_iald C (Nat.le_of_ble_eq_true rfl) (shC_13 G ad) dX9_isDelivered_28 ?_
    refine K_iload_n C 4 rfl rfl dX9_isDelivered_29 ?_
    refine K_isub C dX9_isDelivered_30 ?_
    refine K_iast C (Nat.le_of_ble_eq_true rfl) (shC_13 G ad) dX9_isDelivered_31 (fun g2 => ?_)
    refine K_aload_n C 1 rfl rfl dX9_isDelivered_32 ?_
    refine K_getR C kin_X9 rfl (Nat.le_of_ble_eq_true rfl) (shC_12 G ad) 2 (by decide) (b := 15) rfl wf_X9_18 rfl dX9_isDelivered_33 ?_
    refine K_iload C 0 rfl dX9_isDelivered_36 ?_
    refine K_dup2 C rfl rfl dX9_isDelivered_38 ?_
    refine K_iald C (Nat.le_of_ble_eq_true rfl) (shC_15 G ad) dX9_isDelivered_39 ?_
    refine K_iload_n C 4 rfl rfl dX9_isDelivered_40 ?_
    refine K_iadd C dX9_isDelivered_41 ?_
    refine K_iast C (Nat.le_of_ble_eq_true rfl) (shC_15 G ad) dX9_isDelivered_42 (fun g3 => ?_)
    refine K_iconst C (v := 1) (by decide) dX9_isDelivered_43 ?_
    exact K_ret C rfl (by decide) dX9_isDelivered_44
  · refine K_iconst C (v := 0) (by decide) dX9_isDelivered_19 ?_
    exact K_ret C rfl (by decide) dX9_isDelivered_20
def cl_X6_endWeek_2 : Nat → kMem → Int32 → Int32 → Option (Int32 × kMem)
  | 0, _, _, _ => none
  | n + 1, f, x1, x3 => kle (f 18 0) x3 (some (0, f)) (kbind (cf_X6_isOpen f x3) (fun r1 g2 => keq r1 0 (klet (x3 + Int32.ofInt 1) (fun x3_3 => ((cl_X6_endWeek_2 n) g2 x1 x3_3))) (kchk (kin x3 10) (kle (g2 22 (Int32.toNatClampNeg x3)) x1 (kchk (kin x3 10) (kchk (kin x3 10) (kchk (kin x3 10) (kbind (cf_X9_isDelivered g2 (g2 19 (Int32.toNatClampNeg x3)) (g2 20 (Int32.toNatClampNeg x3)) (g2 21 (Int32.toNatClampNeg x3))) (fun r4 g5 => keq r4 0 (kchk (kin x3 10) (kchk (kin x3 10) (kmem (kup g5 24 (Int32.toNatClampNeg x3) ((g5 24 (Int32.toNatClampNeg x3)) + 1)) (fun g6 => klet (x3 + Int32.ofInt 1) (fun x3_7 => ((cl_X6_endWeek_2 n) g6 x1 x3_7)))))) (kchk (kin x3 10) (kmem (kup g5 23 (Int32.toNatClampNeg x3) 1) (fun g8 => klet (x3 + Int32.ofInt 1) (fun x3_9 => ((cl_X6_endWeek_2 n) g8 x1 x3_9)))))))))) (klet (x3 + Int32.ofInt 1) (fun x3_10 => ((cl_X6_endWeek_2 n) g2 x1 x3_10)))))))
def cf_X6_endWeek (f : kMem) (x1 : Int32) : Option (Int32 × kMem) := (cl_X6_endWeek_2 100 f x1 0)
set_option maxRecDepth 100000 in
set_option maxHeartbeats 4000000 in
theorem kcl_X6_endWeek_2 {p : Program} {l : Launch} {e : Env} {R : Room} {s : State} {m : MethodId} {args : Array Value} {below : List Frame} {meth : Method} {c : Code} {G : kG} {ad : Nat → Nat} {z : Int32 × kMem} (C : KC p l e R s m args below meth c (wC G ad) RX6 cX6_endWeek 4 none 1 0 0)  : ∀ (n : Nat) (f : kMem) (x1 x3 : Int32), K p l e R s m args below meth c (wC G ad) 4 (kQF below (wC G ad) none args s z) z 0 0 f 2 [(0, .ref (kad (wC G ad) 18)), (1, .int x1), (2, .ref (kad (wC G ad) 12)), (3, .int x3)] [] (cl_X6_endWeek_2 n f x1 x3) := by
  intro n
  induction n with
  | zero => intro f x1 x3; exact K_none
  | succ n ih =>
    intro f x1 x3
    unfold cl_X6_endWeek_2
    refine K_iload_n C 3 rfl rfl dX6_endWeek_2 ?_
    refine K_aload_n C 0 rfl rfl dX6_endWeek_3 ?_
    refine K_getI C kin_X6 rfl (Nat.le_of_ble_eq_true rfl) (shC_18 G ad) 0 (by decide) rfl wf_X6_30 rfl dX6_endWeek_4 ?_
    refine K_icmp_ge C (tgt := 82) (by decide) dX6_endWeek_7 ?_ ?_
    · exact K_vret C rfl dX6_endWeek_82
    · refine K_aload_n C 0 rfl rfl dX6_endWeek_10 ?_
      refine K_iload_n C 3 rfl rfl dX6_endWeek_11 ?_
      refine K_callVi C (As := [.int x3]) (rest := []) (Nat.le_of_ble_eq_true rfl) (shC_18 G ad) rfl hy_X6_isOpen wm_X6_52 (by decide) ⟨Nat.le_refl _, Nat.le_refl _⟩ (fun rr ff hh => km_X6_isOpen l G ad f x3 rr ff hh) rfl rfl (Nat.le_of_ble_eq_true rfl) rfl dX6_endWeek_12 (fun r1 g2 => ?_)
      refine K_if_eq C (tgt := 76) (by decide) dX6_endWeek_15 ?_ ?_
      · refine K_iinc C (k := 3) (lv1 := fun x3_3 => [(3, .int x3_3), (0, .ref (kad (wC G ad) 18)), (1, .int x1), (2, .ref (kad (wC G ad) 12))]) rfl (by decide) (fun _ => rfl) dX6_endWeek_76 (fun x3_3 => ?_)
        refine K_goto C (tgt := 2) (by decide) dX6_endWeek_79 ?_
        refine K_sub [1, 2, 3, 0] rfl ?_
        exact ih g2 x1 x3_3
      · refine K_aload_n C 0 rfl rfl dX6_endWeek_18 ?_
        refine K_getR C kin_X6 rfl (Nat.le_of_ble_eq_true rfl) (shC_18 G ad) 4 (by decide) (b := 22) rfl wf_X6_21 rfl dX6_endWeek_19 ?_
        refine K_iload_n C 3 rfl rfl dX6_endWeek_22 ?_
        refine K_iald C (Nat.le_of_ble_eq_true rfl) (shC_22 G ad) dX6_endWeek_23 ?_
        refine K_iload_n C 1 rfl rfl dX6_endWeek_24 ?_
        refine K_icmp_le C (tgt := 31) (by decide) dX6_endWeek_25 ?_ ?_
        · refine K_aload_n C 2 rfl rfl dX6_endWeek_31 ?_
          refine K_aload_n C 0 rfl rfl dX6_endWeek_32 ?_
          refine K_getR C kin_X6 rfl (Nat.le_of_ble_eq_true rfl) (shC_18 G ad) 1 (by decide) (b := 19) rfl wf_X6_9 rfl dX6_endWeek_33 ?_
          refine K_iload_n C 3 rfl rfl dX6_endWeek_36 ?_
          refine K_iald C (Nat.le_of_ble_eq_true rfl) (shC_19 G ad) dX6_endWeek_37 ?_
          refine K_aload_n C 0 rfl rfl dX6_endWeek_38 ?_
          refine K_getR C kin_X6 rfl (Nat.le_of_ble_eq_true rfl) (shC_18 G ad) 2 (by decide) (b := 20) rfl wf_X6_15 rfl dX6_endWeek_39 ?_
          refine K_iload_n C 3 rfl rfl dX6_endWeek_42 ?_
          refine K_iald C (Nat.le_of_ble_eq_true rfl) (shC_20 G ad) dX6_endWeek_43 ?_
          refine K_aload_n C 0 rfl rfl dX6_endWeek_44 ?_
          refine K_getR C kin_X6 rfl (Nat.le_of_ble_eq_true rfl) (shC_18 G ad) 3 (by decide) (b := 21) rfl wf_X6_18 rfl dX6_endWeek_45 ?_
          refine K_iload_n C 3 rfl rfl dX6_endWeek_48 ?_
          refine K_iald C (Nat.le_of_ble_eq_true rfl) (shC_21 G ad) dX6_endWeek_49 ?_
          refine K_callVi C (As := [.int (g2 19 (Int32.toNatClampNeg x3)), .int (g2 20 (Int32.toNatClampNeg x3)), .int (g2 21 (Int32.toNatClampNeg x3))]) (rest := []) (Nat.le_of_ble_eq_true rfl) (shC_12 G ad) rfl hy_X9_isDelivered wm_X6_59 (by decide) ⟨Nat.le_refl _, Nat.le_refl _⟩ (fun rr ff hh => km_X9_isDelivered l G ad g2 (g2 19 (Int32.toNatClampNeg x3)) (g2 20 (Int32.toNatClampNeg x3)) (g2 21 (Int32.toNatClampNeg x3)) rr ff hh) rfl rfl (Nat.le_of_ble_eq_true rfl) rfl dX6_endWeek_50 (fun r4 g5 => ?_)
          refine K_if_eq C (tgt := 66) (by decide) dX6_endWeek_53 ?_ ?_
          · refine K_aload_n C 0 rfl rfl dX6_endWeek_66 ?_
            refine K_getR C kin_X6 rfl (Nat.le_of_ble_eq_true rfl) (shC_18 G ad) 6 (by decide) (b := 24) rfl wf_X6_27 rfl dX6_endWeek_67 ?_
            refine K_iload_n C 3 rfl rfl dX6_endWeek_70 ?_
            refine K_dup2 C rfl rfl dX6_endWeek_71 ?_
            refine K_iald C (Nat.le_of_ble_eq_true rfl) (shC_24 G ad) dX6_endWeek_72 ?_
            refine K_iconst C (v := 1) (by decide) dX6_endWeek_73 ?_
            refine K_iadd C dX6_endWeek_74 ?_
            refine K_iast C (Nat.le_of_ble_eq_true rfl) (shC_24 G ad) dX6_endWeek_75 (fun g6 => ?_)
            refine K_iinc C (k := 3) (lv1 := fun x3_7 => [(3, .int x3_7), (0, .ref (kad (wC G ad) 18)), (1, .int x1), (2, .ref (kad (wC G ad) 12))]) rfl (by decide) (fun _ => rfl) dX6_endWeek_76 (fun x3_7 => ?_)
            refine K_goto C (tgt := 2) (by decide) dX6_endWeek_79 ?_
            refine K_sub [1, 2, 3, 0] rfl ?_
            exact ih g6 x1 x3_7
          · refine K_aload_n C 0 rfl rfl dX6_endWeek_56 ?_
            refine K_getR C kin_X6 rfl (Nat.le_of_ble_eq_true rfl) (shC_18 G ad) 5 (by decide) (b := 23) rfl wf_X6_24 rfl dX6_endWeek_57 ?_
            refine K_iload_n C 3 rfl rfl dX6_endWeek_60 ?_
            refine K_iconst C (v := 1) (by decide) dX6_endWeek_61 ?_
            refine K_iast C (Nat.le_of_ble_eq_true rfl) (shC_23 G ad) dX6_endWeek_62 (fun g8 => ?_)
            refine K_goto C (tgt := 76) (by decide) dX6_endWeek_63 ?_
            refine K_iinc C (k := 3) (lv1 := fun x3_9 => [(3, .int x3_9), (0, .ref (kad (wC G ad) 18)), (1, .int x1), (2, .ref (kad (wC G ad) 12))]) rfl (by decide) (fun _ => rfl) dX6_endWeek_76 (fun x3_9 => ?_)
            refine K_goto C (tgt := 2) (by decide) dX6_endWeek_79 ?_
            refine K_sub [1, 2, 3, 0] rfl ?_
            exact ih g8 x1 x3_9
        · refine K_goto C (tgt := 76) (by decide) dX6_endWeek_28 ?_
          refine K_iinc C (k := 3) (lv1 := fun x3_10 => [(3, .int x3_10), (0, .ref (kad (wC G ad) 18)), (1, .int x1), (2, .ref (kad (wC G ad) 12))]) rfl (by decide) (fun _ => rfl) dX6_endWeek_76 (fun x3_10 => ?_)
          refine K_goto C (tgt := 2) (by decide) dX6_endWeek_79 ?_
          refine K_sub [1, 2, 3, 0] rfl ?_
          exact ih g2 x1 x3_10
set_option maxRecDepth 100000 in
set_option maxHeartbeats 4000000 in
theorem km_X6_endWeek (l : Launch) (G : kG) (ad : Nat → Nat) (f : kMem) (x1 : Int32) (r : Int32) (fo : kMem) (h : cf_X6_endWeek f x1 = some (r, fo)) : kMet l (wC G ad) yX6_endWeek cX6_endWeek 4 none 1 [.ref (kad (wC G ad) 18), .int x1, .ref (kad (wC G ad) 12)] f r fo := by
  refine kMet_of (own := RX6) (lv := [(0, .ref (kad (wC G ad) 18)), (1, .int x1), (2, .ref (kad (wC G ad) 12))]) (by decide) rfl (Nat.le_of_ble_eq_true rfl) rfl h ?_
  intro p e R s m args below meth c C
  unfold cf_X6_endWeek
  refine K_iconst C (v := 0) (by decide) dX6_endWeek_0 ?_
  refine K_istore_n C (lv1 := [(3, .int 0), (0, .ref (kad (wC G ad) 18)), (1, .int x1), (2, .ref (kad (wC G ad) 12))]) rfl (by decide) rfl dX6_endWeek_1 ?_
  refine K_sub [1, 2, 3, 0] rfl ?_
  exact kcl_X6_endWeek_2 C 100 f x1 0
def cj_X6_add_21 (f : kMem) : Option (Int32 × kMem) := kbind (cf_X8_refuse f 2 0) (fun r3 g4 => some (r3, g4))
def cf_X6_add (f : kMem) (x1 x2 x3 x4 : Int32) : Option (Int32 × kMem) := kbind (cf_X11_isWithin f x3 1 20) (fun r1 g2 => keq r1 0 ((cj_X6_add_21 g2)) (kbind (cf_X11_isWithin g2 x4 0 99) (fun r5 g6 => keq r5 0 ((cj_X6_add_21 g6)) (klt (g6 18 0) 10 (kchk (kin (g6 18 0) 10) (kmem (kup g6 19 (Int32.toNatClampNeg (g6 18 0)) x1) (fun g7 => kchk (kin (g7 18 0) 10) (kmem (kup g7 20 (Int32.toNatClampNeg (g7 18 0)) x2) (fun g8 => kchk (kin (g8 18 0) 10) (kmem (kup g8 21 (Int32.toNatClampNeg (g8 18 0)) x3) (fun g9 => kchk (kin (g9 18 0) 10) (kmem (kup g9 22 (Int32.toNatClampNeg (g9 18 0)) x4) (fun g10 => kchk (kin (g10 18 0) 10) (kmem (kup g10 23 (Int32.toNatClampNeg (g10 18 0)) 0) (fun g11 => kchk (kin (g11 18 0) 10) (kmem (kup g11 24 (Int32.toNatClampNeg (g11 18 0)) 0) (fun g12 => kmem (kup g12 18 0 ((g12 18 0) + 1)) (fun g13 => some (((g13 18 0) - 1), g13))))))))))))))) (kbind (cf_X8_refuse g6 3 0) (fun r14 g15 => some (r14, g15)))))))
set_option maxRecDepth 100000 in
set_option maxHeartbeats 4000000 in
theorem kcj_X6_add_21 {p : Program} {l : Launch} {e : Env} {R : Room} {s : State} {m : MethodId} {args : Array Value} {below : List Frame} {meth : Method} {c : Code} {G : kG} {ad : Nat → Nat} {z : Int32 × kMem} (C : KC p l e R s m args below meth c (wC G ad) RX6 cX6_add 6 (some .int) 2 0 0)  (f : kMem) : K p l e R s m args below meth c (wC G ad) 6 (kQF below (wC G ad) (some .int) args s z) z 0 0 f 21 [(5, .ref (kad (wC G ad) 277))] [] (cj_X6_add_21 f) := by
  unfold cj_X6_add_21
  refine K_aload C 0 rfl dX6_add_21 ?_
  refine K_iconst C (v := 2) (by decide) dX6_add_23 ?_
  refine K_iconst C (v := 0) (by decide) dX6_add_24 ?_
  refine K_callVi C (As := [.int 2, .int 0]) (rest := []) (Nat.le_of_ble_eq_true rfl) (shC_277 G ad) rfl hy_X8_refuse wm_X6_42 (by decide) ⟨Nat.le_refl _, Nat.le_refl _⟩ (fun rr ff hh => km_X8_refuse l G ad f 2 0 rr ff hh) rfl rfl (Nat.le_of_ble_eq_true rfl) rfl dX6_add_25 (fun r3 g4 => ?_)
  exact K_ret C rfl rfl dX6_add_28
set_option maxRecDepth 100000 in
set_option maxHeartbeats 4000000 in
theorem km_X6_add (l : Launch) (G : kG) (ad : Nat → Nat) (f : kMem) (x1 x2 x3 x4 : Int32) (r : Int32) (fo : kMem) (h : cf_X6_add f x1 x2 x3 x4 = some (r, fo)) : kMet l (wC G ad) yX6_add cX6_add 6 (some .int) 2 [.ref (kad (wC G ad) 18), .int x1, .int x2, .int x3, .int x4, .ref (kad (wC G ad) 277)] f r fo := by
  refine kMet_of (own := RX6) (lv := [(0, .ref (kad (wC G ad) 18)), (1, .int x1), (2, .int x2), (3, .int x3), (4, .int x4), (5, .ref (kad (wC G ad) 277))]) (by decide) rfl (Nat.le_of_ble_eq_true rfl) rfl h ?_
  intro p e R s m args below meth c C
  unfold cf_X6_add
  refine K_iload_n C 3 rfl rfl dX6_add_0 ?_
  refine K_iconst C (v := 1) (by decide) dX6_add_1 ?_
  refine K_bipush C (v := 20) (by decide) dX6_add_2 ?_
  refine K_callSNi C (As := [.int x3, .int 1, .int 20]) (rest := []) hy_X11_isWithin (by decide +kernel) (by decide) ⟨Nat.le_refl _, Nat.le_refl _⟩ (fun rr ff hh => km_X11_isWithin l G ad f x3 1 20 rr ff hh) rfl rfl (Nat.le_of_ble_eq_true rfl) rfl dX6_add_4 (fun r1 g2 => ?_)
  refine K_if_eq C (tgt := 21) (by decide) dX6_add_7 ?_ ?_
  · refine K_sub [5] rfl ?_
    exact kcj_X6_add_21 C g2
  · refine K_iload C 4 rfl dX6_add_10 ?_
    refine K_iconst C (v := 0) (by decide) dX6_add_12 ?_
    refine K_bipush C (v := 99) (by decide) dX6_add_13 ?_
    refine K_callSNi C (As := [.int x4, .int 0, .int 99]) (rest := []) hy_X11_isWithin (by decide +kernel) (by decide) ⟨Nat.le_refl _, Nat.le_refl _⟩ (fun rr ff hh => km_X11_isWithin l G ad g2 x4 0 99 rr ff hh) rfl rfl (Nat.le_of_ble_eq_true rfl) rfl dX6_add_15 (fun r5 g6 => ?_)
    refine K_if_ne C (tgt := 29) (by decide) dX6_add_18 ?_ ?_
    · refine K_aload_n C 0 rfl rfl dX6_add_29 ?_
      refine K_getI C kin_X6 rfl (Nat.le_of_ble_eq_true rfl) (shC_18 G ad) 0 (by decide) rfl wf_X6_30 rfl dX6_add_30 ?_
      refine K_bipush C (v := 10) (by decide) dX6_add_33 ?_
      refine K_icmp_lt C (tgt := 46) (by decide) dX6_add_35 ?_ ?_
      · refine K_aload_n C 0 rfl rfl dX6_add_46 ?_
        refine K_getR C kin_X6 rfl (Nat.le_of_ble_eq_true rfl) (shC_18 G ad) 1 (by decide) (b := 19) rfl wf_X6_9 rfl dX6_add_47 ?_
        refine K_aload_n C 0 rfl rfl dX6_add_50 ?_
        refine K_getI C kin_X6 rfl (Nat.le_of_ble_eq_true rfl) (shC_18 G ad) 0 (by decide) rfl wf_X6_30 rfl dX6_add_51 ?_
        refine K_iload_n C 1 rfl rfl dX6_add_54 ?_
        refine K_iast C (Nat.le_of_ble_eq_true rfl) (shC_19 G ad) dX6_add_55 (fun g7 => ?_)
        refine K_aload_n C 0 rfl rfl dX6_add_56 ?_
        refine K_getR C kin_X6 rfl (Nat.le_of_ble_eq_true rfl) (shC_18 G ad) 2 (by decide) (b := 20) rfl wf_X6_15 rfl dX6_add_57 ?_
        refine K_aload_n C 0 rfl rfl dX6_add_60 ?_
        refine K_getI C kin_X6 rfl (Nat.le_of_ble_eq_true rfl) (shC_18 G ad) 0 (by decide) rfl wf_X6_30 rfl dX6_add_61 ?_
        refine K_iload_n C 2 rfl rfl dX6_add_64 ?_
        refine K_iast C (Nat.le_of_ble_eq_true rfl) (shC_20 G ad) dX6_add_65 (fun g8 => ?_)
        refine K_aload_n C 0 rfl rfl dX6_add_66 ?_
        refine K_getR C kin_X6 rfl (Nat.le_of_ble_eq_true rfl) (shC_18 G ad) 3 (by decide) (b := 21) rfl wf_X6_18 rfl dX6_add_67 ?_
        refine K_aload_n C 0 rfl rfl dX6_add_70 ?_
        refine K_getI C kin_X6 rfl (Nat.le_of_ble_eq_true rfl) (shC_18 G ad) 0 (by decide) rfl wf_X6_30 rfl dX6_add_71 ?_
        refine K_iload_n C 3 rfl rfl dX6_add_74 ?_
        refine K_iast C (Nat.le_of_ble_eq_true rfl) (shC_21 G ad) dX6_add_75 (fun g9 => ?_)
        refine K_aload_n C 0 rfl rfl dX6_add_76 ?_
        refine K_getR C kin_X6 rfl (Nat.le_of_ble_eq_true rfl) (shC_18 G ad) 4 (by decide) (b := 22) rfl wf_X6_21 rfl dX6_add_77 ?_
        refine K_aload_n C 0 rfl rfl dX6_add_80 ?_
        refine K_getI C kin_X6 rfl (Nat.le_of_ble_eq_true rfl) (shC_18 G ad) 0 (by decide) rfl wf_X6_30 rfl dX6_add_81 ?_
        refine K_iload C 4 rfl dX6_add_84 ?_
        refine K_iast C (Nat.le_of_ble_eq_true rfl) (shC_22 G ad) dX6_add_86 (fun g10 => ?_)
        refine K_aload_n C 0 rfl rfl dX6_add_87 ?_
        refine K_getR C kin_X6 rfl (Nat.le_of_ble_eq_true rfl) (shC_18 G ad) 5 (by decide) (b := 23) rfl wf_X6_24 rfl dX6_add_88 ?_
        refine K_aload_n C 0 rfl rfl dX6_add_91 ?_
        refine K_getI C kin_X6 rfl (Nat.le_of_ble_eq_true rfl) (shC_18 G ad) 0 (by decide) rfl wf_X6_30 rfl dX6_add_92 ?_
        refine K_iconst C (v := 0) (by decide) dX6_add_95 ?_
        refine K_iast C (Nat.le_of_ble_eq_true rfl) (shC_23 G ad) dX6_add_96 (fun g11 => ?_)
        refine K_aload_n C 0 rfl rfl dX6_add_97 ?_
        refine K_getR C kin_X6 rfl (Nat.le_of_ble_eq_true rfl) (shC_18 G ad) 6 (by decide) (b := 24) rfl wf_X6_27 rfl dX6_add_98 ?_
        refine K_aload_n C 0 rfl rfl dX6_add_101 ?_
        refine K_getI C kin_X6 rfl (Nat.le_of_ble_eq_true rfl) (shC_18 G ad) 0 (by decide) rfl wf_X6_30 rfl dX6_add_102 ?_
        refine K_iconst C (v := 0) (by decide) dX6_add_105 ?_
        refine K_iast C (Nat.le_of_ble_eq_true rfl) (shC_24 G ad) dX6_add_106 (fun g12 => ?_)
        refine K_aload_n C 0 rfl rfl dX6_add_107 ?_
        refine K_dup C rfl dX6_add_108 ?_
        refine K_getI C kin_X6 rfl (Nat.le_of_ble_eq_true rfl) (shC_18 G ad) 0 (by decide) rfl wf_X6_30 rfl dX6_add_109 ?_
        refine K_iconst C (v := 1) (by decide) dX6_add_112 ?_
        refine K_iadd C dX6_add_113 ?_
        refine K_putI C kin_X6 rfl (Nat.le_of_ble_eq_true rfl) (shC_18 G ad) 0 (by decide) rfl wf_X6_30 rfl tyX6 tyX6_ok nmX6 (by decide) (ty := .int) (by decide +kernel) rfl rfl dX6_add_114 (fun g13 => ?_)
        refine K_aload_n C 0 rfl rfl dX6_add_117 ?_
        refine K_getI C kin_X6 rfl (Nat.le_of_ble_eq_true rfl) (shC_18 G ad) 0 (by decide) rfl wf_X6_30 rfl dX6_add_118 ?_
        refine K_iconst C (v := 1) (by decide) dX6_add_121 ?_
        refine K_isub C dX6_add_122 ?_
        exact K_ret C rfl rfl dX6_add_123
      · refine K_aload C 5 rfl dX6_add_38 ?_
        refine K_iconst C (v := 3) (by decide) dX6_add_40 ?_
        refine K_iconst C (v := 0) (by decide) dX6_add_41 ?_
        refine K_callVi C (As := [.int 3, .int 0]) (rest := []) (Nat.le_of_ble_eq_true rfl) (shC_277 G ad) rfl hy_X8_refuse wm_X6_42 (by decide) ⟨Nat.le_refl _, Nat.le_refl _⟩ (fun rr ff hh => km_X8_refuse l G ad g6 3 0 rr ff hh) rfl rfl (Nat.le_of_ble_eq_true rfl) rfl dX6_add_42 (fun r14 g15 => ?_)
        exact K_ret C rfl rfl dX6_add_45
    · refine K_sub [5] rfl ?_
      exact kcj_X6_add_21 C g6
def cf_X9_addScrap (f : kMem) (x1 x2 : Int32) : Option (Int32 × kMem) := kchk (kin x1 8) (kchk (kin x1 8) (kmem (kup f 16 (Int32.toNatClampNeg x1) ((f 16 (Int32.toNatClampNeg x1)) + x2)) (fun g1 => kchk (kin x1 8) (kchk (kin x1 8) (kmem (kup g1 17 (Int32.toNatClampNeg x1) ((g1 17 (Int32.toNatClampNeg x1)) + x2)) (fun g2 => some (0, g2)))))))
set_option maxRecDepth 100000 in
set_option maxHeartbeats 4000000 in
theorem km_X9_addScrap (l : Launch) (G : kG) (ad : Nat → Nat) (f : kMem) (x1 x2 : Int32) (r : Int32) (fo : kMem) (h : cf_X9_addScrap f x1 x2 = some (r, fo)) : kMet l (wC G ad) yX9_addScrap cX9_addScrap 3 none 0 [.ref (kad (wC G ad) 12), .int x1, .int x2] f r fo := by
  refine kMet_of (own := RX9) (lv := [(0, .ref (kad (wC G ad) 12)), (1, .int x1), (2, .int x2)]) (by decide) rfl (Nat.le_of_ble_eq_true rfl) rfl h ?_
  intro p e R s m args below meth c C
  unfold cf_X9_addScrap
  refine K_aload_n C 0 rfl rfl dX9_addScrap_0 ?_
  refine K_getR C kin_X9 rfl (Nat.le_of_ble_eq_true rfl) (shC_12 G ad) 3 (by decide) (b := 16) rfl wf_X9_21 rfl dX9_addScrap_1 ?_
  refine K_iload_n C 1 rfl rfl dX9_addScrap_4 ?_
  refine K_dup2 C rfl rfl dX9_addScrap_5 ?_
  refine K_iald C (Nat.le_of_ble_eq_true rfl) (shC_16 G ad) dX9_addScrap_6 ?_
  refine K_iload_n C 2 rfl rfl dX9_addScrap_7 ?_
  refine K_iadd C dX9_addScrap_8 ?_
  refine K_iast C (Nat.le_of_ble_eq_true rfl) (shC_16 G ad) dX9_addScrap_9 (fun g1 => ?_)
  refine K_aload_n C 0 rfl rfl dX9_addScrap_10 ?_
  refine K_getR C kin_X9 rfl (Nat.le_of_ble_eq_true rfl) (shC_12 G ad) 4 (by decide) (b := 17) rfl wf_X9_24 rfl dX9_addScrap_11 ?_
  refine K_iload_n C 1 rfl rfl dX9_addScrap_14 ?_
  refine K_dup2 C rfl rfl dX9_addScrap_15 ?_
  refine K_iald C (Nat.le_of_ble_eq_true rfl) (shC_17 G ad) dX9_addScrap_16 ?_
  refine K_iload_n C 2 rfl rfl dX9_addScrap_17 ?_
  refine K_iadd C dX9_addScrap_18 ?_
  refine K_iast C (Nat.le_of_ble_eq_true rfl) (shC_17 G ad) dX9_addScrap_19 (fun g2 => ?_)
  exact K_vret C rfl dX9_addScrap_20
def cf_X9_addPieces (f : kMem) (x1 x2 x3 x4 : Int32) : Option (Int32 × kMem) := klet ((x1 * 6) + x2) (fun x5_1 => kchk (kin x1 8) (kchk (kin x1 8) (kmem (kup f 16 (Int32.toNatClampNeg x1) ((f 16 (Int32.toNatClampNeg x1)) + x3)) (fun g2 => kchk (kin x5_1 48) (kchk (kin x5_1 48) (kmem (kup g2 14 (Int32.toNatClampNeg x5_1) ((g2 14 (Int32.toNatClampNeg x5_1)) + x3)) (fun g3 => kle x4 0 (some (0, g3)) (kchk (kin x5_1 48) (kchk (kin x5_1 48) (kchk (!decide (x4 = 0)) (kchk (kin x5_1 48) (kmem (kup g3 13 (Int32.toNatClampNeg x5_1) ((g3 13 (Int32.toNatClampNeg x5_1)) + ((g3 14 (Int32.toNatClampNeg x5_1)) / x4))) (fun g4 => kchk (kin x5_1 48) (kchk (!decide (x4 = 0)) (kchk (kin x5_1 48) (kmem (kup g4 14 (Int32.toNatClampNeg x5_1) ((g4 14 (Int32.toNatClampNeg x5_1)) - (g4 14 (Int32.toNatClampNeg x5_1)) / x4 * x4)) (fun g5 => some (0, g5))))))))))))))))))
set_option maxRecDepth 100000 in
set_option maxHeartbeats 4000000 in
theorem km_X9_addPieces (l : Launch) (G : kG) (ad : Nat → Nat) (f : kMem) (x1 x2 x3 x4 : Int32) (r : Int32) (fo : kMem) (h : cf_X9_addPieces f x1 x2 x3 x4 = some (r, fo)) : kMet l (wC G ad) yX9_addPieces cX9_addPieces 6 none 0 [.ref (kad (wC G ad) 12), .int x1, .int x2, .int x3, .int x4] f r fo := by
  refine kMet_of (own := RX9) (lv := [(0, .ref (kad (wC G ad) 12)), (1, .int x1), (2, .int x2), (3, .int x3), (4, .int x4)]) (by decide) rfl (Nat.le_of_ble_eq_true rfl) rfl h ?_
  intro p e R s m args below meth c C
  unfold cf_X9_addPieces
  refine K_iload_n C 1 rfl rfl dX9_addPieces_0 ?_
  refine K_bipush C (v := 6) (by decide) dX9_addPieces_1 ?_
  refine K_imul C dX9_addPieces_3 ?_
  refine K_iload_n C 2 rfl rfl dX9_addPieces_4 ?_
  refine K_iadd C dX9_addPieces_5 ?_
  refine K_let rfl (fun x5_1 => ?_)
  refine K_istore C (lv1 := [(5, .int x5_1), (0, .ref (kad (wC G ad) 12)), (1, .int x1), (2, .int x2), (3, .int x3), (4, .int x4)]) (by decide) rfl dX9_addPieces_6 ?_
  refine K_aload_n C 1 rfl rfl dX9_addPieces_8 ?_
  refine K_getR C kin_X9 rfl (Nat.le_of_ble_eq_true rfl) (shC_12 G ad) 3 (by decide) (b := 16) rfl wf_X9_21 rfl dX9_addPieces_9 ?_
  refine K_iload_n C 2 rfl rfl dX9_addPieces_12 ?_
  refine K_dup2 C rfl rfl dX9_addPieces_13 ?_
  refine K_iald C (Nat.le_of_ble_eq_true rfl) (shC_16 G ad) dX9_addPieces_14 ?_
  refine K_iload_n C 4 rfl rfl dX9_addPieces_15 ?_
  refine K_iadd C dX9_addPieces_16 ?_
  refine K_iast C (Nat.le_of_ble_eq_true rfl) (shC_16 G ad) dX9_addPieces_17 (fun g2 => ?_)
  refine K_aload_n C 1 rfl rfl dX9_addPieces_18 ?_
  refine K_getR C kin_X9 rfl (Nat.le_of_ble_eq_true rfl) (shC_12 G ad) 1 (by decide) (b := 14) rfl wf_X9_15 rfl dX9_addPieces_19 ?_
  refine K_iload C 0 rfl dX9_addPieces_22 ?_
  refine K_dup2 C rfl rfl dX9_addPieces_24 ?_
  refine K_iald C (Nat.le_of_ble_eq_true rfl) (shC_14 G ad) dX9_addPieces_25 ?_
  refine K_iload_n C 4 rfl rfl dX9_addPieces_26 ?_
  refine K_iadd C dX9_addPieces_27 ?_
  refine K_iast C (Nat.le_of_ble_eq_true rfl) (shC_14 G ad) dX9_addPieces_28 (fun g3 => ?_)
  refine K_iload C 5 rfl dX9_addPieces_29 ?_
  refine K_if_le C (tgt := 66) (by decide) dX9_addPieces_31 ?_ ?_
  · exact K_vret C rfl dX9_addPieces_66
  · refine K_aload_n C 1 rfl rfl dX9_addPieces_34 ?_
    refine K_getR C kin_X9 rfl (Nat.le_of_ble_eq_true rfl) (shC_12 G ad) 0 (by decide) (b := 13) rfl wf_X9_9 rfl dX9_addPieces_35 ?_
    refine K_iload C 0 rfl dX9_addPieces_38 ?_
    refine K_dup2 C rfl rfl dX9_addPieces_40 ?_
    refine K_iald C (Nat.le_of_ble_eq_true rfl) (shC_13 G ad) dX9_addPieces_41 ?_
    refine K_aload_n C 1 rfl rfl dX9_addPieces_42 ?_
    refine K_getR C kin_X9 rfl (Nat.le_of_ble_eq_true rfl) (shC_12 G ad) 1 (by decide) (b := 14) rfl wf_X9_15 rfl dX9_addPieces_43 ?_
    refine K_iload C 0 rfl dX9_addPieces_46 ?_
    refine K_iald C (Nat.le_of_ble_eq_true rfl) (shC_14 G ad) dX9_addPieces_48 ?_
    refine K_iload C 5 rfl dX9_addPieces_49 ?_
    refine K_idiv C dX9_addPieces_51 ?_
    refine K_iadd C dX9_addPieces_52 ?_
    refine K_iast C (Nat.le_of_ble_eq_true rfl) (shC_13 G ad) dX9_addPieces_53 (fun g4 => ?_)
    refine K_aload_n C 1 rfl rfl dX9_addPieces_54 ?_
    refine K_getR C kin_X9 rfl (Nat.le_of_ble_eq_true rfl) (shC_12 G ad) 1 (by decide) (b := 14) rfl wf_X9_15 rfl dX9_addPieces_55 ?_
    refine K_iload C 0 rfl dX9_addPieces_58 ?_
    refine K_dup2 C rfl rfl dX9_addPieces_60 ?_
    refine K_iald C (Nat.le_of_ble_eq_true rfl) (shC_14 G ad) dX9_addPieces_61 ?_
    refine K_iload C 5 rfl dX9_addPieces_62 ?_
    refine K_irem C dX9_addPieces_64 ?_
    refine K_iast C (Nat.le_of_ble_eq_true rfl) (shC_14 G ad) dX9_addPieces_65 (fun g5 => ?_)
    exact K_vret C rfl dX9_addPieces_66
def cf_X6_isOrder (f : kMem) (x1 : Int32) : Option (Int32 × kMem) := kbind (cf_X11_isWithin f x1 0 ((f 18 0) - 1)) (fun r1 g2 => kchk (kbool r1) (some (r1, g2)))
set_option maxRecDepth 100000 in
set_option maxHeartbeats 4000000 in
theorem km_X6_isOrder (l : Launch) (G : kG) (ad : Nat → Nat) (f : kMem) (x1 : Int32) (r : Int32) (fo : kMem) (h : cf_X6_isOrder f x1 = some (r, fo)) : kMet l (wC G ad) yX6_isOrder cX6_isOrder 2 (some .boolean) 1 [.ref (kad (wC G ad) 18), .int x1] f r fo := by
  refine kMet_of (own := RX6) (lv := [(0, .ref (kad (wC G ad) 18)), (1, .int x1)]) (by decide) rfl (Nat.le_of_ble_eq_true rfl) rfl h ?_
  intro p e R s m args below meth c C
  unfold cf_X6_isOrder
  refine K_iload_n C 1 rfl rfl dX6_isOrder_0 ?_
  refine K_iconst C (v := 0) (by decide) dX6_isOrder_1 ?_
  refine K_aload_n C 0 rfl rfl dX6_isOrder_2 ?_
  refine K_getI C kin_X6 rfl (Nat.le_of_ble_eq_true rfl) (shC_18 G ad) 0 (by decide) rfl wf_X6_30 rfl dX6_isOrder_3 ?_
  refine K_iconst C (v := 1) (by decide) dX6_isOrder_6 ?_
  refine K_isub C dX6_isOrder_7 ?_
  refine K_callSNi C (As := [.int x1, .int 0, .int ((f 18 0) - 1)]) (rest := []) hy_X11_isWithin (by decide +kernel) (by decide) ⟨Nat.le_refl _, Nat.le_refl _⟩ (fun rr ff hh => km_X11_isWithin l G ad f x1 0 ((f 18 0) - 1) rr ff hh) rfl rfl (Nat.le_of_ble_eq_true rfl) rfl dX6_isOrder_8 (fun r1 g2 => ?_)
  exact K_bret C rfl dX6_isOrder_11
def cl_X6_countOf_4 : Nat → kMem → Int32 → Int32 → Int32 → Option (Int32 × kMem)
  | 0, _, _, _, _ => none
  | n + 1, f, x1, x2, x3 => kle (f 18 0) x3 (some (x2, f)) (kchk (kin x3 10) (keq (f 23 (Int32.toNatClampNeg x3)) x1 (klet (x2 + 1) (fun x2_3 => klet (x3 + Int32.ofInt 1) (fun x3_4 => ((cl_X6_countOf_4 n) f x1 x2_3 x3_4)))) (klet (x2 + 0) (fun x2_1 => klet (x3 + Int32.ofInt 1) (fun x3_2 => ((cl_X6_countOf_4 n) f x1 x2_1 x3_2))))))
def cf_X6_countOf (f : kMem) (x1 : Int32) : Option (Int32 × kMem) := (cl_X6_countOf_4 100 f x1 0 0)
set_option maxRecDepth 100000 in
set_option maxHeartbeats 4000000 in
theorem kcl_X6_countOf_4 {p : Program} {l : Launch} {e : Env} {R : Room} {s : State} {m : MethodId} {args : Array Value} {below : List Frame} {meth : Method} {c : Code} {G : kG} {ad : Nat → Nat} {z : Int32 × kMem} (C : KC p l e R s m args below meth c (wC G ad) RX6 cX6_countOf 4 (some .int) 0 0 0)  : ∀ (n : Nat) (f : kMem) (x1 x2 x3 : Int32), K p l e R s m args below meth c (wC G ad) 4 (kQF below (wC G ad) (some .int) args s z) z 0 0 f 4 [(0, .ref (kad (wC G ad) 18)), (1, .int x1), (2, .int x2), (3, .int x3)] [] (cl_X6_countOf_4 n f x1 x2 x3) := by
  intro n
  induction n with
  | zero => intro f x1 x2 x3; exact K_none
  | succ n ih =>
    intro f x1 x2 x3
    unfold cl_X6_countOf_4
    refine K_iload_n C 3 rfl rfl dX6_countOf_4 ?_
    refine K_aload_n C 0 rfl rfl dX6_countOf_5 ?_
    refine K_getI C kin_X6 rfl (Nat.le_of_ble_eq_true rfl) (shC_18 G ad) 0 (by decide) rfl wf_X6_30 rfl dX6_countOf_6 ?_
    refine K_icmp_ge C (tgt := 36) (by decide) dX6_countOf_9 ?_ ?_
    · refine K_iload_n C 2 rfl rfl dX6_countOf_36 ?_
      exact K_ret C rfl rfl dX6_countOf_37
    · refine K_iload_n C 2 rfl rfl dX6_countOf_12 ?_
      refine K_aload_n C 0 rfl rfl dX6_countOf_13 ?_
      refine K_getR C kin_X6 rfl (Nat.le_of_ble_eq_true rfl) (shC_18 G ad) 5 (by decide) (b := 23) rfl wf_X6_24 rfl dX6_countOf_14 ?_
      refine K_iload_n C 3 rfl rfl dX6_countOf_17 ?_
      refine K_iald C (Nat.le_of_ble_eq_true rfl) (shC_23 G ad) dX6_countOf_18 ?_
      refine K_iload_n C 1 rfl rfl dX6_countOf_19 ?_
      refine K_icmp_ne C (tgt := 27) (by decide) dX6_countOf_20 ?_ ?_
      · refine K_iconst C (v := 0) (by decide) dX6_countOf_27 ?_
        refine K_iadd C dX6_countOf_28 ?_
        refine K_let rfl (fun x2_1 => ?_)
        refine K_istore_n C (lv1 := [(2, .int x2_1), (0, .ref (kad (wC G ad) 18)), (1, .int x1), (3, .int x3)]) rfl (by decide) rfl dX6_countOf_29 ?_
        refine K_iinc C (k := 3) (lv1 := fun x3_2 => [(3, .int x3_2), (2, .int x2_1), (0, .ref (kad (wC G ad) 18)), (1, .int x1)]) rfl (by decide) (fun _ => rfl) dX6_countOf_30 (fun x3_2 => ?_)
        refine K_goto C (tgt := 4) (by decide) dX6_countOf_33 ?_
        refine K_sub [2, 3, 1, 0] rfl ?_
        exact ih f x1 x2_1 x3_2
      · refine K_iconst C (v := 1) (by decide) dX6_countOf_23 ?_
        refine K_goto C (tgt := 28) (by decide) dX6_countOf_24 ?_
        refine K_iadd C dX6_countOf_28 ?_
        refine K_let rfl (fun x2_3 => ?_)
        refine K_istore_n C (lv1 := [(2, .int x2_3), (0, .ref (kad (wC G ad) 18)), (1, .int x1), (3, .int x3)]) rfl (by decide) rfl dX6_countOf_29 ?_
        refine K_iinc C (k := 3) (lv1 := fun x3_4 => [(3, .int x3_4), (2, .int x2_3), (0, .ref (kad (wC G ad) 18)), (1, .int x1)]) rfl (by decide) (fun _ => rfl) dX6_countOf_30 (fun x3_4 => ?_)
        refine K_goto C (tgt := 4) (by decide) dX6_countOf_33 ?_
        refine K_sub [2, 3, 1, 0] rfl ?_
        exact ih f x1 x2_3 x3_4
set_option maxRecDepth 100000 in
set_option maxHeartbeats 4000000 in
theorem km_X6_countOf (l : Launch) (G : kG) (ad : Nat → Nat) (f : kMem) (x1 : Int32) (r : Int32) (fo : kMem) (h : cf_X6_countOf f x1 = some (r, fo)) : kMet l (wC G ad) yX6_countOf cX6_countOf 4 (some .int) 0 [.ref (kad (wC G ad) 18), .int x1] f r fo := by
  refine kMet_of (own := RX6) (lv := [(0, .ref (kad (wC G ad) 18)), (1, .int x1)]) (by decide) rfl (Nat.le_of_ble_eq_true rfl) rfl h ?_
  intro p e R s m args below meth c C
  unfold cf_X6_countOf
  refine K_iconst C (v := 0) (by decide) dX6_countOf_0 ?_
  refine K_istore_n C (lv1 := [(2, .int 0), (0, .ref (kad (wC G ad) 18)), (1, .int x1)]) rfl (by decide) rfl dX6_countOf_1 ?_
  refine K_iconst C (v := 0) (by decide) dX6_countOf_2 ?_
  refine K_istore_n C (lv1 := [(3, .int 0), (2, .int 0), (0, .ref (kad (wC G ad) 18)), (1, .int x1)]) rfl (by decide) rfl dX6_countOf_3 ?_
  refine K_sub [2, 3, 1, 0] rfl ?_
  exact kcl_X6_countOf_4 C 100 f x1 0 0
def cf_X6_close (f : kMem) (x1 : Int32) : Option (Int32 × kMem) := kbind (cf_X6_isOrder f x1) (fun r1 g2 => keq r1 0 (kbind (cf_X8_refuse g2 1 0) (fun r10 g11 => some (r10, g11))) (kbind (cf_X6_isOpen g2 x1) (fun r3 g4 => keq r3 0 (kbind (cf_X8_refuse g4 9 0) (fun r8 g9 => some (r8, g9))) (kchk (kin x1 10) (kmem (kup g4 23 (Int32.toNatClampNeg x1) 2) (fun g5 => kbind (cf_X6_countOf g5 0) (fun r6 g7 => some (r6, g7))))))))
set_option maxRecDepth 100000 in
set_option maxHeartbeats 4000000 in
theorem km_X6_close (l : Launch) (G : kG) (ad : Nat → Nat) (f : kMem) (x1 : Int32) (r : Int32) (fo : kMem) (h : cf_X6_close f x1 = some (r, fo)) : kMet l (wC G ad) yX6_close cX6_close 3 (some .int) 2 [.ref (kad (wC G ad) 18), .int x1, .ref (kad (wC G ad) 277)] f r fo := by
  refine kMet_of (own := RX6) (lv := [(0, .ref (kad (wC G ad) 18)), (1, .int x1), (2, .ref (kad (wC G ad) 277))]) (by decide) rfl (Nat.le_of_ble_eq_true rfl) rfl h ?_
  intro p e R s m args below meth c C
  unfold cf_X6_close
  refine K_aload_n C 0 rfl rfl dX6_close_0 ?_
  refine K_iload_n C 1 rfl rfl dX6_close_1 ?_
  refine K_callVi C (As := [.int x1]) (rest := []) (Nat.le_of_ble_eq_true rfl) (shC_18 G ad) rfl hy_X6_isOrder wm_X6_48 (by decide) ⟨Nat.le_refl _, Nat.le_refl _⟩ (fun rr ff hh => km_X6_isOrder l G ad f x1 rr ff hh) rfl rfl (Nat.le_of_ble_eq_true rfl) rfl dX6_close_2 (fun r1 g2 => ?_)
  refine K_if_ne C (tgt := 15) (by decide) dX6_close_5 ?_ ?_
  · refine K_aload_n C 0 rfl rfl dX6_close_15 ?_
    refine K_iload_n C 1 rfl rfl dX6_close_16 ?_
    refine K_callVi C (As := [.int x1]) (rest := []) (Nat.le_of_ble_eq_true rfl) (shC_18 G ad) rfl hy_X6_isOpen wm_X6_52 (by decide) ⟨Nat.le_refl _, Nat.le_refl _⟩ (fun rr ff hh => km_X6_isOpen l G ad g2 x1 rr ff hh) rfl rfl (Nat.le_of_ble_eq_true rfl) rfl dX6_close_17 (fun r3 g4 => ?_)
    refine K_if_ne C (tgt := 31) (by decide) dX6_close_20 ?_ ?_
    · refine K_aload_n C 0 rfl rfl dX6_close_31 ?_
      refine K_getR C kin_X6 rfl (Nat.le_of_ble_eq_true rfl) (shC_18 G ad) 5 (by decide) (b := 23) rfl wf_X6_24 rfl dX6_close_32 ?_
      refine K_iload_n C 1 rfl rfl dX6_close_35 ?_
      refine K_iconst C (v := 2) (by decide) dX6_close_36 ?_
      refine K_iast C (Nat.le_of_ble_eq_true rfl) (shC_23 G ad) dX6_close_37 (fun g5 => ?_)
      refine K_aload_n C 0 rfl rfl dX6_close_38 ?_
      refine K_iconst C (v := 0) (by decide) dX6_close_39 ?_
      refine K_callVi C (As := [.int 0]) (rest := []) (Nat.le_of_ble_eq_true rfl) (shC_18 G ad) rfl hy_X6_countOf wm_X6_55 (by decide) ⟨Nat.le_refl _, Nat.le_refl _⟩ (fun rr ff hh => km_X6_countOf l G ad g5 0 rr ff hh) rfl rfl (Nat.le_of_ble_eq_true rfl) rfl dX6_close_40 (fun r6 g7 => ?_)
      exact K_ret C rfl rfl dX6_close_43
    · refine K_aload_n C 2 rfl rfl dX6_close_23 ?_
      refine K_bipush C (v := 9) (by decide) dX6_close_24 ?_
      refine K_iconst C (v := 0) (by decide) dX6_close_26 ?_
      refine K_callVi C (As := [.int 9, .int 0]) (rest := []) (Nat.le_of_ble_eq_true rfl) (shC_277 G ad) rfl hy_X8_refuse wm_X6_42 (by decide) ⟨Nat.le_refl _, Nat.le_refl _⟩ (fun rr ff hh => km_X8_refuse l G ad g4 9 0 rr ff hh) rfl rfl (Nat.le_of_ble_eq_true rfl) rfl dX6_close_27 (fun r8 g9 => ?_)
      exact K_ret C rfl rfl dX6_close_30
  · refine K_aload_n C 2 rfl rfl dX6_close_8 ?_
    refine K_iconst C (v := 1) (by decide) dX6_close_9 ?_
    refine K_iconst C (v := 0) (by decide) dX6_close_10 ?_
    refine K_callVi C (As := [.int 1, .int 0]) (rest := []) (Nat.le_of_ble_eq_true rfl) (shC_277 G ad) rfl hy_X8_refuse wm_X6_42 (by decide) ⟨Nat.le_refl _, Nat.le_refl _⟩ (fun rr ff hh => km_X8_refuse l G ad g2 1 0 rr ff hh) rfl rfl (Nat.le_of_ble_eq_true rfl) rfl dX6_close_11 (fun r10 g11 => ?_)
    exact K_ret C rfl rfl dX6_close_14
def cl_X6_lateWeeksOfDelivered_4 : Nat → kMem → Int32 → Int32 → Option (Int32 × kMem)
  | 0, _, _, _ => none
  | n + 1, f, x1, x2 => kle (f 18 0) x2 (some (x1, f)) (kchk (kin x2 10) (keq (f 23 (Int32.toNatClampNeg x2)) 1 (kchk (kin x2 10) (klet (x1 + (f 24 (Int32.toNatClampNeg x2))) (fun x1_3 => klet (x2 + Int32.ofInt 1) (fun x2_4 => ((cl_X6_lateWeeksOfDelivered_4 n) f x1_3 x2_4))))) (klet (x1 + 0) (fun x1_1 => klet (x2 + Int32.ofInt 1) (fun x2_2 => ((cl_X6_lateWeeksOfDelivered_4 n) f x1_1 x2_2))))))
def cf_X6_lateWeeksOfDelivered (f : kMem) : Option (Int32 × kMem) := (cl_X6_lateWeeksOfDelivered_4 100 f 0 0)
set_option maxRecDepth 100000 in
set_option maxHeartbeats 4000000 in
theorem kcl_X6_lateWeeksOfDelivered_4 {p : Program} {l : Launch} {e : Env} {R : Room} {s : State} {m : MethodId} {args : Array Value} {below : List Frame} {meth : Method} {c : Code} {G : kG} {ad : Nat → Nat} {z : Int32 × kMem} (C : KC p l e R s m args below meth c (wC G ad) RX6 cX6_lateWeeksOfDelivered 3 (some .int) 0 0 0)  : ∀ (n : Nat) (f : kMem) (x1 x2 : Int32), K p l e R s m args below meth c (wC G ad) 3 (kQF below (wC G ad) (some .int) args s z) z 0 0 f 4 [(0, .ref (kad (wC G ad) 18)), (1, .int x1), (2, .int x2)] [] (cl_X6_lateWeeksOfDelivered_4 n f x1 x2) := by
  intro n
  induction n with
  | zero => intro f x1 x2; exact K_none
  | succ n ih =>
    intro f x1 x2
    unfold cl_X6_lateWeeksOfDelivered_4
    refine K_iload_n C 2 rfl rfl dX6_lateWeeksOfDelivered_4 ?_
    refine K_aload_n C 0 rfl rfl dX6_lateWeeksOfDelivered_5 ?_
    refine K_getI C kin_X6 rfl (Nat.le_of_ble_eq_true rfl) (shC_18 G ad) 0 (by decide) rfl wf_X6_30 rfl dX6_lateWeeksOfDelivered_6 ?_
    refine K_icmp_ge C (tgt := 41) (by decide) dX6_lateWeeksOfDelivered_9 ?_ ?_
    · refine K_iload_n C 1 rfl rfl dX6_lateWeeksOfDelivered_41 ?_
      exact K_ret C rfl rfl dX6_lateWeeksOfDelivered_42
    · refine K_iload_n C 1 rfl rfl dX6_lateWeeksOfDelivered_12 ?_
      refine K_aload_n C 0 rfl rfl dX6_lateWeeksOfDelivered_13 ?_
      refine K_getR C kin_X6 rfl (Nat.le_of_ble_eq_true rfl) (shC_18 G ad) 5 (by decide) (b := 23) rfl wf_X6_24 rfl dX6_lateWeeksOfDelivered_14 ?_
      refine K_iload_n C 2 rfl rfl dX6_lateWeeksOfDelivered_17 ?_
      refine K_iald C (Nat.le_of_ble_eq_true rfl) (shC_23 G ad) dX6_lateWeeksOfDelivered_18 ?_
      refine K_iconst C (v := 1) (by decide) dX6_lateWeeksOfDelivered_19 ?_
      refine K_icmp_ne C (tgt := 32) (by decide) dX6_lateWeeksOfDelivered_20 ?_ ?_
      · refine K_iconst C (v := 0) (by decide) dX6_lateWeeksOfDelivered_32 ?_
        refine K_iadd C dX6_lateWeeksOfDelivered_33 ?_
        refine K_let rfl (fun x1_1 => ?_)
        refine K_istore_n C (lv1 := [(1, .int x1_1), (0, .ref (kad (wC G ad) 18)), (2, .int x2)]) rfl (by decide) rfl dX6_lateWeeksOfDelivered_34 ?_
        refine K_iinc C (k := 2) (lv1 := fun x2_2 => [(2, .int x2_2), (1, .int x1_1), (0, .ref (kad (wC G ad) 18))]) rfl (by decide) (fun _ => rfl) dX6_lateWeeksOfDelivered_35 (fun x2_2 => ?_)
        refine K_goto C (tgt := 4) (by decide) dX6_lateWeeksOfDelivered_38 ?_
        refine K_sub [2, 1, 0] rfl ?_
        exact ih f x1_1 x2_2
      · refine K_aload_n C 0 rfl rfl dX6_lateWeeksOfDelivered_23 ?_
        refine K_getR C kin_X6 rfl (Nat.le_of_ble_eq_true rfl) (shC_18 G ad) 6 (by decide) (b := 24) rfl wf_X6_27 rfl dX6_lateWeeksOfDelivered_24 ?_
        refine K_iload_n C 2 rfl rfl dX6_lateWeeksOfDelivered_27 ?_
        refine K_iald C (Nat.le_of_ble_eq_true rfl) (shC_24 G ad) dX6_lateWeeksOfDelivered_28 ?_
        refine K_goto C (tgt := 33) (by decide) dX6_lateWeeksOfDelivered_29 ?_
        refine K_iadd C dX6_lateWeeksOfDelivered_33 ?_
        refine K_let rfl (fun x1_3 => ?_)
        refine K_istore_n C (lv1 := [(1, .int x1_3), (0, .ref (kad (wC G ad) 18)), (2, .int x2)]) rfl (by decide) rfl dX6_lateWeeksOfDelivered_34 ?_
        refine K_iinc C (k := 2) (lv1 := fun x2_4 => [(2, .int x2_4), (1, .int x1_3), (0, .ref (kad (wC G ad) 18))]) rfl (by decide) (fun _ => rfl) dX6_lateWeeksOfDelivered_35 (fun x2_4 => ?_)
        refine K_goto C (tgt := 4) (by decide) dX6_lateWeeksOfDelivered_38 ?_
        refine K_sub [2, 1, 0] rfl ?_
        exact ih f x1_3 x2_4
set_option maxRecDepth 100000 in
set_option maxHeartbeats 4000000 in
theorem km_X6_lateWeeksOfDelivered (l : Launch) (G : kG) (ad : Nat → Nat) (f : kMem) (r : Int32) (fo : kMem) (h : cf_X6_lateWeeksOfDelivered f = some (r, fo)) : kMet l (wC G ad) yX6_lateWeeksOfDelivered cX6_lateWeeksOfDelivered 3 (some .int) 0 [.ref (kad (wC G ad) 18)] f r fo := by
  refine kMet_of (own := RX6) (lv := [(0, .ref (kad (wC G ad) 18))]) (by decide) rfl (Nat.le_of_ble_eq_true rfl) rfl h ?_
  intro p e R s m args below meth c C
  unfold cf_X6_lateWeeksOfDelivered
  refine K_iconst C (v := 0) (by decide) dX6_lateWeeksOfDelivered_0 ?_
  refine K_istore_n C (lv1 := [(1, .int 0), (0, .ref (kad (wC G ad) 18))]) rfl (by decide) rfl dX6_lateWeeksOfDelivered_1 ?_
  refine K_iconst C (v := 0) (by decide) dX6_lateWeeksOfDelivered_2 ?_
  refine K_istore_n C (lv1 := [(2, .int 0), (1, .int 0), (0, .ref (kad (wC G ad) 18))]) rfl (by decide) rfl dX6_lateWeeksOfDelivered_3 ?_
  refine K_sub [2, 1, 0] rfl ?_
  exact kcl_X6_lateWeeksOfDelivered_4 C 100 f 0 0
def cl_X6_openUpTo_4 : Nat → kMem → Int32 → Int32 → Int32 → Option (Int32 × kMem)
  | 0, _, _, _, _ => none
  | n + 1, f, x1, x2, x3 => kle (f 18 0) x3 (some (x2, f)) (kbind (cf_X6_isOpen f x3) (fun r1 g2 => keq r1 0 (klet (x2 ||| 0) (fun x2_3 => klet (x3 + Int32.ofInt 1) (fun x3_4 => ((cl_X6_openUpTo_4 n) g2 x1 x2_3 x3_4)))) (kchk (kin x3 10) (klt x1 (g2 22 (Int32.toNatClampNeg x3)) (klet (x2 ||| 0) (fun x2_5 => klet (x3 + Int32.ofInt 1) (fun x3_6 => ((cl_X6_openUpTo_4 n) g2 x1 x2_5 x3_6)))) (klet (x2 ||| (1 <<< (x3 &&& 31))) (fun x2_7 => klet (x3 + Int32.ofInt 1) (fun x3_8 => ((cl_X6_openUpTo_4 n) g2 x1 x2_7 x3_8))))))))
def cf_X6_openUpTo (f : kMem) (x1 : Int32) : Option (Int32 × kMem) := (cl_X6_openUpTo_4 100 f x1 0 0)
set_option maxRecDepth 100000 in
set_option maxHeartbeats 4000000 in
theorem kcl_X6_openUpTo_4 {p : Program} {l : Launch} {e : Env} {R : Room} {s : State} {m : MethodId} {args : Array Value} {below : List Frame} {meth : Method} {c : Code} {G : kG} {ad : Nat → Nat} {z : Int32 × kMem} (C : KC p l e R s m args below meth c (wC G ad) RX6 cX6_openUpTo 4 (some .int) 1 0 0)  : ∀ (n : Nat) (f : kMem) (x1 x2 x3 : Int32), K p l e R s m args below meth c (wC G ad) 4 (kQF below (wC G ad) (some .int) args s z) z 0 0 f 4 [(0, .ref (kad (wC G ad) 18)), (1, .int x1), (2, .int x2), (3, .int x3)] [] (cl_X6_openUpTo_4 n f x1 x2 x3) := by
  intro n
  induction n with
  | zero => intro f x1 x2 x3; exact K_none
  | succ n ih =>
    intro f x1 x2 x3
    unfold cl_X6_openUpTo_4
    refine K_iload_n C 3 rfl rfl dX6_openUpTo_4 ?_
    refine K_aload_n C 0 rfl rfl dX6_openUpTo_5 ?_
    refine K_getI C kin_X6 rfl (Nat.le_of_ble_eq_true rfl) (shC_18 G ad) 0 (by decide) rfl wf_X6_30 rfl dX6_openUpTo_6 ?_
    refine K_icmp_ge C (tgt := 46) (by decide) dX6_openUpTo_9 ?_ ?_
    · refine K_iload_n C 2 rfl rfl dX6_openUpTo_46 ?_
      exact K_ret C rfl rfl dX6_openUpTo_47
    · refine K_iload_n C 2 rfl rfl dX6_openUpTo_12 ?_
      refine K_aload_n C 0 rfl rfl dX6_openUpTo_13 ?_
      refine K_iload_n C 3 rfl rfl dX6_openUpTo_14 ?_
      refine K_callVi C (As := [.int x3]) (rest := [.int x2]) (Nat.le_of_ble_eq_true rfl) (shC_18 G ad) rfl hy_X6_isOpen wm_X6_52 (by decide) ⟨Nat.le_refl _, Nat.le_refl _⟩ (fun rr ff hh => km_X6_isOpen l G ad f x3 rr ff hh) rfl rfl (Nat.le_of_ble_eq_true rfl) rfl dX6_openUpTo_15 (fun r1 g2 => ?_)
      refine K_if_eq C (tgt := 37) (by decide) dX6_openUpTo_18 ?_ ?_
      · refine K_iconst C (v := 0) (by decide) dX6_openUpTo_37 ?_
        refine K_ior C dX6_openUpTo_38 ?_
        refine K_let rfl (fun x2_3 => ?_)
        refine K_istore_n C (lv1 := [(2, .int x2_3), (0, .ref (kad (wC G ad) 18)), (1, .int x1), (3, .int x3)]) rfl (by decide) rfl dX6_openUpTo_39 ?_
        refine K_iinc C (k := 3) (lv1 := fun x3_4 => [(3, .int x3_4), (2, .int x2_3), (0, .ref (kad (wC G ad) 18)), (1, .int x1)]) rfl (by decide) (fun _ => rfl) dX6_openUpTo_40 (fun x3_4 => ?_)
        refine K_goto C (tgt := 4) (by decide) dX6_openUpTo_43 ?_
        refine K_sub [2, 3, 1, 0] rfl ?_
        exact ih g2 x1 x2_3 x3_4
      · refine K_aload_n C 0 rfl rfl dX6_openUpTo_21 ?_
        refine K_getR C kin_X6 rfl (Nat.le_of_ble_eq_true rfl) (shC_18 G ad) 4 (by decide) (b := 22) rfl wf_X6_21 rfl dX6_openUpTo_22 ?_
        refine K_iload_n C 3 rfl rfl dX6_openUpTo_25 ?_
        refine K_iald C (Nat.le_of_ble_eq_true rfl) (shC_22 G ad) dX6_openUpTo_26 ?_
        refine K_iload_n C 1 rfl rfl dX6_openUpTo_27 ?_
        refine K_icmp_gt C (tgt := 37) (by decide) dX6_openUpTo_28 ?_ ?_
        · refine K_iconst C (v := 0) (by decide) dX6_openUpTo_37 ?_
          refine K_ior C dX6_openUpTo_38 ?_
          refine K_let rfl (fun x2_5 => ?_)
          refine K_istore_n C (lv1 := [(2, .int x2_5), (0, .ref (kad (wC G ad) 18)), (1, .int x1), (3, .int x3)]) rfl (by decide) rfl dX6_openUpTo_39 ?_
          refine K_iinc C (k := 3) (lv1 := fun x3_6 => [(3, .int x3_6), (2, .int x2_5), (0, .ref (kad (wC G ad) 18)), (1, .int x1)]) rfl (by decide) (fun _ => rfl) dX6_openUpTo_40 (fun x3_6 => ?_)
          refine K_goto C (tgt := 4) (by decide) dX6_openUpTo_43 ?_
          refine K_sub [2, 3, 1, 0] rfl ?_
          exact ih g2 x1 x2_5 x3_6
        · refine K_iconst C (v := 1) (by decide) dX6_openUpTo_31 ?_
          refine K_iload_n C 3 rfl rfl dX6_openUpTo_32 ?_
          refine K_ishl C dX6_openUpTo_33 ?_
          refine K_goto C (tgt := 38) (by decide) dX6_openUpTo_34 ?_
          refine K_ior C dX6_openUpTo_38 ?_
          refine K_let rfl (fun x2_7 => ?_)
          refine K_istore_n C (lv1 := [(2, .int x2_7), (0, .ref (kad (wC G ad) 18)), (1, .int x1), (3, .int x3)]) rfl (by decide) rfl dX6_openUpTo_39 ?_
          refine K_iinc C (k := 3) (lv1 := fun x3_8 => [(3, .int x3_8), (2, .int x2_7), (0, .ref (kad (wC G ad) 18)), (1, .int x1)]) rfl (by decide) (fun _ => rfl) dX6_openUpTo_40 (fun x3_8 => ?_)
          refine K_goto C (tgt := 4) (by decide) dX6_openUpTo_43 ?_
          refine K_sub [2, 3, 1, 0] rfl ?_
          exact ih g2 x1 x2_7 x3_8
set_option maxRecDepth 100000 in
set_option maxHeartbeats 4000000 in
theorem km_X6_openUpTo (l : Launch) (G : kG) (ad : Nat → Nat) (f : kMem) (x1 : Int32) (r : Int32) (fo : kMem) (h : cf_X6_openUpTo f x1 = some (r, fo)) : kMet l (wC G ad) yX6_openUpTo cX6_openUpTo 4 (some .int) 1 [.ref (kad (wC G ad) 18), .int x1] f r fo := by
  refine kMet_of (own := RX6) (lv := [(0, .ref (kad (wC G ad) 18)), (1, .int x1)]) (by decide) rfl (Nat.le_of_ble_eq_true rfl) rfl h ?_
  intro p e R s m args below meth c C
  unfold cf_X6_openUpTo
  refine K_iconst C (v := 0) (by decide) dX6_openUpTo_0 ?_
  refine K_istore_n C (lv1 := [(2, .int 0), (0, .ref (kad (wC G ad) 18)), (1, .int x1)]) rfl (by decide) rfl dX6_openUpTo_1 ?_
  refine K_iconst C (v := 0) (by decide) dX6_openUpTo_2 ?_
  refine K_istore_n C (lv1 := [(3, .int 0), (2, .int 0), (0, .ref (kad (wC G ad) 18)), (1, .int x1)]) rfl (by decide) rfl dX6_openUpTo_3 ?_
  refine K_sub [2, 3, 1, 0] rfl ?_
  exact kcl_X6_openUpTo_4 C 100 f x1 0 0
def cf_X7_isNumberRead (f : kMem) (x2 x3 x4 : Int32) : Option (Int32 × kMem) := kbind (cf_X10_number f x4) (fun r1 g2 => kchk (kin ((x2 * 3) + x3) 120) (kmem (kup g2 287 (Int32.toNatClampNeg ((x2 * 3) + x3)) r1) (fun g3 => keq r1 (-1) (some (0, g3)) (some (1, g3)))))
set_option maxRecDepth 100000 in
set_option maxHeartbeats 4000000 in
theorem km_X7_isNumberRead (l : Launch) (G : kG) (ad : Nat → Nat) (f : kMem) (x2 x3 x4 : Int32) (r : Int32) (fo : kMem) (h : cf_X7_isNumberRead f x2 x3 x4 = some (r, fo)) : kMet l (wC G ad) yX7_isNumberRead cX7_isNumberRead 6 (some .boolean) 2 [.ref (kad (wC G ad) 285), .ref (kad (wC G ad) 280), .int x2, .int x3, .int x4] f r fo := by
  refine kMet_of (own := RX7) (lv := [(0, .ref (kad (wC G ad) 285)), (1, .ref (kad (wC G ad) 280)), (2, .int x2), (3, .int x3), (4, .int x4)]) (by decide) rfl (Nat.le_of_ble_eq_true rfl) rfl h ?_
  intro p e R s m args below meth c C
  unfold cf_X7_isNumberRead
  refine K_aload_n C 1 rfl rfl dX7_isNumberRead_0 ?_
  refine K_iload C 4 rfl dX7_isNumberRead_1 ?_
  refine K_callVi C (As := [.int x4]) (rest := []) (Nat.le_of_ble_eq_true rfl) (shC_280 G ad) rfl hy_X10_number wm_X7_51 (by decide) ⟨Nat.le_refl _, Nat.le_refl _⟩ (fun rr ff hh => km_X10_number l G ad f x4 rr ff hh) rfl rfl (Nat.le_of_ble_eq_true rfl) rfl dX7_isNumberRead_3 (fun r1 g2 => ?_)
  refine K_istore C (lv1 := [(5, .int r1), (0, .ref (kad (wC G ad) 285)), (1, .ref (kad (wC G ad) 280)), (2, .int x2), (3, .int x3), (4, .int x4)]) (by decide) rfl dX7_isNumberRead_6 ?_
  refine K_aload_n C 1 rfl rfl dX7_isNumberRead_8 ?_
  refine K_getR C kin_X7 rfl (Nat.le_of_ble_eq_true rfl) (shC_285 G ad) 1 (by decide) (b := 287) rfl wf_X7_15 rfl dX7_isNumberRead_9 ?_
  refine K_iload_n C 3 rfl rfl dX7_isNumberRead_12 ?_
  refine K_iconst C (v := 3) (by decide) dX7_isNumberRead_13 ?_
  refine K_imul C dX7_isNumberRead_14 ?_
  refine K_iload_n C 4 rfl rfl dX7_isNumberRead_15 ?_
  refine K_iadd C dX7_isNumberRead_16 ?_
  refine K_iload C 0 rfl dX7_isNumberRead_17 ?_
  refine K_iast C (Nat.le_of_ble_eq_true rfl) (shC_287 G ad) dX7_isNumberRead_19 (fun g3 => ?_)
  refine K_iload C 0 rfl dX7_isNumberRead_20 ?_
  refine K_iconst C (v := (-1)) (by decide) dX7_isNumberRead_22 ?_
  refine K_icmp_eq C (tgt := 30) (by decide) dX7_isNumberRead_23 ?_ ?_
  · refine K_iconst C (v := 0) (by decide) dX7_isNumberRead_30 ?_
    exact K_ret C rfl (by decide) dX7_isNumberRead_31
  · refine K_iconst C (v := 1) (by decide) dX7_isNumberRead_26 ?_
    refine K_goto C (tgt := 31) (by decide) dX7_isNumberRead_27 ?_
    exact K_ret C rfl (by decide) dX7_isNumberRead_31
def cj_X7_isCommandRead_146 (f : kMem) (x2 t0 : Int32) : Option (Int32 × kMem) := keq t0 0 (some (0, f)) (kbind (cf_X10_skip f 103) (fun r12 g13 => keq r12 0 (some (0, g13)) (kbind (cf_X7_isNumberRead g13 x2 2 5) (fun r14 g15 => keq r14 0 (some (0, g15)) (some (1, g15))))))
def cj_X7_isCommandRead_145 (f : kMem) (x2 : Int32) : Option (Int32 × kMem) := (cj_X7_isCommandRead_146 f x2 0)
def cf_X7_isCommandRead (f : kMem) (x2 : Int32) : Option (Int32 × kMem) := kbind (cf_X10_skip f 109) (fun r1 g2 => keq r1 0 (kbind (cf_X10_skip g2 114) (fun r3 g4 => keq r3 0 (kbind (cf_X10_skip g4 119) (fun r5 g6 => keq r5 0 (kbind (cf_X10_skip g6 108) (fun r7 g8 => keq r7 0 (some (0, g8)) (kchk (kin x2 40) (kmem (kup g8 286 (Int32.toNatClampNeg x2) 3) (fun g9 => kbind (cf_X7_isNumberRead g9 x2 0 1) (fun r10 g11 => keq r10 0 ((cj_X7_isCommandRead_145 g11 x2)) (kbind (cf_X7_isNumberRead g11 x2 1 1) (fun r16 g17 => keq r16 0 ((cj_X7_isCommandRead_145 g17 x2)) ((cj_X7_isCommandRead_146 g17 x2 1)))))))))) (kchk (kin x2 40) (kmem (kup g6 286 (Int32.toNatClampNeg x2) 2) (fun g18 => kbind (cf_X7_isNumberRead g18 x2 0 3) (fun r19 g20 => kchk (kbool r19) (some (r19, g20)))))))) (kchk (kin x2 40) (kmem (kup g4 286 (Int32.toNatClampNeg x2) 1) (fun g21 => kbind (cf_X7_isNumberRead g21 x2 0 1) (fun r22 g23 => keq r22 0 (some (0, g23)) (kbind (cf_X10_skip g23 120) (fun r24 g25 => keq r24 0 (some (0, g25)) (kbind (cf_X7_isNumberRead g25 x2 1 3) (fun r26 g27 => keq r26 0 (some (0, g27)) (some (1, g27)))))))))))) (kchk (kin x2 40) (kmem (kup g2 286 (Int32.toNatClampNeg x2) 0) (fun g28 => kbind (cf_X7_isNumberRead g28 x2 0 1) (fun r29 g30 => kchk (kbool r29) (some (r29, g30)))))))
set_option maxRecDepth 100000 in
set_option maxHeartbeats 4000000 in
theorem kcj_X7_isCommandRead_146 {p : Program} {l : Launch} {e : Env} {R : Room} {s : State} {m : MethodId} {args : Array Value} {below : List Frame} {meth : Method} {c : Code} {G : kG} {ad : Nat → Nat} {z : Int32 × kMem} (C : KC p l e R s m args below meth c (wC G ad) RX7 cX7_isCommandRead 4 (some .boolean) 3 0 0)  (f : kMem) (x2 t0 : Int32) : K p l e R s m args below meth c (wC G ad) 4 (kQF below (wC G ad) (some .boolean) args s z) z 0 0 f 146 [(0, .ref (kad (wC G ad) 285)), (1, .ref (kad (wC G ad) 280)), (2, .int x2)] [.int t0] (cj_X7_isCommandRead_146 f x2 t0) := by
  unfold cj_X7_isCommandRead_146
  refine K_istore_n C (lv1 := [(3, .int t0), (0, .ref (kad (wC G ad) 285)), (1, .ref (kad (wC G ad) 280)), (2, .int x2)]) rfl (by decide) rfl dX7_isCommandRead_146 ?_
  refine K_iload_n C 0 rfl rfl dX7_isCommandRead_147 ?_
  refine K_if_eq C (tgt := 175) (by decide) dX7_isCommandRead_148 ?_ ?_
  · refine K_iconst C (v := 0) (by decide) dX7_isCommandRead_175 ?_
    exact K_ret C rfl (by decide) dX7_isCommandRead_176
  · refine K_aload_n C 2 rfl rfl dX7_isCommandRead_151 ?_
    refine K_bipush C (v := 103) (by decide) dX7_isCommandRead_152 ?_
    refine K_callVi C (As := [.int 103]) (rest := []) (Nat.le_of_ble_eq_true rfl) (shC_280 G ad) rfl hy_X10_skip wm_X7_35 (by decide) ⟨Nat.le_refl _, Nat.le_refl _⟩ (fun rr ff hh => km_X10_skip l G ad f 103 rr ff hh) rfl rfl (Nat.le_of_ble_eq_true rfl) rfl dX7_isCommandRead_154 (fun r12 g13 => ?_)
    refine K_if_eq C (tgt := 175) (by decide) dX7_isCommandRead_157 ?_ ?_
    · refine K_iconst C (v := 0) (by decide) dX7_isCommandRead_175 ?_
      exact K_ret C rfl (by decide) dX7_isCommandRead_176
    · refine K_aload_n C 1 rfl rfl dX7_isCommandRead_160 ?_
      refine K_aload_n C 2 rfl rfl dX7_isCommandRead_161 ?_
      refine K_iload_n C 3 rfl rfl dX7_isCommandRead_162 ?_
      refine K_iconst C (v := 2) (by decide) dX7_isCommandRead_163 ?_
      refine K_iconst C (v := 5) (by decide) dX7_isCommandRead_164 ?_
      refine K_callVi C (As := [.ref (kad (wC G ad) 280), .int x2, .int 2, .int 5]) (rest := []) (Nat.le_of_ble_eq_true rfl) (shC_285 G ad) rfl hy_X7_isNumberRead wm_X7_47 (by decide) ⟨Nat.le_refl _, Nat.le_refl _⟩ (fun rr ff hh => km_X7_isNumberRead l G ad g13 x2 2 5 rr ff hh) rfl rfl (Nat.le_of_ble_eq_true rfl) rfl dX7_isCommandRead_165 (fun r14 g15 => ?_)
      refine K_if_eq C (tgt := 175) (by decide) dX7_isCommandRead_168 ?_ ?_
      · refine K_iconst C (v := 0) (by decide) dX7_isCommandRead_175 ?_
        exact K_ret C rfl (by decide) dX7_isCommandRead_176
      · refine K_iconst C (v := 1) (by decide) dX7_isCommandRead_171 ?_
        refine K_goto C (tgt := 176) (by decide) dX7_isCommandRead_172 ?_
        exact K_ret C rfl (by decide) dX7_isCommandRead_176
set_option maxRecDepth 100000 in
set_option maxHeartbeats 4000000 in
theorem kcj_X7_isCommandRead_145 {p : Program} {l : Launch} {e : Env} {R : Room} {s : State} {m : MethodId} {args : Array Value} {below : List Frame} {meth : Method} {c : Code} {G : kG} {ad : Nat → Nat} {z : Int32 × kMem} (C : KC p l e R s m args below meth c (wC G ad) RX7 cX7_isCommandRead 4 (some .boolean) 3 0 0)  (f : kMem) (x2 : Int32) : K p l e R s m args below meth c (wC G ad) 4 (kQF below (wC G ad) (some .boolean) args s z) z 0 0 f 145 [(0, .ref (kad (wC G ad) 285)), (1, .ref (kad (wC G ad) 280)), (2, .int x2)] [] (cj_X7_isCommandRead_145 f x2) := by
  unfold cj_X7_isCommandRead_145
  refine K_iconst C (v := 0) (by decide) dX7_isCommandRead_145 ?_
  exact kcj_X7_isCommandRead_146 C f x2 0
set_option maxRecDepth 100000 in
set_option maxHeartbeats 4000000 in
theorem km_X7_isCommandRead (l : Launch) (G : kG) (ad : Nat → Nat) (f : kMem) (x2 : Int32) (r : Int32) (fo : kMem) (h : cf_X7_isCommandRead f x2 = some (r, fo)) : kMet l (wC G ad) yX7_isCommandRead cX7_isCommandRead 4 (some .boolean) 3 [.ref (kad (wC G ad) 285), .ref (kad (wC G ad) 280), .int x2] f r fo := by
  refine kMet_of (own := RX7) (lv := [(0, .ref (kad (wC G ad) 285)), (1, .ref (kad (wC G ad) 280)), (2, .int x2)]) (by decide) rfl (Nat.le_of_ble_eq_true rfl) rfl h ?_
  intro p e R s m args below meth c C
  unfold cf_X7_isCommandRead
  refine K_aload_n C 1 rfl rfl dX7_isCommandRead_0 ?_
  refine K_bipush C (v := 109) (by decide) dX7_isCommandRead_1 ?_
  refine K_callVi C (As := [.int 109]) (rest := []) (Nat.le_of_ble_eq_true rfl) (shC_280 G ad) rfl hy_X10_skip wm_X7_35 (by decide) ⟨Nat.le_refl _, Nat.le_refl _⟩ (fun rr ff hh => km_X10_skip l G ad f 109 rr ff hh) rfl rfl (Nat.le_of_ble_eq_true rfl) rfl dX7_isCommandRead_3 (fun r1 g2 => ?_)
  refine K_if_eq C (tgt := 25) (by decide) dX7_isCommandRead_6 ?_ ?_
  · refine K_aload_n C 1 rfl rfl dX7_isCommandRead_25 ?_
    refine K_bipush C (v := 114) (by decide) dX7_isCommandRead_26 ?_
    refine K_callVi C (As := [.int 114]) (rest := []) (Nat.le_of_ble_eq_true rfl) (shC_280 G ad) rfl hy_X10_skip wm_X7_35 (by decide) ⟨Nat.le_refl _, Nat.le_refl _⟩ (fun rr ff hh => km_X10_skip l G ad g2 114 rr ff hh) rfl rfl (Nat.le_of_ble_eq_true rfl) rfl dX7_isCommandRead_28 (fun r3 g4 => ?_)
    refine K_if_eq C (tgt := 78) (by decide) dX7_isCommandRead_31 ?_ ?_
    · refine K_aload_n C 1 rfl rfl dX7_isCommandRead_78 ?_
      refine K_bipush C (v := 119) (by decide) dX7_isCommandRead_79 ?_
      refine K_callVi C (As := [.int 119]) (rest := []) (Nat.le_of_ble_eq_true rfl) (shC_280 G ad) rfl hy_X10_skip wm_X7_35 (by decide) ⟨Nat.le_refl _, Nat.le_refl _⟩ (fun rr ff hh => km_X10_skip l G ad g4 119 rr ff hh) rfl rfl (Nat.le_of_ble_eq_true rfl) rfl dX7_isCommandRead_81 (fun r5 g6 => ?_)
      refine K_if_eq C (tgt := 103) (by decide) dX7_isCommandRead_84 ?_ ?_
      · refine K_aload_n C 1 rfl rfl dX7_isCommandRead_103 ?_
        refine K_bipush C (v := 108) (by decide) dX7_isCommandRead_104 ?_
        refine K_callVi C (As := [.int 108]) (rest := []) (Nat.le_of_ble_eq_true rfl) (shC_280 G ad) rfl hy_X10_skip wm_X7_35 (by decide) ⟨Nat.le_refl _, Nat.le_refl _⟩ (fun rr ff hh => km_X10_skip l G ad g6 108 rr ff hh) rfl rfl (Nat.le_of_ble_eq_true rfl) rfl dX7_isCommandRead_106 (fun r7 g8 => ?_)
        refine K_if_eq C (tgt := 177) (by decide) dX7_isCommandRead_109 ?_ ?_
        · refine K_iconst C (v := 0) (by decide) dX7_isCommandRead_177 ?_
          exact K_ret C rfl (by decide) dX7_isCommandRead_178
        · refine K_aload_n C 0 rfl rfl dX7_isCommandRead_112 ?_
          refine K_getR C kin_X7 rfl (Nat.le_of_ble_eq_true rfl) (shC_285 G ad) 0 (by decide) (b := 286) rfl wf_X7_11 rfl dX7_isCommandRead_113 ?_
          refine K_iload_n C 2 rfl rfl dX7_isCommandRead_116 ?_
          refine K_iconst C (v := 3) (by decide) dX7_isCommandRead_117 ?_
          refine K_iast C (Nat.le_of_ble_eq_true rfl) (shC_286 G ad) dX7_isCommandRead_118 (fun g9 => ?_)
          refine K_aload_n C 0 rfl rfl dX7_isCommandRead_119 ?_
          refine K_aload_n C 1 rfl rfl dX7_isCommandRead_120 ?_
          refine K_iload_n C 2 rfl rfl dX7_isCommandRead_121 ?_
          refine K_iconst C (v := 0) (by decide) dX7_isCommandRead_122 ?_
          refine K_iconst C (v := 1) (by decide) dX7_isCommandRead_123 ?_
          refine K_callVi C (As := [.ref (kad (wC G ad) 280), .int x2, .int 0, .int 1]) (rest := []) (Nat.le_of_ble_eq_true rfl) (shC_285 G ad) rfl hy_X7_isNumberRead wm_X7_47 (by decide) ⟨Nat.le_refl _, Nat.le_refl _⟩ (fun rr ff hh => km_X7_isNumberRead l G ad g9 x2 0 1 rr ff hh) rfl rfl (Nat.le_of_ble_eq_true rfl) rfl dX7_isCommandRead_124 (fun r10 g11 => ?_)
          refine K_if_eq C (tgt := 145) (by decide) dX7_isCommandRead_127 ?_ ?_
          · exact kcj_X7_isCommandRead_145 C g11 x2
          · refine K_aload_n C 0 rfl rfl dX7_isCommandRead_130 ?_
            refine K_aload_n C 1 rfl rfl dX7_isCommandRead_131 ?_
            refine K_iload_n C 2 rfl rfl dX7_isCommandRead_132 ?_
            refine K_iconst C (v := 1) (by decide) dX7_isCommandRead_133 ?_
            refine K_iconst C (v := 1) (by decide) dX7_isCommandRead_134 ?_
            refine K_callVi C (As := [.ref (kad (wC G ad) 280), .int x2, .int 1, .int 1]) (rest := []) (Nat.le_of_ble_eq_true rfl) (shC_285 G ad) rfl hy_X7_isNumberRead wm_X7_47 (by decide) ⟨Nat.le_refl _, Nat.le_refl _⟩ (fun rr ff hh => km_X7_isNumberRead l G ad g11 x2 1 1 rr ff hh) rfl rfl (Nat.le_of_ble_eq_true rfl) rfl dX7_isCommandRead_135 (fun r16 g17 => ?_)
            refine K_if_eq C (tgt := 145) (by decide) dX7_isCommandRead_138 ?_ ?_
            · exact kcj_X7_isCommandRead_145 C g17 x2
            · refine K_iconst C (v := 1) (by decide) dX7_isCommandRead_141 ?_
              refine K_goto C (tgt := 146) (by decide) dX7_isCommandRead_142 ?_
              exact kcj_X7_isCommandRead_146 C g17 x2 1
      · refine K_aload_n C 0 rfl rfl dX7_isCommandRead_87 ?_
        refine K_getR C kin_X7 rfl (Nat.le_of_ble_eq_true rfl) (shC_285 G ad) 0 (by decide) (b := 286) rfl wf_X7_11 rfl dX7_isCommandRead_88 ?_
        refine K_iload_n C 2 rfl rfl dX7_isCommandRead_91 ?_
        refine K_iconst C (v := 2) (by decide) dX7_isCommandRead_92 ?_
        refine K_iast C (Nat.le_of_ble_eq_true rfl) (shC_286 G ad) dX7_isCommandRead_93 (fun g18 => ?_)
        refine K_aload_n C 0 rfl rfl dX7_isCommandRead_94 ?_
        refine K_aload_n C 1 rfl rfl dX7_isCommandRead_95 ?_
        refine K_iload_n C 2 rfl rfl dX7_isCommandRead_96 ?_
        refine K_iconst C (v := 0) (by decide) dX7_isCommandRead_97 ?_
        refine K_iconst C (v := 3) (by decide) dX7_isCommandRead_98 ?_
        refine K_callVi C (As := [.ref (kad (wC G ad) 280), .int x2, .int 0, .int 3]) (rest := []) (Nat.le_of_ble_eq_true rfl) (shC_285 G ad) rfl hy_X7_isNumberRead wm_X7_47 (by decide) ⟨Nat.le_refl _, Nat.le_refl _⟩ (fun rr ff hh => km_X7_isNumberRead l G ad g18 x2 0 3 rr ff hh) rfl rfl (Nat.le_of_ble_eq_true rfl) rfl dX7_isCommandRead_99 (fun r19 g20 => ?_)
        exact K_bret C rfl dX7_isCommandRead_102
    · refine K_aload_n C 0 rfl rfl dX7_isCommandRead_34 ?_
      refine K_getR C kin_X7 rfl (Nat.le_of_ble_eq_true rfl) (shC_285 G ad) 0 (by decide) (b := 286) rfl wf_X7_11 rfl dX7_isCommandRead_35 ?_
      refine K_iload_n C 2 rfl rfl dX7_isCommandRead_38 ?_
      refine K_iconst C (v := 1) (by decide) dX7_isCommandRead_39 ?_
      refine K_iast C (Nat.le_of_ble_eq_true rfl) (shC_286 G ad) dX7_isCommandRead_40 (fun g21 => ?_)
      refine K_aload_n C 0 rfl rfl dX7_isCommandRead_41 ?_
      refine K_aload_n C 1 rfl rfl dX7_isCommandRead_42 ?_
      refine K_iload_n C 2 rfl rfl dX7_isCommandRead_43 ?_
      refine K_iconst C (v := 0) (by decide) dX7_isCommandRead_44 ?_
      refine K_iconst C (v := 1) (by decide) dX7_isCommandRead_45 ?_
      refine K_callVi C (As := [.ref (kad (wC G ad) 280), .int x2, .int 0, .int 1]) (rest := []) (Nat.le_of_ble_eq_true rfl) (shC_285 G ad) rfl hy_X7_isNumberRead wm_X7_47 (by decide) ⟨Nat.le_refl _, Nat.le_refl _⟩ (fun rr ff hh => km_X7_isNumberRead l G ad g21 x2 0 1 rr ff hh) rfl rfl (Nat.le_of_ble_eq_true rfl) rfl dX7_isCommandRead_46 (fun r22 g23 => ?_)
      refine K_if_eq C (tgt := 76) (by decide) dX7_isCommandRead_49 ?_ ?_
      · refine K_iconst C (v := 0) (by decide) dX7_isCommandRead_76 ?_
        exact K_ret C rfl (by decide) dX7_isCommandRead_77
      · refine K_aload_n C 1 rfl rfl dX7_isCommandRead_52 ?_
        refine K_bipush C (v := 120) (by decide) dX7_isCommandRead_53 ?_
        refine K_callVi C (As := [.int 120]) (rest := []) (Nat.le_of_ble_eq_true rfl) (shC_280 G ad) rfl hy_X10_skip wm_X7_35 (by decide) ⟨Nat.le_refl _, Nat.le_refl _⟩ (fun rr ff hh => km_X10_skip l G ad g23 120 rr ff hh) rfl rfl (Nat.le_of_ble_eq_true rfl) rfl dX7_isCommandRead_55 (fun r24 g25 => ?_)
        refine K_if_eq C (tgt := 76) (by decide) dX7_isCommandRead_58 ?_ ?_
        · refine K_iconst C (v := 0) (by decide) dX7_isCommandRead_76 ?_
          exact K_ret C rfl (by decide) dX7_isCommandRead_77
        · refine K_aload_n C 0 rfl rfl dX7_isCommandRead_61 ?_
          refine K_aload_n C 1 rfl rfl dX7_isCommandRead_62 ?_
          refine K_iload_n C 2 rfl rfl dX7_isCommandRead_63 ?_
          refine K_iconst C (v := 1) (by decide) dX7_isCommandRead_64 ?_
          refine K_iconst C (v := 3) (by decide) dX7_isCommandRead_65 ?_
          refine K_callVi C (As := [.ref (kad (wC G ad) 280), .int x2, .int 1, .int 3]) (rest := []) (Nat.le_of_ble_eq_true rfl) (shC_285 G ad) rfl hy_X7_isNumberRead wm_X7_47 (by decide) ⟨Nat.le_refl _, Nat.le_refl _⟩ (fun rr ff hh => km_X7_isNumberRead l G ad g25 x2 1 3 rr ff hh) rfl rfl (Nat.le_of_ble_eq_true rfl) rfl dX7_isCommandRead_66 (fun r26 g27 => ?_)
          refine K_if_eq C (tgt := 76) (by decide) dX7_isCommandRead_69 ?_ ?_
          · refine K_iconst C (v := 0) (by decide) dX7_isCommandRead_76 ?_
            exact K_ret C rfl (by decide) dX7_isCommandRead_77
          · refine K_iconst C (v := 1) (by decide) dX7_isCommandRead_72 ?_
            refine K_goto C (tgt := 77) (by decide) dX7_isCommandRead_73 ?_
            exact K_ret C rfl (by decide) dX7_isCommandRead_77
  · refine K_aload_n C 0 rfl rfl dX7_isCommandRead_9 ?_
    refine K_getR C kin_X7 rfl (Nat.le_of_ble_eq_true rfl) (shC_285 G ad) 0 (by decide) (b := 286) rfl wf_X7_11 rfl dX7_isCommandRead_10 ?_
    refine K_iload_n C 2 rfl rfl dX7_isCommandRead_13 ?_
    refine K_iconst C (v := 0) (by decide) dX7_isCommandRead_14 ?_
    refine K_iast C (Nat.le_of_ble_eq_true rfl) (shC_286 G ad) dX7_isCommandRead_15 (fun g28 => ?_)
    refine K_aload_n C 0 rfl rfl dX7_isCommandRead_16 ?_
    refine K_aload_n C 1 rfl rfl dX7_isCommandRead_17 ?_
    refine K_iload_n C 2 rfl rfl dX7_isCommandRead_18 ?_
    refine K_iconst C (v := 0) (by decide) dX7_isCommandRead_19 ?_
    refine K_iconst C (v := 1) (by decide) dX7_isCommandRead_20 ?_
    refine K_callVi C (As := [.ref (kad (wC G ad) 280), .int x2, .int 0, .int 1]) (rest := []) (Nat.le_of_ble_eq_true rfl) (shC_285 G ad) rfl hy_X7_isNumberRead wm_X7_47 (by decide) ⟨Nat.le_refl _, Nat.le_refl _⟩ (fun rr ff hh => km_X7_isNumberRead l G ad g28 x2 0 1 rr ff hh) rfl rfl (Nat.le_of_ble_eq_true rfl) rfl dX7_isCommandRead_21 (fun r29 g30 => ?_)
    exact K_bret C rfl dX7_isCommandRead_24
def cj_X7_areCommandsRead_21 (Y2 : kMem → Int32 → Option (Int32 × kMem)) (f : kMem) (x2 : Int32) : Option (Int32 × kMem) := kbind (cf_X7_isCommandRead f x2) (fun r1 g2 => keq r1 0 (some (0, g2)) (kmem (kup g2 285 2 (x2 + 1)) (fun g3 => kbind (cf_X10_isAtEnd g3) (fun r4 g5 => keq r4 0 (klet (x2 + Int32.ofInt 1) (fun x2_6 => (Y2 g5 x2_6))) (some (1, g5))))))
def cl_X7_areCommandsRead_2 : Nat → kMem → Int32 → Option (Int32 × kMem)
  | 0, _, _ => none
  | n + 1, f, x2 => kle 40 x2 (some (0, f)) (kle x2 0 ((cj_X7_areCommandsRead_21 (cl_X7_areCommandsRead_2 n) f x2)) (kbind (cf_X10_skip f 59) (fun r7 g8 => keq r7 0 (some (0, g8)) ((cj_X7_areCommandsRead_21 (cl_X7_areCommandsRead_2 n) g8 x2)))))
def cf_X7_areCommandsRead (f : kMem) : Option (Int32 × kMem) := (cl_X7_areCommandsRead_2 100 f 0)
set_option maxRecDepth 100000 in
set_option maxHeartbeats 4000000 in
theorem kcj_X7_areCommandsRead_21 {p : Program} {l : Launch} {e : Env} {R : Room} {s : State} {m : MethodId} {args : Array Value} {below : List Frame} {meth : Method} {c : Code} {G : kG} {ad : Nat → Nat} {z : Int32 × kMem} (C : KC p l e R s m args below meth c (wC G ad) RX7 cX7_areCommandsRead 3 (some .boolean) 4 0 0) (Y2 : kMem → Int32 → Option (Int32 × kMem)) (hY2 : ∀ (f : kMem) (x2 : Int32), K p l e R s m args below meth c (wC G ad) 3 (kQF below (wC G ad) (some .boolean) args s z) z 0 0 f 2 [(0, .ref (kad (wC G ad) 285)), (1, .ref (kad (wC G ad) 280)), (2, .int x2)] [] (Y2 f x2)) (f : kMem) (x2 : Int32) : K p l e R s m args below meth c (wC G ad) 3 (kQF below (wC G ad) (some .boolean) args s z) z 0 0 f 21 [(0, .ref (kad (wC G ad) 285)), (1, .ref (kad (wC G ad) 280)), (2, .int x2)] [] (cj_X7_areCommandsRead_21 Y2 f x2) := by
  unfold cj_X7_areCommandsRead_21
  refine K_aload_n C 0 rfl rfl dX7_areCommandsRead_21 ?_
  refine K_aload_n C 1 rfl rfl dX7_areCommandsRead_22 ?_
  refine K_iload_n C 2 rfl rfl dX7_areCommandsRead_23 ?_
  refine K_callVi C (As := [.ref (kad (wC G ad) 280), .int x2]) (rest := []) (Nat.le_of_ble_eq_true rfl) (shC_285 G ad) rfl hy_X7_isCommandRead wm_X7_39 (by decide) ⟨Nat.le_refl _, Nat.le_refl _⟩ (fun rr ff hh => km_X7_isCommandRead l G ad f x2 rr ff hh) rfl rfl (Nat.le_of_ble_eq_true rfl) rfl dX7_areCommandsRead_24 (fun r1 g2 => ?_)
  refine K_if_ne C (tgt := 32) (by decide) dX7_areCommandsRead_27 ?_ ?_
  · refine K_aload_n C 0 rfl rfl dX7_areCommandsRead_32 ?_
    refine K_iload_n C 2 rfl rfl dX7_areCommandsRead_33 ?_
    refine K_iconst C (v := 1) (by decide) dX7_areCommandsRead_34 ?_
    refine K_iadd C dX7_areCommandsRead_35 ?_
    refine K_putI C kin_X7 rfl (Nat.le_of_ble_eq_true rfl) (shC_285 G ad) 2 (by decide) rfl wf_X7_23 rfl tyX7 tyX7_ok nmX7 (by decide) (ty := .int) (by decide +kernel) rfl rfl dX7_areCommandsRead_36 (fun g3 => ?_)
    refine K_aload_n C 1 rfl rfl dX7_areCommandsRead_39 ?_
    refine K_callVi C (As := []) (rest := []) (Nat.le_of_ble_eq_true rfl) (shC_280 G ad) rfl hy_X10_isAtEnd wm_X7_43 (by decide) ⟨Nat.le_refl _, Nat.le_refl _⟩ (fun rr ff hh => km_X10_isAtEnd l G ad g3 rr ff hh) rfl rfl (Nat.le_of_ble_eq_true rfl) rfl dX7_areCommandsRead_40 (fun r4 g5 => ?_)
    refine K_if_eq C (tgt := 48) (by decide) dX7_areCommandsRead_43 ?_ ?_
    · refine K_iinc C (k := 2) (lv1 := fun x2_6 => [(2, .int x2_6), (0, .ref (kad (wC G ad) 285)), (1, .ref (kad (wC G ad) 280))]) rfl (by decide) (fun _ => rfl) dX7_areCommandsRead_48 (fun x2_6 => ?_)
      refine K_goto C (tgt := 2) (by decide) dX7_areCommandsRead_51 ?_
      refine K_sub [1, 2, 0] rfl ?_
      exact hY2 g5 x2_6
    · refine K_iconst C (v := 1) (by decide) dX7_areCommandsRead_46 ?_
      exact K_ret C rfl (by decide) dX7_areCommandsRead_47
  · refine K_iconst C (v := 0) (by decide) dX7_areCommandsRead_30 ?_
    exact K_ret C rfl (by decide) dX7_areCommandsRead_31
set_option maxRecDepth 100000 in
set_option maxHeartbeats 4000000 in
theorem kcl_X7_areCommandsRead_2 {p : Program} {l : Launch} {e : Env} {R : Room} {s : State} {m : MethodId} {args : Array Value} {below : List Frame} {meth : Method} {c : Code} {G : kG} {ad : Nat → Nat} {z : Int32 × kMem} (C : KC p l e R s m args below meth c (wC G ad) RX7 cX7_areCommandsRead 3 (some .boolean) 4 0 0)  : ∀ (n : Nat) (f : kMem) (x2 : Int32), K p l e R s m args below meth c (wC G ad) 3 (kQF below (wC G ad) (some .boolean) args s z) z 0 0 f 2 [(0, .ref (kad (wC G ad) 285)), (1, .ref (kad (wC G ad) 280)), (2, .int x2)] [] (cl_X7_areCommandsRead_2 n f x2) := by
  intro n
  induction n with
  | zero => intro f x2; exact K_none
  | succ n ih =>
    intro f x2
    unfold cl_X7_areCommandsRead_2
    refine K_iload_n C 2 rfl rfl dX7_areCommandsRead_2 ?_
    refine K_bipush C (v := 40) (by decide) dX7_areCommandsRead_3 ?_
    refine K_icmp_ge C (tgt := 54) (by decide) dX7_areCommandsRead_5 ?_ ?_
    · refine K_iconst C (v := 0) (by decide) dX7_areCommandsRead_54 ?_
      exact K_ret C rfl (by decide) dX7_areCommandsRead_55
    · refine K_iload_n C 2 rfl rfl dX7_areCommandsRead_8 ?_
      refine K_if_le C (tgt := 21) (by decide) dX7_areCommandsRead_9 ?_ ?_
      · exact kcj_X7_areCommandsRead_21 C (cl_X7_areCommandsRead_2 n) ih f x2
      · refine K_aload_n C 1 rfl rfl dX7_areCommandsRead_12 ?_
        refine K_bipush C (v := 59) (by decide) dX7_areCommandsRead_13 ?_
        refine K_callVi C (As := [.int 59]) (rest := []) (Nat.le_of_ble_eq_true rfl) (shC_280 G ad) rfl hy_X10_skip wm_X7_35 (by decide) ⟨Nat.le_refl _, Nat.le_refl _⟩ (fun rr ff hh => km_X10_skip l G ad f 59 rr ff hh) rfl rfl (Nat.le_of_ble_eq_true rfl) rfl dX7_areCommandsRead_15 (fun r7 g8 => ?_)
        refine K_if_eq C (tgt := 30) (by decide) dX7_areCommandsRead_18 ?_ ?_
        · refine K_iconst C (v := 0) (by decide) dX7_areCommandsRead_30 ?_
          exact K_ret C rfl (by decide) dX7_areCommandsRead_31
        · exact kcj_X7_areCommandsRead_21 C (cl_X7_areCommandsRead_2 n) ih g8 x2
set_option maxRecDepth 100000 in
set_option maxHeartbeats 4000000 in
theorem km_X7_areCommandsRead (l : Launch) (G : kG) (ad : Nat → Nat) (f : kMem) (r : Int32) (fo : kMem) (h : cf_X7_areCommandsRead f = some (r, fo)) : kMet l (wC G ad) yX7_areCommandsRead cX7_areCommandsRead 3 (some .boolean) 4 [.ref (kad (wC G ad) 285), .ref (kad (wC G ad) 280)] f r fo := by
  refine kMet_of (own := RX7) (lv := [(0, .ref (kad (wC G ad) 285)), (1, .ref (kad (wC G ad) 280))]) (by decide) rfl (Nat.le_of_ble_eq_true rfl) rfl h ?_
  intro p e R s m args below meth c C
  unfold cf_X7_areCommandsRead
  refine K_iconst C (v := 0) (by decide) dX7_areCommandsRead_0 ?_
  refine K_istore_n C (lv1 := [(2, .int 0), (0, .ref (kad (wC G ad) 285)), (1, .ref (kad (wC G ad) 280))]) rfl (by decide) rfl dX7_areCommandsRead_1 ?_
  refine K_sub [1, 2, 0] rfl ?_
  exact kcl_X7_areCommandsRead_2 C 100 f 0
def cf_X7_isReadFrom (f : kMem) : Option (Int32 × kMem) := kbind (cf_X10_start f) (fun r1 g2 => kmem (kup g2 285 2 0) (fun g3 => kbind (cf_X7_areCommandsRead g3) (fun r4 g5 => kbind (cf_X10_end g5 r4) (fun r6 g7 => kchk (kbool r6) (some (r6, g7))))))
set_option maxRecDepth 100000 in
set_option maxHeartbeats 4000000 in
theorem km_X7_isReadFrom (l : Launch) (G : kG) (ad : Nat → Nat) (f : kMem) (r : Int32) (fo : kMem) (h : cf_X7_isReadFrom f = some (r, fo)) : kMet l (wC G ad) yX7_isReadFrom cX7_isReadFrom 2 (some .boolean) 5 [.ref (kad (wC G ad) 285), .ref (kad (wC G ad) 280)] f r fo := by
  refine kMet_of (own := RX7) (lv := [(0, .ref (kad (wC G ad) 285)), (1, .ref (kad (wC G ad) 280))]) (by decide) rfl (Nat.le_of_ble_eq_true rfl) rfl h ?_
  intro p e R s m args below meth c C
  unfold cf_X7_isReadFrom
  refine K_aload_n C 1 rfl rfl dX7_isReadFrom_0 ?_
  refine K_callVv C (As := []) (rest := []) (Nat.le_of_ble_eq_true rfl) (shC_280 G ad) rfl hy_X10_start wm_X7_18 (by decide) ⟨Nat.le_refl _, Nat.le_refl _⟩ (fun rr ff hh => km_X10_start l G ad f rr ff hh) rfl rfl (Nat.le_of_ble_eq_true rfl) rfl dX7_isReadFrom_1 (fun r1 g2 => ?_)
  refine K_aload_n C 0 rfl rfl dX7_isReadFrom_4 ?_
  refine K_iconst C (v := 0) (by decide) dX7_isReadFrom_5 ?_
  refine K_putI C kin_X7 rfl (Nat.le_of_ble_eq_true rfl) (shC_285 G ad) 2 (by decide) rfl wf_X7_23 rfl tyX7 tyX7_ok nmX7 (by decide) (ty := .int) (by decide +kernel) rfl rfl dX7_isReadFrom_6 (fun g3 => ?_)
  refine K_aload_n C 1 rfl rfl dX7_isReadFrom_9 ?_
  refine K_aload_n C 0 rfl rfl dX7_isReadFrom_10 ?_
  refine K_aload_n C 1 rfl rfl dX7_isReadFrom_11 ?_
  refine K_callVi C (As := [.ref (kad (wC G ad) 280)]) (rest := [.ref (kad (wC G ad) 280)]) (Nat.le_of_ble_eq_true rfl) (shC_285 G ad) rfl hy_X7_areCommandsRead wm_X7_27 (by decide) ⟨Nat.le_refl _, Nat.le_refl _⟩ (fun rr ff hh => km_X7_areCommandsRead l G ad g3 rr ff hh) rfl rfl (Nat.le_of_ble_eq_true rfl) rfl dX7_isReadFrom_12 (fun r4 g5 => ?_)
  refine K_callVi C (As := [.int r4]) (rest := []) (Nat.le_of_ble_eq_true rfl) (shC_280 G ad) rfl hy_X10_end wm_X7_31 (by decide) ⟨Nat.le_refl _, Nat.le_refl _⟩ (fun rr ff hh => km_X10_end l G ad g5 r4 rr ff hh) rfl rfl (Nat.le_of_ble_eq_true rfl) rfl dX7_isReadFrom_15 (fun r6 g7 => ?_)
  exact K_bret C rfl dX7_isReadFrom_18
def cf_X7_kindOf (f : kMem) (x1 : Int32) : Option (Int32 × kMem) := kbind (cf_X11_isWithin f x1 0 ((f 285 2) - 1)) (fun r1 g2 => keq r1 0 (some ((-1), g2)) (kchk (kin x1 40) (some ((g2 286 (Int32.toNatClampNeg x1)), g2))))
set_option maxRecDepth 100000 in
set_option maxHeartbeats 4000000 in
theorem km_X7_kindOf (l : Launch) (G : kG) (ad : Nat → Nat) (f : kMem) (x1 : Int32) (r : Int32) (fo : kMem) (h : cf_X7_kindOf f x1 = some (r, fo)) : kMet l (wC G ad) yX7_kindOf cX7_kindOf 2 (some .int) 1 [.ref (kad (wC G ad) 285), .int x1] f r fo := by
  refine kMet_of (own := RX7) (lv := [(0, .ref (kad (wC G ad) 285)), (1, .int x1)]) (by decide) rfl (Nat.le_of_ble_eq_true rfl) rfl h ?_
  intro p e R s m args below meth c C
  unfold cf_X7_kindOf
  refine K_iload_n C 1 rfl rfl dX7_kindOf_0 ?_
  refine K_iconst C (v := 0) (by decide) dX7_kindOf_1 ?_
  refine K_aload_n C 0 rfl rfl dX7_kindOf_2 ?_
  refine K_getI C kin_X7 rfl (Nat.le_of_ble_eq_true rfl) (shC_285 G ad) 2 (by decide) rfl wf_X7_23 rfl dX7_kindOf_3 ?_
  refine K_iconst C (v := 1) (by decide) dX7_kindOf_6 ?_
  refine K_isub C dX7_kindOf_7 ?_
  refine K_callSNi C (As := [.int x1, .int 0, .int ((f 285 2) - 1)]) (rest := []) hy_X11_isWithin (by decide +kernel) (by decide) ⟨Nat.le_refl _, Nat.le_refl _⟩ (fun rr ff hh => km_X11_isWithin l G ad f x1 0 ((f 285 2) - 1) rr ff hh) rfl rfl (Nat.le_of_ble_eq_true rfl) rfl dX7_kindOf_8 (fun r1 g2 => ?_)
  refine K_if_eq C (tgt := 23) (by decide) dX7_kindOf_11 ?_ ?_
  · refine K_iconst C (v := (-1)) (by decide) dX7_kindOf_23 ?_
    exact K_ret C rfl rfl dX7_kindOf_24
  · refine K_aload_n C 0 rfl rfl dX7_kindOf_14 ?_
    refine K_getR C kin_X7 rfl (Nat.le_of_ble_eq_true rfl) (shC_285 G ad) 0 (by decide) (b := 286) rfl wf_X7_11 rfl dX7_kindOf_15 ?_
    refine K_iload_n C 1 rfl rfl dX7_kindOf_18 ?_
    refine K_iald C (Nat.le_of_ble_eq_true rfl) (shC_286 G ad) dX7_kindOf_19 ?_
    refine K_goto C (tgt := 24) (by decide) dX7_kindOf_20 ?_
    exact K_ret C rfl rfl dX7_kindOf_24
def cf_X7_numberOf (f : kMem) (x1 x2 : Int32) : Option (Int32 × kMem) := kbind (cf_X11_isWithin f x1 0 ((f 285 2) - 1)) (fun r1 g2 => keq r1 0 (some ((-1), g2)) (kchk (kin ((x1 * 3) + x2) 120) (some ((g2 287 (Int32.toNatClampNeg ((x1 * 3) + x2))), g2))))
set_option maxRecDepth 100000 in
set_option maxHeartbeats 4000000 in
theorem km_X7_numberOf (l : Launch) (G : kG) (ad : Nat → Nat) (f : kMem) (x1 x2 : Int32) (r : Int32) (fo : kMem) (h : cf_X7_numberOf f x1 x2 = some (r, fo)) : kMet l (wC G ad) yX7_numberOf cX7_numberOf 3 (some .int) 1 [.ref (kad (wC G ad) 285), .int x1, .int x2] f r fo := by
  refine kMet_of (own := RX7) (lv := [(0, .ref (kad (wC G ad) 285)), (1, .int x1), (2, .int x2)]) (by decide) rfl (Nat.le_of_ble_eq_true rfl) rfl h ?_
  intro p e R s m args below meth c C
  unfold cf_X7_numberOf
  refine K_iload_n C 1 rfl rfl dX7_numberOf_0 ?_
  refine K_iconst C (v := 0) (by decide) dX7_numberOf_1 ?_
  refine K_aload_n C 0 rfl rfl dX7_numberOf_2 ?_
  refine K_getI C kin_X7 rfl (Nat.le_of_ble_eq_true rfl) (shC_285 G ad) 2 (by decide) rfl wf_X7_23 rfl dX7_numberOf_3 ?_
  refine K_iconst C (v := 1) (by decide) dX7_numberOf_6 ?_
  refine K_isub C dX7_numberOf_7 ?_
  refine K_callSNi C (As := [.int x1, .int 0, .int ((f 285 2) - 1)]) (rest := []) hy_X11_isWithin (by decide +kernel) (by decide) ⟨Nat.le_refl _, Nat.le_refl _⟩ (fun rr ff hh => km_X11_isWithin l G ad f x1 0 ((f 285 2) - 1) rr ff hh) rfl rfl (Nat.le_of_ble_eq_true rfl) rfl dX7_numberOf_8 (fun r1 g2 => ?_)
  refine K_if_eq C (tgt := 27) (by decide) dX7_numberOf_11 ?_ ?_
  · refine K_iconst C (v := (-1)) (by decide) dX7_numberOf_27 ?_
    exact K_ret C rfl rfl dX7_numberOf_28
  · refine K_aload_n C 0 rfl rfl dX7_numberOf_14 ?_
    refine K_getR C kin_X7 rfl (Nat.le_of_ble_eq_true rfl) (shC_285 G ad) 1 (by decide) (b := 287) rfl wf_X7_15 rfl dX7_numberOf_15 ?_
    refine K_iload_n C 1 rfl rfl dX7_numberOf_18 ?_
    refine K_iconst C (v := 3) (by decide) dX7_numberOf_19 ?_
    refine K_imul C dX7_numberOf_20 ?_
    refine K_iload_n C 2 rfl rfl dX7_numberOf_21 ?_
    refine K_iadd C dX7_numberOf_22 ?_
    refine K_iald C (Nat.le_of_ble_eq_true rfl) (shC_287 G ad) dX7_numberOf_23 ?_
    refine K_goto C (tgt := 28) (by decide) dX7_numberOf_24 ?_
    exact K_ret C rfl rfl dX7_numberOf_28
def cl_X9_cratesOf_4 : Nat → kMem → Int32 → Int32 → Int32 → Option (Int32 × kMem)
  | 0, _, _, _, _ => none
  | n + 1, f, x1, x2, x3 => kle 6 x3 (some (x2, f)) (klet ((x1 * 6) + x3) (fun x4_1 => kchk (kin x4_1 48) (kchk (kin x4_1 48) (klet (x2 + ((f 13 (Int32.toNatClampNeg x4_1)) + (f 15 (Int32.toNatClampNeg x4_1)))) (fun x2_2 => klet (x3 + Int32.ofInt 1) (fun x3_3 => ((cl_X9_cratesOf_4 n) f x1 x2_2 x3_3)))))))
def cf_X9_cratesOf (f : kMem) (x1 : Int32) : Option (Int32 × kMem) := (cl_X9_cratesOf_4 100 f x1 0 0)
set_option maxRecDepth 100000 in
set_option maxHeartbeats 4000000 in
theorem kcl_X9_cratesOf_4 {p : Program} {l : Launch} {e : Env} {R : Room} {s : State} {m : MethodId} {args : Array Value} {below : List Frame} {meth : Method} {c : Code} {G : kG} {ad : Nat → Nat} {z : Int32 × kMem} (C : KC p l e R s m args below meth c (wC G ad) RX9 cX9_cratesOf 5 (some .int) 0 0 0)  : ∀ (n : Nat) (f : kMem) (x1 x2 x3 : Int32), K p l e R s m args below meth c (wC G ad) 5 (kQF below (wC G ad) (some .int) args s z) z 0 0 f 4 [(0, .ref (kad (wC G ad) 12)), (1, .int x1), (2, .int x2), (3, .int x3)] [] (cl_X9_cratesOf_4 n f x1 x2 x3) := by
  intro n
  induction n with
  | zero => intro f x1 x2 x3; exact K_none
  | succ n ih =>
    intro f x1 x2 x3
    unfold cl_X9_cratesOf_4
    refine K_iload_n C 3 rfl rfl dX9_cratesOf_4 ?_
    refine K_bipush C (v := 6) (by decide) dX9_cratesOf_5 ?_
    refine K_icmp_ge C (tgt := 42) (by decide) dX9_cratesOf_7 ?_ ?_
    · refine K_iload_n C 2 rfl rfl dX9_cratesOf_42 ?_
      exact K_ret C rfl rfl dX9_cratesOf_43
    · refine K_iload_n C 1 rfl rfl dX9_cratesOf_10 ?_
      refine K_bipush C (v := 6) (by decide) dX9_cratesOf_11 ?_
      refine K_imul C dX9_cratesOf_13 ?_
      refine K_iload_n C 3 rfl rfl dX9_cratesOf_14 ?_
      refine K_iadd C dX9_cratesOf_15 ?_
      refine K_let rfl (fun x4_1 => ?_)
      refine K_istore C (lv1 := [(4, .int x4_1), (0, .ref (kad (wC G ad) 12)), (1, .int x1), (2, .int x2), (3, .int x3)]) (by decide) rfl dX9_cratesOf_16 ?_
      refine K_iload_n C 3 rfl rfl dX9_cratesOf_18 ?_
      refine K_aload_n C 1 rfl rfl dX9_cratesOf_19 ?_
      refine K_getR C kin_X9 rfl (Nat.le_of_ble_eq_true rfl) (shC_12 G ad) 0 (by decide) (b := 13) rfl wf_X9_9 rfl dX9_cratesOf_20 ?_
      refine K_iload C 0 rfl dX9_cratesOf_23 ?_
      refine K_iald C (Nat.le_of_ble_eq_true rfl) (shC_13 G ad) dX9_cratesOf_25 ?_
      refine K_aload_n C 1 rfl rfl dX9_cratesOf_26 ?_
      refine K_getR C kin_X9 rfl (Nat.le_of_ble_eq_true rfl) (shC_12 G ad) 2 (by decide) (b := 15) rfl wf_X9_18 rfl dX9_cratesOf_27 ?_
      refine K_iload C 0 rfl dX9_cratesOf_30 ?_
      refine K_iald C (Nat.le_of_ble_eq_true rfl) (shC_15 G ad) dX9_cratesOf_32 ?_
      refine K_iadd C dX9_cratesOf_33 ?_
      refine K_iadd C dX9_cratesOf_34 ?_
      refine K_let rfl (fun x2_2 => ?_)
      refine K_istore_n C (lv1 := [(2, .int x2_2), (4, .int x4_1), (0, .ref (kad (wC G ad) 12)), (1, .int x1), (3, .int x3)]) rfl (by decide) rfl dX9_cratesOf_35 ?_
      refine K_iinc C (k := 4) (lv1 := fun x3_3 => [(3, .int x3_3), (2, .int x2_2), (4, .int x4_1), (0, .ref (kad (wC G ad) 12)), (1, .int x1)]) rfl (by decide) (fun _ => rfl) dX9_cratesOf_36 (fun x3_3 => ?_)
      refine K_goto C (tgt := 4) (by decide) dX9_cratesOf_39 ?_
      refine K_sub [3, 4, 1, 0] rfl ?_
      exact ih f x1 x2_2 x3_3
set_option maxRecDepth 100000 in
set_option maxHeartbeats 4000000 in
theorem km_X9_cratesOf (l : Launch) (G : kG) (ad : Nat → Nat) (f : kMem) (x1 : Int32) (r : Int32) (fo : kMem) (h : cf_X9_cratesOf f x1 = some (r, fo)) : kMet l (wC G ad) yX9_cratesOf cX9_cratesOf 5 (some .int) 0 [.ref (kad (wC G ad) 12), .int x1] f r fo := by
  refine kMet_of (own := RX9) (lv := [(0, .ref (kad (wC G ad) 12)), (1, .int x1)]) (by decide) rfl (Nat.le_of_ble_eq_true rfl) rfl h ?_
  intro p e R s m args below meth c C
  unfold cf_X9_cratesOf
  refine K_iconst C (v := 0) (by decide) dX9_cratesOf_0 ?_
  refine K_istore_n C (lv1 := [(2, .int 0), (0, .ref (kad (wC G ad) 12)), (1, .int x1)]) rfl (by decide) rfl dX9_cratesOf_1 ?_
  refine K_iconst C (v := 0) (by decide) dX9_cratesOf_2 ?_
  refine K_istore_n C (lv1 := [(3, .int 0), (2, .int 0), (0, .ref (kad (wC G ad) 12)), (1, .int x1)]) rfl (by decide) rfl dX9_cratesOf_3 ?_
  refine K_sub [2, 3, 1, 0] rfl ?_
  exact kcl_X9_cratesOf_4 C 100 f x1 0 0
def cl_X9_restOf_4 : Nat → kMem → Int32 → Int32 → Int32 → Option (Int32 × kMem)
  | 0, _, _, _, _ => none
  | n + 1, f, x1, x2, x3 => kle 6 x3 (some (x2, f)) (kchk (kin ((x1 * 6) + x3) 48) (klet (x2 + (f 14 (Int32.toNatClampNeg ((x1 * 6) + x3)))) (fun x2_1 => klet (x3 + Int32.ofInt 1) (fun x3_2 => ((cl_X9_restOf_4 n) f x1 x2_1 x3_2)))))
def cf_X9_restOf (f : kMem) (x1 : Int32) : Option (Int32 × kMem) := (cl_X9_restOf_4 100 f x1 0 0)
set_option maxRecDepth 100000 in
set_option maxHeartbeats 4000000 in
theorem kcl_X9_restOf_4 {p : Program} {l : Launch} {e : Env} {R : Room} {s : State} {m : MethodId} {args : Array Value} {below : List Frame} {meth : Method} {c : Code} {G : kG} {ad : Nat → Nat} {z : Int32 × kMem} (C : KC p l e R s m args below meth c (wC G ad) RX9 cX9_restOf 4 (some .int) 0 0 0)  : ∀ (n : Nat) (f : kMem) (x1 x2 x3 : Int32), K p l e R s m args below meth c (wC G ad) 4 (kQF below (wC G ad) (some .int) args s z) z 0 0 f 4 [(0, .ref (kad (wC G ad) 12)), (1, .int x1), (2, .int x2), (3, .int x3)] [] (cl_X9_restOf_4 n f x1 x2 x3) := by
  intro n
  induction n with
  | zero => intro f x1 x2 x3; exact K_none
  | succ n ih =>
    intro f x1 x2 x3
    unfold cl_X9_restOf_4
    refine K_iload_n C 3 rfl rfl dX9_restOf_4 ?_
    refine K_bipush C (v := 6) (by decide) dX9_restOf_5 ?_
    refine K_icmp_ge C (tgt := 30) (by decide) dX9_restOf_7 ?_ ?_
    · refine K_iload_n C 2 rfl rfl dX9_restOf_30 ?_
      exact K_ret C rfl rfl dX9_restOf_31
    · refine K_iload_n C 2 rfl rfl dX9_restOf_10 ?_
      refine K_aload_n C 0 rfl rfl dX9_restOf_11 ?_
      refine K_getR C kin_X9 rfl (Nat.le_of_ble_eq_true rfl) (shC_12 G ad) 1 (by decide) (b := 14) rfl wf_X9_15 rfl dX9_restOf_12 ?_
      refine K_iload_n C 1 rfl rfl dX9_restOf_15 ?_
      refine K_bipush C (v := 6) (by decide) dX9_restOf_16 ?_
      refine K_imul C dX9_restOf_18 ?_
      refine K_iload_n C 3 rfl rfl dX9_restOf_19 ?_
      refine K_iadd C dX9_restOf_20 ?_
      refine K_iald C (Nat.le_of_ble_eq_true rfl) (shC_14 G ad) dX9_restOf_21 ?_
      refine K_iadd C dX9_restOf_22 ?_
      refine K_let rfl (fun x2_1 => ?_)
      refine K_istore_n C (lv1 := [(2, .int x2_1), (0, .ref (kad (wC G ad) 12)), (1, .int x1), (3, .int x3)]) rfl (by decide) rfl dX9_restOf_23 ?_
      refine K_iinc C (k := 3) (lv1 := fun x3_2 => [(3, .int x3_2), (2, .int x2_1), (0, .ref (kad (wC G ad) 12)), (1, .int x1)]) rfl (by decide) (fun _ => rfl) dX9_restOf_24 (fun x3_2 => ?_)
      refine K_goto C (tgt := 4) (by decide) dX9_restOf_27 ?_
      refine K_sub [2, 3, 1, 0] rfl ?_
      exact ih f x1 x2_1 x3_2
set_option maxRecDepth 100000 in
set_option maxHeartbeats 4000000 in
theorem km_X9_restOf (l : Launch) (G : kG) (ad : Nat → Nat) (f : kMem) (x1 : Int32) (r : Int32) (fo : kMem) (h : cf_X9_restOf f x1 = some (r, fo)) : kMet l (wC G ad) yX9_restOf cX9_restOf 4 (some .int) 0 [.ref (kad (wC G ad) 12), .int x1] f r fo := by
  refine kMet_of (own := RX9) (lv := [(0, .ref (kad (wC G ad) 12)), (1, .int x1)]) (by decide) rfl (Nat.le_of_ble_eq_true rfl) rfl h ?_
  intro p e R s m args below meth c C
  unfold cf_X9_restOf
  refine K_iconst C (v := 0) (by decide) dX9_restOf_0 ?_
  refine K_istore_n C (lv1 := [(2, .int 0), (0, .ref (kad (wC G ad) 12)), (1, .int x1)]) rfl (by decide) rfl dX9_restOf_1 ?_
  refine K_iconst C (v := 0) (by decide) dX9_restOf_2 ?_
  refine K_istore_n C (lv1 := [(3, .int 0), (2, .int 0), (0, .ref (kad (wC G ad) 12)), (1, .int x1)]) rfl (by decide) rfl dX9_restOf_3 ?_
  refine K_sub [2, 3, 1, 0] rfl ?_
  exact kcl_X9_restOf_4 C 100 f x1 0 0
