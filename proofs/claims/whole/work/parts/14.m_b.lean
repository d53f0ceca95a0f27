def cf_X12_load (f : kMem) (x1 x2 x3 : Int32) : Option (Int32 × kMem) := kbind (cf_X12_tries f) (fun r1 g2 => kbind (cf_X12_doesLoad g2 x1 x2 x3) (fun r3 g4 => kbind (cf_X12_ends g4 r3) (fun r5 g6 => some (r5, g6))))
set_option maxRecDepth 100000 in
set_option maxHeartbeats 4000000 in
theorem km_X12_load (l : Launch) (G : kG) (ad : Nat → Nat) (f : kMem) (x1 x2 x3 : Int32) (r : Int32) (fo : kMem) (h : cf_X12_load f x1 x2 x3 = some (r, fo)) : kMet l (wM G ad) yX12_load cX12_load 4 (some .int) 3 [.ref (kad (wM G ad) 0), .int x1, .int x2, .int x3] f r fo := by
  refine kMet_of (own := RX12) (lv := [(0, .ref (kad (wM G ad) 0)), (1, .int x1), (2, .int x2), (3, .int x3)]) (by decide) rfl (Nat.le_of_ble_eq_true rfl) rfl h ?_
  intro p e R s m args below meth c C
  unfold cf_X12_load
  refine K_aload_n C 0 rfl rfl dX12_load_0 ?_
  refine K_callVv C (As := []) (rest := []) (Nat.le_of_ble_eq_true rfl) (shM_0 G ad) rfl hy_X12_tries wm_X12_131 (by decide) ⟨Nat.le_refl _, Nat.le_refl _⟩ (fun rr ff hh => km_X12_tries l G ad f rr ff hh) rfl rfl (Nat.le_of_ble_eq_true rfl) rfl dX12_load_1 (fun r1 g2 => ?_)
  refine K_aload_n C 0 rfl rfl dX12_load_4 ?_
  refine K_aload_n C 0 rfl rfl dX12_load_5 ?_
  refine K_iload_n C 1 rfl rfl dX12_load_6 ?_
  refine K_iload_n C 2 rfl rfl dX12_load_7 ?_
  refine K_iload_n C 3 rfl rfl dX12_load_8 ?_
  refine K_callVi C (As := [.int x1, .int x2, .int x3]) (rest := [.ref (kad (wM G ad) 0)]) (Nat.le_of_ble_eq_true rfl) (shM_0 G ad) rfl hy_X12_doesLoad wm_X12_147 (by decide) ⟨Nat.le_refl _, Nat.le_refl _⟩ (fun rr ff hh => km_X12_doesLoad l G ad g2 x1 x2 x3 rr ff hh) rfl rfl (Nat.le_of_ble_eq_true rfl) rfl dX12_load_9 (fun r3 g4 => ?_)
  refine K_callVi C (As := [.int r3]) (rest := []) (Nat.le_of_ble_eq_true rfl) (shM_0 G ad) rfl hy_X12_ends wm_X12_137 (by decide) ⟨Nat.le_refl _, Nat.le_refl _⟩ (fun rr ff hh => km_X12_ends l G ad g4 r3 rr ff hh) rfl rfl (Nat.le_of_ble_eq_true rfl) rfl dX12_load_12 (fun r5 g6 => ?_)
  exact K_ret C rfl rfl dX12_load_15
def cf_X12_empty (f : kMem) (x1 : Int32) : Option (Int32 × kMem) := kbind (cf_X12_tries f) (fun r1 g2 => kbind (cf_X12_doesEmpty g2 x1) (fun r3 g4 => kbind (cf_X12_ends g4 r3) (fun r5 g6 => some (r5, g6))))
set_option maxRecDepth 100000 in
set_option maxHeartbeats 4000000 in
theorem km_X12_empty (l : Launch) (G : kG) (ad : Nat → Nat) (f : kMem) (x1 : Int32) (r : Int32) (fo : kMem) (h : cf_X12_empty f x1 = some (r, fo)) : kMet l (wM G ad) yX12_empty cX12_empty 2 (some .int) 3 [.ref (kad (wM G ad) 0), .int x1] f r fo := by
  refine kMet_of (own := RX12) (lv := [(0, .ref (kad (wM G ad) 0)), (1, .int x1)]) (by decide) rfl (Nat.le_of_ble_eq_true rfl) rfl h ?_
  intro p e R s m args below meth c C
  unfold cf_X12_empty
  refine K_aload_n C 0 rfl rfl dX12_empty_0 ?_
  refine K_callVv C (As := []) (rest := []) (Nat.le_of_ble_eq_true rfl) (shM_0 G ad) rfl hy_X12_tries wm_X12_131 (by decide) ⟨Nat.le_refl _, Nat.le_refl _⟩ (fun rr ff hh => km_X12_tries l G ad f rr ff hh) rfl rfl (Nat.le_of_ble_eq_true rfl) rfl dX12_empty_1 (fun r1 g2 => ?_)
  refine K_aload_n C 0 rfl rfl dX12_empty_4 ?_
  refine K_aload_n C 0 rfl rfl dX12_empty_5 ?_
  refine K_iload_n C 1 rfl rfl dX12_empty_6 ?_
  refine K_callVi C (As := [.int x1]) (rest := [.ref (kad (wM G ad) 0)]) (Nat.le_of_ble_eq_true rfl) (shM_0 G ad) rfl hy_X12_doesEmpty wm_X12_150 (by decide) ⟨Nat.le_refl _, Nat.le_refl _⟩ (fun rr ff hh => km_X12_doesEmpty l G ad g2 x1 rr ff hh) rfl rfl (Nat.le_of_ble_eq_true rfl) rfl dX12_empty_7 (fun r3 g4 => ?_)
  refine K_callVi C (As := [.int r3]) (rest := []) (Nat.le_of_ble_eq_true rfl) (shM_0 G ad) rfl hy_X12_ends wm_X12_137 (by decide) ⟨Nat.le_refl _, Nat.le_refl _⟩ (fun rr ff hh => km_X12_ends l G ad g4 r3 rr ff hh) rfl rfl (Nat.le_of_ble_eq_true rfl) rfl dX12_empty_10 (fun r5 g6 => ?_)
  exact K_ret C rfl rfl dX12_empty_13
def cf_X12_pause (f : kMem) (x1 : Int32) : Option (Int32 × kMem) := kbind (cf_X12_tries f) (fun r1 g2 => kbind (cf_X12_doesPause g2 x1) (fun r3 g4 => kbind (cf_X12_ends g4 r3) (fun r5 g6 => some (r5, g6))))
set_option maxRecDepth 100000 in
set_option maxHeartbeats 4000000 in
theorem km_X12_pause (l : Launch) (G : kG) (ad : Nat → Nat) (f : kMem) (x1 : Int32) (r : Int32) (fo : kMem) (h : cf_X12_pause f x1 = some (r, fo)) : kMet l (wM G ad) yX12_pause cX12_pause 2 (some .int) 4 [.ref (kad (wM G ad) 0), .int x1] f r fo := by
  refine kMet_of (own := RX12) (lv := [(0, .ref (kad (wM G ad) 0)), (1, .int x1)]) (by decide) rfl (Nat.le_of_ble_eq_true rfl) rfl h ?_
  intro p e R s m args below meth c C
  unfold cf_X12_pause
  refine K_aload_n C 0 rfl rfl dX12_pause_0 ?_
  refine K_callVv C (As := []) (rest := []) (Nat.le_of_ble_eq_true rfl) (shM_0 G ad) rfl hy_X12_tries wm_X12_131 (by decide) ⟨Nat.le_refl _, Nat.le_refl _⟩ (fun rr ff hh => km_X12_tries l G ad f rr ff hh) rfl rfl (Nat.le_of_ble_eq_true rfl) rfl dX12_pause_1 (fun r1 g2 => ?_)
  refine K_aload_n C 0 rfl rfl dX12_pause_4 ?_
  refine K_aload_n C 0 rfl rfl dX12_pause_5 ?_
  refine K_iload_n C 1 rfl rfl dX12_pause_6 ?_
  refine K_callVi C (As := [.int x1]) (rest := [.ref (kad (wM G ad) 0)]) (Nat.le_of_ble_eq_true rfl) (shM_0 G ad) rfl hy_X12_doesPause wm_X12_153 (by decide) ⟨Nat.le_refl _, Nat.le_refl _⟩ (fun rr ff hh => km_X12_doesPause l G ad g2 x1 rr ff hh) rfl rfl (Nat.le_of_ble_eq_true rfl) rfl dX12_pause_7 (fun r3 g4 => ?_)
  refine K_callVi C (As := [.int r3]) (rest := []) (Nat.le_of_ble_eq_true rfl) (shM_0 G ad) rfl hy_X12_ends wm_X12_137 (by decide) ⟨Nat.le_refl _, Nat.le_refl _⟩ (fun rr ff hh => km_X12_ends l G ad g4 r3 rr ff hh) rfl rfl (Nat.le_of_ble_eq_true rfl) rfl dX12_pause_10 (fun r5 g6 => ?_)
  exact K_ret C rfl rfl dX12_pause_13
def cf_X12_run (f : kMem) (x1 x2 : Int32) : Option (Int32 × kMem) := kbind (cf_X12_tries f) (fun r1 g2 => kbind (cf_X12_doesRun g2 x1 x2) (fun r3 g4 => kbind (cf_X12_ends g4 r3) (fun r5 g6 => some (r5, g6))))
set_option maxRecDepth 100000 in
set_option maxHeartbeats 4000000 in
theorem km_X12_run (l : Launch) (G : kG) (ad : Nat → Nat) (f : kMem) (x1 x2 : Int32) (r : Int32) (fo : kMem) (h : cf_X12_run f x1 x2 = some (r, fo)) : kMet l (wM G ad) yX12_run cX12_run 3 (some .int) 4 [.ref (kad (wM G ad) 0), .int x1, .int x2] f r fo := by
  refine kMet_of (own := RX12) (lv := [(0, .ref (kad (wM G ad) 0)), (1, .int x1), (2, .int x2)]) (by decide) rfl (Nat.le_of_ble_eq_true rfl) rfl h ?_
  intro p e R s m args below meth c C
  unfold cf_X12_run
  refine K_aload_n C 0 rfl rfl dX12_run_0 ?_
  refine K_callVv C (As := []) (rest := []) (Nat.le_of_ble_eq_true rfl) (shM_0 G ad) rfl hy_X12_tries wm_X12_131 (by decide) ⟨Nat.le_refl _, Nat.le_refl _⟩ (fun rr ff hh => km_X12_tries l G ad f rr ff hh) rfl rfl (Nat.le_of_ble_eq_true rfl) rfl dX12_run_1 (fun r1 g2 => ?_)
  refine K_aload_n C 0 rfl rfl dX12_run_4 ?_
  refine K_aload_n C 0 rfl rfl dX12_run_5 ?_
  refine K_iload_n C 1 rfl rfl dX12_run_6 ?_
  refine K_iload_n C 2 rfl rfl dX12_run_7 ?_
  refine K_callVi C (As := [.int x1, .int x2]) (rest := [.ref (kad (wM G ad) 0)]) (Nat.le_of_ble_eq_true rfl) (shM_0 G ad) rfl hy_X12_doesRun wm_X12_156 (by decide) ⟨Nat.le_refl _, Nat.le_refl _⟩ (fun rr ff hh => km_X12_doesRun l G ad g2 x1 x2 rr ff hh) rfl rfl (Nat.le_of_ble_eq_true rfl) rfl dX12_run_8 (fun r3 g4 => ?_)
  refine K_callVi C (As := [.int r3]) (rest := []) (Nat.le_of_ble_eq_true rfl) (shM_0 G ad) rfl hy_X12_ends wm_X12_137 (by decide) ⟨Nat.le_refl _, Nat.le_refl _⟩ (fun rr ff hh => km_X12_ends l G ad g4 r3 rr ff hh) rfl rfl (Nat.le_of_ble_eq_true rfl) rfl dX12_run_11 (fun r5 g6 => ?_)
  exact K_ret C rfl rfl dX12_run_14
def cf_X12_order (f : kMem) (x1 x2 x3 x4 : Int32) : Option (Int32 × kMem) := kbind (cf_X12_tries f) (fun r1 g2 => kbind (cf_X12_doesOrder g2 x1 x2 x3 x4) (fun r3 g4 => kbind (cf_X12_ends g4 r3) (fun r5 g6 => some (r5, g6))))
set_option maxRecDepth 100000 in
set_option maxHeartbeats 4000000 in
theorem km_X12_order (l : Launch) (G : kG) (ad : Nat → Nat) (f : kMem) (x1 x2 x3 x4 : Int32) (r : Int32) (fo : kMem) (h : cf_X12_order f x1 x2 x3 x4 = some (r, fo)) : kMet l (wM G ad) yX12_order cX12_order 5 (some .int) 3 [.ref (kad (wM G ad) 0), .int x1, .int x2, .int x3, .int x4] f r fo := by
  refine kMet_of (own := RX12) (lv := [(0, .ref (kad (wM G ad) 0)), (1, .int x1), (2, .int x2), (3, .int x3), (4, .int x4)]) (by decide) rfl (Nat.le_of_ble_eq_true rfl) rfl h ?_
  intro p e R s m args below meth c C
  unfold cf_X12_order
  refine K_aload_n C 0 rfl rfl dX12_order_0 ?_
  refine K_callVv C (As := []) (rest := []) (Nat.le_of_ble_eq_true rfl) (shM_0 G ad) rfl hy_X12_tries wm_X12_131 (by decide) ⟨Nat.le_refl _, Nat.le_refl _⟩ (fun rr ff hh => km_X12_tries l G ad f rr ff hh) rfl rfl (Nat.le_of_ble_eq_true rfl) rfl dX12_order_1 (fun r1 g2 => ?_)
  refine K_aload_n C 0 rfl rfl dX12_order_4 ?_
  refine K_aload_n C 0 rfl rfl dX12_order_5 ?_
  refine K_iload_n C 1 rfl rfl dX12_order_6 ?_
  refine K_iload_n C 2 rfl rfl dX12_order_7 ?_
  refine K_iload_n C 3 rfl rfl dX12_order_8 ?_
  refine K_iload C 4 rfl dX12_order_9 ?_
  refine K_callVi C (As := [.int x1, .int x2, .int x3, .int x4]) (rest := [.ref (kad (wM G ad) 0)]) (Nat.le_of_ble_eq_true rfl) (shM_0 G ad) rfl hy_X12_doesOrder wm_X12_159 (by decide) ⟨Nat.le_refl _, Nat.le_refl _⟩ (fun rr ff hh => km_X12_doesOrder l G ad g2 x1 x2 x3 x4 rr ff hh) rfl rfl (Nat.le_of_ble_eq_true rfl) rfl dX12_order_11 (fun r3 g4 => ?_)
  refine K_callVi C (As := [.int r3]) (rest := []) (Nat.le_of_ble_eq_true rfl) (shM_0 G ad) rfl hy_X12_ends wm_X12_137 (by decide) ⟨Nat.le_refl _, Nat.le_refl _⟩ (fun rr ff hh => km_X12_ends l G ad g4 r3 rr ff hh) rfl rfl (Nat.le_of_ble_eq_true rfl) rfl dX12_order_14 (fun r5 g6 => ?_)
  exact K_ret C rfl rfl dX12_order_17
def cf_X12_callOff (f : kMem) (x1 : Int32) : Option (Int32 × kMem) := kbind (cf_X12_tries f) (fun r1 g2 => kbind (cf_X12_doesCallOff g2 x1) (fun r3 g4 => kbind (cf_X12_ends g4 r3) (fun r5 g6 => some (r5, g6))))
set_option maxRecDepth 100000 in
set_option maxHeartbeats 4000000 in
theorem km_X12_callOff (l : Launch) (G : kG) (ad : Nat → Nat) (f : kMem) (x1 : Int32) (r : Int32) (fo : kMem) (h : cf_X12_callOff f x1 = some (r, fo)) : kMet l (wM G ad) yX12_callOff cX12_callOff 2 (some .int) 3 [.ref (kad (wM G ad) 0), .int x1] f r fo := by
  refine kMet_of (own := RX12) (lv := [(0, .ref (kad (wM G ad) 0)), (1, .int x1)]) (by decide) rfl (Nat.le_of_ble_eq_true rfl) rfl h ?_
  intro p e R s m args below meth c C
  unfold cf_X12_callOff
  refine K_aload_n C 0 rfl rfl dX12_callOff_0 ?_
  refine K_callVv C (As := []) (rest := []) (Nat.le_of_ble_eq_true rfl) (shM_0 G ad) rfl hy_X12_tries wm_X12_131 (by decide) ⟨Nat.le_refl _, Nat.le_refl _⟩ (fun rr ff hh => km_X12_tries l G ad f rr ff hh) rfl rfl (Nat.le_of_ble_eq_true rfl) rfl dX12_callOff_1 (fun r1 g2 => ?_)
  refine K_aload_n C 0 rfl rfl dX12_callOff_4 ?_
  refine K_aload_n C 0 rfl rfl dX12_callOff_5 ?_
  refine K_iload_n C 1 rfl rfl dX12_callOff_6 ?_
  refine K_callVi C (As := [.int x1]) (rest := [.ref (kad (wM G ad) 0)]) (Nat.le_of_ble_eq_true rfl) (shM_0 G ad) rfl hy_X12_doesCallOff wm_X12_163 (by decide) ⟨Nat.le_refl _, Nat.le_refl _⟩ (fun rr ff hh => km_X12_doesCallOff l G ad g2 x1 rr ff hh) rfl rfl (Nat.le_of_ble_eq_true rfl) rfl dX12_callOff_7 (fun r3 g4 => ?_)
  refine K_callVi C (As := [.int r3]) (rest := []) (Nat.le_of_ble_eq_true rfl) (shM_0 G ad) rfl hy_X12_ends wm_X12_137 (by decide) ⟨Nat.le_refl _, Nat.le_refl _⟩ (fun rr ff hh => km_X12_ends l G ad g4 r3 rr ff hh) rfl rfl (Nat.le_of_ble_eq_true rfl) rfl dX12_callOff_10 (fun r5 g6 => ?_)
  exact K_ret C rfl rfl dX12_callOff_13
def cf_X12_set (f : kMem) (x1 x2 : Int32) : Option (Int32 × kMem) := kbind (cf_X12_tries f) (fun r1 g2 => kbind (cf_X12_doesSet g2 x1 x2) (fun r3 g4 => kbind (cf_X12_ends g4 r3) (fun r5 g6 => some (r5, g6))))
set_option maxRecDepth 100000 in
set_option maxHeartbeats 4000000 in
theorem km_X12_set (l : Launch) (G : kG) (ad : Nat → Nat) (f : kMem) (x1 x2 : Int32) (r : Int32) (fo : kMem) (h : cf_X12_set f x1 x2 = some (r, fo)) : kMet l (wM G ad) yX12_set cX12_set 3 (some .int) 2 [.ref (kad (wM G ad) 0), .int x1, .int x2] f r fo := by
  refine kMet_of (own := RX12) (lv := [(0, .ref (kad (wM G ad) 0)), (1, .int x1), (2, .int x2)]) (by decide) rfl (Nat.le_of_ble_eq_true rfl) rfl h ?_
  intro p e R s m args below meth c C
  unfold cf_X12_set
  refine K_aload_n C 0 rfl rfl dX12_set_0 ?_
  refine K_callVv C (As := []) (rest := []) (Nat.le_of_ble_eq_true rfl) (shM_0 G ad) rfl hy_X12_tries wm_X12_131 (by decide) ⟨Nat.le_refl _, Nat.le_refl _⟩ (fun rr ff hh => km_X12_tries l G ad f rr ff hh) rfl rfl (Nat.le_of_ble_eq_true rfl) rfl dX12_set_1 (fun r1 g2 => ?_)
  refine K_aload_n C 0 rfl rfl dX12_set_4 ?_
  refine K_aload_n C 0 rfl rfl dX12_set_5 ?_
  refine K_iload_n C 1 rfl rfl dX12_set_6 ?_
  refine K_iload_n C 2 rfl rfl dX12_set_7 ?_
  refine K_callVi C (As := [.int x1, .int x2]) (rest := [.ref (kad (wM G ad) 0)]) (Nat.le_of_ble_eq_true rfl) (shM_0 G ad) rfl hy_X12_doesSet wm_X12_166 (by decide) ⟨Nat.le_refl _, Nat.le_refl _⟩ (fun rr ff hh => km_X12_doesSet l G ad g2 x1 x2 rr ff hh) rfl rfl (Nat.le_of_ble_eq_true rfl) rfl dX12_set_8 (fun r3 g4 => ?_)
  refine K_callVi C (As := [.int r3]) (rest := []) (Nat.le_of_ble_eq_true rfl) (shM_0 G ad) rfl hy_X12_ends wm_X12_137 (by decide) ⟨Nat.le_refl _, Nat.le_refl _⟩ (fun rr ff hh => km_X12_ends l G ad g4 r3 rr ff hh) rfl rfl (Nat.le_of_ble_eq_true rfl) rfl dX12_set_11 (fun r5 g6 => ?_)
  exact K_ret C rfl rfl dX12_set_14
def cf_X12_takes (f : kMem) (x1 : Int32) : Option (Int32 × kMem) := keq (f 0 8) (f 0 7) (some (0, f)) (kchk (kin (f 0 8) 80) (keq (f 5 (Int32.toNatClampNeg (f 0 8))) x1 (kmem (kup f 0 8 ((f 0 8) + 1)) (fun g1 => some (1, g1))) (some (0, f))))
set_option maxRecDepth 100000 in
set_option maxHeartbeats 4000000 in
theorem km_X12_takes (l : Launch) (G : kG) (ad : Nat → Nat) (f : kMem) (x1 : Int32) (r : Int32) (fo : kMem) (h : cf_X12_takes f x1 = some (r, fo)) : kMet l (wM G ad) yX12_takes cX12_takes 2 (some .boolean) 0 [.ref (kad (wM G ad) 0), .int x1] f r fo := by
  refine kMet_of (own := RX12) (lv := [(0, .ref (kad (wM G ad) 0)), (1, .int x1)]) (by decide) rfl (Nat.le_of_ble_eq_true rfl) rfl h ?_
  intro p e R s m args below meth c C
  unfold cf_X12_takes
  refine K_aload_n C 0 rfl rfl dX12_takes_0 ?_
  refine K_getI C kin_X12 rfl (Nat.le_of_ble_eq_true rfl) (shM_0 G ad) 8 (by decide) rfl wf_X12_169 rfl dX12_takes_1 ?_
  refine K_aload_n C 0 rfl rfl dX12_takes_4 ?_
  refine K_getI C kin_X12 rfl (Nat.le_of_ble_eq_true rfl) (shM_0 G ad) 7 (by decide) rfl wf_X12_128 rfl dX12_takes_5 ?_
  refine K_icmp_eq C (tgt := 24) (by decide) dX12_takes_8 ?_ ?_
  · refine K_iconst C (v := 0) (by decide) dX12_takes_24 ?_
    exact K_ret C rfl (by decide) dX12_takes_25
  · refine K_aload_n C 0 rfl rfl dX12_takes_11 ?_
    refine K_getR C kin_X12 rfl (Nat.le_of_ble_eq_true rfl) (shM_0 G ad) 6 (by decide) (b := 5) rfl wf_X12_22 rfl dX12_takes_12 ?_
    refine K_aload_n C 0 rfl rfl dX12_takes_15 ?_
    refine K_getI C kin_X12 rfl (Nat.le_of_ble_eq_true rfl) (shM_0 G ad) 8 (by decide) rfl wf_X12_169 rfl dX12_takes_16 ?_
    refine K_cald C (Nat.le_of_ble_eq_true rfl) (shM_5 G ad) dX12_takes_19 ?_
    refine K_iload_n C 1 rfl rfl dX12_takes_20 ?_
    refine K_icmp_eq C (tgt := 26) (by decide) dX12_takes_21 ?_ ?_
    · refine K_aload_n C 0 rfl rfl dX12_takes_26 ?_
      refine K_dup C rfl dX12_takes_27 ?_
      refine K_getI C kin_X12 rfl (Nat.le_of_ble_eq_true rfl) (shM_0 G ad) 8 (by decide) rfl wf_X12_169 rfl dX12_takes_28 ?_
      refine K_iconst C (v := 1) (by decide) dX12_takes_31 ?_
      refine K_iadd C dX12_takes_32 ?_
      refine K_putI C kin_X12 rfl (Nat.le_of_ble_eq_true rfl) (shM_0 G ad) 8 (by decide) rfl wf_X12_169 rfl tyX12 tyX12_ok nmX12 (by decide) (ty := .int) (by decide +kernel) rfl rfl dX12_takes_33 (fun g1 => ?_)
      refine K_iconst C (v := 1) (by decide) dX12_takes_36 ?_
      exact K_ret C rfl (by decide) dX12_takes_37
    · refine K_iconst C (v := 0) (by decide) dX12_takes_24 ?_
      exact K_ret C rfl (by decide) dX12_takes_25
def cl_X12_number_5 (Y76 : kMem → Int32 → Int32 → Int32 → Option (Int32 × kMem)) : Nat → kMem → Int32 → Int32 → Int32 → Int32 → Option (Int32 × kMem)
  | 0, _, _, _, _, _ => none
  | n + 1, f, x1, x2, x3, x4 => kle x2 x3 ((Y76 f x1 x3 x4)) (kle (f 0 7) (f 0 8) ((Y76 f x1 x3 x4)) (kchk (kin (f 0 8) 80) (kbind (cf_X12_in f (f 5 (Int32.toNatClampNeg (f 0 8))) 48 57) (fun r1 g2 => keq r1 0 ((Y76 g2 x1 x3 x4)) (kchk (kin (g2 0 8) 80) (klet (((10 * x4) + (g2 5 (Int32.toNatClampNeg (g2 0 8)))) - 48) (fun x4_3 => kmem (kup g2 0 8 ((g2 0 8) + 1)) (fun g4 => klet (x3 + Int32.ofInt 1) (fun x3_5 => ((cl_X12_number_5 Y76 n) g4 x1 x2 x3_5 x4_3))))))))))
def cj_X12_number_76 (f : kMem) (x1 x3 x4 : Int32) : Option (Int32 × kMem) := kchk (kin x1 400) (kmem (kup f 8 (Int32.toNatClampNeg x1) x4) (fun g10 => kle x3 0 (some (0, g10)) (some (1, g10))))
def cf_X12_number (f : kMem) (x1 x2 : Int32) : Option (Int32 × kMem) := (cl_X12_number_5 (fun g9 x1_6 x3_7 x4_8 => (cj_X12_number_76 g9 x1_6 x3_7 x4_8)) 100 f x1 x2 0 0)
set_option maxRecDepth 100000 in
set_option maxHeartbeats 4000000 in
theorem kcl_X12_number_5 {p : Program} {l : Launch} {e : Env} {R : Room} {s : State} {m : MethodId} {args : Array Value} {below : List Frame} {meth : Method} {c : Code} {G : kG} {ad : Nat → Nat} {z : Int32 × kMem} (C : KC p l e R s m args below meth c (wM G ad) RX12 cX12_number 5 (some .boolean) 1 0 0) (Y76 : kMem → Int32 → Int32 → Int32 → Option (Int32 × kMem)) (hY76 : ∀ (f : kMem) (x1 x3 x4 : Int32), K p l e R s m args below meth c (wM G ad) 5 (kQF below (wM G ad) (some .boolean) args s z) z 0 0 f 76 [(0, .ref (kad (wM G ad) 0)), (1, .int x1), (3, .int x3), (4, .int x4)] [] (Y76 f x1 x3 x4)) : ∀ (n : Nat) (f : kMem) (x1 x2 x3 x4 : Int32), K p l e R s m args below meth c (wM G ad) 5 (kQF below (wM G ad) (some .boolean) args s z) z 0 0 f 5 [(0, .ref (kad (wM G ad) 0)), (1, .int x1), (2, .int x2), (3, .int x3), (4, .int x4)] [] (cl_X12_number_5 Y76 n f x1 x2 x3 x4) := by
  intro n
  induction n with
  | zero => intro f x1 x2 x3 x4; exact K_none
  | succ n ih =>
    intro f x1 x2 x3 x4
    unfold cl_X12_number_5
    refine K_iload_n C 3 rfl rfl dX12_number_5 ?_
    refine K_iload_n C 2 rfl rfl dX12_number_6 ?_
    refine K_icmp_ge C (tgt := 76) (by decide) dX12_number_7 ?_ ?_
    · refine K_sub [0, 1, 3, 4] rfl ?_
      exact hY76 f x1 x3 x4
    · refine K_aload_n C 0 rfl rfl dX12_number_10 ?_
      refine K_getI C kin_X12 rfl (Nat.le_of_ble_eq_true rfl) (shM_0 G ad) 8 (by decide) rfl wf_X12_169 rfl dX12_number_11 ?_
      refine K_aload_n C 0 rfl rfl dX12_number_14 ?_
      refine K_getI C kin_X12 rfl (Nat.le_of_ble_eq_true rfl) (shM_0 G ad) 7 (by decide) rfl wf_X12_128 rfl dX12_number_15 ?_
      refine K_icmp_ge C (tgt := 76) (by decide) dX12_number_18 ?_ ?_
      · refine K_sub [0, 1, 3, 4] rfl ?_
        exact hY76 f x1 x3 x4
      · refine K_aload_n C 0 rfl rfl dX12_number_21 ?_
        refine K_getR C kin_X12 rfl (Nat.le_of_ble_eq_true rfl) (shM_0 G ad) 6 (by decide) (b := 5) rfl wf_X12_22 rfl dX12_number_22 ?_
        refine K_aload_n C 0 rfl rfl dX12_number_25 ?_
        refine K_getI C kin_X12 rfl (Nat.le_of_ble_eq_true rfl) (shM_0 G ad) 8 (by decide) rfl wf_X12_169 rfl dX12_number_26 ?_
        refine K_cald C (Nat.le_of_ble_eq_true rfl) (shM_5 G ad) dX12_number_29 ?_
        refine K_bipush C (v := 48) (by decide) dX12_number_30 ?_
        refine K_bipush C (v := 57) (by decide) dX12_number_32 ?_
        refine K_callSi C (As := [.int (f 5 (Int32.toNatClampNeg (f 0 8))), .int 48, .int 57]) (rest := []) hy_X12_in wm_X12_64 (by decide) ⟨Nat.le_refl _, Nat.le_refl _⟩ (fun rr ff hh => km_X12_in l G ad f (f 5 (Int32.toNatClampNeg (f 0 8))) 48 57 rr ff hh) rfl rfl (Nat.le_of_ble_eq_true rfl) rfl dX12_number_34 (fun r1 g2 => ?_)
        refine K_if_eq C (tgt := 76) (by decide) dX12_number_37 ?_ ?_
        · refine K_sub [0, 1, 3, 4] rfl ?_
          exact hY76 g2 x1 x3 x4
        · refine K_bipush C (v := 10) (by decide) dX12_number_40 ?_
          refine K_iload C 4 rfl dX12_number_42 ?_
          refine K_imul C dX12_number_44 ?_
          refine K_aload_n C 0 rfl rfl dX12_number_45 ?_
          refine K_getR C kin_X12 rfl (Nat.le_of_ble_eq_true rfl) (shM_0 G ad) 6 (by decide) (b := 5) rfl wf_X12_22 rfl dX12_number_46 ?_
          refine K_aload_n C 0 rfl rfl dX12_number_49 ?_
          refine K_getI C kin_X12 rfl (Nat.le_of_ble_eq_true rfl) (shM_0 G ad) 8 (by decide) rfl wf_X12_169 rfl dX12_number_50 ?_
          refine K_cald C (Nat.le_of_ble_eq_true rfl) (shM_5 G ad) dX12_number_53 ?_
          refine K_iadd C dX12_number_54 ?_
          refine K_bipush C (v := 48) (by decide) dX12_number_55 ?_
          refine K_isub C dX12_number_57 ?_
          refine K_let rfl (fun x4_3 => ?_)
          refine K_istore C (lv1 := [(4, .int x4_3), (0, .ref (kad (wM G ad) 0)), (1, .int x1), (2, .int x2), (3, .int x3)]) (by decide) rfl dX12_number_58 ?_
          refine K_aload_n C 1 rfl rfl dX12_number_60 ?_
          refine K_dup C rfl dX12_number_61 ?_
          refine K_getI C kin_X12 rfl (Nat.le_of_ble_eq_true rfl) (shM_0 G ad) 8 (by decide) rfl wf_X12_169 rfl dX12_number_62 ?_
          refine K_iconst C (v := 1) (by decide) dX12_number_65 ?_
          refine K_iadd C dX12_number_66 ?_
          refine K_putI C kin_X12 rfl (Nat.le_of_ble_eq_true rfl) (shM_0 G ad) 8 (by decide) rfl wf_X12_169 rfl tyX12 tyX12_ok nmX12 (by decide) (ty := .int) (by decide +kernel) rfl rfl dX12_number_67 (fun g4 => ?_)
          refine K_iinc C (k := 4) (lv1 := fun x3_5 => [(3, .int x3_5), (4, .int x4_3), (0, .ref (kad (wM G ad) 0)), (1, .int x1), (2, .int x2)]) rfl (by decide) (fun _ => rfl) dX12_number_70 (fun x3_5 => ?_)
          refine K_goto C (tgt := 5) (by decide) dX12_number_73 ?_
          refine K_sub [2, 3, 4, 0, 1] rfl ?_
          exact ih g4 x1 x2 x3_5 x4_3
set_option maxRecDepth 100000 in
set_option maxHeartbeats 4000000 in
theorem kcj_X12_number_76 {p : Program} {l : Launch} {e : Env} {R : Room} {s : State} {m : MethodId} {args : Array Value} {below : List Frame} {meth : Method} {c : Code} {G : kG} {ad : Nat → Nat} {z : Int32 × kMem} (C : KC p l e R s m args below meth c (wM G ad) RX12 cX12_number 5 (some .boolean) 1 0 0)  (f : kMem) (x1 x3 x4 : Int32) : K p l e R s m args below meth c (wM G ad) 5 (kQF below (wM G ad) (some .boolean) args s z) z 0 0 f 76 [(0, .ref (kad (wM G ad) 0)), (1, .int x1), (3, .int x3), (4, .int x4)] [] (cj_X12_number_76 f x1 x3 x4) := by
  unfold cj_X12_number_76
  refine K_aload_n C 0 rfl rfl dX12_number_76 ?_
  refine K_getR C kin_X12 rfl (Nat.le_of_ble_eq_true rfl) (shM_0 G ad) 14 (by decide) (b := 8) rfl wf_X12_36 rfl dX12_number_77 ?_
  refine K_iload_n C 1 rfl rfl dX12_number_80 ?_
  refine K_iload C 3 rfl dX12_number_81 ?_
  refine K_iast C (Nat.le_of_ble_eq_true rfl) (shM_8 G ad) dX12_number_83 (fun g10 => ?_)
  refine K_iload_n C 2 rfl rfl dX12_number_84 ?_
  refine K_if_le C (tgt := 92) (by decide) dX12_number_85 ?_ ?_
  · refine K_iconst C (v := 0) (by decide) dX12_number_92 ?_
    exact K_ret C rfl (by decide) dX12_number_93
  · refine K_iconst C (v := 1) (by decide) dX12_number_88 ?_
    refine K_goto C (tgt := 93) (by decide) dX12_number_89 ?_
    exact K_ret C rfl (by decide) dX12_number_93
set_option maxRecDepth 100000 in
set_option maxHeartbeats 4000000 in
theorem km_X12_number (l : Launch) (G : kG) (ad : Nat → Nat) (f : kMem) (x1 x2 : Int32) (r : Int32) (fo : kMem) (h : cf_X12_number f x1 x2 = some (r, fo)) : kMet l (wM G ad) yX12_number cX12_number 5 (some .boolean) 1 [.ref (kad (wM G ad) 0), .int x1, .int x2] f r fo := by
  refine kMet_of (own := RX12) (lv := [(0, .ref (kad (wM G ad) 0)), (1, .int x1), (2, .int x2)]) (by decide) rfl (Nat.le_of_ble_eq_true rfl) rfl h ?_
  intro p e R s m args below meth c C
  unfold cf_X12_number
  refine K_iconst C (v := 0) (by decide) dX12_number_0 ?_
  refine K_istore_n C (lv1 := [(3, .int 0), (0, .ref (kad (wM G ad) 0)), (1, .int x1), (2, .int x2)]) rfl (by decide) rfl dX12_number_1 ?_
  refine K_iconst C (v := 0) (by decide) dX12_number_2 ?_
  refine K_istore C (lv1 := [(4, .int 0), (3, .int 0), (0, .ref (kad (wM G ad) 0)), (1, .int x1), (2, .int x2)]) (by decide) rfl dX12_number_3 ?_
  refine K_sub [2, 3, 4, 1, 0] rfl ?_
  refine kcl_X12_number_5 C _ (fun g9 x1_6 x3_7 x4_8 => ?_) 100 f x1 x2 0 0
  exact kcj_X12_number_76 C g9 x1_6 x3_7 x4_8
def cj_X12_isFamilyText_51 (Y31 : kMem → Int32 → Option (Int32 × kMem)) (f : kMem) (x1 : Int32) : Option (Int32 × kMem) := kbind (cf_X12_takes f 32) (fun r7 g8 => keq r7 0 (some (0, g8)) (kbind (cf_X12_number g8 (3 + x1) 1) (fun r9 g10 => keq r9 0 (some (0, g10)) (kbind (cf_X12_takes g10 120) (fun r11 g12 => keq r11 0 (some (0, g12)) (kbind (cf_X12_number g12 (6 + x1) 1) (fun r13 g14 => keq r13 0 (some (0, g14)) (klet (x1 + Int32.ofInt 1) (fun x1_15 => (Y31 g14 x1_15))))))))))
def cl_X12_isFamilyText_31 (Y100 : kMem → Int32 → Option (Int32 × kMem)) : Nat → kMem → Int32 → Option (Int32 × kMem)
  | 0, _, _ => none
  | n + 1, f, x1 => keq x1 0 ((cj_X12_isFamilyText_51 (cl_X12_isFamilyText_31 Y100 n) f x1)) (kle 3 x1 ((Y100 f x1)) (kle (f 0 7) (f 0 8) ((Y100 f x1)) ((cj_X12_isFamilyText_51 (cl_X12_isFamilyText_31 Y100 n) f x1))))
def cj_X12_isFamilyText_100 (f : kMem) (x1 : Int32) : Option (Int32 × kMem) := kmem (kup f 8 2 x1) (fun g18 => keq (g18 0 8) (g18 0 7) (some (1, g18)) (some (0, g18)))
def cf_X12_isFamilyText (f : kMem) : Option (Int32 × kMem) := kbind (cf_X12_number f 0 2) (fun r1 g2 => keq r1 0 (some (0, g2)) (kbind (cf_X12_takes g2 32) (fun r3 g4 => keq r3 0 (some (0, g4)) (kbind (cf_X12_number g4 1 3) (fun r5 g6 => keq r5 0 (some (0, g6)) ((cl_X12_isFamilyText_31 (fun g17 x1_16 => (cj_X12_isFamilyText_100 g17 x1_16)) 100 g6 0)))))))
set_option maxRecDepth 100000 in
set_option maxHeartbeats 4000000 in
theorem kcj_X12_isFamilyText_51 {p : Program} {l : Launch} {e : Env} {R : Room} {s : State} {m : MethodId} {args : Array Value} {below : List Frame} {meth : Method} {c : Code} {G : kG} {ad : Nat → Nat} {z : Int32 × kMem} (C : KC p l e R s m args below meth c (wM G ad) RX12 cX12_isFamilyText 2 (some .boolean) 2 0 0) (Y31 : kMem → Int32 → Option (Int32 × kMem)) (hY31 : ∀ (f : kMem) (x1 : Int32), K p l e R s m args below meth c (wM G ad) 2 (kQF below (wM G ad) (some .boolean) args s z) z 0 0 f 31 [(0, .ref (kad (wM G ad) 0)), (1, .int x1)] [] (Y31 f x1)) (f : kMem) (x1 : Int32) : K p l e R s m args below meth c (wM G ad) 2 (kQF below (wM G ad) (some .boolean) args s z) z 0 0 f 51 [(0, .ref (kad (wM G ad) 0)), (1, .int x1)] [] (cj_X12_isFamilyText_51 Y31 f x1) := by
  unfold cj_X12_isFamilyText_51
  refine K_aload_n C 0 rfl rfl dX12_isFamilyText_51 ?_
  refine K_bipush C (v := 32) (by decide) dX12_isFamilyText_52 ?_
  refine K_callVi C (As := [.int 32]) (rest := []) (Nat.le_of_ble_eq_true rfl) (shM_0 G ad) rfl hy_X12_takes wm_X12_175 (by decide) ⟨Nat.le_refl _, Nat.le_refl _⟩ (fun rr ff hh => km_X12_takes l G ad f 32 rr ff hh) rfl rfl (Nat.le_of_ble_eq_true rfl) rfl dX12_isFamilyText_54 (fun r7 g8 => ?_)
  refine K_if_eq C (tgt := 92) (by decide) dX12_isFamilyText_57 ?_ ?_
  · refine K_iconst C (v := 0) (by decide) dX12_isFamilyText_92 ?_
    exact K_ret C rfl (by decide) dX12_isFamilyText_93
  · refine K_aload_n C 0 rfl rfl dX12_isFamilyText_60 ?_
    refine K_iconst C (v := 3) (by decide) dX12_isFamilyText_61 ?_
    refine K_iload_n C 1 rfl rfl dX12_isFamilyText_62 ?_
    refine K_iadd C dX12_isFamilyText_63 ?_
    refine K_iconst C (v := 1) (by decide) dX12_isFamilyText_64 ?_
    refine K_callVi C (As := [.int (3 + x1), .int 1]) (rest := []) (Nat.le_of_ble_eq_true rfl) (shM_0 G ad) rfl hy_X12_number wm_X12_172 (by decide) ⟨Nat.le_refl _, Nat.le_refl _⟩ (fun rr ff hh => km_X12_number l G ad g8 (3 + x1) 1 rr ff hh) rfl rfl (Nat.le_of_ble_eq_true rfl) rfl dX12_isFamilyText_65 (fun r9 g10 => ?_)
    refine K_if_eq C (tgt := 92) (by decide) dX12_isFamilyText_68 ?_ ?_
    · refine K_iconst C (v := 0) (by decide) dX12_isFamilyText_92 ?_
      exact K_ret C rfl (by decide) dX12_isFamilyText_93
    · refine K_aload_n C 0 rfl rfl dX12_isFamilyText_71 ?_
      refine K_bipush C (v := 120) (by decide) dX12_isFamilyText_72 ?_
      refine K_callVi C (As := [.int 120]) (rest := []) (Nat.le_of_ble_eq_true rfl) (shM_0 G ad) rfl hy_X12_takes wm_X12_175 (by decide) ⟨Nat.le_refl _, Nat.le_refl _⟩ (fun rr ff hh => km_X12_takes l G ad g10 120 rr ff hh) rfl rfl (Nat.le_of_ble_eq_true rfl) rfl dX12_isFamilyText_74 (fun r11 g12 => ?_)
      refine K_if_eq C (tgt := 92) (by decide) dX12_isFamilyText_77 ?_ ?_
      · refine K_iconst C (v := 0) (by decide) dX12_isFamilyText_92 ?_
        exact K_ret C rfl (by decide) dX12_isFamilyText_93
      · refine K_aload_n C 0 rfl rfl dX12_isFamilyText_80 ?_
        refine K_bipush C (v := 6) (by decide) dX12_isFamilyText_81 ?_
        refine K_iload_n C 1 rfl rfl dX12_isFamilyText_83 ?_
        refine K_iadd C dX12_isFamilyText_84 ?_
        refine K_iconst C (v := 1) (by decide) dX12_isFamilyText_85 ?_
        refine K_callVi C (As := [.int (6 + x1), .int 1]) (rest := []) (Nat.le_of_ble_eq_true rfl) (shM_0 G ad) rfl hy_X12_number wm_X12_172 (by decide) ⟨Nat.le_refl _, Nat.le_refl _⟩ (fun rr ff hh => km_X12_number l G ad g12 (6 + x1) 1 rr ff hh) rfl rfl (Nat.le_of_ble_eq_true rfl) rfl dX12_isFamilyText_86 (fun r13 g14 => ?_)
        refine K_if_ne C (tgt := 94) (by decide) dX12_isFamilyText_89 ?_ ?_
        · refine K_iinc C (k := 1) (lv1 := fun x1_15 => [(1, .int x1_15), (0, .ref (kad (wM G ad) 0))]) rfl (by decide) (fun _ => rfl) dX12_isFamilyText_94 (fun x1_15 => ?_)
          refine K_goto C (tgt := 31) (by decide) dX12_isFamilyText_97 ?_
          refine K_sub [1, 0] rfl ?_
          exact hY31 g14 x1_15
        · refine K_iconst C (v := 0) (by decide) dX12_isFamilyText_92 ?_
          exact K_ret C rfl (by decide) dX12_isFamilyText_93
set_option maxRecDepth 100000 in
set_option maxHeartbeats 4000000 in
theorem kcl_X12_isFamilyText_31 {p : Program} {l : Launch} {e : Env} {R : Room} {s : State} {m : MethodId} {args : Array Value} {below : List Frame} {meth : Method} {c : Code} {G : kG} {ad : Nat → Nat} {z : Int32 × kMem} (C : KC p l e R s m args below meth c (wM G ad) RX12 cX12_isFamilyText 2 (some .boolean) 2 0 0) (Y100 : kMem → Int32 → Option (Int32 × kMem)) (hY100 : ∀ (f : kMem) (x1 : Int32), K p l e R s m args below meth c (wM G ad) 2 (kQF below (wM G ad) (some .boolean) args s z) z 0 0 f 100 [(0, .ref (kad (wM G ad) 0)), (1, .int x1)] [] (Y100 f x1)) : ∀ (n : Nat) (f : kMem) (x1 : Int32), K p l e R s m args below meth c (wM G ad) 2 (kQF below (wM G ad) (some .boolean) args s z) z 0 0 f 31 [(0, .ref (kad (wM G ad) 0)), (1, .int x1)] [] (cl_X12_isFamilyText_31 Y100 n f x1) := by
  intro n
  induction n with
  | zero => intro f x1; exact K_none
  | succ n ih =>
    intro f x1
    unfold cl_X12_isFamilyText_31
    refine K_iload_n C 1 rfl rfl dX12_isFamilyText_31 ?_
    refine K_if_eq C (tgt := 51) (by decide) dX12_isFamilyText_32 ?_ ?_
    · exact kcj_X12_isFamilyText_51 C (cl_X12_isFamilyText_31 Y100 n) ih f x1
    · refine K_iload_n C 1 rfl rfl dX12_isFamilyText_35 ?_
      refine K_iconst C (v := 3) (by decide) dX12_isFamilyText_36 ?_
      refine K_icmp_ge C (tgt := 100) (by decide) dX12_isFamilyText_37 ?_ ?_
      · exact hY100 f x1
      · refine K_aload_n C 0 rfl rfl dX12_isFamilyText_40 ?_
        refine K_getI C kin_X12 rfl (Nat.le_of_ble_eq_true rfl) (shM_0 G ad) 8 (by decide) rfl wf_X12_169 rfl dX12_isFamilyText_41 ?_
        refine K_aload_n C 0 rfl rfl dX12_isFamilyText_44 ?_
        refine K_getI C kin_X12 rfl (Nat.le_of_ble_eq_true rfl) (shM_0 G ad) 7 (by decide) rfl wf_X12_128 rfl dX12_isFamilyText_45 ?_
        refine K_icmp_ge C (tgt := 100) (by decide) dX12_isFamilyText_48 ?_ ?_
        · exact hY100 f x1
        · exact kcj_X12_isFamilyText_51 C (cl_X12_isFamilyText_31 Y100 n) ih f x1
set_option maxRecDepth 100000 in
set_option maxHeartbeats 4000000 in
theorem kcj_X12_isFamilyText_100 {p : Program} {l : Launch} {e : Env} {R : Room} {s : State} {m : MethodId} {args : Array Value} {below : List Frame} {meth : Method} {c : Code} {G : kG} {ad : Nat → Nat} {z : Int32 × kMem} (C : KC p l e R s m args below meth c (wM G ad) RX12 cX12_isFamilyText 2 (some .boolean) 2 0 0)  (f : kMem) (x1 : Int32) : K p l e R s m args below meth c (wM G ad) 2 (kQF below (wM G ad) (some .boolean) args s z) z 0 0 f 100 [(0, .ref (kad (wM G ad) 0)), (1, .int x1)] [] (cj_X12_isFamilyText_100 f x1) := by
  unfold cj_X12_isFamilyText_100
  refine K_aload_n C 0 rfl rfl dX12_isFamilyText_100 ?_
  refine K_getR C kin_X12 rfl (Nat.le_of_ble_eq_true rfl) (shM_0 G ad) 14 (by decide) (b := 8) rfl wf_X12_36 rfl dX12_isFamilyText_101 ?_
  refine K_iconst C (v := 2) (by decide) dX12_isFamilyText_104 ?_
  refine K_iload_n C 1 rfl rfl dX12_isFamilyText_105 ?_
  refine K_iastC C (Nat.le_of_ble_eq_true rfl) (shM_8 G ad) (kin_in (by decide)) dX12_isFamilyText_106 2 (by decide) (fun g18 => ?_)
  refine K_aload_n C 0 rfl rfl dX12_isFamilyText_107 ?_
  refine K_getI C kin_X12 rfl (Nat.le_of_ble_eq_true rfl) (shM_0 G ad) 8 (by decide) rfl wf_X12_169 rfl dX12_isFamilyText_108 ?_
  refine K_aload_n C 0 rfl rfl dX12_isFamilyText_111 ?_
  refine K_getI C kin_X12 rfl (Nat.le_of_ble_eq_true rfl) (shM_0 G ad) 7 (by decide) rfl wf_X12_128 rfl dX12_isFamilyText_112 ?_
  refine K_icmp_ne C (tgt := 122) (by decide) dX12_isFamilyText_115 ?_ ?_
  · refine K_iconst C (v := 0) (by decide) dX12_isFamilyText_122 ?_
    exact K_ret C rfl (by decide) dX12_isFamilyText_123
  · refine K_iconst C (v := 1) (by decide) dX12_isFamilyText_118 ?_
    refine K_goto C (tgt := 123) (by decide) dX12_isFamilyText_119 ?_
    exact K_ret C rfl (by decide) dX12_isFamilyText_123
set_option maxRecDepth 100000 in
set_option maxHeartbeats 4000000 in
theorem km_X12_isFamilyText (l : Launch) (G : kG) (ad : Nat → Nat) (f : kMem) (r : Int32) (fo : kMem) (h : cf_X12_isFamilyText f = some (r, fo)) : kMet l (wM G ad) yX12_isFamilyText cX12_isFamilyText 2 (some .boolean) 2 [.ref (kad (wM G ad) 0)] f r fo := by
  refine kMet_of (own := RX12) (lv := [(0, .ref (kad (wM G ad) 0))]) (by decide) rfl (Nat.le_of_ble_eq_true rfl) rfl h ?_
  intro p e R s m args below meth c C
  unfold cf_X12_isFamilyText
  refine K_aload_n C 0 rfl rfl dX12_isFamilyText_0 ?_
  refine K_iconst C (v := 0) (by decide) dX12_isFamilyText_1 ?_
  refine K_iconst C (v := 2) (by decide) dX12_isFamilyText_2 ?_
  refine K_callVi C (As := [.int 0, .int 2]) (rest := []) (Nat.le_of_ble_eq_true rfl) (shM_0 G ad) rfl hy_X12_number wm_X12_172 (by decide) ⟨Nat.le_refl _, Nat.le_refl _⟩ (fun rr ff hh => km_X12_number l G ad f 0 2 rr ff hh) rfl rfl (Nat.le_of_ble_eq_true rfl) rfl dX12_isFamilyText_3 (fun r1 g2 => ?_)
  refine K_if_eq C (tgt := 27) (by decide) dX12_isFamilyText_6 ?_ ?_
  · refine K_iconst C (v := 0) (by decide) dX12_isFamilyText_27 ?_
    exact K_ret C rfl (by decide) dX12_isFamilyText_28
  · refine K_aload_n C 0 rfl rfl dX12_isFamilyText_9 ?_
    refine K_bipush C (v := 32) (by decide) dX12_isFamilyText_10 ?_
    refine K_callVi C (As := [.int 32]) (rest := []) (Nat.le_of_ble_eq_true rfl) (shM_0 G ad) rfl hy_X12_takes wm_X12_175 (by decide) ⟨Nat.le_refl _, Nat.le_refl _⟩ (fun rr ff hh => km_X12_takes l G ad g2 32 rr ff hh) rfl rfl (Nat.le_of_ble_eq_true rfl) rfl dX12_isFamilyText_12 (fun r3 g4 => ?_)
    refine K_if_eq C (tgt := 27) (by decide) dX12_isFamilyText_15 ?_ ?_
    · refine K_iconst C (v := 0) (by decide) dX12_isFamilyText_27 ?_
      exact K_ret C rfl (by decide) dX12_isFamilyText_28
    · refine K_aload_n C 0 rfl rfl dX12_isFamilyText_18 ?_
      refine K_iconst C (v := 1) (by decide) dX12_isFamilyText_19 ?_
      refine K_iconst C (v := 3) (by decide) dX12_isFamilyText_20 ?_
      refine K_callVi C (As := [.int 1, .int 3]) (rest := []) (Nat.le_of_ble_eq_true rfl) (shM_0 G ad) rfl hy_X12_number wm_X12_172 (by decide) ⟨Nat.le_refl _, Nat.le_refl _⟩ (fun rr ff hh => km_X12_number l G ad g4 1 3 rr ff hh) rfl rfl (Nat.le_of_ble_eq_true rfl) rfl dX12_isFamilyText_21 (fun r5 g6 => ?_)
      refine K_if_ne C (tgt := 29) (by decide) dX12_isFamilyText_24 ?_ ?_
      · refine K_iconst C (v := 0) (by decide) dX12_isFamilyText_29 ?_
        refine K_istore_n C (lv1 := [(1, .int 0), (0, .ref (kad (wM G ad) 0))]) rfl (by decide) rfl dX12_isFamilyText_30 ?_
        refine K_sub [1, 0] rfl ?_
        refine kcl_X12_isFamilyText_31 C _ (fun g17 x1_16 => ?_) 100 g6 0
        exact kcj_X12_isFamilyText_100 C g17 x1_16
      · refine K_iconst C (v := 0) (by decide) dX12_isFamilyText_27 ?_
        exact K_ret C rfl (by decide) dX12_isFamilyText_28
def cj_X12_isCommand_49 (f : kMem) (x1 x2 : Int32) : Option (Int32 × kMem) := kmem (kup f 0 8 ((f 0 8) + 1)) (fun g2 => kchk (kin x1 400) (kmem (kup g2 8 (Int32.toNatClampNeg x1) x2) (fun g3 => keq x2 109 (kbind (cf_X12_number g3 (x1 + 1) 1) (fun r5 g6 => kchk (kbool r5) (some (r5, g6)))) (keq x2 114 (kbind (cf_X12_number g3 (x1 + 1) 1) (fun r8 g9 => keq r8 0 (some (0, g9)) (kbind (cf_X12_takes g9 120) (fun r10 g11 => keq r10 0 (some (0, g11)) (kbind (cf_X12_number g11 (x1 + 2) 3) (fun r12 g13 => keq r12 0 (some (0, g13)) (some (1, g13)))))))) (keq x2 119 (kbind (cf_X12_number g3 (x1 + 1) 3) (fun r15 g16 => kchk (kbool r15) (some (r15, g16)))) (kbind (cf_X12_number g3 (x1 + 1) 1) (fun r17 g18 => keq r17 0 (some (0, g18)) (kbind (cf_X12_number g18 (x1 + 2) 1) (fun r19 g20 => keq r19 0 (some (0, g20)) (kbind (cf_X12_takes g20 103) (fun r21 g22 => keq r21 0 (some (0, g22)) (kbind (cf_X12_number g22 (x1 + 3) 5) (fun r23 g24 => keq r23 0 (some (0, g24)) (some (1, g24)))))))))))))))
def cf_X12_isCommand (f : kMem) (x1 : Int32) : Option (Int32 × kMem) := keq (f 0 8) (f 0 7) (some (0, f)) (kchk (kin (f 0 8) 80) (klet (f 5 (Int32.toNatClampNeg (f 0 8))) (fun x2_1 => keq x2_1 109 ((cj_X12_isCommand_49 f x1 x2_1)) (keq x2_1 114 ((cj_X12_isCommand_49 f x1 x2_1)) (keq x2_1 119 ((cj_X12_isCommand_49 f x1 x2_1)) (keq x2_1 108 ((cj_X12_isCommand_49 f x1 x2_1)) (some (0, f))))))))
set_option maxRecDepth 100000 in
set_option maxHeartbeats 4000000 in
theorem kcj_X12_isCommand_49 {p : Program} {l : Launch} {e : Env} {R : Room} {s : State} {m : MethodId} {args : Array Value} {below : List Frame} {meth : Method} {c : Code} {G : kG} {ad : Nat → Nat} {z : Int32 × kMem} (C : KC p l e R s m args below meth c (wM G ad) RX12 cX12_isCommand 3 (some .boolean) 2 0 0)  (f : kMem) (x1 x2 : Int32) : K p l e R s m args below meth c (wM G ad) 3 (kQF below (wM G ad) (some .boolean) args s z) z 0 0 f 49 [(0, .ref (kad (wM G ad) 0)), (1, .int x1), (2, .int x2)] [] (cj_X12_isCommand_49 f x1 x2) := by
  unfold cj_X12_isCommand_49
  refine K_aload_n C 0 rfl rfl dX12_isCommand_49 ?_
  refine K_dup C rfl dX12_isCommand_50 ?_
  refine K_getI C kin_X12 rfl (Nat.le_of_ble_eq_true rfl) (shM_0 G ad) 8 (by decide) rfl wf_X12_169 rfl dX12_isCommand_51 ?_
  refine K_iconst C (v := 1) (by decide) dX12_isCommand_54 ?_
  refine K_iadd C dX12_isCommand_55 ?_
  refine K_putI C kin_X12 rfl (Nat.le_of_ble_eq_true rfl) (shM_0 G ad) 8 (by decide) rfl wf_X12_169 rfl tyX12 tyX12_ok nmX12 (by decide) (ty := .int) (by decide +kernel) rfl rfl dX12_isCommand_56 (fun g2 => ?_)
  refine K_aload_n C 0 rfl rfl dX12_isCommand_59 ?_
  refine K_getR C kin_X12 rfl (Nat.le_of_ble_eq_true rfl) (shM_0 G ad) 14 (by decide) (b := 8) rfl wf_X12_36 rfl dX12_isCommand_60 ?_
  refine K_iload_n C 1 rfl rfl dX12_isCommand_63 ?_
  refine K_iload_n C 2 rfl rfl dX12_isCommand_64 ?_
  refine K_iast C (Nat.le_of_ble_eq_true rfl) (shM_8 G ad) dX12_isCommand_65 (fun g3 => ?_)
  refine K_iload_n C 2 rfl rfl dX12_isCommand_66 ?_
  refine K_case (fun hc4 => ?_) (fun hc4 => ?_)
  · refine K_lsw C (off := 33) (tgt := 100) (by decide) (by rw [hc4]; decide) (by decide) dX12_isCommand_67 ?_
    refine K_aload_n C 0 rfl rfl dX12_isCommand_100 ?_
    refine K_iload_n C 1 rfl rfl dX12_isCommand_101 ?_
    refine K_iconst C (v := 1) (by decide) dX12_isCommand_102 ?_
    refine K_iadd C dX12_isCommand_103 ?_
    refine K_iconst C (v := 1) (by decide) dX12_isCommand_104 ?_
    refine K_callVi C (As := [.int (x1 + 1), .int 1]) (rest := []) (Nat.le_of_ble_eq_true rfl) (shM_0 G ad) rfl hy_X12_number wm_X12_172 (by decide) ⟨Nat.le_refl _, Nat.le_refl _⟩ (fun rr ff hh => km_X12_number l G ad g3 (x1 + 1) 1 rr ff hh) rfl rfl (Nat.le_of_ble_eq_true rfl) rfl dX12_isCommand_105 (fun r5 g6 => ?_)
    exact K_bret C rfl dX12_isCommand_108
  · refine K_case (fun hc7 => ?_) (fun hc7 => ?_)
    · refine K_lsw C (off := 42) (tgt := 109) (by decide) (by rw [hc7]; decide) (by decide) dX12_isCommand_67 ?_
      refine K_aload_n C 0 rfl rfl dX12_isCommand_109 ?_
      refine K_iload_n C 1 rfl rfl dX12_isCommand_110 ?_
      refine K_iconst C (v := 1) (by decide) dX12_isCommand_111 ?_
      refine K_iadd C dX12_isCommand_112 ?_
      refine K_iconst C (v := 1) (by decide) dX12_isCommand_113 ?_
      refine K_callVi C (As := [.int (x1 + 1), .int 1]) (rest := []) (Nat.le_of_ble_eq_true rfl) (shM_0 G ad) rfl hy_X12_number wm_X12_172 (by decide) ⟨Nat.le_refl _, Nat.le_refl _⟩ (fun rr ff hh => km_X12_number l G ad g3 (x1 + 1) 1 rr ff hh) rfl rfl (Nat.le_of_ble_eq_true rfl) rfl dX12_isCommand_114 (fun r8 g9 => ?_)
      refine K_if_eq C (tgt := 144) (by decide) dX12_isCommand_117 ?_ ?_
      · refine K_iconst C (v := 0) (by decide) dX12_isCommand_144 ?_
        exact K_ret C rfl (by decide) dX12_isCommand_145
      · refine K_aload_n C 0 rfl rfl dX12_isCommand_120 ?_
        refine K_bipush C (v := 120) (by decide) dX12_isCommand_121 ?_
        refine K_callVi C (As := [.int 120]) (rest := []) (Nat.le_of_ble_eq_true rfl) (shM_0 G ad) rfl hy_X12_takes wm_X12_175 (by decide) ⟨Nat.le_refl _, Nat.le_refl _⟩ (fun rr ff hh => km_X12_takes l G ad g9 120 rr ff hh) rfl rfl (Nat.le_of_ble_eq_true rfl) rfl dX12_isCommand_123 (fun r10 g11 => ?_)
        refine K_if_eq C (tgt := 144) (by decide) dX12_isCommand_126 ?_ ?_
        · refine K_iconst C (v := 0) (by decide) dX12_isCommand_144 ?_
          exact K_ret C rfl (by decide) dX12_isCommand_145
        · refine K_aload_n C 0 rfl rfl dX12_isCommand_129 ?_
          refine K_iload_n C 1 rfl rfl dX12_isCommand_130 ?_
          refine K_iconst C (v := 2) (by decide) dX12_isCommand_131 ?_
          refine K_iadd C dX12_isCommand_132 ?_
          refine K_iconst C (v := 3) (by decide) dX12_isCommand_133 ?_
          refine K_callVi C (As := [.int (x1 + 2), .int 3]) (rest := []) (Nat.le_of_ble_eq_true rfl) (shM_0 G ad) rfl hy_X12_number wm_X12_172 (by decide) ⟨Nat.le_refl _, Nat.le_refl _⟩ (fun rr ff hh => km_X12_number l G ad g11 (x1 + 2) 3 rr ff hh) rfl rfl (Nat.le_of_ble_eq_true rfl) rfl dX12_isCommand_134 (fun r12 g13 => ?_)
          refine K_if_eq C (tgt := 144) (by decide) dX12_isCommand_137 ?_ ?_
          · refine K_iconst C (v := 0) (by decide) dX12_isCommand_144 ?_
            exact K_ret C rfl (by decide) dX12_isCommand_145
          · refine K_iconst C (v := 1) (by decide) dX12_isCommand_140 ?_
            refine K_goto C (tgt := 145) (by decide) dX12_isCommand_141 ?_
            exact K_ret C rfl (by decide) dX12_isCommand_145
    · refine K_case (fun hc14 => ?_) (fun hc14 => ?_)
      · refine K_lsw C (off := 79) (tgt := 146) (by decide) (by rw [hc14]; decide) (by decide) dX12_isCommand_67 ?_
        refine K_aload_n C 0 rfl rfl dX12_isCommand_146 ?_
        refine K_iload_n C 1 rfl rfl dX12_isCommand_147 ?_
        refine K_iconst C (v := 1) (by decide) dX12_isCommand_148 ?_
        refine K_iadd C dX12_isCommand_149 ?_
        refine K_iconst C (v := 3) (by decide) dX12_isCommand_150 ?_
        refine K_callVi C (As := [.int (x1 + 1), .int 3]) (rest := []) (Nat.le_of_ble_eq_true rfl) (shM_0 G ad) rfl hy_X12_number wm_X12_172 (by decide) ⟨Nat.le_refl _, Nat.le_refl _⟩ (fun rr ff hh => km_X12_number l G ad g3 (x1 + 1) 3 rr ff hh) rfl rfl (Nat.le_of_ble_eq_true rfl) rfl dX12_isCommand_151 (fun r15 g16 => ?_)
        exact K_bret C rfl dX12_isCommand_154
      · refine K_lsw C (off := 88) (tgt := 155) (by decide) (by have q109 := kne 109 (by decide) hc4; have q114 := kne 114 (by decide) hc7; have q119 := kne 119 (by decide) hc14; simp [Op.lookupswitch.offset, Ne.symm q109, Ne.symm q114, Ne.symm q119]) (by decide) dX12_isCommand_67 ?_
        refine K_aload_n C 0 rfl rfl dX12_isCommand_155 ?_
        refine K_iload_n C 1 rfl rfl dX12_isCommand_156 ?_
        refine K_iconst C (v := 1) (by decide) dX12_isCommand_157 ?_
        refine K_iadd C dX12_isCommand_158 ?_
        refine K_iconst C (v := 1) (by decide) dX12_isCommand_159 ?_
        refine K_callVi C (As := [.int (x1 + 1), .int 1]) (rest := []) (Nat.le_of_ble_eq_true rfl) (shM_0 G ad) rfl hy_X12_number wm_X12_172 (by decide) ⟨Nat.le_refl _, Nat.le_refl _⟩ (fun rr ff hh => km_X12_number l G ad g3 (x1 + 1) 1 rr ff hh) rfl rfl (Nat.le_of_ble_eq_true rfl) rfl dX12_isCommand_160 (fun r17 g18 => ?_)
        refine K_if_eq C (tgt := 201) (by decide) dX12_isCommand_163 ?_ ?_
        · refine K_iconst C (v := 0) (by decide) dX12_isCommand_201 ?_
          exact K_ret C rfl (by decide) dX12_isCommand_202
        · refine K_aload_n C 0 rfl rfl dX12_isCommand_166 ?_
          refine K_iload_n C 1 rfl rfl dX12_isCommand_167 ?_
          refine K_iconst C (v := 2) (by decide) dX12_isCommand_168 ?_
          refine K_iadd C dX12_isCommand_169 ?_
          refine K_iconst C (v := 1) (by decide) dX12_isCommand_170 ?_
          refine K_callVi C (As := [.int (x1 + 2), .int 1]) (rest := []) (Nat.le_of_ble_eq_true rfl) (shM_0 G ad) rfl hy_X12_number wm_X12_172 (by decide) ⟨Nat.le_refl _, Nat.le_refl _⟩ (fun rr ff hh => km_X12_number l G ad g18 (x1 + 2) 1 rr ff hh) rfl rfl (Nat.le_of_ble_eq_true rfl) rfl dX12_isCommand_171 (fun r19 g20 => ?_)
          refine K_if_eq C (tgt := 201) (by decide) dX12_isCommand_174 ?_ ?_
          · refine K_iconst C (v := 0) (by decide) dX12_isCommand_201 ?_
            exact K_ret C rfl (by decide) dX12_isCommand_202
          · refine K_aload_n C 0 rfl rfl dX12_isCommand_177 ?_
            refine K_bipush C (v := 103) (by decide) dX12_isCommand_178 ?_
            refine K_callVi C (As := [.int 103]) (rest := []) (Nat.le_of_ble_eq_true rfl) (shM_0 G ad) rfl hy_X12_takes wm_X12_175 (by decide) ⟨Nat.le_refl _, Nat.le_refl _⟩ (fun rr ff hh => km_X12_takes l G ad g20 103 rr ff hh) rfl rfl (Nat.le_of_ble_eq_true rfl) rfl dX12_isCommand_180 (fun r21 g22 => ?_)
            refine K_if_eq C (tgt := 201) (by decide) dX12_isCommand_183 ?_ ?_
            · refine K_iconst C (v := 0) (by decide) dX12_isCommand_201 ?_
              exact K_ret C rfl (by decide) dX12_isCommand_202
            · refine K_aload_n C 0 rfl rfl dX12_isCommand_186 ?_
              refine K_iload_n C 1 rfl rfl dX12_isCommand_187 ?_
              refine K_iconst C (v := 3) (by decide) dX12_isCommand_188 ?_
              refine K_iadd C dX12_isCommand_189 ?_
              refine K_iconst C (v := 5) (by decide) dX12_isCommand_190 ?_
              refine K_callVi C (As := [.int (x1 + 3), .int 5]) (rest := []) (Nat.le_of_ble_eq_true rfl) (shM_0 G ad) rfl hy_X12_number wm_X12_172 (by decide) ⟨Nat.le_refl _, Nat.le_refl _⟩ (fun rr ff hh => km_X12_number l G ad g22 (x1 + 3) 5 rr ff hh) rfl rfl (Nat.le_of_ble_eq_true rfl) rfl dX12_isCommand_191 (fun r23 g24 => ?_)
              refine K_if_eq C (tgt := 201) (by decide) dX12_isCommand_194 ?_ ?_
              · refine K_iconst C (v := 0) (by decide) dX12_isCommand_201 ?_
                exact K_ret C rfl (by decide) dX12_isCommand_202
              · refine K_iconst C (v := 1) (by decide) dX12_isCommand_197 ?_
                refine K_goto C (tgt := 202) (by decide) dX12_isCommand_198 ?_
                exact K_ret C rfl (by decide) dX12_isCommand_202
set_option maxRecDepth 100000 in
set_option maxHeartbeats 4000000 in
theorem km_X12_isCommand (l : Launch) (G : kG) (ad : Nat → Nat) (f : kMem) (x1 : Int32) (r : Int32) (fo : kMem) (h : cf_X12_isCommand f x1 = some (r, fo)) : kMet l (wM G ad) yX12_isCommand cX12_isCommand 3 (some .boolean) 2 [.ref (kad (wM G ad) 0), .int x1] f r fo := by
  refine kMet_of (own := RX12) (lv := [(0, .ref (kad (wM G ad) 0)), (1, .int x1)]) (by decide) rfl (Nat.le_of_ble_eq_true rfl) rfl h ?_
  intro p e R s m args below meth c C
  unfold cf_X12_isCommand
  refine K_aload_n C 0 rfl rfl dX12_isCommand_0 ?_
  refine K_getI C kin_X12 rfl (Nat.le_of_ble_eq_true rfl) (shM_0 G ad) 8 (by decide) rfl wf_X12_169 rfl dX12_isCommand_1 ?_
  refine K_aload_n C 0 rfl rfl dX12_isCommand_4 ?_
  refine K_getI C kin_X12 rfl (Nat.le_of_ble_eq_true rfl) (shM_0 G ad) 7 (by decide) rfl wf_X12_128 rfl dX12_isCommand_5 ?_
  refine K_icmp_ne C (tgt := 13) (by decide) dX12_isCommand_8 ?_ ?_
  · refine K_aload_n C 0 rfl rfl dX12_isCommand_13 ?_
    refine K_getR C kin_X12 rfl (Nat.le_of_ble_eq_true rfl) (shM_0 G ad) 6 (by decide) (b := 5) rfl wf_X12_22 rfl dX12_isCommand_14 ?_
    refine K_aload_n C 0 rfl rfl dX12_isCommand_17 ?_
    refine K_getI C kin_X12 rfl (Nat.le_of_ble_eq_true rfl) (shM_0 G ad) 8 (by decide) rfl wf_X12_169 rfl dX12_isCommand_18 ?_
    refine K_cald C (Nat.le_of_ble_eq_true rfl) (shM_5 G ad) dX12_isCommand_21 ?_
    refine K_let rfl (fun x2_1 => ?_)
    refine K_istore_n C (lv1 := [(2, .int x2_1), (0, .ref (kad (wM G ad) 0)), (1, .int x1)]) rfl (by decide) rfl dX12_isCommand_22 ?_
    refine K_iload_n C 0 rfl rfl dX12_isCommand_23 ?_
    refine K_bipush C (v := 109) (by decide) dX12_isCommand_24 ?_
    refine K_icmp_eq C (tgt := 49) (by decide) dX12_isCommand_26 ?_ ?_
    · refine K_sub [1, 2, 0] rfl ?_
      exact kcj_X12_isCommand_49 C f x1 x2_1
    · refine K_iload_n C 0 rfl rfl dX12_isCommand_29 ?_
      refine K_bipush C (v := 114) (by decide) dX12_isCommand_30 ?_
      refine K_icmp_eq C (tgt := 49) (by decide) dX12_isCommand_32 ?_ ?_
      · refine K_sub [1, 2, 0] rfl ?_
        exact kcj_X12_isCommand_49 C f x1 x2_1
      · refine K_iload_n C 0 rfl rfl dX12_isCommand_35 ?_
        refine K_bipush C (v := 119) (by decide) dX12_isCommand_36 ?_
        refine K_icmp_eq C (tgt := 49) (by decide) dX12_isCommand_38 ?_ ?_
        · refine K_sub [1, 2, 0] rfl ?_
          exact kcj_X12_isCommand_49 C f x1 x2_1
        · refine K_iload_n C 0 rfl rfl dX12_isCommand_41 ?_
          refine K_bipush C (v := 108) (by decide) dX12_isCommand_42 ?_
          refine K_icmp_eq C (tgt := 49) (by decide) dX12_isCommand_44 ?_ ?_
          · refine K_sub [1, 2, 0] rfl ?_
            exact kcj_X12_isCommand_49 C f x1 x2_1
          · refine K_iconst C (v := 0) (by decide) dX12_isCommand_47 ?_
            exact K_ret C rfl (by decide) dX12_isCommand_48
  · refine K_iconst C (v := 0) (by decide) dX12_isCommand_11 ?_
    exact K_ret C rfl (by decide) dX12_isCommand_12
def cf_X12_does (f : kMem) (x1 : Int32) : Option (Int32 × kMem) := kchk (kin x1 400) (keq (f 8 (Int32.toNatClampNeg x1)) 109 (kchk (kin (x1 + 1) 400) (kbind (cf_X12_doesMount f (f 8 (Int32.toNatClampNeg (x1 + 1)))) (fun r2 g3 => kchk (kbool r2) (some (r2, g3))))) (keq (f 8 (Int32.toNatClampNeg x1)) 114 (kchk (kin (x1 + 1) 400) (kchk (kin (x1 + 2) 400) (kbind (cf_X12_doesRun f (f 8 (Int32.toNatClampNeg (x1 + 1))) (f 8 (Int32.toNatClampNeg (x1 + 2)))) (fun r5 g6 => kchk (kbool r5) (some (r5, g6)))))) (keq (f 8 (Int32.toNatClampNeg x1)) 119 (kchk (kin (x1 + 1) 400) (kbind (cf_X12_doesPause f (f 8 (Int32.toNatClampNeg (x1 + 1)))) (fun r8 g9 => kchk (kbool r8) (some (r8, g9))))) (kchk (kin (x1 + 1) 400) (kchk (kin (x1 + 2) 400) (kchk (kin (x1 + 3) 400) (kbind (cf_X12_doesLoad f (f 8 (Int32.toNatClampNeg (x1 + 1))) (f 8 (Int32.toNatClampNeg (x1 + 2))) (f 8 (Int32.toNatClampNeg (x1 + 3)))) (fun r10 g11 => kchk (kbool r10) (some (r10, g11))))))))))
set_option maxRecDepth 100000 in
set_option maxHeartbeats 4000000 in
theorem km_X12_does (l : Launch) (G : kG) (ad : Nat → Nat) (f : kMem) (x1 : Int32) (r : Int32) (fo : kMem) (h : cf_X12_does f x1 = some (r, fo)) : kMet l (wM G ad) yX12_does cX12_does 2 (some .boolean) 4 [.ref (kad (wM G ad) 0), .int x1] f r fo := by
  refine kMet_of (own := RX12) (lv := [(0, .ref (kad (wM G ad) 0)), (1, .int x1)]) (by decide) rfl (Nat.le_of_ble_eq_true rfl) rfl h ?_
  intro p e R s m args below meth c C
  unfold cf_X12_does
  refine K_aload_n C 0 rfl rfl dX12_does_0 ?_
  refine K_getR C kin_X12 rfl (Nat.le_of_ble_eq_true rfl) (shM_0 G ad) 14 (by decide) (b := 8) rfl wf_X12_36 rfl dX12_does_1 ?_
  refine K_iload_n C 1 rfl rfl dX12_does_4 ?_
  refine K_iald C (Nat.le_of_ble_eq_true rfl) (shM_8 G ad) dX12_does_5 ?_
  refine K_case (fun hc1 => ?_) (fun hc1 => ?_)
  · refine K_lsw C (off := 34) (tgt := 40) (by decide) (by rw [hc1]; decide) (by decide) dX12_does_6 ?_
    refine K_aload_n C 0 rfl rfl dX12_does_40 ?_
    refine K_aload_n C 0 rfl rfl dX12_does_41 ?_
    refine K_getR C kin_X12 rfl (Nat.le_of_ble_eq_true rfl) (shM_0 G ad) 14 (by decide) (b := 8) rfl wf_X12_36 rfl dX12_does_42 ?_
    refine K_iload_n C 1 rfl rfl dX12_does_45 ?_
    refine K_iconst C (v := 1) (by decide) dX12_does_46 ?_
    refine K_iadd C dX12_does_47 ?_
    refine K_iald C (Nat.le_of_ble_eq_true rfl) (shM_8 G ad) dX12_does_48 ?_
    refine K_callVi C (As := [.int (f 8 (Int32.toNatClampNeg (x1 + 1)))]) (rest := []) (Nat.le_of_ble_eq_true rfl) (shM_0 G ad) rfl hy_X12_doesMount wm_X12_144 (by decide) ⟨Nat.le_refl _, Nat.le_refl _⟩ (fun rr ff hh => km_X12_doesMount l G ad f (f 8 (Int32.toNatClampNeg (x1 + 1))) rr ff hh) rfl rfl (Nat.le_of_ble_eq_true rfl) rfl dX12_does_49 (fun r2 g3 => ?_)
    exact K_bret C rfl dX12_does_52
  · refine K_case (fun hc4 => ?_) (fun hc4 => ?_)
    · refine K_lsw C (off := 47) (tgt := 53) (by decide) (by rw [hc4]; decide) (by decide) dX12_does_6 ?_
      refine K_aload_n C 0 rfl rfl dX12_does_53 ?_
      refine K_aload_n C 0 rfl rfl dX12_does_54 ?_
      refine K_getR C kin_X12 rfl (Nat.le_of_ble_eq_true rfl) (shM_0 G ad) 14 (by decide) (b := 8) rfl wf_X12_36 rfl dX12_does_55 ?_
      refine K_iload_n C 1 rfl rfl dX12_does_58 ?_
      refine K_iconst C (v := 1) (by decide) dX12_does_59 ?_
      refine K_iadd C dX12_does_60 ?_
      refine K_iald C (Nat.le_of_ble_eq_true rfl) (shM_8 G ad) dX12_does_61 ?_
      refine K_aload_n C 0 rfl rfl dX12_does_62 ?_
      refine K_getR C kin_X12 rfl (Nat.le_of_ble_eq_true rfl) (shM_0 G ad) 14 (by decide) (b := 8) rfl wf_X12_36 rfl dX12_does_63 ?_
      refine K_iload_n C 1 rfl rfl dX12_does_66 ?_
      refine K_iconst C (v := 2) (by decide) dX12_does_67 ?_
      refine K_iadd C dX12_does_68 ?_
      refine K_iald C (Nat.le_of_ble_eq_true rfl) (shM_8 G ad) dX12_does_69 ?_
      refine K_callVi C (As := [.int (f 8 (Int32.toNatClampNeg (x1 + 1))), .int (f 8 (Int32.toNatClampNeg (x1 + 2)))]) (rest := []) (Nat.le_of_ble_eq_true rfl) (shM_0 G ad) rfl hy_X12_doesRun wm_X12_156 (by decide) ⟨Nat.le_refl _, Nat.le_refl _⟩ (fun rr ff hh => km_X12_doesRun l G ad f (f 8 (Int32.toNatClampNeg (x1 + 1))) (f 8 (Int32.toNatClampNeg (x1 + 2))) rr ff hh) rfl rfl (Nat.le_of_ble_eq_true rfl) rfl dX12_does_70 (fun r5 g6 => ?_)
      exact K_bret C rfl dX12_does_73
    · refine K_case (fun hc7 => ?_) (fun hc7 => ?_)
      · refine K_lsw C (off := 68) (tgt := 74) (by decide) (by rw [hc7]; decide) (by decide) dX12_does_6 ?_
        refine K_aload_n C 0 rfl rfl dX12_does_74 ?_
        refine K_aload_n C 0 rfl rfl dX12_does_75 ?_
        refine K_getR C kin_X12 rfl (Nat.le_of_ble_eq_true rfl) (shM_0 G ad) 14 (by decide) (b := 8) rfl wf_X12_36 rfl dX12_does_76 ?_
        refine K_iload_n C 1 rfl rfl dX12_does_79 ?_
        refine K_iconst C (v := 1) (by decide) dX12_does_80 ?_
        refine K_iadd C dX12_does_81 ?_
        refine K_iald C (Nat.le_of_ble_eq_true rfl) (shM_8 G ad) dX12_does_82 ?_
        refine K_callVi C (As := [.int (f 8 (Int32.toNatClampNeg (x1 + 1)))]) (rest := []) (Nat.le_of_ble_eq_true rfl) (shM_0 G ad) rfl hy_X12_doesPause wm_X12_153 (by decide) ⟨Nat.le_refl _, Nat.le_refl _⟩ (fun rr ff hh => km_X12_doesPause l G ad f (f 8 (Int32.toNatClampNeg (x1 + 1))) rr ff hh) rfl rfl (Nat.le_of_ble_eq_true rfl) rfl dX12_does_83 (fun r8 g9 => ?_)
        exact K_bret C rfl dX12_does_86
      · refine K_lsw C (off := 81) (tgt := 87) (by decide) (by have q109 := kne 109 (by decide) hc1; have q114 := kne 114 (by decide) hc4; have q119 := kne 119 (by decide) hc7; simp [Op.lookupswitch.offset, Ne.symm q109, Ne.symm q114, Ne.symm q119]) (by decide) dX12_does_6 ?_
        refine K_aload_n C 0 rfl rfl dX12_does_87 ?_
        refine K_aload_n C 0 rfl rfl dX12_does_88 ?_
        refine K_getR C kin_X12 rfl (Nat.le_of_ble_eq_true rfl) (shM_0 G ad) 14 (by decide) (b := 8) rfl wf_X12_36 rfl dX12_does_89 ?_
        refine K_iload_n C 1 rfl rfl dX12_does_92 ?_
        refine K_iconst C (v := 1) (by decide) dX12_does_93 ?_
        refine K_iadd C dX12_does_94 ?_
        refine K_iald C (Nat.le_of_ble_eq_true rfl) (shM_8 G ad) dX12_does_95 ?_
        refine K_aload_n C 0 rfl rfl dX12_does_96 ?_
        refine K_getR C kin_X12 rfl (Nat.le_of_ble_eq_true rfl) (shM_0 G ad) 14 (by decide) (b := 8) rfl wf_X12_36 rfl dX12_does_97 ?_
        refine K_iload_n C 1 rfl rfl dX12_does_100 ?_
        refine K_iconst C (v := 2) (by decide) dX12_does_101 ?_
        refine K_iadd C dX12_does_102 ?_
        refine K_iald C (Nat.le_of_ble_eq_true rfl) (shM_8 G ad) dX12_does_103 ?_
        refine K_aload_n C 0 rfl rfl dX12_does_104 ?_
        refine K_getR C kin_X12 rfl (Nat.le_of_ble_eq_true rfl) (shM_0 G ad) 14 (by decide) (b := 8) rfl wf_X12_36 rfl dX12_does_105 ?_
        refine K_iload_n C 1 rfl rfl dX12_does_108 ?_
        refine K_iconst C (v := 3) (by decide) dX12_does_109 ?_
        refine K_iadd C dX12_does_110 ?_
        refine K_iald C (Nat.le_of_ble_eq_true rfl) (shM_8 G ad) dX12_does_111 ?_
        refine K_callVi C (As := [.int (f 8 (Int32.toNatClampNeg (x1 + 1))), .int (f 8 (Int32.toNatClampNeg (x1 + 2))), .int (f 8 (Int32.toNatClampNeg (x1 + 3)))]) (rest := []) (Nat.le_of_ble_eq_true rfl) (shM_0 G ad) rfl hy_X12_doesLoad wm_X12_147 (by decide) ⟨Nat.le_refl _, Nat.le_refl _⟩ (fun rr ff hh => km_X12_doesLoad l G ad f (f 8 (Int32.toNatClampNeg (x1 + 1))) (f 8 (Int32.toNatClampNeg (x1 + 2))) (f 8 (Int32.toNatClampNeg (x1 + 3))) rr ff hh) rfl rfl (Nat.le_of_ble_eq_true rfl) rfl dX12_does_112 (fun r10 g11 => ?_)
        exact K_bret C rfl dX12_does_115
def cl_X12_family_11 (Y30 : kMem → Option (Int32 × kMem)) : Nat → kMem → Int32 → Option (Int32 × kMem)
  | 0, _, _ => none
  | n + 1, f, x1 => kle 9 x1 ((Y30 f)) (kchk (kin x1 400) (kmem (kup f 8 (Int32.toNatClampNeg x1) 0) (fun g4 => klet (x1 + Int32.ofInt 1) (fun x1_5 => ((cl_X12_family_11 Y30 n) g4 x1_5)))))
def cj_X12_family_53 (f : kMem) (x1 t0 : Int32) : Option (Int32 × kMem) := kmem (kup f 0 9 t0) (fun g10 => keq x1 0 (kbind (cf_X12_raises g10 1) (fun r17 g18 => some (r17, g18))) (kbind (cf_X12_doesFamily g10) (fun r11 g12 => keq r11 0 (kbind (cf_X12_raises g12 2) (fun r15 g16 => some (r15, g16))) (kbind (cf_X12_keeps g12) (fun r13 g14 => some ((g14 0 13), g14))))))
def cf_X12_family (f : kMem) : Option (Int32 × kMem) := kbind (cf_X12_tries f) (fun r1 g2 => kmem (kup g2 0 8 0) (fun g3 => (cl_X12_family_11 (fun g6 => kbind (cf_X12_isFamilyText g6) (fun r7 g8 => kmem (kup g8 0 7 0) (fun g9 => keq r7 0 ((cj_X12_family_53 g9 r7 (g9 0 8))) ((cj_X12_family_53 g9 r7 (-1)))))) 100 g3 0)))
set_option maxRecDepth 100000 in
set_option maxHeartbeats 4000000 in
theorem kcl_X12_family_11 {p : Program} {l : Launch} {e : Env} {R : Room} {s : State} {m : MethodId} {args : Array Value} {below : List Frame} {meth : Method} {c : Code} {G : kG} {ad : Nat → Nat} {z : Int32 × kMem} (C : KC p l e R s m args below meth c (wM G ad) RX12 cX12_family 2 (some .int) 3 0 0) (Y30 : kMem → Option (Int32 × kMem)) (hY30 : ∀ (f : kMem), K p l e R s m args below meth c (wM G ad) 2 (kQF below (wM G ad) (some .int) args s z) z 0 0 f 30 [(0, .ref (kad (wM G ad) 0))] [] (Y30 f)) : ∀ (n : Nat) (f : kMem) (x1 : Int32), K p l e R s m args below meth c (wM G ad) 2 (kQF below (wM G ad) (some .int) args s z) z 0 0 f 11 [(0, .ref (kad (wM G ad) 0)), (1, .int x1)] [] (cl_X12_family_11 Y30 n f x1) := by
  intro n
  induction n with
  | zero => intro f x1; exact K_none
  | succ n ih =>
    intro f x1
    unfold cl_X12_family_11
    refine K_iload_n C 1 rfl rfl dX12_family_11 ?_
    refine K_bipush C (v := 9) (by decide) dX12_family_12 ?_
    refine K_icmp_ge C (tgt := 30) (by decide) dX12_family_14 ?_ ?_
    · refine K_sub [0] rfl ?_
      exact hY30 f
    · refine K_aload_n C 0 rfl rfl dX12_family_17 ?_
      refine K_getR C kin_X12 rfl (Nat.le_of_ble_eq_true rfl) (shM_0 G ad) 14 (by decide) (b := 8) rfl wf_X12_36 rfl dX12_family_18 ?_
      refine K_iload_n C 1 rfl rfl dX12_family_21 ?_
      refine K_iconst C (v := 0) (by decide) dX12_family_22 ?_
      refine K_iast C (Nat.le_of_ble_eq_true rfl) (shM_8 G ad) dX12_family_23 (fun g4 => ?_)
      refine K_iinc C (k := 1) (lv1 := fun x1_5 => [(1, .int x1_5), (0, .ref (kad (wM G ad) 0))]) rfl (by decide) (fun _ => rfl) dX12_family_24 (fun x1_5 => ?_)
      refine K_goto C (tgt := 11) (by decide) dX12_family_27 ?_
      refine K_sub [1, 0] rfl ?_
      exact ih g4 x1_5
set_option maxRecDepth 100000 in
set_option maxHeartbeats 4000000 in
theorem kcj_X12_family_53 {p : Program} {l : Launch} {e : Env} {R : Room} {s : State} {m : MethodId} {args : Array Value} {below : List Frame} {meth : Method} {c : Code} {G : kG} {ad : Nat → Nat} {z : Int32 × kMem} (C : KC p l e R s m args below meth c (wM G ad) RX12 cX12_family 2 (some .int) 3 0 0)  (f : kMem) (x1 t0 : Int32) : K p l e R s m args below meth c (wM G ad) 2 (kQF below (wM G ad) (some .int) args s z) z 0 0 f 53 [(0, .ref (kad (wM G ad) 0)), (1, .int x1)] [.int t0, .ref (kad (wM G ad) 0)] (cj_X12_family_53 f x1 t0) := by
  unfold cj_X12_family_53
  refine K_putI C kin_X12 rfl (Nat.le_of_ble_eq_true rfl) (shM_0 G ad) 9 (by decide) rfl wf_X12_26 rfl tyX12 tyX12_ok nmX12 (by decide) (ty := .int) (by decide +kernel) rfl rfl dX12_family_53 (fun g10 => ?_)
  refine K_iload_n C 1 rfl rfl dX12_family_56 ?_
  refine K_if_ne C (tgt := 66) (by decide) dX12_family_57 ?_ ?_
  · refine K_aload_n C 0 rfl rfl dX12_family_66 ?_
    refine K_callVi C (As := []) (rest := []) (Nat.le_of_ble_eq_true rfl) (shM_0 G ad) rfl hy_X12_doesFamily wm_X12_183 (by decide) ⟨Nat.le_refl _, Nat.le_refl _⟩ (fun rr ff hh => km_X12_doesFamily l G ad g10 rr ff hh) rfl rfl (Nat.le_of_ble_eq_true rfl) rfl dX12_family_67 (fun r11 g12 => ?_)
    refine K_if_ne C (tgt := 79) (by decide) dX12_family_70 ?_ ?_
    · refine K_aload_n C 0 rfl rfl dX12_family_79 ?_
      refine K_callVv C (As := []) (rest := []) (Nat.le_of_ble_eq_true rfl) (shM_0 G ad) rfl hy_X12_keeps wm_X12_58 (by decide) ⟨Nat.le_refl _, Nat.le_refl _⟩ (fun rr ff hh => km_X12_keeps l G ad g12 rr ff hh) rfl rfl (Nat.le_of_ble_eq_true rfl) rfl dX12_family_80 (fun r13 g14 => ?_)
      refine K_aload_n C 0 rfl rfl dX12_family_83 ?_
      refine K_getI C kin_X12 rfl (Nat.le_of_ble_eq_true rfl) (shM_0 G ad) 13 (by decide) rfl wf_X12_61 rfl dX12_family_84 ?_
      exact K_ret C rfl rfl dX12_family_87
    · refine K_aload_n C 0 rfl rfl dX12_family_73 ?_
      refine K_iconst C (v := 2) (by decide) dX12_family_74 ?_
      refine K_callVi C (As := [.int 2]) (rest := []) (Nat.le_of_ble_eq_true rfl) (shM_0 G ad) rfl hy_X12_raises wm_X12_54 (by decide) ⟨Nat.le_refl _, Nat.le_refl _⟩ (fun rr ff hh => km_X12_raises l G ad g12 2 rr ff hh) rfl rfl (Nat.le_of_ble_eq_true rfl) rfl dX12_family_75 (fun r15 g16 => ?_)
      exact K_ret C rfl rfl dX12_family_78
  · refine K_aload_n C 0 rfl rfl dX12_family_60 ?_
    refine K_iconst C (v := 1) (by decide) dX12_family_61 ?_
    refine K_callVi C (As := [.int 1]) (rest := []) (Nat.le_of_ble_eq_true rfl) (shM_0 G ad) rfl hy_X12_raises wm_X12_54 (by decide) ⟨Nat.le_refl _, Nat.le_refl _⟩ (fun rr ff hh => km_X12_raises l G ad g10 1 rr ff hh) rfl rfl (Nat.le_of_ble_eq_true rfl) rfl dX12_family_62 (fun r17 g18 => ?_)
    exact K_ret C rfl rfl dX12_family_65
set_option maxRecDepth 100000 in
set_option maxHeartbeats 4000000 in
theorem km_X12_family (l : Launch) (G : kG) (ad : Nat → Nat) (f : kMem) (r : Int32) (fo : kMem) (h : cf_X12_family f = some (r, fo)) : kMet l (wM G ad) yX12_family cX12_family 2 (some .int) 3 [.ref (kad (wM G ad) 0)] f r fo := by
  refine kMet_of (own := RX12) (lv := [(0, .ref (kad (wM G ad) 0))]) (by decide) rfl (Nat.le_of_ble_eq_true rfl) rfl h ?_
  intro p e R s m args below meth c C
  unfold cf_X12_family
  refine K_aload_n C 0 rfl rfl dX12_family_0 ?_
  refine K_callVv C (As := []) (rest := []) (Nat.le_of_ble_eq_true rfl) (shM_0 G ad) rfl hy_X12_tries wm_X12_131 (by decide) ⟨Nat.le_refl _, Nat.le_refl _⟩ (fun rr ff hh => km_X12_tries l G ad f rr ff hh) rfl rfl (Nat.le_of_ble_eq_true rfl) rfl dX12_family_1 (fun r1 g2 => ?_)
  refine K_aload_n C 0 rfl rfl dX12_family_4 ?_
  refine K_iconst C (v := 0) (by decide) dX12_family_5 ?_
  refine K_putI C kin_X12 rfl (Nat.le_of_ble_eq_true rfl) (shM_0 G ad) 8 (by decide) rfl wf_X12_169 rfl tyX12 tyX12_ok nmX12 (by decide) (ty := .int) (by decide +kernel) rfl rfl dX12_family_6 (fun g3 => ?_)
  refine K_iconst C (v := 0) (by decide) dX12_family_9 ?_
  refine K_istore_n C (lv1 := [(1, .int 0), (0, .ref (kad (wM G ad) 0))]) rfl (by decide) rfl dX12_family_10 ?_
  refine K_sub [1, 0] rfl ?_
  refine kcl_X12_family_11 C _ (fun g6 => ?_) 100 g3 0
  refine K_aload_n C 0 rfl rfl dX12_family_30 ?_
  refine K_callVi C (As := []) (rest := []) (Nat.le_of_ble_eq_true rfl) (shM_0 G ad) rfl hy_X12_isFamilyText wm_X12_179 (by decide) ⟨Nat.le_refl _, Nat.le_refl _⟩ (fun rr ff hh => km_X12_isFamilyText l G ad g6 rr ff hh) rfl rfl (Nat.le_of_ble_eq_true rfl) rfl dX12_family_31 (fun r7 g8 => ?_)
  refine K_istore_n C (lv1 := [(1, .int r7), (0, .ref (kad (wM G ad) 0))]) rfl (by decide) rfl dX12_family_34 ?_
  refine K_aload_n C 1 rfl rfl dX12_family_35 ?_
  refine K_iconst C (v := 0) (by decide) dX12_family_36 ?_
  refine K_putI C kin_X12 rfl (Nat.le_of_ble_eq_true rfl) (shM_0 G ad) 7 (by decide) rfl wf_X12_128 rfl tyX12 tyX12_ok nmX12 (by decide) (ty := .int) (by decide +kernel) rfl rfl dX12_family_37 (fun g9 => ?_)
  refine K_aload_n C 1 rfl rfl dX12_family_40 ?_
  refine K_iload_n C 0 rfl rfl dX12_family_41 ?_
  refine K_if_eq C (tgt := 49) (by decide) dX12_family_42 ?_ ?_
  · refine K_aload_n C 1 rfl rfl dX12_family_49 ?_
    refine K_getI C kin_X12 rfl (Nat.le_of_ble_eq_true rfl) (shM_0 G ad) 8 (by decide) rfl wf_X12_169 rfl dX12_family_50 ?_
    refine K_sub [1, 0] rfl ?_
    exact kcj_X12_family_53 C g9 r7 (g9 0 8)
  · refine K_iconst C (v := (-1)) (by decide) dX12_family_45 ?_
    refine K_goto C (tgt := 53) (by decide) dX12_family_46 ?_
    refine K_sub [1, 0] rfl ?_
    exact kcj_X12_family_53 C g9 r7 (-1)
def cl_X12_program_17 (Y63 : kMem → Int32 → Int32 → Option (Int32 × kMem)) : Nat → kMem → Int32 → Int32 → Option (Int32 × kMem)
  | 0, _, _, _ => none
  | n + 1, f, x1, x2 => keq x2 0 ((Y63 f x1 x2)) (kle (f 0 7) (f 0 8) ((Y63 f x1 x2)) (klet (x1 + Int32.ofInt 1) (fun x1_6 => kbind (cf_X12_takes f 59) (fun r7 g8 => keq r7 0 (((cl_X12_program_17 Y63 n) g8 x1_6 0)) (kbind (cf_X12_isCommand g8 (4 * x1_6)) (fun r9 g10 => keq r9 0 (((cl_X12_program_17 Y63 n) g10 x1_6 0)) (((cl_X12_program_17 Y63 n) g10 x1_6 1))))))))
def cl_X12_program_99 (Y117 : kMem → Int32 → Option (Int32 × kMem)) (Y207 : kMem → Int32 → Option (Int32 × kMem)) : Nat → kMem → Int32 → Int32 → Option (Int32 × kMem)
  | 0, _, _, _ => none
  | n + 1, f, x1, x3 => kle x1 x3 ((Y207 f x1)) (kbind (cf_X12_does f (4 * x3)) (fun r17 g18 => keq r17 0 ((Y117 g18 x3)) (klet (x3 + Int32.ofInt 1) (fun x3_19 => ((cl_X12_program_99 Y117 Y207 n) g18 x1 x3_19)))))
def cl_X12_program_127 (Y170 : kMem → Int32 → Option (Int32 × kMem)) : Nat → kMem → Int32 → Int32 → Option (Int32 × kMem)
  | 0, _, _, _ => none
  | n + 1, f, x3, x4 => kle x4 0 ((Y170 f x3)) (kchk (kin (x4 - 1) 3) (kchk (kin x4 3) (kmem (kup f 6 (Int32.toNatClampNeg x4) (f 6 (Int32.toNatClampNeg (x4 - 1)))) (fun g25 => kchk (kin (x4 - 1) 3) (kchk (kin x4 3) (kmem (kup g25 7 (Int32.toNatClampNeg x4) (g25 7 (Int32.toNatClampNeg (x4 - 1)))) (fun g26 => klet (x4 + Int32.ofInt (-1)) (fun x4_27 => ((cl_X12_program_127 Y170 n) g26 x3 x4_27)))))))))
def cj_X12_program_84 (f : kMem) (x1 x2 t0 : Int32) : Option (Int32 × kMem) := kmem (kup f 0 9 t0) (fun g16 => keq x2 0 (kbind (cf_X12_raises g16 1) (fun r39 g40 => some (r39, g40))) ((cl_X12_program_99 (fun g21 x3_20 => kbind (cf_X12_comesBack g21) (fun r22 g23 => klet (g23 0 10) (fun x4_24 => (cl_X12_program_127 (fun g29 x3_28 => kmem (kup g29 0 10 ((g29 0 10) + 1)) (fun g30 => kmem (kup g30 6 0 13) (fun g31 => kmem (kup g31 7 0 x3_28) (fun g32 => kbind (cf_X12_raises g32 2) (fun r33 g34 => some (r33, g34)))))) 100 g23 x3_20 x4_24)))) (fun g36 x1_35 => kbind (cf_X12_keeps g36) (fun r37 g38 => some (x1_35, g38))) 100 g16 x1 0)))
def cj_X12_program_63 (f : kMem) (x1 x2 : Int32) : Option (Int32 × kMem) := klet (x1 + Int32.ofInt 1) (fun x1_14 => kmem (kup f 0 7 0) (fun g15 => keq x2 0 ((cj_X12_program_84 g15 x1_14 x2 (g15 0 8))) ((cj_X12_program_84 g15 x1_14 x2 (-1)))))
def cf_X12_program (f : kMem) : Option (Int32 × kMem) := kbind (cf_X12_tries f) (fun r1 g2 => kmem (kup g2 0 8 0) (fun g3 => kbind (cf_X12_isCommand g3 0) (fun r4 g5 => (cl_X12_program_17 (fun g13 x1_11 x2_12 => (cj_X12_program_63 g13 x1_11 x2_12)) 100 g5 0 r4))))
set_option maxRecDepth 100000 in
set_option maxHeartbeats 4000000 in
theorem kcl_X12_program_17 {p : Program} {l : Launch} {e : Env} {R : Room} {s : State} {m : MethodId} {args : Array Value} {below : List Frame} {meth : Method} {c : Code} {G : kG} {ad : Nat → Nat} {z : Int32 × kMem} (C : KC p l e R s m args below meth c (wM G ad) RX12 cX12_program 5 (some .int) 5 0 0) (Y63 : kMem → Int32 → Int32 → Option (Int32 × kMem)) (hY63 : ∀ (f : kMem) (x1 x2 : Int32), K p l e R s m args below meth c (wM G ad) 5 (kQF below (wM G ad) (some .int) args s z) z 0 0 f 63 [(0, .ref (kad (wM G ad) 0)), (1, .int x1), (2, .int x2)] [] (Y63 f x1 x2)) : ∀ (n : Nat) (f : kMem) (x1 x2 : Int32), K p l e R s m args below meth c (wM G ad) 5 (kQF below (wM G ad) (some .int) args s z) z 0 0 f 17 [(0, .ref (kad (wM G ad) 0)), (1, .int x1), (2, .int x2)] [] (cl_X12_program_17 Y63 n f x1 x2) := by
  intro n
  induction n with
  | zero => intro f x1 x2; exact K_none
  | succ n ih =>
    intro f x1 x2
    unfold cl_X12_program_17
    refine K_iload_n C 2 rfl rfl dX12_program_17 ?_
    refine K_if_eq C (tgt := 63) (by decide) dX12_program_18 ?_ ?_
    · exact hY63 f x1 x2
    · refine K_aload_n C 0 rfl rfl dX12_program_21 ?_
      refine K_getI C kin_X12 rfl (Nat.le_of_ble_eq_true rfl) (shM_0 G ad) 8 (by decide) rfl wf_X12_169 rfl dX12_program_22 ?_
      refine K_aload_n C 0 rfl rfl dX12_program_25 ?_
      refine K_getI C kin_X12 rfl (Nat.le_of_ble_eq_true rfl) (shM_0 G ad) 7 (by decide) rfl wf_X12_128 rfl dX12_program_26 ?_
      refine K_icmp_ge C (tgt := 63) (by decide) dX12_program_29 ?_ ?_
      · exact hY63 f x1 x2
      · refine K_iinc C (k := 1) (lv1 := fun x1_6 => [(1, .int x1_6), (0, .ref (kad (wM G ad) 0)), (2, .int x2)]) rfl (by decide) (fun _ => rfl) dX12_program_32 (fun x1_6 => ?_)
        refine K_aload_n C 1 rfl rfl dX12_program_35 ?_
        refine K_bipush C (v := 59) (by decide) dX12_program_36 ?_
        refine K_callVi C (As := [.int 59]) (rest := []) (Nat.le_of_ble_eq_true rfl) (shM_0 G ad) rfl hy_X12_takes wm_X12_175 (by decide) ⟨Nat.le_refl _, Nat.le_refl _⟩ (fun rr ff hh => km_X12_takes l G ad f 59 rr ff hh) rfl rfl (Nat.le_of_ble_eq_true rfl) rfl dX12_program_38 (fun r7 g8 => ?_)
        refine K_if_eq C (tgt := 58) (by decide) dX12_program_41 ?_ ?_
        · refine K_iconst C (v := 0) (by decide) dX12_program_58 ?_
          refine K_istore_n C (lv1 := [(2, .int 0), (1, .int x1_6), (0, .ref (kad (wM G ad) 0))]) rfl (by decide) rfl dX12_program_59 ?_
          refine K_goto C (tgt := 17) (by decide) dX12_program_60 ?_
          refine K_sub [2, 1, 0] rfl ?_
          exact ih g8 x1_6 0
        · refine K_aload_n C 1 rfl rfl dX12_program_44 ?_
          refine K_iconst C (v := 4) (by decide) dX12_program_45 ?_
          refine K_iload_n C 0 rfl rfl dX12_program_46 ?_
          refine K_imul C dX12_program_47 ?_
          refine K_callVi C (As := [.int (4 * x1_6)]) (rest := []) (Nat.le_of_ble_eq_true rfl) (shM_0 G ad) rfl hy_X12_isCommand wm_X12_186 (by decide) ⟨Nat.le_refl _, Nat.le_refl _⟩ (fun rr ff hh => km_X12_isCommand l G ad g8 (4 * x1_6) rr ff hh) rfl rfl (Nat.le_of_ble_eq_true rfl) rfl dX12_program_48 (fun r9 g10 => ?_)
          refine K_if_eq C (tgt := 58) (by decide) dX12_program_51 ?_ ?_
          · refine K_iconst C (v := 0) (by decide) dX12_program_58 ?_
            refine K_istore_n C (lv1 := [(2, .int 0), (1, .int x1_6), (0, .ref (kad (wM G ad) 0))]) rfl (by decide) rfl dX12_program_59 ?_
            refine K_goto C (tgt := 17) (by decide) dX12_program_60 ?_
            refine K_sub [2, 1, 0] rfl ?_
            exact ih g10 x1_6 0
          · refine K_iconst C (v := 1) (by decide) dX12_program_54 ?_
            refine K_goto C (tgt := 59) (by decide) dX12_program_55 ?_
            refine K_istore_n C (lv1 := [(2, .int 1), (1, .int x1_6), (0, .ref (kad (wM G ad) 0))]) rfl (by decide) rfl dX12_program_59 ?_
            refine K_goto C (tgt := 17) (by decide) dX12_program_60 ?_
            refine K_sub [2, 1, 0] rfl ?_
            exact ih g10 x1_6 1
set_option maxRecDepth 100000 in
set_option maxHeartbeats 4000000 in
theorem kcl_X12_program_99 {p : Program} {l : Launch} {e : Env} {R : Room} {s : State} {m : MethodId} {args : Array Value} {below : List Frame} {meth : Method} {c : Code} {G : kG} {ad : Nat → Nat} {z : Int32 × kMem} (C : KC p l e R s m args below meth c (wM G ad) RX12 cX12_program 5 (some .int) 5 0 0) (Y117 : kMem → Int32 → Option (Int32 × kMem)) (Y207 : kMem → Int32 → Option (Int32 × kMem)) (hY117 : ∀ (f : kMem) (x3 : Int32), K p l e R s m args below meth c (wM G ad) 5 (kQF below (wM G ad) (some .int) args s z) z 0 0 f 117 [(0, .ref (kad (wM G ad) 0)), (3, .int x3)] [] (Y117 f x3)) (hY207 : ∀ (f : kMem) (x1 : Int32), K p l e R s m args below meth c (wM G ad) 5 (kQF below (wM G ad) (some .int) args s z) z 0 0 f 207 [(0, .ref (kad (wM G ad) 0)), (1, .int x1)] [] (Y207 f x1)) : ∀ (n : Nat) (f : kMem) (x1 x3 : Int32), K p l e R s m args below meth c (wM G ad) 5 (kQF below (wM G ad) (some .int) args s z) z 0 0 f 99 [(0, .ref (kad (wM G ad) 0)), (1, .int x1), (3, .int x3)] [] (cl_X12_program_99 Y117 Y207 n f x1 x3) := by
  intro n
  induction n with
  | zero => intro f x1 x3; exact K_none
  | succ n ih =>
    intro f x1 x3
    unfold cl_X12_program_99
    refine K_iload_n C 2 rfl rfl dX12_program_99 ?_
    refine K_iload_n C 1 rfl rfl dX12_program_100 ?_
    refine K_icmp_ge C (tgt := 207) (by decide) dX12_program_101 ?_ ?_
    · refine K_sub [0, 1] rfl ?_
      exact hY207 f x1
    · refine K_aload_n C 0 rfl rfl dX12_program_104 ?_
      refine K_iconst C (v := 4) (by decide) dX12_program_105 ?_
      refine K_iload_n C 2 rfl rfl dX12_program_106 ?_
      refine K_imul C dX12_program_107 ?_
      refine K_callVi C (As := [.int (4 * x3)]) (rest := []) (Nat.le_of_ble_eq_true rfl) (shM_0 G ad) rfl hy_X12_does wm_X12_189 (by decide) ⟨Nat.le_refl _, Nat.le_refl _⟩ (fun rr ff hh => km_X12_does l G ad f (4 * x3) rr ff hh) rfl rfl (Nat.le_of_ble_eq_true rfl) rfl dX12_program_108 (fun r17 g18 => ?_)
      refine K_if_eq C (tgt := 117) (by decide) dX12_program_111 ?_ ?_
      · refine K_sub [0, 2] rfl ?_
        exact hY117 g18 x3
      · refine K_goto C (tgt := 201) (by decide) dX12_program_114 ?_
        refine K_iinc C (k := 2) (lv1 := fun x3_19 => [(3, .int x3_19), (0, .ref (kad (wM G ad) 0)), (1, .int x1)]) rfl (by decide) (fun _ => rfl) dX12_program_201 (fun x3_19 => ?_)
        refine K_goto C (tgt := 99) (by decide) dX12_program_204 ?_
        refine K_sub [1, 2, 0] rfl ?_
        exact ih g18 x1 x3_19
set_option maxRecDepth 100000 in
set_option maxHeartbeats 4000000 in
theorem kcl_X12_program_127 {p : Program} {l : Launch} {e : Env} {R : Room} {s : State} {m : MethodId} {args : Array Value} {below : List Frame} {meth : Method} {c : Code} {G : kG} {ad : Nat → Nat} {z : Int32 × kMem} (C : KC p l e R s m args below meth c (wM G ad) RX12 cX12_program 5 (some .int) 5 0 0) (Y170 : kMem → Int32 → Option (Int32 × kMem)) (hY170 : ∀ (f : kMem) (x3 : Int32), K p l e R s m args below meth c (wM G ad) 5 (kQF below (wM G ad) (some .int) args s z) z 0 0 f 170 [(0, .ref (kad (wM G ad) 0)), (3, .int x3)] [] (Y170 f x3)) : ∀ (n : Nat) (f : kMem) (x3 x4 : Int32), K p l e R s m args below meth c (wM G ad) 5 (kQF below (wM G ad) (some .int) args s z) z 0 0 f 127 [(0, .ref (kad (wM G ad) 0)), (3, .int x3), (4, .int x4)] [] (cl_X12_program_127 Y170 n f x3 x4) := by
  intro n
  induction n with
  | zero => intro f x3 x4; exact K_none
  | succ n ih =>
    intro f x3 x4
    unfold cl_X12_program_127
    refine K_iload C 2 rfl dX12_program_127 ?_
    refine K_if_le C (tgt := 170) (by decide) dX12_program_129 ?_ ?_
    · refine K_sub [0, 1] rfl ?_
      exact hY170 f x3
    · refine K_aload_n C 0 rfl rfl dX12_program_132 ?_
      refine K_getR C kin_X12 rfl (Nat.le_of_ble_eq_true rfl) (shM_0 G ad) 11 (by decide) (b := 6) rfl wf_X12_30 rfl dX12_program_133 ?_
      refine K_iload C 2 rfl dX12_program_136 ?_
      refine K_aload_n C 0 rfl rfl dX12_program_138 ?_
      refine K_getR C kin_X12 rfl (Nat.le_of_ble_eq_true rfl) (shM_0 G ad) 11 (by decide) (b := 6) rfl wf_X12_30 rfl dX12_program_139 ?_
      refine K_iload C 2 rfl dX12_program_142 ?_
      refine K_iconst C (v := 1) (by decide) dX12_program_144 ?_
      refine K_isub C dX12_program_145 ?_
      refine K_iald C (Nat.le_of_ble_eq_true rfl) (shM_6 G ad) dX12_program_146 ?_
      refine K_iast C (Nat.le_of_ble_eq_true rfl) (shM_6 G ad) dX12_program_147 (fun g25 => ?_)
      refine K_aload_n C 0 rfl rfl dX12_program_148 ?_
      refine K_getR C kin_X12 rfl (Nat.le_of_ble_eq_true rfl) (shM_0 G ad) 12 (by decide) (b := 7) rfl wf_X12_33 rfl dX12_program_149 ?_
      refine K_iload C 2 rfl dX12_program_152 ?_
      refine K_aload_n C 0 rfl rfl dX12_program_154 ?_
      refine K_getR C kin_X12 rfl (Nat.le_of_ble_eq_true rfl) (shM_0 G ad) 12 (by decide) (b := 7) rfl wf_X12_33 rfl dX12_program_155 ?_
      refine K_iload C 2 rfl dX12_program_158 ?_
      refine K_iconst C (v := 1) (by decide) dX12_program_160 ?_
      refine K_isub C dX12_program_161 ?_
      refine K_iald C (Nat.le_of_ble_eq_true rfl) (shM_7 G ad) dX12_program_162 ?_
      refine K_iast C (Nat.le_of_ble_eq_true rfl) (shM_7 G ad) dX12_program_163 (fun g26 => ?_)
      refine K_iinc C (k := 2) (lv1 := fun x4_27 => [(4, .int x4_27), (0, .ref (kad (wM G ad) 0)), (3, .int x3)]) rfl (by decide) (fun _ => rfl) dX12_program_164 (fun x4_27 => ?_)
      refine K_goto C (tgt := 127) (by decide) dX12_program_167 ?_
      refine K_sub [1, 2, 0] rfl ?_
      exact ih g26 x3 x4_27
set_option maxRecDepth 100000 in
set_option maxHeartbeats 4000000 in
theorem kcj_X12_program_84 {p : Program} {l : Launch} {e : Env} {R : Room} {s : State} {m : MethodId} {args : Array Value} {below : List Frame} {meth : Method} {c : Code} {G : kG} {ad : Nat → Nat} {z : Int32 × kMem} (C : KC p l e R s m args below meth c (wM G ad) RX12 cX12_program 5 (some .int) 5 0 0)  (f : kMem) (x1 x2 t0 : Int32) : K p l e R s m args below meth c (wM G ad) 5 (kQF below (wM G ad) (some .int) args s z) z 0 0 f 84 [(0, .ref (kad (wM G ad) 0)), (1, .int x1), (2, .int x2)] [.int t0, .ref (kad (wM G ad) 0)] (cj_X12_program_84 f x1 x2 t0) := by
  unfold cj_X12_program_84
  refine K_putI C kin_X12 rfl (Nat.le_of_ble_eq_true rfl) (shM_0 G ad) 9 (by decide) rfl wf_X12_26 rfl tyX12 tyX12_ok nmX12 (by decide) (ty := .int) (by decide +kernel) rfl rfl dX12_program_84 (fun g16 => ?_)
  refine K_iload_n C 2 rfl rfl dX12_program_87 ?_
  refine K_if_ne C (tgt := 97) (by decide) dX12_program_88 ?_ ?_
  · refine K_iconst C (v := 0) (by decide) dX12_program_97 ?_
    refine K_istore_n C (lv1 := [(3, .int 0), (0, .ref (kad (wM G ad) 0)), (1, .int x1), (2, .int x2)]) rfl (by decide) rfl dX12_program_98 ?_
    refine K_sub [1, 2, 0] rfl ?_
    refine kcl_X12_program_99 C _ _ (fun g21 x3_20 => ?_) (fun g36 x1_35 => ?_) 100 g16 x1 0
    · refine K_aload_n C 0 rfl rfl dX12_program_117 ?_
      refine K_callVv C (As := []) (rest := []) (Nat.le_of_ble_eq_true rfl) (shM_0 G ad) rfl hy_X12_comesBack wm_X12_192 (by decide) ⟨Nat.le_refl _, Nat.le_refl _⟩ (fun rr ff hh => km_X12_comesBack l G ad g21 rr ff hh) rfl rfl (Nat.le_of_ble_eq_true rfl) rfl dX12_program_118 (fun r22 g23 => ?_)
      refine K_aload_n C 0 rfl rfl dX12_program_121 ?_
      refine K_getI C kin_X12 rfl (Nat.le_of_ble_eq_true rfl) (shM_0 G ad) 10 (by decide) rfl wf_X12_51 rfl dX12_program_122 ?_
      refine K_let rfl (fun x4_24 => ?_)
      refine K_istore C (lv1 := [(4, .int x4_24), (0, .ref (kad (wM G ad) 0)), (3, .int x3_20)]) (by decide) rfl dX12_program_125 ?_
      refine K_sub [1, 2, 0] rfl ?_
      refine kcl_X12_program_127 C _ (fun g29 x3_28 => ?_) 100 g23 x3_20 x4_24
      refine K_aload_n C 0 rfl rfl dX12_program_170 ?_
      refine K_dup C rfl dX12_program_171 ?_
      refine K_getI C kin_X12 rfl (Nat.le_of_ble_eq_true rfl) (shM_0 G ad) 10 (by decide) rfl wf_X12_51 rfl dX12_program_172 ?_
      refine K_iconst C (v := 1) (by decide) dX12_program_175 ?_
      refine K_iadd C dX12_program_176 ?_
      refine K_putI C kin_X12 rfl (Nat.le_of_ble_eq_true rfl) (shM_0 G ad) 10 (by decide) rfl wf_X12_51 rfl tyX12 tyX12_ok nmX12 (by decide) (ty := .int) (by decide +kernel) rfl rfl dX12_program_177 (fun g30 => ?_)
      refine K_aload_n C 0 rfl rfl dX12_program_180 ?_
      refine K_getR C kin_X12 rfl (Nat.le_of_ble_eq_true rfl) (shM_0 G ad) 11 (by decide) (b := 6) rfl wf_X12_30 rfl dX12_program_181 ?_
      refine K_iconst C (v := 0) (by decide) dX12_program_184 ?_
      refine K_bipush C (v := 13) (by decide) dX12_program_185 ?_
      refine K_iastC C (Nat.le_of_ble_eq_true rfl) (shM_6 G ad) (kin_in (by decide)) dX12_program_187 0 (by decide) (fun g31 => ?_)
      refine K_aload_n C 0 rfl rfl dX12_program_188 ?_
      refine K_getR C kin_X12 rfl (Nat.le_of_ble_eq_true rfl) (shM_0 G ad) 12 (by decide) (b := 7) rfl wf_X12_33 rfl dX12_program_189 ?_
      refine K_iconst C (v := 0) (by decide) dX12_program_192 ?_
      refine K_iload_n C 1 rfl rfl dX12_program_193 ?_
      refine K_iastC C (Nat.le_of_ble_eq_true rfl) (shM_7 G ad) (kin_in (by decide)) dX12_program_194 0 (by decide) (fun g32 => ?_)
      refine K_aload_n C 0 rfl rfl dX12_program_195 ?_
      refine K_iconst C (v := 2) (by decide) dX12_program_196 ?_
      refine K_callVi C (As := [.int 2]) (rest := []) (Nat.le_of_ble_eq_true rfl) (shM_0 G ad) rfl hy_X12_raises wm_X12_54 (by decide) ⟨Nat.le_refl _, Nat.le_refl _⟩ (fun rr ff hh => km_X12_raises l G ad g32 2 rr ff hh) rfl rfl (Nat.le_of_ble_eq_true rfl) rfl dX12_program_197 (fun r33 g34 => ?_)
      exact K_ret C rfl rfl dX12_program_200
    · refine K_aload_n C 0 rfl rfl dX12_program_207 ?_
      refine K_callVv C (As := []) (rest := []) (Nat.le_of_ble_eq_true rfl) (shM_0 G ad) rfl hy_X12_keeps wm_X12_58 (by decide) ⟨Nat.le_refl _, Nat.le_refl _⟩ (fun rr ff hh => km_X12_keeps l G ad g36 rr ff hh) rfl rfl (Nat.le_of_ble_eq_true rfl) rfl dX12_program_208 (fun r37 g38 => ?_)
      refine K_iload_n C 1 rfl rfl dX12_program_211 ?_
      exact K_ret C rfl rfl dX12_program_212
  · refine K_aload_n C 0 rfl rfl dX12_program_91 ?_
    refine K_iconst C (v := 1) (by decide) dX12_program_92 ?_
    refine K_callVi C (As := [.int 1]) (rest := []) (Nat.le_of_ble_eq_true rfl) (shM_0 G ad) rfl hy_X12_raises wm_X12_54 (by decide) ⟨Nat.le_refl _, Nat.le_refl _⟩ (fun rr ff hh => km_X12_raises l G ad g16 1 rr ff hh) rfl rfl (Nat.le_of_ble_eq_true rfl) rfl dX12_program_93 (fun r39 g40 => ?_)
    exact K_ret C rfl rfl dX12_program_96
set_option maxRecDepth 100000 in
set_option maxHeartbeats 4000000 in
theorem kcj_X12_program_63 {p : Program} {l : Launch} {e : Env} {R : Room} {s : State} {m : MethodId} {args : Array Value} {below : List Frame} {meth : Method} {c : Code} {G : kG} {ad : Nat → Nat} {z : Int32 × kMem} (C : KC p l e R s m args below meth c (wM G ad) RX12 cX12_program 5 (some .int) 5 0 0)  (f : kMem) (x1 x2 : Int32) : K p l e R s m args below meth c (wM G ad) 5 (kQF below (wM G ad) (some .int) args s z) z 0 0 f 63 [(0, .ref (kad (wM G ad) 0)), (1, .int x1), (2, .int x2)] [] (cj_X12_program_63 f x1 x2) := by
  unfold cj_X12_program_63
  refine K_iinc C (k := 1) (lv1 := fun x1_14 => [(1, .int x1_14), (0, .ref (kad (wM G ad) 0)), (2, .int x2)]) rfl (by decide) (fun _ => rfl) dX12_program_63 (fun x1_14 => ?_)
  refine K_aload_n C 1 rfl rfl dX12_program_66 ?_
  refine K_iconst C (v := 0) (by decide) dX12_program_67 ?_
  refine K_putI C kin_X12 rfl (Nat.le_of_ble_eq_true rfl) (shM_0 G ad) 7 (by decide) rfl wf_X12_128 rfl tyX12 tyX12_ok nmX12 (by decide) (ty := .int) (by decide +kernel) rfl rfl dX12_program_68 (fun g15 => ?_)
  refine K_aload_n C 1 rfl rfl dX12_program_71 ?_
  refine K_iload_n C 2 rfl rfl dX12_program_72 ?_
  refine K_if_eq C (tgt := 80) (by decide) dX12_program_73 ?_ ?_
  · refine K_aload_n C 1 rfl rfl dX12_program_80 ?_
    refine K_getI C kin_X12 rfl (Nat.le_of_ble_eq_true rfl) (shM_0 G ad) 8 (by decide) rfl wf_X12_169 rfl dX12_program_81 ?_
    refine K_sub [1, 0, 2] rfl ?_
    exact kcj_X12_program_84 C g15 x1_14 x2 (g15 0 8)
  · refine K_iconst C (v := (-1)) (by decide) dX12_program_76 ?_
    refine K_goto C (tgt := 84) (by decide) dX12_program_77 ?_
    refine K_sub [1, 0, 2] rfl ?_
    exact kcj_X12_program_84 C g15 x1_14 x2 (-1)
set_option maxRecDepth 100000 in
set_option maxHeartbeats 4000000 in
theorem km_X12_program (l : Launch) (G : kG) (ad : Nat → Nat) (f : kMem) (r : Int32) (fo : kMem) (h : cf_X12_program f = some (r, fo)) : kMet l (wM G ad) yX12_program cX12_program 5 (some .int) 5 [.ref (kad (wM G ad) 0)] f r fo := by
  refine kMet_of (own := RX12) (lv := [(0, .ref (kad (wM G ad) 0))]) (by decide) rfl (Nat.le_of_ble_eq_true rfl) rfl h ?_
  intro p e R s m args below meth c C
  unfold cf_X12_program
  refine K_aload_n C 0 rfl rfl dX12_program_0 ?_
  refine K_callVv C (As := []) (rest := []) (Nat.le_of_ble_eq_true rfl) (shM_0 G ad) rfl hy_X12_tries wm_X12_131 (by decide) ⟨Nat.le_refl _, Nat.le_refl _⟩ (fun rr ff hh => km_X12_tries l G ad f rr ff hh) rfl rfl (Nat.le_of_ble_eq_true rfl) rfl dX12_program_1 (fun r1 g2 => ?_)
  refine K_aload_n C 0 rfl rfl dX12_program_4 ?_
  refine K_iconst C (v := 0) (by decide) dX12_program_5 ?_
  refine K_putI C kin_X12 rfl (Nat.le_of_ble_eq_true rfl) (shM_0 G ad) 8 (by decide) rfl wf_X12_169 rfl tyX12 tyX12_ok nmX12 (by decide) (ty := .int) (by decide +kernel) rfl rfl dX12_program_6 (fun g3 => ?_)
  refine K_iconst C (v := 0) (by decide) dX12_program_9 ?_
  refine K_istore_n C (lv1 := [(1, .int 0), (0, .ref (kad (wM G ad) 0))]) rfl (by decide) rfl dX12_program_10 ?_
  refine K_aload_n C 1 rfl rfl dX12_program_11 ?_
  refine K_iconst C (v := 0) (by decide) dX12_program_12 ?_
  refine K_callVi C (As := [.int 0]) (rest := []) (Nat.le_of_ble_eq_true rfl) (shM_0 G ad) rfl hy_X12_isCommand wm_X12_186 (by decide) ⟨Nat.le_refl _, Nat.le_refl _⟩ (fun rr ff hh => km_X12_isCommand l G ad g3 0 rr ff hh) rfl rfl (Nat.le_of_ble_eq_true rfl) rfl dX12_program_13 (fun r4 g5 => ?_)
  refine K_istore_n C (lv1 := [(2, .int r4), (1, .int 0), (0, .ref (kad (wM G ad) 0))]) rfl (by decide) rfl dX12_program_16 ?_
  refine K_sub [2, 1, 0] rfl ?_
  refine kcl_X12_program_17 C _ (fun g13 x1_11 x2_12 => ?_) 100 g5 0 r4
  exact kcj_X12_program_63 C g13 x1_11 x2_12
def cf_X12_faultPosition (f : kMem) : Option (Int32 × kMem) := kmem (kup f 0 18 0) (fun g1 => some ((g1 0 9), g1))
set_option maxRecDepth 100000 in
set_option maxHeartbeats 4000000 in
theorem km_X12_faultPosition (l : Launch) (G : kG) (ad : Nat → Nat) (f : kMem) (r : Int32) (fo : kMem) (h : cf_X12_faultPosition f = some (r, fo)) : kMet l (wM G ad) yX12_faultPosition cX12_faultPosition 1 (some .int) 0 [.ref (kad (wM G ad) 0)] f r fo := by
  refine kMet_of (own := RX12) (lv := [(0, .ref (kad (wM G ad) 0))]) (by decide) rfl (Nat.le_of_ble_eq_true rfl) rfl h ?_
  intro p e R s m args below meth c C
  unfold cf_X12_faultPosition
  refine K_aload_n C 0 rfl rfl dX12_faultPosition_0 ?_
  refine K_iconst C (v := 0) (by decide) dX12_faultPosition_1 ?_
  refine K_putI C kin_X12 rfl (Nat.le_of_ble_eq_true rfl) (shM_0 G ad) 18 (by decide) rfl wf_X12_45 rfl tyX12 tyX12_ok nmX12 (by decide) (ty := .int) (by decide +kernel) rfl rfl dX12_faultPosition_2 (fun g1 => ?_)
  refine K_aload_n C 0 rfl rfl dX12_faultPosition_5 ?_
  refine K_getI C kin_X12 rfl (Nat.le_of_ble_eq_true rfl) (shM_0 G ad) 9 (by decide) rfl wf_X12_26 rfl dX12_faultPosition_6 ?_
  exact K_ret C rfl rfl dX12_faultPosition_9
def cj_X12_purge_30 (f : kMem) : Option (Int32 × kMem) := kbind (cf_X12_raises f 1) (fun r4 g5 => some (r4, g5))
def cf_X12_purge (f : kMem) (x1 x2 : Int32) : Option (Int32 × kMem) := kmem (kup f 0 18 0) (fun g1 => kbind (cf_X12_isColour g1 x1) (fun r2 g3 => keq r2 0 ((cj_X12_purge_30 g3)) (kbind (cf_X12_isColour g3 x2) (fun r6 g7 => keq r6 0 ((cj_X12_purge_30 g7)) (kbind (cf_X12_purgeOf g7 x1 x2) (fun r8 g9 => some (r8, g9)))))))
set_option maxRecDepth 100000 in
set_option maxHeartbeats 4000000 in
theorem kcj_X12_purge_30 {p : Program} {l : Launch} {e : Env} {R : Room} {s : State} {m : MethodId} {args : Array Value} {below : List Frame} {meth : Method} {c : Code} {G : kG} {ad : Nat → Nat} {z : Int32 × kMem} (C : KC p l e R s m args below meth c (wM G ad) RX12 cX12_purge 3 (some .int) 2 0 0)  (f : kMem) : K p l e R s m args below meth c (wM G ad) 3 (kQF below (wM G ad) (some .int) args s z) z 0 0 f 30 [(0, .ref (kad (wM G ad) 0))] [] (cj_X12_purge_30 f) := by
  unfold cj_X12_purge_30
  refine K_aload_n C 0 rfl rfl dX12_purge_30 ?_
  refine K_iconst C (v := 1) (by decide) dX12_purge_31 ?_
  refine K_callVi C (As := [.int 1]) (rest := []) (Nat.le_of_ble_eq_true rfl) (shM_0 G ad) rfl hy_X12_raises wm_X12_54 (by decide) ⟨Nat.le_refl _, Nat.le_refl _⟩ (fun rr ff hh => km_X12_raises l G ad f 1 rr ff hh) rfl rfl (Nat.le_of_ble_eq_true rfl) rfl dX12_purge_32 (fun r4 g5 => ?_)
  exact K_ret C rfl rfl dX12_purge_35
set_option maxRecDepth 100000 in
set_option maxHeartbeats 4000000 in
theorem km_X12_purge (l : Launch) (G : kG) (ad : Nat → Nat) (f : kMem) (x1 x2 : Int32) (r : Int32) (fo : kMem) (h : cf_X12_purge f x1 x2 = some (r, fo)) : kMet l (wM G ad) yX12_purge cX12_purge 3 (some .int) 2 [.ref (kad (wM G ad) 0), .int x1, .int x2] f r fo := by
  refine kMet_of (own := RX12) (lv := [(0, .ref (kad (wM G ad) 0)), (1, .int x1), (2, .int x2)]) (by decide) rfl (Nat.le_of_ble_eq_true rfl) rfl h ?_
  intro p e R s m args below meth c C
  unfold cf_X12_purge
  refine K_aload_n C 0 rfl rfl dX12_purge_0 ?_
  refine K_iconst C (v := 0) (by decide) dX12_purge_1 ?_
  refine K_putI C kin_X12 rfl (Nat.le_of_ble_eq_true rfl) (shM_0 G ad) 18 (by decide) rfl wf_X12_45 rfl tyX12 tyX12_ok nmX12 (by decide) (ty := .int) (by decide +kernel) rfl rfl dX12_purge_2 (fun g1 => ?_)
  refine K_aload_n C 0 rfl rfl dX12_purge_5 ?_
  refine K_iload_n C 1 rfl rfl dX12_purge_6 ?_
  refine K_callVi C (As := [.int x1]) (rest := []) (Nat.le_of_ble_eq_true rfl) (shM_0 G ad) rfl hy_X12_isColour wm_X12_95 (by decide) ⟨Nat.le_refl _, Nat.le_refl _⟩ (fun rr ff hh => km_X12_isColour l G ad g1 x1 rr ff hh) rfl rfl (Nat.le_of_ble_eq_true rfl) rfl dX12_purge_7 (fun r2 g3 => ?_)
  refine K_if_eq C (tgt := 30) (by decide) dX12_purge_10 ?_ ?_
  · refine K_sub [0] rfl ?_
    exact kcj_X12_purge_30 C g3
  · refine K_aload_n C 0 rfl rfl dX12_purge_13 ?_
    refine K_iload_n C 2 rfl rfl dX12_purge_14 ?_
    refine K_callVi C (As := [.int x2]) (rest := []) (Nat.le_of_ble_eq_true rfl) (shM_0 G ad) rfl hy_X12_isColour wm_X12_95 (by decide) ⟨Nat.le_refl _, Nat.le_refl _⟩ (fun rr ff hh => km_X12_isColour l G ad g3 x2 rr ff hh) rfl rfl (Nat.le_of_ble_eq_true rfl) rfl dX12_purge_15 (fun r6 g7 => ?_)
    refine K_if_eq C (tgt := 30) (by decide) dX12_purge_18 ?_ ?_
    · refine K_sub [0] rfl ?_
      exact kcj_X12_purge_30 C g7
    · refine K_aload_n C 0 rfl rfl dX12_purge_21 ?_
      refine K_iload_n C 1 rfl rfl dX12_purge_22 ?_
      refine K_iload_n C 2 rfl rfl dX12_purge_23 ?_
      refine K_callVi C (As := [.int x1, .int x2]) (rest := []) (Nat.le_of_ble_eq_true rfl) (shM_0 G ad) rfl hy_X12_purgeOf wm_X12_108 (by decide) ⟨Nat.le_refl _, Nat.le_refl _⟩ (fun rr ff hh => km_X12_purgeOf l G ad g7 x1 x2 rr ff hh) rfl rfl (Nat.le_of_ble_eq_true rfl) rfl dX12_purge_24 (fun r8 g9 => ?_)
      refine K_goto C (tgt := 35) (by decide) dX12_purge_27 ?_
      exact K_ret C rfl rfl dX12_purge_35
def cf_X12_minutes (f : kMem) (x1 x2 : Int32) : Option (Int32 × kMem) := kmem (kup f 0 18 0) (fun g1 => kbind (cf_X12_isColour g1 x1) (fun r2 g3 => keq r2 0 (kbind (cf_X12_raises g3 1) (fun r14 g15 => some (r14, g15))) (kbind (cf_X12_in g3 x2 1 200) (fun r4 g5 => keq r4 0 (kbind (cf_X12_raises g5 2) (fun r12 g13 => some (r12, g13))) (kle 0 (g5 1 4) (kbind (cf_X12_of g5 (g5 1 4) 0) (fun r6 g7 => kbind (cf_X12_purgeOf g7 (g7 1 5) x1) (fun r8 g9 => some ((r6 * (r8 + x2)), g9)))) (kbind (cf_X12_raises g5 3) (fun r10 g11 => some (r10, g11))))))))
set_option maxRecDepth 100000 in
set_option maxHeartbeats 4000000 in
theorem km_X12_minutes (l : Launch) (G : kG) (ad : Nat → Nat) (f : kMem) (x1 x2 : Int32) (r : Int32) (fo : kMem) (h : cf_X12_minutes f x1 x2 = some (r, fo)) : kMet l (wM G ad) yX12_minutes cX12_minutes 3 (some .int) 2 [.ref (kad (wM G ad) 0), .int x1, .int x2] f r fo := by
  refine kMet_of (own := RX12) (lv := [(0, .ref (kad (wM G ad) 0)), (1, .int x1), (2, .int x2)]) (by decide) rfl (Nat.le_of_ble_eq_true rfl) rfl h ?_
  intro p e R s m args below meth c C
  unfold cf_X12_minutes
  refine K_aload_n C 0 rfl rfl dX12_minutes_0 ?_
  refine K_iconst C (v := 0) (by decide) dX12_minutes_1 ?_
  refine K_putI C kin_X12 rfl (Nat.le_of_ble_eq_true rfl) (shM_0 G ad) 18 (by decide) rfl wf_X12_45 rfl tyX12 tyX12_ok nmX12 (by decide) (ty := .int) (by decide +kernel) rfl rfl dX12_minutes_2 (fun g1 => ?_)
  refine K_aload_n C 0 rfl rfl dX12_minutes_5 ?_
  refine K_iload_n C 1 rfl rfl dX12_minutes_6 ?_
  refine K_callVi C (As := [.int x1]) (rest := []) (Nat.le_of_ble_eq_true rfl) (shM_0 G ad) rfl hy_X12_isColour wm_X12_95 (by decide) ⟨Nat.le_refl _, Nat.le_refl _⟩ (fun rr ff hh => km_X12_isColour l G ad g1 x1 rr ff hh) rfl rfl (Nat.le_of_ble_eq_true rfl) rfl dX12_minutes_7 (fun r2 g3 => ?_)
  refine K_if_ne C (tgt := 19) (by decide) dX12_minutes_10 ?_ ?_
  · refine K_iload_n C 2 rfl rfl dX12_minutes_19 ?_
    refine K_iconst C (v := 1) (by decide) dX12_minutes_20 ?_
    refine K_sipush C (v := 200) (by decide) dX12_minutes_21 ?_
    refine K_callSi C (As := [.int x2, .int 1, .int 200]) (rest := []) hy_X12_in wm_X12_64 (by decide) ⟨Nat.le_refl _, Nat.le_refl _⟩ (fun rr ff hh => km_X12_in l G ad g3 x2 1 200 rr ff hh) rfl rfl (Nat.le_of_ble_eq_true rfl) rfl dX12_minutes_24 (fun r4 g5 => ?_)
    refine K_if_ne C (tgt := 36) (by decide) dX12_minutes_27 ?_ ?_
    · refine K_aload_n C 0 rfl rfl dX12_minutes_36 ?_
      refine K_getR C kin_X12 rfl (Nat.le_of_ble_eq_true rfl) (shM_0 G ad) 0 (by decide) (b := 1) rfl wf_X12_9 rfl dX12_minutes_37 ?_
      refine K_iconst C (v := 4) (by decide) dX12_minutes_40 ?_
      refine K_ialdC C (Nat.le_of_ble_eq_true rfl) (shM_1 G ad) (kin_in (by decide)) dX12_minutes_41 4 (by decide) ?_
      refine K_if_ge C (tgt := 51) (by decide) dX12_minutes_42 ?_ ?_
      · refine K_aload_n C 0 rfl rfl dX12_minutes_51 ?_
        refine K_aload_n C 0 rfl rfl dX12_minutes_52 ?_
        refine K_getR C kin_X12 rfl (Nat.le_of_ble_eq_true rfl) (shM_0 G ad) 0 (by decide) (b := 1) rfl wf_X12_9 rfl dX12_minutes_53 ?_
        refine K_iconst C (v := 4) (by decide) dX12_minutes_56 ?_
        refine K_ialdC C (Nat.le_of_ble_eq_true rfl) (shM_1 G ad) (kin_in (by decide)) dX12_minutes_57 4 (by decide) ?_
        refine K_iconst C (v := 0) (by decide) dX12_minutes_58 ?_
        refine K_callVi C (As := [.int (g5 1 4), .int 0]) (rest := []) (Nat.le_of_ble_eq_true rfl) (shM_0 G ad) rfl hy_X12_of wm_X12_111 (by decide) ⟨Nat.le_refl _, Nat.le_refl _⟩ (fun rr ff hh => km_X12_of l G ad g5 (g5 1 4) 0 rr ff hh) rfl rfl (Nat.le_of_ble_eq_true rfl) rfl dX12_minutes_59 (fun r6 g7 => ?_)
        refine K_aload_n C 0 rfl rfl dX12_minutes_62 ?_
        refine K_aload_n C 0 rfl rfl dX12_minutes_63 ?_
        refine K_getR C kin_X12 rfl (Nat.le_of_ble_eq_true rfl) (shM_0 G ad) 0 (by decide) (b := 1) rfl wf_X12_9 rfl dX12_minutes_64 ?_
        refine K_iconst C (v := 5) (by decide) dX12_minutes_67 ?_
        refine K_ialdC C (Nat.le_of_ble_eq_true rfl) (shM_1 G ad) (kin_in (by decide)) dX12_minutes_68 5 (by decide) ?_
        refine K_iload_n C 1 rfl rfl dX12_minutes_69 ?_
        refine K_callVi C (As := [.int (g7 1 5), .int x1]) (rest := [.int r6]) (Nat.le_of_ble_eq_true rfl) (shM_0 G ad) rfl hy_X12_purgeOf wm_X12_108 (by decide) ⟨Nat.le_refl _, Nat.le_refl _⟩ (fun rr ff hh => km_X12_purgeOf l G ad g7 (g7 1 5) x1 rr ff hh) rfl rfl (Nat.le_of_ble_eq_true rfl) rfl dX12_minutes_70 (fun r8 g9 => ?_)
        refine K_iload_n C 2 rfl rfl dX12_minutes_73 ?_
        refine K_iadd C dX12_minutes_74 ?_
        refine K_imul C dX12_minutes_75 ?_
        exact K_ret C rfl rfl dX12_minutes_76
      · refine K_aload_n C 0 rfl rfl dX12_minutes_45 ?_
        refine K_iconst C (v := 3) (by decide) dX12_minutes_46 ?_
        refine K_callVi C (As := [.int 3]) (rest := []) (Nat.le_of_ble_eq_true rfl) (shM_0 G ad) rfl hy_X12_raises wm_X12_54 (by decide) ⟨Nat.le_refl _, Nat.le_refl _⟩ (fun rr ff hh => km_X12_raises l G ad g5 3 rr ff hh) rfl rfl (Nat.le_of_ble_eq_true rfl) rfl dX12_minutes_47 (fun r10 g11 => ?_)
        exact K_ret C rfl rfl dX12_minutes_50
    · refine K_aload_n C 0 rfl rfl dX12_minutes_30 ?_
      refine K_iconst C (v := 2) (by decide) dX12_minutes_31 ?_
      refine K_callVi C (As := [.int 2]) (rest := []) (Nat.le_of_ble_eq_true rfl) (shM_0 G ad) rfl hy_X12_raises wm_X12_54 (by decide) ⟨Nat.le_refl _, Nat.le_refl _⟩ (fun rr ff hh => km_X12_raises l G ad g5 2 rr ff hh) rfl rfl (Nat.le_of_ble_eq_true rfl) rfl dX12_minutes_32 (fun r12 g13 => ?_)
      exact K_ret C rfl rfl dX12_minutes_35
  · refine K_aload_n C 0 rfl rfl dX12_minutes_13 ?_
    refine K_iconst C (v := 1) (by decide) dX12_minutes_14 ?_
    refine K_callVi C (As := [.int 1]) (rest := []) (Nat.le_of_ble_eq_true rfl) (shM_0 G ad) rfl hy_X12_raises wm_X12_54 (by decide) ⟨Nat.le_refl _, Nat.le_refl _⟩ (fun rr ff hh => km_X12_raises l G ad g3 1 rr ff hh) rfl rfl (Nat.le_of_ble_eq_true rfl) rfl dX12_minutes_15 (fun r14 g15 => ?_)
    exact K_ret C rfl rfl dX12_minutes_18
def cj_X12_orders_120 (rc : kMem → Int32 → Int32 → Int32 → Option (Int32 × kMem)) (Y58 : kMem → Int32 → Int32 → Int32 → Int32 → Option (Int32 × kMem)) (f : kMem) (x1 x2 x3 x4 t0 t2 t3 t4 : Int32) : Option (Int32 × kMem) := kbind (cf_X12_purgeOf f t0 x4) (fun r2 g3 => kbind (rc g3 t4 t3 (t2 + r2)) (fun r4 g5 => klet (x4 + Int32.ofInt 1) (fun x4_6 => (Y58 g5 x1 x2 x3 x4_6))))
def cl_X12_orders_58 (rc : kMem → Int32 → Int32 → Int32 → Option (Int32 × kMem)) : Nat → kMem → Int32 → Int32 → Int32 → Int32 → Option (Int32 × kMem)
  | 0, _, _, _, _, _ => none
  | n + 1, f, x1, x2, x3, x4 => kle 6 x4 (some (0, f)) (keq ((x2 >>> (x4 &&& 31)) &&& 1) 0 (klet (x4 + Int32.ofInt 1) (fun x4_7 => ((cl_X12_orders_58 rc n) f x1 x2 x3 x4_7))) (kchk (kin x1 6) (kmem (kup f 10 (Int32.toNatClampNeg x1) x4) (fun g1 => keq x1 0 ((cj_X12_orders_120 rc (cl_X12_orders_58 rc n) g1 x1 x2 x3 x4 (g1 1 5) x3 (x2 &&& ((1 <<< (x4 &&& 31)) ^^^ (-1))) (x1 + 1))) (kchk (kin (x1 - 1) 6) ((cj_X12_orders_120 rc (cl_X12_orders_58 rc n) g1 x1 x2 x3 x4 (g1 10 (Int32.toNatClampNeg (x1 - 1))) x3 (x2 &&& ((1 <<< (x4 &&& 31)) ^^^ (-1))) (x1 + 1))))))))
def cl_X12_orders_28 (rc : kMem → Int32 → Int32 → Int32 → Option (Int32 × kMem)) : Nat → kMem → Int32 → Int32 → Option (Int32 × kMem)
  | 0, _, _, _ => none
  | n + 1, f, x1, x4 => kle x1 x4 (some (0, f)) (kchk (kin x4 6) (kchk (kin x4 6) (kmem (kup f 9 (Int32.toNatClampNeg x4) (f 10 (Int32.toNatClampNeg x4))) (fun g9 => klet (x4 + Int32.ofInt 1) (fun x4_10 => ((cl_X12_orders_28 rc n) g9 x1 x4_10))))))
def cf_X12_orders : Nat → kMem → Int32 → Int32 → Int32 → Option (Int32 × kMem)
  | 0, _, _, _, _ => none
  | n + 1, f, x1, x2, x3 => keq x2 0 (klt (f 0 15) 0 (kmem (kup f 0 15 x3) (fun g8 => (cl_X12_orders_28 (cf_X12_orders n) 100 g8 x1 0))) (klt x3 (f 0 15) (kmem (kup f 0 15 x3) (fun g11 => (cl_X12_orders_28 (cf_X12_orders n) 100 g11 x1 0))) (some (0, f)))) ((cl_X12_orders_58 (cf_X12_orders n) 100 f x1 x2 x3 0))
set_option maxRecDepth 100000 in
set_option maxHeartbeats 4000000 in
theorem kcj_X12_orders_120 {p : Program} {l : Launch} {e : Env} {R : Room} {s : State} {m : MethodId} {args : Array Value} {below : List Frame} {meth : Method} {c : Code} {G : kG} {ad : Nat → Nat} {dd : Nat} {z : Int32 × kMem} (C : KC p l e R s m args below meth c (wM G ad) RX12 cX12_orders 5 none (dd + 2) 0 0) {dr : Nat} (hdr : dr < dd + 2) (rc : kMem → Int32 → Int32 → Int32 → Option (Int32 × kMem)) (hrc : ∀ (f : kMem) (y0 y1 y2 : Int32) (r1 : Int32) (f1 : kMem), rc f y0 y1 y2 = some (r1, f1) → kMet l (wM G ad) yX12_orders cX12_orders 5 none dr [.ref (kad (wM G ad) 0), .int y0, .int y1, .int y2] f r1 f1) (Y58 : kMem → Int32 → Int32 → Int32 → Int32 → Option (Int32 × kMem)) (hY58 : ∀ (f : kMem) (x1 x2 x3 x4 : Int32), K p l e R s m args below meth c (wM G ad) 5 (kQF below (wM G ad) none args s z) z 0 0 f 58 [(0, .ref (kad (wM G ad) 0)), (1, .int x1), (2, .int x2), (3, .int x3), (4, .int x4)] [] (Y58 f x1 x2 x3 x4)) (f : kMem) (x1 x2 x3 x4 t0 t2 t3 t4 : Int32) : K p l e R s m args below meth c (wM G ad) 5 (kQF below (wM G ad) none args s z) z 0 0 f 120 [(0, .ref (kad (wM G ad) 0)), (1, .int x1), (2, .int x2), (3, .int x3), (4, .int x4)] [.int t0, .ref (kad (wM G ad) 0), .int t2, .int t3, .int t4, .ref (kad (wM G ad) 0)] (cj_X12_orders_120 rc Y58 f x1 x2 x3 x4 t0 t2 t3 t4) := by
  unfold cj_X12_orders_120
  refine K_iload C 4 rfl dX12_orders_120 ?_
  refine K_callVi C (As := [.int t0, .int x4]) (rest := [.int t2, .int t3, .int t4, .ref (kad (wM G ad) 0)]) (Nat.le_of_ble_eq_true rfl) (shM_0 G ad) rfl hy_X12_purgeOf wm_X12_108 (by omega) ⟨Nat.le_refl _, Nat.le_refl _⟩ (fun rr ff hh => km_X12_purgeOf l G ad f t0 x4 rr ff hh) rfl rfl (Nat.le_of_ble_eq_true rfl) rfl dX12_orders_122 (fun r2 g3 => ?_)
  refine K_iadd C dX12_orders_125 ?_
  refine K_callVv C (As := [.int t4, .int t3, .int (t2 + r2)]) (rest := []) (Nat.le_of_ble_eq_true rfl) (shM_0 G ad) rfl hy_X12_orders wm_X12_198 (by omega) ⟨Nat.le_refl _, Nat.le_refl _⟩ (fun rr ff hh => hrc g3 t4 t3 (t2 + r2) rr ff hh) rfl rfl (Nat.le_of_ble_eq_true rfl) rfl dX12_orders_126 (fun r4 g5 => ?_)
  refine K_iinc C (k := 4) (lv1 := fun x4_6 => [(4, .int x4_6), (0, .ref (kad (wM G ad) 0)), (1, .int x1), (2, .int x2), (3, .int x3)]) rfl (by decide) (fun _ => rfl) dX12_orders_129 (fun x4_6 => ?_)
  refine K_goto C (tgt := 58) (by decide) dX12_orders_132 ?_
  refine K_sub [1, 2, 3, 4, 0] rfl ?_
  exact hY58 g5 x1 x2 x3 x4_6
set_option maxRecDepth 100000 in
set_option maxHeartbeats 4000000 in
theorem kcl_X12_orders_58 {p : Program} {l : Launch} {e : Env} {R : Room} {s : State} {m : MethodId} {args : Array Value} {below : List Frame} {meth : Method} {c : Code} {G : kG} {ad : Nat → Nat} {dd : Nat} {z : Int32 × kMem} (C : KC p l e R s m args below meth c (wM G ad) RX12 cX12_orders 5 none (dd + 2) 0 0) {dr : Nat} (hdr : dr < dd + 2) (rc : kMem → Int32 → Int32 → Int32 → Option (Int32 × kMem)) (hrc : ∀ (f : kMem) (y0 y1 y2 : Int32) (r1 : Int32) (f1 : kMem), rc f y0 y1 y2 = some (r1, f1) → kMet l (wM G ad) yX12_orders cX12_orders 5 none dr [.ref (kad (wM G ad) 0), .int y0, .int y1, .int y2] f r1 f1)  : ∀ (n : Nat) (f : kMem) (x1 x2 x3 x4 : Int32), K p l e R s m args below meth c (wM G ad) 5 (kQF below (wM G ad) none args s z) z 0 0 f 58 [(0, .ref (kad (wM G ad) 0)), (1, .int x1), (2, .int x2), (3, .int x3), (4, .int x4)] [] (cl_X12_orders_58 rc n f x1 x2 x3 x4) := by
  intro n
  induction n with
  | zero => intro f x1 x2 x3 x4; exact K_none
  | succ n ih =>
    intro f x1 x2 x3 x4
    unfold cl_X12_orders_58
    refine K_iload C 4 rfl dX12_orders_58 ?_
    refine K_bipush C (v := 6) (by decide) dX12_orders_60 ?_
    refine K_icmp_ge C (tgt := 135) (by decide) dX12_orders_62 ?_ ?_
    · exact K_vret C rfl dX12_orders_135
    · refine K_iload_n C 2 rfl rfl dX12_orders_65 ?_
      refine K_iload C 4 rfl dX12_orders_66 ?_
      refine K_ishr C dX12_orders_68 ?_
      refine K_iconst C (v := 1) (by decide) dX12_orders_69 ?_
      refine K_iand C dX12_orders_70 ?_
      refine K_if_ne C (tgt := 77) (by decide) dX12_orders_71 ?_ ?_
      · refine K_aload_n C 0 rfl rfl dX12_orders_77 ?_
        refine K_getR C kin_X12 rfl (Nat.le_of_ble_eq_true rfl) (shM_0 G ad) 17 (by decide) (b := 10) rfl wf_X12_42 rfl dX12_orders_78 ?_
        refine K_iload_n C 1 rfl rfl dX12_orders_81 ?_
        refine K_iload C 4 rfl dX12_orders_82 ?_
        refine K_iast C (Nat.le_of_ble_eq_true rfl) (shM_10 G ad) dX12_orders_84 (fun g1 => ?_)
        refine K_aload_n C 0 rfl rfl dX12_orders_85 ?_
        refine K_iload_n C 1 rfl rfl dX12_orders_86 ?_
        refine K_iconst C (v := 1) (by decide) dX12_orders_87 ?_
        refine K_iadd C dX12_orders_88 ?_
        refine K_iload_n C 2 rfl rfl dX12_orders_89 ?_
        refine K_iconst C (v := 1) (by decide) dX12_orders_90 ?_
        refine K_iload C 4 rfl dX12_orders_91 ?_
        refine K_ishl C dX12_orders_93 ?_
        refine K_iconst C (v := (-1)) (by decide) dX12_orders_94 ?_
        refine K_ixor C dX12_orders_95 ?_
        refine K_iand C dX12_orders_96 ?_
        refine K_iload_n C 3 rfl rfl dX12_orders_97 ?_
        refine K_aload_n C 0 rfl rfl dX12_orders_98 ?_
        refine K_iload_n C 1 rfl rfl dX12_orders_99 ?_
        refine K_if_ne C (tgt := 112) (by decide) dX12_orders_100 ?_ ?_
        · refine K_aload_n C 0 rfl rfl dX12_orders_112 ?_
          refine K_getR C kin_X12 rfl (Nat.le_of_ble_eq_true rfl) (shM_0 G ad) 17 (by decide) (b := 10) rfl wf_X12_42 rfl dX12_orders_113 ?_
          refine K_iload_n C 1 rfl rfl dX12_orders_116 ?_
          refine K_iconst C (v := 1) (by decide) dX12_orders_117 ?_
          refine K_isub C dX12_orders_118 ?_
          refine K_iald C (Nat.le_of_ble_eq_true rfl) (shM_10 G ad) dX12_orders_119 ?_
          exact kcj_X12_orders_120 C hdr rc hrc (cl_X12_orders_58 rc n) ih g1 x1 x2 x3 x4 (g1 10 (Int32.toNatClampNeg (x1 - 1))) x3 (x2 &&& ((1 <<< (x4 &&& 31)) ^^^ (-1))) (x1 + 1)
        · refine K_aload_n C 0 rfl rfl dX12_orders_103 ?_
          refine K_getR C kin_X12 rfl (Nat.le_of_ble_eq_true rfl) (shM_0 G ad) 0 (by decide) (b := 1) rfl wf_X12_9 rfl dX12_orders_104 ?_
          refine K_iconst C (v := 5) (by decide) dX12_orders_107 ?_
          refine K_ialdC C (Nat.le_of_ble_eq_true rfl) (shM_1 G ad) (kin_in (by decide)) dX12_orders_108 5 (by decide) ?_
          refine K_goto C (tgt := 120) (by decide) dX12_orders_109 ?_
          exact kcj_X12_orders_120 C hdr rc hrc (cl_X12_orders_58 rc n) ih g1 x1 x2 x3 x4 (g1 1 5) x3 (x2 &&& ((1 <<< (x4 &&& 31)) ^^^ (-1))) (x1 + 1)
      · refine K_goto C (tgt := 129) (by decide) dX12_orders_74 ?_
        refine K_iinc C (k := 4) (lv1 := fun x4_7 => [(4, .int x4_7), (0, .ref (kad (wM G ad) 0)), (1, .int x1), (2, .int x2), (3, .int x3)]) rfl (by decide) (fun _ => rfl) dX12_orders_129 (fun x4_7 => ?_)
        refine K_goto C (tgt := 58) (by decide) dX12_orders_132 ?_
        refine K_sub [1, 2, 3, 4, 0] rfl ?_
        exact ih f x1 x2 x3 x4_7
set_option maxRecDepth 100000 in
set_option maxHeartbeats 4000000 in
theorem kcl_X12_orders_28 {p : Program} {l : Launch} {e : Env} {R : Room} {s : State} {m : MethodId} {args : Array Value} {below : List Frame} {meth : Method} {c : Code} {G : kG} {ad : Nat → Nat} {dd : Nat} {z : Int32 × kMem} (C : KC p l e R s m args below meth c (wM G ad) RX12 cX12_orders 5 none (dd + 2) 0 0) {dr : Nat} (hdr : dr < dd + 2) (rc : kMem → Int32 → Int32 → Int32 → Option (Int32 × kMem)) (hrc : ∀ (f : kMem) (y0 y1 y2 : Int32) (r1 : Int32) (f1 : kMem), rc f y0 y1 y2 = some (r1, f1) → kMet l (wM G ad) yX12_orders cX12_orders 5 none dr [.ref (kad (wM G ad) 0), .int y0, .int y1, .int y2] f r1 f1)  : ∀ (n : Nat) (f : kMem) (x1 x4 : Int32), K p l e R s m args below meth c (wM G ad) 5 (kQF below (wM G ad) none args s z) z 0 0 f 28 [(0, .ref (kad (wM G ad) 0)), (1, .int x1), (4, .int x4)] [] (cl_X12_orders_28 rc n f x1 x4) := by
  intro n
  induction n with
  | zero => intro f x1 x4; exact K_none
  | succ n ih =>
    intro f x1 x4
    unfold cl_X12_orders_28
    refine K_iload C 2 rfl dX12_orders_28 ?_
    refine K_iload_n C 1 rfl rfl dX12_orders_30 ?_
    refine K_icmp_ge C (tgt := 54) (by decide) dX12_orders_31 ?_ ?_
    · exact K_vret C rfl dX12_orders_54
    · refine K_aload_n C 0 rfl rfl dX12_orders_34 ?_
      refine K_getR C kin_X12 rfl (Nat.le_of_ble_eq_true rfl) (shM_0 G ad) 16 (by decide) (b := 9) rfl wf_X12_39 rfl dX12_orders_35 ?_
      refine K_iload C 2 rfl dX12_orders_38 ?_
      refine K_aload_n C 0 rfl rfl dX12_orders_40 ?_
      refine K_getR C kin_X12 rfl (Nat.le_of_ble_eq_true rfl) (shM_0 G ad) 17 (by decide) (b := 10) rfl wf_X12_42 rfl dX12_orders_41 ?_
      refine K_iload C 2 rfl dX12_orders_44 ?_
      refine K_iald C (Nat.le_of_ble_eq_true rfl) (shM_10 G ad) dX12_orders_46 ?_
      refine K_iast C (Nat.le_of_ble_eq_true rfl) (shM_9 G ad) dX12_orders_47 (fun g9 => ?_)
      refine K_iinc C (k := 2) (lv1 := fun x4_10 => [(4, .int x4_10), (0, .ref (kad (wM G ad) 0)), (1, .int x1)]) rfl (by decide) (fun _ => rfl) dX12_orders_48 (fun x4_10 => ?_)
      refine K_goto C (tgt := 28) (by decide) dX12_orders_51 ?_
      refine K_sub [1, 2, 0] rfl ?_
      exact ih g9 x1 x4_10
set_option maxRecDepth 100000 in
set_option maxHeartbeats 4000000 in
theorem km0_X12_orders (l : Launch) (G : kG) (ad : Nat → Nat) : ∀ (dd : Nat) (f : kMem) (x1 x2 x3 : Int32) (r : Int32) (fo : kMem) (h : cf_X12_orders dd f x1 x2 x3 = some (r, fo)), kMet l (wM G ad) yX12_orders cX12_orders 5 none (dd + 2) [.ref (kad (wM G ad) 0), .int x1, .int x2, .int x3] f r fo := by
  intro dd
  induction dd with
  | zero => intro f x1 x2 x3 r fo h; cases h
  | succ n ih =>
    intro f x1 x2 x3 r fo h
    refine kMet_of (own := RX12) (lv := [(0, .ref (kad (wM G ad) 0)), (1, .int x1), (2, .int x2), (3, .int x3)]) (by decide) rfl (Nat.le_of_ble_eq_true rfl) rfl h ?_
    intro p e R s m args below meth c C
    unfold cf_X12_orders
    refine K_iload_n C 2 rfl rfl dX12_orders_0 ?_
    refine K_if_ne C (tgt := 55) (by decide) dX12_orders_1 ?_ ?_
    · refine K_iconst C (v := 0) (by decide) dX12_orders_55 ?_
      refine K_istore C (lv1 := [(4, .int 0), (0, .ref (kad (wM G ad) 0)), (1, .int x1), (2, .int x2), (3, .int x3)]) (by decide) rfl dX12_orders_56 ?_
      refine K_sub [1, 2, 3, 4, 0] rfl ?_
      exact kcl_X12_orders_58 C (by omega) (cf_X12_orders n) ih 100 f x1 x2 x3 0
    · refine K_aload_n C 0 rfl rfl dX12_orders_4 ?_
      refine K_getI C kin_X12 rfl (Nat.le_of_ble_eq_true rfl) (shM_0 G ad) 15 (by decide) rfl wf_X12_195 rfl dX12_orders_5 ?_
      refine K_if_lt C (tgt := 20) (by decide) dX12_orders_8 ?_ ?_
      · refine K_aload_n C 0 rfl rfl dX12_orders_20 ?_
        refine K_iload_n C 3 rfl rfl dX12_orders_21 ?_
        refine K_putI C kin_X12 rfl (Nat.le_of_ble_eq_true rfl) (shM_0 G ad) 15 (by decide) rfl wf_X12_195 rfl tyX12 tyX12_ok nmX12 (by decide) (ty := .int) (by decide +kernel) rfl rfl dX12_orders_22 (fun g8 => ?_)
        refine K_iconst C (v := 0) (by decide) dX12_orders_25 ?_
        refine K_istore C (lv1 := [(4, .int 0), (0, .ref (kad (wM G ad) 0)), (1, .int x1), (2, .int x2), (3, .int x3)]) (by decide) rfl dX12_orders_26 ?_
        refine K_sub [1, 2, 0] rfl ?_
        exact kcl_X12_orders_28 C (by omega) (cf_X12_orders n) ih 100 g8 x1 0
      · refine K_iload_n C 3 rfl rfl dX12_orders_11 ?_
        refine K_aload_n C 0 rfl rfl dX12_orders_12 ?_
        refine K_getI C kin_X12 rfl (Nat.le_of_ble_eq_true rfl) (shM_0 G ad) 15 (by decide) rfl wf_X12_195 rfl dX12_orders_13 ?_
        refine K_icmp_lt C (tgt := 20) (by decide) dX12_orders_16 ?_ ?_
        · refine K_aload_n C 0 rfl rfl dX12_orders_20 ?_
          refine K_iload_n C 3 rfl rfl dX12_orders_21 ?_
          refine K_putI C kin_X12 rfl (Nat.le_of_ble_eq_true rfl) (shM_0 G ad) 15 (by decide) rfl wf_X12_195 rfl tyX12 tyX12_ok nmX12 (by decide) (ty := .int) (by decide +kernel) rfl rfl dX12_orders_22 (fun g11 => ?_)
          refine K_iconst C (v := 0) (by decide) dX12_orders_25 ?_
          refine K_istore C (lv1 := [(4, .int 0), (0, .ref (kad (wM G ad) 0)), (1, .int x1), (2, .int x2), (3, .int x3)]) (by decide) rfl dX12_orders_26 ?_
          refine K_sub [1, 2, 0] rfl ?_
          exact kcl_X12_orders_28 C (by omega) (cf_X12_orders n) ih 100 g11 x1 0
        · exact K_vret C rfl dX12_orders_19
theorem km_X12_orders (l : Launch) (G : kG) (ad : Nat → Nat) (dd : Nat) (f : kMem) (x1 x2 x3 : Int32) (r : Int32) (fo : kMem) (h : cf_X12_orders dd f x1 x2 x3 = some (r, fo)) : kMet l (wM G ad) yX12_orders cX12_orders 5 none (dd + 2) [.ref (kad (wM G ad) 0), .int x1, .int x2, .int x3] f r fo := km0_X12_orders l G ad dd f x1 x2 x3 r fo h
def cf_X12_isSet (f : kMem) (x1 : Int32) : Option (Int32 × kMem) := kmem (kup f 0 18 0) (fun g1 => kbind (cf_X12_in g1 x1 0 ((1 <<< ((g1 1 0) &&& 31)) - 1)) (fun r2 g3 => keq r2 0 (some (0, g3)) (kmem (kup g3 0 15 (-1)) (fun g4 => kbind (cf_X12_orders 8 g4 0 x1 0) (fun r5 g6 => some (1, g6))))))
set_option maxRecDepth 100000 in
set_option maxHeartbeats 4000000 in
theorem km_X12_isSet (l : Launch) (G : kG) (ad : Nat → Nat) (f : kMem) (x1 : Int32) (r : Int32) (fo : kMem) (h : cf_X12_isSet f x1 = some (r, fo)) : kMet l (wM G ad) yX12_isSet cX12_isSet 2 (some .boolean) 11 [.ref (kad (wM G ad) 0), .int x1] f r fo := by
  refine kMet_of (own := RX12) (lv := [(0, .ref (kad (wM G ad) 0)), (1, .int x1)]) (by decide) rfl (Nat.le_of_ble_eq_true rfl) rfl h ?_
  intro p e R s m args below meth c C
  unfold cf_X12_isSet
  refine K_aload_n C 0 rfl rfl dX12_isSet_0 ?_
  refine K_iconst C (v := 0) (by decide) dX12_isSet_1 ?_
  refine K_putI C kin_X12 rfl (Nat.le_of_ble_eq_true rfl) (shM_0 G ad) 18 (by decide) rfl wf_X12_45 rfl tyX12 tyX12_ok nmX12 (by decide) (ty := .int) (by decide +kernel) rfl rfl dX12_isSet_2 (fun g1 => ?_)
  refine K_iload_n C 1 rfl rfl dX12_isSet_5 ?_
  refine K_iconst C (v := 0) (by decide) dX12_isSet_6 ?_
  refine K_iconst C (v := 1) (by decide) dX12_isSet_7 ?_
  refine K_aload_n C 0 rfl rfl dX12_isSet_8 ?_
  refine K_getR C kin_X12 rfl (Nat.le_of_ble_eq_true rfl) (shM_0 G ad) 0 (by decide) (b := 1) rfl wf_X12_9 rfl dX12_isSet_9 ?_
  refine K_iconst C (v := 0) (by decide) dX12_isSet_12 ?_
  refine K_ialdC C (Nat.le_of_ble_eq_true rfl) (shM_1 G ad) (kin_in (by decide)) dX12_isSet_13 0 (by decide) ?_
  refine K_ishl C dX12_isSet_14 ?_
  refine K_iconst C (v := 1) (by decide) dX12_isSet_15 ?_
  refine K_isub C dX12_isSet_16 ?_
  refine K_callSi C (As := [.int x1, .int 0, .int ((1 <<< ((g1 1 0) &&& 31)) - 1)]) (rest := []) hy_X12_in wm_X12_64 (by decide) ⟨Nat.le_refl _, Nat.le_refl _⟩ (fun rr ff hh => km_X12_in l G ad g1 x1 0 ((1 <<< ((g1 1 0) &&& 31)) - 1) rr ff hh) rfl rfl (Nat.le_of_ble_eq_true rfl) rfl dX12_isSet_17 (fun r2 g3 => ?_)
  refine K_if_ne C (tgt := 25) (by decide) dX12_isSet_20 ?_ ?_
  · refine K_aload_n C 0 rfl rfl dX12_isSet_25 ?_
    refine K_iconst C (v := (-1)) (by decide) dX12_isSet_26 ?_
    refine K_putI C kin_X12 rfl (Nat.le_of_ble_eq_true rfl) (shM_0 G ad) 15 (by decide) rfl wf_X12_195 rfl tyX12 tyX12_ok nmX12 (by decide) (ty := .int) (by decide +kernel) rfl rfl dX12_isSet_27 (fun g4 => ?_)
    refine K_aload_n C 0 rfl rfl dX12_isSet_30 ?_
    refine K_iconst C (v := 0) (by decide) dX12_isSet_31 ?_
    refine K_iload_n C 1 rfl rfl dX12_isSet_32 ?_
    refine K_iconst C (v := 0) (by decide) dX12_isSet_33 ?_
    refine K_callVv C (As := [.int 0, .int x1, .int 0]) (rest := []) (Nat.le_of_ble_eq_true rfl) (shM_0 G ad) rfl hy_X12_orders wm_X12_198 (by decide) ⟨Nat.le_refl _, Nat.le_refl _⟩ (fun rr ff hh => km_X12_orders l G ad 8 g4 0 x1 0 rr ff hh) rfl rfl (Nat.le_of_ble_eq_true rfl) rfl dX12_isSet_34 (fun r5 g6 => ?_)
    refine K_iconst C (v := 1) (by decide) dX12_isSet_37 ?_
    exact K_ret C rfl (by decide) dX12_isSet_38
  · refine K_iconst C (v := 0) (by decide) dX12_isSet_23 ?_
    exact K_ret C rfl (by decide) dX12_isSet_24
def cf_X12_best (f : kMem) (x1 : Int32) : Option (Int32 × kMem) := kbind (cf_X12_isSet f x1) (fun r1 g2 => keq r1 0 (kbind (cf_X12_raises g2 1) (fun r3 g4 => some (r3, g4))) (some ((g2 0 15), g2)))
set_option maxRecDepth 100000 in
set_option maxHeartbeats 4000000 in
theorem km_X12_best (l : Launch) (G : kG) (ad : Nat → Nat) (f : kMem) (x1 : Int32) (r : Int32) (fo : kMem) (h : cf_X12_best f x1 = some (r, fo)) : kMet l (wM G ad) yX12_best cX12_best 2 (some .int) 12 [.ref (kad (wM G ad) 0), .int x1] f r fo := by
  refine kMet_of (own := RX12) (lv := [(0, .ref (kad (wM G ad) 0)), (1, .int x1)]) (by decide) rfl (Nat.le_of_ble_eq_true rfl) rfl h ?_
  intro p e R s m args below meth c C
  unfold cf_X12_best
  refine K_aload_n C 0 rfl rfl dX12_best_0 ?_
  refine K_iload_n C 1 rfl rfl dX12_best_1 ?_
  refine K_callVi C (As := [.int x1]) (rest := []) (Nat.le_of_ble_eq_true rfl) (shM_0 G ad) rfl hy_X12_isSet wm_X12_202 (by decide) ⟨Nat.le_refl _, Nat.le_refl _⟩ (fun rr ff hh => km_X12_isSet l G ad f x1 rr ff hh) rfl rfl (Nat.le_of_ble_eq_true rfl) rfl dX12_best_2 (fun r1 g2 => ?_)
  refine K_if_eq C (tgt := 15) (by decide) dX12_best_5 ?_ ?_
  · refine K_aload_n C 0 rfl rfl dX12_best_15 ?_
    refine K_iconst C (v := 1) (by decide) dX12_best_16 ?_
    refine K_callVi C (As := [.int 1]) (rest := []) (Nat.le_of_ble_eq_true rfl) (shM_0 G ad) rfl hy_X12_raises wm_X12_54 (by decide) ⟨Nat.le_refl _, Nat.le_refl _⟩ (fun rr ff hh => km_X12_raises l G ad g2 1 rr ff hh) rfl rfl (Nat.le_of_ble_eq_true rfl) rfl dX12_best_17 (fun r3 g4 => ?_)
    exact K_ret C rfl rfl dX12_best_20
  · refine K_aload_n C 0 rfl rfl dX12_best_8 ?_
    refine K_getI C kin_X12 rfl (Nat.le_of_ble_eq_true rfl) (shM_0 G ad) 15 (by decide) rfl wf_X12_195 rfl dX12_best_9 ?_
    refine K_goto C (tgt := 20) (by decide) dX12_best_12 ?_
    exact K_ret C rfl rfl dX12_best_20
def cf_X12_bestAgain (f : kMem) (x1 : Int32) : Option (Int32 × kMem) := kbind (cf_X12_isSet f x1) (fun r1 g2 => keq r1 0 (kbind (cf_X12_raises g2 1) (fun r3 g4 => some (r3, g4))) (some ((g2 0 15), g2)))
set_option maxRecDepth 100000 in
set_option maxHeartbeats 4000000 in
theorem km_X12_bestAgain (l : Launch) (G : kG) (ad : Nat → Nat) (f : kMem) (x1 : Int32) (r : Int32) (fo : kMem) (h : cf_X12_bestAgain f x1 = some (r, fo)) : kMet l (wM G ad) yX12_bestAgain cX12_bestAgain 2 (some .int) 12 [.ref (kad (wM G ad) 0), .int x1] f r fo := by
  refine kMet_of (own := RX12) (lv := [(0, .ref (kad (wM G ad) 0)), (1, .int x1)]) (by decide) rfl (Nat.le_of_ble_eq_true rfl) rfl h ?_
  intro p e R s m args below meth c C
  unfold cf_X12_bestAgain
  refine K_aload_n C 0 rfl rfl dX12_bestAgain_0 ?_
  refine K_iload_n C 1 rfl rfl dX12_bestAgain_1 ?_
  refine K_callVi C (As := [.int x1]) (rest := []) (Nat.le_of_ble_eq_true rfl) (shM_0 G ad) rfl hy_X12_isSet wm_X12_202 (by decide) ⟨Nat.le_refl _, Nat.le_refl _⟩ (fun rr ff hh => km_X12_isSet l G ad f x1 rr ff hh) rfl rfl (Nat.le_of_ble_eq_true rfl) rfl dX12_bestAgain_2 (fun r1 g2 => ?_)
  refine K_if_eq C (tgt := 15) (by decide) dX12_bestAgain_5 ?_ ?_
  · refine K_aload_n C 0 rfl rfl dX12_bestAgain_15 ?_
    refine K_iconst C (v := 1) (by decide) dX12_bestAgain_16 ?_
    refine K_callVi C (As := [.int 1]) (rest := []) (Nat.le_of_ble_eq_true rfl) (shM_0 G ad) rfl hy_X12_raises wm_X12_54 (by decide) ⟨Nat.le_refl _, Nat.le_refl _⟩ (fun rr ff hh => km_X12_raises l G ad g2 1 rr ff hh) rfl rfl (Nat.le_of_ble_eq_true rfl) rfl dX12_bestAgain_17 (fun r3 g4 => ?_)
    exact K_ret C rfl rfl dX12_bestAgain_20
  · refine K_aload_n C 0 rfl rfl dX12_bestAgain_8 ?_
    refine K_getI C kin_X12 rfl (Nat.le_of_ble_eq_true rfl) (shM_0 G ad) 15 (by decide) rfl wf_X12_195 rfl dX12_bestAgain_9 ?_
    refine K_goto C (tgt := 20) (by decide) dX12_bestAgain_12 ?_
    exact K_ret C rfl rfl dX12_bestAgain_20
def cf_X12_bestColour (f : kMem) (x1 x2 : Int32) : Option (Int32 × kMem) := kbind (cf_X12_isSet f x1) (fun r1 g2 => keq r1 0 (kbind (cf_X12_raises g2 1) (fun r9 g10 => some (r9, g10))) (kbind (cf_J6_bitCount_0f7a4 g2 x1) (fun r3 g4 => kbind (cf_X12_in g4 x2 0 (r3 - 1)) (fun r5 g6 => keq r5 0 (kbind (cf_X12_raises g6 2) (fun r7 g8 => some (r7, g8))) (kchk (kin x2 6) (some ((g6 9 (Int32.toNatClampNeg x2)), g6)))))))
set_option maxRecDepth 100000 in
set_option maxHeartbeats 4000000 in
theorem km_X12_bestColour (l : Launch) (G : kG) (ad : Nat → Nat) (f : kMem) (x1 x2 : Int32) (r : Int32) (fo : kMem) (h : cf_X12_bestColour f x1 x2 = some (r, fo)) : kMet l (wM G ad) yX12_bestColour cX12_bestColour 3 (some .int) 12 [.ref (kad (wM G ad) 0), .int x1, .int x2] f r fo := by
  refine kMet_of (own := RX12) (lv := [(0, .ref (kad (wM G ad) 0)), (1, .int x1), (2, .int x2)]) (by decide) rfl (Nat.le_of_ble_eq_true rfl) rfl h ?_
  intro p e R s m args below meth c C
  unfold cf_X12_bestColour
  refine K_aload_n C 0 rfl rfl dX12_bestColour_0 ?_
  refine K_iload_n C 1 rfl rfl dX12_bestColour_1 ?_
  refine K_callVi C (As := [.int x1]) (rest := []) (Nat.le_of_ble_eq_true rfl) (shM_0 G ad) rfl hy_X12_isSet wm_X12_202 (by decide) ⟨Nat.le_refl _, Nat.le_refl _⟩ (fun rr ff hh => km_X12_isSet l G ad f x1 rr ff hh) rfl rfl (Nat.le_of_ble_eq_true rfl) rfl dX12_bestColour_2 (fun r1 g2 => ?_)
  refine K_if_ne C (tgt := 14) (by decide) dX12_bestColour_5 ?_ ?_
  · refine K_iload_n C 2 rfl rfl dX12_bestColour_14 ?_
    refine K_iconst C (v := 0) (by decide) dX12_bestColour_15 ?_
    refine K_iload_n C 1 rfl rfl dX12_bestColour_16 ?_
    refine K_callSi C (As := [.int x1]) (rest := [.int 0, .int x2]) hy_J6_bitCount_0f7a4 wm_X12_205 (by decide) ⟨Nat.le_refl _, Nat.le_refl _⟩ (fun rr ff hh => km_J6_bitCount_0f7a4 l (wM G ad) g2 x1 rr ff hh) rfl rfl (Nat.le_of_ble_eq_true rfl) rfl dX12_bestColour_17 (fun r3 g4 => ?_)
    refine K_iconst C (v := 1) (by decide) dX12_bestColour_20 ?_
    refine K_isub C dX12_bestColour_21 ?_
    refine K_callSi C (As := [.int x2, .int 0, .int (r3 - 1)]) (rest := []) hy_X12_in wm_X12_64 (by decide) ⟨Nat.le_refl _, Nat.le_refl _⟩ (fun rr ff hh => km_X12_in l G ad g4 x2 0 (r3 - 1) rr ff hh) rfl rfl (Nat.le_of_ble_eq_true rfl) rfl dX12_bestColour_22 (fun r5 g6 => ?_)
    refine K_if_eq C (tgt := 37) (by decide) dX12_bestColour_25 ?_ ?_
    · refine K_aload_n C 0 rfl rfl dX12_bestColour_37 ?_
      refine K_iconst C (v := 2) (by decide) dX12_bestColour_38 ?_
      refine K_callVi C (As := [.int 2]) (rest := []) (Nat.le_of_ble_eq_true rfl) (shM_0 G ad) rfl hy_X12_raises wm_X12_54 (by decide) ⟨Nat.le_refl _, Nat.le_refl _⟩ (fun rr ff hh => km_X12_raises l G ad g6 2 rr ff hh) rfl rfl (Nat.le_of_ble_eq_true rfl) rfl dX12_bestColour_39 (fun r7 g8 => ?_)
      exact K_ret C rfl rfl dX12_bestColour_42
    · refine K_aload_n C 0 rfl rfl dX12_bestColour_28 ?_
      refine K_getR C kin_X12 rfl (Nat.le_of_ble_eq_true rfl) (shM_0 G ad) 16 (by decide) (b := 9) rfl wf_X12_39 rfl dX12_bestColour_29 ?_
      refine K_iload_n C 2 rfl rfl dX12_bestColour_32 ?_
      refine K_iald C (Nat.le_of_ble_eq_true rfl) (shM_9 G ad) dX12_bestColour_33 ?_
      refine K_goto C (tgt := 42) (by decide) dX12_bestColour_34 ?_
      exact K_ret C rfl rfl dX12_bestColour_42
  · refine K_aload_n C 0 rfl rfl dX12_bestColour_8 ?_
    refine K_iconst C (v := 1) (by decide) dX12_bestColour_9 ?_
    refine K_callVi C (As := [.int 1]) (rest := []) (Nat.le_of_ble_eq_true rfl) (shM_0 G ad) rfl hy_X12_raises wm_X12_54 (by decide) ⟨Nat.le_refl _, Nat.le_refl _⟩ (fun rr ff hh => km_X12_raises l G ad g2 1 rr ff hh) rfl rfl (Nat.le_of_ble_eq_true rfl) rfl dX12_bestColour_10 (fun r9 g10 => ?_)
    exact K_ret C rfl rfl dX12_bestColour_13
def cl_X12_piecesOf_2 (Y24 : kMem → Int32 → Int32 → Option (Int32 × kMem)) : Nat → kMem → Int32 → Int32 → Int32 → Option (Int32 × kMem)
  | 0, _, _, _, _ => none
  | n + 1, f, x1, x2, x3 => kbind (cf_X12_of f x1 2) (fun r1 g2 => kle r1 x3 (some (0, g2)) (kbind (cf_X12_of g2 x1 (3 + x3)) (fun r3 g4 => keq r3 x2 ((Y24 g4 x1 x3)) (klet (x3 + Int32.ofInt 1) (fun x3_5 => ((cl_X12_piecesOf_2 Y24 n) g4 x1 x2 x3_5))))))
def cf_X12_piecesOf (f : kMem) (x1 x2 : Int32) : Option (Int32 × kMem) := (cl_X12_piecesOf_2 (fun g8 x1_6 x3_7 => kbind (cf_X12_of g8 x1_6 (6 + x3_7)) (fun r9 g10 => some (r9, g10))) 100 f x1 x2 0)
set_option maxRecDepth 100000 in
set_option maxHeartbeats 4000000 in
theorem kcl_X12_piecesOf_2 {p : Program} {l : Launch} {e : Env} {R : Room} {s : State} {m : MethodId} {args : Array Value} {below : List Frame} {meth : Method} {c : Code} {G : kG} {ad : Nat → Nat} {z : Int32 × kMem} (C : KC p l e R s m args below meth c (wM G ad) RX12 cX12_piecesOf 4 (some .int) 1 0 0) (Y24 : kMem → Int32 → Int32 → Option (Int32 × kMem)) (hY24 : ∀ (f : kMem) (x1 x3 : Int32), K p l e R s m args below meth c (wM G ad) 4 (kQF below (wM G ad) (some .int) args s z) z 0 0 f 24 [(0, .ref (kad (wM G ad) 0)), (1, .int x1), (3, .int x3)] [] (Y24 f x1 x3)) : ∀ (n : Nat) (f : kMem) (x1 x2 x3 : Int32), K p l e R s m args below meth c (wM G ad) 4 (kQF below (wM G ad) (some .int) args s z) z 0 0 f 2 [(0, .ref (kad (wM G ad) 0)), (1, .int x1), (2, .int x2), (3, .int x3)] [] (cl_X12_piecesOf_2 Y24 n f x1 x2 x3) := by
  intro n
  induction n with
  | zero => intro f x1 x2 x3; exact K_none
  | succ n ih =>
    intro f x1 x2 x3
    unfold cl_X12_piecesOf_2
    refine K_iload_n C 3 rfl rfl dX12_piecesOf_2 ?_
    refine K_aload_n C 0 rfl rfl dX12_piecesOf_3 ?_
    refine K_iload_n C 1 rfl rfl dX12_piecesOf_4 ?_
    refine K_iconst C (v := 2) (by decide) dX12_piecesOf_5 ?_
    refine K_callVi C (As := [.int x1, .int 2]) (rest := [.int x3]) (Nat.le_of_ble_eq_true rfl) (shM_0 G ad) rfl hy_X12_of wm_X12_111 (by decide) ⟨Nat.le_refl _, Nat.le_refl _⟩ (fun rr ff hh => km_X12_of l G ad f x1 2 rr ff hh) rfl rfl (Nat.le_of_ble_eq_true rfl) rfl dX12_piecesOf_6 (fun r1 g2 => ?_)
    refine K_icmp_ge C (tgt := 40) (by decide) dX12_piecesOf_9 ?_ ?_
    · refine K_iconst C (v := 0) (by decide) dX12_piecesOf_40 ?_
      exact K_ret C rfl rfl dX12_piecesOf_41
    · refine K_aload_n C 0 rfl rfl dX12_piecesOf_12 ?_
      refine K_iload_n C 1 rfl rfl dX12_piecesOf_13 ?_
      refine K_iconst C (v := 3) (by decide) dX12_piecesOf_14 ?_
      refine K_iload_n C 3 rfl rfl dX12_piecesOf_15 ?_
      refine K_iadd C dX12_piecesOf_16 ?_
      refine K_callVi C (As := [.int x1, .int (3 + x3)]) (rest := []) (Nat.le_of_ble_eq_true rfl) (shM_0 G ad) rfl hy_X12_of wm_X12_111 (by decide) ⟨Nat.le_refl _, Nat.le_refl _⟩ (fun rr ff hh => km_X12_of l G ad g2 x1 (3 + x3) rr ff hh) rfl rfl (Nat.le_of_ble_eq_true rfl) rfl dX12_piecesOf_17 (fun r3 g4 => ?_)
      refine K_iload_n C 2 rfl rfl dX12_piecesOf_20 ?_
      refine K_icmp_ne C (tgt := 34) (by decide) dX12_piecesOf_21 ?_ ?_
      · refine K_iinc C (k := 3) (lv1 := fun x3_5 => [(3, .int x3_5), (0, .ref (kad (wM G ad) 0)), (1, .int x1), (2, .int x2)]) rfl (by decide) (fun _ => rfl) dX12_piecesOf_34 (fun x3_5 => ?_)
        refine K_goto C (tgt := 2) (by decide) dX12_piecesOf_37 ?_
        refine K_sub [1, 2, 3, 0] rfl ?_
        exact ih g4 x1 x2 x3_5
      · refine K_sub [0, 1, 3] rfl ?_
        exact hY24 g4 x1 x3
set_option maxRecDepth 100000 in
set_option maxHeartbeats 4000000 in
theorem km_X12_piecesOf (l : Launch) (G : kG) (ad : Nat → Nat) (f : kMem) (x1 x2 : Int32) (r : Int32) (fo : kMem) (h : cf_X12_piecesOf f x1 x2 = some (r, fo)) : kMet l (wM G ad) yX12_piecesOf cX12_piecesOf 4 (some .int) 1 [.ref (kad (wM G ad) 0), .int x1, .int x2] f r fo := by
  refine kMet_of (own := RX12) (lv := [(0, .ref (kad (wM G ad) 0)), (1, .int x1), (2, .int x2)]) (by decide) rfl (Nat.le_of_ble_eq_true rfl) rfl h ?_
  intro p e R s m args below meth c C
  unfold cf_X12_piecesOf
  refine K_iconst C (v := 0) (by decide) dX12_piecesOf_0 ?_
  refine K_istore_n C (lv1 := [(3, .int 0), (0, .ref (kad (wM G ad) 0)), (1, .int x1), (2, .int x2)]) rfl (by decide) rfl dX12_piecesOf_1 ?_
  refine K_sub [1, 2, 3, 0] rfl ?_
  refine kcl_X12_piecesOf_2 C _ (fun g8 x1_6 x3_7 => ?_) 100 f x1 x2 0
  refine K_aload_n C 0 rfl rfl dX12_piecesOf_24 ?_
  refine K_iload_n C 1 rfl rfl dX12_piecesOf_25 ?_
  refine K_bipush C (v := 6) (by decide) dX12_piecesOf_26 ?_
  refine K_iload_n C 2 rfl rfl dX12_piecesOf_28 ?_
  refine K_iadd C dX12_piecesOf_29 ?_
  refine K_callVi C (As := [.int x1_6, .int (6 + x3_7)]) (rest := []) (Nat.le_of_ble_eq_true rfl) (shM_0 G ad) rfl hy_X12_of wm_X12_111 (by decide) ⟨Nat.le_refl _, Nat.le_refl _⟩ (fun rr ff hh => km_X12_of l G ad g8 x1_6 (6 + x3_7) rr ff hh) rfl rfl (Nat.le_of_ble_eq_true rfl) rfl dX12_piecesOf_30 (fun r9 g10 => ?_)
  exact K_ret C rfl rfl dX12_piecesOf_33
def cf_X12_familyOf (f : kMem) (x1 x2 : Int32) : Option (Int32 × kMem) := kmem (kup f 0 18 0) (fun g1 => kbind (cf_X12_isFamily g1 x1) (fun r2 g3 => keq r2 0 (kbind (cf_X12_raises g3 1) (fun r23 g24 => some (r23, g24))) (keq x2 0 (kbind (cf_X12_of g3 x1 x2) (fun r5 g6 => some (r5, g6))) (keq x2 1 (kbind (cf_X12_of g3 x1 x2) (fun r8 g9 => some (r8, g9))) (keq x2 2 (kbind (cf_X12_of g3 x1 x2) (fun r11 g12 => some (r11, g12))) (keq x2 3 (kbind (cf_X12_of g3 x1 6) (fun r14 g15 => kbind (cf_X12_of g15 x1 7) (fun r16 g17 => kbind (cf_X12_of g17 x1 8) (fun r18 g19 => some (((r14 + r16) + r18), g19))))) (keq x2 4 (keq (g3 1 4) x1 (some (1, g3)) (some (0, g3))) (kbind (cf_X12_raises g3 2) (fun r21 g22 => some (r21, g22))))))))))
set_option maxRecDepth 100000 in
set_option maxHeartbeats 4000000 in
theorem km_X12_familyOf (l : Launch) (G : kG) (ad : Nat → Nat) (f : kMem) (x1 x2 : Int32) (r : Int32) (fo : kMem) (h : cf_X12_familyOf f x1 x2 = some (r, fo)) : kMet l (wM G ad) yX12_familyOf cX12_familyOf 3 (some .int) 2 [.ref (kad (wM G ad) 0), .int x1, .int x2] f r fo := by
  refine kMet_of (own := RX12) (lv := [(0, .ref (kad (wM G ad) 0)), (1, .int x1), (2, .int x2)]) (by decide) rfl (Nat.le_of_ble_eq_true rfl) rfl h ?_
  intro p e R s m args below meth c C
  unfold cf_X12_familyOf
  refine K_aload_n C 0 rfl rfl dX12_familyOf_0 ?_
  refine K_iconst C (v := 0) (by decide) dX12_familyOf_1 ?_
  refine K_putI C kin_X12 rfl (Nat.le_of_ble_eq_true rfl) (shM_0 G ad) 18 (by decide) rfl wf_X12_45 rfl tyX12 tyX12_ok nmX12 (by decide) (ty := .int) (by decide +kernel) rfl rfl dX12_familyOf_2 (fun g1 => ?_)
  refine K_aload_n C 0 rfl rfl dX12_familyOf_5 ?_
  refine K_iload_n C 1 rfl rfl dX12_familyOf_6 ?_
  refine K_callVi C (As := [.int x1]) (rest := []) (Nat.le_of_ble_eq_true rfl) (shM_0 G ad) rfl hy_X12_isFamily wm_X12_86 (by decide) ⟨Nat.le_refl _, Nat.le_refl _⟩ (fun rr ff hh => km_X12_isFamily l G ad g1 x1 rr ff hh) rfl rfl (Nat.le_of_ble_eq_true rfl) rfl dX12_familyOf_7 (fun r2 g3 => ?_)
  refine K_if_ne C (tgt := 19) (by decide) dX12_familyOf_10 ?_ ?_
  · refine K_iload_n C 2 rfl rfl dX12_familyOf_19 ?_
    refine K_case (fun hc4 => ?_) (fun hc4 => ?_)
    · refine K_tin C (off := 36) (tgt := 56) (by rw [hc4]; decide) (by rw [hc4]; decide) (by rw [hc4]; decide) (by decide) dX12_familyOf_20 ?_
      refine K_aload_n C 0 rfl rfl dX12_familyOf_56 ?_
      refine K_iload_n C 1 rfl rfl dX12_familyOf_57 ?_
      refine K_iload_n C 2 rfl rfl dX12_familyOf_58 ?_
      refine K_callVi C (As := [.int x1, .int x2]) (rest := []) (Nat.le_of_ble_eq_true rfl) (shM_0 G ad) rfl hy_X12_of wm_X12_111 (by decide) ⟨Nat.le_refl _, Nat.le_refl _⟩ (fun rr ff hh => km_X12_of l G ad g3 x1 x2 rr ff hh) rfl rfl (Nat.le_of_ble_eq_true rfl) rfl dX12_familyOf_59 (fun r5 g6 => ?_)
      exact K_ret C rfl rfl dX12_familyOf_62
    · refine K_case (fun hc7 => ?_) (fun hc7 => ?_)
      · refine K_tin C (off := 36) (tgt := 56) (by rw [hc7]; decide) (by rw [hc7]; decide) (by rw [hc7]; decide) (by decide) dX12_familyOf_20 ?_
        refine K_aload_n C 0 rfl rfl dX12_familyOf_56 ?_
        refine K_iload_n C 1 rfl rfl dX12_familyOf_57 ?_
        refine K_iload_n C 2 rfl rfl dX12_familyOf_58 ?_
        refine K_callVi C (As := [.int x1, .int x2]) (rest := []) (Nat.le_of_ble_eq_true rfl) (shM_0 G ad) rfl hy_X12_of wm_X12_111 (by decide) ⟨Nat.le_refl _, Nat.le_refl _⟩ (fun rr ff hh => km_X12_of l G ad g3 x1 x2 rr ff hh) rfl rfl (Nat.le_of_ble_eq_true rfl) rfl dX12_familyOf_59 (fun r8 g9 => ?_)
        exact K_ret C rfl rfl dX12_familyOf_62
      · refine K_case (fun hc10 => ?_) (fun hc10 => ?_)
        · refine K_tin C (off := 36) (tgt := 56) (by rw [hc10]; decide) (by rw [hc10]; decide) (by rw [hc10]; decide) (by decide) dX12_familyOf_20 ?_
          refine K_aload_n C 0 rfl rfl dX12_familyOf_56 ?_
          refine K_iload_n C 1 rfl rfl dX12_familyOf_57 ?_
          refine K_iload_n C 2 rfl rfl dX12_familyOf_58 ?_
          refine K_callVi C (As := [.int x1, .int x2]) (rest := []) (Nat.le_of_ble_eq_true rfl) (shM_0 G ad) rfl hy_X12_of wm_X12_111 (by decide) ⟨Nat.le_refl _, Nat.le_refl _⟩ (fun rr ff hh => km_X12_of l G ad g3 x1 x2 rr ff hh) rfl rfl (Nat.le_of_ble_eq_true rfl) rfl dX12_familyOf_59 (fun r11 g12 => ?_)
          exact K_ret C rfl rfl dX12_familyOf_62
        · refine K_case (fun hc13 => ?_) (fun hc13 => ?_)
          · refine K_tin C (off := 43) (tgt := 63) (by rw [hc13]; decide) (by rw [hc13]; decide) (by rw [hc13]; decide) (by decide) dX12_familyOf_20 ?_
            refine K_aload_n C 0 rfl rfl dX12_familyOf_63 ?_
            refine K_iload_n C 1 rfl rfl dX12_familyOf_64 ?_
            refine K_bipush C (v := 6) (by decide) dX12_familyOf_65 ?_
            refine K_callVi C (As := [.int x1, .int 6]) (rest := []) (Nat.le_of_ble_eq_true rfl) (shM_0 G ad) rfl hy_X12_of wm_X12_111 (by decide) ⟨Nat.le_refl _, Nat.le_refl _⟩ (fun rr ff hh => km_X12_of l G ad g3 x1 6 rr ff hh) rfl rfl (Nat.le_of_ble_eq_true rfl) rfl dX12_familyOf_67 (fun r14 g15 => ?_)
            refine K_aload_n C 0 rfl rfl dX12_familyOf_70 ?_
            refine K_iload_n C 1 rfl rfl dX12_familyOf_71 ?_
            refine K_bipush C (v := 7) (by decide) dX12_familyOf_72 ?_
            refine K_callVi C (As := [.int x1, .int 7]) (rest := [.int r14]) (Nat.le_of_ble_eq_true rfl) (shM_0 G ad) rfl hy_X12_of wm_X12_111 (by decide) ⟨Nat.le_refl _, Nat.le_refl _⟩ (fun rr ff hh => km_X12_of l G ad g15 x1 7 rr ff hh) rfl rfl (Nat.le_of_ble_eq_true rfl) rfl dX12_familyOf_74 (fun r16 g17 => ?_)
            refine K_iadd C dX12_familyOf_77 ?_
            refine K_aload_n C 0 rfl rfl dX12_familyOf_78 ?_
            refine K_iload_n C 1 rfl rfl dX12_familyOf_79 ?_
            refine K_bipush C (v := 8) (by decide) dX12_familyOf_80 ?_
            refine K_callVi C (As := [.int x1, .int 8]) (rest := [.int (r14 + r16)]) (Nat.le_of_ble_eq_true rfl) (shM_0 G ad) rfl hy_X12_of wm_X12_111 (by decide) ⟨Nat.le_refl _, Nat.le_refl _⟩ (fun rr ff hh => km_X12_of l G ad g17 x1 8 rr ff hh) rfl rfl (Nat.le_of_ble_eq_true rfl) rfl dX12_familyOf_82 (fun r18 g19 => ?_)
            refine K_iadd C dX12_familyOf_85 ?_
            exact K_ret C rfl rfl dX12_familyOf_86
          · refine K_case (fun hc20 => ?_) (fun hc20 => ?_)
            · refine K_tin C (off := 67) (tgt := 87) (by rw [hc20]; decide) (by rw [hc20]; decide) (by rw [hc20]; decide) (by decide) dX12_familyOf_20 ?_
              refine K_aload_n C 0 rfl rfl dX12_familyOf_87 ?_
              refine K_getR C kin_X12 rfl (Nat.le_of_ble_eq_true rfl) (shM_0 G ad) 0 (by decide) (b := 1) rfl wf_X12_9 rfl dX12_familyOf_88 ?_
              refine K_iconst C (v := 4) (by decide) dX12_familyOf_91 ?_
              refine K_ialdC C (Nat.le_of_ble_eq_true rfl) (shM_1 G ad) (kin_in (by decide)) dX12_familyOf_92 4 (by decide) ?_
              refine K_iload_n C 1 rfl rfl dX12_familyOf_93 ?_
              refine K_icmp_ne C (tgt := 101) (by decide) dX12_familyOf_94 ?_ ?_
              · refine K_iconst C (v := 0) (by decide) dX12_familyOf_101 ?_
                exact K_ret C rfl rfl dX12_familyOf_102
              · refine K_iconst C (v := 1) (by decide) dX12_familyOf_97 ?_
                refine K_goto C (tgt := 102) (by decide) dX12_familyOf_98 ?_
                exact K_ret C rfl rfl dX12_familyOf_102
            · refine K_tout C (tgt := 103) (by have q0 := kne 0 (by decide) hc4; have q1 := kne 1 (by decide) hc7; have q2 := kne 2 (by decide) hc10; have q3 := kne 3 (by decide) hc13; have q4 := kne 4 (by decide) hc20; omega) (by decide) dX12_familyOf_20 ?_
              refine K_aload_n C 0 rfl rfl dX12_familyOf_103 ?_
              refine K_iconst C (v := 2) (by decide) dX12_familyOf_104 ?_
              refine K_callVi C (As := [.int 2]) (rest := []) (Nat.le_of_ble_eq_true rfl) (shM_0 G ad) rfl hy_X12_raises wm_X12_54 (by decide) ⟨Nat.le_refl _, Nat.le_refl _⟩ (fun rr ff hh => km_X12_raises l G ad g3 2 rr ff hh) rfl rfl (Nat.le_of_ble_eq_true rfl) rfl dX12_familyOf_105 (fun r21 g22 => ?_)
              exact K_ret C rfl rfl dX12_familyOf_108
  · refine K_aload_n C 0 rfl rfl dX12_familyOf_13 ?_
    refine K_iconst C (v := 1) (by decide) dX12_familyOf_14 ?_
    refine K_callVi C (As := [.int 1]) (rest := []) (Nat.le_of_ble_eq_true rfl) (shM_0 G ad) rfl hy_X12_raises wm_X12_54 (by decide) ⟨Nat.le_refl _, Nat.le_refl _⟩ (fun rr ff hh => km_X12_raises l G ad g3 1 rr ff hh) rfl rfl (Nat.le_of_ble_eq_true rfl) rfl dX12_familyOf_15 (fun r23 g24 => ?_)
    exact K_ret C rfl rfl dX12_familyOf_18
def cj_X12_pieces_30 (f : kMem) : Option (Int32 × kMem) := kbind (cf_X12_raises f 1) (fun r4 g5 => some (r4, g5))
def cf_X12_pieces (f : kMem) (x1 x2 : Int32) : Option (Int32 × kMem) := kmem (kup f 0 18 0) (fun g1 => kbind (cf_X12_isFamily g1 x1) (fun r2 g3 => keq r2 0 ((cj_X12_pieces_30 g3)) (kbind (cf_X12_isPart g3 x2) (fun r6 g7 => keq r6 0 ((cj_X12_pieces_30 g7)) (kbind (cf_X12_piecesOf g7 x1 x2) (fun r8 g9 => some (r8, g9)))))))
set_option maxRecDepth 100000 in
set_option maxHeartbeats 4000000 in
theorem kcj_X12_pieces_30 {p : Program} {l : Launch} {e : Env} {R : Room} {s : State} {m : MethodId} {args : Array Value} {below : List Frame} {meth : Method} {c : Code} {G : kG} {ad : Nat → Nat} {z : Int32 × kMem} (C : KC p l e R s m args below meth c (wM G ad) RX12 cX12_pieces 3 (some .int) 2 0 0)  (f : kMem) : K p l e R s m args below meth c (wM G ad) 3 (kQF below (wM G ad) (some .int) args s z) z 0 0 f 30 [(0, .ref (kad (wM G ad) 0))] [] (cj_X12_pieces_30 f) := by
  unfold cj_X12_pieces_30
  refine K_aload_n C 0 rfl rfl dX12_pieces_30 ?_
  refine K_iconst C (v := 1) (by decide) dX12_pieces_31 ?_
  refine K_callVi C (As := [.int 1]) (rest := []) (Nat.le_of_ble_eq_true rfl) (shM_0 G ad) rfl hy_X12_raises wm_X12_54 (by decide) ⟨Nat.le_refl _, Nat.le_refl _⟩ (fun rr ff hh => km_X12_raises l G ad f 1 rr ff hh) rfl rfl (Nat.le_of_ble_eq_true rfl) rfl dX12_pieces_32 (fun r4 g5 => ?_)
  exact K_ret C rfl rfl dX12_pieces_35
set_option maxRecDepth 100000 in
set_option maxHeartbeats 4000000 in
theorem km_X12_pieces (l : Launch) (G : kG) (ad : Nat → Nat) (f : kMem) (x1 x2 : Int32) (r : Int32) (fo : kMem) (h : cf_X12_pieces f x1 x2 = some (r, fo)) : kMet l (wM G ad) yX12_pieces cX12_pieces 3 (some .int) 2 [.ref (kad (wM G ad) 0), .int x1, .int x2] f r fo := by
  refine kMet_of (own := RX12) (lv := [(0, .ref (kad (wM G ad) 0)), (1, .int x1), (2, .int x2)]) (by decide) rfl (Nat.le_of_ble_eq_true rfl) rfl h ?_
  intro p e R s m args below meth c C
  unfold cf_X12_pieces
  refine K_aload_n C 0 rfl rfl dX12_pieces_0 ?_
  refine K_iconst C (v := 0) (by decide) dX12_pieces_1 ?_
  refine K_putI C kin_X12 rfl (Nat.le_of_ble_eq_true rfl) (shM_0 G ad) 18 (by decide) rfl wf_X12_45 rfl tyX12 tyX12_ok nmX12 (by decide) (ty := .int) (by decide +kernel) rfl rfl dX12_pieces_2 (fun g1 => ?_)
  refine K_aload_n C 0 rfl rfl dX12_pieces_5 ?_
  refine K_iload_n C 1 rfl rfl dX12_pieces_6 ?_
  refine K_callVi C (As := [.int x1]) (rest := []) (Nat.le_of_ble_eq_true rfl) (shM_0 G ad) rfl hy_X12_isFamily wm_X12_86 (by decide) ⟨Nat.le_refl _, Nat.le_refl _⟩ (fun rr ff hh => km_X12_isFamily l G ad g1 x1 rr ff hh) rfl rfl (Nat.le_of_ble_eq_true rfl) rfl dX12_pieces_7 (fun r2 g3 => ?_)
  refine K_if_eq C (tgt := 30) (by decide) dX12_pieces_10 ?_ ?_
  · refine K_sub [0] rfl ?_
    exact kcj_X12_pieces_30 C g3
  · refine K_aload_n C 0 rfl rfl dX12_pieces_13 ?_
    refine K_iload_n C 2 rfl rfl dX12_pieces_14 ?_
    refine K_callVi C (As := [.int x2]) (rest := []) (Nat.le_of_ble_eq_true rfl) (shM_0 G ad) rfl hy_X12_isPart wm_X12_83 (by decide) ⟨Nat.le_refl _, Nat.le_refl _⟩ (fun rr ff hh => km_X12_isPart l G ad g3 x2 rr ff hh) rfl rfl (Nat.le_of_ble_eq_true rfl) rfl dX12_pieces_15 (fun r6 g7 => ?_)
    refine K_if_eq C (tgt := 30) (by decide) dX12_pieces_18 ?_ ?_
    · refine K_sub [0] rfl ?_
      exact kcj_X12_pieces_30 C g7
    · refine K_aload_n C 0 rfl rfl dX12_pieces_21 ?_
      refine K_iload_n C 1 rfl rfl dX12_pieces_22 ?_
      refine K_iload_n C 2 rfl rfl dX12_pieces_23 ?_
      refine K_callVi C (As := [.int x1, .int x2]) (rest := []) (Nat.le_of_ble_eq_true rfl) (shM_0 G ad) rfl hy_X12_piecesOf wm_X12_210 (by decide) ⟨Nat.le_refl _, Nat.le_refl _⟩ (fun rr ff hh => km_X12_piecesOf l G ad g7 x1 x2 rr ff hh) rfl rfl (Nat.le_of_ble_eq_true rfl) rfl dX12_pieces_24 (fun r8 g9 => ?_)
      refine K_goto C (tgt := 35) (by decide) dX12_pieces_27 ?_
      exact K_ret C rfl rfl dX12_pieces_35
def cl_X12_families_23 : Nat → kMem → Int32 → Int32 → Int32 → Option (Int32 × kMem)
  | 0, _, _, _, _ => none
  | n + 1, f, x1, x2, x3 => kle (f 1 2) x3 (some (x2, f)) (kbind (cf_X12_piecesOf f x3 x1) (fun r4 g5 => kle r4 0 (klet (x3 + Int32.ofInt 1) (fun x3_6 => ((cl_X12_families_23 n) g5 x1 x2 x3_6))) (klet (x2 ||| (1 <<< (x3 &&& 31))) (fun x2_7 => klet (x3 + Int32.ofInt 1) (fun x3_8 => ((cl_X12_families_23 n) g5 x1 x2_7 x3_8))))))
def cf_X12_families (f : kMem) (x1 : Int32) : Option (Int32 × kMem) := kmem (kup f 0 18 0) (fun g1 => kbind (cf_X12_isPart g1 x1) (fun r2 g3 => keq r2 0 (kbind (cf_X12_raises g3 1) (fun r9 g10 => some (r9, g10))) ((cl_X12_families_23 100 g3 x1 0 0))))
set_option maxRecDepth 100000 in
set_option maxHeartbeats 4000000 in
theorem kcl_X12_families_23 {p : Program} {l : Launch} {e : Env} {R : Room} {s : State} {m : MethodId} {args : Array Value} {below : List Frame} {meth : Method} {c : Code} {G : kG} {ad : Nat → Nat} {z : Int32 × kMem} (C : KC p l e R s m args below meth c (wM G ad) RX12 cX12_families 4 (some .int) 2 0 0)  : ∀ (n : Nat) (f : kMem) (x1 x2 x3 : Int32), K p l e R s m args below meth c (wM G ad) 4 (kQF below (wM G ad) (some .int) args s z) z 0 0 f 23 [(0, .ref (kad (wM G ad) 0)), (1, .int x1), (2, .int x2), (3, .int x3)] [] (cl_X12_families_23 n f x1 x2 x3) := by
  intro n
  induction n with
  | zero => intro f x1 x2 x3; exact K_none
  | succ n ih =>
    intro f x1 x2 x3
    unfold cl_X12_families_23
    refine K_iload_n C 3 rfl rfl dX12_families_23 ?_
    refine K_aload_n C 0 rfl rfl dX12_families_24 ?_
    refine K_getR C kin_X12 rfl (Nat.le_of_ble_eq_true rfl) (shM_0 G ad) 0 (by decide) (b := 1) rfl wf_X12_9 rfl dX12_families_25 ?_
    refine K_iconst C (v := 2) (by decide) dX12_families_28 ?_
    refine K_ialdC C (Nat.le_of_ble_eq_true rfl) (shM_1 G ad) (kin_in (by decide)) dX12_families_29 2 (by decide) ?_
    refine K_icmp_ge C (tgt := 54) (by decide) dX12_families_30 ?_ ?_
    · refine K_iload_n C 2 rfl rfl dX12_families_54 ?_
      exact K_ret C rfl rfl dX12_families_55
    · refine K_aload_n C 0 rfl rfl dX12_families_33 ?_
      refine K_iload_n C 3 rfl rfl dX12_families_34 ?_
      refine K_iload_n C 1 rfl rfl dX12_families_35 ?_
      refine K_callVi C (As := [.int x3, .int x1]) (rest := []) (Nat.le_of_ble_eq_true rfl) (shM_0 G ad) rfl hy_X12_piecesOf wm_X12_210 (by decide) ⟨Nat.le_refl _, Nat.le_refl _⟩ (fun rr ff hh => km_X12_piecesOf l G ad f x3 x1 rr ff hh) rfl rfl (Nat.le_of_ble_eq_true rfl) rfl dX12_families_36 (fun r4 g5 => ?_)
      refine K_if_le C (tgt := 48) (by decide) dX12_families_39 ?_ ?_
      · refine K_iinc C (k := 3) (lv1 := fun x3_6 => [(3, .int x3_6), (0, .ref (kad (wM G ad) 0)), (1, .int x1), (2, .int x2)]) rfl (by decide) (fun _ => rfl) dX12_families_48 (fun x3_6 => ?_)
        refine K_goto C (tgt := 23) (by decide) dX12_families_51 ?_
        refine K_sub [1, 2, 3, 0] rfl ?_
        exact ih g5 x1 x2 x3_6
      · refine K_iload_n C 2 rfl rfl dX12_families_42 ?_
        refine K_iconst C (v := 1) (by decide) dX12_families_43 ?_
        refine K_iload_n C 3 rfl rfl dX12_families_44 ?_
        refine K_ishl C dX12_families_45 ?_
        refine K_ior C dX12_families_46 ?_
        refine K_let rfl (fun x2_7 => ?_)
        refine K_istore_n C (lv1 := [(2, .int x2_7), (0, .ref (kad (wM G ad) 0)), (1, .int x1), (3, .int x3)]) rfl (by decide) rfl dX12_families_47 ?_
        refine K_iinc C (k := 3) (lv1 := fun x3_8 => [(3, .int x3_8), (2, .int x2_7), (0, .ref (kad (wM G ad) 0)), (1, .int x1)]) rfl (by decide) (fun _ => rfl) dX12_families_48 (fun x3_8 => ?_)
        refine K_goto C (tgt := 23) (by decide) dX12_families_51 ?_
        refine K_sub [2, 3, 1, 0] rfl ?_
        exact ih g5 x1 x2_7 x3_8
set_option maxRecDepth 100000 in
set_option maxHeartbeats 4000000 in
theorem km_X12_families (l : Launch) (G : kG) (ad : Nat → Nat) (f : kMem) (x1 : Int32) (r : Int32) (fo : kMem) (h : cf_X12_families f x1 = some (r, fo)) : kMet l (wM G ad) yX12_families cX12_families 4 (some .int) 2 [.ref (kad (wM G ad) 0), .int x1] f r fo := by
  refine kMet_of (own := RX12) (lv := [(0, .ref (kad (wM G ad) 0)), (1, .int x1)]) (by decide) rfl (Nat.le_of_ble_eq_true rfl) rfl h ?_
  intro p e R s m args below meth c C
  unfold cf_X12_families
  refine K_aload_n C 0 rfl rfl dX12_families_0 ?_
  refine K_iconst C (v := 0) (by decide) dX12_families_1 ?_
  refine K_putI C kin_X12 rfl (Nat.le_of_ble_eq_true rfl) (shM_0 G ad) 18 (by decide) rfl wf_X12_45 rfl tyX12 tyX12_ok nmX12 (by decide) (ty := .int) (by decide +kernel) rfl rfl dX12_families_2 (fun g1 => ?_)
  refine K_aload_n C 0 rfl rfl dX12_families_5 ?_
  refine K_iload_n C 1 rfl rfl dX12_families_6 ?_
  refine K_callVi C (As := [.int x1]) (rest := []) (Nat.le_of_ble_eq_true rfl) (shM_0 G ad) rfl hy_X12_isPart wm_X12_83 (by decide) ⟨Nat.le_refl _, Nat.le_refl _⟩ (fun rr ff hh => km_X12_isPart l G ad g1 x1 rr ff hh) rfl rfl (Nat.le_of_ble_eq_true rfl) rfl dX12_families_7 (fun r2 g3 => ?_)
  refine K_if_ne C (tgt := 19) (by decide) dX12_families_10 ?_ ?_
  · refine K_iconst C (v := 0) (by decide) dX12_families_19 ?_
    refine K_istore_n C (lv1 := [(2, .int 0), (0, .ref (kad (wM G ad) 0)), (1, .int x1)]) rfl (by decide) rfl dX12_families_20 ?_
    refine K_iconst C (v := 0) (by decide) dX12_families_21 ?_
    refine K_istore_n C (lv1 := [(3, .int 0), (2, .int 0), (0, .ref (kad (wM G ad) 0)), (1, .int x1)]) rfl (by decide) rfl dX12_families_22 ?_
    refine K_sub [2, 3, 1, 0] rfl ?_
    exact kcl_X12_families_23 C 100 g3 x1 0 0
  · refine K_aload_n C 0 rfl rfl dX12_families_13 ?_
    refine K_iconst C (v := 1) (by decide) dX12_families_14 ?_
    refine K_callVi C (As := [.int 1]) (rest := []) (Nat.le_of_ble_eq_true rfl) (shM_0 G ad) rfl hy_X12_raises wm_X12_54 (by decide) ⟨Nat.le_refl _, Nat.le_refl _⟩ (fun rr ff hh => km_X12_raises l G ad g3 1 rr ff hh) rfl rfl (Nat.le_of_ble_eq_true rfl) rfl dX12_families_15 (fun r9 g10 => ?_)
    exact K_ret C rfl rfl dX12_families_18
def cf_X12_dryer (f : kMem) (x1 x2 : Int32) : Option (Int32 × kMem) := kmem (kup f 0 18 0) (fun g1 => kbind (cf_X12_isDryer g1 x1) (fun r2 g3 => keq r2 0 (kbind (cf_X12_raises g3 1) (fun r9 g10 => some (r9, g10))) (kbind (cf_X12_in g3 x2 0 3) (fun r4 g5 => keq r4 0 (kbind (cf_X12_raises g5 2) (fun r7 g8 => some (r7, g8))) (klet (100 + (3 * x1)) (fun x3_6 => kle 3 x2 (kchk (kin x3_6 313) (kle 0 (g5 1 (Int32.toNatClampNeg x3_6)) (kchk (kin (x3_6 + 2) 313) (some ((kmax 0 ((g5 1 13) - (g5 1 (Int32.toNatClampNeg (x3_6 + 2))))), g5))) (some (0, g5)))) (kchk (kin (x3_6 + x2) 313) (some ((g5 1 (Int32.toNatClampNeg (x3_6 + x2))), g5)))))))))
set_option maxRecDepth 100000 in
set_option maxHeartbeats 4000000 in
theorem km_X12_dryer (l : Launch) (G : kG) (ad : Nat → Nat) (f : kMem) (x1 x2 : Int32) (r : Int32) (fo : kMem) (h : cf_X12_dryer f x1 x2 = some (r, fo)) : kMet l (wM G ad) yX12_dryer cX12_dryer 4 (some .int) 2 [.ref (kad (wM G ad) 0), .int x1, .int x2] f r fo := by
  refine kMet_of (own := RX12) (lv := [(0, .ref (kad (wM G ad) 0)), (1, .int x1), (2, .int x2)]) (by decide) rfl (Nat.le_of_ble_eq_true rfl) rfl h ?_
  intro p e R s m args below meth c C
  unfold cf_X12_dryer
  refine K_aload_n C 0 rfl rfl dX12_dryer_0 ?_
  refine K_iconst C (v := 0) (by decide) dX12_dryer_1 ?_
  refine K_putI C kin_X12 rfl (Nat.le_of_ble_eq_true rfl) (shM_0 G ad) 18 (by decide) rfl wf_X12_45 rfl tyX12 tyX12_ok nmX12 (by decide) (ty := .int) (by decide +kernel) rfl rfl dX12_dryer_2 (fun g1 => ?_)
  refine K_iload_n C 1 rfl rfl dX12_dryer_5 ?_
  refine K_callSi C (As := [.int x1]) (rest := []) hy_X12_isDryer wm_X12_92 (by decide) ⟨Nat.le_refl _, Nat.le_refl _⟩ (fun rr ff hh => km_X12_isDryer l G ad g1 x1 rr ff hh) rfl rfl (Nat.le_of_ble_eq_true rfl) rfl dX12_dryer_6 (fun r2 g3 => ?_)
  refine K_if_ne C (tgt := 18) (by decide) dX12_dryer_9 ?_ ?_
  · refine K_iload_n C 2 rfl rfl dX12_dryer_18 ?_
    refine K_iconst C (v := 0) (by decide) dX12_dryer_19 ?_
    refine K_iconst C (v := 3) (by decide) dX12_dryer_20 ?_
    refine K_callSi C (As := [.int x2, .int 0, .int 3]) (rest := []) hy_X12_in wm_X12_64 (by decide) ⟨Nat.le_refl _, Nat.le_refl _⟩ (fun rr ff hh => km_X12_in l G ad g3 x2 0 3 rr ff hh) rfl rfl (Nat.le_of_ble_eq_true rfl) rfl dX12_dryer_21 (fun r4 g5 => ?_)
    refine K_if_ne C (tgt := 33) (by decide) dX12_dryer_24 ?_ ?_
    · refine K_bipush C (v := 100) (by decide) dX12_dryer_33 ?_
      refine K_iconst C (v := 3) (by decide) dX12_dryer_35 ?_
      refine K_iload_n C 1 rfl rfl dX12_dryer_36 ?_
      refine K_imul C dX12_dryer_37 ?_
      refine K_iadd C dX12_dryer_38 ?_
      refine K_let rfl (fun x3_6 => ?_)
      refine K_istore_n C (lv1 := [(3, .int x3_6), (0, .ref (kad (wM G ad) 0)), (1, .int x1), (2, .int x2)]) rfl (by decide) rfl dX12_dryer_39 ?_
      refine K_iload_n C 3 rfl rfl dX12_dryer_40 ?_
      refine K_iconst C (v := 3) (by decide) dX12_dryer_41 ?_
      refine K_icmp_ge C (tgt := 54) (by decide) dX12_dryer_42 ?_ ?_
      · refine K_aload_n C 1 rfl rfl dX12_dryer_54 ?_
        refine K_getR C kin_X12 rfl (Nat.le_of_ble_eq_true rfl) (shM_0 G ad) 0 (by decide) (b := 1) rfl wf_X12_9 rfl dX12_dryer_55 ?_
        refine K_iload_n C 0 rfl rfl dX12_dryer_58 ?_
        refine K_iald C (Nat.le_of_ble_eq_true rfl) (shM_1 G ad) dX12_dryer_59 ?_
        refine K_if_ge C (tgt := 67) (by decide) dX12_dryer_60 ?_ ?_
        · refine K_iconst C (v := 0) (by decide) dX12_dryer_67 ?_
          refine K_aload_n C 1 rfl rfl dX12_dryer_68 ?_
          refine K_getR C kin_X12 rfl (Nat.le_of_ble_eq_true rfl) (shM_0 G ad) 0 (by decide) (b := 1) rfl wf_X12_9 rfl dX12_dryer_69 ?_
          refine K_bipush C (v := 13) (by decide) dX12_dryer_72 ?_
          refine K_ialdC C (Nat.le_of_ble_eq_true rfl) (shM_1 G ad) (kin_in (by decide)) dX12_dryer_74 13 (by decide) ?_
          refine K_aload_n C 1 rfl rfl dX12_dryer_75 ?_
          refine K_getR C kin_X12 rfl (Nat.le_of_ble_eq_true rfl) (shM_0 G ad) 0 (by decide) (b := 1) rfl wf_X12_9 rfl dX12_dryer_76 ?_
          refine K_iload_n C 0 rfl rfl dX12_dryer_79 ?_
          refine K_iconst C (v := 2) (by decide) dX12_dryer_80 ?_
          refine K_iadd C dX12_dryer_81 ?_
          refine K_iald C (Nat.le_of_ble_eq_true rfl) (shM_1 G ad) dX12_dryer_82 ?_
          refine K_isub C dX12_dryer_83 ?_
          refine K_mmax C wm_X12_103 (by decide) ⟨Nat.le_refl _, Nat.le_refl _⟩ (Nat.le_of_ble_eq_true rfl) dX12_dryer_84 ?_
          exact K_ret C rfl rfl dX12_dryer_87
        · refine K_iconst C (v := 0) (by decide) dX12_dryer_63 ?_
          refine K_goto C (tgt := 87) (by decide) dX12_dryer_64 ?_
          exact K_ret C rfl rfl dX12_dryer_87
      · refine K_aload_n C 1 rfl rfl dX12_dryer_45 ?_
        refine K_getR C kin_X12 rfl (Nat.le_of_ble_eq_true rfl) (shM_0 G ad) 0 (by decide) (b := 1) rfl wf_X12_9 rfl dX12_dryer_46 ?_
        refine K_iload_n C 0 rfl rfl dX12_dryer_49 ?_
        refine K_iload_n C 3 rfl rfl dX12_dryer_50 ?_
        refine K_iadd C dX12_dryer_51 ?_
        refine K_iald C (Nat.le_of_ble_eq_true rfl) (shM_1 G ad) dX12_dryer_52 ?_
        exact K_ret C rfl rfl dX12_dryer_53
    · refine K_aload_n C 0 rfl rfl dX12_dryer_27 ?_
      refine K_iconst C (v := 2) (by decide) dX12_dryer_28 ?_
      refine K_callVi C (As := [.int 2]) (rest := []) (Nat.le_of_ble_eq_true rfl) (shM_0 G ad) rfl hy_X12_raises wm_X12_54 (by decide) ⟨Nat.le_refl _, Nat.le_refl _⟩ (fun rr ff hh => km_X12_raises l G ad g5 2 rr ff hh) rfl rfl (Nat.le_of_ble_eq_true rfl) rfl dX12_dryer_29 (fun r7 g8 => ?_)
      exact K_ret C rfl rfl dX12_dryer_32
  · refine K_aload_n C 0 rfl rfl dX12_dryer_12 ?_
    refine K_iconst C (v := 1) (by decide) dX12_dryer_13 ?_
    refine K_callVi C (As := [.int 1]) (rest := []) (Nat.le_of_ble_eq_true rfl) (shM_0 G ad) rfl hy_X12_raises wm_X12_54 (by decide) ⟨Nat.le_refl _, Nat.le_refl _⟩ (fun rr ff hh => km_X12_raises l G ad g3 1 rr ff hh) rfl rfl (Nat.le_of_ble_eq_true rfl) rfl dX12_dryer_14 (fun r9 g10 => ?_)
    exact K_ret C rfl rfl dX12_dryer_17
def cj_X12_stock_21 (f : kMem) : Option (Int32 × kMem) := kbind (cf_X12_raises f 1) (fun r4 g5 => some (r4, g5))
def cf_X12_stock (f : kMem) (x1 x2 x3 : Int32) : Option (Int32 × kMem) := kmem (kup f 0 18 0) (fun g1 => kbind (cf_X12_isPart g1 x1) (fun r2 g3 => keq r2 0 ((cj_X12_stock_21 g3)) (kbind (cf_X12_isColour g3 x2) (fun r6 g7 => keq r6 0 ((cj_X12_stock_21 g7)) (kbind (cf_X12_place g7 x1 x2) (fun r8 g9 => keq x3 0 (kchk (kin (109 + r8) 313) (some ((g9 1 (Int32.toNatClampNeg (109 + r8))), g9))) (keq x3 1 (kchk (kin (157 + r8) 313) (some ((g9 1 (Int32.toNatClampNeg (157 + r8))), g9))) (keq x3 2 (kchk (kin (205 + r8) 313) (some ((g9 1 (Int32.toNatClampNeg (205 + r8))), g9))) (kbind (cf_X12_raises g9 2) (fun r13 g14 => some (r13, g14)))))))))))
set_option maxRecDepth 100000 in
set_option maxHeartbeats 4000000 in
theorem kcj_X12_stock_21 {p : Program} {l : Launch} {e : Env} {R : Room} {s : State} {m : MethodId} {args : Array Value} {below : List Frame} {meth : Method} {c : Code} {G : kG} {ad : Nat → Nat} {z : Int32 × kMem} (C : KC p l e R s m args below meth c (wM G ad) RX12 cX12_stock 5 (some .int) 2 0 0)  (f : kMem) : K p l e R s m args below meth c (wM G ad) 5 (kQF below (wM G ad) (some .int) args s z) z 0 0 f 21 [(0, .ref (kad (wM G ad) 0))] [] (cj_X12_stock_21 f) := by
  unfold cj_X12_stock_21
  refine K_aload_n C 0 rfl rfl dX12_stock_21 ?_
  refine K_iconst C (v := 1) (by decide) dX12_stock_22 ?_
  refine K_callVi C (As := [.int 1]) (rest := []) (Nat.le_of_ble_eq_true rfl) (shM_0 G ad) rfl hy_X12_raises wm_X12_54 (by decide) ⟨Nat.le_refl _, Nat.le_refl _⟩ (fun rr ff hh => km_X12_raises l G ad f 1 rr ff hh) rfl rfl (Nat.le_of_ble_eq_true rfl) rfl dX12_stock_23 (fun r4 g5 => ?_)
  exact K_ret C rfl rfl dX12_stock_26
set_option maxRecDepth 100000 in
set_option maxHeartbeats 4000000 in
theorem km_X12_stock (l : Launch) (G : kG) (ad : Nat → Nat) (f : kMem) (x1 x2 x3 : Int32) (r : Int32) (fo : kMem) (h : cf_X12_stock f x1 x2 x3 = some (r, fo)) : kMet l (wM G ad) yX12_stock cX12_stock 5 (some .int) 2 [.ref (kad (wM G ad) 0), .int x1, .int x2, .int x3] f r fo := by
  refine kMet_of (own := RX12) (lv := [(0, .ref (kad (wM G ad) 0)), (1, .int x1), (2, .int x2), (3, .int x3)]) (by decide) rfl (Nat.le_of_ble_eq_true rfl) rfl h ?_
  intro p e R s m args below meth c C
  unfold cf_X12_stock
  refine K_aload_n C 0 rfl rfl dX12_stock_0 ?_
  refine K_iconst C (v := 0) (by decide) dX12_stock_1 ?_
  refine K_putI C kin_X12 rfl (Nat.le_of_ble_eq_true rfl) (shM_0 G ad) 18 (by decide) rfl wf_X12_45 rfl tyX12 tyX12_ok nmX12 (by decide) (ty := .int) (by decide +kernel) rfl rfl dX12_stock_2 (fun g1 => ?_)
  refine K_aload_n C 0 rfl rfl dX12_stock_5 ?_
  refine K_iload_n C 1 rfl rfl dX12_stock_6 ?_
  refine K_callVi C (As := [.int x1]) (rest := []) (Nat.le_of_ble_eq_true rfl) (shM_0 G ad) rfl hy_X12_isPart wm_X12_83 (by decide) ⟨Nat.le_refl _, Nat.le_refl _⟩ (fun rr ff hh => km_X12_isPart l G ad g1 x1 rr ff hh) rfl rfl (Nat.le_of_ble_eq_true rfl) rfl dX12_stock_7 (fun r2 g3 => ?_)
  refine K_if_eq C (tgt := 21) (by decide) dX12_stock_10 ?_ ?_
  · refine K_sub [0] rfl ?_
    exact kcj_X12_stock_21 C g3
  · refine K_aload_n C 0 rfl rfl dX12_stock_13 ?_
    refine K_iload_n C 2 rfl rfl dX12_stock_14 ?_
    refine K_callVi C (As := [.int x2]) (rest := []) (Nat.le_of_ble_eq_true rfl) (shM_0 G ad) rfl hy_X12_isColour wm_X12_95 (by decide) ⟨Nat.le_refl _, Nat.le_refl _⟩ (fun rr ff hh => km_X12_isColour l G ad g3 x2 rr ff hh) rfl rfl (Nat.le_of_ble_eq_true rfl) rfl dX12_stock_15 (fun r6 g7 => ?_)
    refine K_if_ne C (tgt := 27) (by decide) dX12_stock_18 ?_ ?_
    · refine K_iload_n C 1 rfl rfl dX12_stock_27 ?_
      refine K_iload_n C 2 rfl rfl dX12_stock_28 ?_
      refine K_callSi C (As := [.int x1, .int x2]) (rest := []) hy_X12_place wm_X12_68 (by decide) ⟨Nat.le_refl _, Nat.le_refl _⟩ (fun rr ff hh => km_X12_place l G ad g7 x1 x2 rr ff hh) rfl rfl (Nat.le_of_ble_eq_true rfl) rfl dX12_stock_29 (fun r8 g9 => ?_)
      refine K_istore C (lv1 := [(4, .int r8), (0, .ref (kad (wM G ad) 0)), (1, .int x1), (2, .int x2), (3, .int x3)]) (by decide) rfl dX12_stock_32 ?_
      refine K_iload_n C 4 rfl rfl dX12_stock_34 ?_
      refine K_case (fun hc10 => ?_) (fun hc10 => ?_)
      · refine K_tin C (off := 25) (tgt := 60) (by rw [hc10]; decide) (by rw [hc10]; decide) (by rw [hc10]; decide) (by decide) dX12_stock_35 ?_
        refine K_aload_n C 1 rfl rfl dX12_stock_60 ?_
        refine K_getR C kin_X12 rfl (Nat.le_of_ble_eq_true rfl) (shM_0 G ad) 0 (by decide) (b := 1) rfl wf_X12_9 rfl dX12_stock_61 ?_
        refine K_bipush C (v := 109) (by decide) dX12_stock_64 ?_
        refine K_iload C 0 rfl dX12_stock_66 ?_
        refine K_iadd C dX12_stock_68 ?_
        refine K_iald C (Nat.le_of_ble_eq_true rfl) (shM_1 G ad) dX12_stock_69 ?_
        exact K_ret C rfl rfl dX12_stock_70
      · refine K_case (fun hc11 => ?_) (fun hc11 => ?_)
        · refine K_tin C (off := 36) (tgt := 71) (by rw [hc11]; decide) (by rw [hc11]; decide) (by rw [hc11]; decide) (by decide) dX12_stock_35 ?_
          refine K_aload_n C 1 rfl rfl dX12_stock_71 ?_
          refine K_getR C kin_X12 rfl (Nat.le_of_ble_eq_true rfl) (shM_0 G ad) 0 (by decide) (b := 1) rfl wf_X12_9 rfl dX12_stock_72 ?_
          refine K_sipush C (v := 157) (by decide) dX12_stock_75 ?_
          refine K_iload C 0 rfl dX12_stock_78 ?_
          refine K_iadd C dX12_stock_80 ?_
          refine K_iald C (Nat.le_of_ble_eq_true rfl) (shM_1 G ad) dX12_stock_81 ?_
          exact K_ret C rfl rfl dX12_stock_82
        · refine K_case (fun hc12 => ?_) (fun hc12 => ?_)
          · refine K_tin C (off := 48) (tgt := 83) (by rw [hc12]; decide) (by rw [hc12]; decide) (by rw [hc12]; decide) (by decide) dX12_stock_35 ?_
            refine K_aload_n C 1 rfl rfl dX12_stock_83 ?_
            refine K_getR C kin_X12 rfl (Nat.le_of_ble_eq_true rfl) (shM_0 G ad) 0 (by decide) (b := 1) rfl wf_X12_9 rfl dX12_stock_84 ?_
            refine K_sipush C (v := 205) (by decide) dX12_stock_87 ?_
            refine K_iload C 0 rfl dX12_stock_90 ?_
            refine K_iadd C dX12_stock_92 ?_
            refine K_iald C (Nat.le_of_ble_eq_true rfl) (shM_1 G ad) dX12_stock_93 ?_
            exact K_ret C rfl rfl dX12_stock_94
          · refine K_tout C (tgt := 95) (by have q0 := kne 0 (by decide) hc10; have q1 := kne 1 (by decide) hc11; have q2 := kne 2 (by decide) hc12; omega) (by decide) dX12_stock_35 ?_
            refine K_aload_n C 1 rfl rfl dX12_stock_95 ?_
            refine K_iconst C (v := 2) (by decide) dX12_stock_96 ?_
            refine K_callVi C (As := [.int 2]) (rest := []) (Nat.le_of_ble_eq_true rfl) (shM_0 G ad) rfl hy_X12_raises wm_X12_54 (by decide) ⟨Nat.le_refl _, Nat.le_refl _⟩ (fun rr ff hh => km_X12_raises l G ad g9 2 rr ff hh) rfl rfl (Nat.le_of_ble_eq_true rfl) rfl dX12_stock_97 (fun r13 g14 => ?_)
            exact K_ret C rfl rfl dX12_stock_100
    · refine K_sub [0] rfl ?_
      exact kcj_X12_stock_21 C g7
def cl_X12_made_65 (Y111 : kMem → Int32 → Int32 → Option (Int32 × kMem)) : Nat → kMem → Int32 → Int32 → Int32 → Option (Int32 × kMem)
  | 0, _, _, _, _ => none
  | n + 1, f, x1, x3, x4 => kle 6 x4 ((Y111 f x1 x3)) (kbind (cf_X12_place f x1 x4) (fun r6 g7 => kchk (kin (109 + r6) 313) (kbind (cf_X12_place g7 x1 x4) (fun r8 g9 => kchk (kin (205 + r8) 313) (klet (x3 + ((g7 1 (Int32.toNatClampNeg (109 + r6))) + (g9 1 (Int32.toNatClampNeg (205 + r8))))) (fun x3_10 => klet (x4 + Int32.ofInt 1) (fun x4_11 => ((cl_X12_made_65 Y111 n) g9 x1 x3_10 x4_11))))))))
def cl_X12_made_126 : Nat → kMem → Int32 → Int32 → Int32 → Option (Int32 × kMem)
  | 0, _, _, _, _ => none
  | n + 1, f, x1, x3, x4 => kle 6 x4 (some (x3, f)) (kbind (cf_X12_place f x1 x4) (fun r16 g17 => kchk (kin (157 + r16) 313) (klet (x3 + (g17 1 (Int32.toNatClampNeg (157 + r16)))) (fun x3_18 => klet (x4 + Int32.ofInt 1) (fun x4_19 => ((cl_X12_made_126 n) g17 x1 x3_18 x4_19))))))
def cf_X12_made (f : kMem) (x1 x2 : Int32) : Option (Int32 × kMem) := kmem (kup f 0 18 0) (fun g1 => kbind (cf_X12_isPart g1 x1) (fun r2 g3 => keq r2 0 (kbind (cf_X12_raises g3 1) (fun r23 g24 => some (r23, g24))) (keq x2 0 (kchk (kin (30 + x1) 313) (some ((g3 1 (Int32.toNatClampNeg (30 + x1))), g3))) (keq x2 1 ((cl_X12_made_65 (fun g14 x1_12 x3_13 => kchk (kin (22 + x1_12) 313) (some ((x3_13 * (g14 1 (Int32.toNatClampNeg (22 + x1_12)))), g14))) 100 g3 x1 0 0)) (keq x2 2 ((cl_X12_made_126 100 g3 x1 0 0)) (keq x2 3 (kchk (kin (38 + x1) 313) (some ((g3 1 (Int32.toNatClampNeg (38 + x1))), g3))) (kbind (cf_X12_raises g3 2) (fun r21 g22 => some (r21, g22)))))))))
set_option maxRecDepth 100000 in
set_option maxHeartbeats 4000000 in
theorem kcl_X12_made_65 {p : Program} {l : Launch} {e : Env} {R : Room} {s : State} {m : MethodId} {args : Array Value} {below : List Frame} {meth : Method} {c : Code} {G : kG} {ad : Nat → Nat} {z : Int32 × kMem} (C : KC p l e R s m args below meth c (wM G ad) RX12 cX12_made 5 (some .int) 2 0 0) (Y111 : kMem → Int32 → Int32 → Option (Int32 × kMem)) (hY111 : ∀ (f : kMem) (x1 x3 : Int32), K p l e R s m args below meth c (wM G ad) 5 (kQF below (wM G ad) (some .int) args s z) z 0 0 f 111 [(0, .ref (kad (wM G ad) 0)), (1, .int x1), (3, .int x3)] [] (Y111 f x1 x3)) : ∀ (n : Nat) (f : kMem) (x1 x3 x4 : Int32), K p l e R s m args below meth c (wM G ad) 5 (kQF below (wM G ad) (some .int) args s z) z 0 0 f 65 [(0, .ref (kad (wM G ad) 0)), (1, .int x1), (3, .int x3), (4, .int x4)] [] (cl_X12_made_65 Y111 n f x1 x3 x4) := by
  intro n
  induction n with
  | zero => intro f x1 x3 x4; exact K_none
  | succ n ih =>
    intro f x1 x3 x4
    unfold cl_X12_made_65
    refine K_iload C 3 rfl dX12_made_65 ?_
    refine K_bipush C (v := 6) (by decide) dX12_made_67 ?_
    refine K_icmp_ge C (tgt := 111) (by decide) dX12_made_69 ?_ ?_
    · refine K_sub [0, 1, 2] rfl ?_
      exact hY111 f x1 x3
    · refine K_iload_n C 2 rfl rfl dX12_made_72 ?_
      refine K_aload_n C 0 rfl rfl dX12_made_73 ?_
      refine K_getR C kin_X12 rfl (Nat.le_of_ble_eq_true rfl) (shM_0 G ad) 0 (by decide) (b := 1) rfl wf_X12_9 rfl dX12_made_74 ?_
      refine K_bipush C (v := 109) (by decide) dX12_made_77 ?_
      refine K_iload_n C 1 rfl rfl dX12_made_79 ?_
      refine K_iload C 3 rfl dX12_made_80 ?_
      refine K_callSi C (As := [.int x1, .int x4]) (rest := [.int 109, .ref (kad (wM G ad) 1), .int x3]) hy_X12_place wm_X12_68 (by decide) ⟨Nat.le_refl _, Nat.le_refl _⟩ (fun rr ff hh => km_X12_place l G ad f x1 x4 rr ff hh) rfl rfl (Nat.le_of_ble_eq_true rfl) rfl dX12_made_82 (fun r6 g7 => ?_)
      refine K_iadd C dX12_made_85 ?_
      refine K_iald C (Nat.le_of_ble_eq_true rfl) (shM_1 G ad) dX12_made_86 ?_
      refine K_aload_n C 0 rfl rfl dX12_made_87 ?_
      refine K_getR C kin_X12 rfl (Nat.le_of_ble_eq_true rfl) (shM_0 G ad) 0 (by decide) (b := 1) rfl wf_X12_9 rfl dX12_made_88 ?_
      refine K_sipush C (v := 205) (by decide) dX12_made_91 ?_
      refine K_iload_n C 1 rfl rfl dX12_made_94 ?_
      refine K_iload C 3 rfl dX12_made_95 ?_
      refine K_callSi C (As := [.int x1, .int x4]) (rest := [.int 205, .ref (kad (wM G ad) 1), .int (g7 1 (Int32.toNatClampNeg (109 + r6))), .int x3]) hy_X12_place wm_X12_68 (by decide) ⟨Nat.le_refl _, Nat.le_refl _⟩ (fun rr ff hh => km_X12_place l G ad g7 x1 x4 rr ff hh) rfl rfl (Nat.le_of_ble_eq_true rfl) rfl dX12_made_97 (fun r8 g9 => ?_)
      refine K_iadd C dX12_made_100 ?_
      refine K_iald C (Nat.le_of_ble_eq_true rfl) (shM_1 G ad) dX12_made_101 ?_
      refine K_iadd C dX12_made_102 ?_
      refine K_iadd C dX12_made_103 ?_
      refine K_let rfl (fun x3_10 => ?_)
      refine K_istore_n C (lv1 := [(3, .int x3_10), (0, .ref (kad (wM G ad) 0)), (1, .int x1), (4, .int x4)]) rfl (by decide) rfl dX12_made_104 ?_
      refine K_iinc C (k := 3) (lv1 := fun x4_11 => [(4, .int x4_11), (3, .int x3_10), (0, .ref (kad (wM G ad) 0)), (1, .int x1)]) rfl (by decide) (fun _ => rfl) dX12_made_105 (fun x4_11 => ?_)
      refine K_goto C (tgt := 65) (by decide) dX12_made_108 ?_
      refine K_sub [2, 3, 1, 0] rfl ?_
      exact ih g9 x1 x3_10 x4_11
set_option maxRecDepth 100000 in
set_option maxHeartbeats 4000000 in
theorem kcl_X12_made_126 {p : Program} {l : Launch} {e : Env} {R : Room} {s : State} {m : MethodId} {args : Array Value} {below : List Frame} {meth : Method} {c : Code} {G : kG} {ad : Nat → Nat} {z : Int32 × kMem} (C : KC p l e R s m args below meth c (wM G ad) RX12 cX12_made 5 (some .int) 2 0 0)  : ∀ (n : Nat) (f : kMem) (x1 x3 x4 : Int32), K p l e R s m args below meth c (wM G ad) 5 (kQF below (wM G ad) (some .int) args s z) z 0 0 f 126 [(0, .ref (kad (wM G ad) 0)), (1, .int x1), (3, .int x3), (4, .int x4)] [] (cl_X12_made_126 n f x1 x3 x4) := by
  intro n
  induction n with
  | zero => intro f x1 x3 x4; exact K_none
  | succ n ih =>
    intro f x1 x3 x4
    unfold cl_X12_made_126
    refine K_iload C 3 rfl dX12_made_126 ?_
    refine K_bipush C (v := 6) (by decide) dX12_made_128 ?_
    refine K_icmp_ge C (tgt := 157) (by decide) dX12_made_130 ?_ ?_
    · refine K_iload_n C 2 rfl rfl dX12_made_157 ?_
      exact K_ret C rfl rfl dX12_made_158
    · refine K_iload_n C 2 rfl rfl dX12_made_133 ?_
      refine K_aload_n C 0 rfl rfl dX12_made_134 ?_
      refine K_getR C kin_X12 rfl (Nat.le_of_ble_eq_true rfl) (shM_0 G ad) 0 (by decide) (b := 1) rfl wf_X12_9 rfl dX12_made_135 ?_
      refine K_sipush C (v := 157) (by decide) dX12_made_138 ?_
      refine K_iload_n C 1 rfl rfl dX12_made_141 ?_
      refine K_iload C 3 rfl dX12_made_142 ?_
      refine K_callSi C (As := [.int x1, .int x4]) (rest := [.int 157, .ref (kad (wM G ad) 1), .int x3]) hy_X12_place wm_X12_68 (by decide) ⟨Nat.le_refl _, Nat.le_refl _⟩ (fun rr ff hh => km_X12_place l G ad f x1 x4 rr ff hh) rfl rfl (Nat.le_of_ble_eq_true rfl) rfl dX12_made_144 (fun r16 g17 => ?_)
      refine K_iadd C dX12_made_147 ?_
      refine K_iald C (Nat.le_of_ble_eq_true rfl) (shM_1 G ad) dX12_made_148 ?_
      refine K_iadd C dX12_made_149 ?_
      refine K_let rfl (fun x3_18 => ?_)
      refine K_istore_n C (lv1 := [(3, .int x3_18), (0, .ref (kad (wM G ad) 0)), (1, .int x1), (4, .int x4)]) rfl (by decide) rfl dX12_made_150 ?_
      refine K_iinc C (k := 3) (lv1 := fun x4_19 => [(4, .int x4_19), (3, .int x3_18), (0, .ref (kad (wM G ad) 0)), (1, .int x1)]) rfl (by decide) (fun _ => rfl) dX12_made_151 (fun x4_19 => ?_)
      refine K_goto C (tgt := 126) (by decide) dX12_made_154 ?_
      refine K_sub [2, 3, 1, 0] rfl ?_
      exact ih g17 x1 x3_18 x4_19
set_option maxRecDepth 100000 in
set_option maxHeartbeats 4000000 in
theorem km_X12_made (l : Launch) (G : kG) (ad : Nat → Nat) (f : kMem) (x1 x2 : Int32) (r : Int32) (fo : kMem) (h : cf_X12_made f x1 x2 = some (r, fo)) : kMet l (wM G ad) yX12_made cX12_made 5 (some .int) 2 [.ref (kad (wM G ad) 0), .int x1, .int x2] f r fo := by
  refine kMet_of (own := RX12) (lv := [(0, .ref (kad (wM G ad) 0)), (1, .int x1), (2, .int x2)]) (by decide) rfl (Nat.le_of_ble_eq_true rfl) rfl h ?_
  intro p e R s m args below meth c C
  unfold cf_X12_made
  refine K_aload_n C 0 rfl rfl dX12_made_0 ?_
  refine K_iconst C (v := 0) (by decide) dX12_made_1 ?_
  refine K_putI C kin_X12 rfl (Nat.le_of_ble_eq_true rfl) (shM_0 G ad) 18 (by decide) rfl wf_X12_45 rfl tyX12 tyX12_ok nmX12 (by decide) (ty := .int) (by decide +kernel) rfl rfl dX12_made_2 (fun g1 => ?_)
  refine K_aload_n C 0 rfl rfl dX12_made_5 ?_
  refine K_iload_n C 1 rfl rfl dX12_made_6 ?_
  refine K_callVi C (As := [.int x1]) (rest := []) (Nat.le_of_ble_eq_true rfl) (shM_0 G ad) rfl hy_X12_isPart wm_X12_83 (by decide) ⟨Nat.le_refl _, Nat.le_refl _⟩ (fun rr ff hh => km_X12_isPart l G ad g1 x1 rr ff hh) rfl rfl (Nat.le_of_ble_eq_true rfl) rfl dX12_made_7 (fun r2 g3 => ?_)
  refine K_if_ne C (tgt := 19) (by decide) dX12_made_10 ?_ ?_
  · refine K_iconst C (v := 0) (by decide) dX12_made_19 ?_
    refine K_istore_n C (lv1 := [(3, .int 0), (0, .ref (kad (wM G ad) 0)), (1, .int x1), (2, .int x2)]) rfl (by decide) rfl dX12_made_20 ?_
    refine K_iload_n C 3 rfl rfl dX12_made_21 ?_
    refine K_case (fun hc4 => ?_) (fun hc4 => ?_)
    · refine K_tin C (off := 30) (tgt := 52) (by rw [hc4]; decide) (by rw [hc4]; decide) (by rw [hc4]; decide) (by decide) dX12_made_22 ?_
      refine K_aload_n C 1 rfl rfl dX12_made_52 ?_
      refine K_getR C kin_X12 rfl (Nat.le_of_ble_eq_true rfl) (shM_0 G ad) 0 (by decide) (b := 1) rfl wf_X12_9 rfl dX12_made_53 ?_
      refine K_bipush C (v := 30) (by decide) dX12_made_56 ?_
      refine K_iload_n C 2 rfl rfl dX12_made_58 ?_
      refine K_iadd C dX12_made_59 ?_
      refine K_iald C (Nat.le_of_ble_eq_true rfl) (shM_1 G ad) dX12_made_60 ?_
      exact K_ret C rfl rfl dX12_made_61
    · refine K_case (fun hc5 => ?_) (fun hc5 => ?_)
      · refine K_tin C (off := 40) (tgt := 62) (by rw [hc5]; decide) (by rw [hc5]; decide) (by rw [hc5]; decide) (by decide) dX12_made_22 ?_
        refine K_iconst C (v := 0) (by decide) dX12_made_62 ?_
        refine K_istore C (lv1 := [(4, .int 0), (3, .int 0), (0, .ref (kad (wM G ad) 0)), (1, .int x1), (2, .int x2)]) (by decide) rfl dX12_made_63 ?_
        refine K_sub [2, 3, 1, 0] rfl ?_
        refine kcl_X12_made_65 C _ (fun g14 x1_12 x3_13 => ?_) 100 g3 x1 0 0
        refine K_iload_n C 2 rfl rfl dX12_made_111 ?_
        refine K_aload_n C 0 rfl rfl dX12_made_112 ?_
        refine K_getR C kin_X12 rfl (Nat.le_of_ble_eq_true rfl) (shM_0 G ad) 0 (by decide) (b := 1) rfl wf_X12_9 rfl dX12_made_113 ?_
        refine K_bipush C (v := 22) (by decide) dX12_made_116 ?_
        refine K_iload_n C 1 rfl rfl dX12_made_118 ?_
        refine K_iadd C dX12_made_119 ?_
        refine K_iald C (Nat.le_of_ble_eq_true rfl) (shM_1 G ad) dX12_made_120 ?_
        refine K_imul C dX12_made_121 ?_
        exact K_ret C rfl rfl dX12_made_122
      · refine K_case (fun hc15 => ?_) (fun hc15 => ?_)
        · refine K_tin C (off := 101) (tgt := 123) (by rw [hc15]; decide) (by rw [hc15]; decide) (by rw [hc15]; decide) (by decide) dX12_made_22 ?_
          refine K_iconst C (v := 0) (by decide) dX12_made_123 ?_
          refine K_istore C (lv1 := [(4, .int 0), (3, .int 0), (0, .ref (kad (wM G ad) 0)), (1, .int x1), (2, .int x2)]) (by decide) rfl dX12_made_124 ?_
          refine K_sub [2, 3, 1, 0] rfl ?_
          exact kcl_X12_made_126 C 100 g3 x1 0 0
        · refine K_case (fun hc20 => ?_) (fun hc20 => ?_)
          · refine K_tin C (off := 137) (tgt := 159) (by rw [hc20]; decide) (by rw [hc20]; decide) (by rw [hc20]; decide) (by decide) dX12_made_22 ?_
            refine K_aload_n C 1 rfl rfl dX12_made_159 ?_
            refine K_getR C kin_X12 rfl (Nat.le_of_ble_eq_true rfl) (shM_0 G ad) 0 (by decide) (b := 1) rfl wf_X12_9 rfl dX12_made_160 ?_
            refine K_bipush C (v := 38) (by decide) dX12_made_163 ?_
            refine K_iload_n C 2 rfl rfl dX12_made_165 ?_
            refine K_iadd C dX12_made_166 ?_
            refine K_iald C (Nat.le_of_ble_eq_true rfl) (shM_1 G ad) dX12_made_167 ?_
            exact K_ret C rfl rfl dX12_made_168
          · refine K_tout C (tgt := 169) (by have q0 := kne 0 (by decide) hc4; have q1 := kne 1 (by decide) hc5; have q2 := kne 2 (by decide) hc15; have q3 := kne 3 (by decide) hc20; omega) (by decide) dX12_made_22 ?_
            refine K_aload_n C 1 rfl rfl dX12_made_169 ?_
            refine K_iconst C (v := 2) (by decide) dX12_made_170 ?_
            refine K_callVi C (As := [.int 2]) (rest := []) (Nat.le_of_ble_eq_true rfl) (shM_0 G ad) rfl hy_X12_raises wm_X12_54 (by decide) ⟨Nat.le_refl _, Nat.le_refl _⟩ (fun rr ff hh => km_X12_raises l G ad g3 2 rr ff hh) rfl rfl (Nat.le_of_ble_eq_true rfl) rfl dX12_made_171 (fun r21 g22 => ?_)
            exact K_ret C rfl rfl dX12_made_174
  · refine K_aload_n C 0 rfl rfl dX12_made_13 ?_
    refine K_iconst C (v := 1) (by decide) dX12_made_14 ?_
    refine K_callVi C (As := [.int 1]) (rest := []) (Nat.le_of_ble_eq_true rfl) (shM_0 G ad) rfl hy_X12_raises wm_X12_54 (by decide) ⟨Nat.le_refl _, Nat.le_refl _⟩ (fun rr ff hh => km_X12_raises l G ad g3 1 rr ff hh) rfl rfl (Nat.le_of_ble_eq_true rfl) rfl dX12_made_15 (fun r23 g24 => ?_)
    exact K_ret C rfl rfl dX12_made_18
def cf_X12_orderOf (f : kMem) (x1 x2 : Int32) : Option (Int32 × kMem) := kmem (kup f 0 18 0) (fun g1 => kbind (cf_X12_isOrder g1 x1) (fun r2 g3 => keq r2 0 (kbind (cf_X12_raises g3 1) (fun r10 g11 => some (r10, g11))) (kbind (cf_X12_in g3 x2 0 5) (fun r4 g5 => keq r4 0 (kbind (cf_X12_raises g5 2) (fun r6 g7 => some (r6, g7))) (kbind (cf_X12_ordered g5 x1 x2) (fun r8 g9 => some (r8, g9)))))))
set_option maxRecDepth 100000 in
set_option maxHeartbeats 4000000 in
theorem km_X12_orderOf (l : Launch) (G : kG) (ad : Nat → Nat) (f : kMem) (x1 x2 : Int32) (r : Int32) (fo : kMem) (h : cf_X12_orderOf f x1 x2 = some (r, fo)) : kMet l (wM G ad) yX12_orderOf cX12_orderOf 3 (some .int) 2 [.ref (kad (wM G ad) 0), .int x1, .int x2] f r fo := by
  refine kMet_of (own := RX12) (lv := [(0, .ref (kad (wM G ad) 0)), (1, .int x1), (2, .int x2)]) (by decide) rfl (Nat.le_of_ble_eq_true rfl) rfl h ?_
  intro p e R s m args below meth c C
  unfold cf_X12_orderOf
  refine K_aload_n C 0 rfl rfl dX12_orderOf_0 ?_
  refine K_iconst C (v := 0) (by decide) dX12_orderOf_1 ?_
  refine K_putI C kin_X12 rfl (Nat.le_of_ble_eq_true rfl) (shM_0 G ad) 18 (by decide) rfl wf_X12_45 rfl tyX12 tyX12_ok nmX12 (by decide) (ty := .int) (by decide +kernel) rfl rfl dX12_orderOf_2 (fun g1 => ?_)
  refine K_aload_n C 0 rfl rfl dX12_orderOf_5 ?_
  refine K_iload_n C 1 rfl rfl dX12_orderOf_6 ?_
  refine K_callVi C (As := [.int x1]) (rest := []) (Nat.le_of_ble_eq_true rfl) (shM_0 G ad) rfl hy_X12_isOrder wm_X12_121 (by decide) ⟨Nat.le_refl _, Nat.le_refl _⟩ (fun rr ff hh => km_X12_isOrder l G ad g1 x1 rr ff hh) rfl rfl (Nat.le_of_ble_eq_true rfl) rfl dX12_orderOf_7 (fun r2 g3 => ?_)
  refine K_if_ne C (tgt := 19) (by decide) dX12_orderOf_10 ?_ ?_
  · refine K_iload_n C 2 rfl rfl dX12_orderOf_19 ?_
    refine K_iconst C (v := 0) (by decide) dX12_orderOf_20 ?_
    refine K_iconst C (v := 5) (by decide) dX12_orderOf_21 ?_
    refine K_callSi C (As := [.int x2, .int 0, .int 5]) (rest := []) hy_X12_in wm_X12_64 (by decide) ⟨Nat.le_refl _, Nat.le_refl _⟩ (fun rr ff hh => km_X12_in l G ad g3 x2 0 5 rr ff hh) rfl rfl (Nat.le_of_ble_eq_true rfl) rfl dX12_orderOf_22 (fun r4 g5 => ?_)
    refine K_if_eq C (tgt := 37) (by decide) dX12_orderOf_25 ?_ ?_
    · refine K_aload_n C 0 rfl rfl dX12_orderOf_37 ?_
      refine K_iconst C (v := 2) (by decide) dX12_orderOf_38 ?_
      refine K_callVi C (As := [.int 2]) (rest := []) (Nat.le_of_ble_eq_true rfl) (shM_0 G ad) rfl hy_X12_raises wm_X12_54 (by decide) ⟨Nat.le_refl _, Nat.le_refl _⟩ (fun rr ff hh => km_X12_raises l G ad g5 2 rr ff hh) rfl rfl (Nat.le_of_ble_eq_true rfl) rfl dX12_orderOf_39 (fun r6 g7 => ?_)
      exact K_ret C rfl rfl dX12_orderOf_42
    · refine K_aload_n C 0 rfl rfl dX12_orderOf_28 ?_
      refine K_iload_n C 1 rfl rfl dX12_orderOf_29 ?_
      refine K_iload_n C 2 rfl rfl dX12_orderOf_30 ?_
      refine K_callVi C (As := [.int x1, .int x2]) (rest := []) (Nat.le_of_ble_eq_true rfl) (shM_0 G ad) rfl hy_X12_ordered wm_X12_118 (by decide) ⟨Nat.le_refl _, Nat.le_refl _⟩ (fun rr ff hh => km_X12_ordered l G ad g5 x1 x2 rr ff hh) rfl rfl (Nat.le_of_ble_eq_true rfl) rfl dX12_orderOf_31 (fun r8 g9 => ?_)
      refine K_goto C (tgt := 42) (by decide) dX12_orderOf_34 ?_
      exact K_ret C rfl rfl dX12_orderOf_42
  · refine K_aload_n C 0 rfl rfl dX12_orderOf_13 ?_
    refine K_iconst C (v := 1) (by decide) dX12_orderOf_14 ?_
    refine K_callVi C (As := [.int 1]) (rest := []) (Nat.le_of_ble_eq_true rfl) (shM_0 G ad) rfl hy_X12_raises wm_X12_54 (by decide) ⟨Nat.le_refl _, Nat.le_refl _⟩ (fun rr ff hh => km_X12_raises l G ad g3 1 rr ff hh) rfl rfl (Nat.le_of_ble_eq_true rfl) rfl dX12_orderOf_15 (fun r10 g11 => ?_)
    exact K_ret C rfl rfl dX12_orderOf_18
def cj_X12_shots_55 (f : kMem) : Option (Int32 × kMem) := kbind (cf_X12_raises f 2) (fun r9 g10 => some (r9, g10))
def cf_X12_shots (f : kMem) (x1 : Int32) : Option (Int32 × kMem) := kmem (kup f 0 18 0) (fun g1 => kbind (cf_X12_isOrder g1 x1) (fun r2 g3 => keq r2 0 (kbind (cf_X12_raises g3 1) (fun r23 g24 => some (r23, g24))) (kbind (cf_X12_ordered g3 x1 0) (fun r4 g5 => klet (g5 1 4) (fun x3_6 => kbind (cf_X12_ordered g5 x1 4) (fun r7 g8 => keq r7 0 (klt x3_6 0 ((cj_X12_shots_55 g8)) (kbind (cf_X12_piecesOf g8 x3_6 r4) (fun r11 g12 => keq r11 0 ((cj_X12_shots_55 g12)) (kbind (cf_X12_ordered g12 x1 1) (fun r13 g14 => kbind (cf_X12_place g14 r4 r13) (fun r15 g16 => kbind (cf_X12_ordered g16 x1 2) (fun r17 g18 => kchk (kin (109 + r15) 313) (klet (r17 - (g18 1 (Int32.toNatClampNeg (109 + r15)))) (fun x5_19 => klt 0 x5_19 (kchk (kin (22 + r4) 313) (kchk (kin (157 + r15) 313) (klet ((x5_19 * (g18 1 (Int32.toNatClampNeg (22 + r4)))) - (g18 1 (Int32.toNatClampNeg (157 + r15)))) (fun x6_20 => kbind (cf_X12_piecesOf g18 x3_6 r4) (fun r21 g22 => kchk (!decide (r21 = 0)) (some ((((x6_20 + r21) - 1) / r21), g22))))))) (some (0, g18))))))))))) ((cj_X12_shots_55 g8))))))))
set_option maxRecDepth 100000 in
set_option maxHeartbeats 4000000 in
theorem kcj_X12_shots_55 {p : Program} {l : Launch} {e : Env} {R : Room} {s : State} {m : MethodId} {args : Array Value} {below : List Frame} {meth : Method} {c : Code} {G : kG} {ad : Nat → Nat} {z : Int32 × kMem} (C : KC p l e R s m args below meth c (wM G ad) RX12 cX12_shots 8 (some .int) 2 0 0)  (f : kMem) : K p l e R s m args below meth c (wM G ad) 8 (kQF below (wM G ad) (some .int) args s z) z 0 0 f 55 [(0, .ref (kad (wM G ad) 0))] [] (cj_X12_shots_55 f) := by
  unfold cj_X12_shots_55
  refine K_aload_n C 0 rfl rfl dX12_shots_55 ?_
  refine K_iconst C (v := 2) (by decide) dX12_shots_56 ?_
  refine K_callVi C (As := [.int 2]) (rest := []) (Nat.le_of_ble_eq_true rfl) (shM_0 G ad) rfl hy_X12_raises wm_X12_54 (by decide) ⟨Nat.le_refl _, Nat.le_refl _⟩ (fun rr ff hh => km_X12_raises l G ad f 2 rr ff hh) rfl rfl (Nat.le_of_ble_eq_true rfl) rfl dX12_shots_57 (fun r9 g10 => ?_)
  exact K_ret C rfl rfl dX12_shots_60
set_option maxRecDepth 100000 in
set_option maxHeartbeats 4000000 in
theorem km_X12_shots (l : Launch) (G : kG) (ad : Nat → Nat) (f : kMem) (x1 : Int32) (r : Int32) (fo : kMem) (h : cf_X12_shots f x1 = some (r, fo)) : kMet l (wM G ad) yX12_shots cX12_shots 8 (some .int) 2 [.ref (kad (wM G ad) 0), .int x1] f r fo := by
  refine kMet_of (own := RX12) (lv := [(0, .ref (kad (wM G ad) 0)), (1, .int x1)]) (by decide) rfl (Nat.le_of_ble_eq_true rfl) rfl h ?_
  intro p e R s m args below meth c C
  unfold cf_X12_shots
  refine K_aload_n C 0 rfl rfl dX12_shots_0 ?_
  refine K_iconst C (v := 0) (by decide) dX12_shots_1 ?_
  refine K_putI C kin_X12 rfl (Nat.le_of_ble_eq_true rfl) (shM_0 G ad) 18 (by decide) rfl wf_X12_45 rfl tyX12 tyX12_ok nmX12 (by decide) (ty := .int) (by decide +kernel) rfl rfl dX12_shots_2 (fun g1 => ?_)
  refine K_aload_n C 0 rfl rfl dX12_shots_5 ?_
  refine K_iload_n C 1 rfl rfl dX12_shots_6 ?_
  refine K_callVi C (As := [.int x1]) (rest := []) (Nat.le_of_ble_eq_true rfl) (shM_0 G ad) rfl hy_X12_isOrder wm_X12_121 (by decide) ⟨Nat.le_refl _, Nat.le_refl _⟩ (fun rr ff hh => km_X12_isOrder l G ad g1 x1 rr ff hh) rfl rfl (Nat.le_of_ble_eq_true rfl) rfl dX12_shots_7 (fun r2 g3 => ?_)
  refine K_if_ne C (tgt := 19) (by decide) dX12_shots_10 ?_ ?_
  · refine K_aload_n C 0 rfl rfl dX12_shots_19 ?_
    refine K_iload_n C 1 rfl rfl dX12_shots_20 ?_
    refine K_iconst C (v := 0) (by decide) dX12_shots_21 ?_
    refine K_callVi C (As := [.int x1, .int 0]) (rest := []) (Nat.le_of_ble_eq_true rfl) (shM_0 G ad) rfl hy_X12_ordered wm_X12_118 (by decide) ⟨Nat.le_refl _, Nat.le_refl _⟩ (fun rr ff hh => km_X12_ordered l G ad g3 x1 0 rr ff hh) rfl rfl (Nat.le_of_ble_eq_true rfl) rfl dX12_shots_22 (fun r4 g5 => ?_)
    refine K_istore_n C (lv1 := [(2, .int r4), (0, .ref (kad (wM G ad) 0)), (1, .int x1)]) rfl (by decide) rfl dX12_shots_25 ?_
    refine K_aload_n C 1 rfl rfl dX12_shots_26 ?_
    refine K_getR C kin_X12 rfl (Nat.le_of_ble_eq_true rfl) (shM_0 G ad) 0 (by decide) (b := 1) rfl wf_X12_9 rfl dX12_shots_27 ?_
    refine K_iconst C (v := 4) (by decide) dX12_shots_30 ?_
    refine K_ialdC C (Nat.le_of_ble_eq_true rfl) (shM_1 G ad) (kin_in (by decide)) dX12_shots_31 4 (by decide) ?_
    refine K_let rfl (fun x3_6 => ?_)
    refine K_istore_n C (lv1 := [(3, .int x3_6), (2, .int r4), (0, .ref (kad (wM G ad) 0)), (1, .int x1)]) rfl (by decide) rfl dX12_shots_32 ?_
    refine K_aload_n C 2 rfl rfl dX12_shots_33 ?_
    refine K_iload_n C 3 rfl rfl dX12_shots_34 ?_
    refine K_iconst C (v := 4) (by decide) dX12_shots_35 ?_
    refine K_callVi C (As := [.int x1, .int 4]) (rest := []) (Nat.le_of_ble_eq_true rfl) (shM_0 G ad) rfl hy_X12_ordered wm_X12_118 (by decide) ⟨Nat.le_refl _, Nat.le_refl _⟩ (fun rr ff hh => km_X12_ordered l G ad g5 x1 4 rr ff hh) rfl rfl (Nat.le_of_ble_eq_true rfl) rfl dX12_shots_36 (fun r7 g8 => ?_)
    refine K_if_ne C (tgt := 55) (by decide) dX12_shots_39 ?_ ?_
    · refine K_sub [2] rfl ?_
      exact kcj_X12_shots_55 C g8
    · refine K_iload_n C 0 rfl rfl dX12_shots_42 ?_
      refine K_if_lt C (tgt := 55) (by decide) dX12_shots_43 ?_ ?_
      · refine K_sub [2] rfl ?_
        exact kcj_X12_shots_55 C g8
      · refine K_aload_n C 2 rfl rfl dX12_shots_46 ?_
        refine K_iload_n C 0 rfl rfl dX12_shots_47 ?_
        refine K_iload_n C 1 rfl rfl dX12_shots_48 ?_
        refine K_callVi C (As := [.int x3_6, .int r4]) (rest := []) (Nat.le_of_ble_eq_true rfl) (shM_0 G ad) rfl hy_X12_piecesOf wm_X12_210 (by decide) ⟨Nat.le_refl _, Nat.le_refl _⟩ (fun rr ff hh => km_X12_piecesOf l G ad g8 x3_6 r4 rr ff hh) rfl rfl (Nat.le_of_ble_eq_true rfl) rfl dX12_shots_49 (fun r11 g12 => ?_)
        refine K_if_ne C (tgt := 61) (by decide) dX12_shots_52 ?_ ?_
        · refine K_iload_n C 1 rfl rfl dX12_shots_61 ?_
          refine K_aload_n C 2 rfl rfl dX12_shots_62 ?_
          refine K_iload_n C 3 rfl rfl dX12_shots_63 ?_
          refine K_iconst C (v := 1) (by decide) dX12_shots_64 ?_
          refine K_callVi C (As := [.int x1, .int 1]) (rest := [.int r4]) (Nat.le_of_ble_eq_true rfl) (shM_0 G ad) rfl hy_X12_ordered wm_X12_118 (by decide) ⟨Nat.le_refl _, Nat.le_refl _⟩ (fun rr ff hh => km_X12_ordered l G ad g12 x1 1 rr ff hh) rfl rfl (Nat.le_of_ble_eq_true rfl) rfl dX12_shots_65 (fun r13 g14 => ?_)
          refine K_callSi C (As := [.int r4, .int r13]) (rest := []) hy_X12_place wm_X12_68 (by decide) ⟨Nat.le_refl _, Nat.le_refl _⟩ (fun rr ff hh => km_X12_place l G ad g14 r4 r13 rr ff hh) rfl rfl (Nat.le_of_ble_eq_true rfl) rfl dX12_shots_68 (fun r15 g16 => ?_)
          refine K_istore C (lv1 := [(4, .int r15), (3, .int x3_6), (2, .int r4), (0, .ref (kad (wM G ad) 0)), (1, .int x1)]) (by decide) rfl dX12_shots_71 ?_
          refine K_aload_n C 3 rfl rfl dX12_shots_73 ?_
          refine K_iload_n C 4 rfl rfl dX12_shots_74 ?_
          refine K_iconst C (v := 2) (by decide) dX12_shots_75 ?_
          refine K_callVi C (As := [.int x1, .int 2]) (rest := []) (Nat.le_of_ble_eq_true rfl) (shM_0 G ad) rfl hy_X12_ordered wm_X12_118 (by decide) ⟨Nat.le_refl _, Nat.le_refl _⟩ (fun rr ff hh => km_X12_ordered l G ad g16 x1 2 rr ff hh) rfl rfl (Nat.le_of_ble_eq_true rfl) rfl dX12_shots_76 (fun r17 g18 => ?_)
          refine K_aload_n C 3 rfl rfl dX12_shots_79 ?_
          refine K_getR C kin_X12 rfl (Nat.le_of_ble_eq_true rfl) (shM_0 G ad) 0 (by decide) (b := 1) rfl wf_X12_9 rfl dX12_shots_80 ?_
          refine K_bipush C (v := 109) (by decide) dX12_shots_83 ?_
          refine K_iload C 0 rfl dX12_shots_85 ?_
          refine K_iadd C dX12_shots_87 ?_
          refine K_iald C (Nat.le_of_ble_eq_true rfl) (shM_1 G ad) dX12_shots_88 ?_
          refine K_isub C dX12_shots_89 ?_
          refine K_let rfl (fun x5_19 => ?_)
          refine K_istore C (lv1 := [(5, .int x5_19), (4, .int r15), (3, .int x3_6), (2, .int r4), (0, .ref (kad (wM G ad) 0)), (1, .int x1)]) (by decide) rfl dX12_shots_90 ?_
          refine K_iload C 0 rfl dX12_shots_92 ?_
          refine K_if_gt C (tgt := 99) (by decide) dX12_shots_94 ?_ ?_
          · refine K_iload C 0 rfl dX12_shots_99 ?_
            refine K_aload_n C 4 rfl rfl dX12_shots_101 ?_
            refine K_getR C kin_X12 rfl (Nat.le_of_ble_eq_true rfl) (shM_0 G ad) 0 (by decide) (b := 1) rfl wf_X12_9 rfl dX12_shots_102 ?_
            refine K_bipush C (v := 22) (by decide) dX12_shots_105 ?_
            refine K_iload_n C 3 rfl rfl dX12_shots_107 ?_
            refine K_iadd C dX12_shots_108 ?_
            refine K_iald C (Nat.le_of_ble_eq_true rfl) (shM_1 G ad) dX12_shots_109 ?_
            refine K_imul C dX12_shots_110 ?_
            refine K_aload_n C 4 rfl rfl dX12_shots_111 ?_
            refine K_getR C kin_X12 rfl (Nat.le_of_ble_eq_true rfl) (shM_0 G ad) 0 (by decide) (b := 1) rfl wf_X12_9 rfl dX12_shots_112 ?_
            refine K_sipush C (v := 157) (by decide) dX12_shots_115 ?_
            refine K_iload C 1 rfl dX12_shots_118 ?_
            refine K_iadd C dX12_shots_120 ?_
            refine K_iald C (Nat.le_of_ble_eq_true rfl) (shM_1 G ad) dX12_shots_121 ?_
            refine K_isub C dX12_shots_122 ?_
            refine K_let rfl (fun x6_20 => ?_)
            refine K_istore C (lv1 := [(6, .int x6_20), (5, .int x5_19), (4, .int r15), (3, .int x3_6), (2, .int r4), (0, .ref (kad (wM G ad) 0)), (1, .int x1)]) (by decide) rfl dX12_shots_123 ?_
            refine K_aload_n C 5 rfl rfl dX12_shots_125 ?_
            refine K_iload_n C 3 rfl rfl dX12_shots_126 ?_
            refine K_iload_n C 4 rfl rfl dX12_shots_127 ?_
            refine K_callVi C (As := [.int x3_6, .int r4]) (rest := []) (Nat.le_of_ble_eq_true rfl) (shM_0 G ad) rfl hy_X12_piecesOf wm_X12_210 (by decide) ⟨Nat.le_refl _, Nat.le_refl _⟩ (fun rr ff hh => km_X12_piecesOf l G ad g18 x3_6 r4 rr ff hh) rfl rfl (Nat.le_of_ble_eq_true rfl) rfl dX12_shots_128 (fun r21 g22 => ?_)
            refine K_istore C (lv1 := [(7, .int r21), (6, .int x6_20), (5, .int x5_19), (4, .int r15), (3, .int x3_6), (2, .int r4), (0, .ref (kad (wM G ad) 0)), (1, .int x1)]) (by decide) rfl dX12_shots_131 ?_
            refine K_iload C 1 rfl dX12_shots_133 ?_
            refine K_iload C 0 rfl dX12_shots_135 ?_
            refine K_iadd C dX12_shots_137 ?_
            refine K_iconst C (v := 1) (by decide) dX12_shots_138 ?_
            refine K_isub C dX12_shots_139 ?_
            refine K_iload C 0 rfl dX12_shots_140 ?_
            refine K_idiv C dX12_shots_142 ?_
            exact K_ret C rfl rfl dX12_shots_143
          · refine K_iconst C (v := 0) (by decide) dX12_shots_97 ?_
            exact K_ret C rfl rfl dX12_shots_98
        · refine K_sub [2] rfl ?_
          exact kcj_X12_shots_55 C g12
  · refine K_aload_n C 0 rfl rfl dX12_shots_13 ?_
    refine K_iconst C (v := 1) (by decide) dX12_shots_14 ?_
    refine K_callVi C (As := [.int 1]) (rest := []) (Nat.le_of_ble_eq_true rfl) (shM_0 G ad) rfl hy_X12_raises wm_X12_54 (by decide) ⟨Nat.le_refl _, Nat.le_refl _⟩ (fun rr ff hh => km_X12_raises l G ad g3 1 rr ff hh) rfl rfl (Nat.le_of_ble_eq_true rfl) rfl dX12_shots_15 (fun r23 g24 => ?_)
    exact K_ret C rfl rfl dX12_shots_18
def cf_X12_letter (f : kMem) (x1 : Int32) : Option (Int32 × kMem) := kmem (kup f 0 18 0) (fun g1 => kbind (cf_X12_isOrder g1 x1) (fun r2 g3 => keq r2 0 (kbind (cf_X12_raises g3 1) (fun r10 g11 => some ((Int32.toUInt32 r10 % 65536).toInt32, g11))) (kbind (cf_X12_ordered g3 x1 4) (fun r4 g5 => keq r4 0 (kbind (cf_X12_ordered g5 x1 5) (fun r7 g8 => kle r7 0 (some (111, g8)) (some (108, g8)))) (keq r4 1 (some (100, g5)) (some (99, g5)))))))
set_option maxRecDepth 100000 in
set_option maxHeartbeats 4000000 in
theorem km_X12_letter (l : Launch) (G : kG) (ad : Nat → Nat) (f : kMem) (x1 : Int32) (r : Int32) (fo : kMem) (h : cf_X12_letter f x1 = some (r, fo)) : kMet l (wM G ad) yX12_letter cX12_letter 2 (some .char) 2 [.ref (kad (wM G ad) 0), .int x1] f r fo := by
  refine kMet_of (own := RX12) (lv := [(0, .ref (kad (wM G ad) 0)), (1, .int x1)]) (by decide) rfl (Nat.le_of_ble_eq_true rfl) rfl h ?_
  intro p e R s m args below meth c C
  unfold cf_X12_letter
  refine K_aload_n C 0 rfl rfl dX12_letter_0 ?_
  refine K_iconst C (v := 0) (by decide) dX12_letter_1 ?_
  refine K_putI C kin_X12 rfl (Nat.le_of_ble_eq_true rfl) (shM_0 G ad) 18 (by decide) rfl wf_X12_45 rfl tyX12 tyX12_ok nmX12 (by decide) (ty := .int) (by decide +kernel) rfl rfl dX12_letter_2 (fun g1 => ?_)
  refine K_aload_n C 0 rfl rfl dX12_letter_5 ?_
  refine K_iload_n C 1 rfl rfl dX12_letter_6 ?_
  refine K_callVi C (As := [.int x1]) (rest := []) (Nat.le_of_ble_eq_true rfl) (shM_0 G ad) rfl hy_X12_isOrder wm_X12_121 (by decide) ⟨Nat.le_refl _, Nat.le_refl _⟩ (fun rr ff hh => km_X12_isOrder l G ad g1 x1 rr ff hh) rfl rfl (Nat.le_of_ble_eq_true rfl) rfl dX12_letter_7 (fun r2 g3 => ?_)
  refine K_if_ne C (tgt := 20) (by decide) dX12_letter_10 ?_ ?_
  · refine K_aload_n C 0 rfl rfl dX12_letter_20 ?_
    refine K_iload_n C 1 rfl rfl dX12_letter_21 ?_
    refine K_iconst C (v := 4) (by decide) dX12_letter_22 ?_
    refine K_callVi C (As := [.int x1, .int 4]) (rest := []) (Nat.le_of_ble_eq_true rfl) (shM_0 G ad) rfl hy_X12_ordered wm_X12_118 (by decide) ⟨Nat.le_refl _, Nat.le_refl _⟩ (fun rr ff hh => km_X12_ordered l G ad g3 x1 4 rr ff hh) rfl rfl (Nat.le_of_ble_eq_true rfl) rfl dX12_letter_23 (fun r4 g5 => ?_)
    refine K_case (fun hc6 => ?_) (fun hc6 => ?_)
    · refine K_lsw C (off := 26) (tgt := 52) (by decide) (by rw [hc6]; decide) (by decide) dX12_letter_26 ?_
      refine K_aload_n C 0 rfl rfl dX12_letter_52 ?_
      refine K_iload_n C 1 rfl rfl dX12_letter_53 ?_
      refine K_iconst C (v := 5) (by decide) dX12_letter_54 ?_
      refine K_callVi C (As := [.int x1, .int 5]) (rest := []) (Nat.le_of_ble_eq_true rfl) (shM_0 G ad) rfl hy_X12_ordered wm_X12_118 (by decide) ⟨Nat.le_refl _, Nat.le_refl _⟩ (fun rr ff hh => km_X12_ordered l G ad g5 x1 5 rr ff hh) rfl rfl (Nat.le_of_ble_eq_true rfl) rfl dX12_letter_55 (fun r7 g8 => ?_)
      refine K_if_le C (tgt := 66) (by decide) dX12_letter_58 ?_ ?_
      · refine K_bipush C (v := 111) (by decide) dX12_letter_66 ?_
        exact K_ret C rfl (by decide) dX12_letter_68
      · refine K_bipush C (v := 108) (by decide) dX12_letter_61 ?_
        refine K_goto C (tgt := 68) (by decide) dX12_letter_63 ?_
        exact K_ret C rfl (by decide) dX12_letter_68
    · refine K_case (fun hc9 => ?_) (fun hc9 => ?_)
      · refine K_lsw C (off := 43) (tgt := 69) (by decide) (by rw [hc9]; decide) (by decide) dX12_letter_26 ?_
        refine K_bipush C (v := 100) (by decide) dX12_letter_69 ?_
        exact K_ret C rfl (by decide) dX12_letter_71
      · refine K_lsw C (off := 46) (tgt := 72) (by decide) (by have q0 := kne 0 (by decide) hc6; have q1 := kne 1 (by decide) hc9; simp [Op.lookupswitch.offset, Ne.symm q0, Ne.symm q1]) (by decide) dX12_letter_26 ?_
        refine K_bipush C (v := 99) (by decide) dX12_letter_72 ?_
        exact K_ret C rfl (by decide) dX12_letter_74
  · refine K_aload_n C 0 rfl rfl dX12_letter_13 ?_
    refine K_iconst C (v := 1) (by decide) dX12_letter_14 ?_
    refine K_callVi C (As := [.int 1]) (rest := []) (Nat.le_of_ble_eq_true rfl) (shM_0 G ad) rfl hy_X12_raises wm_X12_54 (by decide) ⟨Nat.le_refl _, Nat.le_refl _⟩ (fun rr ff hh => km_X12_raises l G ad g3 1 rr ff hh) rfl rfl (Nat.le_of_ble_eq_true rfl) rfl dX12_letter_15 (fun r10 g11 => ?_)
    refine K_i2c C dX12_letter_18 ?_
    exact K_ret C rfl (pk_nc _) dX12_letter_19
def cl_X12_due_19 : Nat → kMem → Int32 → Int32 → Int32 → Option (Int32 × kMem)
  | 0, _, _, _, _ => none
  | n + 1, f, x1, x2, x3 => kle (f 1 3) x3 (some (x2, f)) (kbind (cf_X12_ordered f x3 4) (fun r2 g3 => keq r2 0 (kbind (cf_X12_ordered g3 x3 3) (fun r5 g6 => klt x1 r5 (klet (x3 + Int32.ofInt 1) (fun x3_7 => ((cl_X12_due_19 n) g6 x1 x2 x3_7))) (klet (x2 ||| (1 <<< (x3 &&& 31))) (fun x2_8 => klet (x3 + Int32.ofInt 1) (fun x3_9 => ((cl_X12_due_19 n) g6 x1 x2_8 x3_9)))))) (klet (x3 + Int32.ofInt 1) (fun x3_4 => ((cl_X12_due_19 n) g3 x1 x2 x3_4)))))
def cf_X12_due (f : kMem) (x1 : Int32) : Option (Int32 × kMem) := kmem (kup f 0 18 0) (fun g1 => kle 0 x1 ((cl_X12_due_19 100 g1 x1 0 0)) (kbind (cf_X12_raises g1 1) (fun r10 g11 => some (r10, g11))))
set_option maxRecDepth 100000 in
set_option maxHeartbeats 4000000 in
theorem kcl_X12_due_19 {p : Program} {l : Launch} {e : Env} {R : Room} {s : State} {m : MethodId} {args : Array Value} {below : List Frame} {meth : Method} {c : Code} {G : kG} {ad : Nat → Nat} {z : Int32 × kMem} (C : KC p l e R s m args below meth c (wM G ad) RX12 cX12_due 4 (some .int) 1 0 0)  : ∀ (n : Nat) (f : kMem) (x1 x2 x3 : Int32), K p l e R s m args below meth c (wM G ad) 4 (kQF below (wM G ad) (some .int) args s z) z 0 0 f 19 [(0, .ref (kad (wM G ad) 0)), (1, .int x1), (2, .int x2), (3, .int x3)] [] (cl_X12_due_19 n f x1 x2 x3) := by
  intro n
  induction n with
  | zero => intro f x1 x2 x3; exact K_none
  | succ n ih =>
    intro f x1 x2 x3
    unfold cl_X12_due_19
    refine K_iload_n C 3 rfl rfl dX12_due_19 ?_
    refine K_aload_n C 0 rfl rfl dX12_due_20 ?_
    refine K_getR C kin_X12 rfl (Nat.le_of_ble_eq_true rfl) (shM_0 G ad) 0 (by decide) (b := 1) rfl wf_X12_9 rfl dX12_due_21 ?_
    refine K_iconst C (v := 3) (by decide) dX12_due_24 ?_
    refine K_ialdC C (Nat.le_of_ble_eq_true rfl) (shM_1 G ad) (kin_in (by decide)) dX12_due_25 3 (by decide) ?_
    refine K_icmp_ge C (tgt := 60) (by decide) dX12_due_26 ?_ ?_
    · refine K_iload_n C 2 rfl rfl dX12_due_60 ?_
      exact K_ret C rfl rfl dX12_due_61
    · refine K_aload_n C 0 rfl rfl dX12_due_29 ?_
      refine K_iload_n C 3 rfl rfl dX12_due_30 ?_
      refine K_iconst C (v := 4) (by decide) dX12_due_31 ?_
      refine K_callVi C (As := [.int x3, .int 4]) (rest := []) (Nat.le_of_ble_eq_true rfl) (shM_0 G ad) rfl hy_X12_ordered wm_X12_118 (by decide) ⟨Nat.le_refl _, Nat.le_refl _⟩ (fun rr ff hh => km_X12_ordered l G ad f x3 4 rr ff hh) rfl rfl (Nat.le_of_ble_eq_true rfl) rfl dX12_due_32 (fun r2 g3 => ?_)
      refine K_if_ne C (tgt := 54) (by decide) dX12_due_35 ?_ ?_
      · refine K_iinc C (k := 3) (lv1 := fun x3_4 => [(3, .int x3_4), (0, .ref (kad (wM G ad) 0)), (1, .int x1), (2, .int x2)]) rfl (by decide) (fun _ => rfl) dX12_due_54 (fun x3_4 => ?_)
        refine K_goto C (tgt := 19) (by decide) dX12_due_57 ?_
        refine K_sub [1, 2, 3, 0] rfl ?_
        exact ih g3 x1 x2 x3_4
      · refine K_aload_n C 0 rfl rfl dX12_due_38 ?_
        refine K_iload_n C 3 rfl rfl dX12_due_39 ?_
        refine K_iconst C (v := 3) (by decide) dX12_due_40 ?_
        refine K_callVi C (As := [.int x3, .int 3]) (rest := []) (Nat.le_of_ble_eq_true rfl) (shM_0 G ad) rfl hy_X12_ordered wm_X12_118 (by decide) ⟨Nat.le_refl _, Nat.le_refl _⟩ (fun rr ff hh => km_X12_ordered l G ad g3 x3 3 rr ff hh) rfl rfl (Nat.le_of_ble_eq_true rfl) rfl dX12_due_41 (fun r5 g6 => ?_)
        refine K_iload_n C 1 rfl rfl dX12_due_44 ?_
        refine K_icmp_gt C (tgt := 54) (by decide) dX12_due_45 ?_ ?_
        · refine K_iinc C (k := 3) (lv1 := fun x3_7 => [(3, .int x3_7), (0, .ref (kad (wM G ad) 0)), (1, .int x1), (2, .int x2)]) rfl (by decide) (fun _ => rfl) dX12_due_54 (fun x3_7 => ?_)
          refine K_goto C (tgt := 19) (by decide) dX12_due_57 ?_
          refine K_sub [1, 2, 3, 0] rfl ?_
          exact ih g6 x1 x2 x3_7
        · refine K_iload_n C 2 rfl rfl dX12_due_48 ?_
          refine K_iconst C (v := 1) (by decide) dX12_due_49 ?_
          refine K_iload_n C 3 rfl rfl dX12_due_50 ?_
          refine K_ishl C dX12_due_51 ?_
          refine K_ior C dX12_due_52 ?_
          refine K_let rfl (fun x2_8 => ?_)
          refine K_istore_n C (lv1 := [(2, .int x2_8), (0, .ref (kad (wM G ad) 0)), (1, .int x1), (3, .int x3)]) rfl (by decide) rfl dX12_due_53 ?_
          refine K_iinc C (k := 3) (lv1 := fun x3_9 => [(3, .int x3_9), (2, .int x2_8), (0, .ref (kad (wM G ad) 0)), (1, .int x1)]) rfl (by decide) (fun _ => rfl) dX12_due_54 (fun x3_9 => ?_)
          refine K_goto C (tgt := 19) (by decide) dX12_due_57 ?_
          refine K_sub [2, 3, 1, 0] rfl ?_
          exact ih g6 x1 x2_8 x3_9
set_option maxRecDepth 100000 in
set_option maxHeartbeats 4000000 in
theorem km_X12_due (l : Launch) (G : kG) (ad : Nat → Nat) (f : kMem) (x1 : Int32) (r : Int32) (fo : kMem) (h : cf_X12_due f x1 = some (r, fo)) : kMet l (wM G ad) yX12_due cX12_due 4 (some .int) 1 [.ref (kad (wM G ad) 0), .int x1] f r fo := by
  refine kMet_of (own := RX12) (lv := [(0, .ref (kad (wM G ad) 0)), (1, .int x1)]) (by decide) rfl (Nat.le_of_ble_eq_true rfl) rfl h ?_
  intro p e R s m args below meth c C
  unfold cf_X12_due
  refine K_aload_n C 0 rfl rfl dX12_due_0 ?_
  refine K_iconst C (v := 0) (by decide) dX12_due_1 ?_
  refine K_putI C kin_X12 rfl (Nat.le_of_ble_eq_true rfl) (shM_0 G ad) 18 (by decide) rfl wf_X12_45 rfl tyX12 tyX12_ok nmX12 (by decide) (ty := .int) (by decide +kernel) rfl rfl dX12_due_2 (fun g1 => ?_)
  refine K_iload_n C 1 rfl rfl dX12_due_5 ?_
  refine K_if_ge C (tgt := 15) (by decide) dX12_due_6 ?_ ?_
  · refine K_iconst C (v := 0) (by decide) dX12_due_15 ?_
    refine K_istore_n C (lv1 := [(2, .int 0), (0, .ref (kad (wM G ad) 0)), (1, .int x1)]) rfl (by decide) rfl dX12_due_16 ?_
    refine K_iconst C (v := 0) (by decide) dX12_due_17 ?_
    refine K_istore_n C (lv1 := [(3, .int 0), (2, .int 0), (0, .ref (kad (wM G ad) 0)), (1, .int x1)]) rfl (by decide) rfl dX12_due_18 ?_
    refine K_sub [2, 3, 1, 0] rfl ?_
    exact kcl_X12_due_19 C 100 g1 x1 0 0
  · refine K_aload_n C 0 rfl rfl dX12_due_9 ?_
    refine K_iconst C (v := 1) (by decide) dX12_due_10 ?_
    refine K_callVi C (As := [.int 1]) (rest := []) (Nat.le_of_ble_eq_true rfl) (shM_0 G ad) rfl hy_X12_raises wm_X12_54 (by decide) ⟨Nat.le_refl _, Nat.le_refl _⟩ (fun rr ff hh => km_X12_raises l G ad g1 1 rr ff hh) rfl rfl (Nat.le_of_ble_eq_true rfl) rfl dX12_due_11 (fun r10 g11 => ?_)
    exact K_ret C rfl rfl dX12_due_14
def cf_X12_reason (f : kMem) (x1 x2 : Int32) : Option (Int32 × kMem) := kmem (kup f 0 18 0) (fun g1 => kle 0 x1 (klt x1 (g1 0 10) (keq x2 0 (kchk (kin x1 3) (some ((g1 6 (Int32.toNatClampNeg x1)), g1))) (kchk (kin x1 3) (some ((g1 7 (Int32.toNatClampNeg x1)), g1)))) (kbind (cf_X12_raises g1 2) (fun r2 g3 => some (r2, g3)))) (kbind (cf_X12_raises g1 1) (fun r4 g5 => some (r4, g5))))
set_option maxRecDepth 100000 in
set_option maxHeartbeats 4000000 in
theorem km_X12_reason (l : Launch) (G : kG) (ad : Nat → Nat) (f : kMem) (x1 x2 : Int32) (r : Int32) (fo : kMem) (h : cf_X12_reason f x1 x2 = some (r, fo)) : kMet l (wM G ad) yX12_reason cX12_reason 3 (some .int) 1 [.ref (kad (wM G ad) 0), .int x1, .int x2] f r fo := by
  refine kMet_of (own := RX12) (lv := [(0, .ref (kad (wM G ad) 0)), (1, .int x1), (2, .int x2)]) (by decide) rfl (Nat.le_of_ble_eq_true rfl) rfl h ?_
  intro p e R s m args below meth c C
  unfold cf_X12_reason
  refine K_aload_n C 0 rfl rfl dX12_reason_0 ?_
  refine K_iconst C (v := 0) (by decide) dX12_reason_1 ?_
  refine K_putI C kin_X12 rfl (Nat.le_of_ble_eq_true rfl) (shM_0 G ad) 18 (by decide) rfl wf_X12_45 rfl tyX12 tyX12_ok nmX12 (by decide) (ty := .int) (by decide +kernel) rfl rfl dX12_reason_2 (fun g1 => ?_)
  refine K_iload_n C 1 rfl rfl dX12_reason_5 ?_
  refine K_if_ge C (tgt := 15) (by decide) dX12_reason_6 ?_ ?_
  · refine K_iload_n C 1 rfl rfl dX12_reason_15 ?_
    refine K_aload_n C 0 rfl rfl dX12_reason_16 ?_
    refine K_getI C kin_X12 rfl (Nat.le_of_ble_eq_true rfl) (shM_0 G ad) 10 (by decide) rfl wf_X12_51 rfl dX12_reason_17 ?_
    refine K_icmp_lt C (tgt := 29) (by decide) dX12_reason_20 ?_ ?_
    · refine K_iload_n C 2 rfl rfl dX12_reason_29 ?_
      refine K_if_eq C (tgt := 42) (by decide) dX12_reason_30 ?_ ?_
      · refine K_aload_n C 0 rfl rfl dX12_reason_42 ?_
        refine K_getR C kin_X12 rfl (Nat.le_of_ble_eq_true rfl) (shM_0 G ad) 11 (by decide) (b := 6) rfl wf_X12_30 rfl dX12_reason_43 ?_
        refine K_iload_n C 1 rfl rfl dX12_reason_46 ?_
        refine K_iald C (Nat.le_of_ble_eq_true rfl) (shM_6 G ad) dX12_reason_47 ?_
        exact K_ret C rfl rfl dX12_reason_48
      · refine K_aload_n C 0 rfl rfl dX12_reason_33 ?_
        refine K_getR C kin_X12 rfl (Nat.le_of_ble_eq_true rfl) (shM_0 G ad) 12 (by decide) (b := 7) rfl wf_X12_33 rfl dX12_reason_34 ?_
        refine K_iload_n C 1 rfl rfl dX12_reason_37 ?_
        refine K_iald C (Nat.le_of_ble_eq_true rfl) (shM_7 G ad) dX12_reason_38 ?_
        refine K_goto C (tgt := 48) (by decide) dX12_reason_39 ?_
        exact K_ret C rfl rfl dX12_reason_48
    · refine K_aload_n C 0 rfl rfl dX12_reason_23 ?_
      refine K_iconst C (v := 2) (by decide) dX12_reason_24 ?_
      refine K_callVi C (As := [.int 2]) (rest := []) (Nat.le_of_ble_eq_true rfl) (shM_0 G ad) rfl hy_X12_raises wm_X12_54 (by decide) ⟨Nat.le_refl _, Nat.le_refl _⟩ (fun rr ff hh => km_X12_raises l G ad g1 2 rr ff hh) rfl rfl (Nat.le_of_ble_eq_true rfl) rfl dX12_reason_25 (fun r2 g3 => ?_)
      exact K_ret C rfl rfl dX12_reason_28
  · refine K_aload_n C 0 rfl rfl dX12_reason_9 ?_
    refine K_iconst C (v := 1) (by decide) dX12_reason_10 ?_
    refine K_callVi C (As := [.int 1]) (rest := []) (Nat.le_of_ble_eq_true rfl) (shM_0 G ad) rfl hy_X12_raises wm_X12_54 (by decide) ⟨Nat.le_refl _, Nat.le_refl _⟩ (fun rr ff hh => km_X12_raises l G ad g1 1 rr ff hh) rfl rfl (Nat.le_of_ble_eq_true rfl) rfl dX12_reason_11 (fun r4 g5 => ?_)
    exact K_ret C rfl rfl dX12_reason_14
def cl_X12_account_165 : Nat → kMem → Int32 → Int32 → Option (Int32 × kMem)
  | 0, _, _, _ => none
  | n + 1, f, x2, x3 => kle 3 x3 (some (x2, f)) (kchk (kin ((100 + (3 * x3)) + 1) 313) (klet (x2 + (f 1 (Int32.toNatClampNeg ((100 + (3 * x3)) + 1)))) (fun x2_14 => klet (x3 + Int32.ofInt 1) (fun x3_15 => ((cl_X12_account_165 n) f x2_14 x3_15)))))
def cf_X12_account (f : kMem) (x1 : Int32) : Option (Int32 × kMem) := kmem (kup f 0 18 0) (fun g1 => keq x1 0 (some ((g1 1 0), g1)) (keq x1 1 (some ((g1 1 1), g1)) (keq x1 2 (some ((g1 1 2), g1)) (keq x1 3 (some ((g1 1 3), g1)) (keq x1 4 (kbind (cf_X12_opens g1) (fun r7 g8 => some (r7, g8))) (keq x1 5 (some ((g1 1 6), g1)) (keq x1 6 (some ((g1 1 7), g1)) (keq x1 7 (some ((g1 1 5), g1)) (keq x1 8 (some ((g1 1 4), g1)) (keq x1 9 ((cl_X12_account_165 100 g1 0 0)) (keq x1 10 (some ((g1 1 9), g1)) (keq x1 11 (some ((g1 1 10), g1)) (keq x1 12 (some ((g1 1 11), g1)) (keq x1 13 (some ((g1 0 3), g1)) (keq x1 14 (some ((g1 0 7), g1)) (keq x1 15 (kchk (kin ((12 + x1) - 15) 313) (some ((g1 1 (Int32.toNatClampNeg ((12 + x1) - 15))), g1))) (keq x1 16 (kchk (kin ((12 + x1) - 15) 313) (some ((g1 1 (Int32.toNatClampNeg ((12 + x1) - 15))), g1))) (keq x1 17 (kchk (kin ((12 + x1) - 15) 313) (some ((g1 1 (Int32.toNatClampNeg ((12 + x1) - 15))), g1))) (keq x1 18 (kchk (kin ((12 + x1) - 15) 313) (some ((g1 1 (Int32.toNatClampNeg ((12 + x1) - 15))), g1))) (kbind (cf_X12_raises g1 1) (fun r25 g26 => some (r25, g26))))))))))))))))))))))
set_option maxRecDepth 100000 in
set_option maxHeartbeats 4000000 in
theorem kcl_X12_account_165 {p : Program} {l : Launch} {e : Env} {R : Room} {s : State} {m : MethodId} {args : Array Value} {below : List Frame} {meth : Method} {c : Code} {G : kG} {ad : Nat → Nat} {z : Int32 × kMem} (C : KC p l e R s m args below meth c (wM G ad) RX12 cX12_account 4 (some .int) 2 0 0)  : ∀ (n : Nat) (f : kMem) (x2 x3 : Int32), K p l e R s m args below meth c (wM G ad) 4 (kQF below (wM G ad) (some .int) args s z) z 0 0 f 165 [(0, .ref (kad (wM G ad) 0)), (2, .int x2), (3, .int x3)] [] (cl_X12_account_165 n f x2 x3) := by
  intro n
  induction n with
  | zero => intro f x2 x3; exact K_none
  | succ n ih =>
    intro f x2 x3
    unfold cl_X12_account_165
    refine K_iload_n C 2 rfl rfl dX12_account_165 ?_
    refine K_iconst C (v := 3) (by decide) dX12_account_166 ?_
    refine K_icmp_ge C (tgt := 192) (by decide) dX12_account_167 ?_ ?_
    · refine K_iload_n C 1 rfl rfl dX12_account_192 ?_
      exact K_ret C rfl rfl dX12_account_193
    · refine K_iload_n C 1 rfl rfl dX12_account_170 ?_
      refine K_aload_n C 0 rfl rfl dX12_account_171 ?_
      refine K_getR C kin_X12 rfl (Nat.le_of_ble_eq_true rfl) (shM_0 G ad) 0 (by decide) (b := 1) rfl wf_X12_9 rfl dX12_account_172 ?_
      refine K_bipush C (v := 100) (by decide) dX12_account_175 ?_
      refine K_iconst C (v := 3) (by decide) dX12_account_177 ?_
      refine K_iload_n C 2 rfl rfl dX12_account_178 ?_
      refine K_imul C dX12_account_179 ?_
      refine K_iadd C dX12_account_180 ?_
      refine K_iconst C (v := 1) (by decide) dX12_account_181 ?_
      refine K_iadd C dX12_account_182 ?_
      refine K_iald C (Nat.le_of_ble_eq_true rfl) (shM_1 G ad) dX12_account_183 ?_
      refine K_iadd C dX12_account_184 ?_
      refine K_let rfl (fun x2_14 => ?_)
      refine K_istore_n C (lv1 := [(2, .int x2_14), (0, .ref (kad (wM G ad) 0)), (3, .int x3)]) rfl (by decide) rfl dX12_account_185 ?_
      refine K_iinc C (k := 2) (lv1 := fun x3_15 => [(3, .int x3_15), (2, .int x2_14), (0, .ref (kad (wM G ad) 0))]) rfl (by decide) (fun _ => rfl) dX12_account_186 (fun x3_15 => ?_)
      refine K_goto C (tgt := 165) (by decide) dX12_account_189 ?_
      refine K_sub [2, 1, 0] rfl ?_
      exact ih f x2_14 x3_15
set_option maxRecDepth 100000 in
set_option maxHeartbeats 4000000 in
theorem km_X12_account (l : Launch) (G : kG) (ad : Nat → Nat) (f : kMem) (x1 : Int32) (r : Int32) (fo : kMem) (h : cf_X12_account f x1 = some (r, fo)) : kMet l (wM G ad) yX12_account cX12_account 4 (some .int) 2 [.ref (kad (wM G ad) 0), .int x1] f r fo := by
  refine kMet_of (own := RX12) (lv := [(0, .ref (kad (wM G ad) 0)), (1, .int x1)]) (by decide) rfl (Nat.le_of_ble_eq_true rfl) rfl h ?_
  intro p e R s m args below meth c C
  unfold cf_X12_account
  refine K_aload_n C 0 rfl rfl dX12_account_0 ?_
  refine K_iconst C (v := 0) (by decide) dX12_account_1 ?_
  refine K_putI C kin_X12 rfl (Nat.le_of_ble_eq_true rfl) (shM_0 G ad) 18 (by decide) rfl wf_X12_45 rfl tyX12 tyX12_ok nmX12 (by decide) (ty := .int) (by decide +kernel) rfl rfl dX12_account_2 (fun g1 => ?_)
  refine K_iconst C (v := 0) (by decide) dX12_account_5 ?_
  refine K_istore_n C (lv1 := [(2, .int 0), (0, .ref (kad (wM G ad) 0)), (1, .int x1)]) rfl (by decide) rfl dX12_account_6 ?_
  refine K_iload_n C 2 rfl rfl dX12_account_7 ?_
  refine K_case (fun hc2 => ?_) (fun hc2 => ?_)
  · refine K_tin C (off := 92) (tgt := 100) (by rw [hc2]; decide) (by rw [hc2]; decide) (by rw [hc2]; decide) (by decide) dX12_account_8 ?_
    refine K_aload_n C 1 rfl rfl dX12_account_100 ?_
    refine K_getR C kin_X12 rfl (Nat.le_of_ble_eq_true rfl) (shM_0 G ad) 0 (by decide) (b := 1) rfl wf_X12_9 rfl dX12_account_101 ?_
    refine K_iconst C (v := 0) (by decide) dX12_account_104 ?_
    refine K_ialdC C (Nat.le_of_ble_eq_true rfl) (shM_1 G ad) (kin_in (by decide)) dX12_account_105 0 (by decide) ?_
    exact K_ret C rfl rfl dX12_account_106
  · refine K_case (fun hc3 => ?_) (fun hc3 => ?_)
    · refine K_tin C (off := 99) (tgt := 107) (by rw [hc3]; decide) (by rw [hc3]; decide) (by rw [hc3]; decide) (by decide) dX12_account_8 ?_
      refine K_aload_n C 1 rfl rfl dX12_account_107 ?_
      refine K_getR C kin_X12 rfl (Nat.le_of_ble_eq_true rfl) (shM_0 G ad) 0 (by decide) (b := 1) rfl wf_X12_9 rfl dX12_account_108 ?_
      refine K_iconst C (v := 1) (by decide) dX12_account_111 ?_
      refine K_ialdC C (Nat.le_of_ble_eq_true rfl) (shM_1 G ad) (kin_in (by decide)) dX12_account_112 1 (by decide) ?_
      exact K_ret C rfl rfl dX12_account_113
    · refine K_case (fun hc4 => ?_) (fun hc4 => ?_)
      · refine K_tin C (off := 106) (tgt := 114) (by rw [hc4]; decide) (by rw [hc4]; decide) (by rw [hc4]; decide) (by decide) dX12_account_8 ?_
        refine K_aload_n C 1 rfl rfl dX12_account_114 ?_
        refine K_getR C kin_X12 rfl (Nat.le_of_ble_eq_true rfl) (shM_0 G ad) 0 (by decide) (b := 1) rfl wf_X12_9 rfl dX12_account_115 ?_
        refine K_iconst C (v := 2) (by decide) dX12_account_118 ?_
        refine K_ialdC C (Nat.le_of_ble_eq_true rfl) (shM_1 G ad) (kin_in (by decide)) dX12_account_119 2 (by decide) ?_
        exact K_ret C rfl rfl dX12_account_120
      · refine K_case (fun hc5 => ?_) (fun hc5 => ?_)
        · refine K_tin C (off := 113) (tgt := 121) (by rw [hc5]; decide) (by rw [hc5]; decide) (by rw [hc5]; decide) (by decide) dX12_account_8 ?_
          refine K_aload_n C 1 rfl rfl dX12_account_121 ?_
          refine K_getR C kin_X12 rfl (Nat.le_of_ble_eq_true rfl) (shM_0 G ad) 0 (by decide) (b := 1) rfl wf_X12_9 rfl dX12_account_122 ?_
          refine K_iconst C (v := 3) (by decide) dX12_account_125 ?_
          refine K_ialdC C (Nat.le_of_ble_eq_true rfl) (shM_1 G ad) (kin_in (by decide)) dX12_account_126 3 (by decide) ?_
          exact K_ret C rfl rfl dX12_account_127
        · refine K_case (fun hc6 => ?_) (fun hc6 => ?_)
          · refine K_tin C (off := 120) (tgt := 128) (by rw [hc6]; decide) (by rw [hc6]; decide) (by rw [hc6]; decide) (by decide) dX12_account_8 ?_
            refine K_aload_n C 1 rfl rfl dX12_account_128 ?_
            refine K_callVi C (As := []) (rest := []) (Nat.le_of_ble_eq_true rfl) (shM_0 G ad) rfl hy_X12_opens wm_X12_124 (by decide) ⟨Nat.le_refl _, Nat.le_refl _⟩ (fun rr ff hh => km_X12_opens l G ad g1 rr ff hh) rfl rfl (Nat.le_of_ble_eq_true rfl) rfl dX12_account_129 (fun r7 g8 => ?_)
            exact K_ret C rfl rfl dX12_account_132
          · refine K_case (fun hc9 => ?_) (fun hc9 => ?_)
            · refine K_tin C (off := 125) (tgt := 133) (by rw [hc9]; decide) (by rw [hc9]; decide) (by rw [hc9]; decide) (by decide) dX12_account_8 ?_
              refine K_aload_n C 1 rfl rfl dX12_account_133 ?_
              refine K_getR C kin_X12 rfl (Nat.le_of_ble_eq_true rfl) (shM_0 G ad) 0 (by decide) (b := 1) rfl wf_X12_9 rfl dX12_account_134 ?_
              refine K_bipush C (v := 6) (by decide) dX12_account_137 ?_
              refine K_ialdC C (Nat.le_of_ble_eq_true rfl) (shM_1 G ad) (kin_in (by decide)) dX12_account_139 6 (by decide) ?_
              exact K_ret C rfl rfl dX12_account_140
            · refine K_case (fun hc10 => ?_) (fun hc10 => ?_)
              · refine K_tin C (off := 133) (tgt := 141) (by rw [hc10]; decide) (by rw [hc10]; decide) (by rw [hc10]; decide) (by decide) dX12_account_8 ?_
                refine K_aload_n C 1 rfl rfl dX12_account_141 ?_
                refine K_getR C kin_X12 rfl (Nat.le_of_ble_eq_true rfl) (shM_0 G ad) 0 (by decide) (b := 1) rfl wf_X12_9 rfl dX12_account_142 ?_
                refine K_bipush C (v := 7) (by decide) dX12_account_145 ?_
                refine K_ialdC C (Nat.le_of_ble_eq_true rfl) (shM_1 G ad) (kin_in (by decide)) dX12_account_147 7 (by decide) ?_
                exact K_ret C rfl rfl dX12_account_148
              · refine K_case (fun hc11 => ?_) (fun hc11 => ?_)
                · refine K_tin C (off := 141) (tgt := 149) (by rw [hc11]; decide) (by rw [hc11]; decide) (by rw [hc11]; decide) (by decide) dX12_account_8 ?_
                  refine K_aload_n C 1 rfl rfl dX12_account_149 ?_
                  refine K_getR C kin_X12 rfl (Nat.le_of_ble_eq_true rfl) (shM_0 G ad) 0 (by decide) (b := 1) rfl wf_X12_9 rfl dX12_account_150 ?_
                  refine K_iconst C (v := 5) (by decide) dX12_account_153 ?_
                  refine K_ialdC C (Nat.le_of_ble_eq_true rfl) (shM_1 G ad) (kin_in (by decide)) dX12_account_154 5 (by decide) ?_
                  exact K_ret C rfl rfl dX12_account_155
                · refine K_case (fun hc12 => ?_) (fun hc12 => ?_)
                  · refine K_tin C (off := 148) (tgt := 156) (by rw [hc12]; decide) (by rw [hc12]; decide) (by rw [hc12]; decide) (by decide) dX12_account_8 ?_
                    refine K_aload_n C 1 rfl rfl dX12_account_156 ?_
                    refine K_getR C kin_X12 rfl (Nat.le_of_ble_eq_true rfl) (shM_0 G ad) 0 (by decide) (b := 1) rfl wf_X12_9 rfl dX12_account_157 ?_
                    refine K_iconst C (v := 4) (by decide) dX12_account_160 ?_
                    refine K_ialdC C (Nat.le_of_ble_eq_true rfl) (shM_1 G ad) (kin_in (by decide)) dX12_account_161 4 (by decide) ?_
                    exact K_ret C rfl rfl dX12_account_162
                  · refine K_case (fun hc13 => ?_) (fun hc13 => ?_)
                    · refine K_tin C (off := 155) (tgt := 163) (by rw [hc13]; decide) (by rw [hc13]; decide) (by rw [hc13]; decide) (by decide) dX12_account_8 ?_
                      refine K_iconst C (v := 0) (by decide) dX12_account_163 ?_
                      refine K_istore_n C (lv1 := [(3, .int 0), (2, .int 0), (0, .ref (kad (wM G ad) 0)), (1, .int x1)]) rfl (by decide) rfl dX12_account_164 ?_
                      refine K_sub [2, 1, 0] rfl ?_
                      exact kcl_X12_account_165 C 100 g1 0 0
                    · refine K_case (fun hc16 => ?_) (fun hc16 => ?_)
                      · refine K_tin C (off := 186) (tgt := 194) (by rw [hc16]; decide) (by rw [hc16]; decide) (by rw [hc16]; decide) (by decide) dX12_account_8 ?_
                        refine K_aload_n C 1 rfl rfl dX12_account_194 ?_
                        refine K_getR C kin_X12 rfl (Nat.le_of_ble_eq_true rfl) (shM_0 G ad) 0 (by decide) (b := 1) rfl wf_X12_9 rfl dX12_account_195 ?_
                        refine K_bipush C (v := 9) (by decide) dX12_account_198 ?_
                        refine K_ialdC C (Nat.le_of_ble_eq_true rfl) (shM_1 G ad) (kin_in (by decide)) dX12_account_200 9 (by decide) ?_
                        exact K_ret C rfl rfl dX12_account_201
                      · refine K_case (fun hc17 => ?_) (fun hc17 => ?_)
                        · refine K_tin C (off := 194) (tgt := 202) (by rw [hc17]; decide) (by rw [hc17]; decide) (by rw [hc17]; decide) (by decide) dX12_account_8 ?_
                          refine K_aload_n C 1 rfl rfl dX12_account_202 ?_
                          refine K_getR C kin_X12 rfl (Nat.le_of_ble_eq_true rfl) (shM_0 G ad) 0 (by decide) (b := 1) rfl wf_X12_9 rfl dX12_account_203 ?_
                          refine K_bipush C (v := 10) (by decide) dX12_account_206 ?_
                          refine K_ialdC C (Nat.le_of_ble_eq_true rfl) (shM_1 G ad) (kin_in (by decide)) dX12_account_208 10 (by decide) ?_
                          exact K_ret C rfl rfl dX12_account_209
                        · refine K_case (fun hc18 => ?_) (fun hc18 => ?_)
                          · refine K_tin C (off := 202) (tgt := 210) (by rw [hc18]; decide) (by rw [hc18]; decide) (by rw [hc18]; decide) (by decide) dX12_account_8 ?_
                            refine K_aload_n C 1 rfl rfl dX12_account_210 ?_
                            refine K_getR C kin_X12 rfl (Nat.le_of_ble_eq_true rfl) (shM_0 G ad) 0 (by decide) (b := 1) rfl wf_X12_9 rfl dX12_account_211 ?_
                            refine K_bipush C (v := 11) (by decide) dX12_account_214 ?_
                            refine K_ialdC C (Nat.le_of_ble_eq_true rfl) (shM_1 G ad) (kin_in (by decide)) dX12_account_216 11 (by decide) ?_
                            exact K_ret C rfl rfl dX12_account_217
                          · refine K_case (fun hc19 => ?_) (fun hc19 => ?_)
                            · refine K_tin C (off := 210) (tgt := 218) (by rw [hc19]; decide) (by rw [hc19]; decide) (by rw [hc19]; decide) (by decide) dX12_account_8 ?_
                              refine K_aload_n C 1 rfl rfl dX12_account_218 ?_
                              refine K_getI C kin_X12 rfl (Nat.le_of_ble_eq_true rfl) (shM_0 G ad) 3 (by decide) rfl wf_X12_48 rfl dX12_account_219 ?_
                              exact K_ret C rfl rfl dX12_account_222
                            · refine K_case (fun hc20 => ?_) (fun hc20 => ?_)
                              · refine K_tin C (off := 215) (tgt := 223) (by rw [hc20]; decide) (by rw [hc20]; decide) (by rw [hc20]; decide) (by decide) dX12_account_8 ?_
                                refine K_aload_n C 1 rfl rfl dX12_account_223 ?_
                                refine K_getI C kin_X12 rfl (Nat.le_of_ble_eq_true rfl) (shM_0 G ad) 7 (by decide) rfl wf_X12_128 rfl dX12_account_224 ?_
                                exact K_ret C rfl rfl dX12_account_227
                              · refine K_case (fun hc21 => ?_) (fun hc21 => ?_)
                                · refine K_tin C (off := 220) (tgt := 228) (by rw [hc21]; decide) (by rw [hc21]; decide) (by rw [hc21]; decide) (by decide) dX12_account_8 ?_
                                  refine K_aload_n C 1 rfl rfl dX12_account_228 ?_
                                  refine K_getR C kin_X12 rfl (Nat.le_of_ble_eq_true rfl) (shM_0 G ad) 0 (by decide) (b := 1) rfl wf_X12_9 rfl dX12_account_229 ?_
                                  refine K_bipush C (v := 12) (by decide) dX12_account_232 ?_
                                  refine K_iload_n C 2 rfl rfl dX12_account_234 ?_
                                  refine K_iadd C dX12_account_235 ?_
                                  refine K_bipush C (v := 15) (by decide) dX12_account_236 ?_
                                  refine K_isub C dX12_account_238 ?_
                                  refine K_iald C (Nat.le_of_ble_eq_true rfl) (shM_1 G ad) dX12_account_239 ?_
                                  exact K_ret C rfl rfl dX12_account_240
                                · refine K_case (fun hc22 => ?_) (fun hc22 => ?_)
                                  · refine K_tin C (off := 220) (tgt := 228) (by rw [hc22]; decide) (by rw [hc22]; decide) (by rw [hc22]; decide) (by decide) dX12_account_8 ?_
                                    refine K_aload_n C 1 rfl rfl dX12_account_228 ?_
                                    refine K_getR C kin_X12 rfl (Nat.le_of_ble_eq_true rfl) (shM_0 G ad) 0 (by decide) (b := 1) rfl wf_X12_9 rfl dX12_account_229 ?_
                                    refine K_bipush C (v := 12) (by decide) dX12_account_232 ?_
                                    refine K_iload_n C 2 rfl rfl dX12_account_234 ?_
                                    refine K_iadd C dX12_account_235 ?_
                                    refine K_bipush C (v := 15) (by decide) dX12_account_236 ?_
                                    refine K_isub C dX12_account_238 ?_
                                    refine K_iald C (Nat.le_of_ble_eq_true rfl) (shM_1 G ad) dX12_account_239 ?_
                                    exact K_ret C rfl rfl dX12_account_240
                                  · refine K_case (fun hc23 => ?_) (fun hc23 => ?_)
                                    · refine K_tin C (off := 220) (tgt := 228) (by rw [hc23]; decide) (by rw [hc23]; decide) (by rw [hc23]; decide) (by decide) dX12_account_8 ?_
                                      refine K_aload_n C 1 rfl rfl dX12_account_228 ?_
                                      refine K_getR C kin_X12 rfl (Nat.le_of_ble_eq_true rfl) (shM_0 G ad) 0 (by decide) (b := 1) rfl wf_X12_9 rfl dX12_account_229 ?_
                                      refine K_bipush C (v := 12) (by decide) dX12_account_232 ?_
                                      refine K_iload_n C 2 rfl rfl dX12_account_234 ?_
                                      refine K_iadd C dX12_account_235 ?_
                                      refine K_bipush C (v := 15) (by decide) dX12_account_236 ?_
                                      refine K_isub C dX12_account_238 ?_
                                      refine K_iald C (Nat.le_of_ble_eq_true rfl) (shM_1 G ad) dX12_account_239 ?_
                                      exact K_ret C rfl rfl dX12_account_240
                                    · refine K_case (fun hc24 => ?_) (fun hc24 => ?_)
                                      · refine K_tin C (off := 220) (tgt := 228) (by rw [hc24]; decide) (by rw [hc24]; decide) (by rw [hc24]; decide) (by decide) dX12_account_8 ?_
                                        refine K_aload_n C 1 rfl rfl dX12_account_228 ?_
                                        refine K_getR C kin_X12 rfl (Nat.le_of_ble_eq_true rfl) (shM_0 G ad) 0 (by decide) (b := 1) rfl wf_X12_9 rfl dX12_account_229 ?_
                                        refine K_bipush C (v := 12) (by decide) dX12_account_232 ?_
                                        refine K_iload_n C 2 rfl rfl dX12_account_234 ?_
                                        refine K_iadd C dX12_account_235 ?_
                                        refine K_bipush C (v := 15) (by decide) dX12_account_236 ?_
                                        refine K_isub C dX12_account_238 ?_
                                        refine K_iald C (Nat.le_of_ble_eq_true rfl) (shM_1 G ad) dX12_account_239 ?_
                                        exact K_ret C rfl rfl dX12_account_240
                                      · refine K_tout C (tgt := 241) (by have q0 := kne 0 (by decide) hc2; have q1 := kne 1 (by decide) hc3; have q2 := kne 2 (by decide) hc4; have q3 := kne 3 (by decide) hc5; have q4 := kne 4 (by decide) hc6; have q5 := kne 5 (by decide) hc9; have q6 := kne 6 (by decide) hc10; have q7 := kne 7 (by decide) hc11; have q8 := kne 8 (by decide) hc12; have q9 := kne 9 (by decide) hc13; have q10 := kne 10 (by decide) hc16; have q11 := kne 11 (by decide) hc17; have q12 := kne 12 (by decide) hc18; have q13 := kne 13 (by decide) hc19; have q14 := kne 14 (by decide) hc20; have q15 := kne 15 (by decide) hc21; have q16 := kne 16 (by decide) hc22; have q17 := kne 17 (by decide) hc23; have q18 := kne 18 (by decide) hc24; omega) (by decide) dX12_account_8 ?_
                                        refine K_aload_n C 1 rfl rfl dX12_account_241 ?_
                                        refine K_iconst C (v := 1) (by decide) dX12_account_242 ?_
                                        refine K_callVi C (As := [.int 1]) (rest := []) (Nat.le_of_ble_eq_true rfl) (shM_0 G ad) rfl hy_X12_raises wm_X12_54 (by decide) ⟨Nat.le_refl _, Nat.le_refl _⟩ (fun rr ff hh => km_X12_raises l G ad g1 1 rr ff hh) rfl rfl (Nat.le_of_ble_eq_true rfl) rfl dX12_account_243 (fun r25 g26 => ?_)
                                        exact K_ret C rfl rfl dX12_account_246
def cl_X12_undo_30 : Nat → kMem → Int32 → Option (Int32 × kMem)
  | 0, _, _ => none
  | n + 1, f, x1 => kle 313 x1 (some ((f 0 3), f)) (kchk (kin ((313 * (f 0 3)) + x1) 2504) (kchk (kin x1 313) (kmem (kup f 1 (Int32.toNatClampNeg x1) (f 3 (Int32.toNatClampNeg ((313 * (f 0 3)) + x1)))) (fun g3 => klet (x1 + Int32.ofInt 1) (fun x1_4 => ((cl_X12_undo_30 n) g3 x1_4))))))
def cf_X12_undo (f : kMem) : Option (Int32 × kMem) := kmem (kup f 0 18 0) (fun g1 => keq (g1 0 3) 0 (kbind (cf_X12_raises g1 1) (fun r5 g6 => some (r5, g6))) (kmem (kup g1 0 3 ((g1 0 3) - 1)) (fun g2 => (cl_X12_undo_30 3000 g2 0))))
set_option maxRecDepth 100000 in
set_option maxHeartbeats 4000000 in
theorem kcl_X12_undo_30 {p : Program} {l : Launch} {e : Env} {R : Room} {s : State} {m : MethodId} {args : Array Value} {below : List Frame} {meth : Method} {c : Code} {G : kG} {ad : Nat → Nat} {z : Int32 × kMem} (C : KC p l e R s m args below meth c (wM G ad) RX12 cX12_undo 2 (some .int) 1 0 0)  : ∀ (n : Nat) (f : kMem) (x1 : Int32), K p l e R s m args below meth c (wM G ad) 2 (kQF below (wM G ad) (some .int) args s z) z 0 0 f 30 [(0, .ref (kad (wM G ad) 0)), (1, .int x1)] [] (cl_X12_undo_30 n f x1) := by
  intro n
  induction n with
  | zero => intro f x1; exact K_none
  | succ n ih =>
    intro f x1
    unfold cl_X12_undo_30
    refine K_iload_n C 1 rfl rfl dX12_undo_30 ?_
    refine K_sipush C (v := 313) (by decide) dX12_undo_31 ?_
    refine K_icmp_ge C (tgt := 64) (by decide) dX12_undo_34 ?_ ?_
    · refine K_aload_n C 0 rfl rfl dX12_undo_64 ?_
      refine K_getI C kin_X12 rfl (Nat.le_of_ble_eq_true rfl) (shM_0 G ad) 3 (by decide) rfl wf_X12_48 rfl dX12_undo_65 ?_
      exact K_ret C rfl rfl dX12_undo_68
    · refine K_aload_n C 0 rfl rfl dX12_undo_37 ?_
      refine K_getR C kin_X12 rfl (Nat.le_of_ble_eq_true rfl) (shM_0 G ad) 0 (by decide) (b := 1) rfl wf_X12_9 rfl dX12_undo_38 ?_
      refine K_iload_n C 1 rfl rfl dX12_undo_41 ?_
      refine K_aload_n C 0 rfl rfl dX12_undo_42 ?_
      refine K_getR C kin_X12 rfl (Nat.le_of_ble_eq_true rfl) (shM_0 G ad) 2 (by decide) (b := 3) rfl wf_X12_16 rfl dX12_undo_43 ?_
      refine K_sipush C (v := 313) (by decide) dX12_undo_46 ?_
      refine K_aload_n C 0 rfl rfl dX12_undo_49 ?_
      refine K_getI C kin_X12 rfl (Nat.le_of_ble_eq_true rfl) (shM_0 G ad) 3 (by decide) rfl wf_X12_48 rfl dX12_undo_50 ?_
      refine K_imul C dX12_undo_53 ?_
      refine K_iload_n C 1 rfl rfl dX12_undo_54 ?_
      refine K_iadd C dX12_undo_55 ?_
      refine K_iald C (Nat.le_of_ble_eq_true rfl) (shM_3 G ad) dX12_undo_56 ?_
      refine K_iast C (Nat.le_of_ble_eq_true rfl) (shM_1 G ad) dX12_undo_57 (fun g3 => ?_)
      refine K_iinc C (k := 1) (lv1 := fun x1_4 => [(1, .int x1_4), (0, .ref (kad (wM G ad) 0))]) rfl (by decide) (fun _ => rfl) dX12_undo_58 (fun x1_4 => ?_)
      refine K_goto C (tgt := 30) (by decide) dX12_undo_61 ?_
      refine K_sub [1, 0] rfl ?_
      exact ih g3 x1_4
set_option maxRecDepth 100000 in
set_option maxHeartbeats 4000000 in
theorem km_X12_undo (l : Launch) (G : kG) (ad : Nat → Nat) (f : kMem) (r : Int32) (fo : kMem) (h : cf_X12_undo f = some (r, fo)) : kMet l (wM G ad) yX12_undo cX12_undo 2 (some .int) 1 [.ref (kad (wM G ad) 0)] f r fo := by
  refine kMet_of (own := RX12) (lv := [(0, .ref (kad (wM G ad) 0))]) (by decide) rfl (Nat.le_of_ble_eq_true rfl) rfl h ?_
  intro p e R s m args below meth c C
  unfold cf_X12_undo
  refine K_aload_n C 0 rfl rfl dX12_undo_0 ?_
  refine K_iconst C (v := 0) (by decide) dX12_undo_1 ?_
  refine K_putI C kin_X12 rfl (Nat.le_of_ble_eq_true rfl) (shM_0 G ad) 18 (by decide) rfl wf_X12_45 rfl tyX12 tyX12_ok nmX12 (by decide) (ty := .int) (by decide +kernel) rfl rfl dX12_undo_2 (fun g1 => ?_)
  refine K_aload_n C 0 rfl rfl dX12_undo_5 ?_
  refine K_getI C kin_X12 rfl (Nat.le_of_ble_eq_true rfl) (shM_0 G ad) 3 (by decide) rfl wf_X12_48 rfl dX12_undo_6 ?_
  refine K_if_ne C (tgt := 18) (by decide) dX12_undo_9 ?_ ?_
  · refine K_aload_n C 0 rfl rfl dX12_undo_18 ?_
    refine K_dup C rfl dX12_undo_19 ?_
    refine K_getI C kin_X12 rfl (Nat.le_of_ble_eq_true rfl) (shM_0 G ad) 3 (by decide) rfl wf_X12_48 rfl dX12_undo_20 ?_
    refine K_iconst C (v := 1) (by decide) dX12_undo_23 ?_
    refine K_isub C dX12_undo_24 ?_
    refine K_putI C kin_X12 rfl (Nat.le_of_ble_eq_true rfl) (shM_0 G ad) 3 (by decide) rfl wf_X12_48 rfl tyX12 tyX12_ok nmX12 (by decide) (ty := .int) (by decide +kernel) rfl rfl dX12_undo_25 (fun g2 => ?_)
    refine K_iconst C (v := 0) (by decide) dX12_undo_28 ?_
    refine K_istore_n C (lv1 := [(1, .int 0), (0, .ref (kad (wM G ad) 0))]) rfl (by decide) rfl dX12_undo_29 ?_
    refine K_sub [1, 0] rfl ?_
    exact kcl_X12_undo_30 C 3000 g2 0
  · refine K_aload_n C 0 rfl rfl dX12_undo_12 ?_
    refine K_iconst C (v := 1) (by decide) dX12_undo_13 ?_
    refine K_callVi C (As := [.int 1]) (rest := []) (Nat.le_of_ble_eq_true rfl) (shM_0 G ad) rfl hy_X12_raises wm_X12_54 (by decide) ⟨Nat.le_refl _, Nat.le_refl _⟩ (fun rr ff hh => km_X12_raises l G ad g1 1 rr ff hh) rfl rfl (Nat.le_of_ble_eq_true rfl) rfl dX12_undo_14 (fun r5 g6 => ?_)
    exact K_ret C rfl rfl dX12_undo_17
def cl_X12_save_12 : Nat → kMem → Int32 → Option (Int32 × kMem)
  | 0, _, _ => none
  | n + 1, f, x1 => kle 313 x1 (some ((f 1 3), f)) (kchk (kin x1 313) (kchk (kin x1 313) (kmem (kup f 4 (Int32.toNatClampNeg x1) (f 1 (Int32.toNatClampNeg x1))) (fun g3 => klet (x1 + Int32.ofInt 1) (fun x1_4 => ((cl_X12_save_12 n) g3 x1_4))))))
def cf_X12_save (f : kMem) : Option (Int32 × kMem) := kmem (kup f 0 18 0) (fun g1 => kmem (kup g1 0 5 1) (fun g2 => (cl_X12_save_12 3000 g2 0)))
set_option maxRecDepth 100000 in
set_option maxHeartbeats 4000000 in
theorem kcl_X12_save_12 {p : Program} {l : Launch} {e : Env} {R : Room} {s : State} {m : MethodId} {args : Array Value} {below : List Frame} {meth : Method} {c : Code} {G : kG} {ad : Nat → Nat} {z : Int32 × kMem} (C : KC p l e R s m args below meth c (wM G ad) RX12 cX12_save 2 (some .int) 0 0 0)  : ∀ (n : Nat) (f : kMem) (x1 : Int32), K p l e R s m args below meth c (wM G ad) 2 (kQF below (wM G ad) (some .int) args s z) z 0 0 f 12 [(0, .ref (kad (wM G ad) 0)), (1, .int x1)] [] (cl_X12_save_12 n f x1) := by
  intro n
  induction n with
  | zero => intro f x1; exact K_none
  | succ n ih =>
    intro f x1
    unfold cl_X12_save_12
    refine K_iload_n C 1 rfl rfl dX12_save_12 ?_
    refine K_sipush C (v := 313) (by decide) dX12_save_13 ?_
    refine K_icmp_ge C (tgt := 37) (by decide) dX12_save_16 ?_ ?_
    · refine K_aload_n C 0 rfl rfl dX12_save_37 ?_
      refine K_getR C kin_X12 rfl (Nat.le_of_ble_eq_true rfl) (shM_0 G ad) 0 (by decide) (b := 1) rfl wf_X12_9 rfl dX12_save_38 ?_
      refine K_iconst C (v := 3) (by decide) dX12_save_41 ?_
      refine K_ialdC C (Nat.le_of_ble_eq_true rfl) (shM_1 G ad) (kin_in (by decide)) dX12_save_42 3 (by decide) ?_
      exact K_ret C rfl rfl dX12_save_43
    · refine K_aload_n C 0 rfl rfl dX12_save_19 ?_
      refine K_getR C kin_X12 rfl (Nat.le_of_ble_eq_true rfl) (shM_0 G ad) 4 (by decide) (b := 4) rfl wf_X12_19 rfl dX12_save_20 ?_
      refine K_iload_n C 1 rfl rfl dX12_save_23 ?_
      refine K_aload_n C 0 rfl rfl dX12_save_24 ?_
      refine K_getR C kin_X12 rfl (Nat.le_of_ble_eq_true rfl) (shM_0 G ad) 0 (by decide) (b := 1) rfl wf_X12_9 rfl dX12_save_25 ?_
      refine K_iload_n C 1 rfl rfl dX12_save_28 ?_
      refine K_iald C (Nat.le_of_ble_eq_true rfl) (shM_1 G ad) dX12_save_29 ?_
      refine K_iast C (Nat.le_of_ble_eq_true rfl) (shM_4 G ad) dX12_save_30 (fun g3 => ?_)
      refine K_iinc C (k := 1) (lv1 := fun x1_4 => [(1, .int x1_4), (0, .ref (kad (wM G ad) 0))]) rfl (by decide) (fun _ => rfl) dX12_save_31 (fun x1_4 => ?_)
      refine K_goto C (tgt := 12) (by decide) dX12_save_34 ?_
      refine K_sub [1, 0] rfl ?_
      exact ih g3 x1_4
set_option maxRecDepth 100000 in
set_option maxHeartbeats 4000000 in
theorem km_X12_save (l : Launch) (G : kG) (ad : Nat → Nat) (f : kMem) (r : Int32) (fo : kMem) (h : cf_X12_save f = some (r, fo)) : kMet l (wM G ad) yX12_save cX12_save 2 (some .int) 0 [.ref (kad (wM G ad) 0)] f r fo := by
  refine kMet_of (own := RX12) (lv := [(0, .ref (kad (wM G ad) 0))]) (by decide) rfl (Nat.le_of_ble_eq_true rfl) rfl h ?_
  intro p e R s m args below meth c C
  unfold cf_X12_save
  refine K_aload_n C 0 rfl rfl dX12_save_0 ?_
  refine K_iconst C (v := 0) (by decide) dX12_save_1 ?_
  refine K_putI C kin_X12 rfl (Nat.le_of_ble_eq_true rfl) (shM_0 G ad) 18 (by decide) rfl wf_X12_45 rfl tyX12 tyX12_ok nmX12 (by decide) (ty := .int) (by decide +kernel) rfl rfl dX12_save_2 (fun g1 => ?_)
  refine K_aload_n C 0 rfl rfl dX12_save_5 ?_
  refine K_iconst C (v := 1) (by decide) dX12_save_6 ?_
  refine K_putI C kin_X12 rfl (Nat.le_of_ble_eq_true rfl) (shM_0 G ad) 5 (by decide) rfl wf_X12_213 rfl tyX12 tyX12_ok nmX12 (by decide) (ty := .boolean) (by decide +kernel) rfl rfl dX12_save_7 (fun g2 => ?_)
  refine K_iconst C (v := 0) (by decide) dX12_save_10 ?_
  refine K_istore_n C (lv1 := [(1, .int 0), (0, .ref (kad (wM G ad) 0))]) rfl (by decide) rfl dX12_save_11 ?_
  refine K_sub [1, 0] rfl ?_
  exact kcl_X12_save_12 C 3000 g2 0
def cl_X12_restore_20 (Y45 : kMem → Option (Int32 × kMem)) : Nat → kMem → Int32 → Option (Int32 × kMem)
  | 0, _, _ => none
  | n + 1, f, x1 => kle 313 x1 ((Y45 f)) (kchk (kin x1 313) (kchk (kin x1 313) (kmem (kup f 1 (Int32.toNatClampNeg x1) (f 4 (Int32.toNatClampNeg x1))) (fun g2 => klet (x1 + Int32.ofInt 1) (fun x1_3 => ((cl_X12_restore_20 Y45 n) g2 x1_3))))))
def cf_X12_restore (f : kMem) : Option (Int32 × kMem) := kmem (kup f 0 18 0) (fun g1 => keq (g1 0 5) 0 (kbind (cf_X12_raises g1 1) (fun r6 g7 => some (r6, g7))) ((cl_X12_restore_20 (fun g4 => kmem (kup g4 0 3 0) (fun g5 => some ((g5 1 3), g5))) 3000 g1 0)))
set_option maxRecDepth 100000 in
set_option maxHeartbeats 4000000 in
theorem kcl_X12_restore_20 {p : Program} {l : Launch} {e : Env} {R : Room} {s : State} {m : MethodId} {args : Array Value} {below : List Frame} {meth : Method} {c : Code} {G : kG} {ad : Nat → Nat} {z : Int32 × kMem} (C : KC p l e R s m args below meth c (wM G ad) RX12 cX12_restore 2 (some .int) 1 0 0) (Y45 : kMem → Option (Int32 × kMem)) (hY45 : ∀ (f : kMem), K p l e R s m args below meth c (wM G ad) 2 (kQF below (wM G ad) (some .int) args s z) z 0 0 f 45 [(0, .ref (kad (wM G ad) 0))] [] (Y45 f)) : ∀ (n : Nat) (f : kMem) (x1 : Int32), K p l e R s m args below meth c (wM G ad) 2 (kQF below (wM G ad) (some .int) args s z) z 0 0 f 20 [(0, .ref (kad (wM G ad) 0)), (1, .int x1)] [] (cl_X12_restore_20 Y45 n f x1) := by
  intro n
  induction n with
  | zero => intro f x1; exact K_none
  | succ n ih =>
    intro f x1
    unfold cl_X12_restore_20
    refine K_iload_n C 1 rfl rfl dX12_restore_20 ?_
    refine K_sipush C (v := 313) (by decide) dX12_restore_21 ?_
    refine K_icmp_ge C (tgt := 45) (by decide) dX12_restore_24 ?_ ?_
    · refine K_sub [0] rfl ?_
      exact hY45 f
    · refine K_aload_n C 0 rfl rfl dX12_restore_27 ?_
      refine K_getR C kin_X12 rfl (Nat.le_of_ble_eq_true rfl) (shM_0 G ad) 0 (by decide) (b := 1) rfl wf_X12_9 rfl dX12_restore_28 ?_
      refine K_iload_n C 1 rfl rfl dX12_restore_31 ?_
      refine K_aload_n C 0 rfl rfl dX12_restore_32 ?_
      refine K_getR C kin_X12 rfl (Nat.le_of_ble_eq_true rfl) (shM_0 G ad) 4 (by decide) (b := 4) rfl wf_X12_19 rfl dX12_restore_33 ?_
      refine K_iload_n C 1 rfl rfl dX12_restore_36 ?_
      refine K_iald C (Nat.le_of_ble_eq_true rfl) (shM_4 G ad) dX12_restore_37 ?_
      refine K_iast C (Nat.le_of_ble_eq_true rfl) (shM_1 G ad) dX12_restore_38 (fun g2 => ?_)
      refine K_iinc C (k := 1) (lv1 := fun x1_3 => [(1, .int x1_3), (0, .ref (kad (wM G ad) 0))]) rfl (by decide) (fun _ => rfl) dX12_restore_39 (fun x1_3 => ?_)
      refine K_goto C (tgt := 20) (by decide) dX12_restore_42 ?_
      refine K_sub [1, 0] rfl ?_
      exact ih g2 x1_3
set_option maxRecDepth 100000 in
set_option maxHeartbeats 4000000 in
theorem km_X12_restore (l : Launch) (G : kG) (ad : Nat → Nat) (f : kMem) (r : Int32) (fo : kMem) (h : cf_X12_restore f = some (r, fo)) : kMet l (wM G ad) yX12_restore cX12_restore 2 (some .int) 1 [.ref (kad (wM G ad) 0)] f r fo := by
  refine kMet_of (own := RX12) (lv := [(0, .ref (kad (wM G ad) 0))]) (by decide) rfl (Nat.le_of_ble_eq_true rfl) rfl h ?_
  intro p e R s m args below meth c C
  unfold cf_X12_restore
  refine K_aload_n C 0 rfl rfl dX12_restore_0 ?_
  refine K_iconst C (v := 0) (by decide) dX12_restore_1 ?_
  refine K_putI C kin_X12 rfl (Nat.le_of_ble_eq_true rfl) (shM_0 G ad) 18 (by decide) rfl wf_X12_45 rfl tyX12 tyX12_ok nmX12 (by decide) (ty := .int) (by decide +kernel) rfl rfl dX12_restore_2 (fun g1 => ?_)
  refine K_aload_n C 0 rfl rfl dX12_restore_5 ?_
  refine K_getI C kin_X12 rfl (Nat.le_of_ble_eq_true rfl) (shM_0 G ad) 5 (by decide) rfl wf_X12_213 rfl dX12_restore_6 ?_
  refine K_if_ne C (tgt := 18) (by decide) dX12_restore_9 ?_ ?_
  · refine K_iconst C (v := 0) (by decide) dX12_restore_18 ?_
    refine K_istore_n C (lv1 := [(1, .int 0), (0, .ref (kad (wM G ad) 0))]) rfl (by decide) rfl dX12_restore_19 ?_
    refine K_sub [1, 0] rfl ?_
    refine kcl_X12_restore_20 C _ (fun g4 => ?_) 3000 g1 0
    refine K_aload_n C 0 rfl rfl dX12_restore_45 ?_
    refine K_iconst C (v := 0) (by decide) dX12_restore_46 ?_
    refine K_putI C kin_X12 rfl (Nat.le_of_ble_eq_true rfl) (shM_0 G ad) 3 (by decide) rfl wf_X12_48 rfl tyX12 tyX12_ok nmX12 (by decide) (ty := .int) (by decide +kernel) rfl rfl dX12_restore_47 (fun g5 => ?_)
    refine K_aload_n C 0 rfl rfl dX12_restore_50 ?_
    refine K_getR C kin_X12 rfl (Nat.le_of_ble_eq_true rfl) (shM_0 G ad) 0 (by decide) (b := 1) rfl wf_X12_9 rfl dX12_restore_51 ?_
    refine K_iconst C (v := 3) (by decide) dX12_restore_54 ?_
    refine K_ialdC C (Nat.le_of_ble_eq_true rfl) (shM_1 G ad) (kin_in (by decide)) dX12_restore_55 3 (by decide) ?_
    exact K_ret C rfl rfl dX12_restore_56
  · refine K_aload_n C 0 rfl rfl dX12_restore_12 ?_
    refine K_iconst C (v := 1) (by decide) dX12_restore_13 ?_
    refine K_callVi C (As := [.int 1]) (rest := []) (Nat.le_of_ble_eq_true rfl) (shM_0 G ad) rfl hy_X12_raises wm_X12_54 (by decide) ⟨Nat.le_refl _, Nat.le_refl _⟩ (fun rr ff hh => km_X12_raises l G ad g1 1 rr ff hh) rfl rfl (Nat.le_of_ble_eq_true rfl) rfl dX12_restore_14 (fun r6 g7 => ?_)
    exact K_ret C rfl rfl dX12_restore_17
