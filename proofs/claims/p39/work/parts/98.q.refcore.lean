/-! calls that are refused at once: the cores, and the queries -/
theorem wvx_no {ks : List Nat} {n : Nat} {v r : Int32} {f : kMem} (h0 : n ≠ 0) (hm : n ∈ ks) (hr : -1001 - Int32.ofNat (ks.idxOf n) = r) : wvx ks (some (n, v, f)) = some (r, f) := by
  unfold wvx
  dsimp only
  rw [if_neg h0, if_pos hm, hr]
theorem co_colour_m1 {f1 : kMem} (c0 : f1 1 0 = 4) (c1 : f1 1 1 = 4) (c2 : f1 1 2 = 3) (c3 : f1 18 0 = 1) : cf_X0_addColour f1 (-1) = some (-1, rfC f1 2 0) := by
  simp [cf_X0_addColour, kbind, kxbind, kchk, klet, kmem, klt, kle, keq, kbool, kin, kst, c_refuse, c0, c1, c2, c3, cf_X11_isWithin, cf_X0_isColour, cf_X0_isPart, cf_X0_isFamily, cf_X6_isOrder, cf_X6_add, cf_X2_fill, cj_X4_loadDryer_20, cj_X4_addOrder_22, cj_X6_add_21, cj_X0_changeSetting_26, cx_X11_checkOrder, cx_X11_checkColours]
theorem co_colour_10 {f1 : kMem} (c0 : f1 1 0 = 4) (c1 : f1 1 1 = 4) (c2 : f1 1 2 = 3) (c3 : f1 18 0 = 1) : cf_X0_addColour f1 10 = some (-1, rfC f1 2 0) := by
  simp [cf_X0_addColour, kbind, kxbind, kchk, klet, kmem, klt, kle, keq, kbool, kin, kst, c_refuse, c0, c1, c2, c3, cf_X11_isWithin, cf_X0_isColour, cf_X0_isPart, cf_X0_isFamily, cf_X6_isOrder, cf_X6_add, cf_X2_fill, cj_X4_loadDryer_20, cj_X4_addOrder_22, cj_X6_add_21, cj_X0_changeSetting_26, cx_X11_checkOrder, cx_X11_checkColours]
theorem co_part_0 {f1 : kMem} (c0 : f1 1 0 = 4) (c1 : f1 1 1 = 4) (c2 : f1 1 2 = 3) (c3 : f1 18 0 = 1) : cf_X0_addPart f1 0 = some (-1, rfC f1 2 0) := by
  simp [cf_X0_addPart, kbind, kxbind, kchk, klet, kmem, klt, kle, keq, kbool, kin, kst, c_refuse, c0, c1, c2, c3, cf_X11_isWithin, cf_X0_isColour, cf_X0_isPart, cf_X0_isFamily, cf_X6_isOrder, cf_X6_add, cf_X2_fill, cj_X4_loadDryer_20, cj_X4_addOrder_22, cj_X6_add_21, cj_X0_changeSetting_26, cx_X11_checkOrder, cx_X11_checkColours]
theorem co_part_51 {f1 : kMem} (c0 : f1 1 0 = 4) (c1 : f1 1 1 = 4) (c2 : f1 1 2 = 3) (c3 : f1 18 0 = 1) : cf_X0_addPart f1 51 = some (-1, rfC f1 2 0) := by
  simp [cf_X0_addPart, kbind, kxbind, kchk, klet, kmem, klt, kle, keq, kbool, kin, kst, c_refuse, c0, c1, c2, c3, cf_X11_isWithin, cf_X0_isColour, cf_X0_isPart, cf_X0_isFamily, cf_X6_isOrder, cf_X6_add, cf_X2_fill, cj_X4_loadDryer_20, cj_X4_addOrder_22, cj_X6_add_21, cj_X0_changeSetting_26, cx_X11_checkOrder, cx_X11_checkColours]
theorem co_mount_3 {f1 : kMem} (c0 : f1 1 0 = 4) (c1 : f1 1 1 = 4) (c2 : f1 1 2 = 3) (c3 : f1 18 0 = 1) : cf_X4_mountFamily f1 3 = some (-1, rfC f1 1 0) := by
  simp [cf_X4_mountFamily, kbind, kxbind, kchk, klet, kmem, klt, kle, keq, kbool, kin, kst, c_refuse, c0, c1, c2, c3, cf_X11_isWithin, cf_X0_isColour, cf_X0_isPart, cf_X0_isFamily, cf_X6_isOrder, cf_X6_add, cf_X2_fill, cj_X4_loadDryer_20, cj_X4_addOrder_22, cj_X6_add_21, cj_X0_changeSetting_26, cx_X11_checkOrder, cx_X11_checkColours]
theorem co_mount_m1 {f1 : kMem} (c0 : f1 1 0 = 4) (c1 : f1 1 1 = 4) (c2 : f1 1 2 = 3) (c3 : f1 18 0 = 1) : cf_X4_mountFamily f1 (-1) = some (-1, rfC f1 1 0) := by
  simp [cf_X4_mountFamily, kbind, kxbind, kchk, klet, kmem, klt, kle, keq, kbool, kin, kst, c_refuse, c0, c1, c2, c3, cf_X11_isWithin, cf_X0_isColour, cf_X0_isPart, cf_X0_isFamily, cf_X6_isOrder, cf_X6_add, cf_X2_fill, cj_X4_loadDryer_20, cj_X4_addOrder_22, cj_X6_add_21, cj_X0_changeSetting_26, cx_X11_checkOrder, cx_X11_checkColours]
theorem co_load_3_0_0 {f1 : kMem} (c0 : f1 1 0 = 4) (c1 : f1 1 1 = 4) (c2 : f1 1 2 = 3) (c3 : f1 18 0 = 1) : cf_X4_loadDryer f1 3 0 0 = some (-1, rfC f1 1 0) := by
  simp [cf_X4_loadDryer, kbind, kxbind, kchk, klet, kmem, klt, kle, keq, kbool, kin, kst, c_refuse, c0, c1, c2, c3, cf_X11_isWithin, cf_X0_isColour, cf_X0_isPart, cf_X0_isFamily, cf_X6_isOrder, cf_X6_add, cf_X2_fill, cj_X4_loadDryer_20, cj_X4_addOrder_22, cj_X6_add_21, cj_X0_changeSetting_26, cx_X11_checkOrder, cx_X11_checkColours]
theorem co_load_0_4_0 {f1 : kMem} (c0 : f1 1 0 = 4) (c1 : f1 1 1 = 4) (c2 : f1 1 2 = 3) (c3 : f1 18 0 = 1) : cf_X4_loadDryer f1 0 4 0 = some (-1, rfC f1 1 0) := by
  simp [cf_X4_loadDryer, kbind, kxbind, kchk, klet, kmem, klt, kle, keq, kbool, kin, kst, c_refuse, c0, c1, c2, c3, cf_X11_isWithin, cf_X0_isColour, cf_X0_isPart, cf_X0_isFamily, cf_X6_isOrder, cf_X6_add, cf_X2_fill, cj_X4_loadDryer_20, cj_X4_addOrder_22, cj_X6_add_21, cj_X0_changeSetting_26, cx_X11_checkOrder, cx_X11_checkColours]
theorem co_load_0_0_0 {f1 : kMem} (c0 : f1 1 0 = 4) (c1 : f1 1 1 = 4) (c2 : f1 1 2 = 3) (c3 : f1 18 0 = 1) : cf_X4_loadDryer f1 0 0 0 = some (-1, rfC f1 2 0) := by
  simp [cf_X4_loadDryer, kbind, kxbind, kchk, klet, kmem, klt, kle, keq, kbool, kin, kst, c_refuse, c0, c1, c2, c3, cf_X11_isWithin, cf_X0_isColour, cf_X0_isPart, cf_X0_isFamily, cf_X6_isOrder, cf_X6_add, cf_X2_fill, cj_X4_loadDryer_20, cj_X4_addOrder_22, cj_X6_add_21, cj_X0_changeSetting_26, cx_X11_checkOrder, cx_X11_checkColours]
theorem co_load_0_0_100000 {f1 : kMem} (c0 : f1 1 0 = 4) (c1 : f1 1 1 = 4) (c2 : f1 1 2 = 3) (c3 : f1 18 0 = 1) : cf_X4_loadDryer f1 0 0 100000 = some (-1, rfC f1 2 0) := by
  simp [cf_X4_loadDryer, kbind, kxbind, kchk, klet, kmem, klt, kle, keq, kbool, kin, kst, c_refuse, c0, c1, c2, c3, cf_X11_isWithin, cf_X0_isColour, cf_X0_isPart, cf_X0_isFamily, cf_X6_isOrder, cf_X6_add, cf_X2_fill, cj_X4_loadDryer_20, cj_X4_addOrder_22, cj_X6_add_21, cj_X0_changeSetting_26, cx_X11_checkOrder, cx_X11_checkColours]
theorem co_empty_3 {f1 : kMem} (c0 : f1 1 0 = 4) (c1 : f1 1 1 = 4) (c2 : f1 1 2 = 3) (c3 : f1 18 0 = 1) : cf_X2_takeAll f1 3 = some (-1, rfC f1 1 0) := by
  simp [cf_X2_takeAll, kbind, kxbind, kchk, klet, kmem, klt, kle, keq, kbool, kin, kst, c_refuse, c0, c1, c2, c3, cf_X11_isWithin, cf_X0_isColour, cf_X0_isPart, cf_X0_isFamily, cf_X6_isOrder, cf_X6_add, cf_X2_fill, cj_X4_loadDryer_20, cj_X4_addOrder_22, cj_X6_add_21, cj_X0_changeSetting_26, cx_X11_checkOrder, cx_X11_checkColours]
theorem co_empty_m1 {f1 : kMem} (c0 : f1 1 0 = 4) (c1 : f1 1 1 = 4) (c2 : f1 1 2 = 3) (c3 : f1 18 0 = 1) : cf_X2_takeAll f1 (-1) = some (-1, rfC f1 1 0) := by
  simp [cf_X2_takeAll, kbind, kxbind, kchk, klet, kmem, klt, kle, keq, kbool, kin, kst, c_refuse, c0, c1, c2, c3, cf_X11_isWithin, cf_X0_isColour, cf_X0_isPart, cf_X0_isFamily, cf_X6_isOrder, cf_X6_add, cf_X2_fill, cj_X4_loadDryer_20, cj_X4_addOrder_22, cj_X6_add_21, cj_X0_changeSetting_26, cx_X11_checkOrder, cx_X11_checkColours]
theorem co_pause_0 {f1 : kMem} (c0 : f1 1 0 = 4) (c1 : f1 1 1 = 4) (c2 : f1 1 2 = 3) (c3 : f1 18 0 = 1) : cf_X4_waitMinutes f1 0 = some (-1, rfC f1 2 0) := by
  simp [cf_X4_waitMinutes, kbind, kxbind, kchk, klet, kmem, klt, kle, keq, kbool, kin, kst, c_refuse, c0, c1, c2, c3, cf_X11_isWithin, cf_X0_isColour, cf_X0_isPart, cf_X0_isFamily, cf_X6_isOrder, cf_X6_add, cf_X2_fill, cj_X4_loadDryer_20, cj_X4_addOrder_22, cj_X6_add_21, cj_X0_changeSetting_26, cx_X11_checkOrder, cx_X11_checkColours]
theorem co_pause_1000 {f1 : kMem} (c0 : f1 1 0 = 4) (c1 : f1 1 1 = 4) (c2 : f1 1 2 = 3) (c3 : f1 18 0 = 1) : cf_X4_waitMinutes f1 1000 = some (-1, rfC f1 2 0) := by
  simp [cf_X4_waitMinutes, kbind, kxbind, kchk, klet, kmem, klt, kle, keq, kbool, kin, kst, c_refuse, c0, c1, c2, c3, cf_X11_isWithin, cf_X0_isColour, cf_X0_isPart, cf_X0_isFamily, cf_X6_isOrder, cf_X6_add, cf_X2_fill, cj_X4_loadDryer_20, cj_X4_addOrder_22, cj_X6_add_21, cj_X0_changeSetting_26, cx_X11_checkOrder, cx_X11_checkColours]
theorem co_run_4_0 {f1 : kMem} (c0 : f1 1 0 = 4) (c1 : f1 1 1 = 4) (c2 : f1 1 2 = 3) (c3 : f1 18 0 = 1) : cf_X4_runShots f1 4 0 = some (-1, rfC f1 1 0) := by
  simp [cf_X4_runShots, kbind, kxbind, kchk, klet, kmem, klt, kle, keq, kbool, kin, kst, c_refuse, c0, c1, c2, c3, cf_X11_isWithin, cf_X0_isColour, cf_X0_isPart, cf_X0_isFamily, cf_X6_isOrder, cf_X6_add, cf_X2_fill, cj_X4_loadDryer_20, cj_X4_addOrder_22, cj_X6_add_21, cj_X0_changeSetting_26, cx_X11_checkOrder, cx_X11_checkColours]
theorem co_run_0_0 {f1 : kMem} (c0 : f1 1 0 = 4) (c1 : f1 1 1 = 4) (c2 : f1 1 2 = 3) (c3 : f1 18 0 = 1) : cf_X4_runShots f1 0 0 = some (-1, rfC f1 2 0) := by
  simp [cf_X4_runShots, kbind, kxbind, kchk, klet, kmem, klt, kle, keq, kbool, kin, kst, c_refuse, c0, c1, c2, c3, cf_X11_isWithin, cf_X0_isColour, cf_X0_isPart, cf_X0_isFamily, cf_X6_isOrder, cf_X6_add, cf_X2_fill, cj_X4_loadDryer_20, cj_X4_addOrder_22, cj_X6_add_21, cj_X0_changeSetting_26, cx_X11_checkOrder, cx_X11_checkColours]
theorem co_run_0_201 {f1 : kMem} (c0 : f1 1 0 = 4) (c1 : f1 1 1 = 4) (c2 : f1 1 2 = 3) (c3 : f1 18 0 = 1) : cf_X4_runShots f1 0 201 = some (-1, rfC f1 2 0) := by
  simp [cf_X4_runShots, kbind, kxbind, kchk, klet, kmem, klt, kle, keq, kbool, kin, kst, c_refuse, c0, c1, c2, c3, cf_X11_isWithin, cf_X0_isColour, cf_X0_isPart, cf_X0_isFamily, cf_X6_isOrder, cf_X6_add, cf_X2_fill, cj_X4_loadDryer_20, cj_X4_addOrder_22, cj_X6_add_21, cj_X0_changeSetting_26, cx_X11_checkOrder, cx_X11_checkColours]
theorem co_order_4_0_0_0 {f1 : kMem} (c0 : f1 1 0 = 4) (c1 : f1 1 1 = 4) (c2 : f1 1 2 = 3) (c3 : f1 18 0 = 1) : cf_X4_addOrder f1 4 0 0 0 = some (-1, rfC f1 1 0) := by
  simp [cf_X4_addOrder, kbind, kxbind, kchk, klet, kmem, klt, kle, keq, kbool, kin, kst, c_refuse, c0, c1, c2, c3, cf_X11_isWithin, cf_X0_isColour, cf_X0_isPart, cf_X0_isFamily, cf_X6_isOrder, cf_X6_add, cf_X2_fill, cj_X4_loadDryer_20, cj_X4_addOrder_22, cj_X6_add_21, cj_X0_changeSetting_26, cx_X11_checkOrder, cx_X11_checkColours]
theorem co_order_0_4_0_0 {f1 : kMem} (c0 : f1 1 0 = 4) (c1 : f1 1 1 = 4) (c2 : f1 1 2 = 3) (c3 : f1 18 0 = 1) : cf_X4_addOrder f1 0 4 0 0 = some (-1, rfC f1 1 0) := by
  simp [cf_X4_addOrder, kbind, kxbind, kchk, klet, kmem, klt, kle, keq, kbool, kin, kst, c_refuse, c0, c1, c2, c3, cf_X11_isWithin, cf_X0_isColour, cf_X0_isPart, cf_X0_isFamily, cf_X6_isOrder, cf_X6_add, cf_X2_fill, cj_X4_loadDryer_20, cj_X4_addOrder_22, cj_X6_add_21, cj_X0_changeSetting_26, cx_X11_checkOrder, cx_X11_checkColours]
theorem co_order_0_0_0_0 {f1 : kMem} (c0 : f1 1 0 = 4) (c1 : f1 1 1 = 4) (c2 : f1 1 2 = 3) (c3 : f1 18 0 = 1) : cf_X4_addOrder f1 0 0 0 0 = some (-1, rfC f1 2 0) := by
  simp [cf_X4_addOrder, kbind, kxbind, kchk, klet, kmem, klt, kle, keq, kbool, kin, kst, c_refuse, c0, c1, c2, c3, cf_X11_isWithin, cf_X0_isColour, cf_X0_isPart, cf_X0_isFamily, cf_X6_isOrder, cf_X6_add, cf_X2_fill, cj_X4_loadDryer_20, cj_X4_addOrder_22, cj_X6_add_21, cj_X0_changeSetting_26, cx_X11_checkOrder, cx_X11_checkColours]
theorem co_order_0_0_21_0 {f1 : kMem} (c0 : f1 1 0 = 4) (c1 : f1 1 1 = 4) (c2 : f1 1 2 = 3) (c3 : f1 18 0 = 1) : cf_X4_addOrder f1 0 0 21 0 = some (-1, rfC f1 2 0) := by
  simp [cf_X4_addOrder, kbind, kxbind, kchk, klet, kmem, klt, kle, keq, kbool, kin, kst, c_refuse, c0, c1, c2, c3, cf_X11_isWithin, cf_X0_isColour, cf_X0_isPart, cf_X0_isFamily, cf_X6_isOrder, cf_X6_add, cf_X2_fill, cj_X4_loadDryer_20, cj_X4_addOrder_22, cj_X6_add_21, cj_X0_changeSetting_26, cx_X11_checkOrder, cx_X11_checkColours]
theorem co_order_0_0_1_m1 {f1 : kMem} (c0 : f1 1 0 = 4) (c1 : f1 1 1 = 4) (c2 : f1 1 2 = 3) (c3 : f1 18 0 = 1) : cf_X4_addOrder f1 0 0 1 (-1) = some (-1, rfC f1 2 0) := by
  simp [cf_X4_addOrder, kbind, kxbind, kchk, klet, kmem, klt, kle, keq, kbool, kin, kst, c_refuse, c0, c1, c2, c3, cf_X11_isWithin, cf_X0_isColour, cf_X0_isPart, cf_X0_isFamily, cf_X6_isOrder, cf_X6_add, cf_X2_fill, cj_X4_loadDryer_20, cj_X4_addOrder_22, cj_X6_add_21, cj_X0_changeSetting_26, cx_X11_checkOrder, cx_X11_checkColours]
theorem co_order_0_0_1_100 {f1 : kMem} (c0 : f1 1 0 = 4) (c1 : f1 1 1 = 4) (c2 : f1 1 2 = 3) (c3 : f1 18 0 = 1) : cf_X4_addOrder f1 0 0 1 100 = some (-1, rfC f1 2 0) := by
  simp [cf_X4_addOrder, kbind, kxbind, kchk, klet, kmem, klt, kle, keq, kbool, kin, kst, c_refuse, c0, c1, c2, c3, cf_X11_isWithin, cf_X0_isColour, cf_X0_isPart, cf_X0_isFamily, cf_X6_isOrder, cf_X6_add, cf_X2_fill, cj_X4_loadDryer_20, cj_X4_addOrder_22, cj_X6_add_21, cj_X0_changeSetting_26, cx_X11_checkOrder, cx_X11_checkColours]
theorem co_callOff_1 {f1 : kMem} (c0 : f1 1 0 = 4) (c1 : f1 1 1 = 4) (c2 : f1 1 2 = 3) (c3 : f1 18 0 = 1) : cf_X6_close f1 1 = some (-1, rfC f1 1 0) := by
  simp [cf_X6_close, kbind, kxbind, kchk, klet, kmem, klt, kle, keq, kbool, kin, kst, c_refuse, c0, c1, c2, c3, cf_X11_isWithin, cf_X0_isColour, cf_X0_isPart, cf_X0_isFamily, cf_X6_isOrder, cf_X6_add, cf_X2_fill, cj_X4_loadDryer_20, cj_X4_addOrder_22, cj_X6_add_21, cj_X0_changeSetting_26, cx_X11_checkOrder, cx_X11_checkColours]
theorem co_set_4_0 {f1 : kMem} (c0 : f1 1 0 = 4) (c1 : f1 1 1 = 4) (c2 : f1 1 2 = 3) (c3 : f1 18 0 = 1) : cf_X0_changeSetting f1 4 0 = some (-1, rfC f1 2 0) := by
  simp [cf_X0_changeSetting, kbind, kxbind, kchk, klet, kmem, klt, kle, keq, kbool, kin, kst, c_refuse, c0, c1, c2, c3, cf_X11_isWithin, cf_X0_isColour, cf_X0_isPart, cf_X0_isFamily, cf_X6_isOrder, cf_X6_add, cf_X2_fill, cj_X4_loadDryer_20, cj_X4_addOrder_22, cj_X6_add_21, cj_X0_changeSetting_26, cx_X11_checkOrder, cx_X11_checkColours]
theorem co_set_m1_0 {f1 : kMem} (c0 : f1 1 0 = 4) (c1 : f1 1 1 = 4) (c2 : f1 1 2 = 3) (c3 : f1 18 0 = 1) : cf_X0_changeSetting f1 (-1) 0 = some (-1, rfC f1 2 0) := by
  simp [cf_X0_changeSetting, kbind, kxbind, kchk, klet, kmem, klt, kle, keq, kbool, kin, kst, c_refuse, c0, c1, c2, c3, cf_X11_isWithin, cf_X0_isColour, cf_X0_isPart, cf_X0_isFamily, cf_X6_isOrder, cf_X6_add, cf_X2_fill, cj_X4_loadDryer_20, cj_X4_addOrder_22, cj_X6_add_21, cj_X0_changeSetting_26, cx_X11_checkOrder, cx_X11_checkColours]
theorem co_set_0_59 {f1 : kMem} (c0 : f1 1 0 = 4) (c1 : f1 1 1 = 4) (c2 : f1 1 2 = 3) (c3 : f1 18 0 = 1) : cf_X0_changeSetting f1 0 59 = some (-1, rfC f1 2 0) := by
  simp [cf_X0_changeSetting, kbind, kxbind, kchk, klet, kmem, klt, kle, keq, kbool, kin, kst, c_refuse, c0, c1, c2, c3, cf_X11_isWithin, cf_X0_isColour, cf_X0_isPart, cf_X0_isFamily, cf_X6_isOrder, cf_X6_add, cf_X2_fill, cj_X4_loadDryer_20, cj_X4_addOrder_22, cj_X6_add_21, cj_X0_changeSetting_26, cx_X11_checkOrder, cx_X11_checkColours]
theorem co_set_0_10000 {f1 : kMem} (c0 : f1 1 0 = 4) (c1 : f1 1 1 = 4) (c2 : f1 1 2 = 3) (c3 : f1 18 0 = 1) : cf_X0_changeSetting f1 0 10000 = some (-1, rfC f1 2 0) := by
  simp [cf_X0_changeSetting, kbind, kxbind, kchk, klet, kmem, klt, kle, keq, kbool, kin, kst, c_refuse, c0, c1, c2, c3, cf_X11_isWithin, cf_X0_isColour, cf_X0_isPart, cf_X0_isFamily, cf_X6_isOrder, cf_X6_add, cf_X2_fill, cj_X4_loadDryer_20, cj_X4_addOrder_22, cj_X6_add_21, cj_X0_changeSetting_26, cx_X11_checkOrder, cx_X11_checkColours]
theorem co_set_1_1000 {f1 : kMem} (c0 : f1 1 0 = 4) (c1 : f1 1 1 = 4) (c2 : f1 1 2 = 3) (c3 : f1 18 0 = 1) : cf_X0_changeSetting f1 1 1000 = some (-1, rfC f1 2 0) := by
  simp [cf_X0_changeSetting, kbind, kxbind, kchk, klet, kmem, klt, kle, keq, kbool, kin, kst, c_refuse, c0, c1, c2, c3, cf_X11_isWithin, cf_X0_isColour, cf_X0_isPart, cf_X0_isFamily, cf_X6_isOrder, cf_X6_add, cf_X2_fill, cj_X4_loadDryer_20, cj_X4_addOrder_22, cj_X6_add_21, cj_X0_changeSetting_26, cx_X11_checkOrder, cx_X11_checkColours]
theorem co_set_2_6 {f1 : kMem} (c0 : f1 1 0 = 4) (c1 : f1 1 1 = 4) (c2 : f1 1 2 = 3) (c3 : f1 18 0 = 1) : cf_X0_changeSetting f1 2 6 = some (-1, rfC f1 2 0) := by
  simp [cf_X0_changeSetting, kbind, kxbind, kchk, klet, kmem, klt, kle, keq, kbool, kin, kst, c_refuse, c0, c1, c2, c3, cf_X11_isWithin, cf_X0_isColour, cf_X0_isPart, cf_X0_isFamily, cf_X6_isOrder, cf_X6_add, cf_X2_fill, cj_X4_loadDryer_20, cj_X4_addOrder_22, cj_X6_add_21, cj_X0_changeSetting_26, cx_X11_checkOrder, cx_X11_checkColours]
theorem co_set_3_100 {f1 : kMem} (c0 : f1 1 0 = 4) (c1 : f1 1 1 = 4) (c2 : f1 1 2 = 3) (c3 : f1 18 0 = 1) : cf_X0_changeSetting f1 3 100 = some (-1, rfC f1 2 0) := by
  simp [cf_X0_changeSetting, kbind, kxbind, kchk, klet, kmem, klt, kle, keq, kbool, kin, kst, c_refuse, c0, c1, c2, c3, cf_X11_isWithin, cf_X0_isColour, cf_X0_isPart, cf_X0_isFamily, cf_X6_isOrder, cf_X6_add, cf_X2_fill, cj_X4_loadDryer_20, cj_X4_addOrder_22, cj_X6_add_21, cj_X0_changeSetting_26, cx_X11_checkOrder, cx_X11_checkColours]
theorem co_set_3_m1 {f1 : kMem} (c0 : f1 1 0 = 4) (c1 : f1 1 1 = 4) (c2 : f1 1 2 = 3) (c3 : f1 18 0 = 1) : cf_X0_changeSetting f1 3 (-1) = some (-1, rfC f1 2 0) := by
  simp [cf_X0_changeSetting, kbind, kxbind, kchk, klet, kmem, klt, kle, keq, kbool, kin, kst, c_refuse, c0, c1, c2, c3, cf_X11_isWithin, cf_X0_isColour, cf_X0_isPart, cf_X0_isFamily, cf_X6_isOrder, cf_X6_add, cf_X2_fill, cj_X4_loadDryer_20, cj_X4_addOrder_22, cj_X6_add_21, cj_X0_changeSetting_26, cx_X11_checkOrder, cx_X11_checkColours]
theorem cq_purge_4_0 {f1 : kMem} (c0 : f1 1 0 = 4) (c1 : f1 1 1 = 4) (c2 : f1 1 2 = 3) (c3 : f1 18 0 = 1) : lf_purge f1 4 0 = some (-1001, f1) := by
  have e : cx_X11_purge f1 4 0 = some (3, 0, f1) := by
    simp [cx_X11_purge, kbind, kxbind, kchk, klet, kmem, klt, kle, keq, kbool, kin, kst, c_refuse, c0, c1, c2, c3, cf_X11_isWithin, cf_X0_isColour, cf_X0_isPart, cf_X0_isFamily, cf_X6_isOrder, cf_X6_add, cf_X2_fill, cj_X4_loadDryer_20, cj_X4_addOrder_22, cj_X6_add_21, cj_X0_changeSetting_26, cx_X11_checkOrder, cx_X11_checkColours, cj_X11_purge_28]
  unfold lf_purge
  rw [e]
  exact wvx_no (by decide) (by decide) (by decide)
theorem cq_purge_0_m1 {f1 : kMem} (c0 : f1 1 0 = 4) (c1 : f1 1 1 = 4) (c2 : f1 1 2 = 3) (c3 : f1 18 0 = 1) : lf_purge f1 0 (-1) = some (-1001, f1) := by
  have e : cx_X11_purge f1 0 (-1) = some (3, 0, f1) := by
    simp [cx_X11_purge, kbind, kxbind, kchk, klet, kmem, klt, kle, keq, kbool, kin, kst, c_refuse, c0, c1, c2, c3, cf_X11_isWithin, cf_X0_isColour, cf_X0_isPart, cf_X0_isFamily, cf_X6_isOrder, cf_X6_add, cf_X2_fill, cj_X4_loadDryer_20, cj_X4_addOrder_22, cj_X6_add_21, cj_X0_changeSetting_26, cx_X11_checkOrder, cx_X11_checkColours, cj_X11_purge_28]
  unfold lf_purge
  rw [e]
  exact wvx_no (by decide) (by decide) (by decide)
theorem cq_minutes_4_0 {f1 : kMem} (c0 : f1 1 0 = 4) (c1 : f1 1 1 = 4) (c2 : f1 1 2 = 3) (c3 : f1 18 0 = 1) : lf_minutes f1 4 0 = some (-1001, f1) := by
  have e : cx_X11_minutes f1 4 0 = some (3, 0, f1) := by
    simp [cx_X11_minutes, kbind, kxbind, kchk, klet, kmem, klt, kle, keq, kbool, kin, kst, c_refuse, c0, c1, c2, c3, cf_X11_isWithin, cf_X0_isColour, cf_X0_isPart, cf_X0_isFamily, cf_X6_isOrder, cf_X6_add, cf_X2_fill, cj_X4_loadDryer_20, cj_X4_addOrder_22, cj_X6_add_21, cj_X0_changeSetting_26, cx_X11_checkOrder, cx_X11_checkColours]
  unfold lf_minutes
  rw [e]
  exact wvx_no (by decide) (by decide) (by decide)
theorem cq_minutes_0_0 {f1 : kMem} (c0 : f1 1 0 = 4) (c1 : f1 1 1 = 4) (c2 : f1 1 2 = 3) (c3 : f1 18 0 = 1) : lf_minutes f1 0 0 = some (-1002, f1) := by
  have e : cx_X11_minutes f1 0 0 = some (2, 0, f1) := by
    simp [cx_X11_minutes, kbind, kxbind, kchk, klet, kmem, klt, kle, keq, kbool, kin, kst, c_refuse, c0, c1, c2, c3, cf_X11_isWithin, cf_X0_isColour, cf_X0_isPart, cf_X0_isFamily, cf_X6_isOrder, cf_X6_add, cf_X2_fill, cj_X4_loadDryer_20, cj_X4_addOrder_22, cj_X6_add_21, cj_X0_changeSetting_26, cx_X11_checkOrder, cx_X11_checkColours]
  unfold lf_minutes
  rw [e]
  exact wvx_no (by decide) (by decide) (by decide)
theorem cq_minutes_0_201 {f1 : kMem} (c0 : f1 1 0 = 4) (c1 : f1 1 1 = 4) (c2 : f1 1 2 = 3) (c3 : f1 18 0 = 1) : lf_minutes f1 0 201 = some (-1002, f1) := by
  have e : cx_X11_minutes f1 0 201 = some (2, 0, f1) := by
    simp [cx_X11_minutes, kbind, kxbind, kchk, klet, kmem, klt, kle, keq, kbool, kin, kst, c_refuse, c0, c1, c2, c3, cf_X11_isWithin, cf_X0_isColour, cf_X0_isPart, cf_X0_isFamily, cf_X6_isOrder, cf_X6_add, cf_X2_fill, cj_X4_loadDryer_20, cj_X4_addOrder_22, cj_X6_add_21, cj_X0_changeSetting_26, cx_X11_checkOrder, cx_X11_checkColours]
  unfold lf_minutes
  rw [e]
  exact wvx_no (by decide) (by decide) (by decide)
theorem cq_best_m1 {f1 : kMem} (c0 : f1 1 0 = 4) (c1 : f1 1 1 = 4) (c2 : f1 1 2 = 3) (c3 : f1 18 0 = 1) : lf_best f1 (-1) = some (-1001, f1) := by
  have e : cx_X11_best f1 (-1) = some (2, 0, f1) := by
    simp [cx_X11_best, kbind, kxbind, kchk, klet, kmem, klt, kle, keq, kbool, kin, kst, c_refuse, c0, c1, c2, c3, cf_X11_isWithin, cf_X0_isColour, cf_X0_isPart, cf_X0_isFamily, cf_X6_isOrder, cf_X6_add, cf_X2_fill, cj_X4_loadDryer_20, cj_X4_addOrder_22, cj_X6_add_21, cj_X0_changeSetting_26, cx_X11_checkOrder, cx_X11_checkColours, cj_X11_checkColours_19, show ((16 : Int32) >>> (4 &&& 31) = 0) = False from eq_false (by decide)]
  unfold lf_best
  rw [e]
  exact wvx_no (by decide) (by decide) (by decide)
theorem cq_best_16 {f1 : kMem} (c0 : f1 1 0 = 4) (c1 : f1 1 1 = 4) (c2 : f1 1 2 = 3) (c3 : f1 18 0 = 1) : lf_best f1 16 = some (-1001, f1) := by
  have e : cx_X11_best f1 16 = some (2, 0, f1) := by
    simp [cx_X11_best, kbind, kxbind, kchk, klet, kmem, klt, kle, keq, kbool, kin, kst, c_refuse, c0, c1, c2, c3, cf_X11_isWithin, cf_X0_isColour, cf_X0_isPart, cf_X0_isFamily, cf_X6_isOrder, cf_X6_add, cf_X2_fill, cj_X4_loadDryer_20, cj_X4_addOrder_22, cj_X6_add_21, cj_X0_changeSetting_26, cx_X11_checkOrder, cx_X11_checkColours, cj_X11_checkColours_19, show ((16 : Int32) >>> (4 &&& 31) = 0) = False from eq_false (by decide)]
  unfold lf_best
  rw [e]
  exact wvx_no (by decide) (by decide) (by decide)
theorem cq_familyOf_3_9 {f1 : kMem} (c0 : f1 1 0 = 4) (c1 : f1 1 1 = 4) (c2 : f1 1 2 = 3) (c3 : f1 18 0 = 1) : lf_familyOf f1 3 9 = some (-1001, f1) := by
  have e : cx_X11_familyOf f1 3 9 = some (3, 0, f1) := by
    simp [cx_X11_familyOf, kbind, kxbind, kchk, klet, kmem, klt, kle, keq, kbool, kin, kst, c_refuse, c0, c1, c2, c3, cf_X11_isWithin, cf_X0_isColour, cf_X0_isPart, cf_X0_isFamily, cf_X6_isOrder, cf_X6_add, cf_X2_fill, cj_X4_loadDryer_20, cj_X4_addOrder_22, cj_X6_add_21, cj_X0_changeSetting_26, cx_X11_checkOrder, cx_X11_checkColours]
  unfold lf_familyOf
  rw [e]
  exact wvx_no (by decide) (by decide) (by decide)
theorem cq_familyOf_0_5 {f1 : kMem} (c0 : f1 1 0 = 4) (c1 : f1 1 1 = 4) (c2 : f1 1 2 = 3) (c3 : f1 18 0 = 1) : lf_familyOf f1 0 5 = some (-1002, f1) := by
  have e : cx_X11_familyOf f1 0 5 = some (2, 0, f1) := by
    simp [cx_X11_familyOf, kbind, kxbind, kchk, klet, kmem, klt, kle, keq, kbool, kin, kst, c_refuse, c0, c1, c2, c3, cf_X11_isWithin, cf_X0_isColour, cf_X0_isPart, cf_X0_isFamily, cf_X6_isOrder, cf_X6_add, cf_X2_fill, cj_X4_loadDryer_20, cj_X4_addOrder_22, cj_X6_add_21, cj_X0_changeSetting_26, cx_X11_checkOrder, cx_X11_checkColours]
  unfold lf_familyOf
  rw [e]
  exact wvx_no (by decide) (by decide) (by decide)
theorem cq_pieces_0_4 {f1 : kMem} (c0 : f1 1 0 = 4) (c1 : f1 1 1 = 4) (c2 : f1 1 2 = 3) (c3 : f1 18 0 = 1) : lf_pieces f1 0 4 = some (-1001, f1) := by
  have e : cx_X11_pieces f1 0 4 = some (3, 0, f1) := by
    simp [cx_X11_pieces, kbind, kxbind, kchk, klet, kmem, klt, kle, keq, kbool, kin, kst, c_refuse, c0, c1, c2, c3, cf_X11_isWithin, cf_X0_isColour, cf_X0_isPart, cf_X0_isFamily, cf_X6_isOrder, cf_X6_add, cf_X2_fill, cj_X4_loadDryer_20, cj_X4_addOrder_22, cj_X6_add_21, cj_X0_changeSetting_26, cx_X11_checkOrder, cx_X11_checkColours, cj_X11_pieces_28]
  unfold lf_pieces
  rw [e]
  exact wvx_no (by decide) (by decide) (by decide)
theorem cq_pieces_3_0 {f1 : kMem} (c0 : f1 1 0 = 4) (c1 : f1 1 1 = 4) (c2 : f1 1 2 = 3) (c3 : f1 18 0 = 1) : lf_pieces f1 3 0 = some (-1001, f1) := by
  have e : cx_X11_pieces f1 3 0 = some (3, 0, f1) := by
    simp [cx_X11_pieces, kbind, kxbind, kchk, klet, kmem, klt, kle, keq, kbool, kin, kst, c_refuse, c0, c1, c2, c3, cf_X11_isWithin, cf_X0_isColour, cf_X0_isPart, cf_X0_isFamily, cf_X6_isOrder, cf_X6_add, cf_X2_fill, cj_X4_loadDryer_20, cj_X4_addOrder_22, cj_X6_add_21, cj_X0_changeSetting_26, cx_X11_checkOrder, cx_X11_checkColours, cj_X11_pieces_28]
  unfold lf_pieces
  rw [e]
  exact wvx_no (by decide) (by decide) (by decide)
theorem cq_families_4 {f1 : kMem} (c0 : f1 1 0 = 4) (c1 : f1 1 1 = 4) (c2 : f1 1 2 = 3) (c3 : f1 18 0 = 1) : lf_families f1 4 = some (-1001, f1) := by
  have e : cx_X11_families f1 4 = some (3, 0, f1) := by
    simp [cx_X11_families, kbind, kxbind, kchk, klet, kmem, klt, kle, keq, kbool, kin, kst, c_refuse, c0, c1, c2, c3, cf_X11_isWithin, cf_X0_isColour, cf_X0_isPart, cf_X0_isFamily, cf_X6_isOrder, cf_X6_add, cf_X2_fill, cj_X4_loadDryer_20, cj_X4_addOrder_22, cj_X6_add_21, cj_X0_changeSetting_26, cx_X11_checkOrder, cx_X11_checkColours]
  unfold lf_families
  rw [e]
  exact wvx_no (by decide) (by decide) (by decide)
theorem cq_dryer_3_9 {f1 : kMem} (c0 : f1 1 0 = 4) (c1 : f1 1 1 = 4) (c2 : f1 1 2 = 3) (c3 : f1 18 0 = 1) : lf_dryer f1 3 9 = some (-1001, f1) := by
  have e : cx_X11_dryer f1 3 9 = some (3, 0, f1) := by
    simp [cx_X11_dryer, kbind, kxbind, kchk, klet, kmem, klt, kle, keq, kbool, kin, kst, c_refuse, c0, c1, c2, c3, cf_X11_isWithin, cf_X0_isColour, cf_X0_isPart, cf_X0_isFamily, cf_X6_isOrder, cf_X6_add, cf_X2_fill, cj_X4_loadDryer_20, cj_X4_addOrder_22, cj_X6_add_21, cj_X0_changeSetting_26, cx_X11_checkOrder, cx_X11_checkColours]
  unfold lf_dryer
  rw [e]
  exact wvx_no (by decide) (by decide) (by decide)
theorem cq_dryer_0_4 {f1 : kMem} (c0 : f1 1 0 = 4) (c1 : f1 1 1 = 4) (c2 : f1 1 2 = 3) (c3 : f1 18 0 = 1) : lf_dryer f1 0 4 = some (-1002, f1) := by
  have e : cx_X11_dryer f1 0 4 = some (2, 0, f1) := by
    simp [cx_X11_dryer, kbind, kxbind, kchk, klet, kmem, klt, kle, keq, kbool, kin, kst, c_refuse, c0, c1, c2, c3, cf_X11_isWithin, cf_X0_isColour, cf_X0_isPart, cf_X0_isFamily, cf_X6_isOrder, cf_X6_add, cf_X2_fill, cj_X4_loadDryer_20, cj_X4_addOrder_22, cj_X6_add_21, cj_X0_changeSetting_26, cx_X11_checkOrder, cx_X11_checkColours]
  unfold lf_dryer
  rw [e]
  exact wvx_no (by decide) (by decide) (by decide)
theorem cq_dryer_0_m1 {f1 : kMem} (c0 : f1 1 0 = 4) (c1 : f1 1 1 = 4) (c2 : f1 1 2 = 3) (c3 : f1 18 0 = 1) : lf_dryer f1 0 (-1) = some (-1002, f1) := by
  have e : cx_X11_dryer f1 0 (-1) = some (2, 0, f1) := by
    simp [cx_X11_dryer, kbind, kxbind, kchk, klet, kmem, klt, kle, keq, kbool, kin, kst, c_refuse, c0, c1, c2, c3, cf_X11_isWithin, cf_X0_isColour, cf_X0_isPart, cf_X0_isFamily, cf_X6_isOrder, cf_X6_add, cf_X2_fill, cj_X4_loadDryer_20, cj_X4_addOrder_22, cj_X6_add_21, cj_X0_changeSetting_26, cx_X11_checkOrder, cx_X11_checkColours]
  unfold lf_dryer
  rw [e]
  exact wvx_no (by decide) (by decide) (by decide)
theorem cq_stock_4_0_0 {f1 : kMem} (c0 : f1 1 0 = 4) (c1 : f1 1 1 = 4) (c2 : f1 1 2 = 3) (c3 : f1 18 0 = 1) : lf_stock f1 4 0 0 = some (-1001, f1) := by
  have e : cx_X11_stock f1 4 0 0 = some (3, 0, f1) := by
    simp [cx_X11_stock, kbind, kxbind, kchk, klet, kmem, klt, kle, keq, kbool, kin, kst, c_refuse, c0, c1, c2, c3, cf_X11_isWithin, cf_X0_isColour, cf_X0_isPart, cf_X0_isFamily, cf_X6_isOrder, cf_X6_add, cf_X2_fill, cj_X4_loadDryer_20, cj_X4_addOrder_22, cj_X6_add_21, cj_X0_changeSetting_26, cx_X11_checkOrder, cx_X11_checkColours, cj_X11_stock_28]
  unfold lf_stock
  rw [e]
  exact wvx_no (by decide) (by decide) (by decide)
theorem cq_stock_0_4_9 {f1 : kMem} (c0 : f1 1 0 = 4) (c1 : f1 1 1 = 4) (c2 : f1 1 2 = 3) (c3 : f1 18 0 = 1) : lf_stock f1 0 4 9 = some (-1001, f1) := by
  have e : cx_X11_stock f1 0 4 9 = some (3, 0, f1) := by
    simp [cx_X11_stock, kbind, kxbind, kchk, klet, kmem, klt, kle, keq, kbool, kin, kst, c_refuse, c0, c1, c2, c3, cf_X11_isWithin, cf_X0_isColour, cf_X0_isPart, cf_X0_isFamily, cf_X6_isOrder, cf_X6_add, cf_X2_fill, cj_X4_loadDryer_20, cj_X4_addOrder_22, cj_X6_add_21, cj_X0_changeSetting_26, cx_X11_checkOrder, cx_X11_checkColours, cj_X11_stock_28]
  unfold lf_stock
  rw [e]
  exact wvx_no (by decide) (by decide) (by decide)
theorem cq_stock_0_0_3 {f1 : kMem} (c0 : f1 1 0 = 4) (c1 : f1 1 1 = 4) (c2 : f1 1 2 = 3) (c3 : f1 18 0 = 1) : lf_stock f1 0 0 3 = some (-1002, f1) := by
  have e : cx_X11_stock f1 0 0 3 = some (2, 0, f1) := by
    simp [cx_X11_stock, kbind, kxbind, kchk, klet, kmem, klt, kle, keq, kbool, kin, kst, c_refuse, c0, c1, c2, c3, cf_X11_isWithin, cf_X0_isColour, cf_X0_isPart, cf_X0_isFamily, cf_X6_isOrder, cf_X6_add, cf_X2_fill, cj_X4_loadDryer_20, cj_X4_addOrder_22, cj_X6_add_21, cj_X0_changeSetting_26, cx_X11_checkOrder, cx_X11_checkColours, cj_X11_stock_28]
  unfold lf_stock
  rw [e]
  exact wvx_no (by decide) (by decide) (by decide)
theorem cq_made_4_0 {f1 : kMem} (c0 : f1 1 0 = 4) (c1 : f1 1 1 = 4) (c2 : f1 1 2 = 3) (c3 : f1 18 0 = 1) : lf_made f1 4 0 = some (-1001, f1) := by
  have e : cx_X11_made f1 4 0 = some (3, 0, f1) := by
    simp [cx_X11_made, kbind, kxbind, kchk, klet, kmem, klt, kle, keq, kbool, kin, kst, c_refuse, c0, c1, c2, c3, cf_X11_isWithin, cf_X0_isColour, cf_X0_isPart, cf_X0_isFamily, cf_X6_isOrder, cf_X6_add, cf_X2_fill, cj_X4_loadDryer_20, cj_X4_addOrder_22, cj_X6_add_21, cj_X0_changeSetting_26, cx_X11_checkOrder, cx_X11_checkColours]
  unfold lf_made
  rw [e]
  exact wvx_no (by decide) (by decide) (by decide)
theorem cq_made_0_4 {f1 : kMem} (c0 : f1 1 0 = 4) (c1 : f1 1 1 = 4) (c2 : f1 1 2 = 3) (c3 : f1 18 0 = 1) : lf_made f1 0 4 = some (-1002, f1) := by
  have e : cx_X11_made f1 0 4 = some (2, 0, f1) := by
    simp [cx_X11_made, kbind, kxbind, kchk, klet, kmem, klt, kle, keq, kbool, kin, kst, c_refuse, c0, c1, c2, c3, cf_X11_isWithin, cf_X0_isColour, cf_X0_isPart, cf_X0_isFamily, cf_X6_isOrder, cf_X6_add, cf_X2_fill, cj_X4_loadDryer_20, cj_X4_addOrder_22, cj_X6_add_21, cj_X0_changeSetting_26, cx_X11_checkOrder, cx_X11_checkColours]
  unfold lf_made
  rw [e]
  exact wvx_no (by decide) (by decide) (by decide)
theorem cq_orderOf_1_9 {f1 : kMem} (c0 : f1 1 0 = 4) (c1 : f1 1 1 = 4) (c2 : f1 1 2 = 3) (c3 : f1 18 0 = 1) : lf_orderOf f1 1 9 = some (-1001, f1) := by
  have e : cx_X11_orderOf f1 1 9 = some (3, 0, f1) := by
    simp [cx_X11_orderOf, kbind, kxbind, kchk, klet, kmem, klt, kle, keq, kbool, kin, kst, c_refuse, c0, c1, c2, c3, cf_X11_isWithin, cf_X0_isColour, cf_X0_isPart, cf_X0_isFamily, cf_X6_isOrder, cf_X6_add, cf_X2_fill, cj_X4_loadDryer_20, cj_X4_addOrder_22, cj_X6_add_21, cj_X0_changeSetting_26, cx_X11_checkOrder, cx_X11_checkColours]
  unfold lf_orderOf
  rw [e]
  exact wvx_no (by decide) (by decide) (by decide)
theorem cq_shots_1 {f1 : kMem} (c0 : f1 1 0 = 4) (c1 : f1 1 1 = 4) (c2 : f1 1 2 = 3) (c3 : f1 18 0 = 1) : lf_shots f1 1 = some (-1001, f1) := by
  have e : cx_X11_shots f1 1 = some (3, 0, f1) := by
    simp [cx_X11_shots, kbind, kxbind, kchk, klet, kmem, klt, kle, keq, kbool, kin, kst, c_refuse, c0, c1, c2, c3, cf_X11_isWithin, cf_X0_isColour, cf_X0_isPart, cf_X0_isFamily, cf_X6_isOrder, cf_X6_add, cf_X2_fill, cj_X4_loadDryer_20, cj_X4_addOrder_22, cj_X6_add_21, cj_X0_changeSetting_26, cx_X11_checkOrder, cx_X11_checkColours]
  unfold lf_shots
  rw [e]
  exact wvx_no (by decide) (by decide) (by decide)
theorem cq_letter_1 {f1 : kMem} (c0 : f1 1 0 = 4) (c1 : f1 1 1 = 4) (c2 : f1 1 2 = 3) (c3 : f1 18 0 = 1) : lf_letter f1 1 = some (-1001, f1) := by
  have e : cx_X11_letter f1 1 = some (3, 0, f1) := by
    simp [cx_X11_letter, kbind, kxbind, kchk, klet, kmem, klt, kle, keq, kbool, kin, kst, c_refuse, c0, c1, c2, c3, cf_X11_isWithin, cf_X0_isColour, cf_X0_isPart, cf_X0_isFamily, cf_X6_isOrder, cf_X6_add, cf_X2_fill, cj_X4_loadDryer_20, cj_X4_addOrder_22, cj_X6_add_21, cj_X0_changeSetting_26, cx_X11_checkOrder, cx_X11_checkColours]
  unfold lf_letter
  rw [e]
  exact wvx_no (by decide) (by decide) (by decide)
theorem cq_due_m1 {f1 : kMem} (c0 : f1 1 0 = 4) (c1 : f1 1 1 = 4) (c2 : f1 1 2 = 3) (c3 : f1 18 0 = 1) : lf_due f1 (-1) = some (-1001, f1) := by
  have e : cx_X11_due f1 (-1) = some (2, 0, f1) := by
    simp [cx_X11_due, kbind, kxbind, kchk, klet, kmem, klt, kle, keq, kbool, kin, kst, c_refuse, c0, c1, c2, c3, cf_X11_isWithin, cf_X0_isColour, cf_X0_isPart, cf_X0_isFamily, cf_X6_isOrder, cf_X6_add, cf_X2_fill, cj_X4_loadDryer_20, cj_X4_addOrder_22, cj_X6_add_21, cj_X0_changeSetting_26, cx_X11_checkOrder, cx_X11_checkColours]
  unfold lf_due
  rw [e]
  exact wvx_no (by decide) (by decide) (by decide)
theorem cq_reason_m1_1 {f1 : kMem} (c0 : f1 1 0 = 4) (c1 : f1 1 1 = 4) (c2 : f1 1 2 = 3) (c3 : f1 18 0 = 1) (cr : f1 277 2 = 1) : lf_reason f1 (-1) 1 = some (-1001, f1) := by
  have e : cx_X11_reason f1 (-1) 1 = some (2, 0, f1) := by
    simp [cx_X11_reason, kbind, kxbind, kchk, klet, kmem, klt, kle, keq, kbool, kin, kst, c_refuse, c0, c1, c2, c3, cf_X11_isWithin, cf_X0_isColour, cf_X0_isPart, cf_X0_isFamily, cf_X6_isOrder, cf_X6_add, cf_X2_fill, cj_X4_loadDryer_20, cj_X4_addOrder_22, cj_X6_add_21, cj_X0_changeSetting_26, cx_X11_checkOrder, cx_X11_checkColours, cr]
  unfold lf_reason
  rw [e]
  exact wvx_no (by decide) (by decide) (by decide)
theorem cq_reason_9_1 {f1 : kMem} (c0 : f1 1 0 = 4) (c1 : f1 1 1 = 4) (c2 : f1 1 2 = 3) (c3 : f1 18 0 = 1) (cr : f1 277 2 = 1) : lf_reason f1 9 1 = some (-1002, f1) := by
  have e : cx_X11_reason f1 9 1 = some (5, 0, f1) := by
    simp [cx_X11_reason, kbind, kxbind, kchk, klet, kmem, klt, kle, keq, kbool, kin, kst, c_refuse, c0, c1, c2, c3, cf_X11_isWithin, cf_X0_isColour, cf_X0_isPart, cf_X0_isFamily, cf_X6_isOrder, cf_X6_add, cf_X2_fill, cj_X4_loadDryer_20, cj_X4_addOrder_22, cj_X6_add_21, cj_X0_changeSetting_26, cx_X11_checkOrder, cx_X11_checkColours, cr]
  unfold lf_reason
  rw [e]
  exact wvx_no (by decide) (by decide) (by decide)
theorem cq_account_19 {f1 : kMem} (c0 : f1 1 0 = 4) (c1 : f1 1 1 = 4) (c2 : f1 1 2 = 3) (c3 : f1 18 0 = 1) : lf_account f1 19 = some (-1001, f1) := by
  have e : cx_X11_account f1 19 = some (2, 0, f1) := by
    simp [cx_X11_account, kbind, kxbind, kchk, klet, kmem, klt, kle, keq, kbool, kin, kst, c_refuse, c0, c1, c2, c3, cf_X11_isWithin, cf_X0_isColour, cf_X0_isPart, cf_X0_isFamily, cf_X6_isOrder, cf_X6_add, cf_X2_fill, cj_X4_loadDryer_20, cj_X4_addOrder_22, cj_X6_add_21, cj_X0_changeSetting_26, cx_X11_checkOrder, cx_X11_checkColours]
  unfold lf_account
  rw [e]
  exact wvx_no (by decide) (by decide) (by decide)
theorem cq_account_m1 {f1 : kMem} (c0 : f1 1 0 = 4) (c1 : f1 1 1 = 4) (c2 : f1 1 2 = 3) (c3 : f1 18 0 = 1) : lf_account f1 (-1) = some (-1001, f1) := by
  have e : cx_X11_account f1 (-1) = some (2, 0, f1) := by
    simp [cx_X11_account, kbind, kxbind, kchk, klet, kmem, klt, kle, keq, kbool, kin, kst, c_refuse, c0, c1, c2, c3, cf_X11_isWithin, cf_X0_isColour, cf_X0_isPart, cf_X0_isFamily, cf_X6_isOrder, cf_X6_add, cf_X2_fill, cj_X4_loadDryer_20, cj_X4_addOrder_22, cj_X6_add_21, cj_X0_changeSetting_26, cx_X11_checkOrder, cx_X11_checkColours]
  unfold lf_account
  rw [e]
  exact wvx_no (by decide) (by decide) (by decide)
