/-! the law from its entry: what the claim gives of the start -/
theorem hts_k {s : State} {b : Nat} (hts : ∀ w ∈ lw_tbl, w.before #[Value.ref b] s = true) : ∀ w ∈ kGT, w.before #[Value.ref b] s = true := fun w hw => hts w (List.mem_filter.mp hw).1
theorem kin_Jx00060 : ∀ z ∈ u_ws RJx00060 TJx00060 6, z ∈ kGT := kgt_all (by decide +kernel)
theorem st_arr {s : State} {args : Array Value} {ty : FieldType} (h : (Cond.arrayClass ty).before args s = true) (hty : ∀ C, ty ≠ .object C) : ∃ cA, ArrOfT s cA ty ∧ va_RA s cA ty := by
  obtain ⟨cA, kA, comp, h1, h2, h3⟩ := Cond.arrayClass_spec h
  refine ⟨cA, fun n z => ⟨(fun k h => by cases h), kA, h2, comp, h3⟩, ?_⟩
  unfold va_RA
  cases ty <;> first | exact absurd rfl (hty _) | exact h1
theorem st_arrF {s : State} {C : String} (h : va_AO C s) : ∃ cA, ArrOfT s cA (.object C) ∧ va_RA s cA (.object C) := by
  obtain ⟨comp, c, k, h1, h2, h3, h4, h5⟩ := Cond.arrayOver_spec h
  exact ⟨c, fun n z => ⟨(fun k h => by cases h), k, h3, comp, h4⟩, k, comp, h3, h4, h1, h5⟩
theorem wsa_I : Cond.arrayClass .int ∈ kGT := kgt (List.mem_of_getElem? (i := 117) (by decide +kernel)) rfl
theorem wsa_C : Cond.arrayClass .char ∈ kGT := kgt (List.mem_of_getElem? (i := 315) (by decide +kernel)) rfl
theorem wsa_L : Cond.arrayClass .long ∈ kGT := kgt (List.mem_of_getElem? (i := 1602) (by decide +kernel)) rfl
theorem wsa_Y : Cond.arrayClass .byte ∈ kGT := kgt (List.mem_of_getElem? (i := 524) (by decide +kernel)) rfl
theorem wst_F : Cond.arrayOver (.object "MouldFloor$Floor") ∈ lw_tbl := (List.mem_of_getElem? (i := 262) (by decide +kernel))
theorem st_K {s : State} {b : Nat} (htl : ∀ w ∈ lw_tbl, w.before #[Value.ref b] s = true) : ∃ (G : kG) (cL cY : ClassId), ∀ st b L xs, va_K G.1 vwCl (mTy (G, cL, cY, st, b, L, xs)) s := by
  have hts := hts_k htl
  obtain ⟨c0, i0, h0⟩ := u_known (C := RJ0) (T := TJ0) (N := 4) (n := 4) hts kin_J0 (hts (.instantiable RJ0 4) (kgt (List.mem_of_getElem? (i := 961) (by decide +kernel)) rfl))
  obtain ⟨c1, i1, h1⟩ := u_known (C := RJ4) (T := TJ4) (N := 4) (n := 4) hts kin_J4 (hts (.instantiable RJ4 4) (kgt (List.mem_of_getElem? (i := 1104) (by decide +kernel)) rfl))
  obtain ⟨c2, i2, h2⟩ := u_known (C := RJx00060) (T := TJx00060) (N := 6) (n := 6) hts kin_Jx00060 (hts (.instantiable RJx00060 6) (kgt (List.mem_of_getElem? (i := 943) (by decide +kernel)) rfl))
  obtain ⟨c3, i3, h3⟩ := u_known (C := RX0) (T := TX0) (N := 9) (n := 9) hts kin_X0 (hts (.instantiable RX0 9) (kgt (List.mem_of_getElem? (i := 72) (by decide +kernel)) rfl))
  obtain ⟨c4, i4, h4⟩ := u_known (C := RX1) (T := TX1) (N := 2) (n := 2) hts kin_X1 (hts (.instantiable RX1 2) (kgt (List.mem_of_getElem? (i := 358) (by decide +kernel)) rfl))
  obtain ⟨c5, i5, h5⟩ := u_known (C := RX2) (T := TX2) (N := 3) (n := 3) hts kin_X2 (hts (.instantiable RX2 3) (kgt (List.mem_of_getElem? (i := 119) (by decide +kernel)) rfl))
  obtain ⟨c6, i6, h6⟩ := u_known (C := RX3) (T := TX3) (N := 5) (n := 5) hts kin_X3 (hts (.instantiable RX3 5) (kgt (List.mem_of_getElem? (i := 317) (by decide +kernel)) rfl))
  obtain ⟨c7, i7, h7⟩ := u_known (C := RX4) (T := TX4) (N := 12) (n := 12) hts kin_X4 (hts (.instantiable RX4 12) (kgt (List.mem_of_getElem? (i := 66) (by decide +kernel)) rfl))
  obtain ⟨c8, i8, h8⟩ := u_known (C := RX5) (T := TX5) (N := 3) (n := 3) hts kin_X5 (hts (.instantiable RX5 3) (kgt (List.mem_of_getElem? (i := 256) (by decide +kernel)) rfl))
  obtain ⟨c9, i9, h9⟩ := u_known (C := RX6) (T := TX6) (N := 7) (n := 7) hts kin_X6 (hts (.instantiable RX6 7) (kgt (List.mem_of_getElem? (i := 168) (by decide +kernel)) rfl))
  obtain ⟨c10, i10, h10⟩ := u_known (C := RX7) (T := TX7) (N := 3) (n := 3) hts kin_X7 (hts (.instantiable RX7 3) (kgt (List.mem_of_getElem? (i := 341) (by decide +kernel)) rfl))
  obtain ⟨c11, i11, h11⟩ := u_known (C := RX8) (T := TX8) (N := 3) (n := 3) hts kin_X8 (hts (.instantiable RX8 3) (kgt (List.mem_of_getElem? (i := 276) (by decide +kernel)) rfl))
  obtain ⟨c12, i12, h12⟩ := u_known (C := RX9) (T := TX9) (N := 5) (n := 5) hts kin_X9 (hts (.instantiable RX9 5) (kgt (List.mem_of_getElem? (i := 139) (by decide +kernel)) rfl))
  obtain ⟨c13, i13, h13⟩ := u_known (C := RX10) (T := TX10) (N := 4) (n := 4) hts kin_X10 (hts (.instantiable RX10 4) (kgt (List.mem_of_getElem? (i := 295) (by decide +kernel)) rfl))
  obtain ⟨c14, i14, h14⟩ := u_known (C := RX11) (T := TX11) (N := 9) (n := 9) hts kin_X11 (hts (.instantiable RX11 9) (kgt (List.mem_of_getElem? (i := 58) (by decide +kernel)) rfl))
  obtain ⟨aI, hI1, hI2⟩ := st_arr (hts _ wsa_I) (fun _ h => by cases h)
  obtain ⟨aC, hC1, hC2⟩ := st_arr (hts _ wsa_C) (fun _ h => by cases h)
  obtain ⟨aF, hF1, hF2⟩ := st_arrF (va_AO.of (htl _ wst_F))
  obtain ⟨aL, hL1, hL2⟩ := st_arr (hts _ wsa_L) (fun _ h => by cases h)
  obtain ⟨aY, hY1, hY2⟩ := st_arr (hts _ wsa_Y) (fun _ h => by cases h)
  refine ⟨((fun k => if k = 0 then c0 else if k = 1 then c1 else if k = 2 then c2 else if k = 3 then c3 else if k = 4 then c4 else if k = 5 then c5 else if k = 6 then c6 else if k = 7 then c7 else if k = 8 then c8 else if k = 9 then c9 else if k = 10 then c10 else if k = 11 then c11 else if k = 12 then c12 else if k = 13 then c13 else c14, fun k => if k = 0 then i0 else if k = 1 then i1 else if k = 2 then i2 else if k = 3 then i3 else if k = 4 then i4 else if k = 5 then i5 else if k = 6 then i6 else if k = 7 then i7 else if k = 8 then i8 else if k = 9 then i9 else if k = 10 then i10 else if k = 11 then i11 else if k = 12 then i12 else if k = 13 then i13 else i14), aI, aC, aF), aL, aY, fun st b L xs => ⟨fun k q hq => ?_, fun k q hq => ?_⟩⟩
  · match k, hq with
    | 0, hq => cases hq; exact h0
    | 1, hq => cases hq; exact h1
    | 2, hq => cases hq; exact h2
    | 3, hq => cases hq; exact h3
    | 4, hq => cases hq; exact h4
    | 5, hq => cases hq; exact h5
    | 6, hq => cases hq; exact h6
    | 7, hq => cases hq; exact h7
    | 8, hq => cases hq; exact h8
    | 9, hq => cases hq; exact h9
    | 10, hq => cases hq; exact h10
    | 11, hq => cases hq; exact h11
    | 12, hq => cases hq; exact h12
    | 13, hq => cases hq; exact h13
    | 14, hq => cases hq; exact h14
    | k + 15, hq => simp [vwCl] at hq
  · match k, hq with
    | 0, hq => cases hq; exact ⟨hI1, hI2⟩
    | 1, hq => cases hq; exact ⟨hC1, hC2⟩
    | 2, hq => cases hq; exact ⟨hF1, hF2⟩
    | 3, hq => cases hq; exact ⟨hL1, hL2⟩
    | 4, hq => cases hq; exact ⟨hY1, hY2⟩
    | k + 5, hq => simp [mTy] at hq
abbrev stF : List Cond := flatC (Jvm.Cond.and given_1 narrow_1)
theorem st_at {l : List Cond} {is : List Nat} (h : l.map some = is.map (fun i => stF[i]?)) : ∀ c ∈ l, c ∈ stF := fun c hc => by
  have h1 : some c ∈ is.map (fun i => stF[i]?) := by rw [← h]; exact List.mem_map_of_mem hc
  obtain ⟨i, -, hi⟩ := List.mem_map.mp h1
  exact List.mem_of_getElem? hi
def tabC (C n d : String) (ty : FieldType) (N : Nat) (g : Nat → Int32) : List Cond := [.arrayOf (.static C n d) ty, .eq (.length (.static C n d)) (.int (Int32.ofNat N))] ++ (List.range N).map (fun j => .eq (.elem (.static C n d) (.int (Int32.ofNat j))) (.int (g j)))
theorem st_tab {s : State} {b : Nat} {C n d : String} {ty : FieldType} {N : Nat} {g : Nat → Int32} (hN : N < 2 ^ 31) (hl : (Cond.laysStatic C n d).before #[Value.ref b] s = true) (hini : (Cond.initialized C).before #[Value.ref b] s = true) (hs : ∀ c ∈ stF, c.before #[Value.ref b] s = true) (is : List Nat) (ht : (tabC C n d ty N g).map some = is.map (fun i => stF[i]?)) : ∃ t, va_Z C n d (.ref t) (AL s) s s.heap ∧ va_T ty t N (fun j => .int (g j)) (AL s) s s.heap := by
  have hA : ∀ a : Nat, a < s.heap.size → ¬ AL s a := fun a h => Nat.not_le.mpr h
  have h1 : ∀ c ∈ tabC C n d ty N g, c.before #[Value.ref b] s = true := fun c hc => hs c (st_at ht c hc)
  unfold tabC at h1
  obtain ⟨t, h4, h5⟩ := va_Tof (N := N) (f := fun j => .int (g j)) hN (h1 (.arrayOf (.static C n d) ty) (by simp)) (va_eqt (h1 (.eq (.length (.static C n d)) (.int (Int32.ofNat N))) (by simp))) (fun j hj => va_eqt (h1 _ (List.mem_append_right _ (List.mem_map.mpr ⟨j, List.mem_range.mpr hj, rfl⟩)))) hA
  exact ⟨t, va_Zof hl hini h4 hA, h5⟩
def litC (i : Nat) (t : List Int32) : List Cond := [.exactly (.string RL i) "java/lang/String", .eq (.field (.string RL i) "java/lang/String" "coder" "B") (.int 0), .arrayOf (.field (.string RL i) "java/lang/String" "value" "[B") .byte, .eq (.length (.field (.string RL i) "java/lang/String" "value" "[B")) (.int (Int32.ofNat t.length))] ++ (List.range t.length).map (fun j => .eq (.elem (.field (.string RL i) "java/lang/String" "value" "[B") (.int (Int32.ofNat j))) (.int (t.getD j 0)))
theorem st_l245 : Cond.stringRef RL 245 "3 20 " ∈ lw_tbl ∧ (mTx "3 20 ").length < 2 ^ 31 ∧ ∀ c ∈ litC 245 (mTx "3 20 "), c ∈ stF := ⟨List.mem_of_getElem? (i := 1562) (by decide +kernel), by decide +kernel, st_at (is := [1269, 1270, 1271, 1272, 1273, 1274, 1275, 1276, 1277]) (by decide +kernel)⟩
theorem st_l250 : Cond.stringRef RL 250 "x2 " ∈ lw_tbl ∧ (mTx "x2 ").length < 2 ^ 31 ∧ ∀ c ∈ litC 250 (mTx "x2 "), c ∈ stF := ⟨List.mem_of_getElem? (i := 1564) (by decide +kernel), by decide +kernel, st_at (is := [1278, 1279, 1280, 1281, 1282, 1283, 1284]) (by decide +kernel)⟩
theorem st_l252 : Cond.stringRef RL 252 "x1" ∈ lw_tbl ∧ (mTx "x1").length < 2 ^ 31 ∧ ∀ c ∈ litC 252 (mTx "x1"), c ∈ stF := ⟨List.mem_of_getElem? (i := 1565) (by decide +kernel), by decide +kernel, st_at (is := [1285, 1286, 1287, 1288, 1289, 1290]) (by decide +kernel)⟩
theorem st_l270 : Cond.stringRef RL 270 "l" ∈ lw_tbl ∧ (mTx "l").length < 2 ^ 31 ∧ ∀ c ∈ litC 270 (mTx "l"), c ∈ stF := ⟨List.mem_of_getElem? (i := 1579) (by decide +kernel), by decide +kernel, st_at (is := [1291, 1292, 1293, 1294, 1295]) (by decide +kernel)⟩
theorem st_l272 : Cond.stringRef RL 272 "g900;w90" ∈ lw_tbl ∧ (mTx "g900;w90").length < 2 ^ 31 ∧ ∀ c ∈ litC 272 (mTx "g900;w90"), c ∈ stF := ⟨List.mem_of_getElem? (i := 1580) (by decide +kernel), by decide +kernel, st_at (is := [1296, 1297, 1298, 1299, 1300, 1301, 1302, 1303, 1304, 1305, 1306, 1307]) (by decide +kernel)⟩
theorem st_l274 : Cond.stringRef RL 274 "w5;m" ∈ lw_tbl ∧ (mTx "w5;m").length < 2 ^ 31 ∧ ∀ c ∈ litC 274 (mTx "w5;m"), c ∈ stF := ⟨List.mem_of_getElem? (i := 1581) (by decide +kernel), by decide +kernel, st_at (is := [1308, 1309, 1310, 1311, 1312, 1313, 1314, 1315]) (by decide +kernel)⟩
theorem st_l290 : Cond.stringRef RL 290 "w0" ∈ lw_tbl ∧ (mTx "w0").length < 2 ^ 31 ∧ ∀ c ∈ litC 290 (mTx "w0"), c ∈ stF := ⟨List.mem_of_getElem? (i := 1598) (by decide +kernel), by decide +kernel, st_at (is := [1351, 1352, 1353, 1354, 1355, 1356]) (by decide +kernel)⟩
theorem st_l292 : Cond.stringRef RL 292 "q" ∈ lw_tbl ∧ (mTx "q").length < 2 ^ 31 ∧ ∀ c ∈ litC 292 (mTx "q"), c ∈ stF := ⟨List.mem_of_getElem? (i := 1599) (by decide +kernel), by decide +kernel, st_at (is := [1357, 1358, 1359, 1360, 1361]) (by decide +kernel)⟩
theorem st_l294 : Cond.stringRef RL 294 "0 0 0x0" ∈ lw_tbl ∧ (mTx "0 0 0x0").length < 2 ^ 31 ∧ ∀ c ∈ litC 294 (mTx "0 0 0x0"), c ∈ stF := ⟨List.mem_of_getElem? (i := 1600) (by decide +kernel), by decide +kernel, st_at (is := [1362, 1363, 1364, 1365, 1366, 1367, 1368, 1369, 1370, 1371, 1372]) (by decide +kernel)⟩
theorem st_lits : ∀ q ∈ mLits, Cond.stringRef RL q.1 q.2 ∈ lw_tbl ∧ (mTx q.2).length < 2 ^ 31 ∧ ∀ c ∈ litC q.1 (mTx q.2), c ∈ stF := by
  intro q hq
  unfold mLits at hq
  simp only [List.mem_cons, List.not_mem_nil, or_false] at hq
  rcases hq with rfl | rfl | rfl | rfl | rfl | rfl | rfl | rfl | rfl
  · exact st_l245
  · exact st_l250
  · exact st_l252
  · exact st_l270
  · exact st_l272
  · exact st_l274
  · exact st_l290
  · exact st_l292
  · exact st_l294
theorem st_lit {s : State} {b : Nat} (hts : ∀ w ∈ lw_tbl, w.before #[Value.ref b] s = true) (hs : ∀ c ∈ stF, c.before #[Value.ref b] s = true) : ∀ q ∈ mLits, ∃ sa sv, vk_R RL q.1 q.2 sa s ∧ kStr sa sv (mTx q.2) (AL s) s s.heap := by
  intro q hq
  have hA : ∀ a : Nat, a < s.heap.size → ¬ AL s a := fun a h => Nat.not_le.mpr h
  obtain ⟨h1, h2, h3⟩ := st_lits q hq
  have h4 : ∀ c ∈ litC q.1 (mTx q.2), c.before #[Value.ref b] s = true := fun c hc => hs c (h3 c hc)
  unfold litC at h4
  have i0 : ∀ i : Nat, i < 1 → i = 0 := fun i h => by omega
  obtain ⟨adK, adV, h5, h6⟩ := vk_Sof (N := 1) (tm := fun _ => .string RL q.1) (len := [(mTx q.2).length]) (byt := [mTx q.2]) (A := AL s) (fun i h => by cases i0 i h; exact h2) (fun i h => h4 _ (by simp)) (fun i h => h4 _ (by simp)) (fun i h => h4 _ (by simp)) (fun i h => by cases i0 i h; exact h4 _ (by simp)) (fun i h j hj => by cases i0 i h; exact h4 _ (List.mem_append_right _ (List.mem_map.mpr ⟨j, List.mem_range.mpr hj, rfl⟩))) (fun i j hi hj hij => absurd ((i0 i hi).trans (i0 j hj).symm) hij) hA
  obtain ⟨a, b1, c, d⟩ := h5.1 0 (by decide)
  exact ⟨adK 0, adV 0, vk_R.of (hts _ h1) (h6 0 (by decide)), a, b1, c, d⟩
theorem st_tx : ∀ q ∈ kTX, Cond.stringRef RX11 q.1 q.2 ∈ lw_tbl := by
  have h : kTX.all (fun q => decide (Cond.stringRef RX11 q.1 q.2 ∈ lw_tbl)) = true := by decide +kernel
  exact fun q hq => of_decide_eq_true (List.all_eq_true.mp h q hq)
theorem st_nw {L : List Cond} (h : L.all (fun q => decide (q ∈ lw_tbl) && q.onTables) = true) {s : State} {b : Nat} (hts : ∀ w ∈ lw_tbl, w.before #[Value.ref b] s = true) : ∀ z ∈ L, va_Nw z s := fun z hz => by
  have h1 := List.all_eq_true.mp h z hz
  rw [Bool.and_eq_true] at h1
  exact va_Nw.of h1.2 (hts z (of_decide_eq_true h1.1))
theorem st_NW : kNW.all (fun q => decide (q ∈ lw_tbl) && q.onTables) = true := by decide +kernel
theorem st_XN : kXN.all (fun q => decide (q ∈ lw_tbl) && q.onTables) = true := by decide +kernel
theorem st_MN : mNW.all (fun q => decide (q ∈ lw_tbl) && q.onTables) = true := by decide +kernel
theorem st_XA {s : State} {b : Nat} (hX11 : ∃ c, s.vm.findClass RX11 = some c) (hts : ∀ w ∈ lw_tbl, w.before #[Value.ref b] s = true) (hs : ∀ c ∈ stF, c.before #[Value.ref b] s = true) : kXA (AL s) s s.heap := by
  have htk := hts_k hts
  have hA : ∀ a : Nat, a < s.heap.size → ¬ AL s a := fun a h => Nat.not_le.mpr h
  refine ⟨vx_Zqof (hts _ ((List.mem_of_getElem? (i := 480) (by decide +kernel)))) (htk _ (kgt (List.mem_of_getElem? (i := 33) (by decide +kernel)) rfl)) (hs (.isRef (.static "java/lang/Throwable" "UNASSIGNED_STACK" "[Ljava/lang/StackTraceElement;")) (by decide +kernel)) hA, vx_Zqof (hts _ ((List.mem_of_getElem? (i := 482) (by decide +kernel)))) (htk _ (kgt (List.mem_of_getElem? (i := 33) (by decide +kernel)) rfl)) (hs (.isRef (.static "java/lang/Throwable" "SUPPRESSED_SENTINEL" "Ljava/util/List;")) (by decide +kernel)) hA, fun q hq => ?_, st_nw st_XN hts⟩
  have h1 := hts _ (st_tx q hq)
  obtain ⟨c, hc⟩ := hX11
  obtain ⟨k, cf, i, a, -, -, -, -, -, hev⟩ := Cond.stringRef_spec hc h1
  exact ⟨a, vk_R.of h1 hev⟩
theorem st_NC {s : State} {b : Nat} (hs : ∀ c ∈ stF, c.before #[Value.ref b] s = true) : kNC s := by
  intro a c ha hc hac
  simp only [List.mem_cons, List.not_mem_nil, or_false] at ha hc
  rcases ha with rfl | rfl | rfl | rfl | rfl | rfl <;> rcases hc with rfl | rfl | rfl | rfl | rfl | rfl <;> first | exact absurd rfl hac | exact va_Nc.of (hs _ (by decide +kernel))
theorem st_ENV {s : State} {b L : Nat} {xs : Nat → Int32} (hts : ∀ w ∈ lw_tbl, w.before #[Value.ref b] s = true) (hgv : (Jvm.Cond.and given_1 narrow_1).before #[Value.ref b] s = true) (hX : va_X b L xs s s.heap) (hb : b < s.heap.size) : ∃ Z : mZ, msb Z = b ∧ msL Z = L ∧ msx Z = xs ∧ mENV Z (AL s) s s.heap := by
  have htk := hts_k hts
  have hs : ∀ c ∈ stF, c.before #[Value.ref b] s = true := flat_of_before _ hgv
  have hA : ∀ a : Nat, a < s.heap.size → ¬ AL s a := fun a h => Nat.not_le.mpr h
  obtain ⟨G, cL, cY, hK⟩ := st_K hts
  obtain ⟨t1, a1, b1⟩ := st_tab (C := "MouldFloor") (n := "LEAST_SETTINGS") (d := "[I") (ty := .int) (N := 4) (g := kst 1) (by decide) (hts _ (List.mem_of_getElem? (i := 867) (by decide +kernel))) (htk _ (kgt (List.mem_of_getElem? (i := 21) (by decide +kernel)) rfl)) hs [7, 8, 9, 10, 11, 12] (by decide +kernel)
  obtain ⟨t2, a2, b2⟩ := st_tab (C := "MouldFloor") (n := "MOST_SETTINGS") (d := "[I") (ty := .int) (N := 4) (g := kst 2) (by decide) (hts _ (List.mem_of_getElem? (i := 869) (by decide +kernel))) (htk _ (kgt (List.mem_of_getElem? (i := 21) (by decide +kernel)) rfl)) hs [14, 15, 16, 17, 18, 19] (by decide +kernel)
  obtain ⟨t3, a3, b3⟩ := st_tab (C := "java/lang/Integer") (n := "DigitOnes") (d := "[B") (ty := .byte) (N := 100) (g := mOnes) (by decide) (hts _ (List.mem_of_getElem? (i := 1182) (by decide +kernel))) (htk _ (kgt (List.mem_of_getElem? (i := 45) (by decide +kernel)) rfl)) hs [22, 23, 24, 25, 26, 27, 28, 29, 30, 31, 32, 33, 34, 35, 36, 37, 38, 39, 40, 41, 42, 43, 44, 45, 46, 47, 48, 49, 50, 51, 52, 53, 54, 55, 56, 57, 58, 59, 60, 61, 62, 63, 64, 65, 66, 67, 68, 69, 70, 71, 72, 73, 74, 75, 76, 77, 78, 79, 80, 81, 82, 83, 84, 85, 86, 87, 88, 89, 90, 91, 92, 93, 94, 95, 96, 97, 98, 99, 100, 101, 102, 103, 104, 105, 106, 107, 108, 109, 110, 111, 112, 113, 114, 115, 116, 117, 118, 119, 120, 121, 122, 123] (by decide +kernel)
  obtain ⟨t4, a4, b4⟩ := st_tab (C := "java/lang/Integer") (n := "DigitTens") (d := "[B") (ty := .byte) (N := 100) (g := mTens) (by decide) (hts _ (List.mem_of_getElem? (i := 1184) (by decide +kernel))) (htk _ (kgt (List.mem_of_getElem? (i := 45) (by decide +kernel)) rfl)) hs [125, 126, 127, 128, 129, 130, 131, 132, 133, 134, 135, 136, 137, 138, 139, 140, 141, 142, 143, 144, 145, 146, 147, 148, 149, 150, 151, 152, 153, 154, 155, 156, 157, 158, 159, 160, 161, 162, 163, 164, 165, 166, 167, 168, 169, 170, 171, 172, 173, 174, 175, 176, 177, 178, 179, 180, 181, 182, 183, 184, 185, 186, 187, 188, 189, 190, 191, 192, 193, 194, 195, 196, 197, 198, 199, 200, 201, 202, 203, 204, 205, 206, 207, 208, 209, 210, 211, 212, 213, 214, 215, 216, 217, 218, 219, 220, 221, 222, 223, 224, 225, 226] (by decide +kernel)
  refine ⟨(G, cL, cY, fun k => if k = 1 then t1 else if k = 2 then t2 else if k = 10 then t3 else t4, b, L, xs), rfl, rfl, rfl, hK _ _ _ _, st_nw st_NW hts, ⟨⟨a1, b1⟩, ⟨a2, b2⟩⟩, st_XA ⟨_, ((hK (fun _ => 0) 0 0 (fun _ => 0)).1 14 _ rfl).2.1⟩ hts hs, st_NC hs, ⟨va_Zof (hts _ (List.mem_of_getElem? (i := 1113) (by decide +kernel))) (htk _ (kgt (List.mem_of_getElem? (i := 40) (by decide +kernel)) rfl)) (va_eqt (hs _ (by decide +kernel))) hA, va_Zqof (hts _ (List.mem_of_getElem? (i := 1198) (by decide +kernel))) (htk _ (kgt (List.mem_of_getElem? (i := 53) (by decide +kernel)) rfl)) (hs (.isRef (.static "jdk/internal/util/Preconditions" "SIOOBE_FORMATTER" "Ljava/util/function/BiFunction;")) (by decide +kernel)) hA, st_nw st_MN hts⟩, ⟨⟨a3, b3⟩, ⟨a4, b4⟩⟩, st_lit hts hs, hX, hA b hb⟩
set_option maxRecDepth 100000 in
set_option maxHeartbeats 4000000 in
theorem law_start {p : Program} {e : Env} {s : State} {m : MethodId} {below : List Frame} {meth : Method} {c : Code} (l : Launch) (hflags : l.flags = flags0) {b L : Nat} {xs : Nat → Int32} (hL : L ≤ 260) (C0 : lw_At p s m meth c b L xs) (hlaw : ∀ Z : mZ, ∃ z, lf_law Z = some z) : W p l e room_1 s m #[Value.ref b] below meth c s.heap [] 0 0 (lw_Z below #[Value.ref b] s) (entryFrame m ([Value.ref b] : List Value).toArray 11) := by
  obtain ⟨hx, hb, hr, hml, hown, hts, hX, hbl, hlocks, hgv⟩ := C0
  have htk := hts_k hts
  have hst : l.stackTraces = false := by unfold Launch.stackTraces; rw [hflags]; decide
  obtain ⟨Z, rfl, rfl, rfl, hE⟩ := st_ENV hts hgv hX hbl
  obtain ⟨z, hz⟩ := hlaw Z
  have hfx : CallFix p m c cL_law 11 s #[Value.ref (msb Z)] kGT RL := ⟨hx, hb, hml, hown, htk⟩
  have C : MC p l e room_1 s m #[Value.ref (msb Z)] below meth c Z (AL s) [] RL cL_law 11 ret 1475 600312 7291330 := ⟨hfx, hE, (fun x hx => nomatch hx), hr, hlocks, ⟨by decide, by decide, by decide, by decide⟩, hst⟩
  have hl := lv_entry ([.ref (msb Z)]) (n := 11) (Nat.le_of_ble_eq_true rfl)
  rw [lg_entry_eq]
  generalize (lg_sl ([.ref (msb Z)]) ++ List.replicate (11 - (lg_sl ([.ref (msb Z)])).length) Slot.unset).toArray = ls at hl ⊢
  have hl : lv_has ls 11 [(0, .ref (msb Z))] := hl
  exact ml_law (z := z) C (va_AO.of (hts _ wst_F)) (by omega) hz s.heap [] ls (fun k q h => by simp at h) ⟨fun i j p q h => by simp at h, fun k q h => by simp at h⟩ va_S.rf hl
