/-! the law from its entry: what the claim gives of the start; the two objects are made; the loop -/
theorem hts_k {s : State} {b : Nat} (hts : ∀ w ∈ lw_tbl, w.before #[Value.ref b] s = true) : ∀ w ∈ kGT, w.before #[Value.ref b] s = true := fun w hw => hts w (List.mem_filter.mp hw).1
theorem kin_J0 : ∀ z ∈ u_ws RJ0 TJ0 2, z ∈ kGT := kgt_all (by decide +kernel)
theorem kin_Jx00060 : ∀ z ∈ u_ws RJx00060 TJx00060 6, z ∈ kGT := kgt_all (by decide +kernel)
theorem st_arr {s : State} {args : Array Value} {ty : FieldType} (h : (Cond.arrayClass ty).before args s = true) (hty : ∀ C, ty ≠ .object C) : ∃ cA, ArrOfT s cA ty ∧ va_RA s cA ty := by
  obtain ⟨cA, kA, comp, h1, h2, h3⟩ := Cond.arrayClass_spec h
  refine ⟨cA, fun n z => ⟨(fun k h => by cases h), kA, h2, comp, h3⟩, ?_⟩
  unfold va_RA
  cases ty <;> first | exact absurd rfl (hty _) | exact h1
theorem st_arrF {s : State} {C : String} (h : va_AO C s) : ∃ cA, ArrOfT s cA (.object C) ∧ va_RA s cA (.object C) := by
  obtain ⟨comp, c, k, h1, h2, h3, h4, h5⟩ := Cond.arrayOver_spec h
  exact ⟨c, fun n z => ⟨(fun k h => by cases h), k, h3, comp, h4⟩, k, comp, h3, h4, h1, h5⟩
theorem wst_L : Cond.arrayClass .long ∈ kGT := kgt (List.mem_of_getElem? (i := 1685) (by decide +kernel)) rfl
theorem wst_D : Cond.arrayClass .double ∈ kGT := kgt (List.mem_of_getElem? (i := 1686) (by decide +kernel)) rfl
theorem wst_F : Cond.arrayOver (.object "MouldFloor$Floor") ∈ lw_tbl := (List.mem_of_getElem? (i := 291) (by decide +kernel))
theorem st_K {s : State} {b : Nat} (htl : ∀ w ∈ lw_tbl, w.before #[Value.ref b] s = true) : ∃ (G : kG) (cL cD : ClassId), va_K G.1 vwCl (ktyL G cL cD) s := by
  have hts := hts_k htl
  obtain ⟨c0, i0, h0⟩ := u_known (C := RJ0) (T := TJ0) (N := 2) (n := 4) hts kin_J0 (hts (.instantiable RJ0 4) (kgt (List.mem_of_getElem? (i := 980) (by decide +kernel)) rfl))
  obtain ⟨c1, i1, h1⟩ := u_known (C := RJx00060) (T := TJx00060) (N := 6) (n := 6) hts kin_Jx00060 (hts (.instantiable RJx00060 6) (kgt (List.mem_of_getElem? (i := 962) (by decide +kernel)) rfl))
  obtain ⟨c2, i2, h2⟩ := u_known (C := RX0) (T := TX0) (N := 9) (n := 9) hts kin_X0 (hts (.instantiable RX0 9) (kgt (List.mem_of_getElem? (i := 101) (by decide +kernel)) rfl))
  obtain ⟨c3, i3, h3⟩ := u_known (C := RX1) (T := TX1) (N := 2) (n := 2) hts kin_X1 (hts (.instantiable RX1 2) (kgt (List.mem_of_getElem? (i := 387) (by decide +kernel)) rfl))
  obtain ⟨c4, i4, h4⟩ := u_known (C := RX2) (T := TX2) (N := 3) (n := 3) hts kin_X2 (hts (.instantiable RX2 3) (kgt (List.mem_of_getElem? (i := 148) (by decide +kernel)) rfl))
  obtain ⟨c5, i5, h5⟩ := u_known (C := RX3) (T := TX3) (N := 5) (n := 5) hts kin_X3 (hts (.instantiable RX3 5) (kgt (List.mem_of_getElem? (i := 346) (by decide +kernel)) rfl))
  obtain ⟨c6, i6, h6⟩ := u_known (C := RX4) (T := TX4) (N := 12) (n := 12) hts kin_X4 (hts (.instantiable RX4 12) (kgt (List.mem_of_getElem? (i := 95) (by decide +kernel)) rfl))
  obtain ⟨c7, i7, h7⟩ := u_known (C := RX5) (T := TX5) (N := 3) (n := 3) hts kin_X5 (hts (.instantiable RX5 3) (kgt (List.mem_of_getElem? (i := 285) (by decide +kernel)) rfl))
  obtain ⟨c8, i8, h8⟩ := u_known (C := RX6) (T := TX6) (N := 7) (n := 7) hts kin_X6 (hts (.instantiable RX6 7) (kgt (List.mem_of_getElem? (i := 197) (by decide +kernel)) rfl))
  obtain ⟨c9, i9, h9⟩ := u_known (C := RX7) (T := TX7) (N := 3) (n := 3) hts kin_X7 (hts (.instantiable RX7 3) (kgt (List.mem_of_getElem? (i := 370) (by decide +kernel)) rfl))
  obtain ⟨c10, i10, h10⟩ := u_known (C := RX8) (T := TX8) (N := 3) (n := 3) hts kin_X8 (hts (.instantiable RX8 3) (kgt (List.mem_of_getElem? (i := 305) (by decide +kernel)) rfl))
  obtain ⟨c11, i11, h11⟩ := u_known (C := RX9) (T := TX9) (N := 5) (n := 5) hts kin_X9 (hts (.instantiable RX9 5) (kgt (List.mem_of_getElem? (i := 168) (by decide +kernel)) rfl))
  obtain ⟨c12, i12, h12⟩ := u_known (C := RX10) (T := TX10) (N := 4) (n := 4) hts kin_X10 (hts (.instantiable RX10 4) (kgt (List.mem_of_getElem? (i := 324) (by decide +kernel)) rfl))
  obtain ⟨c13, i13, h13⟩ := u_known (C := RX11) (T := TX11) (N := 9) (n := 9) hts kin_X11 (hts (.instantiable RX11 9) (kgt (List.mem_of_getElem? (i := 87) (by decide +kernel)) rfl))
  obtain ⟨c14, i14, h14⟩ := u_known (C := RX12) (T := TX12) (N := 19) (n := 19) hts kin_X12 (hts (.instantiable RX12 19) (kgt (List.mem_of_getElem? (i := 1310) (by decide +kernel)) rfl))
  obtain ⟨aI, hI1, hI2⟩ := st_arr (hts _ winit_1) (fun _ h => by cases h)
  obtain ⟨aC, hC1, hC2⟩ := st_arr (hts _ winit_2) (fun _ h => by cases h)
  obtain ⟨aF, hF1, hF2⟩ := st_arrF (va_AO.of (htl _ wst_F))
  obtain ⟨aL, hL1, hL2⟩ := st_arr (hts _ wst_L) (fun _ h => by cases h)
  obtain ⟨aD, hD1, hD2⟩ := st_arr (hts _ wst_D) (fun _ h => by cases h)
  refine ⟨((fun k => if k = 0 then c0 else if k = 1 then c1 else if k = 2 then c2 else if k = 3 then c3 else if k = 4 then c4 else if k = 5 then c5 else if k = 6 then c6 else if k = 7 then c7 else if k = 8 then c8 else if k = 9 then c9 else if k = 10 then c10 else if k = 11 then c11 else if k = 12 then c12 else if k = 13 then c13 else c14, fun k => if k = 0 then i0 else if k = 1 then i1 else if k = 2 then i2 else if k = 3 then i3 else if k = 4 then i4 else if k = 5 then i5 else if k = 6 then i6 else if k = 7 then i7 else if k = 8 then i8 else if k = 9 then i9 else if k = 10 then i10 else if k = 11 then i11 else if k = 12 then i12 else if k = 13 then i13 else i14), aI, aC, aF), aL, aD, fun k q hq => ?_, fun k q hq => ?_⟩
  · match k, hq with
    | 0, hq => cases hq; exact h0
    | 1, hq => cases hq; exact h1
    | 2, hq => cases hq; exact h2
    | 3, hq => cases hq; exact h3
    | 4, hq => cases hq; exact h4
    | 5, hq => cases hq; exact h5
    | 6, hq => cases hq; exact h6
    | 7, hq => cases hq; exact h7
    | 8, hq => cases hq; exact h8
    | 9, hq => cases hq; exact h9
    | 10, hq => cases hq; exact h10
    | 11, hq => cases hq; exact h11
    | 12, hq => cases hq; exact h12
    | 13, hq => cases hq; exact h13
    | 14, hq => cases hq; exact h14
    | k + 15, hq => simp [vwCl] at hq
  · match k, hq with
    | 0, hq => cases hq; exact ⟨hI1, hI2⟩
    | 1, hq => cases hq; exact ⟨hC1, hC2⟩
    | 2, hq => cases hq; exact ⟨hF1, hF2⟩
    | 3, hq => cases hq; exact ⟨hL1, hL2⟩
    | 4, hq => cases hq; exact ⟨hD1, hD2⟩
    | k + 5, hq => simp [ktyL] at hq
theorem st_row {s : State} {b : Nat} {n : String} {k : Nat} (hl : (Cond.laysStatic "MouldFloor" n "[I").before #[Value.ref b] s = true) (hini : (Cond.initialized "MouldFloor").before #[Value.ref b] s = true) (harr : (Cond.arrayOf (.static "MouldFloor" n "[I") .int).before #[Value.ref b] s = true) (hlen : (Cond.eq (.length (.static "MouldFloor" n "[I")) (.int 4)).before #[Value.ref b] s = true) (h0 : (Cond.eq (.elem (.static "MouldFloor" n "[I") (.int 0)) (.int (kst k 0))).before #[Value.ref b] s = true) (h1 : (Cond.eq (.elem (.static "MouldFloor" n "[I") (.int 1)) (.int (kst k 1))).before #[Value.ref b] s = true) (h2 : (Cond.eq (.elem (.static "MouldFloor" n "[I") (.int 2)) (.int (kst k 2))).before #[Value.ref b] s = true) (h3 : (Cond.eq (.elem (.static "MouldFloor" n "[I") (.int 3)) (.int (kst k 3))).before #[Value.ref b] s = true) : ∃ t, va_Z "MouldFloor" n "[I" (.ref t) (AL s) s s.heap ∧ va_T .int t 4 (fun j => .int (kst k j)) (AL s) s s.heap := by
  have hA : ∀ a : Nat, a < s.heap.size → ¬ AL s a := fun a h => Nat.not_le.mpr h
  obtain ⟨t, h4, h5⟩ := va_Tof (N := 4) (f := fun j => .int (kst k j)) (by decide) harr (va_eqt hlen) (fun j hj => by
    rcases (show j = 0 ∨ j = 1 ∨ j = 2 ∨ j = 3 by omega) with rfl | rfl | rfl | rfl
    · exact va_eqt h0
    · exact va_eqt h1
    · exact va_eqt h2
    · exact va_eqt h3) hA
  exact ⟨t, va_Zof hl hini h4 hA, h5⟩
theorem st_S {s : State} {b : Nat} (hts : ∀ w ∈ lw_tbl, w.before #[Value.ref b] s = true) (hgv : (Jvm.Cond.and given_1 narrow_1).before #[Value.ref b] s = true) : ∃ st : Nat → Nat, ∀ w : KW, (∀ k, kad w (1000 + k) = st k) → kSA w (AL s) s s.heap := by
  have hs := flat_of_before _ hgv
  obtain ⟨t1, a1, b1⟩ := st_row (k := 1) (hts _ ((List.mem_of_getElem? (i := 955) (by decide +kernel)))) (hts_k hts _ (kgt (List.mem_of_getElem? (i := 59) (by decide +kernel)) rfl)) (hs (.arrayOf (.static "MouldFloor" "LEAST_SETTINGS" "[I") .int) (by decide +kernel)) (hs (.eq (.length (.static "MouldFloor" "LEAST_SETTINGS" "[I")) (.int 4)) (by decide +kernel)) (hs (.eq (.elem (.static "MouldFloor" "LEAST_SETTINGS" "[I") (.int 0)) (.int (kst 1 0))) (by decide +kernel)) (hs (.eq (.elem (.static "MouldFloor" "LEAST_SETTINGS" "[I") (.int 1)) (.int (kst 1 1))) (by decide +kernel)) (hs (.eq (.elem (.static "MouldFloor" "LEAST_SETTINGS" "[I") (.int 2)) (.int (kst 1 2))) (by decide +kernel)) (hs (.eq (.elem (.static "MouldFloor" "LEAST_SETTINGS" "[I") (.int 3)) (.int (kst 1 3))) (by decide +kernel))
  obtain ⟨t2, a2, b2⟩ := st_row (k := 2) (hts _ ((List.mem_of_getElem? (i := 957) (by decide +kernel)))) (hts_k hts _ (kgt (List.mem_of_getElem? (i := 59) (by decide +kernel)) rfl)) (hs (.arrayOf (.static "MouldFloor" "MOST_SETTINGS" "[I") .int) (by decide +kernel)) (hs (.eq (.length (.static "MouldFloor" "MOST_SETTINGS" "[I")) (.int 4)) (by decide +kernel)) (hs (.eq (.elem (.static "MouldFloor" "MOST_SETTINGS" "[I") (.int 0)) (.int (kst 2 0))) (by decide +kernel)) (hs (.eq (.elem (.static "MouldFloor" "MOST_SETTINGS" "[I") (.int 1)) (.int (kst 2 1))) (by decide +kernel)) (hs (.eq (.elem (.static "MouldFloor" "MOST_SETTINGS" "[I") (.int 2)) (.int (kst 2 2))) (by decide +kernel)) (hs (.eq (.elem (.static "MouldFloor" "MOST_SETTINGS" "[I") (.int 3)) (.int (kst 2 3))) (by decide +kernel))
  refine ⟨fun k => if k = 1 then t1 else t2, fun w hw => ⟨⟨?_, ?_⟩, ⟨?_, ?_⟩⟩⟩
  · rw [hw 1]; exact a1
  · rw [hw 1]; exact b1
  · rw [hw 2]; exact a2
  · rw [hw 2]; exact b2
theorem st_tx : ∀ q ∈ kTX, Cond.stringRef RX11 q.1 q.2 ∈ lw_tbl := by
  have h : kTX.all (fun q => decide (Cond.stringRef RX11 q.1 q.2 ∈ lw_tbl)) = true := by decide +kernel
  exact fun q hq => of_decide_eq_true (List.all_eq_true.mp h q hq)
theorem st_nw {L : List Cond} (h : L.all (fun q => decide (q ∈ lw_tbl) && q.onTables) = true) {s : State} {b : Nat} (hts : ∀ w ∈ lw_tbl, w.before #[Value.ref b] s = true) : ∀ z ∈ L, va_Nw z s := fun z hz => by
  have h1 := List.all_eq_true.mp h z hz
  rw [Bool.and_eq_true] at h1
  exact va_Nw.of h1.2 (hts z (of_decide_eq_true h1.1))
theorem st_NW : kNW.all (fun q => decide (q ∈ lw_tbl) && q.onTables) = true := by decide +kernel
theorem st_XN : kXN.all (fun q => decide (q ∈ lw_tbl) && q.onTables) = true := by decide +kernel
theorem st_XA {s : State} {b : Nat} {G : kG} {cL cD : ClassId} (hK : va_K G.1 vwCl (ktyL G cL cD) s) (hts : ∀ w ∈ lw_tbl, w.before #[Value.ref b] s = true) (hgv : (Jvm.Cond.and given_1 narrow_1).before #[Value.ref b] s = true) : kXA (AL s) s s.heap := by
  have hs := flat_of_before _ hgv
  have htk := hts_k hts
  have hA : ∀ a : Nat, a < s.heap.size → ¬ AL s a := fun a h => Nat.not_le.mpr h
  refine ⟨vx_Zqof (hts _ ((List.mem_of_getElem? (i := 506) (by decide +kernel)))) (htk _ (kgt (List.mem_of_getElem? (i := 72) (by decide +kernel)) rfl)) (hs (.isRef (.static "java/lang/Throwable" "UNASSIGNED_STACK" "[Ljava/lang/StackTraceElement;")) (by decide +kernel)) hA, vx_Zqof (hts _ ((List.mem_of_getElem? (i := 508) (by decide +kernel)))) (htk _ (kgt (List.mem_of_getElem? (i := 72) (by decide +kernel)) rfl)) (hs (.isRef (.static "java/lang/Throwable" "SUPPRESSED_SENTINEL" "Ljava/util/List;")) (by decide +kernel)) hA, fun q hq => ?_, st_nw st_XN hts⟩
  have h1 := hts _ (st_tx q hq)
  obtain ⟨k, cf, i, a, -, -, -, -, -, hev⟩ := Cond.stringRef_spec (hK.1 13 _ rfl).2.1 h1
  exact ⟨a, vk_R.of h1 hev⟩
theorem st_NC {s : State} {b : Nat} (hgv : (Jvm.Cond.and given_1 narrow_1).before #[Value.ref b] s = true) : kNC s := by
  have hs := flat_of_before _ hgv
  intro a c ha hc hac
  simp only [List.mem_cons, List.not_mem_nil, or_false] at ha hc
  rcases ha with rfl | rfl | rfl | rfl | rfl | rfl <;> rcases hc with rfl | rfl | rfl | rfl | rfl | rfl <;> first | exact absurd rfl hac | exact va_Nc.of (hs _ (by decide +kernel))
def LC0 (s : State) (m : MethodId) (p : Program) (c : Code) (b : Nat) (G : kG) (cL cD : ClassId) (st0 : Nat) : Prop := CallFix p m c code 9 s #[Value.ref b] kGT RL ∧ va_K G.1 vwCl (ktyL G cL cD) s ∧ (∀ z ∈ kNW, va_Nw z s) ∧ kSI st0 (AL s) s s.heap
section L0ROWS
variable {p : Program} {l : Launch} {e : Env} {s : State} {m : MethodId} {below : List Frame} {meth : Method} {c : Code} {b : Nat} {G : kG} {cL cD : ClassId} {st0 : Nat} {ws : va_W} {k n pc : Nat} {lv : List (Nat × Value)} {st : List Value}
theorem L_new (C : LC0 s m p c b G cL cD st0) {C1 : String} {T : u_T} {N ci index : Nat} {fs : List Value} (hin : ∀ z ∈ u_ws C1 T N, z ∈ kGT) (ty : Nat → FieldType) (hty : ∀ k, k < N → parseFieldDescriptor (T k).2.2.1 = some (ty k)) (hcl : Cond.classLink RL index C1 ∈ kGT) (hinst : Cond.instantiable C1 N ∈ kGT) (hini : Cond.initialized C1 ∈ kGT) (hc : vwCl[ci]? = some (C1, T, N)) (hfs : ∀ j, j < N → defaultValue (ty j) = vp_V fs j) (hc1 : k + 1 ≤ 603072) (hs1 : n + N ≤ 7194730) (hdg : decode code pc = .ok (.new index, 3)) (kk : ∀ q : Nat, LJ p l e s m below meth c b G.1 (ws ++ [(q, .inr (ci, fs))]) (k + 1) (n + N) (pc + 3) lv (.ref q :: st)) : LJ p l e s m below meth c b G.1 ws k n pc lv st := fun H locs ls hP hD hS hl =>
  va_new C.1.1 C.1.2.1 C.1.2.2.2.2 hin ty hty C.1.2.2.2.1 (C.1.2.2.2.2 _ hcl) (C.1.2.2.2.2 _ hinst) (C.1.2.2.2.2 _ hini) C.2.1 hP hD hS (fun q h => h) hc hfs hc1 hs1 hdg (fun q H1 hP1 hD1 hS1 => kk q H1 locs ls hP1 hD1 hS1 hl)
theorem L_dup (C : LC0 s m p c b G cL cD st0) {v : Value} (hv : v.category = 1) (hdg : decode code pc = .ok (.dup, 1)) (kk : LJ p l e s m below meth c b G.1 ws k n (pc + 1) lv (v :: v :: st)) : LJ p l e s m below meth c b G.1 ws k n pc lv (v :: st) := fun H locs ls hP hD hS hl => lv_dup C.1.1 C.1.2.1 hdg hv (kk H locs ls hP hD hS hl)
theorem L_astn (C : LC0 s m p c b G cL cD st0) {j : Fin 4} {i x : Nat} {lv1 : List (Nat × Value)} (hi : (j : Nat) = i) (hn : i < 9) (hl1 : (i, Value.ref x) :: lv.filter (fun q => !(q.1 == i) && !(q.1 + 1 == i && q.2.category == 2)) = lv1) (hdg : decode code pc = .ok (.astore_n j, 1)) (kk : LJ p l e s m below meth c b G.1 ws k n (pc + 1) lv1 st) : LJ p l e s m below meth c b G.1 ws k n pc lv (.ref x :: st) := fun H locs ls hP hD hS hl => lv_astore_n C.1.1 C.1.2.1 hdg hi hl hn hl1 (fun ls1 hl2 => kk H locs ls1 hP hD hS hl2)
theorem L_ast (C : LC0 s m p c b G cL cD st0) {i x : Nat} {lv1 : List (Nat × Value)} (hn : i < 9) (hl1 : (i, Value.ref x) :: lv.filter (fun q => !(q.1 == i) && !(q.1 + 1 == i && q.2.category == 2)) = lv1) (hdg : decode code pc = .ok (.astore i, 2)) (kk : LJ p l e s m below meth c b G.1 ws k n (pc + 2) lv1 st) : LJ p l e s m below meth c b G.1 ws k n pc lv (.ref x :: st) := fun H locs ls hP hD hS hl => lv_astore C.1.1 C.1.2.1 hdg hl hn hl1 (fun ls1 hl2 => kk H locs ls1 hP hD hS hl2)
theorem L_ic0 (C : LC0 s m p c b G cL cD st0) {i : Int} {v : Int32} (hv : Int32.ofInt i = v) (hdg : decode code pc = .ok (.iconst i, 1)) (kk : LJ p l e s m below meth c b G.1 ws k n (pc + 1) lv (.int v :: st)) : LJ p l e s m below meth c b G.1 ws k n pc lv st := fun H locs ls hP hD hS hl => lv_iconst C.1.1 C.1.2.1 hdg hv (kk H locs ls hP hD hS hl)
theorem L_ist0 (C : LC0 s m p c b G cL cD st0) {i : Nat} {x : Int32} {lv1 : List (Nat × Value)} (hn : i < 9) (hl1 : (i, Value.int x) :: lv.filter (fun q => !(q.1 == i) && !(q.1 + 1 == i && q.2.category == 2)) = lv1) (hdg : decode code pc = .ok (.istore i, 2)) (kk : LJ p l e s m below meth c b G.1 ws k n (pc + 2) lv1 st) : LJ p l e s m below meth c b G.1 ws k n pc lv (.int x :: st) := fun H locs ls hP hD hS hl => lv_istore C.1.1 C.1.2.1 hdg hl hn hl1 (fun ls1 hl2 => kk H locs ls1 hP hD hS hl2)
theorem L_newL (C : LC0 s m p c b G cL cD st0) (hc : k + 1 ≤ 603072) (hs : n + 1 ≤ 7194730) (hdg : decode code pc = .ok (.newarray .long, 2)) (kk : ∀ q : Nat, LJ p l e s m below meth c b G.1 (ws ++ [(q, oL cL (fun _ => 0))]) (k + 1) (n + 1) (pc + 2) lv (.ref q :: st)) : LJ p l e s m below meth c b G.1 ws k n pc lv (.int 1 :: st) := fun H locs ls hP hD hS hl => by
  refine va_newa (R := room_1) (atype := .long) (ty := .long) (N' := 1) (a0 := (1, .inr (.inl (fun _ => 0)))) C.1.1 C.1.2.1 (C.1.2.2.2.2 _ wst_L) rfl C.2.1 hP hD hS (fun q h => h) (fun cA => rfl) (by decide) (by decide) (by decide) hc hs hdg (fun q cA H1 hK1 hP1 hD1 hS1 => ?_)
  have e : cA = cL := arrI hK1 (i := 3) (j := 5) rfl rfl (fun _ h => by cases h)
  subst e
  exact kk q H1 locs ls hP1 hD1 hS1 hl
theorem L_newD (C : LC0 s m p c b G cL cD st0) (hc : k + 1 ≤ 603072) (hs : n + 1 ≤ 7194730) (hdg : decode code pc = .ok (.newarray .double, 2)) (kk : ∀ q : Nat, LJ p l e s m below meth c b G.1 (ws ++ [(q, oD cD (fun _ => 0))]) (k + 1) (n + 1) (pc + 2) lv (.ref q :: st)) : LJ p l e s m below meth c b G.1 ws k n pc lv (.int 1 :: st) := fun H locs ls hP hD hS hl => by
  refine va_newa (R := room_1) (atype := .double) (ty := .double) (N' := 1) (a0 := (1, .inr (.inr (.inr (.inl (fun _ => 0)))))) C.1.1 C.1.2.1 (C.1.2.2.2.2 _ wst_D) rfl C.2.1 hP hD hS (fun q h => h) (fun cA => rfl) (by decide) (by decide) (by decide) hc hs hdg (fun q cA H1 hK1 hP1 hD1 hS1 => ?_)
  have e : cA = cD := arrI hK1 (i := 4) (j := 5) rfl rfl (fun _ h => by cases h)
  subst e
  exact kk q H1 locs ls hP1 hD1 hS1 hl
theorem L_ctor (C : LC0 s m p c b G cL cD st0) {y : MethodName} {b1 : ByteArray} {nL1 d1 mc1 ms1 idx ci q : Nat} {fs : List Value} {S : Type} {Y : Nat → S → va_W} {X : va_W} (hM : kIMet l G st0 y b1 nL1 d1 mc1 ms1 ci fs Y) (hY : kY y b1 nL1 none 0) (hy1 : y.name = "<init>") (hinst : Cond.instanceMethod y ∈ kGT) (hlink : Cond.methodLink RL idx y ∈ kGT) (hd1 : d1 ≤ 60) (hc1 : k + mc1 ≤ 603072) (hs1 : n + ms1 ≤ 7194730) (hrest : (st.map fun v => v.category).sum ≤ 8) (hdg : decode code pc = .ok (.invokespecial idx, 3)) (kk : ∀ u : S, LJ p l e s m below meth c b G.1 (X ++ Y q u) (k + mc1) (n + ms1) (pc + 3) lv st) : LJ p l e s m below meth c b G.1 (X ++ [(q, .inr (ci, fs))]) k n pc lv (.ref q :: st) := fun H locs ls hP hD hS hl => by
  have hR : (kRm d1 mc1 ms1).frames + 1 ≤ room_1.frames ∧ 8 + (nL1 + 11) + (kRm d1 mc1 ms1).locals ≤ room_1.locals := ⟨by show d1 + 1 ≤ 2048; omega, by have := hY.2.2.2; show 8 + (nL1 + 11) + 64 * d1 ≤ 94400; omega⟩
  have hq : AL s q := hD.2 X.length (q, .inr (ci, fs)) (by simp)
  have hsub : ∀ a, kIA q H.size a → AL s a := fun a h => h.elim (fun e => by rw [e]; exact hq) (fun e => Nat.le_trans hS.1 e)
  have hts := C.1.2.2.2.2
  have hpre : ∀ U : State, U.heap = H → s.WarmedH U.vm → va_Pc [.ref q] (fun U => U.heap.size = H.size ∧ kIB G st0 [(q, .inr (ci, fs))] (kIA q H.size) U) [Value.ref q].toArray U := by
    intro U hU hW
    refine ⟨rfl, by rw [hU], ?_, va_K.moved hW.alike ((show va_K G.1 vwCl (ktyL G cL cD) s from C.2.1).sub [0, 1, 2] rfl), kNW_moved hW C.2.2.1, kSI_to hW.alike (fun a h1 h2 => by rw [hU]; exact hS.2.1 a h1 h2) hsub C.2.2.2⟩
    rw [hU]
    intro i x hx
    have h1 := (List.getElem?_eq_some_iff.mp hx).1
    simp at h1
    subst h1
    exact hP X.length x (by simpa using hx)
  have go : va_Run p l e room_1 s m #[Value.ref b] below meth c H locs k n mc1 ms1 (F0 m pc ls (.ref q :: st)) st (va_Qv (fun _ : S => True) (fun u t => va_P G.1 vwCl (Y q u) t.heap ∧ va_D (kIA q H.size) (Y q u)) (kIA q H.size) (Value.ref q :: []).toArray) (kIA q H.size) := va_runI (As := []) (rest := st) C.1 (hM q H.size) ⟨callB_of 0 hts (kcode_in hY.1) rfl rfl rfl (hts _ hY.2.1) (hts _ hlink) hY.2.2.1 hR, hy1, hts _ hinst⟩ ⟨kIblind, hpre⟩ rfl rfl (hl.1.trans rfl) rfl (lv_room hrest) hdg ⟨hc1, hs1⟩
  refine va_callv go hS (fun a _ h => hsub a h) hsub (fun u t H1 locs1 ht hvm _ hB hz1 hk1 hS1 => ?_)
  obtain ⟨hPY, hDY⟩ := hB
  rw [ht] at hPY
  obtain ⟨hP2, hD2⟩ := I_cut hP hD hk1 hsub hPY hDY
  exact kk u H1 locs1 ls hP2 hD2 hS1 hl
end L0ROWS
theorem adC_st {h0 : Nat} {st : Nat → Nat} {u : Nat → Nat → Nat} {k : Nat} : adC h0 st u (1000 + k) = st k := by
  unfold adC
  repeat rw [if_neg (by omega)]
  rw [Nat.add_sub_cancel_left]
theorem adM_st {h0 : Nat} {st : Nat → Nat} {u : Nat → Nat} {k : Nat} : adM h0 st u (1000 + k) = st k := by
  unfold adM
  repeat rw [if_neg (by omega)]
  rw [Nat.add_sub_cancel_left]
theorem kys_X11_init : kY yX11_init cX11_init 1 none 0 := ⟨kgt (List.mem_of_getElem? (i := 90) (by decide +kernel)) rfl, kgt (List.mem_of_getElem? (i := 59) (by decide +kernel)) rfl, by decide +kernel, by decide⟩
theorem kyn_X11_init : Cond.instanceMethod yX11_init ∈ kGT := kgt (List.mem_of_getElem? (i := 89) (by decide +kernel)) rfl
theorem kyo_X11 : Cond.instantiable RX11 9 ∈ kGT := kgt (List.mem_of_getElem? (i := 87) (by decide +kernel)) rfl
theorem kyz_X11 : Cond.initialized RX11 ∈ kGT := kgt (List.mem_of_getElem? (i := 59) (by decide +kernel)) rfl
theorem kys_X12_init : kY yX12_init cX12_init 2 none 0 := ⟨kgt (List.mem_of_getElem? (i := 1313) (by decide +kernel)) rfl, kgt (List.mem_of_getElem? (i := 71) (by decide +kernel)) rfl, by decide +kernel, by decide⟩
theorem kyn_X12_init : Cond.instanceMethod yX12_init ∈ kGT := kgt (List.mem_of_getElem? (i := 1312) (by decide +kernel)) rfl
theorem kyo_X12 : Cond.instantiable RX12 19 ∈ kGT := kgt (List.mem_of_getElem? (i := 1310) (by decide +kernel)) rfl
theorem kyz_X12 : Cond.initialized RX12 ∈ kGT := kgt (List.mem_of_getElem? (i := 71) (by decide +kernel)) rfl
theorem kyl_133 : Cond.methodLink RL 133 yX11_init ∈ kGT := kgt (List.mem_of_getElem? (i := 88) (by decide +kernel)) rfl
theorem kyl_136 : Cond.methodLink RL 136 yX12_init ∈ kGT := kgt (List.mem_of_getElem? (i := 1311) (by decide +kernel)) rfl
theorem kyc_8 : Cond.classLink RL 8 RX11 ∈ kGT := kgt (List.mem_of_getElem? (i := 86) (by decide +kernel)) rfl
theorem kyc_134 : Cond.classLink RL 134 RX12 ∈ kGT := kgt (List.mem_of_getElem? (i := 1309) (by decide +kernel)) rfl
set_option maxRecDepth 100000 in
set_option maxHeartbeats 4000000 in
theorem law_start {p : Program} {e : Env} {s : State} {m : MethodId} {below : List Frame} {meth : Method} {c : Code} (l : Launch) (hflags : l.flags = flags0) {b L : Nat} {xs : Nat → Int32} (hL : L ≤ 2560) (C0 : lw_At p s m meth c b L xs) {R : Nat → kMem → kMem → Prop} (hR0 : R 0 f0 g0) (hmono : ∀ N f g, R N f g → R (N + 1) f g) (hp_append : kP_append R) (hp_colour : kP_colour R) (hp_part : kP_part R) (hp_family : kP_family R) (hp_program : kP_program R) (hp_faultPosition : kP_faultPosition R) (hp_mount : kP_mount R) (hp_load : kP_load R) (hp_empty : kP_empty R) (hp_pause : kP_pause R) (hp_run : kP_run R) (hp_order : kP_order R) (hp_callOff : kP_callOff R) (hp_set : kP_set R) (hp_purge : kP_purge R) (hp_minutes : kP_minutes R) (hp_best : kP_best R) (hp_bestAgain : kP_bestAgain R) (hp_bestColour : kP_bestColour R) (hp_familyOf : kP_familyOf R) (hp_pieces : kP_pieces R) (hp_families : kP_families R) (hp_dryer : kP_dryer R) (hp_stock : kP_stock R) (hp_made : kP_made R) (hp_orderOf : kP_orderOf R) (hp_shots : kP_shots R) (hp_letter : kP_letter R) (hp_due : kP_due R) (hp_reason : kP_reason R) (hp_scrap : kP_scrap R) (hp_lateness : kP_lateness R) (hp_account : kP_account R) (hp_undo : kP_undo R) (hp_save : kP_save R) (hp_restore : kP_restore R) : W p l e room_1 s m #[Value.ref b] below meth c s.heap [] 0 0 (lw_Z below #[Value.ref b] s) (entryFrame m ([Value.ref b] : List Value).toArray 9) := by
  obtain ⟨hx, hb, hr, hml, hown, hts, hX, hbl, hlocks, hgv⟩ := C0
  have htk := hts_k hts
  have hst : l.stackTraces = false := by unfold Launch.stackTraces; rw [hflags]; decide
  obtain ⟨G, cL, cD, hK⟩ := st_K hts
  obtain ⟨st, hSt⟩ := st_S hts hgv
  have hNW := st_nw st_NW hts
  have hXA := st_XA hK hts hgv
  have hNC := st_NC hgv
  have hSA0 := hSt (wC G (adC 0 st (fun _ _ => 0))) (fun k => (adC_st : adC 0 st (fun _ _ => 0) (1000 + k) = st k))
  have hfx : CallFix p m c code 9 s #[Value.ref b] kGT RL := ⟨hx, hb, hml, hown, htk⟩
  have C : LC0 s m p c b G cL cD (st 0) := ⟨hfx, hK, hNW, va_AO.of (hts _ wst_F)⟩
  have hl := lv_entry ([.ref b]) (n := 9) (Nat.le_of_ble_eq_true rfl)
  rw [lg_entry_eq]
  generalize (lg_sl ([.ref b]) ++ List.replicate (9 - (lg_sl ([.ref b])).length) Slot.unset).toArray = ls at hl ⊢
  have hl : lv_has ls 9 [(0, .ref b)] := hl
  have go : LJ p l e s m below meth c b G.1 [] 0 0 0 [(0, .ref b)] [] := by
    refine L_new C (ci := 13) (fs := [.null, .null, .null, .null, .null, .null, .null, .null, .int 0]) kin_X11 tyX11 tyX11_ok kyc_8 kyo_X11 kyz_X11 rfl (fun j hj => by rcases (show j = 0 ∨ j = 1 ∨ j = 2 ∨ j = 3 ∨ j = 4 ∨ j = 5 ∨ j = 6 ∨ j = 7 ∨ j = 8 by omega) with rfl | rfl | rfl | rfl | rfl | rfl | rfl | rfl | rfl <;> rfl) (by decide) (by decide) dL_law_0 (fun q1 => ?_)
    refine L_dup C rfl dL_law_3 ?_
    refine L_ctor C (X := []) (kim_X11_init l G (st 0)) kys_X11_init rfl kyn_X11_init kyl_133 (by decide) (by decide) (by decide) (Nat.le_of_ble_eq_true rfl) dL_law_4 (fun u1 => ?_)
    refine L_astn C (lv1 := [(1, .ref q1), (0, .ref b)]) rfl (by decide) rfl dL_law_7 ?_
    refine L_new C (ci := 14) (fs := [.null, .null, .null, .int 0, .null, .int 0, .null, .int 0, .int 0, .int 0, .int 0, .null, .null, .int 0, .null, .int 0, .null, .null, .int 0]) kin_X12 tyX12 tyX12_ok kyc_134 kyo_X12 kyz_X12 rfl (fun j hj => by rcases (show j = 0 ∨ j = 1 ∨ j = 2 ∨ j = 3 ∨ j = 4 ∨ j = 5 ∨ j = 6 ∨ j = 7 ∨ j = 8 ∨ j = 9 ∨ j = 10 ∨ j = 11 ∨ j = 12 ∨ j = 13 ∨ j = 14 ∨ j = 15 ∨ j = 16 ∨ j = 17 ∨ j = 18 by omega) with rfl | rfl | rfl | rfl | rfl | rfl | rfl | rfl | rfl | rfl | rfl | rfl | rfl | rfl | rfl | rfl | rfl | rfl | rfl <;> rfl) (by decide) (by decide) dL_law_8 (fun q2 => ?_)
    refine L_dup C rfl dL_law_11 ?_
    refine L_ctor C (X := [] ++ Y_X11 G q1 u1) (kim_X12_init l G (st 0)) kys_X12_init rfl kyn_X12_init kyl_136 (by decide) (by decide) (by decide) (Nat.le_of_ble_eq_true rfl) dL_law_12 (fun u2 => ?_)
    refine L_astn C (lv1 := [(2, .ref q2), (1, .ref q1), (0, .ref b)]) rfl (by decide) rfl dL_law_15 ?_
    refine L_ic0 C (v := 1) rfl dL_law_16 ?_
    refine L_newL C (by decide) (by decide) dL_law_17 (fun qo => ?_)
    refine L_astn C (lv1 := [(3, .ref qo), (2, .ref q2), (1, .ref q1), (0, .ref b)]) rfl (by decide) rfl dL_law_19 ?_
    refine L_ic0 C (v := 1) rfl dL_law_20 ?_
    refine L_newD C (by decide) (by decide) dL_law_21 (fun qd => ?_)
    refine L_ast C (lv1 := [(4, .ref qd), (3, .ref qo), (2, .ref q2), (1, .ref q1), (0, .ref b)]) (by decide) rfl dL_law_23 ?_
    refine L_ic0 C (v := nI 0) rfl dL_law_25 ?_
    refine L_ist0 C (lv1 := [(5, .int (nI 0)), (4, .ref qd), (3, .ref qo), (2, .ref q2), (1, .ref q1), (0, .ref b)]) (by decide) rfl dL_law_26 ?_
    intro H locs ls hP hD hS hl
    have hC2 : LC p l s m meth c b L xs G cL cD (adC q1 st u1) (adM q2 st u2) := ⟨hfx, ⟨hK, hNW, hSt (wC G (adC q1 st u1)) (fun k => (adC_st : adC q1 st u1 (1000 + k) = st k)), hXA, hNC⟩, hSt (wM G (adM q2 st u2)) (fun k => (adM_st : adM q2 st u2 (1000 + k) = st k)), hX, hbl, hr, hlocks, hst, hL⟩
    have e9 : (([] ++ Y_X11 G q1 u1 ++ Y_X12 G q2 u2) ++ [(qo, oL cL (fun _ => 0))]) ++ [(qd, oD cD (fun _ => 0))] = Y_X11 G q1 u1 ++ (Y_X12 G q2 u2 ++ [(qo, oL cL (fun _ => 0)), (qd, oD cD (fun _ => 0))]) := by simp only [List.nil_append, List.append_assoc, List.cons_append]
    rw [e9] at hP hD
    obtain ⟨d1, d2, d3⟩ := vD_app.mp hD
    have hPC : va_P G.1 vwCl (Y_X11 G q1 u1) H := vP_mem.mpr fun q hq => vP_mem.mp hP q (List.mem_append_left _ hq)
    obtain ⟨p1, p2⟩ := asmC (st := st) (A := fun q => AL s q ∧ ∀ y ∈ Y_X12 G q2 u2 ++ [(qo, oL cL (fun _ => 0)), (qd, oD cD (fun _ => 0))], q ≠ y.1) hPC ⟨d1.1, fun k q hk => ⟨d1.2 k q hk, fun y hy => d3 q (List.mem_of_getElem? hk) y hy⟩⟩
    have hP2 : va_P G.1 vwCl (lws G (adC q1 st u1) (adM q2 st u2) cL cD qo qd f0 g0 (fun _ => 0) (fun _ => 0)) H := by
      unfold lws
      rw [asmM_eq]
      refine vP_mem.mpr fun q hq => ?_
      rcases List.mem_append.mp hq with h | h
      · exact vP_mem.mp p1 q h
      · exact vP_mem.mp hP q (List.mem_append_right _ h)
    have hD2 : va_D (AL s) (lws G (adC q1 st u1) (adM q2 st u2) cL cD qo qd f0 g0 (fun _ => 0) (fun _ => 0)) := by
      unfold lws
      rw [asmM_eq]
      refine vD_app.mpr ⟨⟨p2.1, fun k q hk => (p2.2 k q hk).1⟩, d2, fun x hx y hy => ?_⟩
      obtain ⟨i, hi⟩ := List.getElem?_of_mem hx
      exact (p2.2 i x hi).2 y hy
    have hl2 : lv_has ls 9 [(0, .ref b), (1, .ref q1), (2, .ref q2), (3, .ref qo), (4, .ref qd), (5, .int (nI 0))] := lv_sub hl [5, 4, 3, 2, 1, 0] rfl
    exact law_loop hC2 hmono hp_append hp_colour hp_part hp_family hp_program hp_faultPosition hp_mount hp_load hp_empty hp_pause hp_run hp_order hp_callOff hp_set hp_purge hp_minutes hp_best hp_bestAgain hp_bestColour hp_familyOf hp_pieces hp_families hp_dryer hp_stock hp_made hp_orderOf hp_shots hp_letter hp_due hp_reason hp_scrap hp_lateness hp_account hp_undo hp_save hp_restore 512 0 (by omega) (by omega) f0 g0 (fun _ => 0) (fun _ => 0) _ _ hR0 (by decide) (by decide) H locs ls hP2 hD2 hS hl2
  exact go s.heap [] ls (fun k q h => by simp at h) ⟨fun i j p q h => by simp at h, fun k q h => by simp at h⟩ va_S.rf hl
