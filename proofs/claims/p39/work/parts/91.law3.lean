/-! the law: refused -/
theorem jy_L_asks : kYS yL_asks cL_asks 6 (some .long) 1 := ⟨⟨kgt (List.mem_of_getElem? (i := 1431) (by decide +kernel)) rfl, kgt (List.mem_of_getElem? (i := 20) (by decide +kernel)) rfl, by decide +kernel, by decide⟩, kgt (List.mem_of_getElem? (i := 1430) (by decide +kernel)) rfl⟩
theorem jm_L_279 : Cond.methodLink RL 279 yL_asks ∈ kGT := kgt (List.mem_of_getElem? (i := 1429) (by decide +kernel)) rfl
theorem jy_L_is : kYS yL_is cL_is 4 (some .boolean) 4 := ⟨⟨kgt (List.mem_of_getElem? (i := 1087) (by decide +kernel)) rfl, kgt (List.mem_of_getElem? (i := 20) (by decide +kernel)) rfl, by decide +kernel, by decide⟩, kgt (List.mem_of_getElem? (i := 1086) (by decide +kernel)) rfl⟩
theorem jm_L_283 : Cond.methodLink RL 283 yL_is ∈ kGT := kgt (List.mem_of_getElem? (i := 1085) (by decide +kernel)) rfl
theorem jc_L_287 : Cond.constant RL 287 100000 ∈ kGT := kgt (List.mem_of_getElem? (i := 1588) (by decide +kernel)) rfl
theorem jy_L_pieces : kYW yL_pieces cL_pieces 4 (some .int) [(0, 6, 7, 63)] 3 := ⟨kgt (List.mem_of_getElem? (i := 1591) (by decide +kernel)) rfl, kgt (List.mem_of_getElem? (i := 20) (by decide +kernel)) rfl, kgt (List.mem_of_getElem? (i := 1590) (by decide +kernel)) rfl, by decide +kernel, by decide⟩
theorem jm_L_288 : Cond.methodLink RL 288 yL_pieces ∈ kGT := kgt (List.mem_of_getElem? (i := 1589) (by decide +kernel)) rfl
section RF
variable {p : Program} {l : Launch} {e : Env} {R : Room} {s : State} {m : MethodId} {args : Array Value} {below : List Frame} {meth : Method} {c : Code} {Z : mZ} {A : Nat → Prop} {ss : List (Nat × Nat × List Int32)} {nL : Nat} {ret : Option FieldType} {d mc ms : Nat} {ρ : Type} {QF : State → Prop} {z : ρ} {U : Nat} {ad : Nat → Nat}
def lj_refused_972 (f : kMem) (x1 : Int64) (x7 : Int32) : Option (Int32 × kMem) := keq x7 0 none (kbind (lf_does (mTx "w0") f) (fun r164 g165 => keq r164 (-1002) (kbind (lf_does (mTx "q") g165) (fun r169 g170 => keq r169 (-1001) (kbind (lf_told (mTx "0 0 0x0") g170) (fun r174 g175 => keq r174 (-1002) (kbind (lf_told (mTx "q") g175) (fun r179 g180 => keq r179 (-1001) (mlbind (lf_asks g180) (fun r181 g182 => mleq r181 x1 (some (1, g182)))) none)) none)) none)) none))
def lj_refused_917 (f : kMem) (x1 : Int64) (x3 : Int32) (x4 : Int32) (x5 : Int32) (x6 : Int32) : Option (Int32 × kMem) := kbind (lf_reason f (-1) 1) (fun r153 g154 => keq r153 (-1001) (kbind (lf_reason g154 9 1) (fun r155 g156 => keq r155 (-1002) (kbind (lf_account g156 19) (fun r157 g158 => keq r157 (-1001) (kbind (lf_account g158 (-1)) (fun r159 g160 => keq r159 (-1001) (lj_refused_972 g160 x1 1) none)) none)) none)) none)
def lj_refused_868 (f : kMem) (x1 : Int64) (x3 : Int32) (x4 : Int32) (x5 : Int32) (x6 : Int32) : Option (Int32 × kMem) := kbind (lf_orderOf f x6 9) (fun r145 g146 => keq r145 (-1001) (kbind (lf_shots g146 x6) (fun r147 g148 => keq r147 (-1001) (kbind (lf_letter g148 x6) (fun r149 g150 => keq r149 (-1001) (kbind (lf_due g150 (-1)) (fun r151 g152 => keq r151 (-1001) (lj_refused_917 g152 x1 x3 x4 x5 x6) none)) none)) none)) none)
def lj_refused_802 (f : kMem) (x1 : Int64) (x3 : Int32) (x4 : Int32) (x5 : Int32) (x6 : Int32) : Option (Int32 × kMem) := kbind (lf_stock f x4 0 0) (fun r135 g136 => keq r135 (-1001) (kbind (lf_stock g136 0 x3 9) (fun r137 g138 => keq r137 (-1001) (kbind (lf_stock g138 0 0 3) (fun r139 g140 => keq r139 (-1002) (kbind (lf_made g140 x4 0) (fun r141 g142 => keq r141 (-1001) (kbind (lf_made g142 0 4) (fun r143 g144 => keq r143 (-1002) (lj_refused_868 g144 x1 x3 x4 x5 x6) none)) none)) none)) none)) none)
def lj_refused_727 (f : kMem) (x1 : Int64) (x3 : Int32) (x4 : Int32) (x5 : Int32) (x6 : Int32) : Option (Int32 × kMem) := kbind (lf_pieces f 0 x4) (fun r123 g124 => keq r123 (-1001) (kbind (lf_pieces g124 x5 0) (fun r125 g126 => keq r125 (-1001) (kbind (lf_families g126 x4) (fun r127 g128 => keq r127 (-1001) (kbind (lf_dryer g128 3 9) (fun r129 g130 => keq r129 (-1001) (kbind (lf_dryer g130 0 4) (fun r131 g132 => keq r131 (-1002) (kbind (lf_dryer g132 0 (-1)) (fun r133 g134 => keq r133 (-1002) (lj_refused_802 g134 x1 x3 x4 x5 x6) none)) none)) none)) none)) none)) none)
def lj_refused_663 (f : kMem) (x1 : Int64) (x3 : Int32) (x4 : Int32) (x5 : Int32) (x6 : Int32) : Option (Int32 × kMem) := kbind (lf_minutes f 0 201) (fun r113 g114 => keq r113 (-1002) (kbind (lf_best g114 (-1)) (fun r115 g116 => keq r115 (-1001) (kbind (lf_best g116 ((1 : Int32) <<< (x3 &&& 31))) (fun r117 g118 => keq r117 (-1001) (kbind (lf_familyOf g118 x5 9) (fun r119 g120 => keq r119 (-1001) (kbind (lf_familyOf g120 0 5) (fun r121 g122 => keq r121 (-1002) (lj_refused_727 g122 x1 x3 x4 x5 x6) none)) none)) none)) none)) none)
def lj_refused_610 (f : kMem) (x1 : Int64) (x3 : Int32) (x4 : Int32) (x5 : Int32) (x6 : Int32) (x7 : Int32) : Option (Int32 × kMem) := keq x7 0 none (kbind (lf_purge f x3 0) (fun r105 g106 => keq r105 (-1001) (kbind (lf_purge g106 0 (-1)) (fun r107 g108 => keq r107 (-1001) (kbind (lf_minutes g108 x3 0) (fun r109 g110 => keq r109 (-1001) (kbind (lf_minutes g110 0 0) (fun r111 g112 => keq r111 (-1002) (lj_refused_663 g112 x1 x3 x4 x5 x6) none)) none)) none)) none))
def lj_refused_551 (f : kMem) (x1 : Int64) (x3 : Int32) (x4 : Int32) (x5 : Int32) (x6 : Int32) : Option (Int32 × kMem) := kbind (lf_set f 1 1000) (fun r97 g98 => keq r97 (-1001) (kbind (lf_set g98 2 6) (fun r99 g100 => keq r99 (-1001) (kbind (lf_set g100 3 100) (fun r101 g102 => keq r101 (-1001) (kbind (lf_set g102 3 (-1)) (fun r103 g104 => keq r103 (-1001) (lj_refused_610 g104 x1 x3 x4 x5 x6 1) none)) none)) none)) none)
def lj_refused_490 (f : kMem) (x1 : Int64) (x3 : Int32) (x4 : Int32) (x5 : Int32) (x6 : Int32) : Option (Int32 × kMem) := kbind (lf_set f 4 0) (fun r87 g88 => keq r87 (-1001) (kbind (lf_is g88 0 2 0) (fun r89 g90 => keq r89 0 none (kbind (lf_set g90 (-1) 0) (fun r91 g92 => keq r91 (-1001) (kbind (lf_set g92 0 59) (fun r93 g94 => keq r93 (-1001) (kbind (lf_set g94 0 10000) (fun r95 g96 => keq r95 (-1001) (lj_refused_551 g96 x1 x3 x4 x5 x6) none)) none)) none)))) none)
def lj_refused_424 (f : kMem) (x1 : Int64) (x3 : Int32) (x4 : Int32) (x5 : Int32) (x6 : Int32) : Option (Int32 × kMem) := kbind (lf_order f 0 0 21 0) (fun r77 g78 => keq r77 (-1001) (kbind (lf_order g78 0 0 1 (-1)) (fun r79 g80 => keq r79 (-1001) (kbind (lf_order g80 0 0 1 100) (fun r81 g82 => keq r81 (-1001) (kbind (lf_callOff g82 x6) (fun r83 g84 => keq r83 (-1001) (kbind (lf_is g84 0 1 0) (fun r85 g86 => keq r85 0 none (lj_refused_490 g86 x1 x3 x4 x5 x6))) none)) none)) none)) none)
def lj_refused_351 (f : kMem) (x1 : Int64) (x3 : Int32) (x4 : Int32) (x5 : Int32) (x6 : Int32) : Option (Int32 × kMem) := kbind (lf_order f x4 0 0 0) (fun r65 g66 => keq r65 (-1001) (kbind (lf_is g66 0 1 0) (fun r67 g68 => keq r67 0 none (kbind (lf_order g68 0 x3 0 0) (fun r69 g70 => keq r69 (-1001) (kbind (lf_is g70 0 1 0) (fun r71 g72 => keq r71 0 none (kbind (lf_order g72 0 0 0 0) (fun r73 g74 => keq r73 (-1001) (kbind (lf_is g74 0 2 0) (fun r75 g76 => keq r75 0 none (lj_refused_424 g76 x1 x3 x4 x5 x6))) none)))) none)))) none)
def lj_refused_278 (f : kMem) (x1 : Int64) (x3 : Int32) (x4 : Int32) (x5 : Int32) (x6 : Int32) (x7 : Int32) : Option (Int32 × kMem) := keq x7 0 none (kbind (lf_run f x3 0) (fun r53 g54 => keq r53 (-1001) (kbind (lf_is g54 0 1 0) (fun r55 g56 => keq r55 0 none (kbind (lf_run g56 0 0) (fun r57 g58 => keq r57 (-1001) (kbind (lf_is g58 0 2 0) (fun r59 g60 => keq r59 0 none (kbind (lf_run g60 0 201) (fun r61 g62 => keq r61 (-1001) (kbind (lf_is g62 0 2 0) (fun r63 g64 => keq r63 0 none (lj_refused_351 g64 x1 x3 x4 x5 x6))) none)))) none)))) none))
def lj_refused_237 (f : kMem) (x1 : Int64) (x3 : Int32) (x4 : Int32) (x5 : Int32) (x6 : Int32) : Option (Int32 × kMem) := kbind (lf_pause f 0) (fun r47 g48 => keq r47 (-1001) (kbind (lf_is g48 0 2 0) (fun r49 g50 => keq r49 0 none (kbind (lf_pause g50 1000) (fun r51 g52 => keq r51 (-1001) (lj_refused_278 g52 x1 x3 x4 x5 x6 1) none)))) none)
def lj_refused_190 (f : kMem) (x1 : Int64) (x3 : Int32) (x4 : Int32) (x5 : Int32) (x6 : Int32) : Option (Int32 × kMem) := kbind (lf_load f 0 0 100000) (fun r39 g40 => keq r39 (-1001) (kbind (lf_empty g40 3) (fun r41 g42 => keq r41 (-1001) (kbind (lf_is g42 0 1 0) (fun r43 g44 => keq r43 0 none (kbind (lf_empty g44 (-1)) (fun r45 g46 => keq r45 (-1001) (lj_refused_237 g46 x1 x3 x4 x5 x6) none)))) none)) none)
def lj_refused_121 (f : kMem) (x1 : Int64) (x3 : Int32) (x4 : Int32) (x5 : Int32) (x6 : Int32) : Option (Int32 × kMem) := kbind (lf_load f 3 0 0) (fun r27 g28 => keq r27 (-1001) (kbind (lf_is g28 0 1 0) (fun r29 g30 => keq r29 0 none (kbind (lf_load g30 0 x3 0) (fun r31 g32 => keq r31 (-1001) (kbind (lf_is g32 0 1 0) (fun r33 g34 => keq r33 0 none (kbind (lf_load g34 0 0 0) (fun r35 g36 => keq r35 (-1001) (kbind (lf_is g36 0 2 0) (fun r37 g38 => keq r37 0 none (lj_refused_190 g38 x1 x3 x4 x5 x6))) none)))) none)))) none)
set_option maxRecDepth 20000 in
set_option maxHeartbeats 4000000 in
theorem mlj_refused_972 {wi : va_W} {z : Int32 × kMem} (C : MC p l e R s m args below meth c Z (wA wi s.heap.size) ss RL cL_refused nL (some .boolean) d mc ms) (hA : ∀ q, s.heap.size ≤ q → wA wi s.heap.size q) (hU : 2 * U ≤ mc ∧ 12 * U ≤ ms) (had : mAd Z ad) (hd : 10 ≤ d ∧ 8 ≤ nL) (f : kMem) (x1 : Int64) (x7 : Int32) (u : Nat) (hu : u + 691 ≤ U) : M p l e R s m args below meth c Z (wA wi s.heap.size) nL (mQF below Z (mQi (wC Z.1 ad) z) wi args s mc ms) z (2 * u) (12 * u) (kw (wC Z.1 ad) f ++ []) 972 [(0, .ref (ad 291)), (1, .long x1), (7, .int x7)] [] (lj_refused_972 f x1 x7) := by
  unfold lj_refused_972
  refine M_iload C 2 rfl dL_refused_972 ?_
  refine M_if_eq C (tgt := 1042) (by decide) dL_refused_974 M_none ?_
  refine M_aload_n C 0 rfl rfl dL_refused_977 ?_
  refine M_ldcwS C (tx := "w0") (by decide) dL_refused_978 (fun sa161 sv162 hs163 => ?_)
  refine M_bS C hA hU (v := 17) (wr := []) (As := [.ref (ad 291), .ref sa161]) (rest := []) (fun ry fy hy => ml_does l C.2.2.2.2.2.2 Z ad had f _ _ (mTx "w0") (mLit_ok "w0" (by decide)) ry fy hy) jy_L_does jm_L_276 (mSS_old (fun x9 hx9 => by obtain rfl := List.mem_singleton.mp hx9; exact hs163)) (by omega) (by omega) rfl rfl (Nat.le_of_ble_eq_true rfl) dL_refused_981 (fun r164 g165 => ?_)
  refine M_sipush C (v := (-1002)) (by decide) dL_refused_984 ?_
  refine M_icmp_ne C (tgt := 1042) (by decide) dL_refused_987 M_none ?_
  refine M_aload_n C 0 rfl rfl dL_refused_990 ?_
  refine M_ldcwS C (tx := "q") (by decide) dL_refused_991 (fun sa166 sv167 hs168 => ?_)
  refine M_bS C hA hU (v := 17) (wr := []) (As := [.ref (ad 291), .ref sa166]) (rest := []) (fun ry fy hy => ml_does l C.2.2.2.2.2.2 Z ad had g165 _ _ (mTx "q") (mLit_ok "q" (by decide)) ry fy hy) jy_L_does jm_L_276 (mSS_old (fun x9 hx9 => by obtain rfl := List.mem_singleton.mp hx9; exact hs168)) (by omega) (by omega) rfl rfl (Nat.le_of_ble_eq_true rfl) dL_refused_994 (fun r169 g170 => ?_)
  refine M_sipush C (v := (-1001)) (by decide) dL_refused_997 ?_
  refine M_icmp_ne C (tgt := 1042) (by decide) dL_refused_1000 M_none ?_
  refine M_aload_n C 0 rfl rfl dL_refused_1003 ?_
  refine M_ldcwS C (tx := "0 0 0x0") (by decide) dL_refused_1004 (fun sa171 sv172 hs173 => ?_)
  refine M_bS C hA hU (v := 17) (wr := []) (As := [.ref (ad 291), .ref sa171]) (rest := []) (fun ry fy hy => ml_told l C.2.2.2.2.2.2 Z ad had g170 _ _ (mTx "0 0 0x0") (mLit_ok "0 0 0x0" (by decide)) ry fy hy) jy_L_told jm_L_186 (mSS_old (fun x9 hx9 => by obtain rfl := List.mem_singleton.mp hx9; exact hs173)) (by omega) (by omega) rfl rfl (Nat.le_of_ble_eq_true rfl) dL_refused_1007 (fun r174 g175 => ?_)
  refine M_sipush C (v := (-1002)) (by decide) dL_refused_1010 ?_
  refine M_icmp_ne C (tgt := 1042) (by decide) dL_refused_1013 M_none ?_
  refine M_aload_n C 0 rfl rfl dL_refused_1016 ?_
  refine M_ldcwS C (tx := "q") (by decide) dL_refused_1017 (fun sa176 sv177 hs178 => ?_)
  refine M_bS C hA hU (v := 17) (wr := []) (As := [.ref (ad 291), .ref sa176]) (rest := []) (fun ry fy hy => ml_told l C.2.2.2.2.2.2 Z ad had g175 _ _ (mTx "q") (mLit_ok "q" (by decide)) ry fy hy) jy_L_told jm_L_186 (mSS_old (fun x9 hx9 => by obtain rfl := List.mem_singleton.mp hx9; exact hs178)) (by omega) (by omega) rfl rfl (Nat.le_of_ble_eq_true rfl) dL_refused_1020 (fun r179 g180 => ?_)
  refine M_sipush C (v := (-1001)) (by decide) dL_refused_1023 ?_
  refine M_icmp_ne C (tgt := 1042) (by decide) dL_refused_1026 M_none ?_
  refine M_aload_n C 0 rfl rfl dL_refused_1029 ?_
  refine M_bSl C hA hU (v := 623) (wr := []) (As := [.ref (ad 291)]) (rest := []) (fun ry fy hy => ml_asks l C.2.2.2.2.2.2 Z ad had g180  ry fy hy) jy_L_asks jm_L_279 mSS_nil (by omega) (by omega) rfl rfl (Nat.le_of_ble_eq_true rfl) dL_refused_1030 (fun r181 g182 => ?_)
  refine M_lload_n C 1 rfl rfl dL_refused_1033 ?_
  refine M_lcmpE C dL_refused_1034 ?_
  refine M_if_neF C (tgt := 1042) (by decide) (by decide) dL_refused_1035 ?_
  refine M_iconst C (v := 1) (by decide) dL_refused_1038 ?_
  refine M_goto C (tgt := 1043) (by decide) dL_refused_1039 ?_
  exact M_iret C (ty := .boolean) rfl rfl ⟨by omega, by omega⟩ dL_refused_1043 (fun h9 => by cases h9; exact ⟨rfl, List.append_nil _⟩)
set_option maxRecDepth 20000 in
set_option maxHeartbeats 4000000 in
theorem mlj_refused_917 {wi : va_W} {z : Int32 × kMem} (C : MC p l e R s m args below meth c Z (wA wi s.heap.size) ss RL cL_refused nL (some .boolean) d mc ms) (hA : ∀ q, s.heap.size ≤ q → wA wi s.heap.size q) (hU : 2 * U ≤ mc ∧ 12 * U ≤ ms) (had : mAd Z ad) (hd : 10 ≤ d ∧ 8 ≤ nL) (f : kMem) (x1 : Int64) (x3 : Int32) (x4 : Int32) (x5 : Int32) (x6 : Int32) (u : Nat) (hu : u + 695 ≤ U) : M p l e R s m args below meth c Z (wA wi s.heap.size) nL (mQF below Z (mQi (wC Z.1 ad) z) wi args s mc ms) z (2 * u) (12 * u) (kw (wC Z.1 ad) f ++ []) 917 [(0, .ref (ad 291)), (1, .long x1), (3, .int x3), (4, .int x4), (5, .int x5), (6, .int x6)] [] (lj_refused_917 f x1 x3 x4 x5 x6) := by
  unfold lj_refused_917
  refine M_aload_n C 0 rfl rfl dL_refused_917 ?_
  refine M_iconst C (v := (-1)) (by decide) dL_refused_918 ?_
  refine M_iconst C (v := 1) (by decide) dL_refused_919 ?_
  refine M_bW C hA hU (v := 1) (wr := []) (As := [.ref (ad 291), .int (-1), .int 1]) (rest := []) (fun ry fy hy => wl_reason l C.2.2.2.2.2.2 Z ad had f (-1) 1 ry fy hy) jy_L_reason jm_L_158 mSS_nil (by omega) (by omega) rfl rfl (Nat.le_of_ble_eq_true rfl) dL_refused_920 (fun r153 g154 => ?_)
  refine M_sipush C (v := (-1001)) (by decide) dL_refused_923 ?_
  refine M_icmp_ne C (tgt := 969) (by decide) dL_refused_926 M_none ?_
  refine M_aload_n C 0 rfl rfl dL_refused_929 ?_
  refine M_bipush C (v := 9) (by decide) dL_refused_930 ?_
  refine M_iconst C (v := 1) (by decide) dL_refused_932 ?_
  refine M_bW C hA hU (v := 1) (wr := []) (As := [.ref (ad 291), .int 9, .int 1]) (rest := []) (fun ry fy hy => wl_reason l C.2.2.2.2.2.2 Z ad had g154 9 1 ry fy hy) jy_L_reason jm_L_158 mSS_nil (by omega) (by omega) rfl rfl (Nat.le_of_ble_eq_true rfl) dL_refused_933 (fun r155 g156 => ?_)
  refine M_sipush C (v := (-1002)) (by decide) dL_refused_936 ?_
  refine M_icmp_ne C (tgt := 969) (by decide) dL_refused_939 M_none ?_
  refine M_aload_n C 0 rfl rfl dL_refused_942 ?_
  refine M_bipush C (v := 19) (by decide) dL_refused_943 ?_
  refine M_bW C hA hU (v := 1) (wr := []) (As := [.ref (ad 291), .int 19]) (rest := []) (fun ry fy hy => wl_account l C.2.2.2.2.2.2 Z ad had g156 19 ry fy hy) jy_L_account jm_L_213 mSS_nil (by omega) (by omega) rfl rfl (Nat.le_of_ble_eq_true rfl) dL_refused_945 (fun r157 g158 => ?_)
  refine M_sipush C (v := (-1001)) (by decide) dL_refused_948 ?_
  refine M_icmp_ne C (tgt := 969) (by decide) dL_refused_951 M_none ?_
  refine M_aload_n C 0 rfl rfl dL_refused_954 ?_
  refine M_iconst C (v := (-1)) (by decide) dL_refused_955 ?_
  refine M_bW C hA hU (v := 1) (wr := []) (As := [.ref (ad 291), .int (-1)]) (rest := []) (fun ry fy hy => wl_account l C.2.2.2.2.2.2 Z ad had g158 (-1) ry fy hy) jy_L_account jm_L_213 mSS_nil (by omega) (by omega) rfl rfl (Nat.le_of_ble_eq_true rfl) dL_refused_956 (fun r159 g160 => ?_)
  refine M_sipush C (v := (-1001)) (by decide) dL_refused_959 ?_
  refine M_icmp_ne C (tgt := 969) (by decide) dL_refused_962 M_none ?_
  refine M_iconst C (v := 1) (by decide) dL_refused_965 ?_
  refine M_goto C (tgt := 970) (by decide) dL_refused_966 ?_
  refine M_istore C (Nat.lt_of_lt_of_le (by decide) hd.2) (lv1 := [(7, .int 1), (0, .ref (ad 291)), (1, .long x1), (3, .int x3), (4, .int x4), (5, .int x5), (6, .int x6)]) rfl dL_refused_970 ?_
  refine M_sub [1, 2, 0] (lv1 := [(0, .ref (ad 291)), (1, .long x1), (7, .int 1)]) rfl ?_
  exact mlj_refused_972 C hA hU had hd g160 x1 1 _ (by omega)
set_option maxRecDepth 20000 in
set_option maxHeartbeats 4000000 in
theorem mlj_refused_868 {wi : va_W} {z : Int32 × kMem} (C : MC p l e R s m args below meth c Z (wA wi s.heap.size) ss RL cL_refused nL (some .boolean) d mc ms) (hA : ∀ q, s.heap.size ≤ q → wA wi s.heap.size q) (hU : 2 * U ≤ mc ∧ 12 * U ≤ ms) (had : mAd Z ad) (hd : 10 ≤ d ∧ 8 ≤ nL) (f : kMem) (x1 : Int64) (x3 : Int32) (x4 : Int32) (x5 : Int32) (x6 : Int32) (u : Nat) (hu : u + 699 ≤ U) : M p l e R s m args below meth c Z (wA wi s.heap.size) nL (mQF below Z (mQi (wC Z.1 ad) z) wi args s mc ms) z (2 * u) (12 * u) (kw (wC Z.1 ad) f ++ []) 868 [(0, .ref (ad 291)), (1, .long x1), (3, .int x3), (4, .int x4), (5, .int x5), (6, .int x6)] [] (lj_refused_868 f x1 x3 x4 x5 x6) := by
  unfold lj_refused_868
  refine M_aload_n C 0 rfl rfl dL_refused_868 ?_
  refine M_iload C 5 rfl dL_refused_869 ?_
  refine M_bipush C (v := 9) (by decide) dL_refused_871 ?_
  refine M_bW C hA hU (v := 1) (wr := []) (As := [.ref (ad 291), .int x6, .int 9]) (rest := []) (fun ry fy hy => wl_orderOf l C.2.2.2.2.2.2 Z ad had f x6 9 ry fy hy) jy_L_orderOf jm_L_226 mSS_nil (by omega) (by omega) rfl rfl (Nat.le_of_ble_eq_true rfl) dL_refused_873 (fun r145 g146 => ?_)
  refine M_sipush C (v := (-1001)) (by decide) dL_refused_876 ?_
  refine M_icmp_ne C (tgt := 969) (by decide) dL_refused_879 M_none ?_
  refine M_aload_n C 0 rfl rfl dL_refused_882 ?_
  refine M_iload C 5 rfl dL_refused_883 ?_
  refine M_bW C hA hU (v := 1) (wr := []) (As := [.ref (ad 291), .int x6]) (rest := []) (fun ry fy hy => wl_shots l C.2.2.2.2.2.2 Z ad had g146 x6 ry fy hy) jy_L_shots jm_L_228 mSS_nil (by omega) (by omega) rfl rfl (Nat.le_of_ble_eq_true rfl) dL_refused_885 (fun r147 g148 => ?_)
  refine M_sipush C (v := (-1001)) (by decide) dL_refused_888 ?_
  refine M_icmp_ne C (tgt := 969) (by decide) dL_refused_891 M_none ?_
  refine M_aload_n C 0 rfl rfl dL_refused_894 ?_
  refine M_iload C 5 rfl dL_refused_895 ?_
  refine M_bW C hA hU (v := 1) (wr := []) (As := [.ref (ad 291), .int x6]) (rest := []) (fun ry fy hy => wl_letter l C.2.2.2.2.2.2 Z ad had g148 x6 ry fy hy) jy_L_letter jm_L_230 mSS_nil (by omega) (by omega) rfl rfl (Nat.le_of_ble_eq_true rfl) dL_refused_897 (fun r149 g150 => ?_)
  refine M_sipush C (v := (-1001)) (by decide) dL_refused_900 ?_
  refine M_icmp_ne C (tgt := 969) (by decide) dL_refused_903 M_none ?_
  refine M_aload_n C 0 rfl rfl dL_refused_906 ?_
  refine M_iconst C (v := (-1)) (by decide) dL_refused_907 ?_
  refine M_bW C hA hU (v := 1) (wr := []) (As := [.ref (ad 291), .int (-1)]) (rest := []) (fun ry fy hy => wl_due l C.2.2.2.2.2.2 Z ad had g150 (-1) ry fy hy) jy_L_due jm_L_243 mSS_nil (by omega) (by omega) rfl rfl (Nat.le_of_ble_eq_true rfl) dL_refused_908 (fun r151 g152 => ?_)
  refine M_sipush C (v := (-1001)) (by decide) dL_refused_911 ?_
  refine M_icmp_ne C (tgt := 969) (by decide) dL_refused_914 M_none ?_
  refine M_sub [0, 1, 2, 3, 4, 5] (lv1 := [(0, .ref (ad 291)), (1, .long x1), (3, .int x3), (4, .int x4), (5, .int x5), (6, .int x6)]) rfl ?_
  exact mlj_refused_917 C hA hU had hd g152 x1 x3 x4 x5 x6 _ (by omega)
set_option maxRecDepth 20000 in
set_option maxHeartbeats 4000000 in
theorem mlj_refused_802 {wi : va_W} {z : Int32 × kMem} (C : MC p l e R s m args below meth c Z (wA wi s.heap.size) ss RL cL_refused nL (some .boolean) d mc ms) (hA : ∀ q, s.heap.size ≤ q → wA wi s.heap.size q) (hU : 2 * U ≤ mc ∧ 12 * U ≤ ms) (had : mAd Z ad) (hd : 10 ≤ d ∧ 8 ≤ nL) (f : kMem) (x1 : Int64) (x3 : Int32) (x4 : Int32) (x5 : Int32) (x6 : Int32) (u : Nat) (hu : u + 704 ≤ U) : M p l e R s m args below meth c Z (wA wi s.heap.size) nL (mQF below Z (mQi (wC Z.1 ad) z) wi args s mc ms) z (2 * u) (12 * u) (kw (wC Z.1 ad) f ++ []) 802 [(0, .ref (ad 291)), (1, .long x1), (3, .int x3), (4, .int x4), (5, .int x5), (6, .int x6)] [] (lj_refused_802 f x1 x3 x4 x5 x6) := by
  unfold lj_refused_802
  refine M_aload_n C 0 rfl rfl dL_refused_802 ?_
  refine M_iload C 3 rfl dL_refused_803 ?_
  refine M_iconst C (v := 0) (by decide) dL_refused_805 ?_
  refine M_iconst C (v := 0) (by decide) dL_refused_806 ?_
  refine M_bW C hA hU (v := 1) (wr := []) (As := [.ref (ad 291), .int x4, .int 0, .int 0]) (rest := []) (fun ry fy hy => wl_stock l C.2.2.2.2.2.2 Z ad had f x4 0 0 ry fy hy) jy_L_stock jm_L_223 mSS_nil (by omega) (by omega) rfl rfl (Nat.le_of_ble_eq_true rfl) dL_refused_807 (fun r135 g136 => ?_)
  refine M_sipush C (v := (-1001)) (by decide) dL_refused_810 ?_
  refine M_icmp_ne C (tgt := 969) (by decide) dL_refused_813 M_none ?_
  refine M_aload_n C 0 rfl rfl dL_refused_816 ?_
  refine M_iconst C (v := 0) (by decide) dL_refused_817 ?_
  refine M_iload_n C 2 rfl rfl dL_refused_818 ?_
  refine M_bipush C (v := 9) (by decide) dL_refused_819 ?_
  refine M_bW C hA hU (v := 1) (wr := []) (As := [.ref (ad 291), .int 0, .int x3, .int 9]) (rest := []) (fun ry fy hy => wl_stock l C.2.2.2.2.2.2 Z ad had g136 0 x3 9 ry fy hy) jy_L_stock jm_L_223 mSS_nil (by omega) (by omega) rfl rfl (Nat.le_of_ble_eq_true rfl) dL_refused_821 (fun r137 g138 => ?_)
  refine M_sipush C (v := (-1001)) (by decide) dL_refused_824 ?_
  refine M_icmp_ne C (tgt := 969) (by decide) dL_refused_827 M_none ?_
  refine M_aload_n C 0 rfl rfl dL_refused_830 ?_
  refine M_iconst C (v := 0) (by decide) dL_refused_831 ?_
  refine M_iconst C (v := 0) (by decide) dL_refused_832 ?_
  refine M_iconst C (v := 3) (by decide) dL_refused_833 ?_
  refine M_bW C hA hU (v := 1) (wr := []) (As := [.ref (ad 291), .int 0, .int 0, .int 3]) (rest := []) (fun ry fy hy => wl_stock l C.2.2.2.2.2.2 Z ad had g138 0 0 3 ry fy hy) jy_L_stock jm_L_223 mSS_nil (by omega) (by omega) rfl rfl (Nat.le_of_ble_eq_true rfl) dL_refused_834 (fun r139 g140 => ?_)
  refine M_sipush C (v := (-1002)) (by decide) dL_refused_837 ?_
  refine M_icmp_ne C (tgt := 969) (by decide) dL_refused_840 M_none ?_
  refine M_aload_n C 0 rfl rfl dL_refused_843 ?_
  refine M_iload C 3 rfl dL_refused_844 ?_
  refine M_iconst C (v := 0) (by decide) dL_refused_846 ?_
  refine M_bW C hA hU (v := 1) (wr := []) (As := [.ref (ad 291), .int x4, .int 0]) (rest := []) (fun ry fy hy => wl_made l C.2.2.2.2.2.2 Z ad had g140 x4 0 ry fy hy) jy_L_made jm_L_221 mSS_nil (by omega) (by omega) rfl rfl (Nat.le_of_ble_eq_true rfl) dL_refused_847 (fun r141 g142 => ?_)
  refine M_sipush C (v := (-1001)) (by decide) dL_refused_850 ?_
  refine M_icmp_ne C (tgt := 969) (by decide) dL_refused_853 M_none ?_
  refine M_aload_n C 0 rfl rfl dL_refused_856 ?_
  refine M_iconst C (v := 0) (by decide) dL_refused_857 ?_
  refine M_iconst C (v := 4) (by decide) dL_refused_858 ?_
  refine M_bW C hA hU (v := 1) (wr := []) (As := [.ref (ad 291), .int 0, .int 4]) (rest := []) (fun ry fy hy => wl_made l C.2.2.2.2.2.2 Z ad had g142 0 4 ry fy hy) jy_L_made jm_L_221 mSS_nil (by omega) (by omega) rfl rfl (Nat.le_of_ble_eq_true rfl) dL_refused_859 (fun r143 g144 => ?_)
  refine M_sipush C (v := (-1002)) (by decide) dL_refused_862 ?_
  refine M_icmp_ne C (tgt := 969) (by decide) dL_refused_865 M_none ?_
  refine M_sub [0, 1, 2, 3, 4, 5] (lv1 := [(0, .ref (ad 291)), (1, .long x1), (3, .int x3), (4, .int x4), (5, .int x5), (6, .int x6)]) rfl ?_
  exact mlj_refused_868 C hA hU had hd g144 x1 x3 x4 x5 x6 _ (by omega)
set_option maxRecDepth 20000 in
set_option maxHeartbeats 4000000 in
theorem mlj_refused_727 {wi : va_W} {z : Int32 × kMem} (C : MC p l e R s m args below meth c Z (wA wi s.heap.size) ss RL cL_refused nL (some .boolean) d mc ms) (hA : ∀ q, s.heap.size ≤ q → wA wi s.heap.size q) (hU : 2 * U ≤ mc ∧ 12 * U ≤ ms) (had : mAd Z ad) (hd : 10 ≤ d ∧ 8 ≤ nL) (f : kMem) (x1 : Int64) (x3 : Int32) (x4 : Int32) (x5 : Int32) (x6 : Int32) (u : Nat) (hu : u + 710 ≤ U) : M p l e R s m args below meth c Z (wA wi s.heap.size) nL (mQF below Z (mQi (wC Z.1 ad) z) wi args s mc ms) z (2 * u) (12 * u) (kw (wC Z.1 ad) f ++ []) 727 [(0, .ref (ad 291)), (1, .long x1), (3, .int x3), (4, .int x4), (5, .int x5), (6, .int x6)] [] (lj_refused_727 f x1 x3 x4 x5 x6) := by
  unfold lj_refused_727
  refine M_aload_n C 0 rfl rfl dL_refused_727 ?_
  refine M_iconst C (v := 0) (by decide) dL_refused_728 ?_
  refine M_iload C 3 rfl dL_refused_729 ?_
  refine M_bW C hA hU (v := 1) (wr := []) (As := [.ref (ad 291), .int 0, .int x4]) (rest := []) (fun ry fy hy => wl_pieces l C.2.2.2.2.2.2 Z ad had f 0 x4 ry fy hy) jy_L_pieces jm_L_288 mSS_nil (by omega) (by omega) rfl rfl (Nat.le_of_ble_eq_true rfl) dL_refused_731 (fun r123 g124 => ?_)
  refine M_sipush C (v := (-1001)) (by decide) dL_refused_734 ?_
  refine M_icmp_ne C (tgt := 969) (by decide) dL_refused_737 M_none ?_
  refine M_aload_n C 0 rfl rfl dL_refused_740 ?_
  refine M_iload C 4 rfl dL_refused_741 ?_
  refine M_iconst C (v := 0) (by decide) dL_refused_743 ?_
  refine M_bW C hA hU (v := 1) (wr := []) (As := [.ref (ad 291), .int x5, .int 0]) (rest := []) (fun ry fy hy => wl_pieces l C.2.2.2.2.2.2 Z ad had g124 x5 0 ry fy hy) jy_L_pieces jm_L_288 mSS_nil (by omega) (by omega) rfl rfl (Nat.le_of_ble_eq_true rfl) dL_refused_744 (fun r125 g126 => ?_)
  refine M_sipush C (v := (-1001)) (by decide) dL_refused_747 ?_
  refine M_icmp_ne C (tgt := 969) (by decide) dL_refused_750 M_none ?_
  refine M_aload_n C 0 rfl rfl dL_refused_753 ?_
  refine M_iload C 3 rfl dL_refused_754 ?_
  refine M_bW C hA hU (v := 1) (wr := []) (As := [.ref (ad 291), .int x4]) (rest := []) (fun ry fy hy => wl_families l C.2.2.2.2.2.2 Z ad had g126 x4 ry fy hy) jy_L_families jm_L_219 mSS_nil (by omega) (by omega) rfl rfl (Nat.le_of_ble_eq_true rfl) dL_refused_756 (fun r127 g128 => ?_)
  refine M_sipush C (v := (-1001)) (by decide) dL_refused_759 ?_
  refine M_icmp_ne C (tgt := 969) (by decide) dL_refused_762 M_none ?_
  refine M_aload_n C 0 rfl rfl dL_refused_765 ?_
  refine M_iconst C (v := 3) (by decide) dL_refused_766 ?_
  refine M_bipush C (v := 9) (by decide) dL_refused_767 ?_
  refine M_bW C hA hU (v := 1) (wr := []) (As := [.ref (ad 291), .int 3, .int 9]) (rest := []) (fun ry fy hy => wl_dryer l C.2.2.2.2.2.2 Z ad had g128 3 9 ry fy hy) jy_L_dryer jm_L_217 mSS_nil (by omega) (by omega) rfl rfl (Nat.le_of_ble_eq_true rfl) dL_refused_769 (fun r129 g130 => ?_)
  refine M_sipush C (v := (-1001)) (by decide) dL_refused_772 ?_
  refine M_icmp_ne C (tgt := 969) (by decide) dL_refused_775 M_none ?_
  refine M_aload_n C 0 rfl rfl dL_refused_778 ?_
  refine M_iconst C (v := 0) (by decide) dL_refused_779 ?_
  refine M_iconst C (v := 4) (by decide) dL_refused_780 ?_
  refine M_bW C hA hU (v := 1) (wr := []) (As := [.ref (ad 291), .int 0, .int 4]) (rest := []) (fun ry fy hy => wl_dryer l C.2.2.2.2.2.2 Z ad had g130 0 4 ry fy hy) jy_L_dryer jm_L_217 mSS_nil (by omega) (by omega) rfl rfl (Nat.le_of_ble_eq_true rfl) dL_refused_781 (fun r131 g132 => ?_)
  refine M_sipush C (v := (-1002)) (by decide) dL_refused_784 ?_
  refine M_icmp_ne C (tgt := 969) (by decide) dL_refused_787 M_none ?_
  refine M_aload_n C 0 rfl rfl dL_refused_790 ?_
  refine M_iconst C (v := 0) (by decide) dL_refused_791 ?_
  refine M_iconst C (v := (-1)) (by decide) dL_refused_792 ?_
  refine M_bW C hA hU (v := 1) (wr := []) (As := [.ref (ad 291), .int 0, .int (-1)]) (rest := []) (fun ry fy hy => wl_dryer l C.2.2.2.2.2.2 Z ad had g132 0 (-1) ry fy hy) jy_L_dryer jm_L_217 mSS_nil (by omega) (by omega) rfl rfl (Nat.le_of_ble_eq_true rfl) dL_refused_793 (fun r133 g134 => ?_)
  refine M_sipush C (v := (-1002)) (by decide) dL_refused_796 ?_
  refine M_icmp_ne C (tgt := 969) (by decide) dL_refused_799 M_none ?_
  refine M_sub [0, 1, 2, 3, 4, 5] (lv1 := [(0, .ref (ad 291)), (1, .long x1), (3, .int x3), (4, .int x4), (5, .int x5), (6, .int x6)]) rfl ?_
  exact mlj_refused_802 C hA hU had hd g134 x1 x3 x4 x5 x6 _ (by omega)
set_option maxRecDepth 20000 in
set_option maxHeartbeats 4000000 in
theorem mlj_refused_663 {wi : va_W} {z : Int32 × kMem} (C : MC p l e R s m args below meth c Z (wA wi s.heap.size) ss RL cL_refused nL (some .boolean) d mc ms) (hA : ∀ q, s.heap.size ≤ q → wA wi s.heap.size q) (hU : 2 * U ≤ mc ∧ 12 * U ≤ ms) (had : mAd Z ad) (hd : 10 ≤ d ∧ 8 ≤ nL) (f : kMem) (x1 : Int64) (x3 : Int32) (x4 : Int32) (x5 : Int32) (x6 : Int32) (u : Nat) (hu : u + 715 ≤ U) : M p l e R s m args below meth c Z (wA wi s.heap.size) nL (mQF below Z (mQi (wC Z.1 ad) z) wi args s mc ms) z (2 * u) (12 * u) (kw (wC Z.1 ad) f ++ []) 663 [(0, .ref (ad 291)), (1, .long x1), (3, .int x3), (4, .int x4), (5, .int x5), (6, .int x6)] [] (lj_refused_663 f x1 x3 x4 x5 x6) := by
  unfold lj_refused_663
  refine M_aload_n C 0 rfl rfl dL_refused_663 ?_
  refine M_iconst C (v := 0) (by decide) dL_refused_664 ?_
  refine M_sipush C (v := 201) (by decide) dL_refused_665 ?_
  refine M_bW C hA hU (v := 1) (wr := []) (As := [.ref (ad 291), .int 0, .int 201]) (rest := []) (fun ry fy hy => wl_minutes l C.2.2.2.2.2.2 Z ad had f 0 201 ry fy hy) jy_L_minutes jm_L_234 mSS_nil (by omega) (by omega) rfl rfl (Nat.le_of_ble_eq_true rfl) dL_refused_668 (fun r113 g114 => ?_)
  refine M_sipush C (v := (-1002)) (by decide) dL_refused_671 ?_
  refine M_icmp_ne C (tgt := 969) (by decide) dL_refused_674 M_none ?_
  refine M_aload_n C 0 rfl rfl dL_refused_677 ?_
  refine M_iconst C (v := (-1)) (by decide) dL_refused_678 ?_
  refine M_bW C hA hU (v := 1) (wr := []) (As := [.ref (ad 291), .int (-1)]) (rest := []) (fun ry fy hy => wl_best l C.2.2.2.2.2.2 Z ad had g114 (-1) ry fy hy) jy_L_best jm_L_241 mSS_nil (by omega) (by omega) rfl rfl (Nat.le_of_ble_eq_true rfl) dL_refused_679 (fun r115 g116 => ?_)
  refine M_sipush C (v := (-1001)) (by decide) dL_refused_682 ?_
  refine M_icmp_ne C (tgt := 969) (by decide) dL_refused_685 M_none ?_
  refine M_aload_n C 0 rfl rfl dL_refused_688 ?_
  refine M_iconst C (v := 1) (by decide) dL_refused_689 ?_
  refine M_iload_n C 2 rfl rfl dL_refused_690 ?_
  refine M_ishl C dL_refused_691 ?_
  refine M_bW C hA hU (v := 1) (wr := []) (As := [.ref (ad 291), .int ((1 : Int32) <<< (x3 &&& 31))]) (rest := []) (fun ry fy hy => wl_best l C.2.2.2.2.2.2 Z ad had g116 ((1 : Int32) <<< (x3 &&& 31)) ry fy hy) jy_L_best jm_L_241 mSS_nil (by omega) (by omega) rfl rfl (Nat.le_of_ble_eq_true rfl) dL_refused_692 (fun r117 g118 => ?_)
  refine M_sipush C (v := (-1001)) (by decide) dL_refused_695 ?_
  refine M_icmp_ne C (tgt := 969) (by decide) dL_refused_698 M_none ?_
  refine M_aload_n C 0 rfl rfl dL_refused_701 ?_
  refine M_iload C 4 rfl dL_refused_702 ?_
  refine M_bipush C (v := 9) (by decide) dL_refused_704 ?_
  refine M_bW C hA hU (v := 1) (wr := []) (As := [.ref (ad 291), .int x5, .int 9]) (rest := []) (fun ry fy hy => wl_familyOf l C.2.2.2.2.2.2 Z ad had g118 x5 9 ry fy hy) jy_L_familyOf jm_L_215 mSS_nil (by omega) (by omega) rfl rfl (Nat.le_of_ble_eq_true rfl) dL_refused_706 (fun r119 g120 => ?_)
  refine M_sipush C (v := (-1001)) (by decide) dL_refused_709 ?_
  refine M_icmp_ne C (tgt := 969) (by decide) dL_refused_712 M_none ?_
  refine M_aload_n C 0 rfl rfl dL_refused_715 ?_
  refine M_iconst C (v := 0) (by decide) dL_refused_716 ?_
  refine M_iconst C (v := 5) (by decide) dL_refused_717 ?_
  refine M_bW C hA hU (v := 1) (wr := []) (As := [.ref (ad 291), .int 0, .int 5]) (rest := []) (fun ry fy hy => wl_familyOf l C.2.2.2.2.2.2 Z ad had g120 0 5 ry fy hy) jy_L_familyOf jm_L_215 mSS_nil (by omega) (by omega) rfl rfl (Nat.le_of_ble_eq_true rfl) dL_refused_718 (fun r121 g122 => ?_)
  refine M_sipush C (v := (-1002)) (by decide) dL_refused_721 ?_
  refine M_icmp_ne C (tgt := 969) (by decide) dL_refused_724 M_none ?_
  refine M_sub [0, 1, 2, 3, 4, 5] (lv1 := [(0, .ref (ad 291)), (1, .long x1), (3, .int x3), (4, .int x4), (5, .int x5), (6, .int x6)]) rfl ?_
  exact mlj_refused_727 C hA hU had hd g122 x1 x3 x4 x5 x6 _ (by omega)
set_option maxRecDepth 20000 in
set_option maxHeartbeats 4000000 in
theorem mlj_refused_610 {wi : va_W} {z : Int32 × kMem} (C : MC p l e R s m args below meth c Z (wA wi s.heap.size) ss RL cL_refused nL (some .boolean) d mc ms) (hA : ∀ q, s.heap.size ≤ q → wA wi s.heap.size q) (hU : 2 * U ≤ mc ∧ 12 * U ≤ ms) (had : mAd Z ad) (hd : 10 ≤ d ∧ 8 ≤ nL) (f : kMem) (x1 : Int64) (x3 : Int32) (x4 : Int32) (x5 : Int32) (x6 : Int32) (x7 : Int32) (u : Nat) (hu : u + 719 ≤ U) : M p l e R s m args below meth c Z (wA wi s.heap.size) nL (mQF below Z (mQi (wC Z.1 ad) z) wi args s mc ms) z (2 * u) (12 * u) (kw (wC Z.1 ad) f ++ []) 610 [(0, .ref (ad 291)), (1, .long x1), (3, .int x3), (4, .int x4), (5, .int x5), (6, .int x6), (7, .int x7)] [] (lj_refused_610 f x1 x3 x4 x5 x6 x7) := by
  unfold lj_refused_610
  refine M_iload C 6 rfl dL_refused_610 ?_
  refine M_if_eq C (tgt := 969) (by decide) dL_refused_612 M_none ?_
  refine M_aload_n C 0 rfl rfl dL_refused_615 ?_
  refine M_iload_n C 2 rfl rfl dL_refused_616 ?_
  refine M_iconst C (v := 0) (by decide) dL_refused_617 ?_
  refine M_bW C hA hU (v := 1) (wr := []) (As := [.ref (ad 291), .int x3, .int 0]) (rest := []) (fun ry fy hy => wl_purge l C.2.2.2.2.2.2 Z ad had f x3 0 ry fy hy) jy_L_purge jm_L_232 mSS_nil (by omega) (by omega) rfl rfl (Nat.le_of_ble_eq_true rfl) dL_refused_618 (fun r105 g106 => ?_)
  refine M_sipush C (v := (-1001)) (by decide) dL_refused_621 ?_
  refine M_icmp_ne C (tgt := 969) (by decide) dL_refused_624 M_none ?_
  refine M_aload_n C 0 rfl rfl dL_refused_627 ?_
  refine M_iconst C (v := 0) (by decide) dL_refused_628 ?_
  refine M_iconst C (v := (-1)) (by decide) dL_refused_629 ?_
  refine M_bW C hA hU (v := 1) (wr := []) (As := [.ref (ad 291), .int 0, .int (-1)]) (rest := []) (fun ry fy hy => wl_purge l C.2.2.2.2.2.2 Z ad had g106 0 (-1) ry fy hy) jy_L_purge jm_L_232 mSS_nil (by omega) (by omega) rfl rfl (Nat.le_of_ble_eq_true rfl) dL_refused_630 (fun r107 g108 => ?_)
  refine M_sipush C (v := (-1001)) (by decide) dL_refused_633 ?_
  refine M_icmp_ne C (tgt := 969) (by decide) dL_refused_636 M_none ?_
  refine M_aload_n C 0 rfl rfl dL_refused_639 ?_
  refine M_iload_n C 2 rfl rfl dL_refused_640 ?_
  refine M_iconst C (v := 0) (by decide) dL_refused_641 ?_
  refine M_bW C hA hU (v := 1) (wr := []) (As := [.ref (ad 291), .int x3, .int 0]) (rest := []) (fun ry fy hy => wl_minutes l C.2.2.2.2.2.2 Z ad had g108 x3 0 ry fy hy) jy_L_minutes jm_L_234 mSS_nil (by omega) (by omega) rfl rfl (Nat.le_of_ble_eq_true rfl) dL_refused_642 (fun r109 g110 => ?_)
  refine M_sipush C (v := (-1001)) (by decide) dL_refused_645 ?_
  refine M_icmp_ne C (tgt := 969) (by decide) dL_refused_648 M_none ?_
  refine M_aload_n C 0 rfl rfl dL_refused_651 ?_
  refine M_iconst C (v := 0) (by decide) dL_refused_652 ?_
  refine M_iconst C (v := 0) (by decide) dL_refused_653 ?_
  refine M_bW C hA hU (v := 1) (wr := []) (As := [.ref (ad 291), .int 0, .int 0]) (rest := []) (fun ry fy hy => wl_minutes l C.2.2.2.2.2.2 Z ad had g110 0 0 ry fy hy) jy_L_minutes jm_L_234 mSS_nil (by omega) (by omega) rfl rfl (Nat.le_of_ble_eq_true rfl) dL_refused_654 (fun r111 g112 => ?_)
  refine M_sipush C (v := (-1002)) (by decide) dL_refused_657 ?_
  refine M_icmp_ne C (tgt := 969) (by decide) dL_refused_660 M_none ?_
  refine M_sub [0, 1, 2, 3, 4, 5] (lv1 := [(0, .ref (ad 291)), (1, .long x1), (3, .int x3), (4, .int x4), (5, .int x5), (6, .int x6)]) rfl ?_
  exact mlj_refused_663 C hA hU had hd g112 x1 x3 x4 x5 x6 _ (by omega)
set_option maxRecDepth 20000 in
set_option maxHeartbeats 4000000 in
theorem mlj_refused_551 {wi : va_W} {z : Int32 × kMem} (C : MC p l e R s m args below meth c Z (wA wi s.heap.size) ss RL cL_refused nL (some .boolean) d mc ms) (hA : ∀ q, s.heap.size ≤ q → wA wi s.heap.size q) (hU : 2 * U ≤ mc ∧ 12 * U ≤ ms) (had : mAd Z ad) (hd : 10 ≤ d ∧ 8 ≤ nL) (f : kMem) (x1 : Int64) (x3 : Int32) (x4 : Int32) (x5 : Int32) (x6 : Int32) (u : Nat) (hu : u + 723 ≤ U) : M p l e R s m args below meth c Z (wA wi s.heap.size) nL (mQF below Z (mQi (wC Z.1 ad) z) wi args s mc ms) z (2 * u) (12 * u) (kw (wC Z.1 ad) f ++ []) 551 [(0, .ref (ad 291)), (1, .long x1), (3, .int x3), (4, .int x4), (5, .int x5), (6, .int x6)] [] (lj_refused_551 f x1 x3 x4 x5 x6) := by
  unfold lj_refused_551
  refine M_aload_n C 0 rfl rfl dL_refused_551 ?_
  refine M_iconst C (v := 1) (by decide) dL_refused_552 ?_
  refine M_sipush C (v := 1000) (by decide) dL_refused_553 ?_
  refine M_bW C hA hU (v := 1) (wr := []) (As := [.ref (ad 291), .int 1, .int 1000]) (rest := []) (fun ry fy hy => wl_set l C.2.2.2.2.2.2 Z ad had f 1 1000 ry fy hy) jy_L_set jm_L_190 mSS_nil (by omega) (by omega) rfl rfl (Nat.le_of_ble_eq_true rfl) dL_refused_556 (fun r97 g98 => ?_)
  refine M_sipush C (v := (-1001)) (by decide) dL_refused_559 ?_
  refine M_icmp_ne C (tgt := 607) (by decide) dL_refused_562 M_none ?_
  refine M_aload_n C 0 rfl rfl dL_refused_565 ?_
  refine M_iconst C (v := 2) (by decide) dL_refused_566 ?_
  refine M_bipush C (v := 6) (by decide) dL_refused_567 ?_
  refine M_bW C hA hU (v := 1) (wr := []) (As := [.ref (ad 291), .int 2, .int 6]) (rest := []) (fun ry fy hy => wl_set l C.2.2.2.2.2.2 Z ad had g98 2 6 ry fy hy) jy_L_set jm_L_190 mSS_nil (by omega) (by omega) rfl rfl (Nat.le_of_ble_eq_true rfl) dL_refused_569 (fun r99 g100 => ?_)
  refine M_sipush C (v := (-1001)) (by decide) dL_refused_572 ?_
  refine M_icmp_ne C (tgt := 607) (by decide) dL_refused_575 M_none ?_
  refine M_aload_n C 0 rfl rfl dL_refused_578 ?_
  refine M_iconst C (v := 3) (by decide) dL_refused_579 ?_
  refine M_bipush C (v := 100) (by decide) dL_refused_580 ?_
  refine M_bW C hA hU (v := 1) (wr := []) (As := [.ref (ad 291), .int 3, .int 100]) (rest := []) (fun ry fy hy => wl_set l C.2.2.2.2.2.2 Z ad had g100 3 100 ry fy hy) jy_L_set jm_L_190 mSS_nil (by omega) (by omega) rfl rfl (Nat.le_of_ble_eq_true rfl) dL_refused_582 (fun r101 g102 => ?_)
  refine M_sipush C (v := (-1001)) (by decide) dL_refused_585 ?_
  refine M_icmp_ne C (tgt := 607) (by decide) dL_refused_588 M_none ?_
  refine M_aload_n C 0 rfl rfl dL_refused_591 ?_
  refine M_iconst C (v := 3) (by decide) dL_refused_592 ?_
  refine M_iconst C (v := (-1)) (by decide) dL_refused_593 ?_
  refine M_bW C hA hU (v := 1) (wr := []) (As := [.ref (ad 291), .int 3, .int (-1)]) (rest := []) (fun ry fy hy => wl_set l C.2.2.2.2.2.2 Z ad had g102 3 (-1) ry fy hy) jy_L_set jm_L_190 mSS_nil (by omega) (by omega) rfl rfl (Nat.le_of_ble_eq_true rfl) dL_refused_594 (fun r103 g104 => ?_)
  refine M_sipush C (v := (-1001)) (by decide) dL_refused_597 ?_
  refine M_icmp_ne C (tgt := 607) (by decide) dL_refused_600 M_none ?_
  refine M_iconst C (v := 1) (by decide) dL_refused_603 ?_
  refine M_goto C (tgt := 608) (by decide) dL_refused_604 ?_
  refine M_istore C (Nat.lt_of_lt_of_le (by decide) hd.2) (lv1 := [(7, .int 1), (0, .ref (ad 291)), (1, .long x1), (3, .int x3), (4, .int x4), (5, .int x5), (6, .int x6)]) rfl dL_refused_608 ?_
  refine M_sub [1, 2, 3, 4, 5, 6, 0] (lv1 := [(0, .ref (ad 291)), (1, .long x1), (3, .int x3), (4, .int x4), (5, .int x5), (6, .int x6), (7, .int 1)]) rfl ?_
  exact mlj_refused_610 C hA hU had hd g104 x1 x3 x4 x5 x6 1 _ (by omega)
set_option maxRecDepth 20000 in
set_option maxHeartbeats 4000000 in
theorem mlj_refused_490 {wi : va_W} {z : Int32 × kMem} (C : MC p l e R s m args below meth c Z (wA wi s.heap.size) ss RL cL_refused nL (some .boolean) d mc ms) (hA : ∀ q, s.heap.size ≤ q → wA wi s.heap.size q) (hU : 2 * U ≤ mc ∧ 12 * U ≤ ms) (had : mAd Z ad) (hd : 10 ≤ d ∧ 8 ≤ nL) (f : kMem) (x1 : Int64) (x3 : Int32) (x4 : Int32) (x5 : Int32) (x6 : Int32) (u : Nat) (hu : u + 729 ≤ U) : M p l e R s m args below meth c Z (wA wi s.heap.size) nL (mQF below Z (mQi (wC Z.1 ad) z) wi args s mc ms) z (2 * u) (12 * u) (kw (wC Z.1 ad) f ++ []) 490 [(0, .ref (ad 291)), (1, .long x1), (3, .int x3), (4, .int x4), (5, .int x5), (6, .int x6)] [] (lj_refused_490 f x1 x3 x4 x5 x6) := by
  unfold lj_refused_490
  refine M_aload_n C 0 rfl rfl dL_refused_490 ?_
  refine M_iconst C (v := 4) (by decide) dL_refused_491 ?_
  refine M_iconst C (v := 0) (by decide) dL_refused_492 ?_
  refine M_bW C hA hU (v := 1) (wr := []) (As := [.ref (ad 291), .int 4, .int 0]) (rest := []) (fun ry fy hy => wl_set l C.2.2.2.2.2.2 Z ad had f 4 0 ry fy hy) jy_L_set jm_L_190 mSS_nil (by omega) (by omega) rfl rfl (Nat.le_of_ble_eq_true rfl) dL_refused_493 (fun r87 g88 => ?_)
  refine M_sipush C (v := (-1001)) (by decide) dL_refused_496 ?_
  refine M_icmp_ne C (tgt := 607) (by decide) dL_refused_499 M_none ?_
  refine M_aload_n C 0 rfl rfl dL_refused_502 ?_
  refine M_iconst C (v := 0) (by decide) dL_refused_503 ?_
  refine M_iconst C (v := 2) (by decide) dL_refused_504 ?_
  refine M_iconst C (v := 0) (by decide) dL_refused_505 ?_
  refine M_bS C hA hU (v := 2) (wr := []) (As := [.ref (ad 291), .int 0, .int 2, .int 0]) (rest := []) (fun ry fy hy => ml_is l C.2.2.2.2.2.2 Z ad had g88 0 2 0 ry fy hy) jy_L_is jm_L_283 mSS_nil (by omega) (by omega) rfl rfl (Nat.le_of_ble_eq_true rfl) dL_refused_506 (fun r89 g90 => ?_)
  refine M_if_eq C (tgt := 607) (by decide) dL_refused_509 M_none ?_
  refine M_aload_n C 0 rfl rfl dL_refused_512 ?_
  refine M_iconst C (v := (-1)) (by decide) dL_refused_513 ?_
  refine M_iconst C (v := 0) (by decide) dL_refused_514 ?_
  refine M_bW C hA hU (v := 1) (wr := []) (As := [.ref (ad 291), .int (-1), .int 0]) (rest := []) (fun ry fy hy => wl_set l C.2.2.2.2.2.2 Z ad had g90 (-1) 0 ry fy hy) jy_L_set jm_L_190 mSS_nil (by omega) (by omega) rfl rfl (Nat.le_of_ble_eq_true rfl) dL_refused_515 (fun r91 g92 => ?_)
  refine M_sipush C (v := (-1001)) (by decide) dL_refused_518 ?_
  refine M_icmp_ne C (tgt := 607) (by decide) dL_refused_521 M_none ?_
  refine M_aload_n C 0 rfl rfl dL_refused_524 ?_
  refine M_iconst C (v := 0) (by decide) dL_refused_525 ?_
  refine M_bipush C (v := 59) (by decide) dL_refused_526 ?_
  refine M_bW C hA hU (v := 1) (wr := []) (As := [.ref (ad 291), .int 0, .int 59]) (rest := []) (fun ry fy hy => wl_set l C.2.2.2.2.2.2 Z ad had g92 0 59 ry fy hy) jy_L_set jm_L_190 mSS_nil (by omega) (by omega) rfl rfl (Nat.le_of_ble_eq_true rfl) dL_refused_528 (fun r93 g94 => ?_)
  refine M_sipush C (v := (-1001)) (by decide) dL_refused_531 ?_
  refine M_icmp_ne C (tgt := 607) (by decide) dL_refused_534 M_none ?_
  refine M_aload_n C 0 rfl rfl dL_refused_537 ?_
  refine M_iconst C (v := 0) (by decide) dL_refused_538 ?_
  refine M_sipush C (v := 10000) (by decide) dL_refused_539 ?_
  refine M_bW C hA hU (v := 1) (wr := []) (As := [.ref (ad 291), .int 0, .int 10000]) (rest := []) (fun ry fy hy => wl_set l C.2.2.2.2.2.2 Z ad had g94 0 10000 ry fy hy) jy_L_set jm_L_190 mSS_nil (by omega) (by omega) rfl rfl (Nat.le_of_ble_eq_true rfl) dL_refused_542 (fun r95 g96 => ?_)
  refine M_sipush C (v := (-1001)) (by decide) dL_refused_545 ?_
  refine M_icmp_ne C (tgt := 607) (by decide) dL_refused_548 M_none ?_
  refine M_sub [0, 1, 2, 3, 4, 5] (lv1 := [(0, .ref (ad 291)), (1, .long x1), (3, .int x3), (4, .int x4), (5, .int x5), (6, .int x6)]) rfl ?_
  exact mlj_refused_551 C hA hU had hd g96 x1 x3 x4 x5 x6 _ (by omega)
set_option maxRecDepth 20000 in
set_option maxHeartbeats 4000000 in
theorem mlj_refused_424 {wi : va_W} {z : Int32 × kMem} (C : MC p l e R s m args below meth c Z (wA wi s.heap.size) ss RL cL_refused nL (some .boolean) d mc ms) (hA : ∀ q, s.heap.size ≤ q → wA wi s.heap.size q) (hU : 2 * U ≤ mc ∧ 12 * U ≤ ms) (had : mAd Z ad) (hd : 10 ≤ d ∧ 8 ≤ nL) (f : kMem) (x1 : Int64) (x3 : Int32) (x4 : Int32) (x5 : Int32) (x6 : Int32) (u : Nat) (hu : u + 735 ≤ U) : M p l e R s m args below meth c Z (wA wi s.heap.size) nL (mQF below Z (mQi (wC Z.1 ad) z) wi args s mc ms) z (2 * u) (12 * u) (kw (wC Z.1 ad) f ++ []) 424 [(0, .ref (ad 291)), (1, .long x1), (3, .int x3), (4, .int x4), (5, .int x5), (6, .int x6)] [] (lj_refused_424 f x1 x3 x4 x5 x6) := by
  unfold lj_refused_424
  refine M_aload_n C 0 rfl rfl dL_refused_424 ?_
  refine M_iconst C (v := 0) (by decide) dL_refused_425 ?_
  refine M_iconst C (v := 0) (by decide) dL_refused_426 ?_
  refine M_bipush C (v := 21) (by decide) dL_refused_427 ?_
  refine M_iconst C (v := 0) (by decide) dL_refused_429 ?_
  refine M_bW C hA hU (v := 1) (wr := []) (As := [.ref (ad 291), .int 0, .int 0, .int 21, .int 0]) (rest := []) (fun ry fy hy => wl_order l C.2.2.2.2.2.2 Z ad had f 0 0 21 0 ry fy hy) jy_L_order jm_L_265 mSS_nil (by omega) (by omega) rfl rfl (Nat.le_of_ble_eq_true rfl) dL_refused_430 (fun r77 g78 => ?_)
  refine M_sipush C (v := (-1001)) (by decide) dL_refused_433 ?_
  refine M_icmp_ne C (tgt := 607) (by decide) dL_refused_436 M_none ?_
  refine M_aload_n C 0 rfl rfl dL_refused_439 ?_
  refine M_iconst C (v := 0) (by decide) dL_refused_440 ?_
  refine M_iconst C (v := 0) (by decide) dL_refused_441 ?_
  refine M_iconst C (v := 1) (by decide) dL_refused_442 ?_
  refine M_iconst C (v := (-1)) (by decide) dL_refused_443 ?_
  refine M_bW C hA hU (v := 1) (wr := []) (As := [.ref (ad 291), .int 0, .int 0, .int 1, .int (-1)]) (rest := []) (fun ry fy hy => wl_order l C.2.2.2.2.2.2 Z ad had g78 0 0 1 (-1) ry fy hy) jy_L_order jm_L_265 mSS_nil (by omega) (by omega) rfl rfl (Nat.le_of_ble_eq_true rfl) dL_refused_444 (fun r79 g80 => ?_)
  refine M_sipush C (v := (-1001)) (by decide) dL_refused_447 ?_
  refine M_icmp_ne C (tgt := 607) (by decide) dL_refused_450 M_none ?_
  refine M_aload_n C 0 rfl rfl dL_refused_453 ?_
  refine M_iconst C (v := 0) (by decide) dL_refused_454 ?_
  refine M_iconst C (v := 0) (by decide) dL_refused_455 ?_
  refine M_iconst C (v := 1) (by decide) dL_refused_456 ?_
  refine M_bipush C (v := 100) (by decide) dL_refused_457 ?_
  refine M_bW C hA hU (v := 1) (wr := []) (As := [.ref (ad 291), .int 0, .int 0, .int 1, .int 100]) (rest := []) (fun ry fy hy => wl_order l C.2.2.2.2.2.2 Z ad had g80 0 0 1 100 ry fy hy) jy_L_order jm_L_265 mSS_nil (by omega) (by omega) rfl rfl (Nat.le_of_ble_eq_true rfl) dL_refused_459 (fun r81 g82 => ?_)
  refine M_sipush C (v := (-1001)) (by decide) dL_refused_462 ?_
  refine M_icmp_ne C (tgt := 607) (by decide) dL_refused_465 M_none ?_
  refine M_aload_n C 0 rfl rfl dL_refused_468 ?_
  refine M_iload C 5 rfl dL_refused_469 ?_
  refine M_bW C hA hU (v := 1) (wr := []) (As := [.ref (ad 291), .int x6]) (rest := []) (fun ry fy hy => wl_callOff l C.2.2.2.2.2.2 Z ad had g82 x6 ry fy hy) jy_L_callOff jm_L_268 mSS_nil (by omega) (by omega) rfl rfl (Nat.le_of_ble_eq_true rfl) dL_refused_471 (fun r83 g84 => ?_)
  refine M_sipush C (v := (-1001)) (by decide) dL_refused_474 ?_
  refine M_icmp_ne C (tgt := 607) (by decide) dL_refused_477 M_none ?_
  refine M_aload_n C 0 rfl rfl dL_refused_480 ?_
  refine M_iconst C (v := 0) (by decide) dL_refused_481 ?_
  refine M_iconst C (v := 1) (by decide) dL_refused_482 ?_
  refine M_iconst C (v := 0) (by decide) dL_refused_483 ?_
  refine M_bS C hA hU (v := 2) (wr := []) (As := [.ref (ad 291), .int 0, .int 1, .int 0]) (rest := []) (fun ry fy hy => ml_is l C.2.2.2.2.2.2 Z ad had g84 0 1 0 ry fy hy) jy_L_is jm_L_283 mSS_nil (by omega) (by omega) rfl rfl (Nat.le_of_ble_eq_true rfl) dL_refused_484 (fun r85 g86 => ?_)
  refine M_if_eq C (tgt := 607) (by decide) dL_refused_487 M_none ?_
  refine M_sub [0, 1, 2, 3, 4, 5] (lv1 := [(0, .ref (ad 291)), (1, .long x1), (3, .int x3), (4, .int x4), (5, .int x5), (6, .int x6)]) rfl ?_
  exact mlj_refused_490 C hA hU had hd g86 x1 x3 x4 x5 x6 _ (by omega)
set_option maxRecDepth 20000 in
set_option maxHeartbeats 4000000 in
theorem mlj_refused_351 {wi : va_W} {z : Int32 × kMem} (C : MC p l e R s m args below meth c Z (wA wi s.heap.size) ss RL cL_refused nL (some .boolean) d mc ms) (hA : ∀ q, s.heap.size ≤ q → wA wi s.heap.size q) (hU : 2 * U ≤ mc ∧ 12 * U ≤ ms) (had : mAd Z ad) (hd : 10 ≤ d ∧ 8 ≤ nL) (f : kMem) (x1 : Int64) (x3 : Int32) (x4 : Int32) (x5 : Int32) (x6 : Int32) (u : Nat) (hu : u + 744 ≤ U) : M p l e R s m args below meth c Z (wA wi s.heap.size) nL (mQF below Z (mQi (wC Z.1 ad) z) wi args s mc ms) z (2 * u) (12 * u) (kw (wC Z.1 ad) f ++ []) 351 [(0, .ref (ad 291)), (1, .long x1), (3, .int x3), (4, .int x4), (5, .int x5), (6, .int x6)] [] (lj_refused_351 f x1 x3 x4 x5 x6) := by
  unfold lj_refused_351
  refine M_aload_n C 0 rfl rfl dL_refused_351 ?_
  refine M_iload C 3 rfl dL_refused_352 ?_
  refine M_iconst C (v := 0) (by decide) dL_refused_354 ?_
  refine M_iconst C (v := 0) (by decide) dL_refused_355 ?_
  refine M_iconst C (v := 0) (by decide) dL_refused_356 ?_
  refine M_bW C hA hU (v := 1) (wr := []) (As := [.ref (ad 291), .int x4, .int 0, .int 0, .int 0]) (rest := []) (fun ry fy hy => wl_order l C.2.2.2.2.2.2 Z ad had f x4 0 0 0 ry fy hy) jy_L_order jm_L_265 mSS_nil (by omega) (by omega) rfl rfl (Nat.le_of_ble_eq_true rfl) dL_refused_357 (fun r65 g66 => ?_)
  refine M_sipush C (v := (-1001)) (by decide) dL_refused_360 ?_
  refine M_icmp_ne C (tgt := 607) (by decide) dL_refused_363 M_none ?_
  refine M_aload_n C 0 rfl rfl dL_refused_366 ?_
  refine M_iconst C (v := 0) (by decide) dL_refused_367 ?_
  refine M_iconst C (v := 1) (by decide) dL_refused_368 ?_
  refine M_iconst C (v := 0) (by decide) dL_refused_369 ?_
  refine M_bS C hA hU (v := 2) (wr := []) (As := [.ref (ad 291), .int 0, .int 1, .int 0]) (rest := []) (fun ry fy hy => ml_is l C.2.2.2.2.2.2 Z ad had g66 0 1 0 ry fy hy) jy_L_is jm_L_283 mSS_nil (by omega) (by omega) rfl rfl (Nat.le_of_ble_eq_true rfl) dL_refused_370 (fun r67 g68 => ?_)
  refine M_if_eq C (tgt := 607) (by decide) dL_refused_373 M_none ?_
  refine M_aload_n C 0 rfl rfl dL_refused_376 ?_
  refine M_iconst C (v := 0) (by decide) dL_refused_377 ?_
  refine M_iload_n C 2 rfl rfl dL_refused_378 ?_
  refine M_iconst C (v := 0) (by decide) dL_refused_379 ?_
  refine M_iconst C (v := 0) (by decide) dL_refused_380 ?_
  refine M_bW C hA hU (v := 1) (wr := []) (As := [.ref (ad 291), .int 0, .int x3, .int 0, .int 0]) (rest := []) (fun ry fy hy => wl_order l C.2.2.2.2.2.2 Z ad had g68 0 x3 0 0 ry fy hy) jy_L_order jm_L_265 mSS_nil (by omega) (by omega) rfl rfl (Nat.le_of_ble_eq_true rfl) dL_refused_381 (fun r69 g70 => ?_)
  refine M_sipush C (v := (-1001)) (by decide) dL_refused_384 ?_
  refine M_icmp_ne C (tgt := 607) (by decide) dL_refused_387 M_none ?_
  refine M_aload_n C 0 rfl rfl dL_refused_390 ?_
  refine M_iconst C (v := 0) (by decide) dL_refused_391 ?_
  refine M_iconst C (v := 1) (by decide) dL_refused_392 ?_
  refine M_iconst C (v := 0) (by decide) dL_refused_393 ?_
  refine M_bS C hA hU (v := 2) (wr := []) (As := [.ref (ad 291), .int 0, .int 1, .int 0]) (rest := []) (fun ry fy hy => ml_is l C.2.2.2.2.2.2 Z ad had g70 0 1 0 ry fy hy) jy_L_is jm_L_283 mSS_nil (by omega) (by omega) rfl rfl (Nat.le_of_ble_eq_true rfl) dL_refused_394 (fun r71 g72 => ?_)
  refine M_if_eq C (tgt := 607) (by decide) dL_refused_397 M_none ?_
  refine M_aload_n C 0 rfl rfl dL_refused_400 ?_
  refine M_iconst C (v := 0) (by decide) dL_refused_401 ?_
  refine M_iconst C (v := 0) (by decide) dL_refused_402 ?_
  refine M_iconst C (v := 0) (by decide) dL_refused_403 ?_
  refine M_iconst C (v := 0) (by decide) dL_refused_404 ?_
  refine M_bW C hA hU (v := 1) (wr := []) (As := [.ref (ad 291), .int 0, .int 0, .int 0, .int 0]) (rest := []) (fun ry fy hy => wl_order l C.2.2.2.2.2.2 Z ad had g72 0 0 0 0 ry fy hy) jy_L_order jm_L_265 mSS_nil (by omega) (by omega) rfl rfl (Nat.le_of_ble_eq_true rfl) dL_refused_405 (fun r73 g74 => ?_)
  refine M_sipush C (v := (-1001)) (by decide) dL_refused_408 ?_
  refine M_icmp_ne C (tgt := 607) (by decide) dL_refused_411 M_none ?_
  refine M_aload_n C 0 rfl rfl dL_refused_414 ?_
  refine M_iconst C (v := 0) (by decide) dL_refused_415 ?_
  refine M_iconst C (v := 2) (by decide) dL_refused_416 ?_
  refine M_iconst C (v := 0) (by decide) dL_refused_417 ?_
  refine M_bS C hA hU (v := 2) (wr := []) (As := [.ref (ad 291), .int 0, .int 2, .int 0]) (rest := []) (fun ry fy hy => ml_is l C.2.2.2.2.2.2 Z ad had g74 0 2 0 ry fy hy) jy_L_is jm_L_283 mSS_nil (by omega) (by omega) rfl rfl (Nat.le_of_ble_eq_true rfl) dL_refused_418 (fun r75 g76 => ?_)
  refine M_if_eq C (tgt := 607) (by decide) dL_refused_421 M_none ?_
  refine M_sub [0, 1, 2, 3, 4, 5] (lv1 := [(0, .ref (ad 291)), (1, .long x1), (3, .int x3), (4, .int x4), (5, .int x5), (6, .int x6)]) rfl ?_
  exact mlj_refused_424 C hA hU had hd g76 x1 x3 x4 x5 x6 _ (by omega)
set_option maxRecDepth 20000 in
set_option maxHeartbeats 4000000 in
theorem mlj_refused_278 {wi : va_W} {z : Int32 × kMem} (C : MC p l e R s m args below meth c Z (wA wi s.heap.size) ss RL cL_refused nL (some .boolean) d mc ms) (hA : ∀ q, s.heap.size ≤ q → wA wi s.heap.size q) (hU : 2 * U ≤ mc ∧ 12 * U ≤ ms) (had : mAd Z ad) (hd : 10 ≤ d ∧ 8 ≤ nL) (f : kMem) (x1 : Int64) (x3 : Int32) (x4 : Int32) (x5 : Int32) (x6 : Int32) (x7 : Int32) (u : Nat) (hu : u + 753 ≤ U) : M p l e R s m args below meth c Z (wA wi s.heap.size) nL (mQF below Z (mQi (wC Z.1 ad) z) wi args s mc ms) z (2 * u) (12 * u) (kw (wC Z.1 ad) f ++ []) 278 [(0, .ref (ad 291)), (1, .long x1), (3, .int x3), (4, .int x4), (5, .int x5), (6, .int x6), (7, .int x7)] [] (lj_refused_278 f x1 x3 x4 x5 x6 x7) := by
  unfold lj_refused_278
  refine M_iload C 6 rfl dL_refused_278 ?_
  refine M_if_eq C (tgt := 607) (by decide) dL_refused_280 M_none ?_
  refine M_aload_n C 0 rfl rfl dL_refused_283 ?_
  refine M_iload_n C 2 rfl rfl dL_refused_284 ?_
  refine M_iconst C (v := 0) (by decide) dL_refused_285 ?_
  refine M_bW C hA hU (v := 1) (wr := []) (As := [.ref (ad 291), .int x3, .int 0]) (rest := []) (fun ry fy hy => wl_run l C.2.2.2.2.2.2 Z ad had f x3 0 ry fy hy) jy_L_run jm_L_263 mSS_nil (by omega) (by omega) rfl rfl (Nat.le_of_ble_eq_true rfl) dL_refused_286 (fun r53 g54 => ?_)
  refine M_sipush C (v := (-1001)) (by decide) dL_refused_289 ?_
  refine M_icmp_ne C (tgt := 607) (by decide) dL_refused_292 M_none ?_
  refine M_aload_n C 0 rfl rfl dL_refused_295 ?_
  refine M_iconst C (v := 0) (by decide) dL_refused_296 ?_
  refine M_iconst C (v := 1) (by decide) dL_refused_297 ?_
  refine M_iconst C (v := 0) (by decide) dL_refused_298 ?_
  refine M_bS C hA hU (v := 2) (wr := []) (As := [.ref (ad 291), .int 0, .int 1, .int 0]) (rest := []) (fun ry fy hy => ml_is l C.2.2.2.2.2.2 Z ad had g54 0 1 0 ry fy hy) jy_L_is jm_L_283 mSS_nil (by omega) (by omega) rfl rfl (Nat.le_of_ble_eq_true rfl) dL_refused_299 (fun r55 g56 => ?_)
  refine M_if_eq C (tgt := 607) (by decide) dL_refused_302 M_none ?_
  refine M_aload_n C 0 rfl rfl dL_refused_305 ?_
  refine M_iconst C (v := 0) (by decide) dL_refused_306 ?_
  refine M_iconst C (v := 0) (by decide) dL_refused_307 ?_
  refine M_bW C hA hU (v := 1) (wr := []) (As := [.ref (ad 291), .int 0, .int 0]) (rest := []) (fun ry fy hy => wl_run l C.2.2.2.2.2.2 Z ad had g56 0 0 ry fy hy) jy_L_run jm_L_263 mSS_nil (by omega) (by omega) rfl rfl (Nat.le_of_ble_eq_true rfl) dL_refused_308 (fun r57 g58 => ?_)
  refine M_sipush C (v := (-1001)) (by decide) dL_refused_311 ?_
  refine M_icmp_ne C (tgt := 607) (by decide) dL_refused_314 M_none ?_
  refine M_aload_n C 0 rfl rfl dL_refused_317 ?_
  refine M_iconst C (v := 0) (by decide) dL_refused_318 ?_
  refine M_iconst C (v := 2) (by decide) dL_refused_319 ?_
  refine M_iconst C (v := 0) (by decide) dL_refused_320 ?_
  refine M_bS C hA hU (v := 2) (wr := []) (As := [.ref (ad 291), .int 0, .int 2, .int 0]) (rest := []) (fun ry fy hy => ml_is l C.2.2.2.2.2.2 Z ad had g58 0 2 0 ry fy hy) jy_L_is jm_L_283 mSS_nil (by omega) (by omega) rfl rfl (Nat.le_of_ble_eq_true rfl) dL_refused_321 (fun r59 g60 => ?_)
  refine M_if_eq C (tgt := 607) (by decide) dL_refused_324 M_none ?_
  refine M_aload_n C 0 rfl rfl dL_refused_327 ?_
  refine M_iconst C (v := 0) (by decide) dL_refused_328 ?_
  refine M_sipush C (v := 201) (by decide) dL_refused_329 ?_
  refine M_bW C hA hU (v := 1) (wr := []) (As := [.ref (ad 291), .int 0, .int 201]) (rest := []) (fun ry fy hy => wl_run l C.2.2.2.2.2.2 Z ad had g60 0 201 ry fy hy) jy_L_run jm_L_263 mSS_nil (by omega) (by omega) rfl rfl (Nat.le_of_ble_eq_true rfl) dL_refused_332 (fun r61 g62 => ?_)
  refine M_sipush C (v := (-1001)) (by decide) dL_refused_335 ?_
  refine M_icmp_ne C (tgt := 607) (by decide) dL_refused_338 M_none ?_
  refine M_aload_n C 0 rfl rfl dL_refused_341 ?_
  refine M_iconst C (v := 0) (by decide) dL_refused_342 ?_
  refine M_iconst C (v := 2) (by decide) dL_refused_343 ?_
  refine M_iconst C (v := 0) (by decide) dL_refused_344 ?_
  refine M_bS C hA hU (v := 2) (wr := []) (As := [.ref (ad 291), .int 0, .int 2, .int 0]) (rest := []) (fun ry fy hy => ml_is l C.2.2.2.2.2.2 Z ad had g62 0 2 0 ry fy hy) jy_L_is jm_L_283 mSS_nil (by omega) (by omega) rfl rfl (Nat.le_of_ble_eq_true rfl) dL_refused_345 (fun r63 g64 => ?_)
  refine M_if_eq C (tgt := 607) (by decide) dL_refused_348 M_none ?_
  refine M_sub [0, 1, 2, 3, 4, 5] (lv1 := [(0, .ref (ad 291)), (1, .long x1), (3, .int x3), (4, .int x4), (5, .int x5), (6, .int x6)]) rfl ?_
  exact mlj_refused_351 C hA hU had hd g64 x1 x3 x4 x5 x6 _ (by omega)
set_option maxRecDepth 20000 in
set_option maxHeartbeats 4000000 in
theorem mlj_refused_237 {wi : va_W} {z : Int32 × kMem} (C : MC p l e R s m args below meth c Z (wA wi s.heap.size) ss RL cL_refused nL (some .boolean) d mc ms) (hA : ∀ q, s.heap.size ≤ q → wA wi s.heap.size q) (hU : 2 * U ≤ mc ∧ 12 * U ≤ ms) (had : mAd Z ad) (hd : 10 ≤ d ∧ 8 ≤ nL) (f : kMem) (x1 : Int64) (x3 : Int32) (x4 : Int32) (x5 : Int32) (x6 : Int32) (u : Nat) (hu : u + 757 ≤ U) : M p l e R s m args below meth c Z (wA wi s.heap.size) nL (mQF below Z (mQi (wC Z.1 ad) z) wi args s mc ms) z (2 * u) (12 * u) (kw (wC Z.1 ad) f ++ []) 237 [(0, .ref (ad 291)), (1, .long x1), (3, .int x3), (4, .int x4), (5, .int x5), (6, .int x6)] [] (lj_refused_237 f x1 x3 x4 x5 x6) := by
  unfold lj_refused_237
  refine M_aload_n C 0 rfl rfl dL_refused_237 ?_
  refine M_iconst C (v := 0) (by decide) dL_refused_238 ?_
  refine M_bW C hA hU (v := 1) (wr := []) (As := [.ref (ad 291), .int 0]) (rest := []) (fun ry fy hy => wl_pause l C.2.2.2.2.2.2 Z ad had f 0 ry fy hy) jy_L_pause jm_L_261 mSS_nil (by omega) (by omega) rfl rfl (Nat.le_of_ble_eq_true rfl) dL_refused_239 (fun r47 g48 => ?_)
  refine M_sipush C (v := (-1001)) (by decide) dL_refused_242 ?_
  refine M_icmp_ne C (tgt := 275) (by decide) dL_refused_245 M_none ?_
  refine M_aload_n C 0 rfl rfl dL_refused_248 ?_
  refine M_iconst C (v := 0) (by decide) dL_refused_249 ?_
  refine M_iconst C (v := 2) (by decide) dL_refused_250 ?_
  refine M_iconst C (v := 0) (by decide) dL_refused_251 ?_
  refine M_bS C hA hU (v := 2) (wr := []) (As := [.ref (ad 291), .int 0, .int 2, .int 0]) (rest := []) (fun ry fy hy => ml_is l C.2.2.2.2.2.2 Z ad had g48 0 2 0 ry fy hy) jy_L_is jm_L_283 mSS_nil (by omega) (by omega) rfl rfl (Nat.le_of_ble_eq_true rfl) dL_refused_252 (fun r49 g50 => ?_)
  refine M_if_eq C (tgt := 275) (by decide) dL_refused_255 M_none ?_
  refine M_aload_n C 0 rfl rfl dL_refused_258 ?_
  refine M_sipush C (v := 1000) (by decide) dL_refused_259 ?_
  refine M_bW C hA hU (v := 1) (wr := []) (As := [.ref (ad 291), .int 1000]) (rest := []) (fun ry fy hy => wl_pause l C.2.2.2.2.2.2 Z ad had g50 1000 ry fy hy) jy_L_pause jm_L_261 mSS_nil (by omega) (by omega) rfl rfl (Nat.le_of_ble_eq_true rfl) dL_refused_262 (fun r51 g52 => ?_)
  refine M_sipush C (v := (-1001)) (by decide) dL_refused_265 ?_
  refine M_icmp_ne C (tgt := 275) (by decide) dL_refused_268 M_none ?_
  refine M_iconst C (v := 1) (by decide) dL_refused_271 ?_
  refine M_goto C (tgt := 276) (by decide) dL_refused_272 ?_
  refine M_istore C (Nat.lt_of_lt_of_le (by decide) hd.2) (lv1 := [(7, .int 1), (0, .ref (ad 291)), (1, .long x1), (3, .int x3), (4, .int x4), (5, .int x5), (6, .int x6)]) rfl dL_refused_276 ?_
  refine M_sub [1, 2, 3, 4, 5, 6, 0] (lv1 := [(0, .ref (ad 291)), (1, .long x1), (3, .int x3), (4, .int x4), (5, .int x5), (6, .int x6), (7, .int 1)]) rfl ?_
  exact mlj_refused_278 C hA hU had hd g52 x1 x3 x4 x5 x6 1 _ (by omega)
set_option maxRecDepth 20000 in
set_option maxHeartbeats 4000000 in
theorem mlj_refused_190 {wi : va_W} {z : Int32 × kMem} (C : MC p l e R s m args below meth c Z (wA wi s.heap.size) ss RL cL_refused nL (some .boolean) d mc ms) (hA : ∀ q, s.heap.size ≤ q → wA wi s.heap.size q) (hU : 2 * U ≤ mc ∧ 12 * U ≤ ms) (had : mAd Z ad) (hd : 10 ≤ d ∧ 8 ≤ nL) (f : kMem) (x1 : Int64) (x3 : Int32) (x4 : Int32) (x5 : Int32) (x6 : Int32) (u : Nat) (hu : u + 762 ≤ U) : M p l e R s m args below meth c Z (wA wi s.heap.size) nL (mQF below Z (mQi (wC Z.1 ad) z) wi args s mc ms) z (2 * u) (12 * u) (kw (wC Z.1 ad) f ++ []) 190 [(0, .ref (ad 291)), (1, .long x1), (3, .int x3), (4, .int x4), (5, .int x5), (6, .int x6)] [] (lj_refused_190 f x1 x3 x4 x5 x6) := by
  unfold lj_refused_190
  refine M_aload_n C 0 rfl rfl dL_refused_190 ?_
  refine M_iconst C (v := 0) (by decide) dL_refused_191 ?_
  refine M_iconst C (v := 0) (by decide) dL_refused_192 ?_
  refine M_ldc_w C jc_L_287 dL_refused_193 ?_
  refine M_bW C hA hU (v := 1) (wr := []) (As := [.ref (ad 291), .int 0, .int 0, .int 100000]) (rest := []) (fun ry fy hy => wl_load l C.2.2.2.2.2.2 Z ad had f 0 0 100000 ry fy hy) jy_L_load jm_L_257 mSS_nil (by omega) (by omega) rfl rfl (Nat.le_of_ble_eq_true rfl) dL_refused_196 (fun r39 g40 => ?_)
  refine M_sipush C (v := (-1001)) (by decide) dL_refused_199 ?_
  refine M_icmp_ne C (tgt := 275) (by decide) dL_refused_202 M_none ?_
  refine M_aload_n C 0 rfl rfl dL_refused_205 ?_
  refine M_iconst C (v := 3) (by decide) dL_refused_206 ?_
  refine M_bW C hA hU (v := 1) (wr := []) (As := [.ref (ad 291), .int 3]) (rest := []) (fun ry fy hy => wl_empty l C.2.2.2.2.2.2 Z ad had g40 3 ry fy hy) jy_L_empty jm_L_259 mSS_nil (by omega) (by omega) rfl rfl (Nat.le_of_ble_eq_true rfl) dL_refused_207 (fun r41 g42 => ?_)
  refine M_sipush C (v := (-1001)) (by decide) dL_refused_210 ?_
  refine M_icmp_ne C (tgt := 275) (by decide) dL_refused_213 M_none ?_
  refine M_aload_n C 0 rfl rfl dL_refused_216 ?_
  refine M_iconst C (v := 0) (by decide) dL_refused_217 ?_
  refine M_iconst C (v := 1) (by decide) dL_refused_218 ?_
  refine M_iconst C (v := 0) (by decide) dL_refused_219 ?_
  refine M_bS C hA hU (v := 2) (wr := []) (As := [.ref (ad 291), .int 0, .int 1, .int 0]) (rest := []) (fun ry fy hy => ml_is l C.2.2.2.2.2.2 Z ad had g42 0 1 0 ry fy hy) jy_L_is jm_L_283 mSS_nil (by omega) (by omega) rfl rfl (Nat.le_of_ble_eq_true rfl) dL_refused_220 (fun r43 g44 => ?_)
  refine M_if_eq C (tgt := 275) (by decide) dL_refused_223 M_none ?_
  refine M_aload_n C 0 rfl rfl dL_refused_226 ?_
  refine M_iconst C (v := (-1)) (by decide) dL_refused_227 ?_
  refine M_bW C hA hU (v := 1) (wr := []) (As := [.ref (ad 291), .int (-1)]) (rest := []) (fun ry fy hy => wl_empty l C.2.2.2.2.2.2 Z ad had g44 (-1) ry fy hy) jy_L_empty jm_L_259 mSS_nil (by omega) (by omega) rfl rfl (Nat.le_of_ble_eq_true rfl) dL_refused_228 (fun r45 g46 => ?_)
  refine M_sipush C (v := (-1001)) (by decide) dL_refused_231 ?_
  refine M_icmp_ne C (tgt := 275) (by decide) dL_refused_234 M_none ?_
  refine M_sub [0, 1, 2, 3, 4, 5] (lv1 := [(0, .ref (ad 291)), (1, .long x1), (3, .int x3), (4, .int x4), (5, .int x5), (6, .int x6)]) rfl ?_
  exact mlj_refused_237 C hA hU had hd g46 x1 x3 x4 x5 x6 _ (by omega)
set_option maxRecDepth 20000 in
set_option maxHeartbeats 4000000 in
theorem mlj_refused_121 {wi : va_W} {z : Int32 × kMem} (C : MC p l e R s m args below meth c Z (wA wi s.heap.size) ss RL cL_refused nL (some .boolean) d mc ms) (hA : ∀ q, s.heap.size ≤ q → wA wi s.heap.size q) (hU : 2 * U ≤ mc ∧ 12 * U ≤ ms) (had : mAd Z ad) (hd : 10 ≤ d ∧ 8 ≤ nL) (f : kMem) (x1 : Int64) (x3 : Int32) (x4 : Int32) (x5 : Int32) (x6 : Int32) (u : Nat) (hu : u + 771 ≤ U) : M p l e R s m args below meth c Z (wA wi s.heap.size) nL (mQF below Z (mQi (wC Z.1 ad) z) wi args s mc ms) z (2 * u) (12 * u) (kw (wC Z.1 ad) f ++ []) 121 [(0, .ref (ad 291)), (1, .long x1), (3, .int x3), (4, .int x4), (5, .int x5), (6, .int x6)] [] (lj_refused_121 f x1 x3 x4 x5 x6) := by
  unfold lj_refused_121
  refine M_aload_n C 0 rfl rfl dL_refused_121 ?_
  refine M_iconst C (v := 3) (by decide) dL_refused_122 ?_
  refine M_iconst C (v := 0) (by decide) dL_refused_123 ?_
  refine M_iconst C (v := 0) (by decide) dL_refused_124 ?_
  refine M_bW C hA hU (v := 1) (wr := []) (As := [.ref (ad 291), .int 3, .int 0, .int 0]) (rest := []) (fun ry fy hy => wl_load l C.2.2.2.2.2.2 Z ad had f 3 0 0 ry fy hy) jy_L_load jm_L_257 mSS_nil (by omega) (by omega) rfl rfl (Nat.le_of_ble_eq_true rfl) dL_refused_125 (fun r27 g28 => ?_)
  refine M_sipush C (v := (-1001)) (by decide) dL_refused_128 ?_
  refine M_icmp_ne C (tgt := 275) (by decide) dL_refused_131 M_none ?_
  refine M_aload_n C 0 rfl rfl dL_refused_134 ?_
  refine M_iconst C (v := 0) (by decide) dL_refused_135 ?_
  refine M_iconst C (v := 1) (by decide) dL_refused_136 ?_
  refine M_iconst C (v := 0) (by decide) dL_refused_137 ?_
  refine M_bS C hA hU (v := 2) (wr := []) (As := [.ref (ad 291), .int 0, .int 1, .int 0]) (rest := []) (fun ry fy hy => ml_is l C.2.2.2.2.2.2 Z ad had g28 0 1 0 ry fy hy) jy_L_is jm_L_283 mSS_nil (by omega) (by omega) rfl rfl (Nat.le_of_ble_eq_true rfl) dL_refused_138 (fun r29 g30 => ?_)
  refine M_if_eq C (tgt := 275) (by decide) dL_refused_141 M_none ?_
  refine M_aload_n C 0 rfl rfl dL_refused_144 ?_
  refine M_iconst C (v := 0) (by decide) dL_refused_145 ?_
  refine M_iload_n C 2 rfl rfl dL_refused_146 ?_
  refine M_iconst C (v := 0) (by decide) dL_refused_147 ?_
  refine M_bW C hA hU (v := 1) (wr := []) (As := [.ref (ad 291), .int 0, .int x3, .int 0]) (rest := []) (fun ry fy hy => wl_load l C.2.2.2.2.2.2 Z ad had g30 0 x3 0 ry fy hy) jy_L_load jm_L_257 mSS_nil (by omega) (by omega) rfl rfl (Nat.le_of_ble_eq_true rfl) dL_refused_148 (fun r31 g32 => ?_)
  refine M_sipush C (v := (-1001)) (by decide) dL_refused_151 ?_
  refine M_icmp_ne C (tgt := 275) (by decide) dL_refused_154 M_none ?_
  refine M_aload_n C 0 rfl rfl dL_refused_157 ?_
  refine M_iconst C (v := 0) (by decide) dL_refused_158 ?_
  refine M_iconst C (v := 1) (by decide) dL_refused_159 ?_
  refine M_iconst C (v := 0) (by decide) dL_refused_160 ?_
  refine M_bS C hA hU (v := 2) (wr := []) (As := [.ref (ad 291), .int 0, .int 1, .int 0]) (rest := []) (fun ry fy hy => ml_is l C.2.2.2.2.2.2 Z ad had g32 0 1 0 ry fy hy) jy_L_is jm_L_283 mSS_nil (by omega) (by omega) rfl rfl (Nat.le_of_ble_eq_true rfl) dL_refused_161 (fun r33 g34 => ?_)
  refine M_if_eq C (tgt := 275) (by decide) dL_refused_164 M_none ?_
  refine M_aload_n C 0 rfl rfl dL_refused_167 ?_
  refine M_iconst C (v := 0) (by decide) dL_refused_168 ?_
  refine M_iconst C (v := 0) (by decide) dL_refused_169 ?_
  refine M_iconst C (v := 0) (by decide) dL_refused_170 ?_
  refine M_bW C hA hU (v := 1) (wr := []) (As := [.ref (ad 291), .int 0, .int 0, .int 0]) (rest := []) (fun ry fy hy => wl_load l C.2.2.2.2.2.2 Z ad had g34 0 0 0 ry fy hy) jy_L_load jm_L_257 mSS_nil (by omega) (by omega) rfl rfl (Nat.le_of_ble_eq_true rfl) dL_refused_171 (fun r35 g36 => ?_)
  refine M_sipush C (v := (-1001)) (by decide) dL_refused_174 ?_
  refine M_icmp_ne C (tgt := 275) (by decide) dL_refused_177 M_none ?_
  refine M_aload_n C 0 rfl rfl dL_refused_180 ?_
  refine M_iconst C (v := 0) (by decide) dL_refused_181 ?_
  refine M_iconst C (v := 2) (by decide) dL_refused_182 ?_
  refine M_iconst C (v := 0) (by decide) dL_refused_183 ?_
  refine M_bS C hA hU (v := 2) (wr := []) (As := [.ref (ad 291), .int 0, .int 2, .int 0]) (rest := []) (fun ry fy hy => ml_is l C.2.2.2.2.2.2 Z ad had g36 0 2 0 ry fy hy) jy_L_is jm_L_283 mSS_nil (by omega) (by omega) rfl rfl (Nat.le_of_ble_eq_true rfl) dL_refused_184 (fun r37 g38 => ?_)
  refine M_if_eq C (tgt := 275) (by decide) dL_refused_187 M_none ?_
  refine M_sub [0, 1, 2, 3, 4, 5] (lv1 := [(0, .ref (ad 291)), (1, .long x1), (3, .int x3), (4, .int x4), (5, .int x5), (6, .int x6)]) rfl ?_
  exact mlj_refused_190 C hA hU had hd g38 x1 x3 x4 x5 x6 _ (by omega)
end RF
def lf_refused (f : kMem) : Option (Int32 × kMem) := mlbind (lf_asks f) (fun r1 g2 => kbind (lf_account g2 0) (fun r3 g4 => kbind (lf_account g4 1) (fun r5 g6 => kbind (lf_account g6 2) (fun r7 g8 => kbind (lf_account g8 3) (fun r9 g10 => kbind (lf_colour g10 (-1)) (fun r11 g12 => keq r11 (-1001) (kbind (lf_is g12 0 2 0) (fun r13 g14 => keq r13 0 none (kbind (lf_colour g14 10) (fun r15 g16 => keq r15 (-1001) (kbind (lf_part g16 0) (fun r17 g18 => keq r17 (-1001) (kbind (lf_part g18 51) (fun r19 g20 => keq r19 (-1001) (kbind (lf_mount g20 r7) (fun r21 g22 => keq r21 (-1001) (kbind (lf_is g22 0 1 0) (fun r23 g24 => keq r23 0 none (kbind (lf_mount g24 (-1)) (fun r25 g26 => keq r25 (-1001) (lj_refused_121 g26 r1 r3 r5 r7 r9) none)))) none)) none)) none)) none)))) none))))))
set_option maxRecDepth 20000 in
set_option maxHeartbeats 4000000 in
theorem ml_refused (l : Launch) (hst : l.stackTraces = false) (Z : mZ) (ad : Nat → Nat) (had : mAd Z ad) (f : kMem) (r : Int32) (fo : kMem) (h : lf_refused f = some (r, fo)) : mMet l Z yL_refused (.code yL_refused cL_refused 8 (some .boolean)) 10 (2 * 1408) (12 * 1408) [.ref (ad 291)] (kw (wC Z.1 ad) f) [] (mQi (wC Z.1 ad) (r, fo)) := by
  refine mMet_of (z := (r, fo)) (X := lf_refused f) (own := RL) (lv := [(0, .ref (ad 291))]) hst (by decide +kernel) rfl (Nat.le_of_ble_eq_true rfl) rfl h ?_
  intro p e R s m args below meth c C hini
  have hA : ∀ q, s.heap.size ≤ q → wA (kw (wC Z.1 ad) f) s.heap.size q := fun q h => Or.inr h
  have hU : 2 * 1408 ≤ 2 * 1408 ∧ 12 * 1408 ≤ 12 * 1408 := ⟨Nat.le_refl _, Nat.le_refl _⟩
  have hd : 10 ≤ 10 ∧ 8 ≤ 8 := ⟨Nat.le_refl _, Nat.le_refl _⟩
  unfold lf_refused
  refine M_widen (k1 := 2 * 0) (n1 := 12 * 0) (by decide) (by decide) ?_
  refine M_nil ?_
  refine M_aload_n C 0 rfl rfl dL_refused_0 ?_
  refine M_bSl C hA hU (v := 623) (wr := []) (As := [.ref (ad 291)]) (rest := []) (fun ry fy hy => ml_asks l C.2.2.2.2.2.2 Z ad had f  ry fy hy) jy_L_asks jm_L_279 mSS_nil (by omega) (by omega) rfl rfl (Nat.le_of_ble_eq_true rfl) dL_refused_1 (fun r1 g2 => ?_)
  refine M_lstore_n C rfl (Nat.lt_of_lt_of_le (by decide) hd.2) (lv1 := [(1, .long r1), (0, .ref (ad 291))]) rfl dL_refused_4 ?_
  refine M_aload_n C 1 rfl rfl dL_refused_5 ?_
  refine M_iconst C (v := 0) (by decide) dL_refused_6 ?_
  refine M_bW C hA hU (v := 1) (wr := []) (As := [.ref (ad 291), .int 0]) (rest := []) (fun ry fy hy => wl_account l C.2.2.2.2.2.2 Z ad had g2 0 ry fy hy) jy_L_account jm_L_213 mSS_nil (by omega) (by omega) rfl rfl (Nat.le_of_ble_eq_true rfl) dL_refused_7 (fun r3 g4 => ?_)
  refine M_istore_n C rfl (Nat.lt_of_lt_of_le (by decide) hd.2) (lv1 := [(3, .int r3), (1, .long r1), (0, .ref (ad 291))]) rfl dL_refused_10 ?_
  refine M_aload_n C 2 rfl rfl dL_refused_11 ?_
  refine M_iconst C (v := 1) (by decide) dL_refused_12 ?_
  refine M_bW C hA hU (v := 1) (wr := []) (As := [.ref (ad 291), .int 1]) (rest := []) (fun ry fy hy => wl_account l C.2.2.2.2.2.2 Z ad had g4 1 ry fy hy) jy_L_account jm_L_213 mSS_nil (by omega) (by omega) rfl rfl (Nat.le_of_ble_eq_true rfl) dL_refused_13 (fun r5 g6 => ?_)
  refine M_istore C (Nat.lt_of_lt_of_le (by decide) hd.2) (lv1 := [(4, .int r5), (3, .int r3), (1, .long r1), (0, .ref (ad 291))]) rfl dL_refused_16 ?_
  refine M_aload_n C 3 rfl rfl dL_refused_18 ?_
  refine M_iconst C (v := 2) (by decide) dL_refused_19 ?_
  refine M_bW C hA hU (v := 1) (wr := []) (As := [.ref (ad 291), .int 2]) (rest := []) (fun ry fy hy => wl_account l C.2.2.2.2.2.2 Z ad had g6 2 ry fy hy) jy_L_account jm_L_213 mSS_nil (by omega) (by omega) rfl rfl (Nat.le_of_ble_eq_true rfl) dL_refused_20 (fun r7 g8 => ?_)
  refine M_istore C (Nat.lt_of_lt_of_le (by decide) hd.2) (lv1 := [(5, .int r7), (4, .int r5), (3, .int r3), (1, .long r1), (0, .ref (ad 291))]) rfl dL_refused_23 ?_
  refine M_aload_n C 4 rfl rfl dL_refused_25 ?_
  refine M_iconst C (v := 3) (by decide) dL_refused_26 ?_
  refine M_bW C hA hU (v := 1) (wr := []) (As := [.ref (ad 291), .int 3]) (rest := []) (fun ry fy hy => wl_account l C.2.2.2.2.2.2 Z ad had g8 3 ry fy hy) jy_L_account jm_L_213 mSS_nil (by omega) (by omega) rfl rfl (Nat.le_of_ble_eq_true rfl) dL_refused_27 (fun r9 g10 => ?_)
  refine M_istore C (Nat.lt_of_lt_of_le (by decide) hd.2) (lv1 := [(6, .int r9), (5, .int r7), (4, .int r5), (3, .int r3), (1, .long r1), (0, .ref (ad 291))]) rfl dL_refused_30 ?_
  refine M_aload_n C 5 rfl rfl dL_refused_32 ?_
  refine M_iconst C (v := (-1)) (by decide) dL_refused_33 ?_
  refine M_bW C hA hU (v := 1) (wr := []) (As := [.ref (ad 291), .int (-1)]) (rest := []) (fun ry fy hy => wl_colour l C.2.2.2.2.2.2 Z ad had g10 (-1) ry fy hy) jy_L_colour jm_L_168 mSS_nil (by omega) (by omega) rfl rfl (Nat.le_of_ble_eq_true rfl) dL_refused_34 (fun r11 g12 => ?_)
  refine M_sipush C (v := (-1001)) (by decide) dL_refused_37 ?_
  refine M_icmp_ne C (tgt := 275) (by decide) dL_refused_40 M_none ?_
  refine M_aload_n C 5 rfl rfl dL_refused_43 ?_
  refine M_iconst C (v := 0) (by decide) dL_refused_44 ?_
  refine M_iconst C (v := 2) (by decide) dL_refused_45 ?_
  refine M_iconst C (v := 0) (by decide) dL_refused_46 ?_
  refine M_bS C hA hU (v := 2) (wr := []) (As := [.ref (ad 291), .int 0, .int 2, .int 0]) (rest := []) (fun ry fy hy => ml_is l C.2.2.2.2.2.2 Z ad had g12 0 2 0 ry fy hy) jy_L_is jm_L_283 mSS_nil (by omega) (by omega) rfl rfl (Nat.le_of_ble_eq_true rfl) dL_refused_47 (fun r13 g14 => ?_)
  refine M_if_eq C (tgt := 275) (by decide) dL_refused_50 M_none ?_
  refine M_aload_n C 5 rfl rfl dL_refused_53 ?_
  refine M_bipush C (v := 10) (by decide) dL_refused_54 ?_
  refine M_bW C hA hU (v := 1) (wr := []) (As := [.ref (ad 291), .int 10]) (rest := []) (fun ry fy hy => wl_colour l C.2.2.2.2.2.2 Z ad had g14 10 ry fy hy) jy_L_colour jm_L_168 mSS_nil (by omega) (by omega) rfl rfl (Nat.le_of_ble_eq_true rfl) dL_refused_56 (fun r15 g16 => ?_)
  refine M_sipush C (v := (-1001)) (by decide) dL_refused_59 ?_
  refine M_icmp_ne C (tgt := 275) (by decide) dL_refused_62 M_none ?_
  refine M_aload_n C 5 rfl rfl dL_refused_65 ?_
  refine M_iconst C (v := 0) (by decide) dL_refused_66 ?_
  refine M_bW C hA hU (v := 1) (wr := []) (As := [.ref (ad 291), .int 0]) (rest := []) (fun ry fy hy => wl_part l C.2.2.2.2.2.2 Z ad had g16 0 ry fy hy) jy_L_part jm_L_171 mSS_nil (by omega) (by omega) rfl rfl (Nat.le_of_ble_eq_true rfl) dL_refused_67 (fun r17 g18 => ?_)
  refine M_sipush C (v := (-1001)) (by decide) dL_refused_70 ?_
  refine M_icmp_ne C (tgt := 275) (by decide) dL_refused_73 M_none ?_
  refine M_aload_n C 5 rfl rfl dL_refused_76 ?_
  refine M_bipush C (v := 51) (by decide) dL_refused_77 ?_
  refine M_bW C hA hU (v := 1) (wr := []) (As := [.ref (ad 291), .int 51]) (rest := []) (fun ry fy hy => wl_part l C.2.2.2.2.2.2 Z ad had g18 51 ry fy hy) jy_L_part jm_L_171 mSS_nil (by omega) (by omega) rfl rfl (Nat.le_of_ble_eq_true rfl) dL_refused_79 (fun r19 g20 => ?_)
  refine M_sipush C (v := (-1001)) (by decide) dL_refused_82 ?_
  refine M_icmp_ne C (tgt := 275) (by decide) dL_refused_85 M_none ?_
  refine M_aload_n C 5 rfl rfl dL_refused_88 ?_
  refine M_iload C 1 rfl dL_refused_89 ?_
  refine M_bW C hA hU (v := 1) (wr := []) (As := [.ref (ad 291), .int r7]) (rest := []) (fun ry fy hy => wl_mount l C.2.2.2.2.2.2 Z ad had g20 r7 ry fy hy) jy_L_mount jm_L_254 mSS_nil (by omega) (by omega) rfl rfl (Nat.le_of_ble_eq_true rfl) dL_refused_91 (fun r21 g22 => ?_)
  refine M_sipush C (v := (-1001)) (by decide) dL_refused_94 ?_
  refine M_icmp_ne C (tgt := 275) (by decide) dL_refused_97 M_none ?_
  refine M_aload_n C 5 rfl rfl dL_refused_100 ?_
  refine M_iconst C (v := 0) (by decide) dL_refused_101 ?_
  refine M_iconst C (v := 1) (by decide) dL_refused_102 ?_
  refine M_iconst C (v := 0) (by decide) dL_refused_103 ?_
  refine M_bS C hA hU (v := 2) (wr := []) (As := [.ref (ad 291), .int 0, .int 1, .int 0]) (rest := []) (fun ry fy hy => ml_is l C.2.2.2.2.2.2 Z ad had g22 0 1 0 ry fy hy) jy_L_is jm_L_283 mSS_nil (by omega) (by omega) rfl rfl (Nat.le_of_ble_eq_true rfl) dL_refused_104 (fun r23 g24 => ?_)
  refine M_if_eq C (tgt := 275) (by decide) dL_refused_107 M_none ?_
  refine M_aload_n C 5 rfl rfl dL_refused_110 ?_
  refine M_iconst C (v := (-1)) (by decide) dL_refused_111 ?_
  refine M_bW C hA hU (v := 1) (wr := []) (As := [.ref (ad 291), .int (-1)]) (rest := []) (fun ry fy hy => wl_mount l C.2.2.2.2.2.2 Z ad had g24 (-1) ry fy hy) jy_L_mount jm_L_254 mSS_nil (by omega) (by omega) rfl rfl (Nat.le_of_ble_eq_true rfl) dL_refused_112 (fun r25 g26 => ?_)
  refine M_sipush C (v := (-1001)) (by decide) dL_refused_115 ?_
  refine M_icmp_ne C (tgt := 275) (by decide) dL_refused_118 M_none ?_
  refine M_sub [5, 4, 3, 2, 1, 0] (lv1 := [(0, .ref (ad 291)), (1, .long r1), (3, .int r3), (4, .int r5), (5, .int r7), (6, .int r9)]) rfl ?_
  exact mlj_refused_121 C hA hU had hd g26 r1 r3 r5 r7 r9 _ (by omega)
