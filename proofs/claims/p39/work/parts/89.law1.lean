/-! the law: asks -/
theorem jy_L_lateness : kYW yL_lateness cL_lateness 2 (some .double) [(0, 4, 5, 118)] 1 := ⟨kgt (List.mem_of_getElem? (i := 1037) (by decide +kernel)) rfl, kgt (List.mem_of_getElem? (i := 20) (by decide +kernel)) rfl, kgt (List.mem_of_getElem? (i := 1036) (by decide +kernel)) rfl, by decide +kernel, by decide⟩
theorem jm_L_193 : Cond.methodLink RL 193 yL_lateness ∈ kGT := kgt (List.mem_of_getElem? (i := 1035) (by decide +kernel)) rfl
theorem jy_Jxe99ae_doubleToLongBits_ccdee : kYS yJxe99ae_doubleToLongBits_ccdee cJxe99ae_doubleToLongBits_ccdee 2 (some .long) 1 := ⟨⟨kgt (List.mem_of_getElem? (i := 1434) (by decide +kernel)) rfl, kgt (List.mem_of_getElem? (i := 55) (by decide +kernel)) rfl, by decide +kernel, by decide⟩, kgt (List.mem_of_getElem? (i := 1433) (by decide +kernel)) rfl⟩
theorem jm_L_196 : Cond.methodLink RL 196 yJxe99ae_doubleToLongBits_ccdee ∈ kGT := kgt (List.mem_of_getElem? (i := 1432) (by decide +kernel)) rfl
theorem jy_L_scrap : kYW yL_scrap cL_scrap 2 (some .float) [(0, 4, 5, 118)] 1 := ⟨kgt (List.mem_of_getElem? (i := 1008) (by decide +kernel)) rfl, kgt (List.mem_of_getElem? (i := 20) (by decide +kernel)) rfl, kgt (List.mem_of_getElem? (i := 1007) (by decide +kernel)) rfl, by decide +kernel, by decide⟩
theorem jm_L_202 : Cond.methodLink RL 202 yL_scrap ∈ kGT := kgt (List.mem_of_getElem? (i := 1006) (by decide +kernel)) rfl
theorem jy_Jxf58ca_floatToIntBits_5c35a : kYS yJxf58ca_floatToIntBits_5c35a cJxf58ca_floatToIntBits_5c35a 1 (some .int) 1 := ⟨⟨kgt (List.mem_of_getElem? (i := 1444) (by decide +kernel)) rfl, kgt (List.mem_of_getElem? (i := 56) (by decide +kernel)) rfl, by decide +kernel, by decide⟩, kgt (List.mem_of_getElem? (i := 1443) (by decide +kernel)) rfl⟩
theorem jm_L_205 : Cond.methodLink RL 205 yJxf58ca_floatToIntBits_5c35a ∈ kGT := kgt (List.mem_of_getElem? (i := 1442) (by decide +kernel)) rfl
theorem jc_L_211 : Cond.constantLong RL 211 31 ∈ kGT := kgt (List.mem_of_getElem? (i := 1452) (by decide +kernel)) rfl
theorem jy_L_account : kYW yL_account cL_account 3 (some .int) [(0, 5, 6, 28)] 2 := ⟨kgt (List.mem_of_getElem? (i := 1051) (by decide +kernel)) rfl, kgt (List.mem_of_getElem? (i := 20) (by decide +kernel)) rfl, kgt (List.mem_of_getElem? (i := 1050) (by decide +kernel)) rfl, by decide +kernel, by decide⟩
theorem jm_L_213 : Cond.methodLink RL 213 yL_account ∈ kGT := kgt (List.mem_of_getElem? (i := 1049) (by decide +kernel)) rfl
theorem jy_L_familyOf : kYW yL_familyOf cL_familyOf 4 (some .int) [(0, 6, 7, 63), (0, 6, 12, 28)] 3 := ⟨kgt (List.mem_of_getElem? (i := 1455) (by decide +kernel)) rfl, kgt (List.mem_of_getElem? (i := 20) (by decide +kernel)) rfl, kgt (List.mem_of_getElem? (i := 1454) (by decide +kernel)) rfl, by decide +kernel, by decide⟩
theorem jm_L_215 : Cond.methodLink RL 215 yL_familyOf ∈ kGT := kgt (List.mem_of_getElem? (i := 1453) (by decide +kernel)) rfl
theorem jy_L_dryer : kYW yL_dryer cL_dryer 4 (some .int) [(0, 6, 7, 63), (0, 6, 12, 28)] 3 := ⟨kgt (List.mem_of_getElem? (i := 941) (by decide +kernel)) rfl, kgt (List.mem_of_getElem? (i := 20) (by decide +kernel)) rfl, kgt (List.mem_of_getElem? (i := 940) (by decide +kernel)) rfl, by decide +kernel, by decide⟩
theorem jm_L_217 : Cond.methodLink RL 217 yL_dryer ∈ kGT := kgt (List.mem_of_getElem? (i := 939) (by decide +kernel)) rfl
theorem jy_L_families : kYW yL_families cL_families 3 (some .int) [(0, 5, 6, 63)] 2 := ⟨kgt (List.mem_of_getElem? (i := 1474) (by decide +kernel)) rfl, kgt (List.mem_of_getElem? (i := 20) (by decide +kernel)) rfl, kgt (List.mem_of_getElem? (i := 1473) (by decide +kernel)) rfl, by decide +kernel, by decide⟩
theorem jm_L_219 : Cond.methodLink RL 219 yL_families ∈ kGT := kgt (List.mem_of_getElem? (i := 1472) (by decide +kernel)) rfl
theorem jy_L_made : kYW yL_made cL_made 4 (some .int) [(0, 6, 7, 63), (0, 6, 12, 28)] 3 := ⟨kgt (List.mem_of_getElem? (i := 1487) (by decide +kernel)) rfl, kgt (List.mem_of_getElem? (i := 20) (by decide +kernel)) rfl, kgt (List.mem_of_getElem? (i := 1486) (by decide +kernel)) rfl, by decide +kernel, by decide⟩
theorem jm_L_221 : Cond.methodLink RL 221 yL_made ∈ kGT := kgt (List.mem_of_getElem? (i := 1485) (by decide +kernel)) rfl
theorem jy_L_stock : kYW yL_stock cL_stock 5 (some .int) [(0, 7, 8, 63), (0, 7, 14, 28)] 4 := ⟨kgt (List.mem_of_getElem? (i := 1503) (by decide +kernel)) rfl, kgt (List.mem_of_getElem? (i := 20) (by decide +kernel)) rfl, kgt (List.mem_of_getElem? (i := 1502) (by decide +kernel)) rfl, by decide +kernel, by decide⟩
theorem jm_L_223 : Cond.methodLink RL 223 yL_stock ∈ kGT := kgt (List.mem_of_getElem? (i := 1501) (by decide +kernel)) rfl
theorem jy_L_orderOf : kYW yL_orderOf cL_orderOf 4 (some .int) [(0, 6, 7, 63), (0, 6, 12, 28)] 3 := ⟨kgt (List.mem_of_getElem? (i := 987) (by decide +kernel)) rfl, kgt (List.mem_of_getElem? (i := 20) (by decide +kernel)) rfl, kgt (List.mem_of_getElem? (i := 986) (by decide +kernel)) rfl, by decide +kernel, by decide⟩
theorem jm_L_226 : Cond.methodLink RL 226 yL_orderOf ∈ kGT := kgt (List.mem_of_getElem? (i := 985) (by decide +kernel)) rfl
theorem jy_L_shots : kYW yL_shots cL_shots 3 (some .int) [(0, 5, 6, 63), (0, 5, 11, 77)] 2 := ⟨kgt (List.mem_of_getElem? (i := 1513) (by decide +kernel)) rfl, kgt (List.mem_of_getElem? (i := 20) (by decide +kernel)) rfl, kgt (List.mem_of_getElem? (i := 1512) (by decide +kernel)) rfl, by decide +kernel, by decide⟩
theorem jm_L_228 : Cond.methodLink RL 228 yL_shots ∈ kGT := kgt (List.mem_of_getElem? (i := 1511) (by decide +kernel)) rfl
theorem jy_L_letter : kYW yL_letter cL_letter 3 (some .int) [(0, 5, 6, 63)] 2 := ⟨kgt (List.mem_of_getElem? (i := 1001) (by decide +kernel)) rfl, kgt (List.mem_of_getElem? (i := 20) (by decide +kernel)) rfl, kgt (List.mem_of_getElem? (i := 1000) (by decide +kernel)) rfl, by decide +kernel, by decide⟩
theorem jm_L_230 : Cond.methodLink RL 230 yL_letter ∈ kGT := kgt (List.mem_of_getElem? (i := 999) (by decide +kernel)) rfl
theorem jy_L_purge : kYW yL_purge cL_purge 4 (some .int) [(0, 6, 7, 63)] 3 := ⟨kgt (List.mem_of_getElem? (i := 1530) (by decide +kernel)) rfl, kgt (List.mem_of_getElem? (i := 20) (by decide +kernel)) rfl, kgt (List.mem_of_getElem? (i := 1529) (by decide +kernel)) rfl, by decide +kernel, by decide⟩
theorem jm_L_232 : Cond.methodLink RL 232 yL_purge ∈ kGT := kgt (List.mem_of_getElem? (i := 1528) (by decide +kernel)) rfl
theorem jy_L_minutes : kYW yL_minutes cL_minutes 4 (some .int) [(0, 6, 7, 63), (0, 6, 12, 28), (0, 6, 17, 13)] 3 := ⟨kgt (List.mem_of_getElem? (i := 1539) (by decide +kernel)) rfl, kgt (List.mem_of_getElem? (i := 20) (by decide +kernel)) rfl, kgt (List.mem_of_getElem? (i := 1538) (by decide +kernel)) rfl, by decide +kernel, by decide⟩
theorem jm_L_234 : Cond.methodLink RL 234 yL_minutes ∈ kGT := kgt (List.mem_of_getElem? (i := 1537) (by decide +kernel)) rfl
theorem jm_L_min : Cond.methodLink RL 236 Lib.Math.min.name ∈ kGT := kgt (List.mem_of_getElem? (i := 1546) (by decide +kernel)) rfl
theorem jy_L_best : kYW yL_best cL_best 3 (some .int) [(0, 5, 6, 28)] 2 := ⟨kgt (List.mem_of_getElem? (i := 872) (by decide +kernel)) rfl, kgt (List.mem_of_getElem? (i := 20) (by decide +kernel)) rfl, kgt (List.mem_of_getElem? (i := 871) (by decide +kernel)) rfl, by decide +kernel, by decide⟩
theorem jm_L_241 : Cond.methodLink RL 241 yL_best ∈ kGT := kgt (List.mem_of_getElem? (i := 870) (by decide +kernel)) rfl
theorem jy_L_due : kYW yL_due cL_due 3 (some .int) [(0, 5, 6, 28)] 2 := ⟨kgt (List.mem_of_getElem? (i := 1549) (by decide +kernel)) rfl, kgt (List.mem_of_getElem? (i := 20) (by decide +kernel)) rfl, kgt (List.mem_of_getElem? (i := 1548) (by decide +kernel)) rfl, by decide +kernel, by decide⟩
theorem jm_L_243 : Cond.methodLink RL 243 yL_due ∈ kGT := kgt (List.mem_of_getElem? (i := 1547) (by decide +kernel)) rfl
section AS
variable {p : Program} {l : Launch} {e : Env} {R : Room} {s : State} {m : MethodId} {args : Array Value} {below : List Frame} {meth : Method} {c : Code} {Z : mZ} {A : Nat → Prop} {ss : List (Nat × Nat × List Int32)} {nL : Nat} {ret : Option FieldType} {d mc ms : Nat} {ρ : Type} {QF : State → Prop} {z : ρ} {U : Nat} {ad : Nat → Nat}
def ll_asks_19 {ρ : Type} (Y : kMem → Int64 → Int32 → Option ρ) : Nat → kMem → Int64 → Int32 → Option ρ
  | 0, _, _, _ => none
  | n + 1, f, x1, x3 => kle 19 x3 (Y f x1 x3) (keq x3 13 (ll_asks_19 Y n f x1 (x3 + 1)) (kbind (lf_account f x3) (fun r7 g8 => ll_asks_19 Y n g8 ((31 * x1) + r7.toInt64) (x3 + 1))))
def ll_asks_64 {ρ : Type} (x3 : Int32) (Y : kMem → Int64 → Int32 → Option ρ) : Nat → kMem → Int64 → Int32 → Option ρ
  | 0, _, _, _ => none
  | n + 1, f, x1, x4 => kle 5 x4 (Y f x1 x4) (kbind (lf_familyOf f x3 x4) (fun r16 g17 => ll_asks_64 x3 Y n g17 ((31 * x1) + r16.toInt64) (x4 + 1)))
def ll_asks_52 {ρ : Type} (Y : kMem → Int64 → Int32 → Option ρ) : Nat → kMem → Int64 → Int32 → Option ρ
  | 0, _, _, _ => none
  | n + 1, f, x1, x3 => kbind (lf_account f 2) (fun r14 g15 => kle r14 x3 (Y g15 x1 x3) (ll_asks_64 x3 (fun g18 x1_21 x4_22 => ll_asks_52 Y n g18 x1_21 (x3 + 1)) 6 g15 x1 0))
def ll_asks_107 {ρ : Type} (x3 : Int32) (Y : kMem → Int64 → Int32 → Option ρ) : Nat → kMem → Int64 → Int32 → Option ρ
  | 0, _, _, _ => none
  | n + 1, f, x1, x4 => kle 4 x4 (Y f x1 x4) (kbind (lf_dryer f x3 x4) (fun r28 g29 => ll_asks_107 x3 Y n g29 ((31 * x1) + r28.toInt64) (x4 + 1)))
def ll_asks_99 {ρ : Type} (Y : kMem → Int64 → Int32 → Option ρ) : Nat → kMem → Int64 → Int32 → Option ρ
  | 0, _, _, _ => none
  | n + 1, f, x1, x3 => kle 3 x3 (Y f x1 x3) (ll_asks_107 x3 (fun g30 x1_33 x4_34 => ll_asks_99 Y n g30 x1_33 (x3 + 1)) 5 f x1 0)
def ll_asks_167 {ρ : Type} (x3 : Int32) (Y : kMem → Int64 → Int32 → Option ρ) : Nat → kMem → Int64 → Int32 → Option ρ
  | 0, _, _, _ => none
  | n + 1, f, x1, x4 => kle 4 x4 (Y f x1 x4) (kbind (lf_made f x3 x4) (fun r44 g45 => ll_asks_167 x3 Y n g45 ((31 * x1) + r44.toInt64) (x4 + 1)))
def ll_asks_210 {ρ : Type} (x3 : Int32) (x4 : Int32) (Y : kMem → Int64 → Int32 → Option ρ) : Nat → kMem → Int64 → Int32 → Option ρ
  | 0, _, _, _ => none
  | n + 1, f, x1, x5 => kle 3 x5 (Y f x1 x5) (kbind (lf_stock f x3 x4 x5) (fun r53 g54 => ll_asks_210 x3 x4 Y n g54 ((31 * x1) + r53.toInt64) (x5 + 1)))
def ll_asks_197 {ρ : Type} (x3 : Int32) (Y : kMem → Int64 → Int32 → Option ρ) : Nat → kMem → Int64 → Int32 → Option ρ
  | 0, _, _, _ => none
  | n + 1, f, x1, x4 => kbind (lf_account f 0) (fun r51 g52 => kle r51 x4 (Y g52 x1 x4) (ll_asks_210 x3 x4 (fun g55 x1_58 x5_59 => ll_asks_197 x3 Y n g55 x1_58 (x4 + 1)) 4 g52 x1 0))
def ll_asks_142 {ρ : Type} (Y : kMem → Int64 → Int32 → Option ρ) : Nat → kMem → Int64 → Int32 → Option ρ
  | 0, _, _, _ => none
  | n + 1, f, x1, x3 => kbind (lf_account f 1) (fun r40 g41 => kle r40 x3 (Y g41 x1 x3) (kbind (lf_families g41 x3) (fun r42 g43 => ll_asks_167 x3 (fun g46 x1_49 x4_50 => ll_asks_197 x3 (fun g60 x1_63 x4_64 => ll_asks_142 Y n g60 x1_63 (x3 + 1)) 7 g46 x1_49 0) 5 g43 ((31 * x1) + r42.toInt64) 0)))
def ll_asks_265 {ρ : Type} (x3 : Int32) (Y : kMem → Int64 → Int32 → Option ρ) : Nat → kMem → Int64 → Int32 → Option ρ
  | 0, _, _, _ => none
  | n + 1, f, x1, x4 => kle 6 x4 (Y f x1 x4) (kbind (lf_orderOf f x3 x4) (fun r72 g73 => ll_asks_265 x3 Y n g73 ((31 * x1) + r72.toInt64) (x4 + 1)))
def ll_asks_253 {ρ : Type} (Y : kMem → Int64 → Int32 → Option ρ) : Nat → kMem → Int64 → Int32 → Option ρ
  | 0, _, _, _ => none
  | n + 1, f, x1, x3 => kbind (lf_account f 3) (fun r70 g71 => kle r70 x3 (Y g71 x1 x3) (ll_asks_265 x3 (fun g74 x1_77 x4_78 => kbind (lf_shots g74 x3) (fun r79 g80 => kbind (lf_letter g80 x3) (fun r81 g82 => ll_asks_253 Y n g82 ((31 * ((31 * x1_77) + r79.toInt64)) + r81.toInt64) (x3 + 1)))) 7 g71 x1 0))
def ll_asks_325 {ρ : Type} (Y : kMem → Int64 → Int32 → Option ρ) : Nat → kMem → Int64 → Int32 → Option ρ
  | 0, _, _, _ => none
  | n + 1, f, x1, x3 => kbind (lf_account f 0) (fun r88 g89 => kle r88 x3 (Y g89 x1 x3) (kbind (lf_purge g89 x3 0) (fun r90 g91 => kbind (lf_minutes g91 x3 3) (fun r92 g93 => ll_asks_325 Y n g93 ((31 * ((31 * x1) + r90.toInt64)) + r92.toInt64) (x3 + 1)))))
set_option maxRecDepth 20000 in
set_option maxHeartbeats 4000000 in
theorem mll_asks_19 (C : MC p l e R s m args below meth c Z A ss RL cL_asks nL ret d mc ms) (hA : ∀ q, s.heap.size ≤ q → A q) (hU : 2 * U ≤ mc ∧ 12 * U ≤ ms) (had : mAd Z ad) (hd : 9 ≤ d ∧ 6 ≤ nL) {Y : kMem → Int64 → Int32 → Option ρ} {e9 : Nat} (hY : ∀ (f : kMem) (x1 : Int64) (x3 : Int32) (u : Nat), u + e9 ≤ U → M p l e R s m args below meth c Z A nL QF z (2 * u) (12 * u) (kw (wC Z.1 ad) f ++ []) 50 [(0, .ref (ad 291)), (1, .long x1), (3, .int x3)] [] (Y f x1 x3)) : ∀ (n : Nat) (f : kMem) (x1 : Int64) (x3 : Int32) (u : Nat), u + (n * 1 + 0 + e9) ≤ U → M p l e R s m args below meth c Z A nL QF z (2 * u) (12 * u) (kw (wC Z.1 ad) f ++ []) 19 [(0, .ref (ad 291)), (1, .long x1), (3, .int x3)] [] (ll_asks_19 Y n f x1 x3) := by
  intro n
  induction n with
  | zero => exact fun f x1 x3 u hu => M_none
  | succ n ih =>
    intro f x1 x3 u hu
    rw [Nat.succ_mul] at hu
    unfold ll_asks_19
    refine M_iload_n C 2 rfl rfl dL_asks_19 ?_
    refine M_bipush C (v := 19) (by decide) dL_asks_20 ?_
    refine M_icmp_ge C (tgt := 50) (by decide) dL_asks_22 ?_ ?_
    · refine M_sub [0, 1, 2] (lv1 := [(0, .ref (ad 291)), (1, .long x1), (3, .int x3)]) rfl ?_
      exact hY f x1 x3 _ (by omega)
    · refine M_iload_n C 2 rfl rfl dL_asks_25 ?_
      refine M_bipush C (v := 13) (by decide) dL_asks_26 ?_
      refine M_icmp_eq C (tgt := 44) (by decide) dL_asks_28 ?_ ?_
      · refine M_iincC C (k := 2) rfl (v := x3 + 1) (incv _) (Nat.lt_of_lt_of_le (by decide) hd.2) (lv1 := [(3, .int (x3 + 1)), (0, .ref (ad 291)), (1, .long x1)]) rfl dL_asks_44 ?_
        refine M_goto C (tgt := 19) (by decide) dL_asks_47 ?_
        refine M_sub [1, 2, 0] (lv1 := [(0, .ref (ad 291)), (1, .long x1), (3, .int (x3 + 1))]) rfl ?_
        exact ih f x1 (x3 + 1) _ (by omega)
      · refine M_ldc2 C jc_L_211 dL_asks_31 ?_
        refine M_lload_n C 1 rfl rfl dL_asks_34 ?_
        refine M_lmul C dL_asks_35 ?_
        refine M_aload_n C 0 rfl rfl dL_asks_36 ?_
        refine M_iload_n C 2 rfl rfl dL_asks_37 ?_
        refine M_bW C hA hU (v := 1) (wr := []) (As := [.ref (ad 291), .int x3]) (rest := [.long (31 * x1)]) (fun ry fy hy => wl_account l C.2.2.2.2.2.2 Z ad had f x3 ry fy hy) jy_L_account jm_L_213 mSS_nil (by omega) (by omega) rfl rfl (Nat.le_of_ble_eq_true rfl) dL_asks_38 (fun r7 g8 => ?_)
        refine M_i2l C dL_asks_41 ?_
        refine M_ladd C dL_asks_42 ?_
        refine M_lstore_n C rfl (Nat.lt_of_lt_of_le (by decide) hd.2) (lv1 := [(1, .long ((31 * x1) + r7.toInt64)), (0, .ref (ad 291)), (3, .int x3)]) rfl dL_asks_43 ?_
        refine M_iincC C (k := 2) rfl (v := x3 + 1) (incv _) (Nat.lt_of_lt_of_le (by decide) hd.2) (lv1 := [(3, .int (x3 + 1)), (1, .long ((31 * x1) + r7.toInt64)), (0, .ref (ad 291))]) rfl dL_asks_44 ?_
        refine M_goto C (tgt := 19) (by decide) dL_asks_47 ?_
        refine M_sub [2, 1, 0] (lv1 := [(0, .ref (ad 291)), (1, .long ((31 * x1) + r7.toInt64)), (3, .int (x3 + 1))]) rfl ?_
        exact ih g8 ((31 * x1) + r7.toInt64) (x3 + 1) _ (by omega)
set_option maxRecDepth 20000 in
set_option maxHeartbeats 4000000 in
theorem mll_asks_64 (C : MC p l e R s m args below meth c Z A ss RL cL_asks nL ret d mc ms) (hA : ∀ q, s.heap.size ≤ q → A q) (hU : 2 * U ≤ mc ∧ 12 * U ≤ ms) (had : mAd Z ad) (hd : 9 ≤ d ∧ 6 ≤ nL) (x3 : Int32) {Y : kMem → Int64 → Int32 → Option ρ} {e9 : Nat} (hY : ∀ (f : kMem) (x1 : Int64) (x4 : Int32) (u : Nat), u + e9 ≤ U → M p l e R s m args below meth c Z A nL QF z (2 * u) (12 * u) (kw (wC Z.1 ad) f ++ []) 91 [(0, .ref (ad 291)), (3, .int x3), (1, .long x1), (4, .int x4)] [] (Y f x1 x4)) : ∀ (n : Nat) (f : kMem) (x1 : Int64) (x4 : Int32) (u : Nat), u + (n * 1 + 0 + e9) ≤ U → M p l e R s m args below meth c Z A nL QF z (2 * u) (12 * u) (kw (wC Z.1 ad) f ++ []) 64 [(0, .ref (ad 291)), (3, .int x3), (1, .long x1), (4, .int x4)] [] (ll_asks_64 x3 Y n f x1 x4) := by
  intro n
  induction n with
  | zero => exact fun f x1 x4 u hu => M_none
  | succ n ih =>
    intro f x1 x4 u hu
    rw [Nat.succ_mul] at hu
    unfold ll_asks_64
    refine M_iload C 3 rfl dL_asks_64 ?_
    refine M_iconst C (v := 5) (by decide) dL_asks_66 ?_
    refine M_icmp_ge C (tgt := 91) (by decide) dL_asks_67 ?_ ?_
    · refine M_sub [0, 1, 2, 3] (lv1 := [(0, .ref (ad 291)), (3, .int x3), (1, .long x1), (4, .int x4)]) rfl ?_
      exact hY f x1 x4 _ (by omega)
    · refine M_ldc2 C jc_L_211 dL_asks_70 ?_
      refine M_lload_n C 2 rfl rfl dL_asks_73 ?_
      refine M_lmul C dL_asks_74 ?_
      refine M_aload_n C 0 rfl rfl dL_asks_75 ?_
      refine M_iload_n C 1 rfl rfl dL_asks_76 ?_
      refine M_iload C 3 rfl dL_asks_77 ?_
      refine M_bW C hA hU (v := 1) (wr := []) (As := [.ref (ad 291), .int x3, .int x4]) (rest := [.long (31 * x1)]) (fun ry fy hy => wl_familyOf l C.2.2.2.2.2.2 Z ad had f x3 x4 ry fy hy) jy_L_familyOf jm_L_215 mSS_nil (by omega) (by omega) rfl rfl (Nat.le_of_ble_eq_true rfl) dL_asks_79 (fun r16 g17 => ?_)
      refine M_i2l C dL_asks_82 ?_
      refine M_ladd C dL_asks_83 ?_
      refine M_lstore_n C rfl (Nat.lt_of_lt_of_le (by decide) hd.2) (lv1 := [(1, .long ((31 * x1) + r16.toInt64)), (0, .ref (ad 291)), (3, .int x3), (4, .int x4)]) rfl dL_asks_84 ?_
      refine M_iincC C (k := 3) rfl (v := x4 + 1) (incv _) (Nat.lt_of_lt_of_le (by decide) hd.2) (lv1 := [(4, .int (x4 + 1)), (1, .long ((31 * x1) + r16.toInt64)), (0, .ref (ad 291)), (3, .int x3)]) rfl dL_asks_85 ?_
      refine M_goto C (tgt := 64) (by decide) dL_asks_88 ?_
      refine M_sub [2, 3, 1, 0] (lv1 := [(0, .ref (ad 291)), (3, .int x3), (1, .long ((31 * x1) + r16.toInt64)), (4, .int (x4 + 1))]) rfl ?_
      exact ih g17 ((31 * x1) + r16.toInt64) (x4 + 1) _ (by omega)
set_option maxRecDepth 20000 in
set_option maxHeartbeats 4000000 in
theorem mll_asks_52 (C : MC p l e R s m args below meth c Z A ss RL cL_asks nL ret d mc ms) (hA : ∀ q, s.heap.size ≤ q → A q) (hU : 2 * U ≤ mc ∧ 12 * U ≤ ms) (had : mAd Z ad) (hd : 9 ≤ d ∧ 6 ≤ nL) {Y : kMem → Int64 → Int32 → Option ρ} {e9 : Nat} (hY : ∀ (f : kMem) (x1 : Int64) (x3 : Int32) (u : Nat), u + e9 ≤ U → M p l e R s m args below meth c Z A nL QF z (2 * u) (12 * u) (kw (wC Z.1 ad) f ++ []) 97 [(0, .ref (ad 291)), (1, .long x1), (3, .int x3)] [] (Y f x1 x3)) : ∀ (n : Nat) (f : kMem) (x1 : Int64) (x3 : Int32) (u : Nat), u + (n * 7 + 1 + e9) ≤ U → M p l e R s m args below meth c Z A nL QF z (2 * u) (12 * u) (kw (wC Z.1 ad) f ++ []) 52 [(0, .ref (ad 291)), (1, .long x1), (3, .int x3)] [] (ll_asks_52 Y n f x1 x3) := by
  intro n
  induction n with
  | zero => exact fun f x1 x3 u hu => M_none
  | succ n ih =>
    intro f x1 x3 u hu
    rw [Nat.succ_mul] at hu
    unfold ll_asks_52
    refine M_iload_n C 2 rfl rfl dL_asks_52 ?_
    refine M_aload_n C 0 rfl rfl dL_asks_53 ?_
    refine M_iconst C (v := 2) (by decide) dL_asks_54 ?_
    refine M_bW C hA hU (v := 1) (wr := []) (As := [.ref (ad 291), .int 2]) (rest := [.int x3]) (fun ry fy hy => wl_account l C.2.2.2.2.2.2 Z ad had f 2 ry fy hy) jy_L_account jm_L_213 mSS_nil (by omega) (by omega) rfl rfl (Nat.le_of_ble_eq_true rfl) dL_asks_55 (fun r14 g15 => ?_)
    refine M_icmp_ge C (tgt := 97) (by decide) dL_asks_58 ?_ ?_
    · refine M_sub [0, 1, 2] (lv1 := [(0, .ref (ad 291)), (1, .long x1), (3, .int x3)]) rfl ?_
      exact hY g15 x1 x3 _ (by omega)
    · refine M_iconst C (v := 0) (by decide) dL_asks_61 ?_
      refine M_istore C (Nat.lt_of_lt_of_le (by decide) hd.2) (lv1 := [(4, .int 0), (0, .ref (ad 291)), (1, .long x1), (3, .int x3)]) rfl dL_asks_62 ?_
      refine M_sub [1, 3, 2, 0] (lv1 := [(0, .ref (ad 291)), (3, .int x3), (1, .long x1), (4, .int 0)]) rfl ?_
      refine mll_asks_64 C hA hU had hd x3 (e9 := 0 + (n * 7 + 1 + e9)) (fun g18 x1_21 x4_22 u19 hu20 => ?_) 6 g15 x1 0 _ (by omega)
      refine M_iincC C (k := 1) rfl (v := x3 + 1) (incv _) (Nat.lt_of_lt_of_le (by decide) hd.2) (lv1 := [(3, .int (x3 + 1)), (0, .ref (ad 291)), (1, .long x1_21), (4, .int x4_22)]) rfl dL_asks_91 ?_
      refine M_goto C (tgt := 52) (by decide) dL_asks_94 ?_
      refine M_sub [1, 2, 0] (lv1 := [(0, .ref (ad 291)), (1, .long x1_21), (3, .int (x3 + 1))]) rfl ?_
      exact ih g18 x1_21 (x3 + 1) _ (by omega)
set_option maxRecDepth 20000 in
set_option maxHeartbeats 4000000 in
theorem mll_asks_107 (C : MC p l e R s m args below meth c Z A ss RL cL_asks nL ret d mc ms) (hA : ∀ q, s.heap.size ≤ q → A q) (hU : 2 * U ≤ mc ∧ 12 * U ≤ ms) (had : mAd Z ad) (hd : 9 ≤ d ∧ 6 ≤ nL) (x3 : Int32) {Y : kMem → Int64 → Int32 → Option ρ} {e9 : Nat} (hY : ∀ (f : kMem) (x1 : Int64) (x4 : Int32) (u : Nat), u + e9 ≤ U → M p l e R s m args below meth c Z A nL QF z (2 * u) (12 * u) (kw (wC Z.1 ad) f ++ []) 134 [(0, .ref (ad 291)), (3, .int x3), (1, .long x1), (4, .int x4)] [] (Y f x1 x4)) : ∀ (n : Nat) (f : kMem) (x1 : Int64) (x4 : Int32) (u : Nat), u + (n * 1 + 0 + e9) ≤ U → M p l e R s m args below meth c Z A nL QF z (2 * u) (12 * u) (kw (wC Z.1 ad) f ++ []) 107 [(0, .ref (ad 291)), (3, .int x3), (1, .long x1), (4, .int x4)] [] (ll_asks_107 x3 Y n f x1 x4) := by
  intro n
  induction n with
  | zero => exact fun f x1 x4 u hu => M_none
  | succ n ih =>
    intro f x1 x4 u hu
    rw [Nat.succ_mul] at hu
    unfold ll_asks_107
    refine M_iload C 3 rfl dL_asks_107 ?_
    refine M_iconst C (v := 4) (by decide) dL_asks_109 ?_
    refine M_icmp_ge C (tgt := 134) (by decide) dL_asks_110 ?_ ?_
    · refine M_sub [0, 1, 2, 3] (lv1 := [(0, .ref (ad 291)), (3, .int x3), (1, .long x1), (4, .int x4)]) rfl ?_
      exact hY f x1 x4 _ (by omega)
    · refine M_ldc2 C jc_L_211 dL_asks_113 ?_
      refine M_lload_n C 2 rfl rfl dL_asks_116 ?_
      refine M_lmul C dL_asks_117 ?_
      refine M_aload_n C 0 rfl rfl dL_asks_118 ?_
      refine M_iload_n C 1 rfl rfl dL_asks_119 ?_
      refine M_iload C 3 rfl dL_asks_120 ?_
      refine M_bW C hA hU (v := 1) (wr := []) (As := [.ref (ad 291), .int x3, .int x4]) (rest := [.long (31 * x1)]) (fun ry fy hy => wl_dryer l C.2.2.2.2.2.2 Z ad had f x3 x4 ry fy hy) jy_L_dryer jm_L_217 mSS_nil (by omega) (by omega) rfl rfl (Nat.le_of_ble_eq_true rfl) dL_asks_122 (fun r28 g29 => ?_)
      refine M_i2l C dL_asks_125 ?_
      refine M_ladd C dL_asks_126 ?_
      refine M_lstore_n C rfl (Nat.lt_of_lt_of_le (by decide) hd.2) (lv1 := [(1, .long ((31 * x1) + r28.toInt64)), (0, .ref (ad 291)), (3, .int x3), (4, .int x4)]) rfl dL_asks_127 ?_
      refine M_iincC C (k := 3) rfl (v := x4 + 1) (incv _) (Nat.lt_of_lt_of_le (by decide) hd.2) (lv1 := [(4, .int (x4 + 1)), (1, .long ((31 * x1) + r28.toInt64)), (0, .ref (ad 291)), (3, .int x3)]) rfl dL_asks_128 ?_
      refine M_goto C (tgt := 107) (by decide) dL_asks_131 ?_
      refine M_sub [2, 3, 1, 0] (lv1 := [(0, .ref (ad 291)), (3, .int x3), (1, .long ((31 * x1) + r28.toInt64)), (4, .int (x4 + 1))]) rfl ?_
      exact ih g29 ((31 * x1) + r28.toInt64) (x4 + 1) _ (by omega)
set_option maxRecDepth 20000 in
set_option maxHeartbeats 4000000 in
theorem mll_asks_99 (C : MC p l e R s m args below meth c Z A ss RL cL_asks nL ret d mc ms) (hA : ∀ q, s.heap.size ≤ q → A q) (hU : 2 * U ≤ mc ∧ 12 * U ≤ ms) (had : mAd Z ad) (hd : 9 ≤ d ∧ 6 ≤ nL) {Y : kMem → Int64 → Int32 → Option ρ} {e9 : Nat} (hY : ∀ (f : kMem) (x1 : Int64) (x3 : Int32) (u : Nat), u + e9 ≤ U → M p l e R s m args below meth c Z A nL QF z (2 * u) (12 * u) (kw (wC Z.1 ad) f ++ []) 140 [(0, .ref (ad 291)), (1, .long x1), (3, .int x3)] [] (Y f x1 x3)) : ∀ (n : Nat) (f : kMem) (x1 : Int64) (x3 : Int32) (u : Nat), u + (n * 5 + 0 + e9) ≤ U → M p l e R s m args below meth c Z A nL QF z (2 * u) (12 * u) (kw (wC Z.1 ad) f ++ []) 99 [(0, .ref (ad 291)), (1, .long x1), (3, .int x3)] [] (ll_asks_99 Y n f x1 x3) := by
  intro n
  induction n with
  | zero => exact fun f x1 x3 u hu => M_none
  | succ n ih =>
    intro f x1 x3 u hu
    rw [Nat.succ_mul] at hu
    unfold ll_asks_99
    refine M_iload_n C 2 rfl rfl dL_asks_99 ?_
    refine M_iconst C (v := 3) (by decide) dL_asks_100 ?_
    refine M_icmp_ge C (tgt := 140) (by decide) dL_asks_101 ?_ ?_
    · refine M_sub [0, 1, 2] (lv1 := [(0, .ref (ad 291)), (1, .long x1), (3, .int x3)]) rfl ?_
      exact hY f x1 x3 _ (by omega)
    · refine M_iconst C (v := 0) (by decide) dL_asks_104 ?_
      refine M_istore C (Nat.lt_of_lt_of_le (by decide) hd.2) (lv1 := [(4, .int 0), (0, .ref (ad 291)), (1, .long x1), (3, .int x3)]) rfl dL_asks_105 ?_
      refine M_sub [1, 3, 2, 0] (lv1 := [(0, .ref (ad 291)), (3, .int x3), (1, .long x1), (4, .int 0)]) rfl ?_
      refine mll_asks_107 C hA hU had hd x3 (e9 := 0 + (n * 5 + 0 + e9)) (fun g30 x1_33 x4_34 u31 hu32 => ?_) 5 f x1 0 _ (by omega)
      refine M_iincC C (k := 1) rfl (v := x3 + 1) (incv _) (Nat.lt_of_lt_of_le (by decide) hd.2) (lv1 := [(3, .int (x3 + 1)), (0, .ref (ad 291)), (1, .long x1_33), (4, .int x4_34)]) rfl dL_asks_134 ?_
      refine M_goto C (tgt := 99) (by decide) dL_asks_137 ?_
      refine M_sub [1, 2, 0] (lv1 := [(0, .ref (ad 291)), (1, .long x1_33), (3, .int (x3 + 1))]) rfl ?_
      exact ih g30 x1_33 (x3 + 1) _ (by omega)
set_option maxRecDepth 20000 in
set_option maxHeartbeats 4000000 in
theorem mll_asks_167 (C : MC p l e R s m args below meth c Z A ss RL cL_asks nL ret d mc ms) (hA : ∀ q, s.heap.size ≤ q → A q) (hU : 2 * U ≤ mc ∧ 12 * U ≤ ms) (had : mAd Z ad) (hd : 9 ≤ d ∧ 6 ≤ nL) (x3 : Int32) {Y : kMem → Int64 → Int32 → Option ρ} {e9 : Nat} (hY : ∀ (f : kMem) (x1 : Int64) (x4 : Int32) (u : Nat), u + e9 ≤ U → M p l e R s m args below meth c Z A nL QF z (2 * u) (12 * u) (kw (wC Z.1 ad) f ++ []) 194 [(0, .ref (ad 291)), (3, .int x3), (1, .long x1), (4, .int x4)] [] (Y f x1 x4)) : ∀ (n : Nat) (f : kMem) (x1 : Int64) (x4 : Int32) (u : Nat), u + (n * 1 + 0 + e9) ≤ U → M p l e R s m args below meth c Z A nL QF z (2 * u) (12 * u) (kw (wC Z.1 ad) f ++ []) 167 [(0, .ref (ad 291)), (3, .int x3), (1, .long x1), (4, .int x4)] [] (ll_asks_167 x3 Y n f x1 x4) := by
  intro n
  induction n with
  | zero => exact fun f x1 x4 u hu => M_none
  | succ n ih =>
    intro f x1 x4 u hu
    rw [Nat.succ_mul] at hu
    unfold ll_asks_167
    refine M_iload C 3 rfl dL_asks_167 ?_
    refine M_iconst C (v := 4) (by decide) dL_asks_169 ?_
    refine M_icmp_ge C (tgt := 194) (by decide) dL_asks_170 ?_ ?_
    · refine M_sub [0, 1, 2, 3] (lv1 := [(0, .ref (ad 291)), (3, .int x3), (1, .long x1), (4, .int x4)]) rfl ?_
      exact hY f x1 x4 _ (by omega)
    · refine M_ldc2 C jc_L_211 dL_asks_173 ?_
      refine M_lload_n C 2 rfl rfl dL_asks_176 ?_
      refine M_lmul C dL_asks_177 ?_
      refine M_aload_n C 0 rfl rfl dL_asks_178 ?_
      refine M_iload_n C 1 rfl rfl dL_asks_179 ?_
      refine M_iload C 3 rfl dL_asks_180 ?_
      refine M_bW C hA hU (v := 1) (wr := []) (As := [.ref (ad 291), .int x3, .int x4]) (rest := [.long (31 * x1)]) (fun ry fy hy => wl_made l C.2.2.2.2.2.2 Z ad had f x3 x4 ry fy hy) jy_L_made jm_L_221 mSS_nil (by omega) (by omega) rfl rfl (Nat.le_of_ble_eq_true rfl) dL_asks_182 (fun r44 g45 => ?_)
      refine M_i2l C dL_asks_185 ?_
      refine M_ladd C dL_asks_186 ?_
      refine M_lstore_n C rfl (Nat.lt_of_lt_of_le (by decide) hd.2) (lv1 := [(1, .long ((31 * x1) + r44.toInt64)), (0, .ref (ad 291)), (3, .int x3), (4, .int x4)]) rfl dL_asks_187 ?_
      refine M_iincC C (k := 3) rfl (v := x4 + 1) (incv _) (Nat.lt_of_lt_of_le (by decide) hd.2) (lv1 := [(4, .int (x4 + 1)), (1, .long ((31 * x1) + r44.toInt64)), (0, .ref (ad 291)), (3, .int x3)]) rfl dL_asks_188 ?_
      refine M_goto C (tgt := 167) (by decide) dL_asks_191 ?_
      refine M_sub [2, 3, 1, 0] (lv1 := [(0, .ref (ad 291)), (3, .int x3), (1, .long ((31 * x1) + r44.toInt64)), (4, .int (x4 + 1))]) rfl ?_
      exact ih g45 ((31 * x1) + r44.toInt64) (x4 + 1) _ (by omega)
set_option maxRecDepth 20000 in
set_option maxHeartbeats 4000000 in
theorem mll_asks_210 (C : MC p l e R s m args below meth c Z A ss RL cL_asks nL ret d mc ms) (hA : ∀ q, s.heap.size ≤ q → A q) (hU : 2 * U ≤ mc ∧ 12 * U ≤ ms) (had : mAd Z ad) (hd : 9 ≤ d ∧ 6 ≤ nL) (x3 : Int32) (x4 : Int32) {Y : kMem → Int64 → Int32 → Option ρ} {e9 : Nat} (hY : ∀ (f : kMem) (x1 : Int64) (x5 : Int32) (u : Nat), u + e9 ≤ U → M p l e R s m args below meth c Z A nL QF z (2 * u) (12 * u) (kw (wC Z.1 ad) f ++ []) 239 [(0, .ref (ad 291)), (3, .int x3), (4, .int x4), (1, .long x1), (5, .int x5)] [] (Y f x1 x5)) : ∀ (n : Nat) (f : kMem) (x1 : Int64) (x5 : Int32) (u : Nat), u + (n * 1 + 0 + e9) ≤ U → M p l e R s m args below meth c Z A nL QF z (2 * u) (12 * u) (kw (wC Z.1 ad) f ++ []) 210 [(0, .ref (ad 291)), (3, .int x3), (4, .int x4), (1, .long x1), (5, .int x5)] [] (ll_asks_210 x3 x4 Y n f x1 x5) := by
  intro n
  induction n with
  | zero => exact fun f x1 x5 u hu => M_none
  | succ n ih =>
    intro f x1 x5 u hu
    rw [Nat.succ_mul] at hu
    unfold ll_asks_210
    refine M_iload C 4 rfl dL_asks_210 ?_
    refine M_iconst C (v := 3) (by decide) dL_asks_212 ?_
    refine M_icmp_ge C (tgt := 239) (by decide) dL_asks_213 ?_ ?_
    · refine M_sub [0, 1, 2, 3, 4] (lv1 := [(0, .ref (ad 291)), (3, .int x3), (4, .int x4), (1, .long x1), (5, .int x5)]) rfl ?_
      exact hY f x1 x5 _ (by omega)
    · refine M_ldc2 C jc_L_211 dL_asks_216 ?_
      refine M_lload_n C 3 rfl rfl dL_asks_219 ?_
      refine M_lmul C dL_asks_220 ?_
      refine M_aload_n C 0 rfl rfl dL_asks_221 ?_
      refine M_iload_n C 1 rfl rfl dL_asks_222 ?_
      refine M_iload C 2 rfl dL_asks_223 ?_
      refine M_iload C 4 rfl dL_asks_225 ?_
      refine M_bW C hA hU (v := 1) (wr := []) (As := [.ref (ad 291), .int x3, .int x4, .int x5]) (rest := [.long (31 * x1)]) (fun ry fy hy => wl_stock l C.2.2.2.2.2.2 Z ad had f x3 x4 x5 ry fy hy) jy_L_stock jm_L_223 mSS_nil (by omega) (by omega) rfl rfl (Nat.le_of_ble_eq_true rfl) dL_asks_227 (fun r53 g54 => ?_)
      refine M_i2l C dL_asks_230 ?_
      refine M_ladd C dL_asks_231 ?_
      refine M_lstore_n C rfl (Nat.lt_of_lt_of_le (by decide) hd.2) (lv1 := [(1, .long ((31 * x1) + r53.toInt64)), (0, .ref (ad 291)), (3, .int x3), (4, .int x4), (5, .int x5)]) rfl dL_asks_232 ?_
      refine M_iincC C (k := 4) rfl (v := x5 + 1) (incv _) (Nat.lt_of_lt_of_le (by decide) hd.2) (lv1 := [(5, .int (x5 + 1)), (1, .long ((31 * x1) + r53.toInt64)), (0, .ref (ad 291)), (3, .int x3), (4, .int x4)]) rfl dL_asks_233 ?_
      refine M_goto C (tgt := 210) (by decide) dL_asks_236 ?_
      refine M_sub [2, 3, 4, 1, 0] (lv1 := [(0, .ref (ad 291)), (3, .int x3), (4, .int x4), (1, .long ((31 * x1) + r53.toInt64)), (5, .int (x5 + 1))]) rfl ?_
      exact ih g54 ((31 * x1) + r53.toInt64) (x5 + 1) _ (by omega)
set_option maxRecDepth 20000 in
set_option maxHeartbeats 4000000 in
theorem mll_asks_197 (C : MC p l e R s m args below meth c Z A ss RL cL_asks nL ret d mc ms) (hA : ∀ q, s.heap.size ≤ q → A q) (hU : 2 * U ≤ mc ∧ 12 * U ≤ ms) (had : mAd Z ad) (hd : 9 ≤ d ∧ 6 ≤ nL) (x3 : Int32) {Y : kMem → Int64 → Int32 → Option ρ} {e9 : Nat} (hY : ∀ (f : kMem) (x1 : Int64) (x4 : Int32) (u : Nat), u + e9 ≤ U → M p l e R s m args below meth c Z A nL QF z (2 * u) (12 * u) (kw (wC Z.1 ad) f ++ []) 245 [(0, .ref (ad 291)), (3, .int x3), (1, .long x1), (4, .int x4)] [] (Y f x1 x4)) : ∀ (n : Nat) (f : kMem) (x1 : Int64) (x4 : Int32) (u : Nat), u + (n * 5 + 1 + e9) ≤ U → M p l e R s m args below meth c Z A nL QF z (2 * u) (12 * u) (kw (wC Z.1 ad) f ++ []) 197 [(0, .ref (ad 291)), (3, .int x3), (1, .long x1), (4, .int x4)] [] (ll_asks_197 x3 Y n f x1 x4) := by
  intro n
  induction n with
  | zero => exact fun f x1 x4 u hu => M_none
  | succ n ih =>
    intro f x1 x4 u hu
    rw [Nat.succ_mul] at hu
    unfold ll_asks_197
    refine M_iload C 3 rfl dL_asks_197 ?_
    refine M_aload_n C 0 rfl rfl dL_asks_199 ?_
    refine M_iconst C (v := 0) (by decide) dL_asks_200 ?_
    refine M_bW C hA hU (v := 1) (wr := []) (As := [.ref (ad 291), .int 0]) (rest := [.int x4]) (fun ry fy hy => wl_account l C.2.2.2.2.2.2 Z ad had f 0 ry fy hy) jy_L_account jm_L_213 mSS_nil (by omega) (by omega) rfl rfl (Nat.le_of_ble_eq_true rfl) dL_asks_201 (fun r51 g52 => ?_)
    refine M_icmp_ge C (tgt := 245) (by decide) dL_asks_204 ?_ ?_
    · refine M_sub [0, 1, 2, 3] (lv1 := [(0, .ref (ad 291)), (3, .int x3), (1, .long x1), (4, .int x4)]) rfl ?_
      exact hY g52 x1 x4 _ (by omega)
    · refine M_iconst C (v := 0) (by decide) dL_asks_207 ?_
      refine M_istore C (Nat.lt_of_lt_of_le (by decide) hd.2) (lv1 := [(5, .int 0), (0, .ref (ad 291)), (3, .int x3), (1, .long x1), (4, .int x4)]) rfl dL_asks_208 ?_
      refine M_sub [1, 2, 4, 3, 0] (lv1 := [(0, .ref (ad 291)), (3, .int x3), (4, .int x4), (1, .long x1), (5, .int 0)]) rfl ?_
      refine mll_asks_210 C hA hU had hd x3 x4 (e9 := 0 + (n * 5 + 1 + e9)) (fun g55 x1_58 x5_59 u56 hu57 => ?_) 4 g52 x1 0 _ (by omega)
      refine M_iincC C (k := 2) rfl (v := x4 + 1) (incv _) (Nat.lt_of_lt_of_le (by decide) hd.2) (lv1 := [(4, .int (x4 + 1)), (0, .ref (ad 291)), (3, .int x3), (1, .long x1_58), (5, .int x5_59)]) rfl dL_asks_239 ?_
      refine M_goto C (tgt := 197) (by decide) dL_asks_242 ?_
      refine M_sub [1, 2, 3, 0] (lv1 := [(0, .ref (ad 291)), (3, .int x3), (1, .long x1_58), (4, .int (x4 + 1))]) rfl ?_
      exact ih g55 x1_58 (x4 + 1) _ (by omega)
set_option maxRecDepth 20000 in
set_option maxHeartbeats 4000000 in
theorem mll_asks_142 (C : MC p l e R s m args below meth c Z A ss RL cL_asks nL ret d mc ms) (hA : ∀ q, s.heap.size ≤ q → A q) (hU : 2 * U ≤ mc ∧ 12 * U ≤ ms) (had : mAd Z ad) (hd : 9 ≤ d ∧ 6 ≤ nL) {Y : kMem → Int64 → Int32 → Option ρ} {e9 : Nat} (hY : ∀ (f : kMem) (x1 : Int64) (x3 : Int32) (u : Nat), u + e9 ≤ U → M p l e R s m args below meth c Z A nL QF z (2 * u) (12 * u) (kw (wC Z.1 ad) f ++ []) 251 [(0, .ref (ad 291)), (1, .long x1), (3, .int x3)] [] (Y f x1 x3)) : ∀ (n : Nat) (f : kMem) (x1 : Int64) (x3 : Int32) (u : Nat), u + (n * 43 + 1 + e9) ≤ U → M p l e R s m args below meth c Z A nL QF z (2 * u) (12 * u) (kw (wC Z.1 ad) f ++ []) 142 [(0, .ref (ad 291)), (1, .long x1), (3, .int x3)] [] (ll_asks_142 Y n f x1 x3) := by
  intro n
  induction n with
  | zero => exact fun f x1 x3 u hu => M_none
  | succ n ih =>
    intro f x1 x3 u hu
    rw [Nat.succ_mul] at hu
    unfold ll_asks_142
    refine M_iload_n C 2 rfl rfl dL_asks_142 ?_
    refine M_aload_n C 0 rfl rfl dL_asks_143 ?_
    refine M_iconst C (v := 1) (by decide) dL_asks_144 ?_
    refine M_bW C hA hU (v := 1) (wr := []) (As := [.ref (ad 291), .int 1]) (rest := [.int x3]) (fun ry fy hy => wl_account l C.2.2.2.2.2.2 Z ad had f 1 ry fy hy) jy_L_account jm_L_213 mSS_nil (by omega) (by omega) rfl rfl (Nat.le_of_ble_eq_true rfl) dL_asks_145 (fun r40 g41 => ?_)
    refine M_icmp_ge C (tgt := 251) (by decide) dL_asks_148 ?_ ?_
    · refine M_sub [0, 1, 2] (lv1 := [(0, .ref (ad 291)), (1, .long x1), (3, .int x3)]) rfl ?_
      exact hY g41 x1 x3 _ (by omega)
    · refine M_ldc2 C jc_L_211 dL_asks_151 ?_
      refine M_lload_n C 1 rfl rfl dL_asks_154 ?_
      refine M_lmul C dL_asks_155 ?_
      refine M_aload_n C 0 rfl rfl dL_asks_156 ?_
      refine M_iload_n C 2 rfl rfl dL_asks_157 ?_
      refine M_bW C hA hU (v := 1) (wr := []) (As := [.ref (ad 291), .int x3]) (rest := [.long (31 * x1)]) (fun ry fy hy => wl_families l C.2.2.2.2.2.2 Z ad had g41 x3 ry fy hy) jy_L_families jm_L_219 mSS_nil (by omega) (by omega) rfl rfl (Nat.le_of_ble_eq_true rfl) dL_asks_158 (fun r42 g43 => ?_)
      refine M_i2l C dL_asks_161 ?_
      refine M_ladd C dL_asks_162 ?_
      refine M_lstore_n C rfl (Nat.lt_of_lt_of_le (by decide) hd.2) (lv1 := [(1, .long ((31 * x1) + r42.toInt64)), (0, .ref (ad 291)), (3, .int x3)]) rfl dL_asks_163 ?_
      refine M_iconst C (v := 0) (by decide) dL_asks_164 ?_
      refine M_istore C (Nat.lt_of_lt_of_le (by decide) hd.2) (lv1 := [(4, .int 0), (1, .long ((31 * x1) + r42.toInt64)), (0, .ref (ad 291)), (3, .int x3)]) rfl dL_asks_165 ?_
      refine M_sub [2, 3, 1, 0] (lv1 := [(0, .ref (ad 291)), (3, .int x3), (1, .long ((31 * x1) + r42.toInt64)), (4, .int 0)]) rfl ?_
      refine mll_asks_167 C hA hU had hd x3 (e9 := 36 + (n * 43 + 1 + e9)) (fun g46 x1_49 x4_50 u47 hu48 => ?_) 5 g43 ((31 * x1) + r42.toInt64) 0 _ (by omega)
      refine M_iconst C (v := 0) (by decide) dL_asks_194 ?_
      refine M_istore C (Nat.lt_of_lt_of_le (by decide) hd.2) (lv1 := [(4, .int 0), (0, .ref (ad 291)), (3, .int x3), (1, .long x1_49)]) rfl dL_asks_195 ?_
      refine M_sub [1, 2, 3, 0] (lv1 := [(0, .ref (ad 291)), (3, .int x3), (1, .long x1_49), (4, .int 0)]) rfl ?_
      refine mll_asks_197 C hA hU had hd x3 (e9 := 0 + (n * 43 + 1 + e9)) (fun g60 x1_63 x4_64 u61 hu62 => ?_) 7 g46 x1_49 0 _ (by omega)
      refine M_iincC C (k := 1) rfl (v := x3 + 1) (incv _) (Nat.lt_of_lt_of_le (by decide) hd.2) (lv1 := [(3, .int (x3 + 1)), (0, .ref (ad 291)), (1, .long x1_63), (4, .int x4_64)]) rfl dL_asks_245 ?_
      refine M_goto C (tgt := 142) (by decide) dL_asks_248 ?_
      refine M_sub [1, 2, 0] (lv1 := [(0, .ref (ad 291)), (1, .long x1_63), (3, .int (x3 + 1))]) rfl ?_
      exact ih g60 x1_63 (x3 + 1) _ (by omega)
set_option maxRecDepth 20000 in
set_option maxHeartbeats 4000000 in
theorem mll_asks_265 (C : MC p l e R s m args below meth c Z A ss RL cL_asks nL ret d mc ms) (hA : ∀ q, s.heap.size ≤ q → A q) (hU : 2 * U ≤ mc ∧ 12 * U ≤ ms) (had : mAd Z ad) (hd : 9 ≤ d ∧ 6 ≤ nL) (x3 : Int32) {Y : kMem → Int64 → Int32 → Option ρ} {e9 : Nat} (hY : ∀ (f : kMem) (x1 : Int64) (x4 : Int32) (u : Nat), u + e9 ≤ U → M p l e R s m args below meth c Z A nL QF z (2 * u) (12 * u) (kw (wC Z.1 ad) f ++ []) 293 [(0, .ref (ad 291)), (3, .int x3), (1, .long x1), (4, .int x4)] [] (Y f x1 x4)) : ∀ (n : Nat) (f : kMem) (x1 : Int64) (x4 : Int32) (u : Nat), u + (n * 1 + 0 + e9) ≤ U → M p l e R s m args below meth c Z A nL QF z (2 * u) (12 * u) (kw (wC Z.1 ad) f ++ []) 265 [(0, .ref (ad 291)), (3, .int x3), (1, .long x1), (4, .int x4)] [] (ll_asks_265 x3 Y n f x1 x4) := by
  intro n
  induction n with
  | zero => exact fun f x1 x4 u hu => M_none
  | succ n ih =>
    intro f x1 x4 u hu
    rw [Nat.succ_mul] at hu
    unfold ll_asks_265
    refine M_iload C 3 rfl dL_asks_265 ?_
    refine M_bipush C (v := 6) (by decide) dL_asks_267 ?_
    refine M_icmp_ge C (tgt := 293) (by decide) dL_asks_269 ?_ ?_
    · refine M_sub [0, 1, 2, 3] (lv1 := [(0, .ref (ad 291)), (3, .int x3), (1, .long x1), (4, .int x4)]) rfl ?_
      exact hY f x1 x4 _ (by omega)
    · refine M_ldc2 C jc_L_211 dL_asks_272 ?_
      refine M_lload_n C 2 rfl rfl dL_asks_275 ?_
      refine M_lmul C dL_asks_276 ?_
      refine M_aload_n C 0 rfl rfl dL_asks_277 ?_
      refine M_iload_n C 1 rfl rfl dL_asks_278 ?_
      refine M_iload C 3 rfl dL_asks_279 ?_
      refine M_bW C hA hU (v := 1) (wr := []) (As := [.ref (ad 291), .int x3, .int x4]) (rest := [.long (31 * x1)]) (fun ry fy hy => wl_orderOf l C.2.2.2.2.2.2 Z ad had f x3 x4 ry fy hy) jy_L_orderOf jm_L_226 mSS_nil (by omega) (by omega) rfl rfl (Nat.le_of_ble_eq_true rfl) dL_asks_281 (fun r72 g73 => ?_)
      refine M_i2l C dL_asks_284 ?_
      refine M_ladd C dL_asks_285 ?_
      refine M_lstore_n C rfl (Nat.lt_of_lt_of_le (by decide) hd.2) (lv1 := [(1, .long ((31 * x1) + r72.toInt64)), (0, .ref (ad 291)), (3, .int x3), (4, .int x4)]) rfl dL_asks_286 ?_
      refine M_iincC C (k := 3) rfl (v := x4 + 1) (incv _) (Nat.lt_of_lt_of_le (by decide) hd.2) (lv1 := [(4, .int (x4 + 1)), (1, .long ((31 * x1) + r72.toInt64)), (0, .ref (ad 291)), (3, .int x3)]) rfl dL_asks_287 ?_
      refine M_goto C (tgt := 265) (by decide) dL_asks_290 ?_
      refine M_sub [2, 3, 1, 0] (lv1 := [(0, .ref (ad 291)), (3, .int x3), (1, .long ((31 * x1) + r72.toInt64)), (4, .int (x4 + 1))]) rfl ?_
      exact ih g73 ((31 * x1) + r72.toInt64) (x4 + 1) _ (by omega)
set_option maxRecDepth 20000 in
set_option maxHeartbeats 4000000 in
theorem mll_asks_253 (C : MC p l e R s m args below meth c Z A ss RL cL_asks nL ret d mc ms) (hA : ∀ q, s.heap.size ≤ q → A q) (hU : 2 * U ≤ mc ∧ 12 * U ≤ ms) (had : mAd Z ad) (hd : 9 ≤ d ∧ 6 ≤ nL) {Y : kMem → Int64 → Int32 → Option ρ} {e9 : Nat} (hY : ∀ (f : kMem) (x1 : Int64) (x3 : Int32) (u : Nat), u + e9 ≤ U → M p l e R s m args below meth c Z A nL QF z (2 * u) (12 * u) (kw (wC Z.1 ad) f ++ []) 323 [(0, .ref (ad 291)), (1, .long x1), (3, .int x3)] [] (Y f x1 x3)) : ∀ (n : Nat) (f : kMem) (x1 : Int64) (x3 : Int32) (u : Nat), u + (n * 10 + 1 + e9) ≤ U → M p l e R s m args below meth c Z A nL QF z (2 * u) (12 * u) (kw (wC Z.1 ad) f ++ []) 253 [(0, .ref (ad 291)), (1, .long x1), (3, .int x3)] [] (ll_asks_253 Y n f x1 x3) := by
  intro n
  induction n with
  | zero => exact fun f x1 x3 u hu => M_none
  | succ n ih =>
    intro f x1 x3 u hu
    rw [Nat.succ_mul] at hu
    unfold ll_asks_253
    refine M_iload_n C 2 rfl rfl dL_asks_253 ?_
    refine M_aload_n C 0 rfl rfl dL_asks_254 ?_
    refine M_iconst C (v := 3) (by decide) dL_asks_255 ?_
    refine M_bW C hA hU (v := 1) (wr := []) (As := [.ref (ad 291), .int 3]) (rest := [.int x3]) (fun ry fy hy => wl_account l C.2.2.2.2.2.2 Z ad had f 3 ry fy hy) jy_L_account jm_L_213 mSS_nil (by omega) (by omega) rfl rfl (Nat.le_of_ble_eq_true rfl) dL_asks_256 (fun r70 g71 => ?_)
    refine M_icmp_ge C (tgt := 323) (by decide) dL_asks_259 ?_ ?_
    · refine M_sub [0, 1, 2] (lv1 := [(0, .ref (ad 291)), (1, .long x1), (3, .int x3)]) rfl ?_
      exact hY g71 x1 x3 _ (by omega)
    · refine M_iconst C (v := 0) (by decide) dL_asks_262 ?_
      refine M_istore C (Nat.lt_of_lt_of_le (by decide) hd.2) (lv1 := [(4, .int 0), (0, .ref (ad 291)), (1, .long x1), (3, .int x3)]) rfl dL_asks_263 ?_
      refine M_sub [1, 3, 2, 0] (lv1 := [(0, .ref (ad 291)), (3, .int x3), (1, .long x1), (4, .int 0)]) rfl ?_
      refine mll_asks_265 C hA hU had hd x3 (e9 := 2 + (n * 10 + 1 + e9)) (fun g74 x1_77 x4_78 u75 hu76 => ?_) 7 g71 x1 0 _ (by omega)
      refine M_ldc2 C jc_L_211 dL_asks_293 ?_
      refine M_ldc2 C jc_L_211 dL_asks_296 ?_
      refine M_lload_n C 2 rfl rfl dL_asks_299 ?_
      refine M_lmul C dL_asks_300 ?_
      refine M_aload_n C 0 rfl rfl dL_asks_301 ?_
      refine M_iload_n C 1 rfl rfl dL_asks_302 ?_
      refine M_bW C hA hU (v := 1) (wr := []) (As := [.ref (ad 291), .int x3]) (rest := [.long (31 * x1_77), .long 31]) (fun ry fy hy => wl_shots l C.2.2.2.2.2.2 Z ad had g74 x3 ry fy hy) jy_L_shots jm_L_228 mSS_nil (by omega) (by omega) rfl rfl (Nat.le_of_ble_eq_true rfl) dL_asks_303 (fun r79 g80 => ?_)
      refine M_i2l C dL_asks_306 ?_
      refine M_ladd C dL_asks_307 ?_
      refine M_lmul C dL_asks_308 ?_
      refine M_aload_n C 0 rfl rfl dL_asks_309 ?_
      refine M_iload_n C 1 rfl rfl dL_asks_310 ?_
      refine M_bW C hA hU (v := 1) (wr := []) (As := [.ref (ad 291), .int x3]) (rest := [.long (31 * ((31 * x1_77) + r79.toInt64))]) (fun ry fy hy => wl_letter l C.2.2.2.2.2.2 Z ad had g80 x3 ry fy hy) jy_L_letter jm_L_230 mSS_nil (by omega) (by omega) rfl rfl (Nat.le_of_ble_eq_true rfl) dL_asks_311 (fun r81 g82 => ?_)
      refine M_i2l C dL_asks_314 ?_
      refine M_ladd C dL_asks_315 ?_
      refine M_lstore_n C rfl (Nat.lt_of_lt_of_le (by decide) hd.2) (lv1 := [(1, .long ((31 * ((31 * x1_77) + r79.toInt64)) + r81.toInt64)), (0, .ref (ad 291)), (3, .int x3), (4, .int x4_78)]) rfl dL_asks_316 ?_
      refine M_iincC C (k := 2) rfl (v := x3 + 1) (incv _) (Nat.lt_of_lt_of_le (by decide) hd.2) (lv1 := [(3, .int (x3 + 1)), (1, .long ((31 * ((31 * x1_77) + r79.toInt64)) + r81.toInt64)), (0, .ref (ad 291)), (4, .int x4_78)]) rfl dL_asks_317 ?_
      refine M_goto C (tgt := 253) (by decide) dL_asks_320 ?_
      refine M_sub [2, 1, 0] (lv1 := [(0, .ref (ad 291)), (1, .long ((31 * ((31 * x1_77) + r79.toInt64)) + r81.toInt64)), (3, .int (x3 + 1))]) rfl ?_
      exact ih g82 ((31 * ((31 * x1_77) + r79.toInt64)) + r81.toInt64) (x3 + 1) _ (by omega)
set_option maxRecDepth 20000 in
set_option maxHeartbeats 4000000 in
theorem mll_asks_325 (C : MC p l e R s m args below meth c Z A ss RL cL_asks nL ret d mc ms) (hA : ∀ q, s.heap.size ≤ q → A q) (hU : 2 * U ≤ mc ∧ 12 * U ≤ ms) (had : mAd Z ad) (hd : 9 ≤ d ∧ 6 ≤ nL) {Y : kMem → Int64 → Int32 → Option ρ} {e9 : Nat} (hY : ∀ (f : kMem) (x1 : Int64) (x3 : Int32) (u : Nat), u + e9 ≤ U → M p l e R s m args below meth c Z A nL QF z (2 * u) (12 * u) (kw (wC Z.1 ad) f ++ []) 366 [(0, .ref (ad 291)), (1, .long x1), (3, .int x3)] [] (Y f x1 x3)) : ∀ (n : Nat) (f : kMem) (x1 : Int64) (x3 : Int32) (u : Nat), u + (n * 3 + 1 + e9) ≤ U → M p l e R s m args below meth c Z A nL QF z (2 * u) (12 * u) (kw (wC Z.1 ad) f ++ []) 325 [(0, .ref (ad 291)), (1, .long x1), (3, .int x3)] [] (ll_asks_325 Y n f x1 x3) := by
  intro n
  induction n with
  | zero => exact fun f x1 x3 u hu => M_none
  | succ n ih =>
    intro f x1 x3 u hu
    rw [Nat.succ_mul] at hu
    unfold ll_asks_325
    refine M_iload_n C 2 rfl rfl dL_asks_325 ?_
    refine M_aload_n C 0 rfl rfl dL_asks_326 ?_
    refine M_iconst C (v := 0) (by decide) dL_asks_327 ?_
    refine M_bW C hA hU (v := 1) (wr := []) (As := [.ref (ad 291), .int 0]) (rest := [.int x3]) (fun ry fy hy => wl_account l C.2.2.2.2.2.2 Z ad had f 0 ry fy hy) jy_L_account jm_L_213 mSS_nil (by omega) (by omega) rfl rfl (Nat.le_of_ble_eq_true rfl) dL_asks_328 (fun r88 g89 => ?_)
    refine M_icmp_ge C (tgt := 366) (by decide) dL_asks_331 ?_ ?_
    · refine M_sub [0, 1, 2] (lv1 := [(0, .ref (ad 291)), (1, .long x1), (3, .int x3)]) rfl ?_
      exact hY g89 x1 x3 _ (by omega)
    · refine M_ldc2 C jc_L_211 dL_asks_334 ?_
      refine M_ldc2 C jc_L_211 dL_asks_337 ?_
      refine M_lload_n C 1 rfl rfl dL_asks_340 ?_
      refine M_lmul C dL_asks_341 ?_
      refine M_aload_n C 0 rfl rfl dL_asks_342 ?_
      refine M_iload_n C 2 rfl rfl dL_asks_343 ?_
      refine M_iconst C (v := 0) (by decide) dL_asks_344 ?_
      refine M_bW C hA hU (v := 1) (wr := []) (As := [.ref (ad 291), .int x3, .int 0]) (rest := [.long (31 * x1), .long 31]) (fun ry fy hy => wl_purge l C.2.2.2.2.2.2 Z ad had g89 x3 0 ry fy hy) jy_L_purge jm_L_232 mSS_nil (by omega) (by omega) rfl rfl (Nat.le_of_ble_eq_true rfl) dL_asks_345 (fun r90 g91 => ?_)
      refine M_i2l C dL_asks_348 ?_
      refine M_ladd C dL_asks_349 ?_
      refine M_lmul C dL_asks_350 ?_
      refine M_aload_n C 0 rfl rfl dL_asks_351 ?_
      refine M_iload_n C 2 rfl rfl dL_asks_352 ?_
      refine M_iconst C (v := 3) (by decide) dL_asks_353 ?_
      refine M_bW C hA hU (v := 1) (wr := []) (As := [.ref (ad 291), .int x3, .int 3]) (rest := [.long (31 * ((31 * x1) + r90.toInt64))]) (fun ry fy hy => wl_minutes l C.2.2.2.2.2.2 Z ad had g91 x3 3 ry fy hy) jy_L_minutes jm_L_234 mSS_nil (by omega) (by omega) rfl rfl (Nat.le_of_ble_eq_true rfl) dL_asks_354 (fun r92 g93 => ?_)
      refine M_i2l C dL_asks_357 ?_
      refine M_ladd C dL_asks_358 ?_
      refine M_lstore_n C rfl (Nat.lt_of_lt_of_le (by decide) hd.2) (lv1 := [(1, .long ((31 * ((31 * x1) + r90.toInt64)) + r92.toInt64)), (0, .ref (ad 291)), (3, .int x3)]) rfl dL_asks_359 ?_
      refine M_iincC C (k := 2) rfl (v := x3 + 1) (incv _) (Nat.lt_of_lt_of_le (by decide) hd.2) (lv1 := [(3, .int (x3 + 1)), (1, .long ((31 * ((31 * x1) + r90.toInt64)) + r92.toInt64)), (0, .ref (ad 291))]) rfl dL_asks_360 ?_
      refine M_goto C (tgt := 325) (by decide) dL_asks_363 ?_
      refine M_sub [2, 1, 0] (lv1 := [(0, .ref (ad 291)), (1, .long ((31 * ((31 * x1) + r90.toInt64)) + r92.toInt64)), (3, .int (x3 + 1))]) rfl ?_
      exact ih g93 ((31 * ((31 * x1) + r90.toInt64)) + r92.toInt64) (x3 + 1) _ (by omega)
end AS
def lf_asks (f : kMem) : Option (Int64 × kMem) := mdbind (lf_lateness f) (fun r1 g2 => kchk (!FP.Core.dIsNaN r1) (mfbind (lf_scrap g2) (fun r4 g5 => kchk (!FP.Core.fIsNaN r4) (ll_asks_19 (fun g9 x1_12 x3_13 => ll_asks_52 (fun g23 x1_26 x3_27 => ll_asks_99 (fun g35 x1_38 x3_39 => ll_asks_142 (fun g65 x1_68 x3_69 => ll_asks_253 (fun g83 x1_86 x3_87 => ll_asks_325 (fun g94 x1_97 x3_98 => kbind (lf_account g94 0) (fun r99 g100 => kbind (lf_best g100 (((1 : Int32) <<< ((kmin 4 r99) &&& 31)) - 1)) (fun r101 g102 => kbind (lf_due g102 3) (fun r103 g104 => some ((31 * ((31 * x1_97) + r101.toInt64)) + r103.toInt64, g104))))) 7 g83 x1_86 0) 11 g65 x1_68 0) 9 g35 x1_38 0) 4 g23 x1_26 0) 8 g9 x1_12 0) 20 g5 (r1.toInt64 + r4.toInt32.toInt64) 0))))
set_option maxRecDepth 20000 in
set_option maxHeartbeats 4000000 in
theorem ml_asks (l : Launch) (hst : l.stackTraces = false) (Z : mZ) (ad : Nat → Nat) (had : mAd Z ad) (f : kMem) (r : Int64) (fo : kMem) (h : lf_asks f = some (r, fo)) : mMet l Z yL_asks (.code yL_asks cL_asks 6 (some .long)) 9 (2 * 623) (12 * 623) [.ref (ad 291)] (kw (wC Z.1 ad) f) [] (mQl (wC Z.1 ad) (r, fo)) := by
  refine mMet_of (z := (r, fo)) (X := lf_asks f) (own := RL) (lv := [(0, .ref (ad 291))]) hst (by decide +kernel) rfl (Nat.le_of_ble_eq_true rfl) rfl h ?_
  intro p e R s m args below meth c C hini
  have hA : ∀ q, s.heap.size ≤ q → wA (kw (wC Z.1 ad) f) s.heap.size q := fun q h => Or.inr h
  have hU : 2 * 623 ≤ 2 * 623 ∧ 12 * 623 ≤ 12 * 623 := ⟨Nat.le_refl _, Nat.le_refl _⟩
  have hd : 9 ≤ 9 ∧ 6 ≤ 6 := ⟨Nat.le_refl _, Nat.le_refl _⟩
  unfold lf_asks
  refine M_widen (k1 := 2 * 0) (n1 := 12 * 0) (by decide) (by decide) ?_
  refine M_nil ?_
  refine M_aload_n C 0 rfl rfl dL_asks_0 ?_
  refine M_bWd C hA hU (v := 1) (wr := []) (As := [.ref (ad 291)]) (rest := []) (fun ry fy hy => wl_lateness l C.2.2.2.2.2.2 Z ad had f  ry fy hy) jy_L_lateness jm_L_193 mSS_nil (by omega) (by omega) rfl rfl (Nat.le_of_ble_eq_true rfl) dL_asks_1 (fun r1 g2 => ?_)
  refine M_chk (fun hb3 => ?_)
  refine M_pS C hA hU (kj_dbits l C.2.2.2.2.2.2 Z r1 (by simpa using hb3)) jy_Jxe99ae_doubleToLongBits_ccdee jm_L_196 (by omega) (by omega) rfl (As := [.double r1]) (rest := []) rfl (Nat.le_of_ble_eq_true rfl) dL_asks_4 ?_
  refine M_aload_n C 0 rfl rfl dL_asks_7 ?_
  refine M_bWf C hA hU (v := 1) (wr := []) (As := [.ref (ad 291)]) (rest := [.long r1.toInt64]) (fun ry fy hy => wl_scrap l C.2.2.2.2.2.2 Z ad had g2  ry fy hy) jy_L_scrap jm_L_202 mSS_nil (by omega) (by omega) rfl rfl (Nat.le_of_ble_eq_true rfl) dL_asks_8 (fun r4 g5 => ?_)
  refine M_chk (fun hb6 => ?_)
  refine M_pS C hA hU (kj_fbits l C.2.2.2.2.2.2 Z r4 (by simpa using hb6)) jy_Jxf58ca_floatToIntBits_5c35a jm_L_205 (by omega) (by omega) rfl (As := [.float r4]) (rest := [.long r1.toInt64]) rfl (Nat.le_of_ble_eq_true rfl) dL_asks_11 ?_
  refine M_i2l C dL_asks_14 ?_
  refine M_ladd C dL_asks_15 ?_
  refine M_lstore_n C rfl (Nat.lt_of_lt_of_le (by decide) hd.2) (lv1 := [(1, .long (r1.toInt64 + r4.toInt32.toInt64)), (0, .ref (ad 291))]) rfl dL_asks_16 ?_
  refine M_iconst C (v := 0) (by decide) dL_asks_17 ?_
  refine M_istore_n C rfl (Nat.lt_of_lt_of_le (by decide) hd.2) (lv1 := [(3, .int 0), (1, .long (r1.toInt64 + r4.toInt32.toInt64)), (0, .ref (ad 291))]) rfl dL_asks_18 ?_
  refine M_sub [2, 1, 0] (lv1 := [(0, .ref (ad 291)), (1, .long (r1.toInt64 + r4.toInt32.toInt64)), (3, .int 0)]) rfl ?_
  refine mll_asks_19 C hA hU had hd (e9 := 601) (fun g9 x1_12 x3_13 u10 hu11 => ?_) 20 g5 (r1.toInt64 + r4.toInt32.toInt64) 0 _ (by omega)
  refine M_iconst C (v := 0) (by decide) dL_asks_50 ?_
  refine M_istore_n C rfl (Nat.lt_of_lt_of_le (by decide) hd.2) (lv1 := [(3, .int 0), (0, .ref (ad 291)), (1, .long x1_12)]) rfl dL_asks_51 ?_
  refine M_sub [1, 2, 0] (lv1 := [(0, .ref (ad 291)), (1, .long x1_12), (3, .int 0)]) rfl ?_
  refine mll_asks_52 C hA hU had hd (e9 := 544) (fun g23 x1_26 x3_27 u24 hu25 => ?_) 8 g9 x1_12 0 _ (by omega)
  refine M_iconst C (v := 0) (by decide) dL_asks_97 ?_
  refine M_istore_n C rfl (Nat.lt_of_lt_of_le (by decide) hd.2) (lv1 := [(3, .int 0), (0, .ref (ad 291)), (1, .long x1_26)]) rfl dL_asks_98 ?_
  refine M_sub [1, 2, 0] (lv1 := [(0, .ref (ad 291)), (1, .long x1_26), (3, .int 0)]) rfl ?_
  refine mll_asks_99 C hA hU had hd (e9 := 524) (fun g35 x1_38 x3_39 u36 hu37 => ?_) 4 g23 x1_26 0 _ (by omega)
  refine M_iconst C (v := 0) (by decide) dL_asks_140 ?_
  refine M_istore_n C rfl (Nat.lt_of_lt_of_le (by decide) hd.2) (lv1 := [(3, .int 0), (0, .ref (ad 291)), (1, .long x1_38)]) rfl dL_asks_141 ?_
  refine M_sub [1, 2, 0] (lv1 := [(0, .ref (ad 291)), (1, .long x1_38), (3, .int 0)]) rfl ?_
  refine mll_asks_142 C hA hU had hd (e9 := 136) (fun g65 x1_68 x3_69 u66 hu67 => ?_) 9 g35 x1_38 0 _ (by omega)
  refine M_iconst C (v := 0) (by decide) dL_asks_251 ?_
  refine M_istore_n C rfl (Nat.lt_of_lt_of_le (by decide) hd.2) (lv1 := [(3, .int 0), (0, .ref (ad 291)), (1, .long x1_68)]) rfl dL_asks_252 ?_
  refine M_sub [1, 2, 0] (lv1 := [(0, .ref (ad 291)), (1, .long x1_68), (3, .int 0)]) rfl ?_
  refine mll_asks_253 C hA hU had hd (e9 := 25) (fun g83 x1_86 x3_87 u84 hu85 => ?_) 11 g65 x1_68 0 _ (by omega)
  refine M_iconst C (v := 0) (by decide) dL_asks_323 ?_
  refine M_istore_n C rfl (Nat.lt_of_lt_of_le (by decide) hd.2) (lv1 := [(3, .int 0), (0, .ref (ad 291)), (1, .long x1_86)]) rfl dL_asks_324 ?_
  refine M_sub [1, 2, 0] (lv1 := [(0, .ref (ad 291)), (1, .long x1_86), (3, .int 0)]) rfl ?_
  refine mll_asks_325 C hA hU had hd (e9 := 3) (fun g94 x1_97 x3_98 u95 hu96 => ?_) 7 g83 x1_86 0 _ (by omega)
  refine M_ldc2 C jc_L_211 dL_asks_366 ?_
  refine M_ldc2 C jc_L_211 dL_asks_369 ?_
  refine M_lload_n C 1 rfl rfl dL_asks_372 ?_
  refine M_lmul C dL_asks_373 ?_
  refine M_aload_n C 0 rfl rfl dL_asks_374 ?_
  refine M_iconst C (v := 1) (by decide) dL_asks_375 ?_
  refine M_iconst C (v := 4) (by decide) dL_asks_376 ?_
  refine M_aload_n C 0 rfl rfl dL_asks_377 ?_
  refine M_iconst C (v := 0) (by decide) dL_asks_378 ?_
  refine M_bW C hA hU (v := 1) (wr := []) (As := [.ref (ad 291), .int 0]) (rest := [.int 4, .int 1, .ref (ad 291), .long (31 * x1_97), .long 31]) (fun ry fy hy => wl_account l C.2.2.2.2.2.2 Z ad had g94 0 ry fy hy) jy_L_account jm_L_213 mSS_nil (by omega) (by omega) rfl rfl (Nat.le_of_ble_eq_true rfl) dL_asks_379 (fun r99 g100 => ?_)
  refine M_mmin C jm_L_min (by omega) ⟨by omega, by omega⟩ (Nat.le_of_ble_eq_true rfl) dL_asks_382 ?_
  refine M_ishl C dL_asks_385 ?_
  refine M_iconst C (v := 1) (by decide) dL_asks_386 ?_
  refine M_isub C dL_asks_387 ?_
  refine M_bW C hA hU (v := 1) (wr := []) (As := [.ref (ad 291), .int (((1 : Int32) <<< ((kmin 4 r99) &&& 31)) - 1)]) (rest := [.long (31 * x1_97), .long 31]) (fun ry fy hy => wl_best l C.2.2.2.2.2.2 Z ad had g100 (((1 : Int32) <<< ((kmin 4 r99) &&& 31)) - 1) ry fy hy) jy_L_best jm_L_241 mSS_nil (by omega) (by omega) rfl rfl (Nat.le_of_ble_eq_true rfl) dL_asks_388 (fun r101 g102 => ?_)
  refine M_i2l C dL_asks_391 ?_
  refine M_ladd C dL_asks_392 ?_
  refine M_lmul C dL_asks_393 ?_
  refine M_aload_n C 0 rfl rfl dL_asks_394 ?_
  refine M_iconst C (v := 3) (by decide) dL_asks_395 ?_
  refine M_bW C hA hU (v := 1) (wr := []) (As := [.ref (ad 291), .int 3]) (rest := [.long (31 * ((31 * x1_97) + r101.toInt64))]) (fun ry fy hy => wl_due l C.2.2.2.2.2.2 Z ad had g102 3 ry fy hy) jy_L_due jm_L_243 mSS_nil (by omega) (by omega) rfl rfl (Nat.le_of_ble_eq_true rfl) dL_asks_396 (fun r103 g104 => ?_)
  refine M_i2l C dL_asks_399 ?_
  refine M_ladd C dL_asks_400 ?_
  exact M_lret C rfl ⟨by omega, by omega⟩ dL_asks_401 (fun h9 => by cases h9; exact ⟨rfl, List.append_nil _⟩)
