/-! contracts of the JDK's methods that the law reaches: texts (Latin-1), builders that never grow, bits of doubles and floats -/
theorem kin_J0 : ∀ z ∈ u_ws RJ0 TJ0 4, z ∈ kGT := kgt_all (by decide +kernel)
theorem kin_J4 : ∀ z ∈ u_ws RJ4 TJ4 4, z ∈ kGT := kgt_all (by decide +kernel)
theorem let8 : ∀ c, c < 128 → ((nI c &&& 255).toUInt32 % 65536).toInt32 = nI c := by decide +kernel
theorem letC : ∀ c, c < 128 → narrow .char (.int (nI c)) = .int (nI c) := by decide +kernel
theorem letN : ∀ c, c < 128 → ¬ (255 : Int32) < nI c := by decide +kernel
theorem letB : ∀ c, c < 128 → (nI c).toInt8.toInt32 = nI c := by decide +kernel
theorem letV : ∀ c, c < 128 → vp_nar .byte (nI c) = nI c := by decide +kernel
theorem letF : ∀ c, c < 128 → fits .byte (.int (nI c)) = true := by decide +kernel
theorem cap16 : ∀ k, k ≤ 16 → nI k - (16 : Int32) >>> ((0 : Int32) &&& 31) ≤ 0 := fun k hk => (show ∀ k, k < 17 → nI k - (16 : Int32) >>> ((0 : Int32) &&& 31) ≤ 0 by decide +kernel) k (by omega)
theorem nI_npos {i : Nat} (h : i < 2 ^ 31) : ¬ nI i < 0 := fun q => by
  have := Int32.lt_iff_toInt_lt.mp q
  rw [nI_toInt h] at this
  simp at this
  omega
theorem dg0 : ∀ x, x < 100 → (0 : Int32) ≤ nI x := by decide +kernel
theorem dg1 : ∀ x, x < 10 → ¬ -(nI x) ≤ (-10 : Int32) := by decide +kernel
theorem dg20 : ∀ x, x < 100 → (10 ≤ x → -(nI x) ≤ (-10 : Int32)) := by decide +kernel
theorem dg2 : ∀ x, 10 ≤ x → x < 100 → -(nI x) ≤ (-10 : Int32) := fun x h1 h2 => dg20 x h2 h1
theorem dg3 : ∀ x, x < 100 → ¬ -(nI x) ≤ (10 : Int32) * (-10) := by decide +kernel
theorem dg4 : ∀ x, x < 100 → (-100 : Int32) < -(nI x) := by decide +kernel
theorem dg5 : ∀ x, x < 10 → (-9 : Int32) ≤ -(nI x) := by decide +kernel
theorem dg60 : ∀ x, x < 100 → (10 ≤ x → ¬ (-9 : Int32) ≤ -(nI x)) := by decide +kernel
theorem dg6 : ∀ x, 10 ≤ x → x < 100 → ¬ (-9 : Int32) ≤ -(nI x) := fun x h1 h2 => dg60 x h2 h1
theorem dgm (p : Nat) : nI (p + 1) + Int32.ofInt (-1) = nI p := by rw [show Int32.ofInt (-1) = -1 from rfl, ← Int32.sub_eq_add_neg, nI_pred]
theorem min160 : ∀ n, n < 17 → kmin ((16 : Int32) - 0) (nI n) = nI n := by decide +kernel
theorem min16 (n : Nat) (h : n ≤ 16) : kmin ((16 : Int32) - 0) (nI n) = nI n := min160 n (by omega)
theorem pm4 {α : Type} (b v o s : α) : [b, v, o, s].Perm [o, b, s, v] := (List.perm_middle (l₁ := [b, v]) (l₂ := [s]) (a := o)).trans (List.Perm.cons o (List.Perm.cons b (List.Perm.swap s v [])))
theorem dfJ0 : ∀ j, j < 4 → defaultValue (tyJ0 j) = vp_V [.null, .int 0, .int 0, .int 0] j := by decide +kernel
theorem fcmpI {x : UInt32} (h : FP.Core.fIsNaN x = false) : FP.fcmp x x = some .eq := FP.Core.fcmp_self ((FP.Core.notNaN_iff32 x).mp h)
theorem jf_J0_38 : Cond.fieldLink RJ0 38 "java/lang/String" "COMPACT_STRINGS" "Z" ∈ kGT := kgt (List.mem_of_getElem? (i := 1319) (by decide +kernel)) rfl
theorem jf_J0_15 : Cond.fieldLink RJ0 15 "java/lang/String" "coder" "B" ∈ kGT := kgt (List.mem_of_getElem? (i := 1351) (by decide +kernel)) rfl
theorem jf_J0_9 : Cond.fieldLink RJ0 9 "java/lang/String" "value" "[B" ∈ kGT := kgt (List.mem_of_getElem? (i := 1350) (by decide +kernel)) rfl
theorem jy_J0_coder_7d493 : kYV yJ0_coder_7d493 cJ0_coder_7d493 1 (some .byte) 0 := ⟨⟨kgt (List.mem_of_getElem? (i := 1318) (by decide +kernel)) rfl, kgt (List.mem_of_getElem? (i := 40) (by decide +kernel)) rfl, by decide +kernel, by decide⟩, kgt (List.mem_of_getElem? (i := 1316) (by decide +kernel)) rfl, kgt (List.mem_of_getElem? (i := 1317) (by decide +kernel)) rfl⟩
theorem jm_J0_335 : Cond.methodLink RJ0 335 yJ0_coder_7d493 ∈ kGT := kgt (List.mem_of_getElem? (i := 1315) (by decide +kernel)) rfl
theorem jf_sioobe : Cond.fieldLink RJ0 1053 "jdk/internal/util/Preconditions" "SIOOBE_FORMATTER" "Ljava/util/function/BiFunction;" ∈ kGT := kgt (List.mem_of_getElem? (i := 1197) (by decide +kernel)) rfl
theorem jy_J3_checkIndex_8e157 : kYS yJ3_checkIndex_8e157 cJ3_checkIndex_8e157 3 (some .int) 3 := ⟨⟨kgt (List.mem_of_getElem? (i := 1256) (by decide +kernel)) rfl, kgt (List.mem_of_getElem? (i := 53) (by decide +kernel)) rfl, by decide +kernel, by decide⟩, kgt (List.mem_of_getElem? (i := 1255) (by decide +kernel)) rfl⟩
theorem jm_J0_1059 : Cond.methodLink RJ0 1059 yJ3_checkIndex_8e157 ∈ kGT := kgt (List.mem_of_getElem? (i := 1254) (by decide +kernel)) rfl
theorem jy_J0_checkIndex_df160 : kYS yJ0_checkIndex_df160 cJ0_checkIndex_df160 2 none 2 := ⟨⟨kgt (List.mem_of_getElem? (i := 1253) (by decide +kernel)) rfl, kgt (List.mem_of_getElem? (i := 40) (by decide +kernel)) rfl, by decide +kernel, by decide⟩, kgt (List.mem_of_getElem? (i := 1252) (by decide +kernel)) rfl⟩
theorem jm_J1_9 : Cond.methodLink RJ1 9 yJ0_checkIndex_df160 ∈ kGT := kgt (List.mem_of_getElem? (i := 1375) (by decide +kernel)) rfl
theorem jy_J0_isLatin1_aae02 : kYV yJ0_isLatin1_aae02 cJ0_isLatin1_aae02 1 (some .boolean) 0 := ⟨⟨kgt (List.mem_of_getElem? (i := 1371) (by decide +kernel)) rfl, kgt (List.mem_of_getElem? (i := 40) (by decide +kernel)) rfl, by decide +kernel, by decide⟩, kgt (List.mem_of_getElem? (i := 1369) (by decide +kernel)) rfl, kgt (List.mem_of_getElem? (i := 1370) (by decide +kernel)) rfl⟩
theorem jm_J0_492 : Cond.methodLink RJ0 492 yJ0_isLatin1_aae02 ∈ kGT := kgt (List.mem_of_getElem? (i := 1368) (by decide +kernel)) rfl
theorem jy_J1_charAt_3b067 : kYS yJ1_charAt_3b067 cJ1_charAt_3b067 2 (some .char) 2 := ⟨⟨kgt (List.mem_of_getElem? (i := 1374) (by decide +kernel)) rfl, kgt (List.mem_of_getElem? (i := 54) (by decide +kernel)) rfl, by decide +kernel, by decide⟩, kgt (List.mem_of_getElem? (i := 1373) (by decide +kernel)) rfl⟩
theorem jm_J0_495 : Cond.methodLink RJ0 495 yJ1_charAt_3b067 ∈ kGT := kgt (List.mem_of_getElem? (i := 1372) (by decide +kernel)) rfl
theorem jf_J5_18 : Cond.fieldLink RJ5 18 "java/lang/String" "COMPACT_STRINGS" "Z" ∈ kGT := kgt (List.mem_of_getElem? (i := 1112) (by decide +kernel)) rfl
theorem jf_J5_22 : Cond.fieldLink RJ5 22 "java/lang/AbstractStringBuilder" "coder" "B" ∈ kGT := kgt (List.mem_of_getElem? (i := 1122) (by decide +kernel)) rfl
theorem jf_J5_79 : Cond.fieldLink RJ5 79 "java/lang/AbstractStringBuilder" "count" "I" ∈ kGT := kgt (List.mem_of_getElem? (i := 1124) (by decide +kernel)) rfl
theorem jf_J5_15 : Cond.fieldLink RJ5 15 "java/lang/AbstractStringBuilder" "value" "[B" ∈ kGT := kgt (List.mem_of_getElem? (i := 1121) (by decide +kernel)) rfl
theorem ju_J5_100_J4 : kYU RJ5 100 yJ5_ensureCapacityInternal_d00df yJ5_ensureCapacityInternal_d00df cJ5_ensureCapacityInternal_d00df 3 none 1 := ⟨⟨kgt (List.mem_of_getElem? (i := 1144) (by decide +kernel)) rfl, kgt (List.mem_of_getElem? (i := 1605) (by decide +kernel)) rfl, ⟨cJ5_ensureCapacityInternal_d00df, 3, none, kgt (List.mem_of_getElem? (i := 1147) (by decide +kernel)) rfl⟩, kgt (List.mem_of_getElem? (i := 1146) (by decide +kernel)) rfl⟩, kgt (List.mem_of_getElem? (i := 1146) (by decide +kernel)) rfl, kgt (List.mem_of_getElem? (i := 48) (by decide +kernel)) rfl, kgt (List.mem_of_getElem? (i := 1147) (by decide +kernel)) rfl, by decide +kernel, by decide⟩
theorem jins_J4 : Cond.instantiable RJ4 4 ∈ kGT := kgt (List.mem_of_getElem? (i := 1104) (by decide +kernel)) rfl
theorem jsl_J4 : Cond.selects RJ4 yJ5_isLatin1_aae02 yJ5_isLatin1_aae02 ∈ kGT := kgt (List.mem_of_getElem? (i := 1176) (by decide +kernel)) rfl
theorem jpv_J5_ensureCapacityInternal_d00df : Cond.privateMethod yJ5_ensureCapacityInternal_d00df ∈ mNW := by decide +kernel
theorem jim_J5_ensureCapacityInternal_d00df : Cond.instanceMethod yJ5_ensureCapacityInternal_d00df ∈ kGT := kgt (List.mem_of_getElem? (i := 1146) (by decide +kernel)) rfl
theorem ju_J5_83_J4 : kYU RJ5 83 yJ5_isLatin1_aae02 yJ5_isLatin1_aae02 cJ5_isLatin1_aae02 1 (some .boolean) 0 := ⟨⟨kgt (List.mem_of_getElem? (i := 1173) (by decide +kernel)) rfl, kgt (List.mem_of_getElem? (i := 1175) (by decide +kernel)) rfl, ⟨cJ5_isLatin1_aae02, 1, (some .boolean), kgt (List.mem_of_getElem? (i := 1177) (by decide +kernel)) rfl⟩, kgt (List.mem_of_getElem? (i := 1174) (by decide +kernel)) rfl⟩, kgt (List.mem_of_getElem? (i := 1174) (by decide +kernel)) rfl, kgt (List.mem_of_getElem? (i := 48) (by decide +kernel)) rfl, kgt (List.mem_of_getElem? (i := 1177) (by decide +kernel)) rfl, by decide +kernel, by decide⟩
theorem jsel_J5_83_J4 : Cond.selects RJ4 yJ5_isLatin1_aae02 yJ5_isLatin1_aae02 ∈ kGT := kgt (List.mem_of_getElem? (i := 1176) (by decide +kernel)) rfl
theorem jy_J1_canEncode_fc78d : kYS yJ1_canEncode_fc78d cJ1_canEncode_fc78d 1 (some .boolean) 1 := ⟨⟨kgt (List.mem_of_getElem? (i := 1225) (by decide +kernel)) rfl, kgt (List.mem_of_getElem? (i := 54) (by decide +kernel)) rfl, by decide +kernel, by decide⟩, kgt (List.mem_of_getElem? (i := 1224) (by decide +kernel)) rfl⟩
theorem jm_J5_191 : Cond.methodLink RJ5 191 yJ1_canEncode_fc78d ∈ kGT := kgt (List.mem_of_getElem? (i := 1223) (by decide +kernel)) rfl
theorem js_J5_append_3fe6f_J4_50 : kYSU RJ4 50 yJ5_append_3fe6f cJ5_append_3fe6f 2 (some (.object "java/lang/AbstractStringBuilder")) 1 := ⟨kgt (List.mem_of_getElem? (i := 1220) (by decide +kernel)) rfl, kgt (List.mem_of_getElem? (i := 1607) (by decide +kernel)) rfl, kgt (List.mem_of_getElem? (i := 1133) (by decide +kernel)) rfl, kgt (List.mem_of_getElem? (i := 1221) (by decide +kernel)) rfl, kgt (List.mem_of_getElem? (i := 48) (by decide +kernel)) rfl, kgt (List.mem_of_getElem? (i := 1222) (by decide +kernel)) rfl, by decide +kernel, by decide⟩
theorem jo_J5_3 : Cond.methodLink RJ5 3 objectInit ∈ kGT := kgt (List.mem_of_getElem? (i := 1111) (by decide +kernel)) rfl
theorem jac_byte : Cond.arrayClass .byte ∈ kGT := kgt (List.mem_of_getElem? (i := 524) (by decide +kernel)) rfl
theorem jy_J5_init_d00df : kYI yJ5_init_d00df cJ5_init_d00df 2 1 := ⟨⟨kgt (List.mem_of_getElem? (i := 1110) (by decide +kernel)) rfl, kgt (List.mem_of_getElem? (i := 48) (by decide +kernel)) rfl, by decide +kernel, by decide⟩, rfl, kgt (List.mem_of_getElem? (i := 1109) (by decide +kernel)) rfl⟩
theorem jm_J4_1 : Cond.methodLink RJ4 1 yJ5_init_d00df ∈ kGT := kgt (List.mem_of_getElem? (i := 1108) (by decide +kernel)) rfl
theorem jf_DigitOnes : Cond.fieldLink RJ6 83 "java/lang/Integer" "DigitOnes" "[B" ∈ kGT := kgt (List.mem_of_getElem? (i := 1181) (by decide +kernel)) rfl
theorem jf_DigitTens : Cond.fieldLink RJ6 87 "java/lang/Integer" "DigitTens" "[B" ∈ kGT := kgt (List.mem_of_getElem? (i := 1183) (by decide +kernel)) rfl
theorem jy_J6_stringSize_0f7a4 : kYS yJ6_stringSize_0f7a4 cJ6_stringSize_0f7a4 4 (some .int) 1 := ⟨⟨kgt (List.mem_of_getElem? (i := 1143) (by decide +kernel)) rfl, kgt (List.mem_of_getElem? (i := 45) (by decide +kernel)) rfl, by decide +kernel, by decide⟩, kgt (List.mem_of_getElem? (i := 1142) (by decide +kernel)) rfl⟩
theorem jm_J5_245 : Cond.methodLink RJ5 245 yJ6_stringSize_0f7a4 ∈ kGT := kgt (List.mem_of_getElem? (i := 1141) (by decide +kernel)) rfl
theorem jy_J6_getChars_ba4f3 : kYS yJ6_getChars_ba4f3 cJ6_getChars_ba4f3 7 (some .int) 3 := ⟨⟨kgt (List.mem_of_getElem? (i := 1180) (by decide +kernel)) rfl, kgt (List.mem_of_getElem? (i := 45) (by decide +kernel)) rfl, by decide +kernel, by decide⟩, kgt (List.mem_of_getElem? (i := 1179) (by decide +kernel)) rfl⟩
theorem jm_J5_248 : Cond.methodLink RJ5 248 yJ6_getChars_ba4f3 ∈ kGT := kgt (List.mem_of_getElem? (i := 1178) (by decide +kernel)) rfl
theorem js_J5_append_c97b9_J4_53 : kYSU RJ4 53 yJ5_append_c97b9 cJ5_append_c97b9 4 (some (.object "java/lang/AbstractStringBuilder")) 1 := ⟨kgt (List.mem_of_getElem? (i := 1138) (by decide +kernel)) rfl, kgt (List.mem_of_getElem? (i := 1604) (by decide +kernel)) rfl, kgt (List.mem_of_getElem? (i := 1133) (by decide +kernel)) rfl, kgt (List.mem_of_getElem? (i := 1139) (by decide +kernel)) rfl, kgt (List.mem_of_getElem? (i := 48) (by decide +kernel)) rfl, kgt (List.mem_of_getElem? (i := 1140) (by decide +kernel)) rfl, by decide +kernel, by decide⟩
theorem jm_J5_40 : Cond.methodLink RJ5 40 yJ0_coder_7d493 ∈ kGT := kgt (List.mem_of_getElem? (i := 1328) (by decide +kernel)) rfl
theorem jm_J0_copy : Cond.methodLink RJ0 212 ⟨"java/lang/System", "arraycopy", "(Ljava/lang/Object;ILjava/lang/Object;II)V"⟩ ∈ kGT := kgt (List.mem_of_getElem? (i := 1333) (by decide +kernel)) rfl
theorem ju_J5_397_J4 : kYU RJ5 397 yJ5_inflateIfNeededFor_a7421 yJ5_inflateIfNeededFor_a7421 cJ5_inflateIfNeededFor_a7421 2 none 1 := ⟨⟨kgt (List.mem_of_getElem? (i := 1324) (by decide +kernel)) rfl, kgt (List.mem_of_getElem? (i := 1612) (by decide +kernel)) rfl, ⟨cJ5_inflateIfNeededFor_a7421, 2, none, kgt (List.mem_of_getElem? (i := 1327) (by decide +kernel)) rfl⟩, kgt (List.mem_of_getElem? (i := 1326) (by decide +kernel)) rfl⟩, kgt (List.mem_of_getElem? (i := 1326) (by decide +kernel)) rfl, kgt (List.mem_of_getElem? (i := 48) (by decide +kernel)) rfl, kgt (List.mem_of_getElem? (i := 1327) (by decide +kernel)) rfl, by decide +kernel, by decide⟩
theorem jpv_J5_inflateIfNeededFor_a7421 : Cond.privateMethod yJ5_inflateIfNeededFor_a7421 ∈ mNW := by decide +kernel
theorem jim_J5_inflateIfNeededFor_a7421 : Cond.instanceMethod yJ5_inflateIfNeededFor_a7421 ∈ kGT := kgt (List.mem_of_getElem? (i := 1326) (by decide +kernel)) rfl
theorem jy_J0_getBytes_840e7 : kYV yJ0_getBytes_840e7 cJ0_getBytes_840e7 4 none 3 := ⟨⟨kgt (List.mem_of_getElem? (i := 1332) (by decide +kernel)) rfl, kgt (List.mem_of_getElem? (i := 40) (by decide +kernel)) rfl, by decide +kernel, by decide⟩, kgt (List.mem_of_getElem? (i := 1330) (by decide +kernel)) rfl, kgt (List.mem_of_getElem? (i := 1331) (by decide +kernel)) rfl⟩
theorem jm_J5_399 : Cond.methodLink RJ5 399 yJ0_getBytes_840e7 ∈ kGT := kgt (List.mem_of_getElem? (i := 1329) (by decide +kernel)) rfl
theorem jy_J0_length_8abf5 : kYV yJ0_length_8abf5 cJ0_length_8abf5 1 (some .int) 0 := ⟨⟨kgt (List.mem_of_getElem? (i := 1314) (by decide +kernel)) rfl, kgt (List.mem_of_getElem? (i := 40) (by decide +kernel)) rfl, by decide +kernel, by decide⟩, kgt (List.mem_of_getElem? (i := 1312) (by decide +kernel)) rfl, kgt (List.mem_of_getElem? (i := 1313) (by decide +kernel)) rfl⟩
theorem jm_J5_32 : Cond.methodLink RJ5 32 yJ0_length_8abf5 ∈ kGT := kgt (List.mem_of_getElem? (i := 1311) (by decide +kernel)) rfl
theorem ju_J5_208_J4 : kYU RJ5 208 yJ5_putStringAt_47b60 yJ5_putStringAt_47b60 cJ5_putStringAt_47b60 3 none 2 := ⟨⟨kgt (List.mem_of_getElem? (i := 1320) (by decide +kernel)) rfl, kgt (List.mem_of_getElem? (i := 1611) (by decide +kernel)) rfl, ⟨cJ5_putStringAt_47b60, 3, none, kgt (List.mem_of_getElem? (i := 1323) (by decide +kernel)) rfl⟩, kgt (List.mem_of_getElem? (i := 1322) (by decide +kernel)) rfl⟩, kgt (List.mem_of_getElem? (i := 1322) (by decide +kernel)) rfl, kgt (List.mem_of_getElem? (i := 48) (by decide +kernel)) rfl, kgt (List.mem_of_getElem? (i := 1323) (by decide +kernel)) rfl, by decide +kernel, by decide⟩
theorem jpv_J5_putStringAt_47b60 : Cond.privateMethod yJ5_putStringAt_47b60 ∈ mNW := by decide +kernel
theorem jim_J5_putStringAt_47b60 : Cond.instanceMethod yJ5_putStringAt_47b60 ∈ kGT := kgt (List.mem_of_getElem? (i := 1322) (by decide +kernel)) rfl
theorem js_J5_append_cf1ce_J4_29 : kYSU RJ4 29 yJ5_append_cf1ce cJ5_append_cf1ce 3 (some (.object "java/lang/AbstractStringBuilder")) 1 := ⟨kgt (List.mem_of_getElem? (i := 1301) (by decide +kernel)) rfl, kgt (List.mem_of_getElem? (i := 1609) (by decide +kernel)) rfl, kgt (List.mem_of_getElem? (i := 1133) (by decide +kernel)) rfl, kgt (List.mem_of_getElem? (i := 1302) (by decide +kernel)) rfl, kgt (List.mem_of_getElem? (i := 48) (by decide +kernel)) rfl, kgt (List.mem_of_getElem? (i := 1303) (by decide +kernel)) rfl, by decide +kernel, by decide⟩
theorem jy_J7_checkLength_df160 : kYS yJ7_checkLength_df160 cJ7_checkLength_df160 2 none 2 := ⟨⟨kgt (List.mem_of_getElem? (i := 1291) (by decide +kernel)) rfl, kgt (List.mem_of_getElem? (i := 52) (by decide +kernel)) rfl, by decide +kernel, by decide⟩, kgt (List.mem_of_getElem? (i := 1290) (by decide +kernel)) rfl⟩
theorem jm_J7_343 : Cond.methodLink RJ7 343 yJ7_checkLength_df160 ∈ kGT := kgt (List.mem_of_getElem? (i := 1289) (by decide +kernel)) rfl
theorem jm_J7_min : Cond.methodLink RJ7 304 Lib.Math.min.name ∈ kGT := kgt (List.mem_of_getElem? (i := 1171) (by decide +kernel)) rfl
theorem jm_J7_copy : Cond.methodLink RJ7 150 ⟨"java/lang/System", "arraycopy", "(Ljava/lang/Object;ILjava/lang/Object;II)V"⟩ ∈ kGT := kgt (List.mem_of_getElem? (i := 1172) (by decide +kernel)) rfl
theorem jy_J7_copyOfRangeByte_39247 : kYS yJ7_copyOfRangeByte_39247 cJ7_copyOfRangeByte_39247 5 (some (.array .byte)) 3 := ⟨⟨kgt (List.mem_of_getElem? (i := 1288) (by decide +kernel)) rfl, kgt (List.mem_of_getElem? (i := 52) (by decide +kernel)) rfl, by decide +kernel, by decide⟩, kgt (List.mem_of_getElem? (i := 1287) (by decide +kernel)) rfl⟩
theorem jm_J7_339 : Cond.methodLink RJ7 339 yJ7_copyOfRangeByte_39247 ∈ kGT := kgt (List.mem_of_getElem? (i := 1286) (by decide +kernel)) rfl
theorem jm_J7_clone : Cond.methodLink RJ7 310 ⟨"[B", "clone", "()Ljava/lang/Object;"⟩ ∈ kGT := kgt (List.mem_of_getElem? (i := 1164) (by decide +kernel)) rfl
theorem jc_same : Cond.sameMethod "[B" "java/lang/Object" "clone" "()Ljava/lang/Object;" ∈ kGT := kgt (List.mem_of_getElem? (i := 1165) (by decide +kernel)) rfl
theorem jc_nat : Cond.native ⟨"java/lang/Object", "clone", "()Ljava/lang/Object;"⟩ ∈ kGT := kgt (List.mem_of_getElem? (i := 1166) (by decide +kernel)) rfl
theorem jc_inst : Cond.instanceMethod ⟨"java/lang/Object", "clone", "()Ljava/lang/Object;"⟩ ∈ kGT := kgt (List.mem_of_getElem? (i := 1167) (by decide +kernel)) rfl
theorem jc_sel : Cond.selects "[B" ⟨"[B", "clone", "()Ljava/lang/Object;"⟩ ⟨"java/lang/Object", "clone", "()Ljava/lang/Object;"⟩ ∈ kGT := kgt (List.mem_of_getElem? (i := 1168) (by decide +kernel)) rfl
theorem jcl_J7_B : Cond.classLink RJ7 311 "[B" ∈ kGT := kgt (List.mem_of_getElem? (i := 1170) (by decide +kernel)) rfl
theorem js_J5_length_8abf5_J4_343 : kYSU RJ4 343 yJ5_length_8abf5 cJ5_length_8abf5 1 (some .int) 0 := ⟨kgt (List.mem_of_getElem? (i := 1280) (by decide +kernel)) rfl, kgt (List.mem_of_getElem? (i := 1276) (by decide +kernel)) rfl, kgt (List.mem_of_getElem? (i := 1133) (by decide +kernel)) rfl, kgt (List.mem_of_getElem? (i := 1275) (by decide +kernel)) rfl, kgt (List.mem_of_getElem? (i := 48) (by decide +kernel)) rfl, kgt (List.mem_of_getElem? (i := 1281) (by decide +kernel)) rfl, by decide +kernel, by decide⟩
theorem jo_J0_1 : Cond.methodLink RJ0 1 objectInit ∈ kGT := kgt (List.mem_of_getElem? (i := 1268) (by decide +kernel)) rfl
theorem ju_J0_552_J4 : kYU RJ0 552 yJ5_getValue_6d5f1 yJ5_getValue_6d5f1 cJ5_getValue_6d5f1 1 (some (.array .byte)) 0 := ⟨⟨kgt (List.mem_of_getElem? (i := 1269) (by decide +kernel)) rfl, kgt (List.mem_of_getElem? (i := 1271) (by decide +kernel)) rfl, ⟨cJ5_getValue_6d5f1, 1, (some (.array .byte)), kgt (List.mem_of_getElem? (i := 1273) (by decide +kernel)) rfl⟩, kgt (List.mem_of_getElem? (i := 1270) (by decide +kernel)) rfl⟩, kgt (List.mem_of_getElem? (i := 1270) (by decide +kernel)) rfl, kgt (List.mem_of_getElem? (i := 48) (by decide +kernel)) rfl, kgt (List.mem_of_getElem? (i := 1273) (by decide +kernel)) rfl, by decide +kernel, by decide⟩
theorem jsel_J0_552_J4 : Cond.selects RJ4 yJ5_getValue_6d5f1 yJ5_getValue_6d5f1 ∈ kGT := kgt (List.mem_of_getElem? (i := 1272) (by decide +kernel)) rfl
theorem ju_J0_549_J4 : kYU RJ0 549 yJ5_length_8abf5 yJ4_length_8abf5 cJ4_length_8abf5 1 (some .int) 0 := ⟨⟨kgt (List.mem_of_getElem? (i := 1274) (by decide +kernel)) rfl, kgt (List.mem_of_getElem? (i := 1276) (by decide +kernel)) rfl, ⟨cJ5_length_8abf5, 1, (some .int), kgt (List.mem_of_getElem? (i := 1281) (by decide +kernel)) rfl⟩, kgt (List.mem_of_getElem? (i := 1275) (by decide +kernel)) rfl⟩, kgt (List.mem_of_getElem? (i := 1278) (by decide +kernel)) rfl, kgt (List.mem_of_getElem? (i := 49) (by decide +kernel)) rfl, kgt (List.mem_of_getElem? (i := 1279) (by decide +kernel)) rfl, by decide +kernel, by decide⟩
theorem jsel_J0_549_J4 : Cond.selects RJ4 yJ5_length_8abf5 yJ4_length_8abf5 ∈ kGT := kgt (List.mem_of_getElem? (i := 1277) (by decide +kernel)) rfl
theorem ju_J0_1047_J4 : kYU RJ0 1047 yJ5_isLatin1_aae02 yJ5_isLatin1_aae02 cJ5_isLatin1_aae02 1 (some .boolean) 0 := ⟨⟨kgt (List.mem_of_getElem? (i := 1282) (by decide +kernel)) rfl, kgt (List.mem_of_getElem? (i := 1175) (by decide +kernel)) rfl, ⟨cJ5_isLatin1_aae02, 1, (some .boolean), kgt (List.mem_of_getElem? (i := 1177) (by decide +kernel)) rfl⟩, kgt (List.mem_of_getElem? (i := 1174) (by decide +kernel)) rfl⟩, kgt (List.mem_of_getElem? (i := 1174) (by decide +kernel)) rfl, kgt (List.mem_of_getElem? (i := 48) (by decide +kernel)) rfl, kgt (List.mem_of_getElem? (i := 1177) (by decide +kernel)) rfl, by decide +kernel, by decide⟩
theorem jsel_J0_1047_J4 : Cond.selects RJ4 yJ5_isLatin1_aae02 yJ5_isLatin1_aae02 ∈ kGT := kgt (List.mem_of_getElem? (i := 1176) (by decide +kernel)) rfl
theorem jy_J7_copyOfRange_39247 : kYS yJ7_copyOfRange_39247 cJ7_copyOfRange_39247 3 (some (.array .byte)) 3 := ⟨⟨kgt (List.mem_of_getElem? (i := 1285) (by decide +kernel)) rfl, kgt (List.mem_of_getElem? (i := 52) (by decide +kernel)) rfl, by decide +kernel, by decide⟩, kgt (List.mem_of_getElem? (i := 1284) (by decide +kernel)) rfl⟩
theorem jm_J0_54 : Cond.methodLink RJ0 54 yJ7_copyOfRange_39247 ∈ kGT := kgt (List.mem_of_getElem? (i := 1283) (by decide +kernel)) rfl
theorem jy_J0_init_db425 : kYI yJ0_init_db425 cJ0_init_db425 5 2 := ⟨⟨kgt (List.mem_of_getElem? (i := 1267) (by decide +kernel)) rfl, kgt (List.mem_of_getElem? (i := 40) (by decide +kernel)) rfl, by decide +kernel, by decide⟩, rfl, kgt (List.mem_of_getElem? (i := 1266) (by decide +kernel)) rfl⟩
theorem jm_J0_489 : Cond.methodLink RJ0 489 yJ0_init_db425 ∈ kGT := kgt (List.mem_of_getElem? (i := 1265) (by decide +kernel)) rfl
theorem jcl_J4_18 : Cond.classLink RJ4 18 RJ0 ∈ kGT := kgt (List.mem_of_getElem? (i := 1261) (by decide +kernel)) rfl
theorem jins_J0 : Cond.instantiable RJ0 4 ∈ kGT := kgt (List.mem_of_getElem? (i := 961) (by decide +kernel)) rfl
theorem jini_J0 : Cond.initialized RJ0 ∈ kGT := kgt (List.mem_of_getElem? (i := 40) (by decide +kernel)) rfl
theorem jy_J0_init_81219 : kYI yJ0_init_81219 cJ0_init_81219 2 1 := ⟨⟨kgt (List.mem_of_getElem? (i := 1264) (by decide +kernel)) rfl, kgt (List.mem_of_getElem? (i := 40) (by decide +kernel)) rfl, by decide +kernel, by decide⟩, rfl, kgt (List.mem_of_getElem? (i := 1263) (by decide +kernel)) rfl⟩
theorem jm_J4_137 : Cond.methodLink RJ4 137 yJ0_init_81219 ∈ kGT := kgt (List.mem_of_getElem? (i := 1262) (by decide +kernel)) rfl
theorem jy_Jxe99ae_isNaN_b9ae7 : kYS yJxe99ae_isNaN_b9ae7 cJxe99ae_isNaN_b9ae7 2 (some .boolean) 1 := ⟨⟨kgt (List.mem_of_getElem? (i := 1437) (by decide +kernel)) rfl, kgt (List.mem_of_getElem? (i := 55) (by decide +kernel)) rfl, by decide +kernel, by decide⟩, kgt (List.mem_of_getElem? (i := 1436) (by decide +kernel)) rfl⟩
theorem jm_Jxe99ae_122 : Cond.methodLink RJxe99ae 122 yJxe99ae_isNaN_b9ae7 ∈ kGT := kgt (List.mem_of_getElem? (i := 1435) (by decide +kernel)) rfl
theorem jm_draw : Cond.methodLink RJxe99ae 134 ⟨"java/lang/Double", "doubleToRawLongBits", "(D)J"⟩ ∈ kGT := kgt (List.mem_of_getElem? (i := 1438) (by decide +kernel)) rfl
theorem jw_draw : Cond.native ⟨"java/lang/Double", "doubleToRawLongBits", "(D)J"⟩ ∈ kGT ∧ Cond.static ⟨"java/lang/Double", "doubleToRawLongBits", "(D)J"⟩ ∈ kGT ∧ Cond.initialized "java/lang/Double" ∈ kGT := ⟨kgt (List.mem_of_getElem? (i := 1440) (by decide +kernel)) rfl, kgt (List.mem_of_getElem? (i := 1439) (by decide +kernel)) rfl, kgt (List.mem_of_getElem? (i := 55) (by decide +kernel)) rfl⟩
theorem jy_Jxf58ca_isNaN_12338 : kYS yJxf58ca_isNaN_12338 cJxf58ca_isNaN_12338 1 (some .boolean) 1 := ⟨⟨kgt (List.mem_of_getElem? (i := 1447) (by decide +kernel)) rfl, kgt (List.mem_of_getElem? (i := 56) (by decide +kernel)) rfl, by decide +kernel, by decide⟩, kgt (List.mem_of_getElem? (i := 1446) (by decide +kernel)) rfl⟩
theorem jm_Jxf58ca_59 : Cond.methodLink RJxf58ca 59 yJxf58ca_isNaN_12338 ∈ kGT := kgt (List.mem_of_getElem? (i := 1445) (by decide +kernel)) rfl
theorem jm_fraw : Cond.methodLink RJxf58ca 74 ⟨"java/lang/Float", "floatToRawIntBits", "(F)I"⟩ ∈ kGT := kgt (List.mem_of_getElem? (i := 1448) (by decide +kernel)) rfl
theorem jw_fraw : Cond.native ⟨"java/lang/Float", "floatToRawIntBits", "(F)I"⟩ ∈ kGT ∧ Cond.static ⟨"java/lang/Float", "floatToRawIntBits", "(F)I"⟩ ∈ kGT ∧ Cond.initialized "java/lang/Float" ∈ kGT := ⟨kgt (List.mem_of_getElem? (i := 1450) (by decide +kernel)) rfl, kgt (List.mem_of_getElem? (i := 1449) (by decide +kernel)) rfl, kgt (List.mem_of_getElem? (i := 56) (by decide +kernel)) rfl⟩
set_option maxRecDepth 20000 in
theorem kj_coder (l : Launch) (hst : l.stackTraces = false) (Z : mZ) (q v : Nat) (t : List Int32)  : mMet l Z yJ0_coder_7d493 (.code yJ0_coder_7d493 cJ0_coder_7d493 1 (some .byte)) 1 0 0 [.ref q] [] [(q, v, t)] (fun r wo => r = some (.int 0) ∧ wo = []) := by
  refine mMet_of (z := ()) (X := some ()) (own := RJ0) (lv := [(0, .ref q)]) hst (by decide +kernel) rfl (Nat.le_of_ble_eq_true rfl) rfl rfl ?_
  intro p e R s m args below meth c C hini
  have hA : ∀ q, s.heap.size ≤ q → wA [] s.heap.size q := fun q h => Or.inr h
  obtain ⟨h1, h2, h3, h4⟩ : kStr q v t _ s s.heap := C.2.2.1 _ List.mem_cons_self
  refine M_compact C jf_J0_38 dJ0_coder_7d493_0 ?_
  refine M_if_eqF C (tgt := 13) (by decide) (by decide) dJ0_coder_7d493_3 ?_
  refine M_aload_n C 0 rfl rfl dJ0_coder_7d493_6 ?_
  refine M_tget C h2 jf_J0_15 dJ0_coder_7d493_7 ?_
  refine M_goto C (tgt := 14) (by decide) dJ0_coder_7d493_10 ?_
  exact M_iret C (ty := .byte) rfl rfl ⟨by decide, by decide⟩ dJ0_coder_7d493_14 (fun _ => ⟨rfl, rfl⟩)
set_option maxRecDepth 20000 in
theorem kj_isL (l : Launch) (hst : l.stackTraces = false) (Z : mZ) (q v : Nat) (t : List Int32)  : mMet l Z yJ0_isLatin1_aae02 (.code yJ0_isLatin1_aae02 cJ0_isLatin1_aae02 1 (some .boolean)) 1 0 0 [.ref q] [] [(q, v, t)] (fun r wo => r = some (.int 1) ∧ wo = []) := by
  refine mMet_of (z := ()) (X := some ()) (own := RJ0) (lv := [(0, .ref q)]) hst (by decide +kernel) rfl (Nat.le_of_ble_eq_true rfl) rfl rfl ?_
  intro p e R s m args below meth c C hini
  have hA : ∀ q, s.heap.size ≤ q → wA [] s.heap.size q := fun q h => Or.inr h
  obtain ⟨h1, h2, h3, h4⟩ : kStr q v t _ s s.heap := C.2.2.1 _ List.mem_cons_self
  refine M_compact C jf_J0_38 dJ0_isLatin1_aae02_0 ?_
  refine M_if_eqF C (tgt := 17) (by decide) (by decide) dJ0_isLatin1_aae02_3 ?_
  refine M_aload_n C 0 rfl rfl dJ0_isLatin1_aae02_6 ?_
  refine M_tget C h2 jf_J0_15 dJ0_isLatin1_aae02_7 ?_
  refine M_if_neF C (tgt := 17) (by decide) (by decide) dJ0_isLatin1_aae02_10 ?_
  refine M_iconst C (v := 1) (by decide) dJ0_isLatin1_aae02_13 ?_
  refine M_goto C (tgt := 18) (by decide) dJ0_isLatin1_aae02_14 ?_
  exact M_iret C (ty := .boolean) rfl rfl ⟨by decide, by decide⟩ dJ0_isLatin1_aae02_18 (fun _ => ⟨rfl, rfl⟩)
set_option maxRecDepth 20000 in
theorem kj_length (l : Launch) (hst : l.stackTraces = false) (Z : mZ) (q v : Nat) (t : List Int32)  : mMet l Z yJ0_length_8abf5 (.code yJ0_length_8abf5 cJ0_length_8abf5 1 (some .int)) 2 0 0 [.ref q] [] [(q, v, t)] (fun r wo => r = some (.int (nI t.length)) ∧ wo = []) := by
  refine mMet_of (z := ()) (X := some ()) (own := RJ0) (lv := [(0, .ref q)]) hst (by decide +kernel) rfl (Nat.le_of_ble_eq_true rfl) rfl rfl ?_
  intro p e R s m args below meth c C hini
  have hA : ∀ q, s.heap.size ≤ q → wA [] s.heap.size q := fun q h => Or.inr h
  obtain ⟨h1, h2, h3, h4⟩ : kStr q v t _ s s.heap := C.2.2.1 _ List.mem_cons_self
  refine M_aload_n C 0 rfl rfl dJ0_length_8abf5_0 ?_
  refine M_tget C h3 jf_J0_9 dJ0_length_8abf5_1 ?_
  refine M_tlen C h4 (v := nI t.length) rfl dJ0_length_8abf5_4 ?_
  refine M_aload_n C 0 rfl rfl dJ0_length_8abf5_5 ?_
  refine M_callV C hA (wi1 := []) (wr := []) (As := []) (rest := [.int (nI t.length)]) (kj_coder l hst Z q v t) jy_J0_coder_7d493 jm_J0_335 (mRecv_str (C.2.2.1 _ List.mem_cons_self)) (mSS_old (fun x hx => C.2.2.1 x hx)) (List.Perm.of_eq rfl) (by decide) ⟨by decide, by decide⟩ rfl rfl (Nat.le_of_ble_eq_true rfl) dJ0_length_8abf5_6 (fun v wo hq => ?_)
  obtain ⟨rfl, rfl⟩ := hq
  refine M_ws (ws1 := []) rfl ?_
  refine M_st (st1 := [.int 0, .int (nI t.length)]) rfl ?_
  refine M_ishr C dJ0_length_8abf5_9 ?_
  refine M_top (y := (nI t.length)) (sb_shr0 _) ?_
  exact M_iret C (ty := .int) rfl rfl ⟨by decide, by decide⟩ dJ0_length_8abf5_10 (fun _ => ⟨rfl, rfl⟩)
set_option maxRecDepth 20000 in
theorem kj_pre0 (l : Launch) (hst : l.stackTraces = false) (Z : mZ)  (i n : Nat) (hi : i < n) (hn : n < 1000) : mMet l Z yJ3_checkIndex_8e157 (.code yJ3_checkIndex_8e157 cJ3_checkIndex_8e157 3 (some .int)) 1 0 0 [.int (nI i), .int (nI n), (.null)] [] [] (fun r wo => r = some (.int (nI i)) ∧ wo = []) := by
  refine mMet_of (z := ()) (X := some ()) (own := RJ3) (lv := [(0, .int (nI i)), (1, .int (nI n)), (2, (.null))]) hst (by decide +kernel) rfl (Nat.le_of_ble_eq_true rfl) rfl rfl ?_
  intro p e R s m args below meth c C hini
  have hA : ∀ q, s.heap.size ≤ q → wA [] s.heap.size q := fun q h => Or.inr h
  refine M_iload_n C 0 rfl rfl dJ3_checkIndex_8e157_0 ?_
  refine M_if_ltF C (tgt := 9) (nI_npos (by omega)) (by decide) dJ3_checkIndex_8e157_1 ?_
  refine M_iload_n C 0 rfl rfl dJ3_checkIndex_8e157_4 ?_
  refine M_iload_n C 1 rfl rfl dJ3_checkIndex_8e157_5 ?_
  refine M_icmp_ltT C (tgt := 16) ((nI_lt_iff (by omega) (by omega)).mpr hi) (by decide) dJ3_checkIndex_8e157_6 ?_
  refine M_iload_n C 0 rfl rfl dJ3_checkIndex_8e157_16 ?_
  exact M_iret C (ty := .int) rfl rfl ⟨by decide, by decide⟩ dJ3_checkIndex_8e157_17 (fun _ => ⟨rfl, rfl⟩)
set_option maxRecDepth 20000 in
theorem kj_pre1 (l : Launch) (hst : l.stackTraces = false) (Z : mZ) (t0 : Nat) (i n : Nat) (hi : i < n) (hn : n < 1000) : mMet l Z yJ3_checkIndex_8e157 (.code yJ3_checkIndex_8e157 cJ3_checkIndex_8e157 3 (some .int)) 1 0 0 [.int (nI i), .int (nI n), (.ref t0)] [] [] (fun r wo => r = some (.int (nI i)) ∧ wo = []) := by
  refine mMet_of (z := ()) (X := some ()) (own := RJ3) (lv := [(0, .int (nI i)), (1, .int (nI n)), (2, (.ref t0))]) hst (by decide +kernel) rfl (Nat.le_of_ble_eq_true rfl) rfl rfl ?_
  intro p e R s m args below meth c C hini
  have hA : ∀ q, s.heap.size ≤ q → wA [] s.heap.size q := fun q h => Or.inr h
  refine M_iload_n C 0 rfl rfl dJ3_checkIndex_8e157_0 ?_
  refine M_if_ltF C (tgt := 9) (nI_npos (by omega)) (by decide) dJ3_checkIndex_8e157_1 ?_
  refine M_iload_n C 0 rfl rfl dJ3_checkIndex_8e157_4 ?_
  refine M_iload_n C 1 rfl rfl dJ3_checkIndex_8e157_5 ?_
  refine M_icmp_ltT C (tgt := 16) ((nI_lt_iff (by omega) (by omega)).mpr hi) (by decide) dJ3_checkIndex_8e157_6 ?_
  refine M_iload_n C 0 rfl rfl dJ3_checkIndex_8e157_16 ?_
  exact M_iret C (ty := .int) rfl rfl ⟨by decide, by decide⟩ dJ3_checkIndex_8e157_17 (fun _ => ⟨rfl, rfl⟩)
set_option maxRecDepth 20000 in
theorem kj_chk (l : Launch) (hst : l.stackTraces = false) (Z : mZ) (i n : Nat) (hi : i < n) (hn : n < 1000) : mMet l Z yJ0_checkIndex_df160 (.code yJ0_checkIndex_df160 cJ0_checkIndex_df160 2 none) 2 0 0 [.int (nI i), .int (nI n)] [] [] (fun r wo => r = none ∧ wo = []) := by
  refine mMet_of (z := ()) (X := some ()) (own := RJ0) (lv := [(0, .int (nI i)), (1, .int (nI n))]) hst (by decide +kernel) rfl (Nat.le_of_ble_eq_true rfl) rfl rfl ?_
  intro p e R s m args below meth c C hini
  have hA : ∀ q, s.heap.size ≤ q → wA [] s.heap.size q := fun q h => Or.inr h
  refine M_iload_n C 0 rfl rfl dJ0_checkIndex_df160_0 ?_
  refine M_iload_n C 1 rfl rfl dJ0_checkIndex_df160_1 ?_
  refine M_gtq C jf_sioobe dJ0_checkIndex_df160_2 (fun vx hvx => ?_)
  rcases hvx with rfl | ⟨tx, rfl⟩
  · refine M_callS C hA (wi1 := []) (wr := []) (As := [.int (nI i), .int (nI n), .null]) (rest := []) (kj_pre0 l hst Z i n hi hn) jy_J3_checkIndex_8e157 jm_J0_1059 mSS_nil (List.Perm.of_eq rfl) (by decide) ⟨by decide, by decide⟩ rfl rfl (Nat.le_of_ble_eq_true rfl) dJ0_checkIndex_df160_5 (fun v wo hq => ?_)
    obtain ⟨rfl, rfl⟩ := hq
    refine M_ws (ws1 := []) rfl ?_
    refine M_st (st1 := [.int (nI i)]) rfl ?_
    refine M_pop C rfl dJ0_checkIndex_df160_8 ?_
    exact M_vret C rfl ⟨by decide, by decide⟩ dJ0_checkIndex_df160_9 (fun _ => ⟨rfl, rfl⟩)
  · refine M_callS C hA (wi1 := []) (wr := []) (As := [.int (nI i), .int (nI n), (.ref tx)]) (rest := []) (kj_pre1 l hst Z tx i n hi hn) jy_J3_checkIndex_8e157 jm_J0_1059 mSS_nil (List.Perm.of_eq rfl) (by decide) ⟨by decide, by decide⟩ rfl rfl (Nat.le_of_ble_eq_true rfl) dJ0_checkIndex_df160_5 (fun v wo hq => ?_)
    obtain ⟨rfl, rfl⟩ := hq
    refine M_ws (ws1 := []) rfl ?_
    refine M_st (st1 := [.int (nI i)]) rfl ?_
    refine M_pop C rfl dJ0_checkIndex_df160_8 ?_
    exact M_vret C rfl ⟨by decide, by decide⟩ dJ0_checkIndex_df160_9 (fun _ => ⟨rfl, rfl⟩)
set_option maxRecDepth 20000 in
theorem kj_charAt1 (l : Launch) (hst : l.stackTraces = false) (Z : mZ) (q v : Nat) (t : List Int32) (i : Nat) (hi : i < t.length) (hn : t.length < 1000) (ht : ∀ j, j < t.length → ∃ c, c < 128 ∧ t.getD j 0 = nI c) : mMet l Z yJ1_charAt_3b067 (.code yJ1_charAt_3b067 cJ1_charAt_3b067 2 (some .char)) 3 0 0 [.ref v, .int (nI i)] [] [(q, v, t)] (fun r wo => r = some (.int (t.getD i 0)) ∧ wo = []) := by
  refine mMet_of (z := ()) (X := some ()) (own := RJ1) (lv := [(0, .ref v), (1, .int (nI i))]) hst (by decide +kernel) rfl (Nat.le_of_ble_eq_true rfl) rfl rfl ?_
  intro p e R s m args below meth c C hini
  have hA : ∀ q, s.heap.size ≤ q → wA [] s.heap.size q := fun q h => Or.inr h
  obtain ⟨h1, h2, h3, h4⟩ : kStr q v t _ s s.heap := C.2.2.1 _ List.mem_cons_self
  obtain ⟨cx, hc1, hc2⟩ := ht i hi
  refine M_iload_n C 1 rfl rfl dJ1_charAt_3b067_0 ?_
  refine M_aload_n C 0 rfl rfl dJ1_charAt_3b067_1 ?_
  refine M_tlen C h4 (v := nI t.length) rfl dJ1_charAt_3b067_2 ?_
  refine M_callS C hA (wi1 := []) (wr := []) (As := [.int (nI i), .int (nI t.length)]) (rest := []) (kj_chk l hst Z i t.length hi hn) jy_J0_checkIndex_df160 jm_J1_9 mSS_nil (List.Perm.of_eq rfl) (by decide) ⟨by decide, by decide⟩ rfl rfl (Nat.le_of_ble_eq_true rfl) dJ1_charAt_3b067_3 (fun v wo hq => ?_)
  obtain ⟨rfl, rfl⟩ := hq
  refine M_ws (ws1 := []) rfl ?_
  refine M_st (st1 := []) rfl ?_
  refine M_aload_n C 0 rfl rfl dJ1_charAt_3b067_6 ?_
  refine M_iload_n C 1 rfl rfl dJ1_charAt_3b067_7 ?_
  refine M_tld C h4 (i := nI i) (v := .int (nI cx)) (vp_in_nI hi (by omega)) (by rw [nI_clamp (by omega)]; exact congrArg Value.int hc2) dJ1_charAt_3b067_8 ?_
  refine M_sipush C (v := 255) (by decide) dJ1_charAt_3b067_9 ?_
  refine M_iand C dJ1_charAt_3b067_12 ?_
  refine M_i2c C dJ1_charAt_3b067_13 ?_
  refine M_top (y := (nI cx)) (let8 cx hc1) ?_
  exact M_iret C (ty := .char) (letC cx hc1) rfl ⟨by decide, by decide⟩ dJ1_charAt_3b067_14 (fun _ => ⟨by rw [hc2], rfl⟩)
set_option maxRecDepth 20000 in
theorem kj_charAt (l : Launch) (hst : l.stackTraces = false) (Z : mZ) (q v : Nat) (t : List Int32) (i : Nat) (hi : i < t.length) (hn : t.length < 1000) (ht : ∀ j, j < t.length → ∃ c, c < 128 ∧ t.getD j 0 = nI c) : mMet l Z yJ0_charAt_5068e (.code yJ0_charAt_5068e cJ0_charAt_5068e 2 (some .char)) 4 0 0 [.ref q, .int (nI i)] [] [(q, v, t)] (fun r wo => r = some (.int (t.getD i 0)) ∧ wo = []) := by
  refine mMet_of (z := ()) (X := some ()) (own := RJ0) (lv := [(0, .ref q), (1, .int (nI i))]) hst (by decide +kernel) rfl (Nat.le_of_ble_eq_true rfl) rfl rfl ?_
  intro p e R s m args below meth c C hini
  have hA : ∀ q, s.heap.size ≤ q → wA [] s.heap.size q := fun q h => Or.inr h
  obtain ⟨h1, h2, h3, h4⟩ : kStr q v t _ s s.heap := C.2.2.1 _ List.mem_cons_self
  obtain ⟨cx, hc1, hc2⟩ := ht i hi
  refine M_aload_n C 0 rfl rfl dJ0_charAt_5068e_0 ?_
  refine M_callV C hA (wi1 := []) (wr := []) (As := []) (rest := []) (kj_isL l hst Z q v t) jy_J0_isLatin1_aae02 jm_J0_492 (mRecv_str (C.2.2.1 _ List.mem_cons_self)) (mSS_old (fun x hx => C.2.2.1 x hx)) (List.Perm.of_eq rfl) (by decide) ⟨by decide, by decide⟩ rfl rfl (Nat.le_of_ble_eq_true rfl) dJ0_charAt_5068e_1 (fun v wo hq => ?_)
  obtain ⟨rfl, rfl⟩ := hq
  refine M_ws (ws1 := []) rfl ?_
  refine M_st (st1 := [.int 1]) rfl ?_
  refine M_if_eqF C (tgt := 16) (by decide) (by decide) dJ0_charAt_5068e_4 ?_
  refine M_aload_n C 0 rfl rfl dJ0_charAt_5068e_7 ?_
  refine M_tget C h3 jf_J0_9 dJ0_charAt_5068e_8 ?_
  refine M_iload_n C 1 rfl rfl dJ0_charAt_5068e_11 ?_
  refine M_callS C hA (wi1 := []) (wr := []) (As := [.ref v, .int (nI i)]) (rest := []) (kj_charAt1 l hst Z q v t i hi hn ht) jy_J1_charAt_3b067 jm_J0_495 (mSS_old (fun x hx => C.2.2.1 x hx)) (List.Perm.of_eq rfl) (by decide) ⟨by decide, by decide⟩ rfl rfl (Nat.le_of_ble_eq_true rfl) dJ0_charAt_5068e_12 (fun v wo hq => ?_)
  obtain ⟨rfl, rfl⟩ := hq
  refine M_ws (ws1 := []) rfl ?_
  refine M_st (st1 := [.int (t.getD i 0)]) rfl ?_
  exact M_iret C (ty := .char) (by rw [hc2]; exact letC cx hc1) rfl ⟨by decide, by decide⟩ dJ0_charAt_5068e_15 (fun _ => ⟨rfl, rfl⟩)
set_option maxRecDepth 20000 in
theorem kj_bL (l : Launch) (hst : l.stackTraces = false) (Z : mZ) (q1 q2 : Nat) (n : Int32) (g : Nat → Int32)  : mMet l Z yJ5_isLatin1_aae02 (.code yJ5_isLatin1_aae02 cJ5_isLatin1_aae02 1 (some .boolean)) 1 0 0 [.ref q1] [(q1, .inr (1, [.ref q2, .int 0, .int 0, .int n])), (q2, eY Z 16 g)] [] (fun r wo => r = some (.int 1) ∧ wo = [(q1, .inr (1, [.ref q2, .int 0, .int 0, .int n])), (q2, eY Z 16 g)]) := by
  refine mMet_of (z := ()) (X := some ()) (own := RJ5) (lv := [(0, .ref q1)]) hst (by decide +kernel) rfl (Nat.le_of_ble_eq_true rfl) rfl rfl ?_
  intro p e R s m args below meth c C hini
  have hA : ∀ q, s.heap.size ≤ q → wA [(q1, .inr (1, [.ref q2, .int 0, .int 0, .int n])), (q2, eY Z 16 g)] s.heap.size q := fun q h => Or.inr h
  refine M_compact C jf_J5_18 dJ5_isLatin1_aae02_0 ?_
  refine M_if_eqF C (tgt := 17) (by decide) (by decide) dJ5_isLatin1_aae02_3 ?_
  refine M_aload_n C 0 rfl rfl dJ5_isLatin1_aae02_6 ?_
  refine M_get C kin_J4 (ci := 1) rfl 0 rfl 1 (by decide) jf_J5_22 rfl (v := .int 0) rfl dJ5_isLatin1_aae02_7 ?_
  refine M_if_neF C (tgt := 17) (by decide) (by decide) dJ5_isLatin1_aae02_10 ?_
  refine M_iconst C (v := 1) (by decide) dJ5_isLatin1_aae02_13 ?_
  refine M_goto C (tgt := 18) (by decide) dJ5_isLatin1_aae02_14 ?_
  exact M_iret C (ty := .boolean) rfl rfl ⟨by decide, by decide⟩ dJ5_isLatin1_aae02_18 (fun _ => ⟨rfl, rfl⟩)
set_option maxRecDepth 20000 in
theorem kj_blen (l : Launch) (hst : l.stackTraces = false) (Z : mZ) (q1 q2 : Nat) (n : Int32) (g : Nat → Int32)  : mMet l Z yJ5_length_8abf5 (.code yJ5_length_8abf5 cJ5_length_8abf5 1 (some .int)) 1 0 0 [.ref q1] [(q1, .inr (1, [.ref q2, .int 0, .int 0, .int n])), (q2, eY Z 16 g)] [] (fun r wo => r = some (.int n) ∧ wo = [(q1, .inr (1, [.ref q2, .int 0, .int 0, .int n])), (q2, eY Z 16 g)]) := by
  refine mMet_of (z := ()) (X := some ()) (own := RJ5) (lv := [(0, .ref q1)]) hst (by decide +kernel) rfl (Nat.le_of_ble_eq_true rfl) rfl rfl ?_
  intro p e R s m args below meth c C hini
  have hA : ∀ q, s.heap.size ≤ q → wA [(q1, .inr (1, [.ref q2, .int 0, .int 0, .int n])), (q2, eY Z 16 g)] s.heap.size q := fun q h => Or.inr h
  refine M_aload_n C 0 rfl rfl dJ5_length_8abf5_0 ?_
  refine M_get C kin_J4 (ci := 1) rfl 0 rfl 3 (by decide) jf_J5_79 rfl (v := .int n) rfl dJ5_length_8abf5_1 ?_
  exact M_iret C (ty := .int) rfl rfl ⟨by decide, by decide⟩ dJ5_length_8abf5_4 (fun _ => ⟨rfl, rfl⟩)
set_option maxRecDepth 20000 in
theorem kj_bval (l : Launch) (hst : l.stackTraces = false) (Z : mZ) (q1 q2 : Nat) (n : Int32) (g : Nat → Int32)  : mMet l Z yJ5_getValue_6d5f1 (.code yJ5_getValue_6d5f1 cJ5_getValue_6d5f1 1 (some (.array .byte))) 1 0 0 [.ref q1] [(q1, .inr (1, [.ref q2, .int 0, .int 0, .int n])), (q2, eY Z 16 g)] [] (fun r wo => r = some (.ref q2) ∧ wo = [(q1, .inr (1, [.ref q2, .int 0, .int 0, .int n])), (q2, eY Z 16 g)]) := by
  refine mMet_of (z := ()) (X := some ()) (own := RJ5) (lv := [(0, .ref q1)]) hst (by decide +kernel) rfl (Nat.le_of_ble_eq_true rfl) rfl rfl ?_
  intro p e R s m args below meth c C hini
  have hA : ∀ q, s.heap.size ≤ q → wA [(q1, .inr (1, [.ref q2, .int 0, .int 0, .int n])), (q2, eY Z 16 g)] s.heap.size q := fun q h => Or.inr h
  refine M_aload_n C 0 rfl rfl dJ5_getValue_6d5f1_0 ?_
  refine M_get C kin_J4 (ci := 1) rfl 0 rfl 0 (by decide) jf_J5_15 rfl (v := .ref q2) rfl dJ5_getValue_6d5f1_1 ?_
  exact M_aret C (Or.inr ⟨_, rfl⟩) rfl ⟨by decide, by decide⟩ dJ5_getValue_6d5f1_4 (fun _ => ⟨rfl, rfl⟩)
set_option maxRecDepth 20000 in
theorem kj_cap (l : Launch) (hst : l.stackTraces = false) (Z : mZ) (q1 q2 : Nat) (n : Int32) (g : Nat → Int32) (k : Nat) (hk : k ≤ 16) : mMet l Z yJ5_ensureCapacityInternal_d00df (.code yJ5_ensureCapacityInternal_d00df cJ5_ensureCapacityInternal_d00df 3 none) 1 0 0 [.ref q1, .int (nI k)] [(q1, .inr (1, [.ref q2, .int 0, .int 0, .int n])), (q2, eY Z 16 g)] [] (fun r wo => r = none ∧ wo = [(q1, .inr (1, [.ref q2, .int 0, .int 0, .int n])), (q2, eY Z 16 g)]) := by
  refine mMet_of (z := ()) (X := some ()) (own := RJ5) (lv := [(0, .ref q1), (1, .int (nI k))]) hst (by decide +kernel) rfl (Nat.le_of_ble_eq_true rfl) rfl rfl ?_
  intro p e R s m args below meth c C hini
  have hA : ∀ q, s.heap.size ≤ q → wA [(q1, .inr (1, [.ref q2, .int 0, .int 0, .int n])), (q2, eY Z 16 g)] s.heap.size q := fun q h => Or.inr h
  refine M_aload_n C 0 rfl rfl dJ5_ensureCapacityInternal_d00df_0 ?_
  refine M_get C kin_J4 (ci := 1) rfl 0 rfl 0 (by decide) jf_J5_15 rfl (v := .ref q2) rfl dJ5_ensureCapacityInternal_d00df_1 ?_
  refine M_blen C 1 rfl (v := 16) rfl dJ5_ensureCapacityInternal_d00df_4 ?_
  refine M_aload_n C 0 rfl rfl dJ5_ensureCapacityInternal_d00df_5 ?_
  refine M_get C kin_J4 (ci := 1) rfl 0 rfl 1 (by decide) jf_J5_22 rfl (v := .int 0) rfl dJ5_ensureCapacityInternal_d00df_6 ?_
  refine M_ishr C dJ5_ensureCapacityInternal_d00df_9 ?_
  refine M_istore_n C rfl (by decide) (lv1 := [(2, .int ((16 : Int32) >>> ((0 : Int32) &&& 31))), (0, .ref q1), (1, .int (nI k))]) rfl dJ5_ensureCapacityInternal_d00df_10 ?_
  refine M_iload_n C 2 rfl rfl dJ5_ensureCapacityInternal_d00df_11 ?_
  refine M_iload_n C 0 rfl rfl dJ5_ensureCapacityInternal_d00df_12 ?_
  refine M_isub C dJ5_ensureCapacityInternal_d00df_13 ?_
  refine M_if_leT C (tgt := 38) (cap16 k hk) (by decide) dJ5_ensureCapacityInternal_d00df_14 ?_
  exact M_vret C rfl ⟨by decide, by decide⟩ dJ5_ensureCapacityInternal_d00df_38 (fun _ => ⟨rfl, rfl⟩)
set_option maxRecDepth 20000 in
theorem kj_can (l : Launch) (hst : l.stackTraces = false) (Z : mZ) (cx : Nat) (hc : cx < 128) : mMet l Z yJ1_canEncode_fc78d (.code yJ1_canEncode_fc78d cJ1_canEncode_fc78d 1 (some .boolean)) 1 0 0 [.int (nI cx)] [] [] (fun r wo => r = some (.int 1) ∧ wo = []) := by
  refine mMet_of (z := ()) (X := some ()) (own := RJ1) (lv := [(0, .int (nI cx))]) hst (by decide +kernel) rfl (Nat.le_of_ble_eq_true rfl) rfl rfl ?_
  intro p e R s m args below meth c C hini
  have hA : ∀ q, s.heap.size ≤ q → wA [] s.heap.size q := fun q h => Or.inr h
  refine M_iload_n C 0 rfl rfl dJ1_canEncode_fc78d_0 ?_
  refine M_sipush C (v := 255) (by decide) dJ1_canEncode_fc78d_1 ?_
  refine M_icmp_gtF C (tgt := 11) (letN cx hc) (by decide) dJ1_canEncode_fc78d_4 ?_
  refine M_iconst C (v := 1) (by decide) dJ1_canEncode_fc78d_7 ?_
  refine M_goto C (tgt := 12) (by decide) dJ1_canEncode_fc78d_8 ?_
  exact M_iret C (ty := .boolean) rfl rfl ⟨by decide, by decide⟩ dJ1_canEncode_fc78d_12 (fun _ => ⟨rfl, rfl⟩)
set_option maxRecDepth 20000 in
theorem kj_appC5 (l : Launch) (hst : l.stackTraces = false) (Z : mZ) (q1 q2 : Nat) (n : Nat) (g : Nat → Int32) (cx : Nat) (hn : n < 16) (hc : cx < 128) : mMet l Z yJ5_append_3fe6f (.code yJ5_append_3fe6f cJ5_append_3fe6f 2 (some (.object "java/lang/AbstractStringBuilder"))) 2 0 0 [.ref q1, .int (nI cx)] [(q1, .inr (1, [.ref q2, .int 0, .int 0, .int (nI n)])), (q2, eY Z 16 g)] [] (fun r wo => r = some (.ref q1) ∧ wo = [(q1, .inr (1, [.ref q2, .int 0, .int 0, .int (nI (n + 1))])), (q2, eY Z 16 (upd g n (vp_nar .byte (nI cx))))]) := by
  refine mMet_of (z := ()) (X := some ()) (own := RJ5) (lv := [(0, .ref q1), (1, .int (nI cx))]) hst (by decide +kernel) rfl (Nat.le_of_ble_eq_true rfl) rfl rfl ?_
  intro p e R s m args below meth c C hini
  have hA : ∀ q, s.heap.size ≤ q → wA [(q1, .inr (1, [.ref q2, .int 0, .int 0, .int (nI n)])), (q2, eY Z 16 g)] s.heap.size q := fun q h => Or.inr h
  refine M_aload_n C 0 rfl rfl dJ5_append_3fe6f_0 ?_
  refine M_aload_n C 0 rfl rfl dJ5_append_3fe6f_1 ?_
  refine M_get C kin_J4 (ci := 1) rfl 0 rfl 3 (by decide) jf_J5_79 rfl (v := .int (nI n)) rfl dJ5_append_3fe6f_2 ?_
  refine M_iconst C (v := 1) (by decide) dJ5_append_3fe6f_5 ?_
  refine M_iadd C dJ5_append_3fe6f_6 ?_
  refine M_top (y := (nI (n + 1))) (nI_1 n) ?_
  refine M_callU C hA (wi1 := [(q1, .inr (1, [.ref q2, .int 0, .int 0, .int (nI n)])), (q2, eY Z 16 g)]) (wr := []) (As := [.int (nI (n + 1))]) (rest := []) (kj_cap l hst Z q1 q2 (nI n) g (n + 1) (by omega)) ju_J5_100_J4 (kselP (by decide +kernel) (C.1.2.2.2.2 _ jins_J4) (C.1.2.2.2.2 _ jsl_J4) rfl (va_Nw.use rfl (C.2.1.2.2.2.2.2.1.2.2 _ jpv_J5_ensureCapacityInternal_d00df)) (C.1.2.2.2.2 _ jim_J5_ensureCapacityInternal_d00df)) (mRecv_cell C 0 rfl (ci := 1) rfl) mSS_nil (List.Perm.of_eq rfl) (by decide) ⟨by decide, by decide⟩ rfl rfl (Nat.le_of_ble_eq_true rfl) dJ5_append_3fe6f_7 (fun v wo hq => ?_)
  obtain ⟨rfl, rfl⟩ := hq
  refine M_ws (ws1 := [(q1, .inr (1, [.ref q2, .int 0, .int 0, .int (nI n)])), (q2, eY Z 16 g)]) rfl ?_
  refine M_st (st1 := []) rfl ?_
  refine M_aload_n C 0 rfl rfl dJ5_append_3fe6f_10 ?_
  refine M_callU C hA (wi1 := [(q1, .inr (1, [.ref q2, .int 0, .int 0, .int (nI n)])), (q2, eY Z 16 g)]) (wr := []) (As := []) (rest := []) (kj_bL l hst Z q1 q2 (nI n) g) ju_J5_83_J4 (C.1.2.2.2.2 _ jsel_J5_83_J4) (mRecv_cell C 0 rfl (ci := 1) rfl) mSS_nil (List.Perm.of_eq rfl) (by decide) ⟨by decide, by decide⟩ rfl rfl (Nat.le_of_ble_eq_true rfl) dJ5_append_3fe6f_11 (fun v wo hq => ?_)
  obtain ⟨rfl, rfl⟩ := hq
  refine M_ws (ws1 := [(q1, .inr (1, [.ref q2, .int 0, .int 0, .int (nI n)])), (q2, eY Z 16 g)]) rfl ?_
  refine M_st (st1 := [.int 1]) rfl ?_
  refine M_if_eqF C (tgt := 45) (by decide) (by decide) dJ5_append_3fe6f_14 ?_
  refine M_iload_n C 1 rfl rfl dJ5_append_3fe6f_17 ?_
  refine M_callS C hA (wi1 := []) (wr := [(q1, .inr (1, [.ref q2, .int 0, .int 0, .int (nI n)])), (q2, eY Z 16 g)]) (As := [.int (nI cx)]) (rest := []) (kj_can l hst Z cx hc) jy_J1_canEncode_fc78d jm_J5_191 mSS_nil (List.Perm.refl _) (by decide) ⟨by decide, by decide⟩ rfl rfl (Nat.le_of_ble_eq_true rfl) dJ5_append_3fe6f_18 (fun v wo hq => ?_)
  obtain ⟨rfl, rfl⟩ := hq
  refine M_ws (ws1 := [(q1, .inr (1, [.ref q2, .int 0, .int 0, .int (nI n)])), (q2, eY Z 16 g)]) rfl ?_
  refine M_st (st1 := [.int 1]) rfl ?_
  refine M_if_eqF C (tgt := 45) (by decide) (by decide) dJ5_append_3fe6f_21 ?_
  refine M_aload_n C 0 rfl rfl dJ5_append_3fe6f_24 ?_
  refine M_get C kin_J4 (ci := 1) rfl 0 rfl 0 (by decide) jf_J5_15 rfl (v := .ref q2) rfl dJ5_append_3fe6f_25 ?_
  refine M_aload_n C 0 rfl rfl dJ5_append_3fe6f_28 ?_
  refine M_dup C rfl dJ5_append_3fe6f_29 ?_
  refine M_get C kin_J4 (ci := 1) rfl 0 rfl 3 (by decide) jf_J5_79 rfl (v := .int (nI n)) rfl dJ5_append_3fe6f_30 ?_
  refine M_dup_x1 C rfl rfl dJ5_append_3fe6f_33 ?_
  refine M_iconst C (v := 1) (by decide) dJ5_append_3fe6f_34 ?_
  refine M_iadd C dJ5_append_3fe6f_35 ?_
  refine M_top (y := (nI (n + 1))) (nI_1 n) ?_
  refine M_put C kin_J4 (ci := 1) rfl 0 rfl 3 (by decide) jf_J5_79 rfl tyJ4 tyJ4_ok nmJ4 rfl (ty := tyJ4 3) (v := .int (nI (n + 1))) rfl rfl rfl (Nat.le_of_ble_eq_true rfl) (ws1 := [(q1, .inr (1, [.ref q2, .int 0, .int 0, .int (nI (n + 1))])), (q2, eY Z 16 g)]) rfl dJ5_append_3fe6f_36 ?_
  refine M_iload_n C 1 rfl rfl dJ5_append_3fe6f_39 ?_
  refine M_i2b C (v := nI cx) (letB cx hc) dJ5_append_3fe6f_40 ?_
  refine M_bast C 1 rfl (vp_in_nI hn (by omega)) (nI_clamp (by omega)) (ws1 := [(q1, .inr (1, [.ref q2, .int 0, .int 0, .int (nI (n + 1))])), (q2, eY Z 16 (upd g n (vp_nar .byte (nI cx))))]) rfl dJ5_append_3fe6f_41 ?_
  refine M_goto C (tgt := 75) (by decide) dJ5_append_3fe6f_42 ?_
  refine M_aload_n C 0 rfl rfl dJ5_append_3fe6f_75 ?_
  exact M_aret C (Or.inl ⟨_, rfl⟩) rfl ⟨by decide, by decide⟩ dJ5_append_3fe6f_76 (fun _ => ⟨rfl, rfl⟩)
set_option maxRecDepth 20000 in
theorem kj_appC (l : Launch) (hst : l.stackTraces = false) (Z : mZ) (q1 q2 : Nat) (n : Nat) (g : Nat → Int32) (cx : Nat) (hn : n < 16) (hc : cx < 128) : mMet l Z yJ4_append_cf468 (.code yJ4_append_cf468 cJ4_append_cf468 2 (some (.object "java/lang/StringBuilder"))) 3 0 0 [.ref q1, .int (nI cx)] [(q1, .inr (1, [.ref q2, .int 0, .int 0, .int (nI n)])), (q2, eY Z 16 g)] [] (fun r wo => r = some (.ref q1) ∧ wo = [(q1, .inr (1, [.ref q2, .int 0, .int 0, .int (nI (n + 1))])), (q2, eY Z 16 (upd g n (vp_nar .byte (nI cx))))]) := by
  refine mMet_of (z := ()) (X := some ()) (own := RJ4) (lv := [(0, .ref q1), (1, .int (nI cx))]) hst (by decide +kernel) rfl (Nat.le_of_ble_eq_true rfl) rfl rfl ?_
  intro p e R s m args below meth c C hini
  have hA : ∀ q, s.heap.size ≤ q → wA [(q1, .inr (1, [.ref q2, .int 0, .int 0, .int (nI n)])), (q2, eY Z 16 g)] s.heap.size q := fun q h => Or.inr h
  refine M_aload_n C 0 rfl rfl dJ4_append_cf468_0 ?_
  refine M_iload_n C 1 rfl rfl dJ4_append_cf468_1 ?_
  refine M_callSU C hA (wi1 := [(q1, .inr (1, [.ref q2, .int 0, .int 0, .int (nI n)])), (q2, eY Z 16 g)]) (wr := []) (As := [.int (nI cx)]) (rest := []) (kj_appC5 l hst Z q1 q2 n g cx hn hc) js_J5_append_3fe6f_J4_50 (ci := 1) rfl (mRecv_cell C 0 rfl (ci := 1) rfl) mSS_nil (List.Perm.of_eq rfl) (by decide) ⟨by decide, by decide⟩ rfl rfl (Nat.le_of_ble_eq_true rfl) dJ4_append_cf468_2 (fun v wo hq => ?_)
  obtain ⟨rfl, rfl⟩ := hq
  refine M_ws (ws1 := [(q1, .inr (1, [.ref q2, .int 0, .int 0, .int (nI (n + 1))])), (q2, eY Z 16 (upd g n (vp_nar .byte (nI cx))))]) rfl ?_
  refine M_st (st1 := [.ref q1]) rfl ?_
  refine M_pop C rfl dJ4_append_cf468_5 ?_
  refine M_aload_n C 0 rfl rfl dJ4_append_cf468_6 ?_
  exact M_aret C (Or.inl ⟨_, rfl⟩) rfl ⟨by decide, by decide⟩ dJ4_append_cf468_7 (fun _ => ⟨rfl, rfl⟩)
set_option maxRecDepth 20000 in
theorem kj_new5 (l : Launch) (hst : l.stackTraces = false) (Z : mZ) (q1 : Nat)  : mMet l Z yJ5_init_d00df (.code yJ5_init_d00df cJ5_init_d00df 2 none) 2 1 16 [.ref q1, .int 16] [(q1, .inr (1, [.null, .int 0, .int 0, .int 0]))] [] (fun r wo => r = none ∧ ∃ q2, wo = [(q1, .inr (1, [.ref q2, .int 0, .int 0, .int 0])), (q2, eY Z 16 (fun _ => 0))]) := by
  refine mMet_of (z := ()) (X := some ()) (own := RJ5) (lv := [(0, .ref q1), (1, .int 16)]) hst (by decide +kernel) rfl (Nat.le_of_ble_eq_true rfl) rfl rfl ?_
  intro p e R s m args below meth c C hini
  have hA : ∀ q, s.heap.size ≤ q → wA [(q1, .inr (1, [.null, .int 0, .int 0, .int 0]))] s.heap.size q := fun q h => Or.inr h
  refine M_aload_n C 0 rfl rfl dJ5_init_d00df_0 ?_
  refine M_obj C jo_J5_3 (by decide) (Nat.le_of_ble_eq_true rfl) dJ5_init_d00df_1 ?_
  refine M_compact C jf_J5_18 dJ5_init_d00df_4 ?_
  refine M_if_eqF C (tgt := 25) (by decide) (by decide) dJ5_init_d00df_7 ?_
  refine M_aload_n C 0 rfl rfl dJ5_init_d00df_10 ?_
  refine M_iload_n C 1 rfl rfl dJ5_init_d00df_11 ?_
  refine M_newB C hA (N := 16) jac_byte (by decide) rfl (by decide) (by decide) (by decide) dJ5_init_d00df_12 (fun q2 => ?_)
  refine M_ws (ws1 := [(q1, .inr (1, [.null, .int 0, .int 0, .int 0])), (q2, eY Z 16 (fun _ => 0))]) rfl ?_
  refine M_put C kin_J4 (ci := 1) rfl 0 rfl 0 (by decide) jf_J5_15 rfl tyJ4 tyJ4_ok nmJ4 rfl (ty := tyJ4 0) (v := .ref q2) rfl rfl rfl (Nat.le_of_ble_eq_true rfl) (ws1 := [(q1, .inr (1, [.ref q2, .int 0, .int 0, .int 0])), (q2, eY Z 16 (fun _ => 0))]) rfl dJ5_init_d00df_14 ?_
  refine M_aload_n C 0 rfl rfl dJ5_init_d00df_17 ?_
  refine M_iconst C (v := 0) (by decide) dJ5_init_d00df_18 ?_
  refine M_put C kin_J4 (ci := 1) rfl 0 rfl 1 (by decide) jf_J5_22 rfl tyJ4 tyJ4_ok nmJ4 rfl (ty := tyJ4 1) (v := .int 0) rfl rfl rfl (Nat.le_of_ble_eq_true rfl) (ws1 := [(q1, .inr (1, [.ref q2, .int 0, .int 0, .int 0])), (q2, eY Z 16 (fun _ => 0))]) rfl dJ5_init_d00df_19 ?_
  refine M_goto C (tgt := 38) (by decide) dJ5_init_d00df_22 ?_
  exact M_vret C rfl ⟨by decide, by decide⟩ dJ5_init_d00df_38 (fun _ => ⟨rfl, q2, rfl⟩)
set_option maxRecDepth 20000 in
theorem kj_new (l : Launch) (hst : l.stackTraces = false) (Z : mZ) (q1 : Nat)  : mMet l Z yJ4_init_da8c8 (.code yJ4_init_da8c8 cJ4_init_da8c8 1 none) 3 1 16 [.ref q1] [(q1, .inr (1, [.null, .int 0, .int 0, .int 0]))] [] (fun r wo => r = none ∧ ∃ q2, wo = [(q1, .inr (1, [.ref q2, .int 0, .int 0, .int 0])), (q2, eY Z 16 (fun _ => 0))]) := by
  refine mMet_of (z := ()) (X := some ()) (own := RJ4) (lv := [(0, .ref q1)]) hst (by decide +kernel) rfl (Nat.le_of_ble_eq_true rfl) rfl rfl ?_
  intro p e R s m args below meth c C hini
  have hA : ∀ q, s.heap.size ≤ q → wA [(q1, .inr (1, [.null, .int 0, .int 0, .int 0]))] s.heap.size q := fun q h => Or.inr h
  refine M_aload_n C 0 rfl rfl dJ4_init_da8c8_0 ?_
  refine M_bipush C (v := 16) (by decide) dJ4_init_da8c8_1 ?_
  refine M_callI C hA (wi1 := [(q1, .inr (1, [.null, .int 0, .int 0, .int 0]))]) (wr := []) (As := [.int 16]) (rest := []) (kj_new5 l hst Z q1) jy_J5_init_d00df jm_J4_1 mSS_nil (List.Perm.of_eq rfl) (by decide) ⟨by decide, by decide⟩ rfl rfl (Nat.le_of_ble_eq_true rfl) dJ4_init_da8c8_3 (fun v wo hq => ?_)
  obtain ⟨rfl, q2, rfl⟩ := hq
  refine M_ws (ws1 := [(q1, .inr (1, [.ref q2, .int 0, .int 0, .int 0])), (q2, eY Z 16 (fun _ => 0))]) rfl ?_
  refine M_st (st1 := []) rfl ?_
  exact M_vret C rfl ⟨by decide, by decide⟩ dJ4_init_da8c8_6 (fun _ => ⟨rfl, q2, rfl⟩)
set_option maxRecDepth 20000 in
theorem kj_size1 (l : Launch) (hst : l.stackTraces = false) (Z : mZ) (x : Nat) (hx : x < 10) : mMet l Z yJ6_stringSize_0f7a4 (.code yJ6_stringSize_0f7a4 cJ6_stringSize_0f7a4 4 (some .int)) 1 0 0 [.int (nI x)] [] [] (fun r wo => r = some (.int 1) ∧ wo = []) := by
  refine mMet_of (z := ()) (X := some ()) (own := RJ6) (lv := [(0, .int (nI x))]) hst (by decide +kernel) rfl (Nat.le_of_ble_eq_true rfl) rfl rfl ?_
  intro p e R s m args below meth c C hini
  have hA : ∀ q, s.heap.size ≤ q → wA [] s.heap.size q := fun q h => Or.inr h
  refine M_iconst C (v := 1) (by decide) dJ6_stringSize_0f7a4_0 ?_
  refine M_istore_n C rfl (by decide) (lv1 := [(1, .int 1), (0, .int (nI x))]) rfl dJ6_stringSize_0f7a4_1 ?_
  refine M_iload_n C 1 rfl rfl dJ6_stringSize_0f7a4_2 ?_
  refine M_if_ltF C (tgt := 11) (nI_npos (by omega)) (by decide) dJ6_stringSize_0f7a4_3 ?_
  refine M_iconst C (v := 0) (by decide) dJ6_stringSize_0f7a4_6 ?_
  refine M_istore_n C rfl (by decide) (lv1 := [(1, .int 0), (0, .int (nI x))]) rfl dJ6_stringSize_0f7a4_7 ?_
  refine M_iload_n C 1 rfl rfl dJ6_stringSize_0f7a4_8 ?_
  refine M_ineg C dJ6_stringSize_0f7a4_9 ?_
  refine M_istore_n C rfl (by decide) (lv1 := [(0, .int (-(nI x))), (1, .int 0)]) rfl dJ6_stringSize_0f7a4_10 ?_
  refine M_bipush C (v := (-10)) (by decide) dJ6_stringSize_0f7a4_11 ?_
  refine M_istore_n C rfl (by decide) (lv1 := [(2, .int (-10)), (0, .int (-(nI x))), (1, .int 0)]) rfl dJ6_stringSize_0f7a4_13 ?_
  refine M_iconst C (v := 1) (by decide) dJ6_stringSize_0f7a4_14 ?_
  refine M_istore_n C rfl (by decide) (lv1 := [(3, .int 1), (2, .int (-10)), (0, .int (-(nI x))), (1, .int 0)]) rfl dJ6_stringSize_0f7a4_15 ?_
  refine M_iload_n C 0 rfl rfl dJ6_stringSize_0f7a4_16 ?_
  refine M_bipush C (v := 10) (by decide) dJ6_stringSize_0f7a4_17 ?_
  refine M_icmp_geF C (tgt := 42) (by decide) (by decide) dJ6_stringSize_0f7a4_19 ?_
  refine M_iload_n C 2 rfl rfl dJ6_stringSize_0f7a4_22 ?_
  refine M_iload_n C 1 rfl rfl dJ6_stringSize_0f7a4_23 ?_
  refine M_icmp_leF C (tgt := 31) (dg1 x hx) (by decide) dJ6_stringSize_0f7a4_24 ?_
  refine M_iload_n C 0 rfl rfl dJ6_stringSize_0f7a4_27 ?_
  refine M_iload_n C 3 rfl rfl dJ6_stringSize_0f7a4_28 ?_
  refine M_iadd C dJ6_stringSize_0f7a4_29 ?_
  refine M_top (y := 1) (by decide) ?_
  exact M_iret C (ty := .int) rfl rfl ⟨by decide, by decide⟩ dJ6_stringSize_0f7a4_30 (fun _ => ⟨rfl, rfl⟩)
set_option maxRecDepth 20000 in
theorem kj_size2 (l : Launch) (hst : l.stackTraces = false) (Z : mZ) (x : Nat) (h1 : 10 ≤ x) (hx : x < 100) : mMet l Z yJ6_stringSize_0f7a4 (.code yJ6_stringSize_0f7a4 cJ6_stringSize_0f7a4 4 (some .int)) 1 0 0 [.int (nI x)] [] [] (fun r wo => r = some (.int 2) ∧ wo = []) := by
  refine mMet_of (z := ()) (X := some ()) (own := RJ6) (lv := [(0, .int (nI x))]) hst (by decide +kernel) rfl (Nat.le_of_ble_eq_true rfl) rfl rfl ?_
  intro p e R s m args below meth c C hini
  have hA : ∀ q, s.heap.size ≤ q → wA [] s.heap.size q := fun q h => Or.inr h
  refine M_iconst C (v := 1) (by decide) dJ6_stringSize_0f7a4_0 ?_
  refine M_istore_n C rfl (by decide) (lv1 := [(1, .int 1), (0, .int (nI x))]) rfl dJ6_stringSize_0f7a4_1 ?_
  refine M_iload_n C 1 rfl rfl dJ6_stringSize_0f7a4_2 ?_
  refine M_if_ltF C (tgt := 11) (nI_npos (by omega)) (by decide) dJ6_stringSize_0f7a4_3 ?_
  refine M_iconst C (v := 0) (by decide) dJ6_stringSize_0f7a4_6 ?_
  refine M_istore_n C rfl (by decide) (lv1 := [(1, .int 0), (0, .int (nI x))]) rfl dJ6_stringSize_0f7a4_7 ?_
  refine M_iload_n C 1 rfl rfl dJ6_stringSize_0f7a4_8 ?_
  refine M_ineg C dJ6_stringSize_0f7a4_9 ?_
  refine M_istore_n C rfl (by decide) (lv1 := [(0, .int (-(nI x))), (1, .int 0)]) rfl dJ6_stringSize_0f7a4_10 ?_
  refine M_bipush C (v := (-10)) (by decide) dJ6_stringSize_0f7a4_11 ?_
  refine M_istore_n C rfl (by decide) (lv1 := [(2, .int (-10)), (0, .int (-(nI x))), (1, .int 0)]) rfl dJ6_stringSize_0f7a4_13 ?_
  refine M_iconst C (v := 1) (by decide) dJ6_stringSize_0f7a4_14 ?_
  refine M_istore_n C rfl (by decide) (lv1 := [(3, .int 1), (2, .int (-10)), (0, .int (-(nI x))), (1, .int 0)]) rfl dJ6_stringSize_0f7a4_15 ?_
  refine M_iload_n C 0 rfl rfl dJ6_stringSize_0f7a4_16 ?_
  refine M_bipush C (v := 10) (by decide) dJ6_stringSize_0f7a4_17 ?_
  refine M_icmp_geF C (tgt := 42) (by decide) (by decide) dJ6_stringSize_0f7a4_19 ?_
  refine M_iload_n C 2 rfl rfl dJ6_stringSize_0f7a4_22 ?_
  refine M_iload_n C 1 rfl rfl dJ6_stringSize_0f7a4_23 ?_
  refine M_icmp_leT C (tgt := 31) (dg2 x h1 hx) (by decide) dJ6_stringSize_0f7a4_24 ?_
  refine M_bipush C (v := 10) (by decide) dJ6_stringSize_0f7a4_31 ?_
  refine M_iload_n C 1 rfl rfl dJ6_stringSize_0f7a4_33 ?_
  refine M_imul C dJ6_stringSize_0f7a4_34 ?_
  refine M_istore_n C rfl (by decide) (lv1 := [(2, .int (10 * (-10))), (3, .int 1), (0, .int (-(nI x))), (1, .int 0)]) rfl dJ6_stringSize_0f7a4_35 ?_
  refine M_iincC C (k := 1) (v := 2) rfl (by decide) (by decide) (lv1 := [(3, .int 2), (2, .int (10 * (-10))), (0, .int (-(nI x))), (1, .int 0)]) rfl dJ6_stringSize_0f7a4_36 ?_
  refine M_goto C (tgt := 16) (by decide) dJ6_stringSize_0f7a4_39 ?_
  refine M_iload_n C 0 rfl rfl dJ6_stringSize_0f7a4_16 ?_
  refine M_bipush C (v := 10) (by decide) dJ6_stringSize_0f7a4_17 ?_
  refine M_icmp_geF C (tgt := 42) (by decide) (by decide) dJ6_stringSize_0f7a4_19 ?_
  refine M_iload_n C 2 rfl rfl dJ6_stringSize_0f7a4_22 ?_
  refine M_iload_n C 1 rfl rfl dJ6_stringSize_0f7a4_23 ?_
  refine M_icmp_leF C (tgt := 31) (dg3 x hx) (by decide) dJ6_stringSize_0f7a4_24 ?_
  refine M_iload_n C 0 rfl rfl dJ6_stringSize_0f7a4_27 ?_
  refine M_iload_n C 3 rfl rfl dJ6_stringSize_0f7a4_28 ?_
  refine M_iadd C dJ6_stringSize_0f7a4_29 ?_
  refine M_top (y := 2) (by decide) ?_
  exact M_iret C (ty := .int) rfl rfl ⟨by decide, by decide⟩ dJ6_stringSize_0f7a4_30 (fun _ => ⟨rfl, rfl⟩)
set_option maxRecDepth 20000 in
theorem kj_chars1 (l : Launch) (hst : l.stackTraces = false) (Z : mZ) (q2 : Nat) (g : Nat → Int32) (x k : Nat) (hx : x < 10) (hp : k < 16) : mMet l Z yJ6_getChars_ba4f3 (.code yJ6_getChars_ba4f3 cJ6_getChars_ba4f3 7 (some .int)) 1 0 0 [.int (nI x), .int (nI (k + 1)), .ref q2] [(q2, eY Z 16 g)] [] (fun r wo => r = some (.int (nI k)) ∧ wo = [(q2, eY Z 16 (upd g k (vp_nar .byte (mOnes x))))]) := by
  refine mMet_of (z := ()) (X := some ()) (own := RJ6) (lv := [(0, .int (nI x)), (1, .int (nI (k + 1))), (2, .ref q2)]) hst (by decide +kernel) rfl (Nat.le_of_ble_eq_true rfl) rfl rfl ?_
  intro p e R s m args below meth c C hini
  have hA : ∀ q, s.heap.size ≤ q → wA [(q2, eY Z 16 g)] s.heap.size q := fun q h => Or.inr h
  refine M_iload_n C 1 rfl rfl dJ6_getChars_ba4f3_0 ?_
  refine M_istore C (by decide) (lv1 := [(5, .int (nI (k + 1))), (0, .int (nI x)), (1, .int (nI (k + 1))), (2, .ref q2)]) rfl dJ6_getChars_ba4f3_1 ?_
  refine M_iload_n C 1 rfl rfl dJ6_getChars_ba4f3_3 ?_
  refine M_if_geT C (tgt := 11) (dg0 x (by omega)) (by decide) dJ6_getChars_ba4f3_4 ?_
  refine M_iconst C (v := 0) (by decide) dJ6_getChars_ba4f3_11 ?_
  refine M_istore C (by decide) (lv1 := [(6, .int 0), (5, .int (nI (k + 1))), (0, .int (nI x)), (1, .int (nI (k + 1))), (2, .ref q2)]) rfl dJ6_getChars_ba4f3_12 ?_
  refine M_iload C 0 rfl dJ6_getChars_ba4f3_14 ?_
  refine M_if_neF C (tgt := 22) (by decide) (by decide) dJ6_getChars_ba4f3_16 ?_
  refine M_iload_n C 2 rfl rfl dJ6_getChars_ba4f3_19 ?_
  refine M_ineg C dJ6_getChars_ba4f3_20 ?_
  refine M_istore_n C rfl (by decide) (lv1 := [(0, .int (-(nI x))), (6, .int 0), (5, .int (nI (k + 1))), (1, .int (nI (k + 1))), (2, .ref q2)]) rfl dJ6_getChars_ba4f3_21 ?_
  refine M_iload_n C 0 rfl rfl dJ6_getChars_ba4f3_22 ?_
  refine M_bipush C (v := (-100)) (by decide) dJ6_getChars_ba4f3_23 ?_
  refine M_icmp_gtT C (tgt := 72) (dg4 x (by omega)) (by decide) dJ6_getChars_ba4f3_25 ?_
  refine M_aload_n C 4 rfl rfl dJ6_getChars_ba4f3_72 ?_
  refine M_iincC C (k := 2) (v := (nI k)) rfl (dgm k) (by decide) (lv1 := [(5, .int (nI k)), (0, .int (-(nI x))), (6, .int 0), (1, .int (nI (k + 1))), (2, .ref q2)]) rfl dJ6_getChars_ba4f3_73 ?_
  refine M_iload C 0 rfl dJ6_getChars_ba4f3_76 ?_
  refine M_dones C jf_DigitOnes dJ6_getChars_ba4f3_78 ?_
  refine M_iload_n C 1 rfl rfl dJ6_getChars_ba4f3_81 ?_
  refine M_ineg C dJ6_getChars_ba4f3_82 ?_
  refine M_top (y := (nI x)) (Int32.neg_neg) ?_
  refine M_done C (vp_in_nI (by omega) (by omega)) dJ6_getChars_ba4f3_83 ?_
  refine M_top (y := (mOnes x)) (by rw [nI_clamp (by omega)]) ?_
  refine M_bast C 0 rfl (vp_in_nI (by omega) (by omega)) (nI_clamp (by omega)) (ws1 := [(q2, eY Z 16 (upd g k (vp_nar .byte (mOnes x))))]) rfl dJ6_getChars_ba4f3_84 ?_
  refine M_iload_n C 1 rfl rfl dJ6_getChars_ba4f3_85 ?_
  refine M_bipush C (v := (-9)) (by decide) dJ6_getChars_ba4f3_86 ?_
  refine M_icmp_geT C (tgt := 104) (dg5 x hx) (by decide) dJ6_getChars_ba4f3_88 ?_
  refine M_iload C 2 rfl dJ6_getChars_ba4f3_104 ?_
  refine M_if_eqT C (tgt := 118) rfl (by decide) dJ6_getChars_ba4f3_106 ?_
  refine M_iload C 0 rfl dJ6_getChars_ba4f3_118 ?_
  exact M_iret C (ty := .int) rfl rfl ⟨by decide, by decide⟩ dJ6_getChars_ba4f3_120 (fun _ => ⟨rfl, rfl⟩)
set_option maxRecDepth 20000 in
theorem kj_chars2 (l : Launch) (hst : l.stackTraces = false) (Z : mZ) (q2 : Nat) (g : Nat → Int32) (x k : Nat) (h1 : 10 ≤ x) (hx : x < 100) (hp : k + 1 < 16) : mMet l Z yJ6_getChars_ba4f3 (.code yJ6_getChars_ba4f3 cJ6_getChars_ba4f3 7 (some .int)) 1 0 0 [.int (nI x), .int (nI (k + 1 + 1)), .ref q2] [(q2, eY Z 16 g)] [] (fun r wo => r = some (.int (nI k)) ∧ wo = [(q2, eY Z 16 (upd (upd g (k + 1) (vp_nar .byte (mOnes x))) k (vp_nar .byte (mTens x))))]) := by
  refine mMet_of (z := ()) (X := some ()) (own := RJ6) (lv := [(0, .int (nI x)), (1, .int (nI (k + 1 + 1))), (2, .ref q2)]) hst (by decide +kernel) rfl (Nat.le_of_ble_eq_true rfl) rfl rfl ?_
  intro p e R s m args below meth c C hini
  have hA : ∀ q, s.heap.size ≤ q → wA [(q2, eY Z 16 g)] s.heap.size q := fun q h => Or.inr h
  refine M_iload_n C 1 rfl rfl dJ6_getChars_ba4f3_0 ?_
  refine M_istore C (by decide) (lv1 := [(5, .int (nI (k + 1 + 1))), (0, .int (nI x)), (1, .int (nI (k + 1 + 1))), (2, .ref q2)]) rfl dJ6_getChars_ba4f3_1 ?_
  refine M_iload_n C 1 rfl rfl dJ6_getChars_ba4f3_3 ?_
  refine M_if_geT C (tgt := 11) (dg0 x (by omega)) (by decide) dJ6_getChars_ba4f3_4 ?_
  refine M_iconst C (v := 0) (by decide) dJ6_getChars_ba4f3_11 ?_
  refine M_istore C (by decide) (lv1 := [(6, .int 0), (5, .int (nI (k + 1 + 1))), (0, .int (nI x)), (1, .int (nI (k + 1 + 1))), (2, .ref q2)]) rfl dJ6_getChars_ba4f3_12 ?_
  refine M_iload C 0 rfl dJ6_getChars_ba4f3_14 ?_
  refine M_if_neF C (tgt := 22) (by decide) (by decide) dJ6_getChars_ba4f3_16 ?_
  refine M_iload_n C 2 rfl rfl dJ6_getChars_ba4f3_19 ?_
  refine M_ineg C dJ6_getChars_ba4f3_20 ?_
  refine M_istore_n C rfl (by decide) (lv1 := [(0, .int (-(nI x))), (6, .int 0), (5, .int (nI (k + 1 + 1))), (1, .int (nI (k + 1 + 1))), (2, .ref q2)]) rfl dJ6_getChars_ba4f3_21 ?_
  refine M_iload_n C 0 rfl rfl dJ6_getChars_ba4f3_22 ?_
  refine M_bipush C (v := (-100)) (by decide) dJ6_getChars_ba4f3_23 ?_
  refine M_icmp_gtT C (tgt := 72) (dg4 x (by omega)) (by decide) dJ6_getChars_ba4f3_25 ?_
  refine M_aload_n C 4 rfl rfl dJ6_getChars_ba4f3_72 ?_
  refine M_iincC C (k := 2) (v := (nI (k + 1))) rfl (dgm (k + 1)) (by decide) (lv1 := [(5, .int (nI (k + 1))), (0, .int (-(nI x))), (6, .int 0), (1, .int (nI (k + 1 + 1))), (2, .ref q2)]) rfl dJ6_getChars_ba4f3_73 ?_
  refine M_iload C 0 rfl dJ6_getChars_ba4f3_76 ?_
  refine M_dones C jf_DigitOnes dJ6_getChars_ba4f3_78 ?_
  refine M_iload_n C 1 rfl rfl dJ6_getChars_ba4f3_81 ?_
  refine M_ineg C dJ6_getChars_ba4f3_82 ?_
  refine M_top (y := (nI x)) (Int32.neg_neg) ?_
  refine M_done C (vp_in_nI (by omega) (by omega)) dJ6_getChars_ba4f3_83 ?_
  refine M_top (y := (mOnes x)) (by rw [nI_clamp (by omega)]) ?_
  refine M_bast C 0 rfl (vp_in_nI (by omega) (by omega)) (nI_clamp (by omega)) (ws1 := [(q2, eY Z 16 (upd g (k + 1) (vp_nar .byte (mOnes x))))]) rfl dJ6_getChars_ba4f3_84 ?_
  refine M_iload_n C 1 rfl rfl dJ6_getChars_ba4f3_85 ?_
  refine M_bipush C (v := (-9)) (by decide) dJ6_getChars_ba4f3_86 ?_
  refine M_icmp_geF C (tgt := 104) (dg6 x h1 hx) (by decide) dJ6_getChars_ba4f3_88 ?_
  refine M_aload_n C 4 rfl rfl dJ6_getChars_ba4f3_91 ?_
  refine M_iincC C (k := 0) (v := (nI k)) rfl (dgm k) (by decide) (lv1 := [(5, .int (nI k)), (0, .int (-(nI x))), (6, .int 0), (1, .int (nI (k + 1 + 1))), (2, .ref q2)]) rfl dJ6_getChars_ba4f3_92 ?_
  refine M_iload C 0 rfl dJ6_getChars_ba4f3_95 ?_
  refine M_dtens C jf_DigitTens dJ6_getChars_ba4f3_97 ?_
  refine M_iload_n C 1 rfl rfl dJ6_getChars_ba4f3_100 ?_
  refine M_ineg C dJ6_getChars_ba4f3_101 ?_
  refine M_top (y := (nI x)) (Int32.neg_neg) ?_
  refine M_dten C (vp_in_nI (by omega) (by omega)) dJ6_getChars_ba4f3_102 ?_
  refine M_top (y := (mTens x)) (by rw [nI_clamp (by omega)]) ?_
  refine M_bast C 0 rfl (vp_in_nI (by omega) (by omega)) (nI_clamp (by omega)) (ws1 := [(q2, eY Z 16 (upd (upd g (k + 1) (vp_nar .byte (mOnes x))) k (vp_nar .byte (mTens x))))]) rfl dJ6_getChars_ba4f3_103 ?_
  refine M_iload C 2 rfl dJ6_getChars_ba4f3_104 ?_
  refine M_if_eqT C (tgt := 118) rfl (by decide) dJ6_getChars_ba4f3_106 ?_
  refine M_iload C 0 rfl dJ6_getChars_ba4f3_118 ?_
  exact M_iret C (ty := .int) rfl rfl ⟨by decide, by decide⟩ dJ6_getChars_ba4f3_120 (fun _ => ⟨rfl, rfl⟩)
set_option maxRecDepth 20000 in
theorem kj_appI51 (l : Launch) (hst : l.stackTraces = false) (Z : mZ) (q1 q2 : Nat) (n : Nat) (g : Nat → Int32) (x : Nat) (hx : x < 10) (hn : n < 16) : mMet l Z yJ5_append_c97b9 (.code yJ5_append_c97b9 cJ5_append_c97b9 4 (some (.object "java/lang/AbstractStringBuilder"))) 3 0 0 [.ref q1, .int (nI x)] [(q1, .inr (1, [.ref q2, .int 0, .int 0, .int (nI n)])), (q2, eY Z 16 g)] [] (fun r wo => r = some (.ref q1) ∧ wo = [(q1, .inr (1, [.ref q2, .int 0, .int 0, .int (nI (n + 1))])), (q2, eY Z 16 (upd g n (vp_nar .byte (mOnes x))))]) := by
  refine mMet_of (z := ()) (X := some ()) (own := RJ5) (lv := [(0, .ref q1), (1, .int (nI x))]) hst (by decide +kernel) rfl (Nat.le_of_ble_eq_true rfl) rfl rfl ?_
  intro p e R s m args below meth c C hini
  have hA : ∀ q, s.heap.size ≤ q → wA [(q1, .inr (1, [.ref q2, .int 0, .int 0, .int (nI n)])), (q2, eY Z 16 g)] s.heap.size q := fun q h => Or.inr h
  refine M_aload_n C 0 rfl rfl dJ5_append_c97b9_0 ?_
  refine M_get C kin_J4 (ci := 1) rfl 0 rfl 3 (by decide) jf_J5_79 rfl (v := .int (nI n)) rfl dJ5_append_c97b9_1 ?_
  refine M_istore_n C rfl (by decide) (lv1 := [(2, .int (nI n)), (0, .ref q1), (1, .int (nI x))]) rfl dJ5_append_c97b9_4 ?_
  refine M_iload_n C 0 rfl rfl dJ5_append_c97b9_5 ?_
  refine M_iload_n C 2 rfl rfl dJ5_append_c97b9_6 ?_
  refine M_callS C hA (wi1 := []) (wr := [(q1, .inr (1, [.ref q2, .int 0, .int 0, .int (nI n)])), (q2, eY Z 16 g)]) (As := [.int (nI x)]) (rest := [.int (nI n)]) (kj_size1 l hst Z x hx) jy_J6_stringSize_0f7a4 jm_J5_245 mSS_nil (List.Perm.refl _) (by decide) ⟨by decide, by decide⟩ rfl rfl (Nat.le_of_ble_eq_true rfl) dJ5_append_c97b9_7 (fun v wo hq => ?_)
  obtain ⟨rfl, rfl⟩ := hq
  refine M_ws (ws1 := [(q1, .inr (1, [.ref q2, .int 0, .int 0, .int (nI n)])), (q2, eY Z 16 g)]) rfl ?_
  refine M_st (st1 := [.int 1, .int (nI n)]) rfl ?_
  refine M_iadd C dJ5_append_c97b9_10 ?_
  refine M_top (y := (nI (n + 1))) (nI_1 n) ?_
  refine M_istore_n C rfl (by decide) (lv1 := [(3, .int (nI (n + 1))), (2, .int (nI n)), (0, .ref q1), (1, .int (nI x))]) rfl dJ5_append_c97b9_11 ?_
  refine M_aload_n C 2 rfl rfl dJ5_append_c97b9_12 ?_
  refine M_iload_n C 0 rfl rfl dJ5_append_c97b9_13 ?_
  refine M_callU C hA (wi1 := [(q1, .inr (1, [.ref q2, .int 0, .int 0, .int (nI n)])), (q2, eY Z 16 g)]) (wr := []) (As := [.int (nI (n + 1))]) (rest := []) (kj_cap l hst Z q1 q2 (nI n) g (n + 1) (by omega)) ju_J5_100_J4 (kselP (by decide +kernel) (C.1.2.2.2.2 _ jins_J4) (C.1.2.2.2.2 _ jsl_J4) rfl (va_Nw.use rfl (C.2.1.2.2.2.2.2.1.2.2 _ jpv_J5_ensureCapacityInternal_d00df)) (C.1.2.2.2.2 _ jim_J5_ensureCapacityInternal_d00df)) (mRecv_cell C 0 rfl (ci := 1) rfl) mSS_nil (List.Perm.of_eq rfl) (by decide) ⟨by decide, by decide⟩ rfl rfl (Nat.le_of_ble_eq_true rfl) dJ5_append_c97b9_14 (fun v wo hq => ?_)
  obtain ⟨rfl, rfl⟩ := hq
  refine M_ws (ws1 := [(q1, .inr (1, [.ref q2, .int 0, .int 0, .int (nI n)])), (q2, eY Z 16 g)]) rfl ?_
  refine M_st (st1 := []) rfl ?_
  refine M_aload_n C 2 rfl rfl dJ5_append_c97b9_17 ?_
  refine M_callU C hA (wi1 := [(q1, .inr (1, [.ref q2, .int 0, .int 0, .int (nI n)])), (q2, eY Z 16 g)]) (wr := []) (As := []) (rest := []) (kj_bL l hst Z q1 q2 (nI n) g) ju_J5_83_J4 (C.1.2.2.2.2 _ jsel_J5_83_J4) (mRecv_cell C 0 rfl (ci := 1) rfl) mSS_nil (List.Perm.of_eq rfl) (by decide) ⟨by decide, by decide⟩ rfl rfl (Nat.le_of_ble_eq_true rfl) dJ5_append_c97b9_18 (fun v wo hq => ?_)
  obtain ⟨rfl, rfl⟩ := hq
  refine M_ws (ws1 := [(q1, .inr (1, [.ref q2, .int 0, .int 0, .int (nI n)])), (q2, eY Z 16 g)]) rfl ?_
  refine M_st (st1 := [.int 1]) rfl ?_
  refine M_if_eqF C (tgt := 37) (by decide) (by decide) dJ5_append_c97b9_21 ?_
  refine M_iload_n C 3 rfl rfl dJ5_append_c97b9_24 ?_
  refine M_iload_n C 0 rfl rfl dJ5_append_c97b9_25 ?_
  refine M_aload_n C 2 rfl rfl dJ5_append_c97b9_26 ?_
  refine M_get C kin_J4 (ci := 1) rfl 0 rfl 0 (by decide) jf_J5_15 rfl (v := .ref q2) rfl dJ5_append_c97b9_27 ?_
  refine M_callS C hA (wi1 := [(q2, eY Z 16 g)]) (wr := [(q1, .inr (1, [.ref q2, .int 0, .int 0, .int (nI n)]))]) (As := [.int (nI x), .int (nI (n + 1)), .ref q2]) (rest := []) (kj_chars1 l hst Z q2 g x n hx (by omega)) jy_J6_getChars_ba4f3 jm_J5_248 mSS_nil (List.Perm.swap _ _ _) (by decide) ⟨by decide, by decide⟩ rfl rfl (Nat.le_of_ble_eq_true rfl) dJ5_append_c97b9_30 (fun v wo hq => ?_)
  obtain ⟨rfl, rfl⟩ := hq
  refine M_ws (ws1 := [(q2, eY Z 16 (upd g n (vp_nar .byte (mOnes x)))), (q1, .inr (1, [.ref q2, .int 0, .int 0, .int (nI n)]))]) rfl ?_
  refine M_st (st1 := [.int (nI n)]) rfl ?_
  refine M_perm (List.Perm.swap _ _ _) ?_
  refine M_pop C rfl dJ5_append_c97b9_33 ?_
  refine M_goto C (tgt := 48) (by decide) dJ5_append_c97b9_34 ?_
  refine M_aload_n C 2 rfl rfl dJ5_append_c97b9_48 ?_
  refine M_iload_n C 0 rfl rfl dJ5_append_c97b9_49 ?_
  refine M_put C kin_J4 (ci := 1) rfl 0 rfl 3 (by decide) jf_J5_79 rfl tyJ4 tyJ4_ok nmJ4 rfl (ty := tyJ4 3) (v := .int (nI (n + 1))) rfl rfl rfl (Nat.le_of_ble_eq_true rfl) (ws1 := [(q1, .inr (1, [.ref q2, .int 0, .int 0, .int (nI (n + 1))])), (q2, eY Z 16 (upd g n (vp_nar .byte (mOnes x))))]) rfl dJ5_append_c97b9_50 ?_
  refine M_aload_n C 2 rfl rfl dJ5_append_c97b9_53 ?_
  exact M_aret C (Or.inl ⟨_, rfl⟩) rfl ⟨by decide, by decide⟩ dJ5_append_c97b9_54 (fun _ => ⟨rfl, rfl⟩)
set_option maxRecDepth 20000 in
theorem kj_appI1 (l : Launch) (hst : l.stackTraces = false) (Z : mZ) (q1 q2 : Nat) (n : Nat) (g : Nat → Int32) (x : Nat) (hx : x < 10) (hn : n < 16) : mMet l Z yJ4_append_bf812 (.code yJ4_append_bf812 cJ4_append_bf812 2 (some (.object "java/lang/StringBuilder"))) 4 0 0 [.ref q1, .int (nI x)] [(q1, .inr (1, [.ref q2, .int 0, .int 0, .int (nI n)])), (q2, eY Z 16 g)] [] (fun r wo => r = some (.ref q1) ∧ wo = [(q1, .inr (1, [.ref q2, .int 0, .int 0, .int (nI (n + 1))])), (q2, eY Z 16 (upd g n (vp_nar .byte (mOnes x))))]) := by
  refine mMet_of (z := ()) (X := some ()) (own := RJ4) (lv := [(0, .ref q1), (1, .int (nI x))]) hst (by decide +kernel) rfl (Nat.le_of_ble_eq_true rfl) rfl rfl ?_
  intro p e R s m args below meth c C hini
  have hA : ∀ q, s.heap.size ≤ q → wA [(q1, .inr (1, [.ref q2, .int 0, .int 0, .int (nI n)])), (q2, eY Z 16 g)] s.heap.size q := fun q h => Or.inr h
  refine M_aload_n C 0 rfl rfl dJ4_append_bf812_0 ?_
  refine M_iload_n C 1 rfl rfl dJ4_append_bf812_1 ?_
  refine M_callSU C hA (wi1 := [(q1, .inr (1, [.ref q2, .int 0, .int 0, .int (nI n)])), (q2, eY Z 16 g)]) (wr := []) (As := [.int (nI x)]) (rest := []) (kj_appI51 l hst Z q1 q2 n g x hx hn) js_J5_append_c97b9_J4_53 (ci := 1) rfl (mRecv_cell C 0 rfl (ci := 1) rfl) mSS_nil (List.Perm.of_eq rfl) (by decide) ⟨by decide, by decide⟩ rfl rfl (Nat.le_of_ble_eq_true rfl) dJ4_append_bf812_2 (fun v wo hq => ?_)
  obtain ⟨rfl, rfl⟩ := hq
  refine M_ws (ws1 := [(q1, .inr (1, [.ref q2, .int 0, .int 0, .int (nI (n + 1))])), (q2, eY Z 16 (upd g n (vp_nar .byte (mOnes x))))]) rfl ?_
  refine M_st (st1 := [.ref q1]) rfl ?_
  refine M_pop C rfl dJ4_append_bf812_5 ?_
  refine M_aload_n C 0 rfl rfl dJ4_append_bf812_6 ?_
  exact M_aret C (Or.inl ⟨_, rfl⟩) rfl ⟨by decide, by decide⟩ dJ4_append_bf812_7 (fun _ => ⟨rfl, rfl⟩)
set_option maxRecDepth 20000 in
theorem kj_appI52 (l : Launch) (hst : l.stackTraces = false) (Z : mZ) (q1 q2 : Nat) (n : Nat) (g : Nat → Int32) (x : Nat) (h1 : 10 ≤ x) (hx : x < 100) (hn : n + 1 < 16) : mMet l Z yJ5_append_c97b9 (.code yJ5_append_c97b9 cJ5_append_c97b9 4 (some (.object "java/lang/AbstractStringBuilder"))) 3 0 0 [.ref q1, .int (nI x)] [(q1, .inr (1, [.ref q2, .int 0, .int 0, .int (nI n)])), (q2, eY Z 16 g)] [] (fun r wo => r = some (.ref q1) ∧ wo = [(q1, .inr (1, [.ref q2, .int 0, .int 0, .int (nI (n + 1 + 1))])), (q2, eY Z 16 (upd (upd g (n + 1) (vp_nar .byte (mOnes x))) n (vp_nar .byte (mTens x))))]) := by
  refine mMet_of (z := ()) (X := some ()) (own := RJ5) (lv := [(0, .ref q1), (1, .int (nI x))]) hst (by decide +kernel) rfl (Nat.le_of_ble_eq_true rfl) rfl rfl ?_
  intro p e R s m args below meth c C hini
  have hA : ∀ q, s.heap.size ≤ q → wA [(q1, .inr (1, [.ref q2, .int 0, .int 0, .int (nI n)])), (q2, eY Z 16 g)] s.heap.size q := fun q h => Or.inr h
  refine M_aload_n C 0 rfl rfl dJ5_append_c97b9_0 ?_
  refine M_get C kin_J4 (ci := 1) rfl 0 rfl 3 (by decide) jf_J5_79 rfl (v := .int (nI n)) rfl dJ5_append_c97b9_1 ?_
  refine M_istore_n C rfl (by decide) (lv1 := [(2, .int (nI n)), (0, .ref q1), (1, .int (nI x))]) rfl dJ5_append_c97b9_4 ?_
  refine M_iload_n C 0 rfl rfl dJ5_append_c97b9_5 ?_
  refine M_iload_n C 2 rfl rfl dJ5_append_c97b9_6 ?_
  refine M_callS C hA (wi1 := []) (wr := [(q1, .inr (1, [.ref q2, .int 0, .int 0, .int (nI n)])), (q2, eY Z 16 g)]) (As := [.int (nI x)]) (rest := [.int (nI n)]) (kj_size2 l hst Z x h1 hx) jy_J6_stringSize_0f7a4 jm_J5_245 mSS_nil (List.Perm.refl _) (by decide) ⟨by decide, by decide⟩ rfl rfl (Nat.le_of_ble_eq_true rfl) dJ5_append_c97b9_7 (fun v wo hq => ?_)
  obtain ⟨rfl, rfl⟩ := hq
  refine M_ws (ws1 := [(q1, .inr (1, [.ref q2, .int 0, .int 0, .int (nI n)])), (q2, eY Z 16 g)]) rfl ?_
  refine M_st (st1 := [.int 2, .int (nI n)]) rfl ?_
  refine M_iadd C dJ5_append_c97b9_10 ?_
  refine M_top (y := (nI (n + 1 + 1))) (nI_add n 2) ?_
  refine M_istore_n C rfl (by decide) (lv1 := [(3, .int (nI (n + 1 + 1))), (2, .int (nI n)), (0, .ref q1), (1, .int (nI x))]) rfl dJ5_append_c97b9_11 ?_
  refine M_aload_n C 2 rfl rfl dJ5_append_c97b9_12 ?_
  refine M_iload_n C 0 rfl rfl dJ5_append_c97b9_13 ?_
  refine M_callU C hA (wi1 := [(q1, .inr (1, [.ref q2, .int 0, .int 0, .int (nI n)])), (q2, eY Z 16 g)]) (wr := []) (As := [.int (nI (n + 1 + 1))]) (rest := []) (kj_cap l hst Z q1 q2 (nI n) g (n + 1 + 1) (by omega)) ju_J5_100_J4 (kselP (by decide +kernel) (C.1.2.2.2.2 _ jins_J4) (C.1.2.2.2.2 _ jsl_J4) rfl (va_Nw.use rfl (C.2.1.2.2.2.2.2.1.2.2 _ jpv_J5_ensureCapacityInternal_d00df)) (C.1.2.2.2.2 _ jim_J5_ensureCapacityInternal_d00df)) (mRecv_cell C 0 rfl (ci := 1) rfl) mSS_nil (List.Perm.of_eq rfl) (by decide) ⟨by decide, by decide⟩ rfl rfl (Nat.le_of_ble_eq_true rfl) dJ5_append_c97b9_14 (fun v wo hq => ?_)
  obtain ⟨rfl, rfl⟩ := hq
  refine M_ws (ws1 := [(q1, .inr (1, [.ref q2, .int 0, .int 0, .int (nI n)])), (q2, eY Z 16 g)]) rfl ?_
  refine M_st (st1 := []) rfl ?_
  refine M_aload_n C 2 rfl rfl dJ5_append_c97b9_17 ?_
  refine M_callU C hA (wi1 := [(q1, .inr (1, [.ref q2, .int 0, .int 0, .int (nI n)])), (q2, eY Z 16 g)]) (wr := []) (As := []) (rest := []) (kj_bL l hst Z q1 q2 (nI n) g) ju_J5_83_J4 (C.1.2.2.2.2 _ jsel_J5_83_J4) (mRecv_cell C 0 rfl (ci := 1) rfl) mSS_nil (List.Perm.of_eq rfl) (by decide) ⟨by decide, by decide⟩ rfl rfl (Nat.le_of_ble_eq_true rfl) dJ5_append_c97b9_18 (fun v wo hq => ?_)
  obtain ⟨rfl, rfl⟩ := hq
  refine M_ws (ws1 := [(q1, .inr (1, [.ref q2, .int 0, .int 0, .int (nI n)])), (q2, eY Z 16 g)]) rfl ?_
  refine M_st (st1 := [.int 1]) rfl ?_
  refine M_if_eqF C (tgt := 37) (by decide) (by decide) dJ5_append_c97b9_21 ?_
  refine M_iload_n C 3 rfl rfl dJ5_append_c97b9_24 ?_
  refine M_iload_n C 0 rfl rfl dJ5_append_c97b9_25 ?_
  refine M_aload_n C 2 rfl rfl dJ5_append_c97b9_26 ?_
  refine M_get C kin_J4 (ci := 1) rfl 0 rfl 0 (by decide) jf_J5_15 rfl (v := .ref q2) rfl dJ5_append_c97b9_27 ?_
  refine M_callS C hA (wi1 := [(q2, eY Z 16 g)]) (wr := [(q1, .inr (1, [.ref q2, .int 0, .int 0, .int (nI n)]))]) (As := [.int (nI x), .int (nI (n + 1 + 1)), .ref q2]) (rest := []) (kj_chars2 l hst Z q2 g x n h1 hx (by omega)) jy_J6_getChars_ba4f3 jm_J5_248 mSS_nil (List.Perm.swap _ _ _) (by decide) ⟨by decide, by decide⟩ rfl rfl (Nat.le_of_ble_eq_true rfl) dJ5_append_c97b9_30 (fun v wo hq => ?_)
  obtain ⟨rfl, rfl⟩ := hq
  refine M_ws (ws1 := [(q2, eY Z 16 (upd (upd g (n + 1) (vp_nar .byte (mOnes x))) n (vp_nar .byte (mTens x)))), (q1, .inr (1, [.ref q2, .int 0, .int 0, .int (nI n)]))]) rfl ?_
  refine M_st (st1 := [.int (nI n)]) rfl ?_
  refine M_perm (List.Perm.swap _ _ _) ?_
  refine M_pop C rfl dJ5_append_c97b9_33 ?_
  refine M_goto C (tgt := 48) (by decide) dJ5_append_c97b9_34 ?_
  refine M_aload_n C 2 rfl rfl dJ5_append_c97b9_48 ?_
  refine M_iload_n C 0 rfl rfl dJ5_append_c97b9_49 ?_
  refine M_put C kin_J4 (ci := 1) rfl 0 rfl 3 (by decide) jf_J5_79 rfl tyJ4 tyJ4_ok nmJ4 rfl (ty := tyJ4 3) (v := .int (nI (n + 1 + 1))) rfl rfl rfl (Nat.le_of_ble_eq_true rfl) (ws1 := [(q1, .inr (1, [.ref q2, .int 0, .int 0, .int (nI (n + 1 + 1))])), (q2, eY Z 16 (upd (upd g (n + 1) (vp_nar .byte (mOnes x))) n (vp_nar .byte (mTens x))))]) rfl dJ5_append_c97b9_50 ?_
  refine M_aload_n C 2 rfl rfl dJ5_append_c97b9_53 ?_
  exact M_aret C (Or.inl ⟨_, rfl⟩) rfl ⟨by decide, by decide⟩ dJ5_append_c97b9_54 (fun _ => ⟨rfl, rfl⟩)
set_option maxRecDepth 20000 in
theorem kj_appI2 (l : Launch) (hst : l.stackTraces = false) (Z : mZ) (q1 q2 : Nat) (n : Nat) (g : Nat → Int32) (x : Nat) (h1 : 10 ≤ x) (hx : x < 100) (hn : n + 1 < 16) : mMet l Z yJ4_append_bf812 (.code yJ4_append_bf812 cJ4_append_bf812 2 (some (.object "java/lang/StringBuilder"))) 4 0 0 [.ref q1, .int (nI x)] [(q1, .inr (1, [.ref q2, .int 0, .int 0, .int (nI n)])), (q2, eY Z 16 g)] [] (fun r wo => r = some (.ref q1) ∧ wo = [(q1, .inr (1, [.ref q2, .int 0, .int 0, .int (nI (n + 1 + 1))])), (q2, eY Z 16 (upd (upd g (n + 1) (vp_nar .byte (mOnes x))) n (vp_nar .byte (mTens x))))]) := by
  refine mMet_of (z := ()) (X := some ()) (own := RJ4) (lv := [(0, .ref q1), (1, .int (nI x))]) hst (by decide +kernel) rfl (Nat.le_of_ble_eq_true rfl) rfl rfl ?_
  intro p e R s m args below meth c C hini
  have hA : ∀ q, s.heap.size ≤ q → wA [(q1, .inr (1, [.ref q2, .int 0, .int 0, .int (nI n)])), (q2, eY Z 16 g)] s.heap.size q := fun q h => Or.inr h
  refine M_aload_n C 0 rfl rfl dJ4_append_bf812_0 ?_
  refine M_iload_n C 1 rfl rfl dJ4_append_bf812_1 ?_
  refine M_callSU C hA (wi1 := [(q1, .inr (1, [.ref q2, .int 0, .int 0, .int (nI n)])), (q2, eY Z 16 g)]) (wr := []) (As := [.int (nI x)]) (rest := []) (kj_appI52 l hst Z q1 q2 n g x h1 hx hn) js_J5_append_c97b9_J4_53 (ci := 1) rfl (mRecv_cell C 0 rfl (ci := 1) rfl) mSS_nil (List.Perm.of_eq rfl) (by decide) ⟨by decide, by decide⟩ rfl rfl (Nat.le_of_ble_eq_true rfl) dJ4_append_bf812_2 (fun v wo hq => ?_)
  obtain ⟨rfl, rfl⟩ := hq
  refine M_ws (ws1 := [(q1, .inr (1, [.ref q2, .int 0, .int 0, .int (nI (n + 1 + 1))])), (q2, eY Z 16 (upd (upd g (n + 1) (vp_nar .byte (mOnes x))) n (vp_nar .byte (mTens x))))]) rfl ?_
  refine M_st (st1 := [.ref q1]) rfl ?_
  refine M_pop C rfl dJ4_append_bf812_5 ?_
  refine M_aload_n C 0 rfl rfl dJ4_append_bf812_6 ?_
  exact M_aret C (Or.inl ⟨_, rfl⟩) rfl ⟨by decide, by decide⟩ dJ4_append_bf812_7 (fun _ => ⟨rfl, rfl⟩)
set_option maxRecDepth 20000 in
theorem kj_infl (l : Launch) (hst : l.stackTraces = false) (Z : mZ) (q1 q2 : Nat) (n : Int32) (g : Nat → Int32) (q v : Nat) (t : List Int32)  : mMet l Z yJ5_inflateIfNeededFor_a7421 (.code yJ5_inflateIfNeededFor_a7421 cJ5_inflateIfNeededFor_a7421 2 none) 2 0 0 [.ref q1, .ref q] [(q1, .inr (1, [.ref q2, .int 0, .int 0, .int n])), (q2, eY Z 16 g)] [(q, v, t)] (fun r wo => r = none ∧ wo = [(q1, .inr (1, [.ref q2, .int 0, .int 0, .int n])), (q2, eY Z 16 g)]) := by
  refine mMet_of (z := ()) (X := some ()) (own := RJ5) (lv := [(0, .ref q1), (1, .ref q)]) hst (by decide +kernel) rfl (Nat.le_of_ble_eq_true rfl) rfl rfl ?_
  intro p e R s m args below meth c C hini
  have hA : ∀ q, s.heap.size ≤ q → wA [(q1, .inr (1, [.ref q2, .int 0, .int 0, .int n])), (q2, eY Z 16 g)] s.heap.size q := fun q h => Or.inr h
  refine M_compact C jf_J5_18 dJ5_inflateIfNeededFor_a7421_0 ?_
  refine M_if_eqF C (tgt := 21) (by decide) (by decide) dJ5_inflateIfNeededFor_a7421_3 ?_
  refine M_aload_n C 0 rfl rfl dJ5_inflateIfNeededFor_a7421_6 ?_
  refine M_get C kin_J4 (ci := 1) rfl 0 rfl 1 (by decide) jf_J5_22 rfl (v := .int 0) rfl dJ5_inflateIfNeededFor_a7421_7 ?_
  refine M_aload_n C 1 rfl rfl dJ5_inflateIfNeededFor_a7421_10 ?_
  refine M_callV C hA (wi1 := []) (wr := [(q1, .inr (1, [.ref q2, .int 0, .int 0, .int n])), (q2, eY Z 16 g)]) (As := []) (rest := [.int 0]) (kj_coder l hst Z q v t) jy_J0_coder_7d493 jm_J5_40 (mRecv_str (C.2.2.1 _ List.mem_cons_self)) (mSS_old (fun x hx => C.2.2.1 x hx)) (List.Perm.refl _) (by decide) ⟨by decide, by decide⟩ rfl rfl (Nat.le_of_ble_eq_true rfl) dJ5_inflateIfNeededFor_a7421_11 (fun v wo hq => ?_)
  obtain ⟨rfl, rfl⟩ := hq
  refine M_ws (ws1 := [(q1, .inr (1, [.ref q2, .int 0, .int 0, .int n])), (q2, eY Z 16 g)]) rfl ?_
  refine M_st (st1 := [.int 0, .int 0]) rfl ?_
  refine M_icmp_eqT C (tgt := 21) rfl (by decide) dJ5_inflateIfNeededFor_a7421_14 ?_
  exact M_vret C rfl ⟨by decide, by decide⟩ dJ5_inflateIfNeededFor_a7421_21 (fun _ => ⟨rfl, rfl⟩)
set_option maxRecDepth 20000 in
theorem kj_bytes (l : Launch) (hst : l.stackTraces = false) (Z : mZ) (q2 : Nat) (n : Nat) (g : Nat → Int32) (q v : Nat) (t : List Int32) (hn : n + t.length ≤ 16) (ht : ∀ j, j < t.length → ∃ c, c < 128 ∧ t.getD j 0 = nI c) : mMet l Z yJ0_getBytes_840e7 (.code yJ0_getBytes_840e7 cJ0_getBytes_840e7 4 none) 2 0 0 [.ref q, .ref q2, .int (nI n), .int 0] [(q2, eY Z 16 g)] [(q, v, t)] (fun r wo => r = none ∧ wo = [(q2, eY Z 16 (va_cpy (fun j => t.getD j 0) g 0 n t.length))]) := by
  refine mMet_of (z := ()) (X := some ()) (own := RJ0) (lv := [(0, .ref q), (1, .ref q2), (2, .int (nI n)), (3, .int 0)]) hst (by decide +kernel) rfl (Nat.le_of_ble_eq_true rfl) rfl rfl ?_
  intro p e R s m args below meth c C hini
  have hA : ∀ q, s.heap.size ≤ q → wA [(q2, eY Z 16 g)] s.heap.size q := fun q h => Or.inr h
  obtain ⟨h1, h2, h3, h4⟩ : kStr q v t _ s s.heap := C.2.2.1 _ List.mem_cons_self
  refine M_aload_n C 0 rfl rfl dJ0_getBytes_840e7_0 ?_
  refine M_callV C hA (wi1 := []) (wr := [(q2, eY Z 16 g)]) (As := []) (rest := []) (kj_coder l hst Z q v t) jy_J0_coder_7d493 jm_J0_335 (mRecv_str (C.2.2.1 _ List.mem_cons_self)) (mSS_old (fun x hx => C.2.2.1 x hx)) (List.Perm.refl _) (by decide) ⟨by decide, by decide⟩ rfl rfl (Nat.le_of_ble_eq_true rfl) dJ0_getBytes_840e7_1 (fun v wo hq => ?_)
  obtain ⟨rfl, rfl⟩ := hq
  refine M_ws (ws1 := [(q2, eY Z 16 g)]) rfl ?_
  refine M_st (st1 := [.int 0]) rfl ?_
  refine M_iload_n C 3 rfl rfl dJ0_getBytes_840e7_4 ?_
  refine M_icmp_neF C (tgt := 28) (by decide) (by decide) dJ0_getBytes_840e7_5 ?_
  refine M_aload_n C 0 rfl rfl dJ0_getBytes_840e7_8 ?_
  refine M_tget C h3 jf_J0_9 dJ0_getBytes_840e7_9 ?_
  refine M_iconst C (v := 0) (by decide) dJ0_getBytes_840e7_12 ?_
  refine M_aload_n C 1 rfl rfl dJ0_getBytes_840e7_13 ?_
  refine M_iload_n C 2 rfl rfl dJ0_getBytes_840e7_14 ?_
  refine M_iload_n C 3 rfl rfl dJ0_getBytes_840e7_15 ?_
  refine M_ishl C dJ0_getBytes_840e7_16 ?_
  refine M_aload_n C 0 rfl rfl dJ0_getBytes_840e7_17 ?_
  refine M_tget C h3 jf_J0_9 dJ0_getBytes_840e7_18 ?_
  refine M_tlen C h4 (v := nI t.length) rfl dJ0_getBytes_840e7_21 ?_
  refine M_copyt C jm_J0_copy h4 0 rfl (by decide) (by rw [sb_shl0]; exact nI_npos (by omega)) (nI_npos (by omega)) rfl (by rw [sb_shl0]; exact nI_clamp (by omega)) (nI_clamp (by omega)) (by simp) (by omega) (fun i hi => ?_) (by decide) (Nat.le_of_ble_eq_true rfl) (ws1 := [(q2, eY Z 16 (va_cpy (fun j => t.getD j 0) g 0 n t.length))]) rfl dJ0_getBytes_840e7_22 ?_
  · obtain ⟨cx, c1, c2⟩ := ht i hi
    show fits .byte (.int (t.getD (0 + i) 0)) = true
    rw [Nat.zero_add, c2]
    exact letF cx c1
  refine M_goto C (tgt := 43) (by decide) dJ0_getBytes_840e7_25 ?_
  exact M_vret C rfl ⟨by decide, by decide⟩ dJ0_getBytes_840e7_43 (fun _ => ⟨rfl, rfl⟩)
set_option maxRecDepth 20000 in
theorem kj_putS (l : Launch) (hst : l.stackTraces = false) (Z : mZ) (q1 q2 : Nat) (n : Nat) (g : Nat → Int32) (q v : Nat) (t : List Int32) (hn : n + t.length ≤ 16) (ht : ∀ j, j < t.length → ∃ c, c < 128 ∧ t.getD j 0 = nI c) : mMet l Z yJ5_putStringAt_47b60 (.code yJ5_putStringAt_47b60 cJ5_putStringAt_47b60 3 none) 3 0 0 [.ref q1, .int (nI n), .ref q] [(q1, .inr (1, [.ref q2, .int 0, .int 0, .int (nI n)])), (q2, eY Z 16 g)] [(q, v, t)] (fun r wo => r = none ∧ wo = [(q1, .inr (1, [.ref q2, .int 0, .int 0, .int (nI n)])), (q2, eY Z 16 (va_cpy (fun j => t.getD j 0) g 0 n t.length))]) := by
  refine mMet_of (z := ()) (X := some ()) (own := RJ5) (lv := [(0, .ref q1), (1, .int (nI n)), (2, .ref q)]) hst (by decide +kernel) rfl (Nat.le_of_ble_eq_true rfl) rfl rfl ?_
  intro p e R s m args below meth c C hini
  have hA : ∀ q, s.heap.size ≤ q → wA [(q1, .inr (1, [.ref q2, .int 0, .int 0, .int (nI n)])), (q2, eY Z 16 g)] s.heap.size q := fun q h => Or.inr h
  refine M_aload_n C 0 rfl rfl dJ5_putStringAt_47b60_0 ?_
  refine M_aload_n C 2 rfl rfl dJ5_putStringAt_47b60_1 ?_
  refine M_callU C hA (wi1 := [(q1, .inr (1, [.ref q2, .int 0, .int 0, .int (nI n)])), (q2, eY Z 16 g)]) (wr := []) (As := [.ref q]) (rest := []) (kj_infl l hst Z q1 q2 (nI n) g q v t) ju_J5_397_J4 (kselP (by decide +kernel) (C.1.2.2.2.2 _ jins_J4) (C.1.2.2.2.2 _ jsl_J4) rfl (va_Nw.use rfl (C.2.1.2.2.2.2.2.1.2.2 _ jpv_J5_inflateIfNeededFor_a7421)) (C.1.2.2.2.2 _ jim_J5_inflateIfNeededFor_a7421)) (mRecv_cell C 0 rfl (ci := 1) rfl) (mSS_old (fun x hx => C.2.2.1 x hx)) (List.Perm.of_eq rfl) (by decide) ⟨by decide, by decide⟩ rfl rfl (Nat.le_of_ble_eq_true rfl) dJ5_putStringAt_47b60_2 (fun v wo hq => ?_)
  obtain ⟨rfl, rfl⟩ := hq
  refine M_ws (ws1 := [(q1, .inr (1, [.ref q2, .int 0, .int 0, .int (nI n)])), (q2, eY Z 16 g)]) rfl ?_
  refine M_st (st1 := []) rfl ?_
  refine M_aload_n C 2 rfl rfl dJ5_putStringAt_47b60_5 ?_
  refine M_aload_n C 0 rfl rfl dJ5_putStringAt_47b60_6 ?_
  refine M_get C kin_J4 (ci := 1) rfl 0 rfl 0 (by decide) jf_J5_15 rfl (v := .ref q2) rfl dJ5_putStringAt_47b60_7 ?_
  refine M_iload_n C 1 rfl rfl dJ5_putStringAt_47b60_10 ?_
  refine M_aload_n C 0 rfl rfl dJ5_putStringAt_47b60_11 ?_
  refine M_get C kin_J4 (ci := 1) rfl 0 rfl 1 (by decide) jf_J5_22 rfl (v := .int 0) rfl dJ5_putStringAt_47b60_12 ?_
  refine M_callV C hA (wi1 := [(q2, eY Z 16 g)]) (wr := [(q1, .inr (1, [.ref q2, .int 0, .int 0, .int (nI n)]))]) (As := [.ref q2, .int (nI n), .int 0]) (rest := []) (kj_bytes l hst Z q2 n g q v t hn ht) jy_J0_getBytes_840e7 jm_J5_399 (mRecv_str (C.2.2.1 _ List.mem_cons_self)) (mSS_old (fun x hx => C.2.2.1 x hx)) (List.Perm.swap _ _ _) (by decide) ⟨by decide, by decide⟩ rfl rfl (Nat.le_of_ble_eq_true rfl) dJ5_putStringAt_47b60_15 (fun v wo hq => ?_)
  obtain ⟨rfl, rfl⟩ := hq
  refine M_ws (ws1 := [(q2, eY Z 16 (va_cpy (fun j => t.getD j 0) g 0 n t.length)), (q1, .inr (1, [.ref q2, .int 0, .int 0, .int (nI n)]))]) rfl ?_
  refine M_st (st1 := []) rfl ?_
  refine M_perm (List.Perm.swap _ _ _) ?_
  exact M_vret C rfl ⟨by decide, by decide⟩ dJ5_putStringAt_47b60_18 (fun _ => ⟨rfl, rfl⟩)
set_option maxRecDepth 20000 in
theorem kj_appS5 (l : Launch) (hst : l.stackTraces = false) (Z : mZ) (q1 q2 : Nat) (n : Nat) (g : Nat → Int32) (q v : Nat) (t : List Int32) (hn : n + t.length ≤ 16) (ht : ∀ j, j < t.length → ∃ c, c < 128 ∧ t.getD j 0 = nI c) : mMet l Z yJ5_append_cf1ce (.code yJ5_append_cf1ce cJ5_append_cf1ce 3 (some (.object "java/lang/AbstractStringBuilder"))) 4 0 0 [.ref q1, .ref q] [(q1, .inr (1, [.ref q2, .int 0, .int 0, .int (nI n)])), (q2, eY Z 16 g)] [(q, v, t)] (fun r wo => r = some (.ref q1) ∧ wo = [(q1, .inr (1, [.ref q2, .int 0, .int 0, .int (nI (n + t.length))])), (q2, eY Z 16 (va_cpy (fun j => t.getD j 0) g 0 n t.length))]) := by
  refine mMet_of (z := ()) (X := some ()) (own := RJ5) (lv := [(0, .ref q1), (1, .ref q)]) hst (by decide +kernel) rfl (Nat.le_of_ble_eq_true rfl) rfl rfl ?_
  intro p e R s m args below meth c C hini
  have hA : ∀ q, s.heap.size ≤ q → wA [(q1, .inr (1, [.ref q2, .int 0, .int 0, .int (nI n)])), (q2, eY Z 16 g)] s.heap.size q := fun q h => Or.inr h
  refine M_aload_n C 1 rfl rfl dJ5_append_cf1ce_0 ?_
  refine M_ifnonnull C (tgt := 9) (by decide) dJ5_append_cf1ce_1 ?_
  refine M_aload_n C 1 rfl rfl dJ5_append_cf1ce_9 ?_
  refine M_callV C hA (wi1 := []) (wr := [(q1, .inr (1, [.ref q2, .int 0, .int 0, .int (nI n)])), (q2, eY Z 16 g)]) (As := []) (rest := []) (kj_length l hst Z q v t) jy_J0_length_8abf5 jm_J5_32 (mRecv_str (C.2.2.1 _ List.mem_cons_self)) (mSS_old (fun x hx => C.2.2.1 x hx)) (List.Perm.refl _) (by decide) ⟨by decide, by decide⟩ rfl rfl (Nat.le_of_ble_eq_true rfl) dJ5_append_cf1ce_10 (fun v wo hq => ?_)
  obtain ⟨rfl, rfl⟩ := hq
  refine M_ws (ws1 := [(q1, .inr (1, [.ref q2, .int 0, .int 0, .int (nI n)])), (q2, eY Z 16 g)]) rfl ?_
  refine M_st (st1 := [.int (nI t.length)]) rfl ?_
  refine M_istore_n C rfl (by decide) (lv1 := [(2, .int (nI t.length)), (0, .ref q1), (1, .ref q)]) rfl dJ5_append_cf1ce_13 ?_
  refine M_aload_n C 1 rfl rfl dJ5_append_cf1ce_14 ?_
  refine M_aload_n C 1 rfl rfl dJ5_append_cf1ce_15 ?_
  refine M_get C kin_J4 (ci := 1) rfl 0 rfl 3 (by decide) jf_J5_79 rfl (v := .int (nI n)) rfl dJ5_append_cf1ce_16 ?_
  refine M_iload_n C 0 rfl rfl dJ5_append_cf1ce_19 ?_
  refine M_iadd C dJ5_append_cf1ce_20 ?_
  refine M_top (y := (nI (n + t.length))) (nI_add n t.length) ?_
  refine M_callU C hA (wi1 := [(q1, .inr (1, [.ref q2, .int 0, .int 0, .int (nI n)])), (q2, eY Z 16 g)]) (wr := []) (As := [.int (nI (n + t.length))]) (rest := []) (kj_cap l hst Z q1 q2 (nI n) g (n + t.length) hn) ju_J5_100_J4 (kselP (by decide +kernel) (C.1.2.2.2.2 _ jins_J4) (C.1.2.2.2.2 _ jsl_J4) rfl (va_Nw.use rfl (C.2.1.2.2.2.2.2.1.2.2 _ jpv_J5_ensureCapacityInternal_d00df)) (C.1.2.2.2.2 _ jim_J5_ensureCapacityInternal_d00df)) (mRecv_cell C 0 rfl (ci := 1) rfl) mSS_nil (List.Perm.of_eq rfl) (by decide) ⟨by decide, by decide⟩ rfl rfl (Nat.le_of_ble_eq_true rfl) dJ5_append_cf1ce_21 (fun v wo hq => ?_)
  obtain ⟨rfl, rfl⟩ := hq
  refine M_ws (ws1 := [(q1, .inr (1, [.ref q2, .int 0, .int 0, .int (nI n)])), (q2, eY Z 16 g)]) rfl ?_
  refine M_st (st1 := []) rfl ?_
  refine M_aload_n C 1 rfl rfl dJ5_append_cf1ce_24 ?_
  refine M_aload_n C 1 rfl rfl dJ5_append_cf1ce_25 ?_
  refine M_get C kin_J4 (ci := 1) rfl 0 rfl 3 (by decide) jf_J5_79 rfl (v := .int (nI n)) rfl dJ5_append_cf1ce_26 ?_
  refine M_aload_n C 2 rfl rfl dJ5_append_cf1ce_29 ?_
  refine M_callU C hA (wi1 := [(q1, .inr (1, [.ref q2, .int 0, .int 0, .int (nI n)])), (q2, eY Z 16 g)]) (wr := []) (As := [.int (nI n), .ref q]) (rest := []) (kj_putS l hst Z q1 q2 n g q v t hn ht) ju_J5_208_J4 (kselP (by decide +kernel) (C.1.2.2.2.2 _ jins_J4) (C.1.2.2.2.2 _ jsl_J4) rfl (va_Nw.use rfl (C.2.1.2.2.2.2.2.1.2.2 _ jpv_J5_putStringAt_47b60)) (C.1.2.2.2.2 _ jim_J5_putStringAt_47b60)) (mRecv_cell C 0 rfl (ci := 1) rfl) (mSS_old (fun x hx => C.2.2.1 x hx)) (List.Perm.of_eq rfl) (by decide) ⟨by decide, by decide⟩ rfl rfl (Nat.le_of_ble_eq_true rfl) dJ5_append_cf1ce_30 (fun v wo hq => ?_)
  obtain ⟨rfl, rfl⟩ := hq
  refine M_ws (ws1 := [(q1, .inr (1, [.ref q2, .int 0, .int 0, .int (nI n)])), (q2, eY Z 16 (va_cpy (fun j => t.getD j 0) g 0 n t.length))]) rfl ?_
  refine M_st (st1 := []) rfl ?_
  refine M_aload_n C 1 rfl rfl dJ5_append_cf1ce_33 ?_
  refine M_dup C rfl dJ5_append_cf1ce_34 ?_
  refine M_get C kin_J4 (ci := 1) rfl 0 rfl 3 (by decide) jf_J5_79 rfl (v := .int (nI n)) rfl dJ5_append_cf1ce_35 ?_
  refine M_iload_n C 0 rfl rfl dJ5_append_cf1ce_38 ?_
  refine M_iadd C dJ5_append_cf1ce_39 ?_
  refine M_top (y := (nI (n + t.length))) (nI_add n t.length) ?_
  refine M_put C kin_J4 (ci := 1) rfl 0 rfl 3 (by decide) jf_J5_79 rfl tyJ4 tyJ4_ok nmJ4 rfl (ty := tyJ4 3) (v := .int (nI (n + t.length))) rfl rfl rfl (Nat.le_of_ble_eq_true rfl) (ws1 := [(q1, .inr (1, [.ref q2, .int 0, .int 0, .int (nI (n + t.length))])), (q2, eY Z 16 (va_cpy (fun j => t.getD j 0) g 0 n t.length))]) rfl dJ5_append_cf1ce_40 ?_
  refine M_aload_n C 1 rfl rfl dJ5_append_cf1ce_43 ?_
  exact M_aret C (Or.inl ⟨_, rfl⟩) rfl ⟨by decide, by decide⟩ dJ5_append_cf1ce_44 (fun _ => ⟨rfl, rfl⟩)
set_option maxRecDepth 20000 in
theorem kj_appS (l : Launch) (hst : l.stackTraces = false) (Z : mZ) (q1 q2 : Nat) (n : Nat) (g : Nat → Int32) (q v : Nat) (t : List Int32) (hn : n + t.length ≤ 16) (ht : ∀ j, j < t.length → ∃ c, c < 128 ∧ t.getD j 0 = nI c) : mMet l Z yJ4_append_15ec4 (.code yJ4_append_15ec4 cJ4_append_15ec4 2 (some (.object "java/lang/StringBuilder"))) 5 0 0 [.ref q1, .ref q] [(q1, .inr (1, [.ref q2, .int 0, .int 0, .int (nI n)])), (q2, eY Z 16 g)] [(q, v, t)] (fun r wo => r = some (.ref q1) ∧ wo = [(q1, .inr (1, [.ref q2, .int 0, .int 0, .int (nI (n + t.length))])), (q2, eY Z 16 (va_cpy (fun j => t.getD j 0) g 0 n t.length))]) := by
  refine mMet_of (z := ()) (X := some ()) (own := RJ4) (lv := [(0, .ref q1), (1, .ref q)]) hst (by decide +kernel) rfl (Nat.le_of_ble_eq_true rfl) rfl rfl ?_
  intro p e R s m args below meth c C hini
  have hA : ∀ q, s.heap.size ≤ q → wA [(q1, .inr (1, [.ref q2, .int 0, .int 0, .int (nI n)])), (q2, eY Z 16 g)] s.heap.size q := fun q h => Or.inr h
  refine M_aload_n C 0 rfl rfl dJ4_append_15ec4_0 ?_
  refine M_aload_n C 1 rfl rfl dJ4_append_15ec4_1 ?_
  refine M_callSU C hA (wi1 := [(q1, .inr (1, [.ref q2, .int 0, .int 0, .int (nI n)])), (q2, eY Z 16 g)]) (wr := []) (As := [.ref q]) (rest := []) (kj_appS5 l hst Z q1 q2 n g q v t hn ht) js_J5_append_cf1ce_J4_29 (ci := 1) rfl (mRecv_cell C 0 rfl (ci := 1) rfl) (mSS_old (fun x hx => C.2.2.1 x hx)) (List.Perm.of_eq rfl) (by decide) ⟨by decide, by decide⟩ rfl rfl (Nat.le_of_ble_eq_true rfl) dJ4_append_15ec4_2 (fun v wo hq => ?_)
  obtain ⟨rfl, rfl⟩ := hq
  refine M_ws (ws1 := [(q1, .inr (1, [.ref q2, .int 0, .int 0, .int (nI (n + t.length))])), (q2, eY Z 16 (va_cpy (fun j => t.getD j 0) g 0 n t.length))]) rfl ?_
  refine M_st (st1 := [.ref q1]) rfl ?_
  refine M_pop C rfl dJ4_append_15ec4_5 ?_
  refine M_aload_n C 0 rfl rfl dJ4_append_15ec4_6 ?_
  exact M_aret C (Or.inl ⟨_, rfl⟩) rfl ⟨by decide, by decide⟩ dJ4_append_15ec4_7 (fun _ => ⟨rfl, rfl⟩)
set_option maxRecDepth 20000 in
theorem kj_ckl (l : Launch) (hst : l.stackTraces = false) (Z : mZ) (n : Nat) (hn : n ≤ 16) : mMet l Z yJ7_checkLength_df160 (.code yJ7_checkLength_df160 cJ7_checkLength_df160 2 none) 1 0 0 [.int 0, .int (nI n)] [] [] (fun r wo => r = none ∧ wo = []) := by
  refine mMet_of (z := ()) (X := some ()) (own := RJ7) (lv := [(0, .int 0), (1, .int (nI n))]) hst (by decide +kernel) rfl (Nat.le_of_ble_eq_true rfl) rfl rfl ?_
  intro p e R s m args below meth c C hini
  have hA : ∀ q, s.heap.size ≤ q → wA [] s.heap.size q := fun q h => Or.inr h
  refine M_iload_n C 1 rfl rfl dJ7_checkLength_df160_0 ?_
  refine M_iload_n C 0 rfl rfl dJ7_checkLength_df160_1 ?_
  refine M_icmp_geT C (tgt := 37) ((nI_le_iff (a := 0) (by omega) (by omega)).mpr (by omega)) (by decide) dJ7_checkLength_df160_2 ?_
  exact M_vret C rfl ⟨by decide, by decide⟩ dJ7_checkLength_df160_37 (fun _ => ⟨rfl, rfl⟩)
set_option maxRecDepth 20000 in
theorem kj_rngB (l : Launch) (hst : l.stackTraces = false) (Z : mZ) (q2 : Nat) (n : Nat) (g : Nat → Int32) (hn : n ≤ 16) (hg : ∀ i, i < 16 → fits .byte (.int (g i)) = true) : mMet l Z yJ7_copyOfRangeByte_39247 (.code yJ7_copyOfRangeByte_39247 cJ7_copyOfRangeByte_39247 5 (some (.array .byte))) 2 1 16 [.ref q2, .int 0, .int (nI n)] [(q2, eY Z 16 g)] [] (fun r wo => ∃ qv g2, r = some (.ref qv) ∧ (∀ i, i < n → g2 i = g i) ∧ wo = [(q2, eY Z 16 g), (qv, eY Z n g2)]) := by
  refine mMet_of (z := ()) (X := some ()) (own := RJ7) (lv := [(0, .ref q2), (1, .int 0), (2, .int (nI n))]) hst (by decide +kernel) rfl (Nat.le_of_ble_eq_true rfl) rfl rfl ?_
  intro p e R s m args below meth c C hini
  have hA : ∀ q, s.heap.size ≤ q → wA [(q2, eY Z 16 g)] s.heap.size q := fun q h => Or.inr h
  refine M_iload_n C 1 rfl rfl dJ7_copyOfRangeByte_39247_0 ?_
  refine M_iload_n C 2 rfl rfl dJ7_copyOfRangeByte_39247_1 ?_
  refine M_callS C hA (wi1 := []) (wr := [(q2, eY Z 16 g)]) (As := [.int 0, .int (nI n)]) (rest := []) (kj_ckl l hst Z n hn) jy_J7_checkLength_df160 jm_J7_343 mSS_nil (List.Perm.refl _) (by decide) ⟨by decide, by decide⟩ rfl rfl (Nat.le_of_ble_eq_true rfl) dJ7_copyOfRangeByte_39247_2 (fun v wo hq => ?_)
  obtain ⟨rfl, rfl⟩ := hq
  refine M_ws (ws1 := [(q2, eY Z 16 g)]) rfl ?_
  refine M_st (st1 := []) rfl ?_
  refine M_iload_n C 2 rfl rfl dJ7_copyOfRangeByte_39247_5 ?_
  refine M_iload_n C 1 rfl rfl dJ7_copyOfRangeByte_39247_6 ?_
  refine M_isub C dJ7_copyOfRangeByte_39247_7 ?_
  refine M_top (y := (nI n)) (Int32.sub_zero _) ?_
  refine M_istore_n C rfl (by decide) (lv1 := [(3, .int (nI n)), (0, .ref q2), (1, .int 0), (2, .int (nI n))]) rfl dJ7_copyOfRangeByte_39247_8 ?_
  refine M_iload_n C 0 rfl rfl dJ7_copyOfRangeByte_39247_9 ?_
  refine M_newB C hA (N := n) jac_byte (nI_npos (by omega)) (nI_clamp (by omega)) (by omega) (by decide) (by omega) dJ7_copyOfRangeByte_39247_10 (fun qv => ?_)
  refine M_ws (ws1 := [(q2, eY Z 16 g), (qv, eY Z n (fun _ => 0))]) rfl ?_
  refine M_astore C (by decide) (lv1 := [(4, .ref qv), (3, .int (nI n)), (0, .ref q2), (1, .int 0), (2, .int (nI n))]) rfl dJ7_copyOfRangeByte_39247_12 ?_
  refine M_aload_n C 2 rfl rfl dJ7_copyOfRangeByte_39247_14 ?_
  refine M_iload_n C 3 rfl rfl dJ7_copyOfRangeByte_39247_15 ?_
  refine M_aload C 0 rfl dJ7_copyOfRangeByte_39247_16 ?_
  refine M_iconst C (v := 0) (by decide) dJ7_copyOfRangeByte_39247_18 ?_
  refine M_aload_n C 2 rfl rfl dJ7_copyOfRangeByte_39247_19 ?_
  refine M_blen C 0 rfl (v := 16) rfl dJ7_copyOfRangeByte_39247_20 ?_
  refine M_iload_n C 3 rfl rfl dJ7_copyOfRangeByte_39247_21 ?_
  refine M_isub C dJ7_copyOfRangeByte_39247_22 ?_
  refine M_iload_n C 1 rfl rfl dJ7_copyOfRangeByte_39247_23 ?_
  refine M_mmin C jm_J7_min (by decide) ⟨by decide, by omega⟩ (Nat.le_of_ble_eq_true rfl) dJ7_copyOfRangeByte_39247_24 ?_
  refine M_top (y := (nI n)) (min16 n hn) ?_
  refine M_copyb C (sq := 0) (dq := 0) (nq := n) jm_J7_copy 0 1 rfl rfl (by decide) (by decide) (nI_npos (by omega)) rfl rfl (nI_clamp (by omega)) (by omega) (by omega) (fun i hi => by rw [Nat.zero_add]; exact hg i (by omega)) (by decide) (Nat.le_of_ble_eq_true rfl) (ws1 := [(q2, eY Z 16 g), (qv, eY Z n (va_cpy g (fun _ => 0) 0 0 n))]) rfl dJ7_copyOfRangeByte_39247_27 ?_
  refine M_aload C 0 rfl dJ7_copyOfRangeByte_39247_30 ?_
  exact M_aret C (Or.inr ⟨_, rfl⟩) rfl ⟨by omega, by omega⟩ dJ7_copyOfRangeByte_39247_32 (fun _ => ⟨qv, _, rfl, fun i hi => by unfold va_cpy; rw [if_pos ⟨by omega, by omega⟩, Nat.sub_zero, Nat.zero_add], rfl⟩)
set_option maxRecDepth 20000 in
theorem kj_rngL (l : Launch) (hst : l.stackTraces = false) (Z : mZ) (q2 : Nat) (n : Nat) (g : Nat → Int32) (hn : n ≤ 16) (hg : ∀ i, i < 16 → fits .byte (.int (g i)) = true) (h16 : n ≠ 16) : mMet l Z yJ7_copyOfRange_39247 (.code yJ7_copyOfRange_39247 cJ7_copyOfRange_39247 3 (some (.array .byte))) 3 1 16 [.ref q2, .int 0, .int (nI n)] [(q2, eY Z 16 g)] [] (fun r wo => ∃ qv g2, r = some (.ref qv) ∧ (∀ i, i < n → g2 i = g i) ∧ wo = [(q2, eY Z 16 g), (qv, eY Z n g2)]) := by
  refine mMet_of (z := ()) (X := some ()) (own := RJ7) (lv := [(0, .ref q2), (1, .int 0), (2, .int (nI n))]) hst (by decide +kernel) rfl (Nat.le_of_ble_eq_true rfl) rfl rfl ?_
  intro p e R s m args below meth c C hini
  have hA : ∀ q, s.heap.size ≤ q → wA [(q2, eY Z 16 g)] s.heap.size q := fun q h => Or.inr h
  refine M_iload_n C 1 rfl rfl dJ7_copyOfRange_39247_0 ?_
  refine M_if_neF C (tgt := 10) (by decide) (by decide) dJ7_copyOfRange_39247_1 ?_
  refine M_iload_n C 2 rfl rfl dJ7_copyOfRange_39247_4 ?_
  refine M_aload_n C 0 rfl rfl dJ7_copyOfRange_39247_5 ?_
  refine M_blen C 0 rfl (v := 16) rfl dJ7_copyOfRange_39247_6 ?_
  refine M_icmp_eqF C (tgt := 17) (fun q => by have := nI_inj (b := 16) (by omega) (by decide) q; omega) (by decide) dJ7_copyOfRange_39247_7 ?_
  refine M_aload_n C 0 rfl rfl dJ7_copyOfRange_39247_10 ?_
  refine M_iload_n C 1 rfl rfl dJ7_copyOfRange_39247_11 ?_
  refine M_iload_n C 2 rfl rfl dJ7_copyOfRange_39247_12 ?_
  refine M_callS C hA (wi1 := [(q2, eY Z 16 g)]) (wr := []) (As := [.ref q2, .int 0, .int (nI n)]) (rest := []) (kj_rngB l hst Z q2 n g hn hg) jy_J7_copyOfRangeByte_39247 jm_J7_339 mSS_nil (List.Perm.of_eq rfl) (by decide) ⟨by decide, by decide⟩ rfl rfl (Nat.le_of_ble_eq_true rfl) dJ7_copyOfRange_39247_13 (fun v wo hq => ?_)
  obtain ⟨qv, g2, rfl, hg2, rfl⟩ := hq
  refine M_ws (ws1 := [(q2, eY Z 16 g), (qv, eY Z n g2)]) rfl ?_
  refine M_st (st1 := [.ref qv]) rfl ?_
  exact M_aret C (Or.inr ⟨_, rfl⟩) rfl ⟨by decide, by decide⟩ dJ7_copyOfRange_39247_16 (fun _ => ⟨qv, g2, rfl, hg2, rfl⟩)
set_option maxRecDepth 20000 in
theorem kj_rngE (l : Launch) (hst : l.stackTraces = false) (Z : mZ) (q2 : Nat) (g : Nat → Int32) (hg : ∀ i, i < 16 → fits .byte (.int (g i)) = true) : mMet l Z yJ7_copyOfRange_39247 (.code yJ7_copyOfRange_39247 cJ7_copyOfRange_39247 3 (some (.array .byte))) 3 1 16 [.ref q2, .int 0, .int (nI 16)] [(q2, eY Z 16 g)] [] (fun r wo => ∃ qv g2, r = some (.ref qv) ∧ (∀ i, i < 16 → g2 i = g i) ∧ wo = [(q2, eY Z 16 g), (qv, eY Z 16 g2)]) := by
  refine mMet_of (z := ()) (X := some ()) (own := RJ7) (lv := [(0, .ref q2), (1, .int 0), (2, .int (nI 16))]) hst (by decide +kernel) rfl (Nat.le_of_ble_eq_true rfl) rfl rfl ?_
  intro p e R s m args below meth c C hini
  have hA : ∀ q, s.heap.size ≤ q → wA [(q2, eY Z 16 g)] s.heap.size q := fun q h => Or.inr h
  refine M_iload_n C 1 rfl rfl dJ7_copyOfRange_39247_0 ?_
  refine M_if_neF C (tgt := 10) (by decide) (by decide) dJ7_copyOfRange_39247_1 ?_
  refine M_iload_n C 2 rfl rfl dJ7_copyOfRange_39247_4 ?_
  refine M_aload_n C 0 rfl rfl dJ7_copyOfRange_39247_5 ?_
  refine M_blen C 0 rfl (v := 16) rfl dJ7_copyOfRange_39247_6 ?_
  refine M_icmp_eqT C (tgt := 17) rfl (by decide) dJ7_copyOfRange_39247_7 ?_
  refine M_aload_n C 0 rfl rfl dJ7_copyOfRange_39247_17 ?_
  refine M_clone C hA jm_J7_clone jc_same jc_nat jc_inst jc_sel 0 rfl hg (by decide) (Nat.le_of_ble_eq_true rfl) (by decide) (by decide) dJ7_copyOfRange_39247_18 (fun qv => ?_)
  refine M_ws (ws1 := [(q2, eY Z 16 g), (qv, eY Z 16 g)]) rfl ?_
  refine M_castB C jcl_J7_B 1 rfl dJ7_copyOfRange_39247_21 ?_
  exact M_aret C (Or.inr ⟨_, rfl⟩) rfl ⟨by decide, by decide⟩ dJ7_copyOfRange_39247_24 (fun _ => ⟨qv, g, rfl, fun _ _ => rfl, rfl⟩)
theorem kj_rng (l : Launch) (hst : l.stackTraces = false) (Z : mZ) (q2 : Nat) (n : Nat) (g : Nat → Int32) (hn : n ≤ 16) (hg : ∀ i, i < 16 → fits .byte (.int (g i)) = true) : mMet l Z yJ7_copyOfRange_39247 (.code yJ7_copyOfRange_39247 cJ7_copyOfRange_39247 3 (some (.array .byte))) 3 1 16 [.ref q2, .int 0, .int (nI n)] [(q2, eY Z 16 g)] [] (fun r wo => ∃ qv g2, r = some (.ref qv) ∧ (∀ i, i < n → g2 i = g i) ∧ wo = [(q2, eY Z 16 g), (qv, eY Z n g2)]) := by
  by_cases h : n = 16
  · subst h
    exact kj_rngE l hst Z q2 g hg
  · exact kj_rngL l hst Z q2 n g hn hg h
set_option maxRecDepth 20000 in
theorem kj_blen4 (l : Launch) (hst : l.stackTraces = false) (Z : mZ) (q1 q2 : Nat) (n : Int32) (g : Nat → Int32)  : mMet l Z yJ4_length_8abf5 (.code yJ4_length_8abf5 cJ4_length_8abf5 1 (some .int)) 2 0 0 [.ref q1] [(q1, .inr (1, [.ref q2, .int 0, .int 0, .int n])), (q2, eY Z 16 g)] [] (fun r wo => r = some (.int n) ∧ wo = [(q1, .inr (1, [.ref q2, .int 0, .int 0, .int n])), (q2, eY Z 16 g)]) := by
  refine mMet_of (z := ()) (X := some ()) (own := RJ4) (lv := [(0, .ref q1)]) hst (by decide +kernel) rfl (Nat.le_of_ble_eq_true rfl) rfl rfl ?_
  intro p e R s m args below meth c C hini
  have hA : ∀ q, s.heap.size ≤ q → wA [(q1, .inr (1, [.ref q2, .int 0, .int 0, .int n])), (q2, eY Z 16 g)] s.heap.size q := fun q h => Or.inr h
  refine M_aload_n C 0 rfl rfl dJ4_length_8abf5_0 ?_
  refine M_callSU C hA (wi1 := [(q1, .inr (1, [.ref q2, .int 0, .int 0, .int n])), (q2, eY Z 16 g)]) (wr := []) (As := []) (rest := []) (kj_blen l hst Z q1 q2 n g) js_J5_length_8abf5_J4_343 (ci := 1) rfl (mRecv_cell C 0 rfl (ci := 1) rfl) mSS_nil (List.Perm.of_eq rfl) (by decide) ⟨by decide, by decide⟩ rfl rfl (Nat.le_of_ble_eq_true rfl) dJ4_length_8abf5_1 (fun v wo hq => ?_)
  obtain ⟨rfl, rfl⟩ := hq
  refine M_ws (ws1 := [(q1, .inr (1, [.ref q2, .int 0, .int 0, .int n])), (q2, eY Z 16 g)]) rfl ?_
  refine M_st (st1 := [.int n]) rfl ?_
  exact M_iret C (ty := .int) rfl rfl ⟨by decide, by decide⟩ dJ4_length_8abf5_4 (fun _ => ⟨rfl, rfl⟩)
set_option maxRecDepth 20000 in
theorem kj_str5 (l : Launch) (hst : l.stackTraces = false) (Z : mZ) (q1 q2 qs : Nat) (n : Nat) (g : Nat → Int32) (hn : n ≤ 16) (hg : ∀ i, i < 16 → fits .byte (.int (g i)) = true) : mMet l Z yJ0_init_db425 (.code yJ0_init_db425 cJ0_init_db425 5 none) 4 1 16 [.ref qs, .ref q1, .null] [(q1, .inr (1, [.ref q2, .int 0, .int 0, .int (nI n)])), (q2, eY Z 16 g), (qs, .inr (0, [.null, .int 0, .int 0, .int 0]))] [] (fun r wo => r = none ∧ ∃ qv g2, (∀ i, i < n → g2 i = g i) ∧ wo = [(q1, .inr (1, [.ref q2, .int 0, .int 0, .int (nI n)])), (q2, eY Z 16 g), (qs, .inr (0, [.ref qv, .int 0, .int 0, .int 0])), (qv, eY Z n g2)]) := by
  refine mMet_of (z := ()) (X := some ()) (own := RJ0) (lv := [(0, .ref qs), (1, .ref q1), (2, .null)]) hst (by decide +kernel) rfl (Nat.le_of_ble_eq_true rfl) rfl rfl ?_
  intro p e R s m args below meth c C hini
  have hA : ∀ q, s.heap.size ≤ q → wA [(q1, .inr (1, [.ref q2, .int 0, .int 0, .int (nI n)])), (q2, eY Z 16 g), (qs, .inr (0, [.null, .int 0, .int 0, .int 0]))] s.heap.size q := fun q h => Or.inr h
  refine M_aload_n C 0 rfl rfl dJ0_init_db425_0 ?_
  refine M_obj C jo_J0_1 (by decide) (Nat.le_of_ble_eq_true rfl) dJ0_init_db425_1 ?_
  refine M_aload_n C 1 rfl rfl dJ0_init_db425_4 ?_
  refine M_callU C hA (wi1 := [(q1, .inr (1, [.ref q2, .int 0, .int 0, .int (nI n)])), (q2, eY Z 16 g)]) (wr := [(qs, .inr (0, [.null, .int 0, .int 0, .int 0]))]) (As := []) (rest := []) (kj_bval l hst Z q1 q2 (nI n) g) ju_J0_552_J4 (C.1.2.2.2.2 _ jsel_J0_552_J4) (mRecv_cell C 0 rfl (ci := 1) rfl) mSS_nil (List.Perm.of_eq rfl) (by decide) ⟨by decide, by decide⟩ rfl rfl (Nat.le_of_ble_eq_true rfl) dJ0_init_db425_5 (fun v wo hq => ?_)
  obtain ⟨rfl, rfl⟩ := hq
  refine M_ws (ws1 := [(q1, .inr (1, [.ref q2, .int 0, .int 0, .int (nI n)])), (q2, eY Z 16 g), (qs, .inr (0, [.null, .int 0, .int 0, .int 0]))]) rfl ?_
  refine M_st (st1 := [.ref q2]) rfl ?_
  refine M_astore_n C rfl (by decide) (lv1 := [(3, .ref q2), (0, .ref qs), (1, .ref q1), (2, .null)]) rfl dJ0_init_db425_8 ?_
  refine M_aload_n C 2 rfl rfl dJ0_init_db425_9 ?_
  refine M_callU C hA (wi1 := [(q1, .inr (1, [.ref q2, .int 0, .int 0, .int (nI n)])), (q2, eY Z 16 g)]) (wr := [(qs, .inr (0, [.null, .int 0, .int 0, .int 0]))]) (As := []) (rest := []) (kj_blen4 l hst Z q1 q2 (nI n) g) ju_J0_549_J4 (C.1.2.2.2.2 _ jsel_J0_549_J4) (mRecv_cell C 0 rfl (ci := 1) rfl) mSS_nil (List.Perm.of_eq rfl) (by decide) ⟨by decide, by decide⟩ rfl rfl (Nat.le_of_ble_eq_true rfl) dJ0_init_db425_10 (fun v wo hq => ?_)
  obtain ⟨rfl, rfl⟩ := hq
  refine M_ws (ws1 := [(q1, .inr (1, [.ref q2, .int 0, .int 0, .int (nI n)])), (q2, eY Z 16 g), (qs, .inr (0, [.null, .int 0, .int 0, .int 0]))]) rfl ?_
  refine M_st (st1 := [.int (nI n)]) rfl ?_
  refine M_istore C (by decide) (lv1 := [(4, .int (nI n)), (3, .ref q2), (0, .ref qs), (1, .ref q1), (2, .null)]) rfl dJ0_init_db425_13 ?_
  refine M_aload_n C 3 rfl rfl dJ0_init_db425_15 ?_
  refine M_callU C hA (wi1 := [(q1, .inr (1, [.ref q2, .int 0, .int 0, .int (nI n)])), (q2, eY Z 16 g)]) (wr := [(qs, .inr (0, [.null, .int 0, .int 0, .int 0]))]) (As := []) (rest := []) (kj_bL l hst Z q1 q2 (nI n) g) ju_J0_1047_J4 (C.1.2.2.2.2 _ jsel_J0_1047_J4) (mRecv_cell C 0 rfl (ci := 1) rfl) mSS_nil (List.Perm.of_eq rfl) (by decide) ⟨by decide, by decide⟩ rfl rfl (Nat.le_of_ble_eq_true rfl) dJ0_init_db425_16 (fun v wo hq => ?_)
  obtain ⟨rfl, rfl⟩ := hq
  refine M_ws (ws1 := [(q1, .inr (1, [.ref q2, .int 0, .int 0, .int (nI n)])), (q2, eY Z 16 g), (qs, .inr (0, [.null, .int 0, .int 0, .int 0]))]) rfl ?_
  refine M_st (st1 := [.int 1]) rfl ?_
  refine M_if_eqF C (tgt := 41) (by decide) (by decide) dJ0_init_db425_19 ?_
  refine M_aload_n C 2 rfl rfl dJ0_init_db425_22 ?_
  refine M_iconst C (v := 0) (by decide) dJ0_init_db425_23 ?_
  refine M_putF C hini kin_J0 (ci := 0) rfl 2 rfl 1 (by decide) jf_J0_15 rfl tyJ0 tyJ0_ok nmJ0 rfl rfl (ty := tyJ0 1) (v := .int 0) rfl rfl rfl (Nat.le_of_ble_eq_true rfl) (ws1 := [(q1, .inr (1, [.ref q2, .int 0, .int 0, .int (nI n)])), (q2, eY Z 16 g), (qs, .inr (0, [.null, .int 0, .int 0, .int 0]))]) rfl dJ0_init_db425_24 ?_
  refine M_aload_n C 2 rfl rfl dJ0_init_db425_27 ?_
  refine M_aload_n C 1 rfl rfl dJ0_init_db425_28 ?_
  refine M_iconst C (v := 0) (by decide) dJ0_init_db425_29 ?_
  refine M_iload C 0 rfl dJ0_init_db425_30 ?_
  refine M_callS C hA (wi1 := [(q2, eY Z 16 g)]) (wr := [(q1, .inr (1, [.ref q2, .int 0, .int 0, .int (nI n)])), (qs, .inr (0, [.null, .int 0, .int 0, .int 0]))]) (As := [.ref q2, .int 0, .int (nI n)]) (rest := [.ref qs]) (kj_rng l hst Z q2 n g hn hg) jy_J7_copyOfRange_39247 jm_J0_54 mSS_nil (List.Perm.swap _ _ _) (by decide) ⟨by decide, by decide⟩ rfl rfl (Nat.le_of_ble_eq_true rfl) dJ0_init_db425_32 (fun v wo hq => ?_)
  obtain ⟨qv, g2, rfl, hg2, rfl⟩ := hq
  refine M_ws (ws1 := [(q2, eY Z 16 g), (qv, eY Z n g2), (q1, .inr (1, [.ref q2, .int 0, .int 0, .int (nI n)])), (qs, .inr (0, [.null, .int 0, .int 0, .int 0]))]) rfl ?_
  refine M_st (st1 := [.ref qv, .ref qs]) rfl ?_
  refine M_putF C hini kin_J0 (ci := 0) rfl 3 rfl 0 (by decide) jf_J0_9 rfl tyJ0 tyJ0_ok nmJ0 rfl rfl (ty := tyJ0 0) (v := .ref qv) rfl rfl rfl (Nat.le_of_ble_eq_true rfl) (ws1 := [(q2, eY Z 16 g), (qv, eY Z n g2), (q1, .inr (1, [.ref q2, .int 0, .int 0, .int (nI n)])), (qs, .inr (0, [.ref qv, .int 0, .int 0, .int 0]))]) rfl dJ0_init_db425_35 ?_
  refine M_goto C (tgt := 97) (by decide) dJ0_init_db425_38 ?_
  refine M_perm (pm4 _ _ _ _) ?_
  exact M_vret C rfl ⟨by decide, by decide⟩ dJ0_init_db425_97 (fun _ => ⟨rfl, qv, g2, hg2, rfl⟩)
set_option maxRecDepth 20000 in
theorem kj_str4 (l : Launch) (hst : l.stackTraces = false) (Z : mZ) (q1 q2 qs : Nat) (n : Nat) (g : Nat → Int32) (hn : n ≤ 16) (hg : ∀ i, i < 16 → fits .byte (.int (g i)) = true) : mMet l Z yJ0_init_81219 (.code yJ0_init_81219 cJ0_init_81219 2 none) 5 1 16 [.ref qs, .ref q1] [(q1, .inr (1, [.ref q2, .int 0, .int 0, .int (nI n)])), (q2, eY Z 16 g), (qs, .inr (0, [.null, .int 0, .int 0, .int 0]))] [] (fun r wo => r = none ∧ ∃ qv g2, (∀ i, i < n → g2 i = g i) ∧ wo = [(q1, .inr (1, [.ref q2, .int 0, .int 0, .int (nI n)])), (q2, eY Z 16 g), (qs, .inr (0, [.ref qv, .int 0, .int 0, .int 0])), (qv, eY Z n g2)]) := by
  refine mMet_of (z := ()) (X := some ()) (own := RJ0) (lv := [(0, .ref qs), (1, .ref q1)]) hst (by decide +kernel) rfl (Nat.le_of_ble_eq_true rfl) rfl rfl ?_
  intro p e R s m args below meth c C hini
  have hA : ∀ q, s.heap.size ≤ q → wA [(q1, .inr (1, [.ref q2, .int 0, .int 0, .int (nI n)])), (q2, eY Z 16 g), (qs, .inr (0, [.null, .int 0, .int 0, .int 0]))] s.heap.size q := fun q h => Or.inr h
  refine M_aload_n C 0 rfl rfl dJ0_init_81219_0 ?_
  refine M_aload_n C 1 rfl rfl dJ0_init_81219_1 ?_
  refine M_acn C dJ0_init_81219_2 ?_
  refine M_callI C hA (wi1 := [(q1, .inr (1, [.ref q2, .int 0, .int 0, .int (nI n)])), (q2, eY Z 16 g), (qs, .inr (0, [.null, .int 0, .int 0, .int 0]))]) (wr := []) (As := [.ref q1, .null]) (rest := []) (kj_str5 l hst Z q1 q2 qs n g hn hg) jy_J0_init_db425 jm_J0_489 mSS_nil (List.Perm.of_eq rfl) (by decide) ⟨by decide, by decide⟩ rfl rfl (Nat.le_of_ble_eq_true rfl) dJ0_init_81219_3 (fun v wo hq => ?_)
  obtain ⟨rfl, qv, g2, hg2, rfl⟩ := hq
  refine M_ws (ws1 := [(q1, .inr (1, [.ref q2, .int 0, .int 0, .int (nI n)])), (q2, eY Z 16 g), (qs, .inr (0, [.ref qv, .int 0, .int 0, .int 0])), (qv, eY Z n g2)]) rfl ?_
  refine M_st (st1 := []) rfl ?_
  exact M_vret C rfl ⟨by decide, by decide⟩ dJ0_init_81219_6 (fun _ => ⟨rfl, qv, g2, hg2, rfl⟩)
set_option maxRecDepth 20000 in
theorem kj_toS (l : Launch) (hst : l.stackTraces = false) (Z : mZ) (q1 q2 : Nat) (n : Nat) (g : Nat → Int32) (hn : n ≤ 16) (hg : ∀ i, i < 16 → fits .byte (.int (g i)) = true) : mMet l Z yJ4_toString_0e30d (.code yJ4_toString_0e30d cJ4_toString_0e30d 1 (some (.object "java/lang/String"))) 6 2 20 [.ref q1] [(q1, .inr (1, [.ref q2, .int 0, .int 0, .int (nI n)])), (q2, eY Z 16 g)] [] (fun r wo => ∃ qs qv g2, r = some (.ref qs) ∧ (∀ i, i < n → g2 i = g i) ∧ wo = [(q1, .inr (1, [.ref q2, .int 0, .int 0, .int (nI n)])), (q2, eY Z 16 g), (qs, .inr (0, [.ref qv, .int 0, .int 0, .int 0])), (qv, eY Z n g2)]) := by
  refine mMet_of (z := ()) (X := some ()) (own := RJ4) (lv := [(0, .ref q1)]) hst (by decide +kernel) rfl (Nat.le_of_ble_eq_true rfl) rfl rfl ?_
  intro p e R s m args below meth c C hini
  have hA : ∀ q, s.heap.size ≤ q → wA [(q1, .inr (1, [.ref q2, .int 0, .int 0, .int (nI n)])), (q2, eY Z 16 g)] s.heap.size q := fun q h => Or.inr h
  refine M_new C hA (ci := 0) (fs := [.null, .int 0, .int 0, .int 0]) kin_J0 tyJ0 tyJ0_ok jcl_J4_18 jins_J0 jini_J0 rfl dfJ0 (by decide) (by decide) dJ4_toString_0e30d_0 (fun qs => ?_)
  refine M_ws (ws1 := [(q1, .inr (1, [.ref q2, .int 0, .int 0, .int (nI n)])), (q2, eY Z 16 g), (qs, .inr (0, [.null, .int 0, .int 0, .int 0]))]) rfl ?_
  refine M_dup C rfl dJ4_toString_0e30d_3 ?_
  refine M_aload_n C 0 rfl rfl dJ4_toString_0e30d_4 ?_
  refine M_callI C hA (wi1 := [(q1, .inr (1, [.ref q2, .int 0, .int 0, .int (nI n)])), (q2, eY Z 16 g), (qs, .inr (0, [.null, .int 0, .int 0, .int 0]))]) (wr := []) (As := [.ref q1]) (rest := [.ref qs]) (kj_str4 l hst Z q1 q2 qs n g hn hg) jy_J0_init_81219 jm_J4_137 mSS_nil (List.Perm.of_eq rfl) (by decide) ⟨by decide, by decide⟩ rfl rfl (Nat.le_of_ble_eq_true rfl) dJ4_toString_0e30d_5 (fun v wo hq => ?_)
  obtain ⟨rfl, qv, g2, hg2, rfl⟩ := hq
  refine M_ws (ws1 := [(q1, .inr (1, [.ref q2, .int 0, .int 0, .int (nI n)])), (q2, eY Z 16 g), (qs, .inr (0, [.ref qv, .int 0, .int 0, .int 0])), (qv, eY Z n g2)]) rfl ?_
  refine M_st (st1 := [.ref qs]) rfl ?_
  exact M_aret C (Or.inl ⟨_, rfl⟩) rfl ⟨by decide, by decide⟩ dJ4_toString_0e30d_8 (fun _ => ⟨qs, qv, g2, rfl, hg2, rfl⟩)
set_option maxRecDepth 20000 in
theorem kj_dnan (l : Launch) (hst : l.stackTraces = false) (Z : mZ) (x : UInt64) (hx : FP.Core.dIsNaN x = false) : mMet l Z yJxe99ae_isNaN_b9ae7 (.code yJxe99ae_isNaN_b9ae7 cJxe99ae_isNaN_b9ae7 2 (some .boolean)) 1 0 0 [.double x] [] [] (fun r wo => r = some (.int 0) ∧ wo = []) := by
  refine mMet_of (z := ()) (X := some ()) (own := RJxe99ae) (lv := [(0, .double x)]) hst (by decide +kernel) rfl (Nat.le_of_ble_eq_true rfl) rfl rfl ?_
  intro p e R s m args below meth c C hini
  have hA : ∀ q, s.heap.size ≤ q → wA [] s.heap.size q := fun q h => Or.inr h
  refine M_dload_n C 0 rfl rfl dJxe99ae_isNaN_b9ae7_0 ?_
  refine M_dload_n C 0 rfl rfl dJxe99ae_isNaN_b9ae7_1 ?_
  refine M_dcmp C dJxe99ae_isNaN_b9ae7_2 ?_
  refine M_top (y := 0) (by rw [dcmpI hx]; rfl) ?_
  refine M_if_eqT C (tgt := 10) rfl (by decide) dJxe99ae_isNaN_b9ae7_3 ?_
  refine M_iconst C (v := 0) (by decide) dJxe99ae_isNaN_b9ae7_10 ?_
  exact M_iret C (ty := .boolean) rfl rfl ⟨by decide, by decide⟩ dJxe99ae_isNaN_b9ae7_11 (fun _ => ⟨rfl, rfl⟩)
set_option maxRecDepth 20000 in
theorem kj_dbits (l : Launch) (hst : l.stackTraces = false) (Z : mZ) (x : UInt64) (hx : FP.Core.dIsNaN x = false) : mMet l Z yJxe99ae_doubleToLongBits_ccdee (.code yJxe99ae_doubleToLongBits_ccdee cJxe99ae_doubleToLongBits_ccdee 2 (some .long)) 2 0 0 [.double x] [] [] (fun r wo => r = some (.long x.toInt64) ∧ wo = []) := by
  refine mMet_of (z := ()) (X := some ()) (own := RJxe99ae) (lv := [(0, .double x)]) hst (by decide +kernel) rfl (Nat.le_of_ble_eq_true rfl) rfl rfl ?_
  intro p e R s m args below meth c C hini
  have hA : ∀ q, s.heap.size ≤ q → wA [] s.heap.size q := fun q h => Or.inr h
  refine M_dload_n C 0 rfl rfl dJxe99ae_doubleToLongBits_ccdee_0 ?_
  refine M_callS C hA (wi1 := []) (wr := []) (As := [.double x]) (rest := []) (kj_dnan l hst Z x hx) jy_Jxe99ae_isNaN_b9ae7 jm_Jxe99ae_122 mSS_nil (List.Perm.of_eq rfl) (by decide) ⟨by decide, by decide⟩ rfl rfl (Nat.le_of_ble_eq_true rfl) dJxe99ae_doubleToLongBits_ccdee_1 (fun v wo hq => ?_)
  obtain ⟨rfl, rfl⟩ := hq
  refine M_ws (ws1 := []) rfl ?_
  refine M_st (st1 := [.int 0]) rfl ?_
  refine M_if_neF C (tgt := 12) (by decide) (by decide) dJxe99ae_doubleToLongBits_ccdee_4 ?_
  refine M_dload_n C 0 rfl rfl dJxe99ae_doubleToLongBits_ccdee_7 ?_
  refine M_d2raw C jm_draw jw_draw (by decide) (Nat.le_of_ble_eq_true rfl) dJxe99ae_doubleToLongBits_ccdee_8 ?_
  exact M_lret C rfl ⟨by decide, by decide⟩ dJxe99ae_doubleToLongBits_ccdee_11 (fun _ => ⟨rfl, rfl⟩)
set_option maxRecDepth 20000 in
theorem kj_fnan (l : Launch) (hst : l.stackTraces = false) (Z : mZ) (x : UInt32) (hx : FP.Core.fIsNaN x = false) : mMet l Z yJxf58ca_isNaN_12338 (.code yJxf58ca_isNaN_12338 cJxf58ca_isNaN_12338 1 (some .boolean)) 1 0 0 [.float x] [] [] (fun r wo => r = some (.int 0) ∧ wo = []) := by
  refine mMet_of (z := ()) (X := some ()) (own := RJxf58ca) (lv := [(0, .float x)]) hst (by decide +kernel) rfl (Nat.le_of_ble_eq_true rfl) rfl rfl ?_
  intro p e R s m args below meth c C hini
  have hA : ∀ q, s.heap.size ≤ q → wA [] s.heap.size q := fun q h => Or.inr h
  refine M_fload_n C 0 rfl rfl dJxf58ca_isNaN_12338_0 ?_
  refine M_fload_n C 0 rfl rfl dJxf58ca_isNaN_12338_1 ?_
  refine M_fcmp C dJxf58ca_isNaN_12338_2 ?_
  refine M_top (y := 0) (by rw [fcmpI hx]; rfl) ?_
  refine M_if_eqT C (tgt := 10) rfl (by decide) dJxf58ca_isNaN_12338_3 ?_
  refine M_iconst C (v := 0) (by decide) dJxf58ca_isNaN_12338_10 ?_
  exact M_iret C (ty := .boolean) rfl rfl ⟨by decide, by decide⟩ dJxf58ca_isNaN_12338_11 (fun _ => ⟨rfl, rfl⟩)
set_option maxRecDepth 20000 in
theorem kj_fbits (l : Launch) (hst : l.stackTraces = false) (Z : mZ) (x : UInt32) (hx : FP.Core.fIsNaN x = false) : mMet l Z yJxf58ca_floatToIntBits_5c35a (.code yJxf58ca_floatToIntBits_5c35a cJxf58ca_floatToIntBits_5c35a 1 (some .int)) 2 0 0 [.float x] [] [] (fun r wo => r = some (.int x.toInt32) ∧ wo = []) := by
  refine mMet_of (z := ()) (X := some ()) (own := RJxf58ca) (lv := [(0, .float x)]) hst (by decide +kernel) rfl (Nat.le_of_ble_eq_true rfl) rfl rfl ?_
  intro p e R s m args below meth c C hini
  have hA : ∀ q, s.heap.size ≤ q → wA [] s.heap.size q := fun q h => Or.inr h
  refine M_fload_n C 0 rfl rfl dJxf58ca_floatToIntBits_5c35a_0 ?_
  refine M_callS C hA (wi1 := []) (wr := []) (As := [.float x]) (rest := []) (kj_fnan l hst Z x hx) jy_Jxf58ca_isNaN_12338 jm_Jxf58ca_59 mSS_nil (List.Perm.of_eq rfl) (by decide) ⟨by decide, by decide⟩ rfl rfl (Nat.le_of_ble_eq_true rfl) dJxf58ca_floatToIntBits_5c35a_1 (fun v wo hq => ?_)
  obtain ⟨rfl, rfl⟩ := hq
  refine M_ws (ws1 := []) rfl ?_
  refine M_st (st1 := [.int 0]) rfl ?_
  refine M_if_neF C (tgt := 12) (by decide) (by decide) dJxf58ca_floatToIntBits_5c35a_4 ?_
  refine M_fload_n C 0 rfl rfl dJxf58ca_floatToIntBits_5c35a_7 ?_
  refine M_f2raw C jm_fraw jw_fraw (by decide) (Nat.le_of_ble_eq_true rfl) dJxf58ca_floatToIntBits_5c35a_8 ?_
  exact M_iret C (ty := .int) rfl rfl ⟨by decide, by decide⟩ dJxf58ca_floatToIntBits_5c35a_11 (fun _ => ⟨rfl, rfl⟩)
