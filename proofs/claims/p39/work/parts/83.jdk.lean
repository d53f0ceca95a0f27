/-! contracts of the JDK's methods that the law reaches: texts (Latin-1), builders that never grow, bits of doubles and floats -/
theorem kin_J0 : ∀ z ∈ u_ws RJ0 TJ0 4, z ∈ kGT := kgt_all (by decide +kernel)
theorem kin_J4 : ∀ z ∈ u_ws RJ4 TJ4 4, z ∈ kGT := kgt_all (by decide +kernel)
theorem let8 : ∀ c, c < 128 → ((nI c &&& 255).toUInt32 % 65536).toInt32 = nI c := by decide +kernel
theorem letC : ∀ c, c < 128 → narrow .char (.int (nI c)) = .int (nI c) := by decide +kernel
theorem letN : ∀ c, c < 128 → ¬ (255 : Int32) < nI c := by decide +kernel
theorem letB : ∀ c, c < 128 → (nI c).toInt8.toInt32 = nI c := by decide +kernel
theorem letV : ∀ c, c < 128 → vp_nar .byte (nI c) = nI c := by decide +kernel
theorem letF : ∀ c, c < 128 → fits .byte (.int (nI c)) = true := by decide +kernel
theorem cap16 : ∀ k, k ≤ 16 → nI k - (16 : Int32) >>> ((0 : Int32) &&& 31) ≤ 0 := fun k hk => (show ∀ k, k < 17 → nI k - (16 : Int32) >>> ((0 : Int32) &&& 31) ≤ 0 by decide +kernel) k (by omega)
theorem nI_npos {i : Nat} (h : i < 2 ^ 31) : ¬ nI i < 0 := fun q => by
  have := Int32.lt_iff_toInt_lt.mp q
  rw [nI_toInt h] at this
  simp at this
  omega
theorem jf_J0_38 : Cond.fieldLink RJ0 38 "java/lang/String" "COMPACT_STRINGS" "Z" ∈ kGT := kgt (List.mem_of_getElem? (i := 1319) (by decide +kernel)) rfl
theorem jf_J0_15 : Cond.fieldLink RJ0 15 "java/lang/String" "coder" "B" ∈ kGT := kgt (List.mem_of_getElem? (i := 1351) (by decide +kernel)) rfl
theorem jf_J0_9 : Cond.fieldLink RJ0 9 "java/lang/String" "value" "[B" ∈ kGT := kgt (List.mem_of_getElem? (i := 1350) (by decide +kernel)) rfl
theorem jy_J0_coder_7d493 : kYV yJ0_coder_7d493 cJ0_coder_7d493 1 (some .byte) 0 := ⟨⟨kgt (List.mem_of_getElem? (i := 1318) (by decide +kernel)) rfl, kgt (List.mem_of_getElem? (i := 40) (by decide +kernel)) rfl, by decide +kernel, by decide⟩, kgt (List.mem_of_getElem? (i := 1316) (by decide +kernel)) rfl, kgt (List.mem_of_getElem? (i := 1317) (by decide +kernel)) rfl⟩
theorem jm_J0_335 : Cond.methodLink RJ0 335 yJ0_coder_7d493 ∈ kGT := kgt (List.mem_of_getElem? (i := 1315) (by decide +kernel)) rfl
theorem jf_sioobe : Cond.fieldLink RJ0 1053 "jdk/internal/util/Preconditions" "SIOOBE_FORMATTER" "Ljava/util/function/BiFunction;" ∈ kGT := kgt (List.mem_of_getElem? (i := 1197) (by decide +kernel)) rfl
theorem jy_J3_checkIndex_8e157 : kYS yJ3_checkIndex_8e157 cJ3_checkIndex_8e157 3 (some .int) 3 := ⟨⟨kgt (List.mem_of_getElem? (i := 1256) (by decide +kernel)) rfl, kgt (List.mem_of_getElem? (i := 53) (by decide +kernel)) rfl, by decide +kernel, by decide⟩, kgt (List.mem_of_getElem? (i := 1255) (by decide +kernel)) rfl⟩
theorem jm_J0_1059 : Cond.methodLink RJ0 1059 yJ3_checkIndex_8e157 ∈ kGT := kgt (List.mem_of_getElem? (i := 1254) (by decide +kernel)) rfl
theorem jy_J0_checkIndex_df160 : kYS yJ0_checkIndex_df160 cJ0_checkIndex_df160 2 none 2 := ⟨⟨kgt (List.mem_of_getElem? (i := 1253) (by decide +kernel)) rfl, kgt (List.mem_of_getElem? (i := 40) (by decide +kernel)) rfl, by decide +kernel, by decide⟩, kgt (List.mem_of_getElem? (i := 1252) (by decide +kernel)) rfl⟩
theorem jm_J1_9 : Cond.methodLink RJ1 9 yJ0_checkIndex_df160 ∈ kGT := kgt (List.mem_of_getElem? (i := 1375) (by decide +kernel)) rfl
theorem jy_J0_isLatin1_aae02 : kYV yJ0_isLatin1_aae02 cJ0_isLatin1_aae02 1 (some .boolean) 0 := ⟨⟨kgt (List.mem_of_getElem? (i := 1371) (by decide +kernel)) rfl, kgt (List.mem_of_getElem? (i := 40) (by decide +kernel)) rfl, by decide +kernel, by decide⟩, kgt (List.mem_of_getElem? (i := 1369) (by decide +kernel)) rfl, kgt (List.mem_of_getElem? (i := 1370) (by decide +kernel)) rfl⟩
theorem jm_J0_492 : Cond.methodLink RJ0 492 yJ0_isLatin1_aae02 ∈ kGT := kgt (List.mem_of_getElem? (i := 1368) (by decide +kernel)) rfl
theorem jy_J1_charAt_3b067 : kYS yJ1_charAt_3b067 cJ1_charAt_3b067 2 (some .char) 2 := ⟨⟨kgt (List.mem_of_getElem? (i := 1374) (by decide +kernel)) rfl, kgt (List.mem_of_getElem? (i := 54) (by decide +kernel)) rfl, by decide +kernel, by decide⟩, kgt (List.mem_of_getElem? (i := 1373) (by decide +kernel)) rfl⟩
theorem jm_J0_495 : Cond.methodLink RJ0 495 yJ1_charAt_3b067 ∈ kGT := kgt (List.mem_of_getElem? (i := 1372) (by decide +kernel)) rfl
theorem jf_J5_18 : Cond.fieldLink RJ5 18 "java/lang/String" "COMPACT_STRINGS" "Z" ∈ kGT := kgt (List.mem_of_getElem? (i := 1112) (by decide +kernel)) rfl
theorem jf_J5_22 : Cond.fieldLink RJ5 22 "java/lang/AbstractStringBuilder" "coder" "B" ∈ kGT := kgt (List.mem_of_getElem? (i := 1122) (by decide +kernel)) rfl
theorem jf_J5_79 : Cond.fieldLink RJ5 79 "java/lang/AbstractStringBuilder" "count" "I" ∈ kGT := kgt (List.mem_of_getElem? (i := 1124) (by decide +kernel)) rfl
theorem jf_J5_15 : Cond.fieldLink RJ5 15 "java/lang/AbstractStringBuilder" "value" "[B" ∈ kGT := kgt (List.mem_of_getElem? (i := 1121) (by decide +kernel)) rfl
theorem ju_J5_100_J4 : kYU RJ5 100 yJ5_ensureCapacityInternal_d00df yJ5_ensureCapacityInternal_d00df cJ5_ensureCapacityInternal_d00df 3 none 1 := ⟨⟨kgt (List.mem_of_getElem? (i := 1144) (by decide +kernel)) rfl, kgt (List.mem_of_getElem? (i := 1605) (by decide +kernel)) rfl, ⟨cJ5_ensureCapacityInternal_d00df, 3, none, kgt (List.mem_of_getElem? (i := 1147) (by decide +kernel)) rfl⟩, kgt (List.mem_of_getElem? (i := 1146) (by decide +kernel)) rfl⟩, kgt (List.mem_of_getElem? (i := 1146) (by decide +kernel)) rfl, kgt (List.mem_of_getElem? (i := 48) (by decide +kernel)) rfl, kgt (List.mem_of_getElem? (i := 1147) (by decide +kernel)) rfl, by decide +kernel, by decide⟩
theorem jins_J4 : Cond.instantiable RJ4 4 ∈ kGT := kgt (List.mem_of_getElem? (i := 1104) (by decide +kernel)) rfl
theorem jsl_J4 : Cond.selects RJ4 yJ5_isLatin1_aae02 yJ5_isLatin1_aae02 ∈ kGT := kgt (List.mem_of_getElem? (i := 1176) (by decide +kernel)) rfl
theorem jpv_J5_ensureCapacityInternal_d00df : Cond.privateMethod yJ5_ensureCapacityInternal_d00df ∈ mNW := by decide +kernel
theorem jim_J5_ensureCapacityInternal_d00df : Cond.instanceMethod yJ5_ensureCapacityInternal_d00df ∈ kGT := kgt (List.mem_of_getElem? (i := 1146) (by decide +kernel)) rfl
theorem ju_J5_83_J4 : kYU RJ5 83 yJ5_isLatin1_aae02 yJ5_isLatin1_aae02 cJ5_isLatin1_aae02 1 (some .boolean) 0 := ⟨⟨kgt (List.mem_of_getElem? (i := 1173) (by decide +kernel)) rfl, kgt (List.mem_of_getElem? (i := 1175) (by decide +kernel)) rfl, ⟨cJ5_isLatin1_aae02, 1, (some .boolean), kgt (List.mem_of_getElem? (i := 1177) (by decide +kernel)) rfl⟩, kgt (List.mem_of_getElem? (i := 1174) (by decide +kernel)) rfl⟩, kgt (List.mem_of_getElem? (i := 1174) (by decide +kernel)) rfl, kgt (List.mem_of_getElem? (i := 48) (by decide +kernel)) rfl, kgt (List.mem_of_getElem? (i := 1177) (by decide +kernel)) rfl, by decide +kernel, by decide⟩
theorem jsel_J5_83_J4 : Cond.selects RJ4 yJ5_isLatin1_aae02 yJ5_isLatin1_aae02 ∈ kGT := kgt (List.mem_of_getElem? (i := 1176) (by decide +kernel)) rfl
theorem jy_J1_canEncode_fc78d : kYS yJ1_canEncode_fc78d cJ1_canEncode_fc78d 1 (some .boolean) 1 := ⟨⟨kgt (List.mem_of_getElem? (i := 1225) (by decide +kernel)) rfl, kgt (List.mem_of_getElem? (i := 54) (by decide +kernel)) rfl, by decide +kernel, by decide⟩, kgt (List.mem_of_getElem? (i := 1224) (by decide +kernel)) rfl⟩
theorem jm_J5_191 : Cond.methodLink RJ5 191 yJ1_canEncode_fc78d ∈ kGT := kgt (List.mem_of_getElem? (i := 1223) (by decide +kernel)) rfl
theorem js_J5_append_3fe6f_J4_50 : kYSU RJ4 50 yJ5_append_3fe6f cJ5_append_3fe6f 2 (some (.object "java/lang/AbstractStringBuilder")) 1 := ⟨kgt (List.mem_of_getElem? (i := 1220) (by decide +kernel)) rfl, kgt (List.mem_of_getElem? (i := 1607) (by decide +kernel)) rfl, kgt (List.mem_of_getElem? (i := 1133) (by decide +kernel)) rfl, kgt (List.mem_of_getElem? (i := 1221) (by decide +kernel)) rfl, kgt (List.mem_of_getElem? (i := 48) (by decide +kernel)) rfl, kgt (List.mem_of_getElem? (i := 1222) (by decide +kernel)) rfl, by decide +kernel, by decide⟩
set_option maxRecDepth 20000 in
theorem kj_coder (l : Launch) (hst : l.stackTraces = false) (Z : mZ) (q v : Nat) (t : List Int32)  : mMet l Z yJ0_coder_7d493 (.code yJ0_coder_7d493 cJ0_coder_7d493 1 (some .byte)) 1 0 0 [.ref q] [] [(q, v, t)] (fun r wo => r = some (.int 0) ∧ wo = []) := by
  refine mMet_of (z := ()) (X := some ()) (own := RJ0) (lv := [(0, .ref q)]) hst (by decide) rfl (Nat.le_of_ble_eq_true rfl) rfl rfl ?_
  intro p e R s m args below meth c C hini
  have hA : ∀ q, s.heap.size ≤ q → wA [] s.heap.size q := fun q h => Or.inr h
  obtain ⟨h1, h2, h3, h4⟩ : kStr q v t _ s s.heap := C.2.2.1 _ List.mem_cons_self
  refine M_compact C jf_J0_38 dJ0_coder_7d493_0 ?_
  refine M_if_eqF C (tgt := 13) (by decide) (by decide) dJ0_coder_7d493_3 ?_
  refine M_aload_n C 0 rfl rfl dJ0_coder_7d493_6 ?_
  refine M_tget C h2 jf_J0_15 dJ0_coder_7d493_7 ?_
  refine M_goto C (tgt := 14) (by decide) dJ0_coder_7d493_10 ?_
  exact M_iret C (ty := .byte) rfl rfl ⟨by decide, by decide⟩ dJ0_coder_7d493_14 (fun _ => ⟨rfl, rfl⟩)
set_option maxRecDepth 20000 in
theorem kj_isL (l : Launch) (hst : l.stackTraces = false) (Z : mZ) (q v : Nat) (t : List Int32)  : mMet l Z yJ0_isLatin1_aae02 (.code yJ0_isLatin1_aae02 cJ0_isLatin1_aae02 1 (some .boolean)) 1 0 0 [.ref q] [] [(q, v, t)] (fun r wo => r = some (.int 1) ∧ wo = []) := by
  refine mMet_of (z := ()) (X := some ()) (own := RJ0) (lv := [(0, .ref q)]) hst (by decide) rfl (Nat.le_of_ble_eq_true rfl) rfl rfl ?_
  intro p e R s m args below meth c C hini
  have hA : ∀ q, s.heap.size ≤ q → wA [] s.heap.size q := fun q h => Or.inr h
  obtain ⟨h1, h2, h3, h4⟩ : kStr q v t _ s s.heap := C.2.2.1 _ List.mem_cons_self
  refine M_compact C jf_J0_38 dJ0_isLatin1_aae02_0 ?_
  refine M_if_eqF C (tgt := 17) (by decide) (by decide) dJ0_isLatin1_aae02_3 ?_
  refine M_aload_n C 0 rfl rfl dJ0_isLatin1_aae02_6 ?_
  refine M_tget C h2 jf_J0_15 dJ0_isLatin1_aae02_7 ?_
  refine M_if_neF C (tgt := 17) (by decide) (by decide) dJ0_isLatin1_aae02_10 ?_
  refine M_iconst C (v := 1) (by decide) dJ0_isLatin1_aae02_13 ?_
  refine M_goto C (tgt := 18) (by decide) dJ0_isLatin1_aae02_14 ?_
  exact M_iret C (ty := .boolean) rfl rfl ⟨by decide, by decide⟩ dJ0_isLatin1_aae02_18 (fun _ => ⟨rfl, rfl⟩)
set_option maxRecDepth 20000 in
theorem kj_length (l : Launch) (hst : l.stackTraces = false) (Z : mZ) (q v : Nat) (t : List Int32)  : mMet l Z yJ0_length_8abf5 (.code yJ0_length_8abf5 cJ0_length_8abf5 1 (some .int)) 2 0 0 [.ref q] [] [(q, v, t)] (fun r wo => r = some (.int (nI t.length)) ∧ wo = []) := by
  refine mMet_of (z := ()) (X := some ()) (own := RJ0) (lv := [(0, .ref q)]) hst (by decide) rfl (Nat.le_of_ble_eq_true rfl) rfl rfl ?_
  intro p e R s m args below meth c C hini
  have hA : ∀ q, s.heap.size ≤ q → wA [] s.heap.size q := fun q h => Or.inr h
  obtain ⟨h1, h2, h3, h4⟩ : kStr q v t _ s s.heap := C.2.2.1 _ List.mem_cons_self
  refine M_aload_n C 0 rfl rfl dJ0_length_8abf5_0 ?_
  refine M_tget C h3 jf_J0_9 dJ0_length_8abf5_1 ?_
  refine M_tlen C h4 (v := nI t.length) rfl dJ0_length_8abf5_4 ?_
  refine M_aload_n C 0 rfl rfl dJ0_length_8abf5_5 ?_
  refine M_callV C hA (wi1 := []) (wr := []) (As := []) (rest := [.int (nI t.length)]) (kj_coder l hst Z q v t) jy_J0_coder_7d493 jm_J0_335 (mRecv_str (C.2.2.1 _ List.mem_cons_self)) (mSS_old (fun x hx => C.2.2.1 x hx)) (List.Perm.of_eq rfl) (by decide) ⟨by decide, by decide⟩ rfl rfl (Nat.le_of_ble_eq_true rfl) dJ0_length_8abf5_6 (fun v wo hq => ?_)
  obtain ⟨rfl, rfl⟩ := hq
  refine M_ws (ws1 := []) rfl ?_
  refine M_st (st1 := [.int 0, .int (nI t.length)]) rfl ?_
  refine M_ishr C dJ0_length_8abf5_9 ?_
  refine M_top (y := (nI t.length)) (sb_shr0 _) ?_
  exact M_iret C (ty := .int) rfl rfl ⟨by decide, by decide⟩ dJ0_length_8abf5_10 (fun _ => ⟨rfl, rfl⟩)
set_option maxRecDepth 20000 in
theorem kj_pre0 (l : Launch) (hst : l.stackTraces = false) (Z : mZ)  (i n : Nat) (hi : i < n) (hn : n < 1000) : mMet l Z yJ3_checkIndex_8e157 (.code yJ3_checkIndex_8e157 cJ3_checkIndex_8e157 3 (some .int)) 1 0 0 [.int (nI i), .int (nI n), (.null)] [] [] (fun r wo => r = some (.int (nI i)) ∧ wo = []) := by
  refine mMet_of (z := ()) (X := some ()) (own := RJ3) (lv := [(0, .int (nI i)), (1, .int (nI n)), (2, (.null))]) hst (by decide) rfl (Nat.le_of_ble_eq_true rfl) rfl rfl ?_
  intro p e R s m args below meth c C hini
  have hA : ∀ q, s.heap.size ≤ q → wA [] s.heap.size q := fun q h => Or.inr h
  refine M_iload_n C 0 rfl rfl dJ3_checkIndex_8e157_0 ?_
  refine M_if_ltF C (tgt := 9) (nI_npos (by omega)) (by decide) dJ3_checkIndex_8e157_1 ?_
  refine M_iload_n C 0 rfl rfl dJ3_checkIndex_8e157_4 ?_
  refine M_iload_n C 1 rfl rfl dJ3_checkIndex_8e157_5 ?_
  refine M_icmp_ltT C (tgt := 16) ((nI_lt_iff (by omega) (by omega)).mpr hi) (by decide) dJ3_checkIndex_8e157_6 ?_
  refine M_iload_n C 0 rfl rfl dJ3_checkIndex_8e157_16 ?_
  exact M_iret C (ty := .int) rfl rfl ⟨by decide, by decide⟩ dJ3_checkIndex_8e157_17 (fun _ => ⟨rfl, rfl⟩)
set_option maxRecDepth 20000 in
theorem kj_pre1 (l : Launch) (hst : l.stackTraces = false) (Z : mZ) (t0 : Nat) (i n : Nat) (hi : i < n) (hn : n < 1000) : mMet l Z yJ3_checkIndex_8e157 (.code yJ3_checkIndex_8e157 cJ3_checkIndex_8e157 3 (some .int)) 1 0 0 [.int (nI i), .int (nI n), (.ref t0)] [] [] (fun r wo => r = some (.int (nI i)) ∧ wo = []) := by
  refine mMet_of (z := ()) (X := some ()) (own := RJ3) (lv := [(0, .int (nI i)), (1, .int (nI n)), (2, (.ref t0))]) hst (by decide) rfl (Nat.le_of_ble_eq_true rfl) rfl rfl ?_
  intro p e R s m args below meth c C hini
  have hA : ∀ q, s.heap.size ≤ q → wA [] s.heap.size q := fun q h => Or.inr h
  refine M_iload_n C 0 rfl rfl dJ3_checkIndex_8e157_0 ?_
  refine M_if_ltF C (tgt := 9) (nI_npos (by omega)) (by decide) dJ3_checkIndex_8e157_1 ?_
  refine M_iload_n C 0 rfl rfl dJ3_checkIndex_8e157_4 ?_
  refine M_iload_n C 1 rfl rfl dJ3_checkIndex_8e157_5 ?_
  refine M_icmp_ltT C (tgt := 16) ((nI_lt_iff (by omega) (by omega)).mpr hi) (by decide) dJ3_checkIndex_8e157_6 ?_
  refine M_iload_n C 0 rfl rfl dJ3_checkIndex_8e157_16 ?_
  exact M_iret C (ty := .int) rfl rfl ⟨by decide, by decide⟩ dJ3_checkIndex_8e157_17 (fun _ => ⟨rfl, rfl⟩)
set_option maxRecDepth 20000 in
theorem kj_chk (l : Launch) (hst : l.stackTraces = false) (Z : mZ) (i n : Nat) (hi : i < n) (hn : n < 1000) : mMet l Z yJ0_checkIndex_df160 (.code yJ0_checkIndex_df160 cJ0_checkIndex_df160 2 none) 2 0 0 [.int (nI i), .int (nI n)] [] [] (fun r wo => r = none ∧ wo = []) := by
  refine mMet_of (z := ()) (X := some ()) (own := RJ0) (lv := [(0, .int (nI i)), (1, .int (nI n))]) hst (by decide) rfl (Nat.le_of_ble_eq_true rfl) rfl rfl ?_
  intro p e R s m args below meth c C hini
  have hA : ∀ q, s.heap.size ≤ q → wA [] s.heap.size q := fun q h => Or.inr h
  refine M_iload_n C 0 rfl rfl dJ0_checkIndex_df160_0 ?_
  refine M_iload_n C 1 rfl rfl dJ0_checkIndex_df160_1 ?_
  refine M_gtq C jf_sioobe dJ0_checkIndex_df160_2 (fun vx hvx => ?_)
  rcases hvx with rfl | ⟨tx, rfl⟩
  · refine M_callS C hA (wi1 := []) (wr := []) (As := [.int (nI i), .int (nI n), .null]) (rest := []) (kj_pre0 l hst Z i n hi hn) jy_J3_checkIndex_8e157 jm_J0_1059 mSS_nil (List.Perm.of_eq rfl) (by decide) ⟨by decide, by decide⟩ rfl rfl (Nat.le_of_ble_eq_true rfl) dJ0_checkIndex_df160_5 (fun v wo hq => ?_)
    obtain ⟨rfl, rfl⟩ := hq
    refine M_ws (ws1 := []) rfl ?_
    refine M_st (st1 := [.int (nI i)]) rfl ?_
    refine M_pop C rfl dJ0_checkIndex_df160_8 ?_
    exact M_vret C rfl ⟨by decide, by decide⟩ dJ0_checkIndex_df160_9 (fun _ => ⟨rfl, rfl⟩)
  · refine M_callS C hA (wi1 := []) (wr := []) (As := [.int (nI i), .int (nI n), (.ref tx)]) (rest := []) (kj_pre1 l hst Z tx i n hi hn) jy_J3_checkIndex_8e157 jm_J0_1059 mSS_nil (List.Perm.of_eq rfl) (by decide) ⟨by decide, by decide⟩ rfl rfl (Nat.le_of_ble_eq_true rfl) dJ0_checkIndex_df160_5 (fun v wo hq => ?_)
    obtain ⟨rfl, rfl⟩ := hq
    refine M_ws (ws1 := []) rfl ?_
    refine M_st (st1 := [.int (nI i)]) rfl ?_
    refine M_pop C rfl dJ0_checkIndex_df160_8 ?_
    exact M_vret C rfl ⟨by decide, by decide⟩ dJ0_checkIndex_df160_9 (fun _ => ⟨rfl, rfl⟩)
set_option maxRecDepth 20000 in
theorem kj_charAt1 (l : Launch) (hst : l.stackTraces = false) (Z : mZ) (q v : Nat) (t : List Int32) (i : Nat) (hi : i < t.length) (hn : t.length < 1000) (ht : ∀ j, j < t.length → ∃ c, c < 128 ∧ t.getD j 0 = nI c) : mMet l Z yJ1_charAt_3b067 (.code yJ1_charAt_3b067 cJ1_charAt_3b067 2 (some .char)) 3 0 0 [.ref v, .int (nI i)] [] [(q, v, t)] (fun r wo => r = some (.int (t.getD i 0)) ∧ wo = []) := by
  refine mMet_of (z := ()) (X := some ()) (own := RJ1) (lv := [(0, .ref v), (1, .int (nI i))]) hst (by decide) rfl (Nat.le_of_ble_eq_true rfl) rfl rfl ?_
  intro p e R s m args below meth c C hini
  have hA : ∀ q, s.heap.size ≤ q → wA [] s.heap.size q := fun q h => Or.inr h
  obtain ⟨h1, h2, h3, h4⟩ : kStr q v t _ s s.heap := C.2.2.1 _ List.mem_cons_self
  obtain ⟨cx, hc1, hc2⟩ := ht i hi
  refine M_iload_n C 1 rfl rfl dJ1_charAt_3b067_0 ?_
  refine M_aload_n C 0 rfl rfl dJ1_charAt_3b067_1 ?_
  refine M_tlen C h4 (v := nI t.length) rfl dJ1_charAt_3b067_2 ?_
  refine M_callS C hA (wi1 := []) (wr := []) (As := [.int (nI i), .int (nI t.length)]) (rest := []) (kj_chk l hst Z i t.length hi hn) jy_J0_checkIndex_df160 jm_J1_9 mSS_nil (List.Perm.of_eq rfl) (by decide) ⟨by decide, by decide⟩ rfl rfl (Nat.le_of_ble_eq_true rfl) dJ1_charAt_3b067_3 (fun v wo hq => ?_)
  obtain ⟨rfl, rfl⟩ := hq
  refine M_ws (ws1 := []) rfl ?_
  refine M_st (st1 := []) rfl ?_
  refine M_aload_n C 0 rfl rfl dJ1_charAt_3b067_6 ?_
  refine M_iload_n C 1 rfl rfl dJ1_charAt_3b067_7 ?_
  refine M_tld C h4 (i := nI i) (v := .int (nI cx)) (vp_in_nI hi (by omega)) (by rw [nI_clamp (by omega)]; exact congrArg Value.int hc2) dJ1_charAt_3b067_8 ?_
  refine M_sipush C (v := 255) (by decide) dJ1_charAt_3b067_9 ?_
  refine M_iand C dJ1_charAt_3b067_12 ?_
  refine M_i2c C dJ1_charAt_3b067_13 ?_
  refine M_top (y := (nI cx)) (let8 cx hc1) ?_
  exact M_iret C (ty := .char) (letC cx hc1) rfl ⟨by decide, by decide⟩ dJ1_charAt_3b067_14 (fun _ => ⟨by rw [hc2], rfl⟩)
set_option maxRecDepth 20000 in
theorem kj_charAt (l : Launch) (hst : l.stackTraces = false) (Z : mZ) (q v : Nat) (t : List Int32) (i : Nat) (hi : i < t.length) (hn : t.length < 1000) (ht : ∀ j, j < t.length → ∃ c, c < 128 ∧ t.getD j 0 = nI c) : mMet l Z yJ0_charAt_5068e (.code yJ0_charAt_5068e cJ0_charAt_5068e 2 (some .char)) 4 0 0 [.ref q, .int (nI i)] [] [(q, v, t)] (fun r wo => r = some (.int (t.getD i 0)) ∧ wo = []) := by
  refine mMet_of (z := ()) (X := some ()) (own := RJ0) (lv := [(0, .ref q), (1, .int (nI i))]) hst (by decide) rfl (Nat.le_of_ble_eq_true rfl) rfl rfl ?_
  intro p e R s m args below meth c C hini
  have hA : ∀ q, s.heap.size ≤ q → wA [] s.heap.size q := fun q h => Or.inr h
  obtain ⟨h1, h2, h3, h4⟩ : kStr q v t _ s s.heap := C.2.2.1 _ List.mem_cons_self
  obtain ⟨cx, hc1, hc2⟩ := ht i hi
  refine M_aload_n C 0 rfl rfl dJ0_charAt_5068e_0 ?_
  refine M_callV C hA (wi1 := []) (wr := []) (As := []) (rest := []) (kj_isL l hst Z q v t) jy_J0_isLatin1_aae02 jm_J0_492 (mRecv_str (C.2.2.1 _ List.mem_cons_self)) (mSS_old (fun x hx => C.2.2.1 x hx)) (List.Perm.of_eq rfl) (by decide) ⟨by decide, by decide⟩ rfl rfl (Nat.le_of_ble_eq_true rfl) dJ0_charAt_5068e_1 (fun v wo hq => ?_)
  obtain ⟨rfl, rfl⟩ := hq
  refine M_ws (ws1 := []) rfl ?_
  refine M_st (st1 := [.int 1]) rfl ?_
  refine M_if_eqF C (tgt := 16) (by decide) (by decide) dJ0_charAt_5068e_4 ?_
  refine M_aload_n C 0 rfl rfl dJ0_charAt_5068e_7 ?_
  refine M_tget C h3 jf_J0_9 dJ0_charAt_5068e_8 ?_
  refine M_iload_n C 1 rfl rfl dJ0_charAt_5068e_11 ?_
  refine M_callS C hA (wi1 := []) (wr := []) (As := [.ref v, .int (nI i)]) (rest := []) (kj_charAt1 l hst Z q v t i hi hn ht) jy_J1_charAt_3b067 jm_J0_495 (mSS_old (fun x hx => C.2.2.1 x hx)) (List.Perm.of_eq rfl) (by decide) ⟨by decide, by decide⟩ rfl rfl (Nat.le_of_ble_eq_true rfl) dJ0_charAt_5068e_12 (fun v wo hq => ?_)
  obtain ⟨rfl, rfl⟩ := hq
  refine M_ws (ws1 := []) rfl ?_
  refine M_st (st1 := [.int (t.getD i 0)]) rfl ?_
  exact M_iret C (ty := .char) (by rw [hc2]; exact letC cx hc1) rfl ⟨by decide, by decide⟩ dJ0_charAt_5068e_15 (fun _ => ⟨rfl, rfl⟩)
set_option maxRecDepth 20000 in
theorem kj_bL (l : Launch) (hst : l.stackTraces = false) (Z : mZ) (q1 q2 : Nat) (n : Int32) (g : Nat → Int32)  : mMet l Z yJ5_isLatin1_aae02 (.code yJ5_isLatin1_aae02 cJ5_isLatin1_aae02 1 (some .boolean)) 1 0 0 [.ref q1] [(q1, .inr (1, [.ref q2, .int 0, .int 0, .int n])), (q2, eY Z 16 g)] [] (fun r wo => r = some (.int 1) ∧ wo = [(q1, .inr (1, [.ref q2, .int 0, .int 0, .int n])), (q2, eY Z 16 g)]) := by
  refine mMet_of (z := ()) (X := some ()) (own := RJ5) (lv := [(0, .ref q1)]) hst (by decide) rfl (Nat.le_of_ble_eq_true rfl) rfl rfl ?_
  intro p e R s m args below meth c C hini
  have hA : ∀ q, s.heap.size ≤ q → wA [(q1, .inr (1, [.ref q2, .int 0, .int 0, .int n])), (q2, eY Z 16 g)] s.heap.size q := fun q h => Or.inr h
  refine M_compact C jf_J5_18 dJ5_isLatin1_aae02_0 ?_
  refine M_if_eqF C (tgt := 17) (by decide) (by decide) dJ5_isLatin1_aae02_3 ?_
  refine M_aload_n C 0 rfl rfl dJ5_isLatin1_aae02_6 ?_
  refine M_get C kin_J4 (ci := 1) rfl 0 rfl 1 (by decide) jf_J5_22 rfl (v := .int 0) rfl dJ5_isLatin1_aae02_7 ?_
  refine M_if_neF C (tgt := 17) (by decide) (by decide) dJ5_isLatin1_aae02_10 ?_
  refine M_iconst C (v := 1) (by decide) dJ5_isLatin1_aae02_13 ?_
  refine M_goto C (tgt := 18) (by decide) dJ5_isLatin1_aae02_14 ?_
  exact M_iret C (ty := .boolean) rfl rfl ⟨by decide, by decide⟩ dJ5_isLatin1_aae02_18 (fun _ => ⟨rfl, rfl⟩)
set_option maxRecDepth 20000 in
theorem kj_blen (l : Launch) (hst : l.stackTraces = false) (Z : mZ) (q1 q2 : Nat) (n : Int32) (g : Nat → Int32)  : mMet l Z yJ5_length_8abf5 (.code yJ5_length_8abf5 cJ5_length_8abf5 1 (some .int)) 1 0 0 [.ref q1] [(q1, .inr (1, [.ref q2, .int 0, .int 0, .int n])), (q2, eY Z 16 g)] [] (fun r wo => r = some (.int n) ∧ wo = [(q1, .inr (1, [.ref q2, .int 0, .int 0, .int n])), (q2, eY Z 16 g)]) := by
  refine mMet_of (z := ()) (X := some ()) (own := RJ5) (lv := [(0, .ref q1)]) hst (by decide) rfl (Nat.le_of_ble_eq_true rfl) rfl rfl ?_
  intro p e R s m args below meth c C hini
  have hA : ∀ q, s.heap.size ≤ q → wA [(q1, .inr (1, [.ref q2, .int 0, .int 0, .int n])), (q2, eY Z 16 g)] s.heap.size q := fun q h => Or.inr h
  refine M_aload_n C 0 rfl rfl dJ5_length_8abf5_0 ?_
  refine M_get C kin_J4 (ci := 1) rfl 0 rfl 3 (by decide) jf_J5_79 rfl (v := .int n) rfl dJ5_length_8abf5_1 ?_
  exact M_iret C (ty := .int) rfl rfl ⟨by decide, by decide⟩ dJ5_length_8abf5_4 (fun _ => ⟨rfl, rfl⟩)
set_option maxRecDepth 20000 in
theorem kj_bval (l : Launch) (hst : l.stackTraces = false) (Z : mZ) (q1 q2 : Nat) (n : Int32) (g : Nat → Int32)  : mMet l Z yJ5_getValue_6d5f1 (.code yJ5_getValue_6d5f1 cJ5_getValue_6d5f1 1 (some (.array .byte))) 1 0 0 [.ref q1] [(q1, .inr (1, [.ref q2, .int 0, .int 0, .int n])), (q2, eY Z 16 g)] [] (fun r wo => r = some (.ref q2) ∧ wo = [(q1, .inr (1, [.ref q2, .int 0, .int 0, .int n])), (q2, eY Z 16 g)]) := by
  refine mMet_of (z := ()) (X := some ()) (own := RJ5) (lv := [(0, .ref q1)]) hst (by decide) rfl (Nat.le_of_ble_eq_true rfl) rfl rfl ?_
  intro p e R s m args below meth c C hini
  have hA : ∀ q, s.heap.size ≤ q → wA [(q1, .inr (1, [.ref q2, .int 0, .int 0, .int n])), (q2, eY Z 16 g)] s.heap.size q := fun q h => Or.inr h
  refine M_aload_n C 0 rfl rfl dJ5_getValue_6d5f1_0 ?_
  refine M_get C kin_J4 (ci := 1) rfl 0 rfl 0 (by decide) jf_J5_15 rfl (v := .ref q2) rfl dJ5_getValue_6d5f1_1 ?_
  exact M_aret C (Or.inr ⟨_, rfl⟩) rfl ⟨by decide, by decide⟩ dJ5_getValue_6d5f1_4 (fun _ => ⟨rfl, rfl⟩)
set_option maxRecDepth 20000 in
theorem kj_cap (l : Launch) (hst : l.stackTraces = false) (Z : mZ) (q1 q2 : Nat) (n : Int32) (g : Nat → Int32) (k : Nat) (hk : k ≤ 16) : mMet l Z yJ5_ensureCapacityInternal_d00df (.code yJ5_ensureCapacityInternal_d00df cJ5_ensureCapacityInternal_d00df 3 none) 1 0 0 [.ref q1, .int (nI k)] [(q1, .inr (1, [.ref q2, .int 0, .int 0, .int n])), (q2, eY Z 16 g)] [] (fun r wo => r = none ∧ wo = [(q1, .inr (1, [.ref q2, .int 0, .int 0, .int n])), (q2, eY Z 16 g)]) := by
  refine mMet_of (z := ()) (X := some ()) (own := RJ5) (lv := [(0, .ref q1), (1, .int (nI k))]) hst (by decide) rfl (Nat.le_of_ble_eq_true rfl) rfl rfl ?_
  intro p e R s m args below meth c C hini
  have hA : ∀ q, s.heap.size ≤ q → wA [(q1, .inr (1, [.ref q2, .int 0, .int 0, .int n])), (q2, eY Z 16 g)] s.heap.size q := fun q h => Or.inr h
  refine M_aload_n C 0 rfl rfl dJ5_ensureCapacityInternal_d00df_0 ?_
  refine M_get C kin_J4 (ci := 1) rfl 0 rfl 0 (by decide) jf_J5_15 rfl (v := .ref q2) rfl dJ5_ensureCapacityInternal_d00df_1 ?_
  refine M_blen C 1 rfl (v := 16) rfl dJ5_ensureCapacityInternal_d00df_4 ?_
  refine M_aload_n C 0 rfl rfl dJ5_ensureCapacityInternal_d00df_5 ?_
  refine M_get C kin_J4 (ci := 1) rfl 0 rfl 1 (by decide) jf_J5_22 rfl (v := .int 0) rfl dJ5_ensureCapacityInternal_d00df_6 ?_
  refine M_ishr C dJ5_ensureCapacityInternal_d00df_9 ?_
  refine M_istore_n C rfl (by decide) (lv1 := [(2, .int ((16 : Int32) >>> ((0 : Int32) &&& 31))), (0, .ref q1), (1, .int (nI k))]) rfl dJ5_ensureCapacityInternal_d00df_10 ?_
  refine M_iload_n C 2 rfl rfl dJ5_ensureCapacityInternal_d00df_11 ?_
  refine M_iload_n C 0 rfl rfl dJ5_ensureCapacityInternal_d00df_12 ?_
  refine M_isub C dJ5_ensureCapacityInternal_d00df_13 ?_
  refine M_if_leT C (tgt := 38) (cap16 k hk) (by decide) dJ5_ensureCapacityInternal_d00df_14 ?_
  exact M_vret C rfl ⟨by decide, by decide⟩ dJ5_ensureCapacityInternal_d00df_38 (fun _ => ⟨rfl, rfl⟩)
set_option maxRecDepth 20000 in
theorem kj_can (l : Launch) (hst : l.stackTraces = false) (Z : mZ) (cx : Nat) (hc : cx < 128) : mMet l Z yJ1_canEncode_fc78d (.code yJ1_canEncode_fc78d cJ1_canEncode_fc78d 1 (some .boolean)) 1 0 0 [.int (nI cx)] [] [] (fun r wo => r = some (.int 1) ∧ wo = []) := by
  refine mMet_of (z := ()) (X := some ()) (own := RJ1) (lv := [(0, .int (nI cx))]) hst (by decide) rfl (Nat.le_of_ble_eq_true rfl) rfl rfl ?_
  intro p e R s m args below meth c C hini
  have hA : ∀ q, s.heap.size ≤ q → wA [] s.heap.size q := fun q h => Or.inr h
  refine M_iload_n C 0 rfl rfl dJ1_canEncode_fc78d_0 ?_
  refine M_sipush C (v := 255) (by decide) dJ1_canEncode_fc78d_1 ?_
  refine M_icmp_gtF C (tgt := 11) (letN cx hc) (by decide) dJ1_canEncode_fc78d_4 ?_
  refine M_iconst C (v := 1) (by decide) dJ1_canEncode_fc78d_7 ?_
  refine M_goto C (tgt := 12) (by decide) dJ1_canEncode_fc78d_8 ?_
  exact M_iret C (ty := .boolean) rfl rfl ⟨by decide, by decide⟩ dJ1_canEncode_fc78d_12 (fun _ => ⟨rfl, rfl⟩)
set_option maxRecDepth 20000 in
theorem kj_appC5 (l : Launch) (hst : l.stackTraces = false) (Z : mZ) (q1 q2 : Nat) (n : Nat) (g : Nat → Int32) (cx : Nat) (hn : n < 16) (hc : cx < 128) : mMet l Z yJ5_append_3fe6f (.code yJ5_append_3fe6f cJ5_append_3fe6f 2 (some (.object "java/lang/AbstractStringBuilder"))) 2 0 0 [.ref q1, .int (nI cx)] [(q1, .inr (1, [.ref q2, .int 0, .int 0, .int (nI n)])), (q2, eY Z 16 g)] [] (fun r wo => r = some (.ref q1) ∧ wo = [(q1, .inr (1, [.ref q2, .int 0, .int 0, .int (nI (n + 1))])), (q2, eY Z 16 (upd g n (vp_nar .byte (nI cx))))]) := by
  refine mMet_of (z := ()) (X := some ()) (own := RJ5) (lv := [(0, .ref q1), (1, .int (nI cx))]) hst (by decide) rfl (Nat.le_of_ble_eq_true rfl) rfl rfl ?_
  intro p e R s m args below meth c C hini
  have hA : ∀ q, s.heap.size ≤ q → wA [(q1, .inr (1, [.ref q2, .int 0, .int 0, .int (nI n)])), (q2, eY Z 16 g)] s.heap.size q := fun q h => Or.inr h
  refine M_aload_n C 0 rfl rfl dJ5_append_3fe6f_0 ?_
  refine M_aload_n C 0 rfl rfl dJ5_append_3fe6f_1 ?_
  refine M_get C kin_J4 (ci := 1) rfl 0 rfl 3 (by decide) jf_J5_79 rfl (v := .int (nI n)) rfl dJ5_append_3fe6f_2 ?_
  refine M_iconst C (v := 1) (by decide) dJ5_append_3fe6f_5 ?_
  refine M_iadd C dJ5_append_3fe6f_6 ?_
  refine M_top (y := (nI (n + 1))) (nI_1 n) ?_
  refine M_callU C hA (wi1 := [(q1, .inr (1, [.ref q2, .int 0, .int 0, .int (nI n)])), (q2, eY Z 16 g)]) (wr := []) (As := [.int (nI (n + 1))]) (rest := []) (kj_cap l hst Z q1 q2 (nI n) g (n + 1) (by omega)) ju_J5_100_J4 (kselP (by decide +kernel) (C.1.2.2.2.2 _ jins_J4) (C.1.2.2.2.2 _ jsl_J4) rfl (va_Nw.use rfl (C.2.1.2.2.2.2.2.1.2.2 _ jpv_J5_ensureCapacityInternal_d00df)) (C.1.2.2.2.2 _ jim_J5_ensureCapacityInternal_d00df)) (mRecv_cell C 0 rfl (ci := 1) rfl) mSS_nil (List.Perm.of_eq rfl) (by decide) ⟨by decide, by decide⟩ rfl rfl (Nat.le_of_ble_eq_true rfl) dJ5_append_3fe6f_7 (fun v wo hq => ?_)
  obtain ⟨rfl, rfl⟩ := hq
  refine M_ws (ws1 := [(q1, .inr (1, [.ref q2, .int 0, .int 0, .int (nI n)])), (q2, eY Z 16 g)]) rfl ?_
  refine M_st (st1 := []) rfl ?_
  refine M_aload_n C 0 rfl rfl dJ5_append_3fe6f_10 ?_
  refine M_callU C hA (wi1 := [(q1, .inr (1, [.ref q2, .int 0, .int 0, .int (nI n)])), (q2, eY Z 16 g)]) (wr := []) (As := []) (rest := []) (kj_bL l hst Z q1 q2 (nI n) g) ju_J5_83_J4 (C.1.2.2.2.2 _ jsel_J5_83_J4) (mRecv_cell C 0 rfl (ci := 1) rfl) mSS_nil (List.Perm.of_eq rfl) (by decide) ⟨by decide, by decide⟩ rfl rfl (Nat.le_of_ble_eq_true rfl) dJ5_append_3fe6f_11 (fun v wo hq => ?_)
  obtain ⟨rfl, rfl⟩ := hq
  refine M_ws (ws1 := [(q1, .inr (1, [.ref q2, .int 0, .int 0, .int (nI n)])), (q2, eY Z 16 g)]) rfl ?_
  refine M_st (st1 := [.int 1]) rfl ?_
  refine M_if_eqF C (tgt := 45) (by decide) (by decide) dJ5_append_3fe6f_14 ?_
  refine M_iload_n C 1 rfl rfl dJ5_append_3fe6f_17 ?_
  refine M_callS C hA (wi1 := []) (wr := [(q1, .inr (1, [.ref q2, .int 0, .int 0, .int (nI n)])), (q2, eY Z 16 g)]) (As := [.int (nI cx)]) (rest := []) (kj_can l hst Z cx hc) jy_J1_canEncode_fc78d jm_J5_191 mSS_nil (List.Perm.refl _) (by decide) ⟨by decide, by decide⟩ rfl rfl (Nat.le_of_ble_eq_true rfl) dJ5_append_3fe6f_18 (fun v wo hq => ?_)
  obtain ⟨rfl, rfl⟩ := hq
  refine M_ws (ws1 := [(q1, .inr (1, [.ref q2, .int 0, .int 0, .int (nI n)])), (q2, eY Z 16 g)]) rfl ?_
  refine M_st (st1 := [.int 1]) rfl ?_
  refine M_if_eqF C (tgt := 45) (by decide) (by decide) dJ5_append_3fe6f_21 ?_
  refine M_aload_n C 0 rfl rfl dJ5_append_3fe6f_24 ?_
  refine M_get C kin_J4 (ci := 1) rfl 0 rfl 0 (by decide) jf_J5_15 rfl (v := .ref q2) rfl dJ5_append_3fe6f_25 ?_
  refine M_aload_n C 0 rfl rfl dJ5_append_3fe6f_28 ?_
  refine M_dup C rfl dJ5_append_3fe6f_29 ?_
  refine M_get C kin_J4 (ci := 1) rfl 0 rfl 3 (by decide) jf_J5_79 rfl (v := .int (nI n)) rfl dJ5_append_3fe6f_30 ?_
  refine M_dup_x1 C rfl rfl dJ5_append_3fe6f_33 ?_
  refine M_iconst C (v := 1) (by decide) dJ5_append_3fe6f_34 ?_
  refine M_iadd C dJ5_append_3fe6f_35 ?_
  refine M_top (y := (nI (n + 1))) (nI_1 n) ?_
  refine M_put C kin_J4 (ci := 1) rfl 0 rfl 3 (by decide) jf_J5_79 rfl tyJ4 tyJ4_ok nmJ4 rfl (ty := tyJ4 3) (v := .int (nI (n + 1))) rfl rfl rfl (Nat.le_of_ble_eq_true rfl) (ws1 := [(q1, .inr (1, [.ref q2, .int 0, .int 0, .int (nI (n + 1))])), (q2, eY Z 16 g)]) rfl dJ5_append_3fe6f_36 ?_
  refine M_iload_n C 1 rfl rfl dJ5_append_3fe6f_39 ?_
  refine M_i2b C (v := nI cx) (letB cx hc) dJ5_append_3fe6f_40 ?_
  refine M_bast C 1 rfl (vp_in_nI hn (by omega)) (nI_clamp (by omega)) (ws1 := [(q1, .inr (1, [.ref q2, .int 0, .int 0, .int (nI (n + 1))])), (q2, eY Z 16 (upd g n (vp_nar .byte (nI cx))))]) rfl dJ5_append_3fe6f_41 ?_
  refine M_goto C (tgt := 75) (by decide) dJ5_append_3fe6f_42 ?_
  refine M_aload_n C 0 rfl rfl dJ5_append_3fe6f_75 ?_
  exact M_aret C (Or.inl ⟨_, rfl⟩) rfl ⟨by decide, by decide⟩ dJ5_append_3fe6f_76 (fun _ => ⟨rfl, rfl⟩)
set_option maxRecDepth 20000 in
theorem kj_appC (l : Launch) (hst : l.stackTraces = false) (Z : mZ) (q1 q2 : Nat) (n : Nat) (g : Nat → Int32) (cx : Nat) (hn : n < 16) (hc : cx < 128) : mMet l Z yJ4_append_cf468 (.code yJ4_append_cf468 cJ4_append_cf468 2 (some (.object "java/lang/StringBuilder"))) 3 0 0 [.ref q1, .int (nI cx)] [(q1, .inr (1, [.ref q2, .int 0, .int 0, .int (nI n)])), (q2, eY Z 16 g)] [] (fun r wo => r = some (.ref q1) ∧ wo = [(q1, .inr (1, [.ref q2, .int 0, .int 0, .int (nI (n + 1))])), (q2, eY Z 16 (upd g n (vp_nar .byte (nI cx))))]) := by
  refine mMet_of (z := ()) (X := some ()) (own := RJ4) (lv := [(0, .ref q1), (1, .int (nI cx))]) hst (by decide) rfl (Nat.le_of_ble_eq_true rfl) rfl rfl ?_
  intro p e R s m args below meth c C hini
  have hA : ∀ q, s.heap.size ≤ q → wA [(q1, .inr (1, [.ref q2, .int 0, .int 0, .int (nI n)])), (q2, eY Z 16 g)] s.heap.size q := fun q h => Or.inr h
  refine M_aload_n C 0 rfl rfl dJ4_append_cf468_0 ?_
  refine M_iload_n C 1 rfl rfl dJ4_append_cf468_1 ?_
  refine M_callSU C hA (wi1 := [(q1, .inr (1, [.ref q2, .int 0, .int 0, .int (nI n)])), (q2, eY Z 16 g)]) (wr := []) (As := [.int (nI cx)]) (rest := []) (kj_appC5 l hst Z q1 q2 n g cx hn hc) js_J5_append_3fe6f_J4_50 (ci := 1) rfl (mRecv_cell C 0 rfl (ci := 1) rfl) mSS_nil (List.Perm.of_eq rfl) (by decide) ⟨by decide, by decide⟩ rfl rfl (Nat.le_of_ble_eq_true rfl) dJ4_append_cf468_2 (fun v wo hq => ?_)
  obtain ⟨rfl, rfl⟩ := hq
  refine M_ws (ws1 := [(q1, .inr (1, [.ref q2, .int 0, .int 0, .int (nI (n + 1))])), (q2, eY Z 16 (upd g n (vp_nar .byte (nI cx))))]) rfl ?_
  refine M_st (st1 := [.ref q1]) rfl ?_
  refine M_pop C rfl dJ4_append_cf468_5 ?_
  refine M_aload_n C 0 rfl rfl dJ4_append_cf468_6 ?_
  exact M_aret C (Or.inl ⟨_, rfl⟩) rfl ⟨by decide, by decide⟩ dJ4_append_cf468_7 (fun _ => ⟨rfl, rfl⟩)
