/-! the law: changes -/
theorem jy_L_some : kYS yL_some cL_some 3 (some .int) 2 := ⟨⟨kgt (List.mem_of_getElem? (i := 1102) (by decide +kernel)) rfl, kgt (List.mem_of_getElem? (i := 20) (by decide +kernel)) rfl, by decide +kernel, by decide⟩, kgt (List.mem_of_getElem? (i := 1101) (by decide +kernel)) rfl⟩
theorem jm_L_165 : Cond.methodLink RL 165 yL_some ∈ kGT := kgt (List.mem_of_getElem? (i := 1100) (by decide +kernel)) rfl
theorem jy_L_colour : kYW yL_colour cL_colour 3 (some .int) [(0, 5, 6, 19)] 2 := ⟨kgt (List.mem_of_getElem? (i := 527) (by decide +kernel)) rfl, kgt (List.mem_of_getElem? (i := 20) (by decide +kernel)) rfl, kgt (List.mem_of_getElem? (i := 526) (by decide +kernel)) rfl, by decide +kernel, by decide⟩
theorem jm_L_168 : Cond.methodLink RL 168 yL_colour ∈ kGT := kgt (List.mem_of_getElem? (i := 525) (by decide +kernel)) rfl
theorem jy_L_part : kYW yL_part cL_part 3 (some .int) [(0, 5, 6, 19)] 2 := ⟨kgt (List.mem_of_getElem? (i := 583) (by decide +kernel)) rfl, kgt (List.mem_of_getElem? (i := 20) (by decide +kernel)) rfl, kgt (List.mem_of_getElem? (i := 582) (by decide +kernel)) rfl, by decide +kernel, by decide⟩
theorem jm_L_171 : Cond.methodLink RL 171 yL_part ∈ kGT := kgt (List.mem_of_getElem? (i := 581) (by decide +kernel)) rfl
theorem jy_L_told : kYS yL_told cL_told 2 (some .int) 2 := ⟨⟨kgt (List.mem_of_getElem? (i := 1359) (by decide +kernel)) rfl, kgt (List.mem_of_getElem? (i := 20) (by decide +kernel)) rfl, by decide +kernel, by decide⟩, kgt (List.mem_of_getElem? (i := 1358) (by decide +kernel)) rfl⟩
theorem jm_L_186 : Cond.methodLink RL 186 yL_told ∈ kGT := kgt (List.mem_of_getElem? (i := 1357) (by decide +kernel)) rfl
theorem jy_L_mount : kYW yL_mount cL_mount 3 (some .int) [(0, 5, 6, 19)] 2 := ⟨kgt (List.mem_of_getElem? (i := 792) (by decide +kernel)) rfl, kgt (List.mem_of_getElem? (i := 20) (by decide +kernel)) rfl, kgt (List.mem_of_getElem? (i := 791) (by decide +kernel)) rfl, by decide +kernel, by decide⟩
theorem jm_L_254 : Cond.methodLink RL 254 yL_mount ∈ kGT := kgt (List.mem_of_getElem? (i := 790) (by decide +kernel)) rfl
theorem jc_L_256 : Cond.constant RL 256 40000 ∈ kGT := kgt (List.mem_of_getElem? (i := 1566) (by decide +kernel)) rfl
theorem jy_L_load : kYW yL_load cL_load 5 (some .int) [(0, 7, 8, 19)] 4 := ⟨kgt (List.mem_of_getElem? (i := 799) (by decide +kernel)) rfl, kgt (List.mem_of_getElem? (i := 20) (by decide +kernel)) rfl, kgt (List.mem_of_getElem? (i := 798) (by decide +kernel)) rfl, by decide +kernel, by decide⟩
theorem jm_L_257 : Cond.methodLink RL 257 yL_load ∈ kGT := kgt (List.mem_of_getElem? (i := 797) (by decide +kernel)) rfl
theorem jy_L_empty : kYW yL_empty cL_empty 3 (some .int) [(0, 5, 6, 19)] 2 := ⟨kgt (List.mem_of_getElem? (i := 1569) (by decide +kernel)) rfl, kgt (List.mem_of_getElem? (i := 20) (by decide +kernel)) rfl, kgt (List.mem_of_getElem? (i := 1568) (by decide +kernel)) rfl, by decide +kernel, by decide⟩
theorem jm_L_259 : Cond.methodLink RL 259 yL_empty ∈ kGT := kgt (List.mem_of_getElem? (i := 1567) (by decide +kernel)) rfl
theorem jy_L_pause : kYW yL_pause cL_pause 3 (some .int) [(0, 5, 6, 19)] 2 := ⟨kgt (List.mem_of_getElem? (i := 806) (by decide +kernel)) rfl, kgt (List.mem_of_getElem? (i := 20) (by decide +kernel)) rfl, kgt (List.mem_of_getElem? (i := 805) (by decide +kernel)) rfl, by decide +kernel, by decide⟩
theorem jm_L_261 : Cond.methodLink RL 261 yL_pause ∈ kGT := kgt (List.mem_of_getElem? (i := 804) (by decide +kernel)) rfl
theorem jy_L_run : kYW yL_run cL_run 4 (some .int) [(0, 6, 7, 19)] 3 := ⟨kgt (List.mem_of_getElem? (i := 813) (by decide +kernel)) rfl, kgt (List.mem_of_getElem? (i := 20) (by decide +kernel)) rfl, kgt (List.mem_of_getElem? (i := 812) (by decide +kernel)) rfl, by decide +kernel, by decide⟩
theorem jm_L_263 : Cond.methodLink RL 263 yL_run ∈ kGT := kgt (List.mem_of_getElem? (i := 811) (by decide +kernel)) rfl
theorem jy_L_order : kYW yL_order cL_order 6 (some .int) [(0, 9, 10, 19)] 5 := ⟨kgt (List.mem_of_getElem? (i := 820) (by decide +kernel)) rfl, kgt (List.mem_of_getElem? (i := 20) (by decide +kernel)) rfl, kgt (List.mem_of_getElem? (i := 819) (by decide +kernel)) rfl, by decide +kernel, by decide⟩
theorem jm_L_265 : Cond.methodLink RL 265 yL_order ∈ kGT := kgt (List.mem_of_getElem? (i := 818) (by decide +kernel)) rfl
theorem jy_L_callOff : kYW yL_callOff cL_callOff 3 (some .int) [(0, 5, 6, 19)] 2 := ⟨kgt (List.mem_of_getElem? (i := 838) (by decide +kernel)) rfl, kgt (List.mem_of_getElem? (i := 20) (by decide +kernel)) rfl, kgt (List.mem_of_getElem? (i := 837) (by decide +kernel)) rfl, by decide +kernel, by decide⟩
theorem jm_L_268 : Cond.methodLink RL 268 yL_callOff ∈ kGT := kgt (List.mem_of_getElem? (i := 836) (by decide +kernel)) rfl
theorem jy_L_set : kYW yL_set cL_set 4 (some .int) [(0, 6, 7, 19)] 3 := ⟨kgt (List.mem_of_getElem? (i := 857) (by decide +kernel)) rfl, kgt (List.mem_of_getElem? (i := 20) (by decide +kernel)) rfl, kgt (List.mem_of_getElem? (i := 856) (by decide +kernel)) rfl, by decide +kernel, by decide⟩
theorem jm_L_190 : Cond.methodLink RL 190 yL_set ∈ kGT := kgt (List.mem_of_getElem? (i := 855) (by decide +kernel)) rfl
theorem jy_L_does : kYS yL_does cL_does 2 (some .int) 2 := ⟨⟨kgt (List.mem_of_getElem? (i := 1584) (by decide +kernel)) rfl, kgt (List.mem_of_getElem? (i := 20) (by decide +kernel)) rfl, by decide +kernel, by decide⟩, kgt (List.mem_of_getElem? (i := 1583) (by decide +kernel)) rfl⟩
theorem jm_L_276 : Cond.methodLink RL 276 yL_does ∈ kGT := kgt (List.mem_of_getElem? (i := 1582) (by decide +kernel)) rfl

def lf_changes (f : kMem) (x1 : Int32) : Option (Int32 × kMem) := keq (mSome x1 14) 0 (kbind (lf_colour f (mSome (x1 >>> ((4 : Int32) &&& 31)) 11)) (fun r1 g2 => klt r1 0 (some (0, g2)) (some (1, g2)))) (keq (mSome x1 14) 1 (kbind (lf_part f (mSome (x1 >>> ((4 : Int32) &&& 31)) 52)) (fun r4 g5 => klt r4 0 (some (0, g5)) (some (1, g5)))) (keq (mSome x1 14) 2 (kchk (decide (List.length ([] : List Int32) + (mTx "3 20 ").length ≤ 16)) (kchk (decide (List.length (([] : List Int32) ++ mTx "3 20 ") + (dgt (mSome (x1 >>> ((4 : Int32) &&& 31)) 6)).length ≤ 16)) (kchk (decide (0 ≤ (mSome (x1 >>> ((4 : Int32) &&& 31)) 6) ∧ (mSome (x1 >>> ((4 : Int32) &&& 31)) 6) < 100)) (kchk (decide (List.length ((([] : List Int32) ++ mTx "3 20 ") ++ dgt (mSome (x1 >>> ((4 : Int32) &&& 31)) 6)) + (mTx "x2 ").length ≤ 16)) (kchk (decide (List.length (((([] : List Int32) ++ mTx "3 20 ") ++ dgt (mSome (x1 >>> ((4 : Int32) &&& 31)) 6)) ++ mTx "x2 ") + (dgt (mSome (x1 >>> ((5 : Int32) &&& 31)) 6)).length ≤ 16)) (kchk (decide (0 ≤ (mSome (x1 >>> ((5 : Int32) &&& 31)) 6) ∧ (mSome (x1 >>> ((5 : Int32) &&& 31)) 6) < 100)) (kchk (decide (List.length ((((([] : List Int32) ++ mTx "3 20 ") ++ dgt (mSome (x1 >>> ((4 : Int32) &&& 31)) 6)) ++ mTx "x2 ") ++ dgt (mSome (x1 >>> ((5 : Int32) &&& 31)) 6)) + (mTx "x1").length ≤ 16)) (kbind (lf_told (((((([] : List Int32) ++ mTx "3 20 ") ++ dgt (mSome (x1 >>> ((4 : Int32) &&& 31)) 6)) ++ mTx "x2 ") ++ dgt (mSome (x1 >>> ((5 : Int32) &&& 31)) 6)) ++ mTx "x1") f) (fun r43 g44 => klt r43 0 (some (0, g44)) (some (1, g44))))))))))) (keq (mSome x1 14) 3 (kbind (lf_mount f (mSome (x1 >>> ((4 : Int32) &&& 31)) 5)) (fun r46 g47 => klt r46 0 (some (0, g47)) (some (1, g47)))) (keq (mSome x1 14) 4 (kbind (lf_load f (mSome (x1 >>> ((5 : Int32) &&& 31)) 4) (mSome (x1 >>> ((4 : Int32) &&& 31)) 5) (mSome (x1 >>> ((2 : Int32) &&& 31)) 40000)) (fun r49 g50 => klt r49 0 (some (0, g50)) (some (1, g50)))) (keq (mSome x1 14) 5 (kbind (lf_load f (mSome (x1 >>> ((5 : Int32) &&& 31)) 4) (mSome (x1 >>> ((4 : Int32) &&& 31)) 5) (mSome (x1 >>> ((2 : Int32) &&& 31)) 40000)) (fun r52 g53 => klt r52 0 (some (0, g53)) (some (1, g53)))) (keq (mSome x1 14) 6 (kbind (lf_empty f (mSome (x1 >>> ((4 : Int32) &&& 31)) 4)) (fun r55 g56 => klt r55 0 (some (0, g56)) (some (1, g56)))) (keq (mSome x1 14) 7 (kbind (lf_pause f (mSome (x1 >>> ((3 : Int32) &&& 31)) 300)) (fun r58 g59 => klt r58 0 (some (0, g59)) (some (1, g59)))) (keq (mSome x1 14) 8 (kbind (lf_pause f (mSome (x1 >>> ((3 : Int32) &&& 31)) 300)) (fun r61 g62 => klt r61 0 (some (0, g62)) (some (1, g62)))) (keq (mSome x1 14) 9 (kbind (lf_run f (mSome (x1 >>> ((4 : Int32) &&& 31)) 5) (mSome (x1 >>> ((5 : Int32) &&& 31)) 60)) (fun r64 g65 => klt r64 0 (some (0, g65)) (some (1, g65)))) (keq (mSome x1 14) 10 (kbind (lf_order f (mSome (x1 >>> ((5 : Int32) &&& 31)) 5) (mSome (x1 >>> ((4 : Int32) &&& 31)) 5) (mSome (x1 >>> ((6 : Int32) &&& 31)) 22) (mSome (x1 >>> ((7 : Int32) &&& 31)) 102)) (fun r67 g68 => klt r67 0 (some (0, g68)) (some (1, g68)))) (keq (mSome x1 14) 11 (kbind (lf_callOff f (mSome (x1 >>> ((4 : Int32) &&& 31)) 4)) (fun r70 g71 => klt r70 0 (some (0, g71)) (some (1, g71)))) (keq (mSome x1 14) 12 (kbind (lf_set f (mSome (x1 >>> ((4 : Int32) &&& 31)) 5) (mSome (x1 >>> ((5 : Int32) &&& 31)) 600)) (fun r73 g74 => klt r73 0 (some (0, g74)) (some (1, g74)))) (kchk (decide (Int32.toInt (mSome x1 14) < 0 ∨ 12 < Int32.toInt (mSome x1 14))) (keq ((x1 >>> ((6 : Int32) &&& 31)) &&& (1 : Int32)) 0 (kchk (decide (List.length ([] : List Int32) + (mTx "l").length ≤ 16)) (kchk (decide (List.length (([] : List Int32) ++ mTx "l") + (dgt (mSome (x1 >>> ((3 : Int32) &&& 31)) 3)).length ≤ 16)) (kchk (decide (0 ≤ (mSome (x1 >>> ((3 : Int32) &&& 31)) 3) ∧ (mSome (x1 >>> ((3 : Int32) &&& 31)) 3) < 100)) (kchk (decide (List.length ((([] : List Int32) ++ mTx "l") ++ dgt (mSome (x1 >>> ((3 : Int32) &&& 31)) 3)) + (dgt (mSome (x1 >>> ((5 : Int32) &&& 31)) 4)).length ≤ 16)) (kchk (decide (0 ≤ (mSome (x1 >>> ((5 : Int32) &&& 31)) 4) ∧ (mSome (x1 >>> ((5 : Int32) &&& 31)) 4) < 100)) (kchk (decide (List.length (((([] : List Int32) ++ mTx "l") ++ dgt (mSome (x1 >>> ((3 : Int32) &&& 31)) 3)) ++ dgt (mSome (x1 >>> ((5 : Int32) &&& 31)) 4)) + (mTx "g900;w90").length ≤ 16)) (kbind (lf_does ((((([] : List Int32) ++ mTx "l") ++ dgt (mSome (x1 >>> ((3 : Int32) &&& 31)) 3)) ++ dgt (mSome (x1 >>> ((5 : Int32) &&& 31)) 4)) ++ mTx "g900;w90") f) (fun r128 g129 => klt r128 0 (some (0, g129)) (some (1, g129)))))))))) (kchk (decide (List.length ([] : List Int32) + (mTx "w5;m").length ≤ 16)) (kchk (decide (List.length (([] : List Int32) ++ mTx "w5;m") + (dgt (mSome (x1 >>> ((3 : Int32) &&& 31)) 4)).length ≤ 16)) (kchk (decide (0 ≤ (mSome (x1 >>> ((3 : Int32) &&& 31)) 4) ∧ (mSome (x1 >>> ((3 : Int32) &&& 31)) 4) < 100)) (kbind (lf_does ((([] : List Int32) ++ mTx "w5;m") ++ dgt (mSome (x1 >>> ((3 : Int32) &&& 31)) 4)) f) (fun r96 g97 => klt r96 0 (some (0, g97)) (some (1, g97)))))))))))))))))))))
set_option maxRecDepth 20000 in
set_option maxHeartbeats 4000000 in
theorem ml_changes (l : Launch) (hst : l.stackTraces = false) (Z : mZ) (ad : Nat → Nat) (had : mAd Z ad) (f : kMem) (x1 : Int32) (r : Int32) (fo : kMem) (h : lf_changes f x1 = some (r, fo)) : mMet l Z yL_changes (.code yL_changes cL_changes 3 (some .boolean)) 10 (2 * 21) (12 * 21) [.ref (ad 291), .int x1] (kw (wC Z.1 ad) f) [] (mQi (wC Z.1 ad) (r, fo)) := by
  refine mMet_of (z := (r, fo)) (X := lf_changes f x1) (own := RL) (lv := [(0, .ref (ad 291)), (1, .int x1)]) hst (by decide +kernel) rfl (Nat.le_of_ble_eq_true rfl) rfl h ?_
  intro p e R s m args below meth c C hini
  have hA : ∀ q, s.heap.size ≤ q → wA (kw (wC Z.1 ad) f) s.heap.size q := fun q h => Or.inr h
  have hU : 2 * 21 ≤ 2 * 21 ∧ 12 * 21 ≤ 12 * 21 := ⟨Nat.le_refl _, Nat.le_refl _⟩
  have hd : 10 ≤ 10 ∧ 3 ≤ 3 := ⟨Nat.le_refl _, Nat.le_refl _⟩
  unfold lf_changes
  refine M_widen (k1 := 2 * 0) (n1 := 12 * 0) (by decide) (by decide) ?_
  refine M_nil ?_
  refine M_iload_n C 1 rfl rfl dL_changes_0 ?_
  refine M_iconst C (v := 4) (by decide) dL_changes_1 ?_
  refine M_ishr C dL_changes_2 ?_
  refine M_iconst C (v := 5) (by decide) dL_changes_3 ?_
  refine M_pS C hA hU (ml_some l C.2.2.2.2.2.2 Z _ _ (by decide)) jy_L_some jm_L_165 (by omega) (by omega) rfl (As := [.int (x1 >>> ((4 : Int32) &&& 31)), .int 5]) (rest := []) rfl (Nat.le_of_ble_eq_true rfl) dL_changes_4 ?_
  refine M_istore_n C rfl (Nat.lt_of_lt_of_le (by decide) hd.2) (lv1 := [(2, .int (mSome (x1 >>> ((4 : Int32) &&& 31)) 5)), (0, .ref (ad 291)), (1, .int x1)]) rfl dL_changes_7 ?_
  refine M_iload_n C 2 rfl rfl dL_changes_8 ?_
  refine M_bipush C (v := 14) (by decide) dL_changes_9 ?_
  refine M_pS C hA hU (ml_some l C.2.2.2.2.2.2 Z _ _ (by decide)) jy_L_some jm_L_165 (by omega) (by omega) rfl (As := [.int x1, .int 14]) (rest := []) rfl (Nat.le_of_ble_eq_true rfl) dL_changes_11 ?_
  refine M_case (fun h3 => ?_) (fun n0 => ?_)
  · refine M_tin C (tgt := 80) (off := 66) (by rw [h3]; decide) (by rw [h3]; decide) (by rw [h3]; decide) (by decide) dL_changes_14 ?_
    refine M_aload_n C 1 rfl rfl dL_changes_80 ?_
    refine M_iload_n C 2 rfl rfl dL_changes_81 ?_
    refine M_iconst C (v := 4) (by decide) dL_changes_82 ?_
    refine M_ishr C dL_changes_83 ?_
    refine M_bipush C (v := 11) (by decide) dL_changes_84 ?_
    refine M_pS C hA hU (ml_some l C.2.2.2.2.2.2 Z _ _ (by decide)) jy_L_some jm_L_165 (by omega) (by omega) rfl (As := [.int (x1 >>> ((4 : Int32) &&& 31)), .int 11]) (rest := [.ref (ad 291)]) rfl (Nat.le_of_ble_eq_true rfl) dL_changes_86 ?_
    refine M_bW C hA hU (v := 1) (wr := []) (As := [.ref (ad 291), .int (mSome (x1 >>> ((4 : Int32) &&& 31)) 11)]) (rest := []) (fun ry fy hy => wl_colour l C.2.2.2.2.2.2 Z ad had f (mSome (x1 >>> ((4 : Int32) &&& 31)) 11) ry fy hy) jy_L_colour jm_L_168 mSS_nil (by omega) (by omega) rfl rfl (Nat.le_of_ble_eq_true rfl) dL_changes_89 (fun r1 g2 => ?_)
    refine M_if_lt C (tgt := 99) (by decide) dL_changes_92 ?_ ?_
    · refine M_iconst C (v := 0) (by decide) dL_changes_99 ?_
      exact M_iret C (ty := .boolean) rfl rfl ⟨by omega, by omega⟩ dL_changes_100 (fun h9 => by cases h9; exact ⟨rfl, List.append_nil _⟩)
    · refine M_iconst C (v := 1) (by decide) dL_changes_95 ?_
      refine M_goto C (tgt := 100) (by decide) dL_changes_96 ?_
      exact M_iret C (ty := .boolean) rfl rfl ⟨by omega, by omega⟩ dL_changes_100 (fun h9 => by cases h9; exact ⟨rfl, List.append_nil _⟩)
  refine M_case (fun h6 => ?_) (fun n1 => ?_)
  · refine M_tin C (tgt := 101) (off := 87) (by rw [h6]; decide) (by rw [h6]; decide) (by rw [h6]; decide) (by decide) dL_changes_14 ?_
    refine M_aload_n C 1 rfl rfl dL_changes_101 ?_
    refine M_iload_n C 2 rfl rfl dL_changes_102 ?_
    refine M_iconst C (v := 4) (by decide) dL_changes_103 ?_
    refine M_ishr C dL_changes_104 ?_
    refine M_bipush C (v := 52) (by decide) dL_changes_105 ?_
    refine M_pS C hA hU (ml_some l C.2.2.2.2.2.2 Z _ _ (by decide)) jy_L_some jm_L_165 (by omega) (by omega) rfl (As := [.int (x1 >>> ((4 : Int32) &&& 31)), .int 52]) (rest := [.ref (ad 291)]) rfl (Nat.le_of_ble_eq_true rfl) dL_changes_107 ?_
    refine M_bW C hA hU (v := 1) (wr := []) (As := [.ref (ad 291), .int (mSome (x1 >>> ((4 : Int32) &&& 31)) 52)]) (rest := []) (fun ry fy hy => wl_part l C.2.2.2.2.2.2 Z ad had f (mSome (x1 >>> ((4 : Int32) &&& 31)) 52) ry fy hy) jy_L_part jm_L_171 mSS_nil (by omega) (by omega) rfl rfl (Nat.le_of_ble_eq_true rfl) dL_changes_110 (fun r4 g5 => ?_)
    refine M_if_lt C (tgt := 120) (by decide) dL_changes_113 ?_ ?_
    · refine M_iconst C (v := 0) (by decide) dL_changes_120 ?_
      exact M_iret C (ty := .boolean) rfl rfl ⟨by omega, by omega⟩ dL_changes_121 (fun h9 => by cases h9; exact ⟨rfl, List.append_nil _⟩)
    · refine M_iconst C (v := 1) (by decide) dL_changes_116 ?_
      refine M_goto C (tgt := 121) (by decide) dL_changes_117 ?_
      exact M_iret C (ty := .boolean) rfl rfl ⟨by omega, by omega⟩ dL_changes_121 (fun h9 => by cases h9; exact ⟨rfl, List.append_nil _⟩)
  refine M_case (fun h45 => ?_) (fun n2 => ?_)
  · refine M_tin C (tgt := 122) (off := 108) (by rw [h45]; decide) (by rw [h45]; decide) (by rw [h45]; decide) (by decide) dL_changes_14 ?_
    refine M_aload_n C 1 rfl rfl dL_changes_122 ?_
    refine M_sbNew C hA (by omega) ⟨by omega, by omega⟩ (Nat.le_of_ble_eq_true rfl) dL_changes_123 dL_changes_126 dL_changes_127 (fun q7 q8 b9 hT10 => ?_)
    refine M_widen (k1 := 2 * (0 + 2)) (n1 := 12 * (0 + 2)) (by omega) (by omega) ?_
    refine M_ldcS C (tx := "3 20 ") (by decide) dL_changes_130 (fun sa11 sv12 hs13 => ?_)
    refine M_chk (fun hn16 => ?_)
    refine M_sbS C hA (u := mTx "3 20 ") hs13 hT10 (of_decide_eq_true hn16) (mLit_ok "3 20 " (by decide)).2 (by omega) ⟨by omega, by omega⟩ (rest := [.ref (ad 291)]) (Nat.le_of_ble_eq_true rfl) dL_changes_132 (fun b14 hT15 => ?_)
    refine M_iload_n C 2 rfl rfl dL_changes_135 ?_
    refine M_iconst C (v := 4) (by decide) dL_changes_136 ?_
    refine M_ishr C dL_changes_137 ?_
    refine M_bipush C (v := 6) (by decide) dL_changes_138 ?_
    refine M_pS C hA hU (ml_some l C.2.2.2.2.2.2 Z _ _ (by decide)) jy_L_some jm_L_165 (by omega) (by omega) rfl (As := [.int (x1 >>> ((4 : Int32) &&& 31)), .int 6]) (rest := [.ref q7, .ref (ad 291)]) rfl (Nat.le_of_ble_eq_true rfl) dL_changes_140 ?_
    refine M_chk (fun hn19 => ?_)
    refine M_chk (fun hv20 => ?_)
    refine M_sbI C hA (of_decide_eq_true hv20) hT15 (of_decide_eq_true hn19) (by omega) ⟨by omega, by omega⟩ (rest := [.ref (ad 291)]) (Nat.le_of_ble_eq_true rfl) dL_changes_143 (fun b17 hT18 => ?_)
    refine M_ldcS C (tx := "x2 ") (by decide) dL_changes_146 (fun sa21 sv22 hs23 => ?_)
    refine M_chk (fun hn26 => ?_)
    refine M_sbS C hA (u := mTx "x2 ") hs23 hT18 (of_decide_eq_true hn26) (mLit_ok "x2 " (by decide)).2 (by omega) ⟨by omega, by omega⟩ (rest := [.ref (ad 291)]) (Nat.le_of_ble_eq_true rfl) dL_changes_148 (fun b24 hT25 => ?_)
    refine M_iload_n C 2 rfl rfl dL_changes_151 ?_
    refine M_iconst C (v := 5) (by decide) dL_changes_152 ?_
    refine M_ishr C dL_changes_153 ?_
    refine M_bipush C (v := 6) (by decide) dL_changes_154 ?_
    refine M_pS C hA hU (ml_some l C.2.2.2.2.2.2 Z _ _ (by decide)) jy_L_some jm_L_165 (by omega) (by omega) rfl (As := [.int (x1 >>> ((5 : Int32) &&& 31)), .int 6]) (rest := [.ref q7, .ref (ad 291)]) rfl (Nat.le_of_ble_eq_true rfl) dL_changes_156 ?_
    refine M_chk (fun hn29 => ?_)
    refine M_chk (fun hv30 => ?_)
    refine M_sbI C hA (of_decide_eq_true hv30) hT25 (of_decide_eq_true hn29) (by omega) ⟨by omega, by omega⟩ (rest := [.ref (ad 291)]) (Nat.le_of_ble_eq_true rfl) dL_changes_159 (fun b27 hT28 => ?_)
    refine M_ldcS C (tx := "x1") (by decide) dL_changes_162 (fun sa31 sv32 hs33 => ?_)
    refine M_chk (fun hn36 => ?_)
    refine M_sbS C hA (u := mTx "x1") hs33 hT28 (of_decide_eq_true hn36) (mLit_ok "x1" (by decide)).2 (by omega) ⟨by omega, by omega⟩ (rest := [.ref (ad 291)]) (Nat.le_of_ble_eq_true rfl) dL_changes_164 (fun b34 hT35 => ?_)
    refine M_sbT C hA hT35 (by omega) ⟨by omega, by omega⟩ (rest := [.ref (ad 291)]) (Nat.le_of_ble_eq_true rfl) dL_changes_167 (fun qs39 qv40 b41 hg42 => ?_)
    refine M_ws (ws1 := kw (wC Z.1 ad) f ++ ([] ++ [(qs39, .inr (0, [.ref qv40, .int 0, .int 0, .int 0])), (qv40, eY Z (List.length (((((([] : List Int32) ++ mTx "3 20 ") ++ dgt (mSome (x1 >>> ((4 : Int32) &&& 31)) 6)) ++ mTx "x2 ") ++ dgt (mSome (x1 >>> ((5 : Int32) &&& 31)) 6)) ++ mTx "x1")) b41)])) (List.append_assoc _ _ _) ?_
    refine M_widen (k1 := 2 * (0 + 4)) (n1 := 12 * (0 + 4)) (by omega) (by omega) ?_
    refine M_bS C hA hU (v := 17) (wr := ([] ++ [(qs39, .inr (0, [.ref qv40, .int 0, .int 0, .int 0])), (qv40, eY Z (List.length (((((([] : List Int32) ++ mTx "3 20 ") ++ dgt (mSome (x1 >>> ((4 : Int32) &&& 31)) 6)) ++ mTx "x2 ") ++ dgt (mSome (x1 >>> ((5 : Int32) &&& 31)) 6)) ++ mTx "x1")) b41)])) (As := [.ref (ad 291), .ref qs39]) (rest := []) (fun ry fy hy => ml_told l C.2.2.2.2.2.2 Z ad had f _ _ (((((([] : List Int32) ++ mTx "3 20 ") ++ dgt (mSome (x1 >>> ((4 : Int32) &&& 31)) 6)) ++ mTx "x2 ") ++ dgt (mSome (x1 >>> ((5 : Int32) &&& 31)) 6)) ++ mTx "x1") ⟨hT35.1, hT35.2.2.2⟩ ry fy hy) jy_L_told jm_L_186 (mSS_new C (List.mem_append_right _ List.mem_cons_self) (List.mem_append_right _ (List.mem_cons_of_mem _ List.mem_cons_self)) rfl hg42) (by omega) (by omega) rfl rfl (Nat.le_of_ble_eq_true rfl) dL_changes_170 (fun r43 g44 => ?_)
    refine M_ws (ws1 := (kw (wC Z.1 ad) g44 ++ []) ++ [(qs39, .inr (0, [.ref qv40, .int 0, .int 0, .int 0])), (qv40, eY Z (List.length (((((([] : List Int32) ++ mTx "3 20 ") ++ dgt (mSome (x1 >>> ((4 : Int32) &&& 31)) 6)) ++ mTx "x2 ") ++ dgt (mSome (x1 >>> ((5 : Int32) &&& 31)) 6)) ++ mTx "x1")) b41)]) (List.append_assoc _ _ _).symm ?_
    refine M_drop ?_
    refine M_if_lt C (tgt := 180) (by decide) dL_changes_173 ?_ ?_
    · refine M_iconst C (v := 0) (by decide) dL_changes_180 ?_
      exact M_iret C (ty := .boolean) rfl rfl ⟨by omega, by omega⟩ dL_changes_181 (fun h9 => by cases h9; exact ⟨rfl, List.append_nil _⟩)
    · refine M_iconst C (v := 1) (by decide) dL_changes_176 ?_
      refine M_goto C (tgt := 181) (by decide) dL_changes_177 ?_
      exact M_iret C (ty := .boolean) rfl rfl ⟨by omega, by omega⟩ dL_changes_181 (fun h9 => by cases h9; exact ⟨rfl, List.append_nil _⟩)
  refine M_case (fun h48 => ?_) (fun n3 => ?_)
  · refine M_tin C (tgt := 182) (off := 168) (by rw [h48]; decide) (by rw [h48]; decide) (by rw [h48]; decide) (by decide) dL_changes_14 ?_
    refine M_aload_n C 1 rfl rfl dL_changes_182 ?_
    refine M_iload_n C 2 rfl rfl dL_changes_183 ?_
    refine M_iconst C (v := 4) (by decide) dL_changes_184 ?_
    refine M_ishr C dL_changes_185 ?_
    refine M_iconst C (v := 5) (by decide) dL_changes_186 ?_
    refine M_pS C hA hU (ml_some l C.2.2.2.2.2.2 Z _ _ (by decide)) jy_L_some jm_L_165 (by omega) (by omega) rfl (As := [.int (x1 >>> ((4 : Int32) &&& 31)), .int 5]) (rest := [.ref (ad 291)]) rfl (Nat.le_of_ble_eq_true rfl) dL_changes_187 ?_
    refine M_bW C hA hU (v := 1) (wr := []) (As := [.ref (ad 291), .int (mSome (x1 >>> ((4 : Int32) &&& 31)) 5)]) (rest := []) (fun ry fy hy => wl_mount l C.2.2.2.2.2.2 Z ad had f (mSome (x1 >>> ((4 : Int32) &&& 31)) 5) ry fy hy) jy_L_mount jm_L_254 mSS_nil (by omega) (by omega) rfl rfl (Nat.le_of_ble_eq_true rfl) dL_changes_190 (fun r46 g47 => ?_)
    refine M_if_lt C (tgt := 200) (by decide) dL_changes_193 ?_ ?_
    · refine M_iconst C (v := 0) (by decide) dL_changes_200 ?_
      exact M_iret C (ty := .boolean) rfl rfl ⟨by omega, by omega⟩ dL_changes_201 (fun h9 => by cases h9; exact ⟨rfl, List.append_nil _⟩)
    · refine M_iconst C (v := 1) (by decide) dL_changes_196 ?_
      refine M_goto C (tgt := 201) (by decide) dL_changes_197 ?_
      exact M_iret C (ty := .boolean) rfl rfl ⟨by omega, by omega⟩ dL_changes_201 (fun h9 => by cases h9; exact ⟨rfl, List.append_nil _⟩)
  refine M_case (fun h51 => ?_) (fun n4 => ?_)
  · refine M_tin C (tgt := 202) (off := 188) (by rw [h51]; decide) (by rw [h51]; decide) (by rw [h51]; decide) (by decide) dL_changes_14 ?_
    refine M_aload_n C 1 rfl rfl dL_changes_202 ?_
    refine M_iload_n C 2 rfl rfl dL_changes_203 ?_
    refine M_iconst C (v := 5) (by decide) dL_changes_204 ?_
    refine M_ishr C dL_changes_205 ?_
    refine M_iconst C (v := 4) (by decide) dL_changes_206 ?_
    refine M_pS C hA hU (ml_some l C.2.2.2.2.2.2 Z _ _ (by decide)) jy_L_some jm_L_165 (by omega) (by omega) rfl (As := [.int (x1 >>> ((5 : Int32) &&& 31)), .int 4]) (rest := [.ref (ad 291)]) rfl (Nat.le_of_ble_eq_true rfl) dL_changes_207 ?_
    refine M_iload_n C 0 rfl rfl dL_changes_210 ?_
    refine M_iload_n C 2 rfl rfl dL_changes_211 ?_
    refine M_iconst C (v := 2) (by decide) dL_changes_212 ?_
    refine M_ishr C dL_changes_213 ?_
    refine M_ldc_w C jc_L_256 dL_changes_214 ?_
    refine M_pS C hA hU (ml_some l C.2.2.2.2.2.2 Z _ _ (by decide)) jy_L_some jm_L_165 (by omega) (by omega) rfl (As := [.int (x1 >>> ((2 : Int32) &&& 31)), .int 40000]) (rest := [.int (mSome (x1 >>> ((4 : Int32) &&& 31)) 5), .int (mSome (x1 >>> ((5 : Int32) &&& 31)) 4), .ref (ad 291)]) rfl (Nat.le_of_ble_eq_true rfl) dL_changes_217 ?_
    refine M_bW C hA hU (v := 1) (wr := []) (As := [.ref (ad 291), .int (mSome (x1 >>> ((5 : Int32) &&& 31)) 4), .int (mSome (x1 >>> ((4 : Int32) &&& 31)) 5), .int (mSome (x1 >>> ((2 : Int32) &&& 31)) 40000)]) (rest := []) (fun ry fy hy => wl_load l C.2.2.2.2.2.2 Z ad had f (mSome (x1 >>> ((5 : Int32) &&& 31)) 4) (mSome (x1 >>> ((4 : Int32) &&& 31)) 5) (mSome (x1 >>> ((2 : Int32) &&& 31)) 40000) ry fy hy) jy_L_load jm_L_257 mSS_nil (by omega) (by omega) rfl rfl (Nat.le_of_ble_eq_true rfl) dL_changes_220 (fun r49 g50 => ?_)
    refine M_if_lt C (tgt := 230) (by decide) dL_changes_223 ?_ ?_
    · refine M_iconst C (v := 0) (by decide) dL_changes_230 ?_
      exact M_iret C (ty := .boolean) rfl rfl ⟨by omega, by omega⟩ dL_changes_231 (fun h9 => by cases h9; exact ⟨rfl, List.append_nil _⟩)
    · refine M_iconst C (v := 1) (by decide) dL_changes_226 ?_
      refine M_goto C (tgt := 231) (by decide) dL_changes_227 ?_
      exact M_iret C (ty := .boolean) rfl rfl ⟨by omega, by omega⟩ dL_changes_231 (fun h9 => by cases h9; exact ⟨rfl, List.append_nil _⟩)
  refine M_case (fun h54 => ?_) (fun n5 => ?_)
  · refine M_tin C (tgt := 202) (off := 188) (by rw [h54]; decide) (by rw [h54]; decide) (by rw [h54]; decide) (by decide) dL_changes_14 ?_
    refine M_aload_n C 1 rfl rfl dL_changes_202 ?_
    refine M_iload_n C 2 rfl rfl dL_changes_203 ?_
    refine M_iconst C (v := 5) (by decide) dL_changes_204 ?_
    refine M_ishr C dL_changes_205 ?_
    refine M_iconst C (v := 4) (by decide) dL_changes_206 ?_
    refine M_pS C hA hU (ml_some l C.2.2.2.2.2.2 Z _ _ (by decide)) jy_L_some jm_L_165 (by omega) (by omega) rfl (As := [.int (x1 >>> ((5 : Int32) &&& 31)), .int 4]) (rest := [.ref (ad 291)]) rfl (Nat.le_of_ble_eq_true rfl) dL_changes_207 ?_
    refine M_iload_n C 0 rfl rfl dL_changes_210 ?_
    refine M_iload_n C 2 rfl rfl dL_changes_211 ?_
    refine M_iconst C (v := 2) (by decide) dL_changes_212 ?_
    refine M_ishr C dL_changes_213 ?_
    refine M_ldc_w C jc_L_256 dL_changes_214 ?_
    refine M_pS C hA hU (ml_some l C.2.2.2.2.2.2 Z _ _ (by decide)) jy_L_some jm_L_165 (by omega) (by omega) rfl (As := [.int (x1 >>> ((2 : Int32) &&& 31)), .int 40000]) (rest := [.int (mSome (x1 >>> ((4 : Int32) &&& 31)) 5), .int (mSome (x1 >>> ((5 : Int32) &&& 31)) 4), .ref (ad 291)]) rfl (Nat.le_of_ble_eq_true rfl) dL_changes_217 ?_
    refine M_bW C hA hU (v := 1) (wr := []) (As := [.ref (ad 291), .int (mSome (x1 >>> ((5 : Int32) &&& 31)) 4), .int (mSome (x1 >>> ((4 : Int32) &&& 31)) 5), .int (mSome (x1 >>> ((2 : Int32) &&& 31)) 40000)]) (rest := []) (fun ry fy hy => wl_load l C.2.2.2.2.2.2 Z ad had f (mSome (x1 >>> ((5 : Int32) &&& 31)) 4) (mSome (x1 >>> ((4 : Int32) &&& 31)) 5) (mSome (x1 >>> ((2 : Int32) &&& 31)) 40000) ry fy hy) jy_L_load jm_L_257 mSS_nil (by omega) (by omega) rfl rfl (Nat.le_of_ble_eq_true rfl) dL_changes_220 (fun r52 g53 => ?_)
    refine M_if_lt C (tgt := 230) (by decide) dL_changes_223 ?_ ?_
    · refine M_iconst C (v := 0) (by decide) dL_changes_230 ?_
      exact M_iret C (ty := .boolean) rfl rfl ⟨by omega, by omega⟩ dL_changes_231 (fun h9 => by cases h9; exact ⟨rfl, List.append_nil _⟩)
    · refine M_iconst C (v := 1) (by decide) dL_changes_226 ?_
      refine M_goto C (tgt := 231) (by decide) dL_changes_227 ?_
      exact M_iret C (ty := .boolean) rfl rfl ⟨by omega, by omega⟩ dL_changes_231 (fun h9 => by cases h9; exact ⟨rfl, List.append_nil _⟩)
  refine M_case (fun h57 => ?_) (fun n6 => ?_)
  · refine M_tin C (tgt := 232) (off := 218) (by rw [h57]; decide) (by rw [h57]; decide) (by rw [h57]; decide) (by decide) dL_changes_14 ?_
    refine M_aload_n C 1 rfl rfl dL_changes_232 ?_
    refine M_iload_n C 2 rfl rfl dL_changes_233 ?_
    refine M_iconst C (v := 4) (by decide) dL_changes_234 ?_
    refine M_ishr C dL_changes_235 ?_
    refine M_iconst C (v := 4) (by decide) dL_changes_236 ?_
    refine M_pS C hA hU (ml_some l C.2.2.2.2.2.2 Z _ _ (by decide)) jy_L_some jm_L_165 (by omega) (by omega) rfl (As := [.int (x1 >>> ((4 : Int32) &&& 31)), .int 4]) (rest := [.ref (ad 291)]) rfl (Nat.le_of_ble_eq_true rfl) dL_changes_237 ?_
    refine M_bW C hA hU (v := 1) (wr := []) (As := [.ref (ad 291), .int (mSome (x1 >>> ((4 : Int32) &&& 31)) 4)]) (rest := []) (fun ry fy hy => wl_empty l C.2.2.2.2.2.2 Z ad had f (mSome (x1 >>> ((4 : Int32) &&& 31)) 4) ry fy hy) jy_L_empty jm_L_259 mSS_nil (by omega) (by omega) rfl rfl (Nat.le_of_ble_eq_true rfl) dL_changes_240 (fun r55 g56 => ?_)
    refine M_if_lt C (tgt := 250) (by decide) dL_changes_243 ?_ ?_
    · refine M_iconst C (v := 0) (by decide) dL_changes_250 ?_
      exact M_iret C (ty := .boolean) rfl rfl ⟨by omega, by omega⟩ dL_changes_251 (fun h9 => by cases h9; exact ⟨rfl, List.append_nil _⟩)
    · refine M_iconst C (v := 1) (by decide) dL_changes_246 ?_
      refine M_goto C (tgt := 251) (by decide) dL_changes_247 ?_
      exact M_iret C (ty := .boolean) rfl rfl ⟨by omega, by omega⟩ dL_changes_251 (fun h9 => by cases h9; exact ⟨rfl, List.append_nil _⟩)
  refine M_case (fun h60 => ?_) (fun n7 => ?_)
  · refine M_tin C (tgt := 252) (off := 238) (by rw [h60]; decide) (by rw [h60]; decide) (by rw [h60]; decide) (by decide) dL_changes_14 ?_
    refine M_aload_n C 1 rfl rfl dL_changes_252 ?_
    refine M_iload_n C 2 rfl rfl dL_changes_253 ?_
    refine M_iconst C (v := 3) (by decide) dL_changes_254 ?_
    refine M_ishr C dL_changes_255 ?_
    refine M_sipush C (v := 300) (by decide) dL_changes_256 ?_
    refine M_pS C hA hU (ml_some l C.2.2.2.2.2.2 Z _ _ (by decide)) jy_L_some jm_L_165 (by omega) (by omega) rfl (As := [.int (x1 >>> ((3 : Int32) &&& 31)), .int 300]) (rest := [.ref (ad 291)]) rfl (Nat.le_of_ble_eq_true rfl) dL_changes_259 ?_
    refine M_bW C hA hU (v := 1) (wr := []) (As := [.ref (ad 291), .int (mSome (x1 >>> ((3 : Int32) &&& 31)) 300)]) (rest := []) (fun ry fy hy => wl_pause l C.2.2.2.2.2.2 Z ad had f (mSome (x1 >>> ((3 : Int32) &&& 31)) 300) ry fy hy) jy_L_pause jm_L_261 mSS_nil (by omega) (by omega) rfl rfl (Nat.le_of_ble_eq_true rfl) dL_changes_262 (fun r58 g59 => ?_)
    refine M_if_lt C (tgt := 272) (by decide) dL_changes_265 ?_ ?_
    · refine M_iconst C (v := 0) (by decide) dL_changes_272 ?_
      exact M_iret C (ty := .boolean) rfl rfl ⟨by omega, by omega⟩ dL_changes_273 (fun h9 => by cases h9; exact ⟨rfl, List.append_nil _⟩)
    · refine M_iconst C (v := 1) (by decide) dL_changes_268 ?_
      refine M_goto C (tgt := 273) (by decide) dL_changes_269 ?_
      exact M_iret C (ty := .boolean) rfl rfl ⟨by omega, by omega⟩ dL_changes_273 (fun h9 => by cases h9; exact ⟨rfl, List.append_nil _⟩)
  refine M_case (fun h63 => ?_) (fun n8 => ?_)
  · refine M_tin C (tgt := 252) (off := 238) (by rw [h63]; decide) (by rw [h63]; decide) (by rw [h63]; decide) (by decide) dL_changes_14 ?_
    refine M_aload_n C 1 rfl rfl dL_changes_252 ?_
    refine M_iload_n C 2 rfl rfl dL_changes_253 ?_
    refine M_iconst C (v := 3) (by decide) dL_changes_254 ?_
    refine M_ishr C dL_changes_255 ?_
    refine M_sipush C (v := 300) (by decide) dL_changes_256 ?_
    refine M_pS C hA hU (ml_some l C.2.2.2.2.2.2 Z _ _ (by decide)) jy_L_some jm_L_165 (by omega) (by omega) rfl (As := [.int (x1 >>> ((3 : Int32) &&& 31)), .int 300]) (rest := [.ref (ad 291)]) rfl (Nat.le_of_ble_eq_true rfl) dL_changes_259 ?_
    refine M_bW C hA hU (v := 1) (wr := []) (As := [.ref (ad 291), .int (mSome (x1 >>> ((3 : Int32) &&& 31)) 300)]) (rest := []) (fun ry fy hy => wl_pause l C.2.2.2.2.2.2 Z ad had f (mSome (x1 >>> ((3 : Int32) &&& 31)) 300) ry fy hy) jy_L_pause jm_L_261 mSS_nil (by omega) (by omega) rfl rfl (Nat.le_of_ble_eq_true rfl) dL_changes_262 (fun r61 g62 => ?_)
    refine M_if_lt C (tgt := 272) (by decide) dL_changes_265 ?_ ?_
    · refine M_iconst C (v := 0) (by decide) dL_changes_272 ?_
      exact M_iret C (ty := .boolean) rfl rfl ⟨by omega, by omega⟩ dL_changes_273 (fun h9 => by cases h9; exact ⟨rfl, List.append_nil _⟩)
    · refine M_iconst C (v := 1) (by decide) dL_changes_268 ?_
      refine M_goto C (tgt := 273) (by decide) dL_changes_269 ?_
      exact M_iret C (ty := .boolean) rfl rfl ⟨by omega, by omega⟩ dL_changes_273 (fun h9 => by cases h9; exact ⟨rfl, List.append_nil _⟩)
  refine M_case (fun h66 => ?_) (fun n9 => ?_)
  · refine M_tin C (tgt := 274) (off := 260) (by rw [h66]; decide) (by rw [h66]; decide) (by rw [h66]; decide) (by decide) dL_changes_14 ?_
    refine M_aload_n C 1 rfl rfl dL_changes_274 ?_
    refine M_iload_n C 0 rfl rfl dL_changes_275 ?_
    refine M_iload_n C 2 rfl rfl dL_changes_276 ?_
    refine M_iconst C (v := 5) (by decide) dL_changes_277 ?_
    refine M_ishr C dL_changes_278 ?_
    refine M_bipush C (v := 60) (by decide) dL_changes_279 ?_
    refine M_pS C hA hU (ml_some l C.2.2.2.2.2.2 Z _ _ (by decide)) jy_L_some jm_L_165 (by omega) (by omega) rfl (As := [.int (x1 >>> ((5 : Int32) &&& 31)), .int 60]) (rest := [.int (mSome (x1 >>> ((4 : Int32) &&& 31)) 5), .ref (ad 291)]) rfl (Nat.le_of_ble_eq_true rfl) dL_changes_281 ?_
    refine M_bW C hA hU (v := 1) (wr := []) (As := [.ref (ad 291), .int (mSome (x1 >>> ((4 : Int32) &&& 31)) 5), .int (mSome (x1 >>> ((5 : Int32) &&& 31)) 60)]) (rest := []) (fun ry fy hy => wl_run l C.2.2.2.2.2.2 Z ad had f (mSome (x1 >>> ((4 : Int32) &&& 31)) 5) (mSome (x1 >>> ((5 : Int32) &&& 31)) 60) ry fy hy) jy_L_run jm_L_263 mSS_nil (by omega) (by omega) rfl rfl (Nat.le_of_ble_eq_true rfl) dL_changes_284 (fun r64 g65 => ?_)
    refine M_if_lt C (tgt := 294) (by decide) dL_changes_287 ?_ ?_
    · refine M_iconst C (v := 0) (by decide) dL_changes_294 ?_
      exact M_iret C (ty := .boolean) rfl rfl ⟨by omega, by omega⟩ dL_changes_295 (fun h9 => by cases h9; exact ⟨rfl, List.append_nil _⟩)
    · refine M_iconst C (v := 1) (by decide) dL_changes_290 ?_
      refine M_goto C (tgt := 295) (by decide) dL_changes_291 ?_
      exact M_iret C (ty := .boolean) rfl rfl ⟨by omega, by omega⟩ dL_changes_295 (fun h9 => by cases h9; exact ⟨rfl, List.append_nil _⟩)
  refine M_case (fun h69 => ?_) (fun n10 => ?_)
  · refine M_tin C (tgt := 296) (off := 282) (by rw [h69]; decide) (by rw [h69]; decide) (by rw [h69]; decide) (by decide) dL_changes_14 ?_
    refine M_aload_n C 1 rfl rfl dL_changes_296 ?_
    refine M_iload_n C 2 rfl rfl dL_changes_297 ?_
    refine M_iconst C (v := 5) (by decide) dL_changes_298 ?_
    refine M_ishr C dL_changes_299 ?_
    refine M_iconst C (v := 5) (by decide) dL_changes_300 ?_
    refine M_pS C hA hU (ml_some l C.2.2.2.2.2.2 Z _ _ (by decide)) jy_L_some jm_L_165 (by omega) (by omega) rfl (As := [.int (x1 >>> ((5 : Int32) &&& 31)), .int 5]) (rest := [.ref (ad 291)]) rfl (Nat.le_of_ble_eq_true rfl) dL_changes_301 ?_
    refine M_iload_n C 0 rfl rfl dL_changes_304 ?_
    refine M_iload_n C 2 rfl rfl dL_changes_305 ?_
    refine M_bipush C (v := 6) (by decide) dL_changes_306 ?_
    refine M_ishr C dL_changes_308 ?_
    refine M_bipush C (v := 22) (by decide) dL_changes_309 ?_
    refine M_pS C hA hU (ml_some l C.2.2.2.2.2.2 Z _ _ (by decide)) jy_L_some jm_L_165 (by omega) (by omega) rfl (As := [.int (x1 >>> ((6 : Int32) &&& 31)), .int 22]) (rest := [.int (mSome (x1 >>> ((4 : Int32) &&& 31)) 5), .int (mSome (x1 >>> ((5 : Int32) &&& 31)) 5), .ref (ad 291)]) rfl (Nat.le_of_ble_eq_true rfl) dL_changes_311 ?_
    refine M_iload_n C 2 rfl rfl dL_changes_314 ?_
    refine M_bipush C (v := 7) (by decide) dL_changes_315 ?_
    refine M_ishr C dL_changes_317 ?_
    refine M_bipush C (v := 102) (by decide) dL_changes_318 ?_
    refine M_pS C hA hU (ml_some l C.2.2.2.2.2.2 Z _ _ (by decide)) jy_L_some jm_L_165 (by omega) (by omega) rfl (As := [.int (x1 >>> ((7 : Int32) &&& 31)), .int 102]) (rest := [.int (mSome (x1 >>> ((6 : Int32) &&& 31)) 22), .int (mSome (x1 >>> ((4 : Int32) &&& 31)) 5), .int (mSome (x1 >>> ((5 : Int32) &&& 31)) 5), .ref (ad 291)]) rfl (Nat.le_of_ble_eq_true rfl) dL_changes_320 ?_
    refine M_bW C hA hU (v := 1) (wr := []) (As := [.ref (ad 291), .int (mSome (x1 >>> ((5 : Int32) &&& 31)) 5), .int (mSome (x1 >>> ((4 : Int32) &&& 31)) 5), .int (mSome (x1 >>> ((6 : Int32) &&& 31)) 22), .int (mSome (x1 >>> ((7 : Int32) &&& 31)) 102)]) (rest := []) (fun ry fy hy => wl_order l C.2.2.2.2.2.2 Z ad had f (mSome (x1 >>> ((5 : Int32) &&& 31)) 5) (mSome (x1 >>> ((4 : Int32) &&& 31)) 5) (mSome (x1 >>> ((6 : Int32) &&& 31)) 22) (mSome (x1 >>> ((7 : Int32) &&& 31)) 102) ry fy hy) jy_L_order jm_L_265 mSS_nil (by omega) (by omega) rfl rfl (Nat.le_of_ble_eq_true rfl) dL_changes_323 (fun r67 g68 => ?_)
    refine M_if_lt C (tgt := 333) (by decide) dL_changes_326 ?_ ?_
    · refine M_iconst C (v := 0) (by decide) dL_changes_333 ?_
      exact M_iret C (ty := .boolean) rfl rfl ⟨by omega, by omega⟩ dL_changes_334 (fun h9 => by cases h9; exact ⟨rfl, List.append_nil _⟩)
    · refine M_iconst C (v := 1) (by decide) dL_changes_329 ?_
      refine M_goto C (tgt := 334) (by decide) dL_changes_330 ?_
      exact M_iret C (ty := .boolean) rfl rfl ⟨by omega, by omega⟩ dL_changes_334 (fun h9 => by cases h9; exact ⟨rfl, List.append_nil _⟩)
  refine M_case (fun h72 => ?_) (fun n11 => ?_)
  · refine M_tin C (tgt := 335) (off := 321) (by rw [h72]; decide) (by rw [h72]; decide) (by rw [h72]; decide) (by decide) dL_changes_14 ?_
    refine M_aload_n C 1 rfl rfl dL_changes_335 ?_
    refine M_iload_n C 2 rfl rfl dL_changes_336 ?_
    refine M_iconst C (v := 4) (by decide) dL_changes_337 ?_
    refine M_ishr C dL_changes_338 ?_
    refine M_iconst C (v := 4) (by decide) dL_changes_339 ?_
    refine M_pS C hA hU (ml_some l C.2.2.2.2.2.2 Z _ _ (by decide)) jy_L_some jm_L_165 (by omega) (by omega) rfl (As := [.int (x1 >>> ((4 : Int32) &&& 31)), .int 4]) (rest := [.ref (ad 291)]) rfl (Nat.le_of_ble_eq_true rfl) dL_changes_340 ?_
    refine M_bW C hA hU (v := 1) (wr := []) (As := [.ref (ad 291), .int (mSome (x1 >>> ((4 : Int32) &&& 31)) 4)]) (rest := []) (fun ry fy hy => wl_callOff l C.2.2.2.2.2.2 Z ad had f (mSome (x1 >>> ((4 : Int32) &&& 31)) 4) ry fy hy) jy_L_callOff jm_L_268 mSS_nil (by omega) (by omega) rfl rfl (Nat.le_of_ble_eq_true rfl) dL_changes_343 (fun r70 g71 => ?_)
    refine M_if_lt C (tgt := 353) (by decide) dL_changes_346 ?_ ?_
    · refine M_iconst C (v := 0) (by decide) dL_changes_353 ?_
      exact M_iret C (ty := .boolean) rfl rfl ⟨by omega, by omega⟩ dL_changes_354 (fun h9 => by cases h9; exact ⟨rfl, List.append_nil _⟩)
    · refine M_iconst C (v := 1) (by decide) dL_changes_349 ?_
      refine M_goto C (tgt := 354) (by decide) dL_changes_350 ?_
      exact M_iret C (ty := .boolean) rfl rfl ⟨by omega, by omega⟩ dL_changes_354 (fun h9 => by cases h9; exact ⟨rfl, List.append_nil _⟩)
  refine M_case (fun h75 => ?_) (fun n12 => ?_)
  · refine M_tin C (tgt := 355) (off := 341) (by rw [h75]; decide) (by rw [h75]; decide) (by rw [h75]; decide) (by decide) dL_changes_14 ?_
    refine M_aload_n C 1 rfl rfl dL_changes_355 ?_
    refine M_iload_n C 2 rfl rfl dL_changes_356 ?_
    refine M_iconst C (v := 4) (by decide) dL_changes_357 ?_
    refine M_ishr C dL_changes_358 ?_
    refine M_iconst C (v := 5) (by decide) dL_changes_359 ?_
    refine M_pS C hA hU (ml_some l C.2.2.2.2.2.2 Z _ _ (by decide)) jy_L_some jm_L_165 (by omega) (by omega) rfl (As := [.int (x1 >>> ((4 : Int32) &&& 31)), .int 5]) (rest := [.ref (ad 291)]) rfl (Nat.le_of_ble_eq_true rfl) dL_changes_360 ?_
    refine M_iload_n C 2 rfl rfl dL_changes_363 ?_
    refine M_iconst C (v := 5) (by decide) dL_changes_364 ?_
    refine M_ishr C dL_changes_365 ?_
    refine M_sipush C (v := 600) (by decide) dL_changes_366 ?_
    refine M_pS C hA hU (ml_some l C.2.2.2.2.2.2 Z _ _ (by decide)) jy_L_some jm_L_165 (by omega) (by omega) rfl (As := [.int (x1 >>> ((5 : Int32) &&& 31)), .int 600]) (rest := [.int (mSome (x1 >>> ((4 : Int32) &&& 31)) 5), .ref (ad 291)]) rfl (Nat.le_of_ble_eq_true rfl) dL_changes_369 ?_
    refine M_bW C hA hU (v := 1) (wr := []) (As := [.ref (ad 291), .int (mSome (x1 >>> ((4 : Int32) &&& 31)) 5), .int (mSome (x1 >>> ((5 : Int32) &&& 31)) 600)]) (rest := []) (fun ry fy hy => wl_set l C.2.2.2.2.2.2 Z ad had f (mSome (x1 >>> ((4 : Int32) &&& 31)) 5) (mSome (x1 >>> ((5 : Int32) &&& 31)) 600) ry fy hy) jy_L_set jm_L_190 mSS_nil (by omega) (by omega) rfl rfl (Nat.le_of_ble_eq_true rfl) dL_changes_372 (fun r73 g74 => ?_)
    refine M_if_lt C (tgt := 382) (by decide) dL_changes_375 ?_ ?_
    · refine M_iconst C (v := 0) (by decide) dL_changes_382 ?_
      exact M_iret C (ty := .boolean) rfl rfl ⟨by omega, by omega⟩ dL_changes_383 (fun h9 => by cases h9; exact ⟨rfl, List.append_nil _⟩)
    · refine M_iconst C (v := 1) (by decide) dL_changes_378 ?_
      refine M_goto C (tgt := 383) (by decide) dL_changes_379 ?_
      exact M_iret C (ty := .boolean) rfl rfl ⟨by omega, by omega⟩ dL_changes_383 (fun h9 => by cases h9; exact ⟨rfl, List.append_nil _⟩)
  refine M_chk (fun hd130 => ?_)
  refine M_tout C (tgt := 384) (of_decide_eq_true hd130) (by decide) dL_changes_14 ?_
  refine M_aload_n C 1 rfl rfl dL_changes_384 ?_
  refine M_iload_n C 2 rfl rfl dL_changes_385 ?_
  refine M_bipush C (v := 6) (by decide) dL_changes_386 ?_
  refine M_ishr C dL_changes_388 ?_
  refine M_iconst C (v := 1) (by decide) dL_changes_389 ?_
  refine M_iand C dL_changes_390 ?_
  refine M_if_ne C (tgt := 439) (by decide) dL_changes_391 ?_ ?_
  · refine M_sbNew C hA (by omega) ⟨by omega, by omega⟩ (Nat.le_of_ble_eq_true rfl) dL_changes_439 dL_changes_442 dL_changes_443 (fun q76 q77 b78 hT79 => ?_)
    refine M_widen (k1 := 2 * (0 + 2)) (n1 := 12 * (0 + 2)) (by omega) (by omega) ?_
    refine M_ldcwS C (tx := "w5;m") (by decide) dL_changes_446 (fun sa80 sv81 hs82 => ?_)
    refine M_chk (fun hn85 => ?_)
    refine M_sbS C hA (u := mTx "w5;m") hs82 hT79 (of_decide_eq_true hn85) (mLit_ok "w5;m" (by decide)).2 (by omega) ⟨by omega, by omega⟩ (rest := [.ref (ad 291)]) (Nat.le_of_ble_eq_true rfl) dL_changes_449 (fun b83 hT84 => ?_)
    refine M_iload_n C 2 rfl rfl dL_changes_452 ?_
    refine M_iconst C (v := 3) (by decide) dL_changes_453 ?_
    refine M_ishr C dL_changes_454 ?_
    refine M_iconst C (v := 4) (by decide) dL_changes_455 ?_
    refine M_pS C hA hU (ml_some l C.2.2.2.2.2.2 Z _ _ (by decide)) jy_L_some jm_L_165 (by omega) (by omega) rfl (As := [.int (x1 >>> ((3 : Int32) &&& 31)), .int 4]) (rest := [.ref q76, .ref (ad 291)]) rfl (Nat.le_of_ble_eq_true rfl) dL_changes_456 ?_
    refine M_chk (fun hn88 => ?_)
    refine M_chk (fun hv89 => ?_)
    refine M_sbI C hA (of_decide_eq_true hv89) hT84 (of_decide_eq_true hn88) (by omega) ⟨by omega, by omega⟩ (rest := [.ref (ad 291)]) (Nat.le_of_ble_eq_true rfl) dL_changes_459 (fun b86 hT87 => ?_)
    refine M_sbT C hA hT87 (by omega) ⟨by omega, by omega⟩ (rest := [.ref (ad 291)]) (Nat.le_of_ble_eq_true rfl) dL_changes_462 (fun qs92 qv93 b94 hg95 => ?_)
    refine M_ws (ws1 := kw (wC Z.1 ad) f ++ ([] ++ [(qs92, .inr (0, [.ref qv93, .int 0, .int 0, .int 0])), (qv93, eY Z (List.length ((([] : List Int32) ++ mTx "w5;m") ++ dgt (mSome (x1 >>> ((3 : Int32) &&& 31)) 4))) b94)])) (List.append_assoc _ _ _) ?_
    refine M_widen (k1 := 2 * (0 + 4)) (n1 := 12 * (0 + 4)) (by omega) (by omega) ?_
    refine M_bS C hA hU (v := 17) (wr := ([] ++ [(qs92, .inr (0, [.ref qv93, .int 0, .int 0, .int 0])), (qv93, eY Z (List.length ((([] : List Int32) ++ mTx "w5;m") ++ dgt (mSome (x1 >>> ((3 : Int32) &&& 31)) 4))) b94)])) (As := [.ref (ad 291), .ref qs92]) (rest := []) (fun ry fy hy => ml_does l C.2.2.2.2.2.2 Z ad had f _ _ ((([] : List Int32) ++ mTx "w5;m") ++ dgt (mSome (x1 >>> ((3 : Int32) &&& 31)) 4)) ⟨hT87.1, hT87.2.2.2⟩ ry fy hy) jy_L_does jm_L_276 (mSS_new C (List.mem_append_right _ List.mem_cons_self) (List.mem_append_right _ (List.mem_cons_of_mem _ List.mem_cons_self)) rfl hg95) (by omega) (by omega) rfl rfl (Nat.le_of_ble_eq_true rfl) dL_changes_465 (fun r96 g97 => ?_)
    refine M_ws (ws1 := (kw (wC Z.1 ad) g97 ++ []) ++ [(qs92, .inr (0, [.ref qv93, .int 0, .int 0, .int 0])), (qv93, eY Z (List.length ((([] : List Int32) ++ mTx "w5;m") ++ dgt (mSome (x1 >>> ((3 : Int32) &&& 31)) 4))) b94)]) (List.append_assoc _ _ _).symm ?_
    refine M_drop ?_
    refine M_if_lt C (tgt := 475) (by decide) dL_changes_468 ?_ ?_
    · refine M_iconst C (v := 0) (by decide) dL_changes_475 ?_
      exact M_iret C (ty := .boolean) rfl rfl ⟨by omega, by omega⟩ dL_changes_476 (fun h9 => by cases h9; exact ⟨rfl, List.append_nil _⟩)
    · refine M_iconst C (v := 1) (by decide) dL_changes_471 ?_
      refine M_goto C (tgt := 476) (by decide) dL_changes_472 ?_
      exact M_iret C (ty := .boolean) rfl rfl ⟨by omega, by omega⟩ dL_changes_476 (fun h9 => by cases h9; exact ⟨rfl, List.append_nil _⟩)
  · refine M_sbNew C hA (by omega) ⟨by omega, by omega⟩ (Nat.le_of_ble_eq_true rfl) dL_changes_394 dL_changes_397 dL_changes_398 (fun q98 q99 b100 hT101 => ?_)
    refine M_widen (k1 := 2 * (0 + 2)) (n1 := 12 * (0 + 2)) (by omega) (by omega) ?_
    refine M_ldcwS C (tx := "l") (by decide) dL_changes_401 (fun sa102 sv103 hs104 => ?_)
    refine M_chk (fun hn107 => ?_)
    refine M_sbS C hA (u := mTx "l") hs104 hT101 (of_decide_eq_true hn107) (mLit_ok "l" (by decide)).2 (by omega) ⟨by omega, by omega⟩ (rest := [.ref (ad 291)]) (Nat.le_of_ble_eq_true rfl) dL_changes_404 (fun b105 hT106 => ?_)
    refine M_iload_n C 2 rfl rfl dL_changes_407 ?_
    refine M_iconst C (v := 3) (by decide) dL_changes_408 ?_
    refine M_ishr C dL_changes_409 ?_
    refine M_iconst C (v := 3) (by decide) dL_changes_410 ?_
    refine M_pS C hA hU (ml_some l C.2.2.2.2.2.2 Z _ _ (by decide)) jy_L_some jm_L_165 (by omega) (by omega) rfl (As := [.int (x1 >>> ((3 : Int32) &&& 31)), .int 3]) (rest := [.ref q98, .ref (ad 291)]) rfl (Nat.le_of_ble_eq_true rfl) dL_changes_411 ?_
    refine M_chk (fun hn110 => ?_)
    refine M_chk (fun hv111 => ?_)
    refine M_sbI C hA (of_decide_eq_true hv111) hT106 (of_decide_eq_true hn110) (by omega) ⟨by omega, by omega⟩ (rest := [.ref (ad 291)]) (Nat.le_of_ble_eq_true rfl) dL_changes_414 (fun b108 hT109 => ?_)
    refine M_iload_n C 2 rfl rfl dL_changes_417 ?_
    refine M_iconst C (v := 5) (by decide) dL_changes_418 ?_
    refine M_ishr C dL_changes_419 ?_
    refine M_iconst C (v := 4) (by decide) dL_changes_420 ?_
    refine M_pS C hA hU (ml_some l C.2.2.2.2.2.2 Z _ _ (by decide)) jy_L_some jm_L_165 (by omega) (by omega) rfl (As := [.int (x1 >>> ((5 : Int32) &&& 31)), .int 4]) (rest := [.ref q98, .ref (ad 291)]) rfl (Nat.le_of_ble_eq_true rfl) dL_changes_421 ?_
    refine M_chk (fun hn114 => ?_)
    refine M_chk (fun hv115 => ?_)
    refine M_sbI C hA (of_decide_eq_true hv115) hT109 (of_decide_eq_true hn114) (by omega) ⟨by omega, by omega⟩ (rest := [.ref (ad 291)]) (Nat.le_of_ble_eq_true rfl) dL_changes_424 (fun b112 hT113 => ?_)
    refine M_ldcwS C (tx := "g900;w90") (by decide) dL_changes_427 (fun sa116 sv117 hs118 => ?_)
    refine M_chk (fun hn121 => ?_)
    refine M_sbS C hA (u := mTx "g900;w90") hs118 hT113 (of_decide_eq_true hn121) (mLit_ok "g900;w90" (by decide)).2 (by omega) ⟨by omega, by omega⟩ (rest := [.ref (ad 291)]) (Nat.le_of_ble_eq_true rfl) dL_changes_430 (fun b119 hT120 => ?_)
    refine M_sbT C hA hT120 (by omega) ⟨by omega, by omega⟩ (rest := [.ref (ad 291)]) (Nat.le_of_ble_eq_true rfl) dL_changes_433 (fun qs124 qv125 b126 hg127 => ?_)
    refine M_ws (ws1 := kw (wC Z.1 ad) f ++ ([] ++ [(qs124, .inr (0, [.ref qv125, .int 0, .int 0, .int 0])), (qv125, eY Z (List.length ((((([] : List Int32) ++ mTx "l") ++ dgt (mSome (x1 >>> ((3 : Int32) &&& 31)) 3)) ++ dgt (mSome (x1 >>> ((5 : Int32) &&& 31)) 4)) ++ mTx "g900;w90")) b126)])) (List.append_assoc _ _ _) ?_
    refine M_widen (k1 := 2 * (0 + 4)) (n1 := 12 * (0 + 4)) (by omega) (by omega) ?_
    refine M_goto C (tgt := 465) (by decide) dL_changes_436 ?_
    refine M_bS C hA hU (v := 17) (wr := ([] ++ [(qs124, .inr (0, [.ref qv125, .int 0, .int 0, .int 0])), (qv125, eY Z (List.length ((((([] : List Int32) ++ mTx "l") ++ dgt (mSome (x1 >>> ((3 : Int32) &&& 31)) 3)) ++ dgt (mSome (x1 >>> ((5 : Int32) &&& 31)) 4)) ++ mTx "g900;w90")) b126)])) (As := [.ref (ad 291), .ref qs124]) (rest := []) (fun ry fy hy => ml_does l C.2.2.2.2.2.2 Z ad had f _ _ ((((([] : List Int32) ++ mTx "l") ++ dgt (mSome (x1 >>> ((3 : Int32) &&& 31)) 3)) ++ dgt (mSome (x1 >>> ((5 : Int32) &&& 31)) 4)) ++ mTx "g900;w90") ⟨hT120.1, hT120.2.2.2⟩ ry fy hy) jy_L_does jm_L_276 (mSS_new C (List.mem_append_right _ List.mem_cons_self) (List.mem_append_right _ (List.mem_cons_of_mem _ List.mem_cons_self)) rfl hg127) (by omega) (by omega) rfl rfl (Nat.le_of_ble_eq_true rfl) dL_changes_465 (fun r128 g129 => ?_)
    refine M_ws (ws1 := (kw (wC Z.1 ad) g129 ++ []) ++ [(qs124, .inr (0, [.ref qv125, .int 0, .int 0, .int 0])), (qv125, eY Z (List.length ((((([] : List Int32) ++ mTx "l") ++ dgt (mSome (x1 >>> ((3 : Int32) &&& 31)) 3)) ++ dgt (mSome (x1 >>> ((5 : Int32) &&& 31)) 4)) ++ mTx "g900;w90")) b126)]) (List.append_assoc _ _ _).symm ?_
    refine M_drop ?_
    refine M_if_lt C (tgt := 475) (by decide) dL_changes_468 ?_ ?_
    · refine M_iconst C (v := 0) (by decide) dL_changes_475 ?_
      exact M_iret C (ty := .boolean) rfl rfl ⟨by omega, by omega⟩ dL_changes_476 (fun h9 => by cases h9; exact ⟨rfl, List.append_nil _⟩)
    · refine M_iconst C (v := 1) (by decide) dL_changes_471 ?_
      refine M_goto C (tgt := 476) (by decide) dL_changes_472 ?_
      exact M_iret C (ty := .boolean) rfl rfl ⟨by omega, by omega⟩ dL_changes_476 (fun h9 => by cases h9; exact ⟨rfl, List.append_nil _⟩)
