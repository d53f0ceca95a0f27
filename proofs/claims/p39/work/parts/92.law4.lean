/-! the law: makes -/
theorem jy_L_at : kYS yL_at cL_at 2 (some .int) 2 := ⟨⟨kgt (List.mem_of_getElem? (i := 440) (by decide +kernel)) rfl, kgt (List.mem_of_getElem? (i := 20) (by decide +kernel)) rfl, by decide +kernel, by decide⟩, kgt (List.mem_of_getElem? (i := 439) (by decide +kernel)) rfl⟩
theorem jm_L_161 : Cond.methodLink RL 161 yL_at ∈ kGT := kgt (List.mem_of_getElem? (i := 438) (by decide +kernel)) rfl
section MK
variable {p : Program} {l : Launch} {e : Env} {R : Room} {s : State} {m : MethodId} {args : Array Value} {below : List Frame} {meth : Method} {c : Code} {Z : mZ} {A : Nat → Prop} {ss : List (Nat × Nat × List Int32)} {nL : Nat} {ret : Option FieldType} {d mc ms : Nat} {ρ : Type} {QF : State → Prop} {z : ρ} {U : Nat} {ad : Nat → Nat}
def ll_makes_2 {ρ : Type} (Z : mZ) (Y : kMem → Int32 → Option ρ) : Nat → kMem → Int32 → Option ρ
  | 0, _, _ => none
  | n + 1, f, x2 => kle 4 x2 (Y f x2) (kchk (decide (0 ≤ x2)) (kbind (lf_colour f (mSome (mAt Z x2) 10)) (fun r2 g3 => keq r2 x2 (ll_makes_2 Z Y n g3 (x2 + 1)) none)))
def ll_makes_35 {ρ : Type} (Z : mZ) (Y : kMem → Int32 → Option ρ) : Nat → kMem → Int32 → Option ρ
  | 0, _, _ => none
  | n + 1, f, x2 => kle 4 x2 (Y f x2) (kchk (decide (0 ≤ (4 + x2))) (kbind (lf_part f (1 + (mSome (mAt Z (4 + x2)) 30))) (fun r9 g10 => keq r9 x2 (ll_makes_35 Z Y n g10 (x2 + 1)) none)))
def ll_makes_141 {ρ : Type} (x2 : Int32) (x3 : Int32) (x5 : Int32) (Y : kMem → Int32 → List Int32 → Option ρ) : Nat → kMem → Int32 → List Int32 → Option ρ
  | 0, _, _, _ => none
  | n + 1, f, x6, t => kle x5 x6 (Y f x6 t) (kchk (decide (List.length t < 16)) (kchk (decide (List.length (t ++ [nI 32]) + (dgt (((mSome (x3 >>> ((4 : Int32) &&& 31)) 4) + x6) - ((mSome (x3 >>> ((4 : Int32) &&& 31)) 4) + x6) / 4 * 4)).length ≤ 16)) (kchk (decide (0 ≤ (((mSome (x3 >>> ((4 : Int32) &&& 31)) 4) + x6) - ((mSome (x3 >>> ((4 : Int32) &&& 31)) 4) + x6) / 4 * 4) ∧ (((mSome (x3 >>> ((4 : Int32) &&& 31)) 4) + x6) - ((mSome (x3 >>> ((4 : Int32) &&& 31)) 4) + x6) / 4 * 4) < 100)) (kchk (decide (List.length ((t ++ [nI 32]) ++ dgt (((mSome (x3 >>> ((4 : Int32) &&& 31)) 4) + x6) - ((mSome (x3 >>> ((4 : Int32) &&& 31)) 4) + x6) / 4 * 4)) < 16)) (kchk (decide (List.length (((t ++ [nI 32]) ++ dgt (((mSome (x3 >>> ((4 : Int32) &&& 31)) 4) + x6) - ((mSome (x3 >>> ((4 : Int32) &&& 31)) 4) + x6) / 4 * 4)) ++ [nI 120]) + (dgt (1 + (mSome (x3 >>> ((5 + x6) &&& 31)) 9))).length ≤ 16)) (kchk (decide (0 ≤ (1 + (mSome (x3 >>> ((5 + x6) &&& 31)) 9)) ∧ (1 + (mSome (x3 >>> ((5 + x6) &&& 31)) 9)) < 100)) (ll_makes_141 x2 x3 x5 Y n f (x6 + 1) ((((t ++ [nI 32]) ++ dgt (((mSome (x3 >>> ((4 : Int32) &&& 31)) 4) + x6) - ((mSome (x3 >>> ((4 : Int32) &&& 31)) 4) + x6) / 4 * 4)) ++ [nI 120]) ++ dgt (1 + (mSome (x3 >>> ((5 + x6) &&& 31)) 9))))))))))
def ll_makes_72 {ρ : Type} (Z : mZ) (Y : kMem → Int32 → Option ρ) : Nat → kMem → Int32 → Option ρ
  | 0, _, _ => none
  | n + 1, f, x2 => kle 3 x2 (Y f x2) (kchk (decide (0 ≤ (8 + x2))) (kchk (decide (List.length ([] : List Int32) + (dgt (1 + (mSome (mAt Z (8 + x2)) 9))).length ≤ 16)) (kchk (decide (0 ≤ (1 + (mSome (mAt Z (8 + x2)) 9)) ∧ (1 + (mSome (mAt Z (8 + x2)) 9)) < 100)) (kchk (decide (List.length (([] : List Int32) ++ dgt (1 + (mSome (mAt Z (8 + x2)) 9))) < 16)) (kchk (decide (List.length ((([] : List Int32) ++ dgt (1 + (mSome (mAt Z (8 + x2)) 9))) ++ [nI 32]) + (dgt (1 + (mSome ((mAt Z (8 + x2)) >>> ((2 : Int32) &&& 31)) 99))).length ≤ 16)) (kchk (decide (0 ≤ (1 + (mSome ((mAt Z (8 + x2)) >>> ((2 : Int32) &&& 31)) 99)) ∧ (1 + (mSome ((mAt Z (8 + x2)) >>> ((2 : Int32) &&& 31)) 99)) < 100)) (ll_makes_141 x2 (mAt Z (8 + x2)) (1 + (mSome ((mAt Z (8 + x2)) >>> ((3 : Int32) &&& 31)) 3)) (fun g45 x6_48 t51 => kbind (lf_told t51 g45) (fun r58 g59 => keq r58 x2 (ll_makes_72 Z Y n g59 (x2 + 1)) none)) 4 f 0 (((([] : List Int32) ++ dgt (1 + (mSome (mAt Z (8 + x2)) 9))) ++ [nI 32]) ++ dgt (1 + (mSome ((mAt Z (8 + x2)) >>> ((2 : Int32) &&& 31)) 99))))))))))
set_option maxRecDepth 20000 in
set_option maxHeartbeats 4000000 in
theorem mll_makes_2 (C : MC p l e R s m args below meth c Z A ss RL cL_makes nL ret d mc ms) (hA : ∀ q, s.heap.size ≤ q → A q) (hU : 2 * U ≤ mc ∧ 12 * U ≤ ms) (had : mAd Z ad) (hd : 10 ≤ d ∧ 7 ≤ nL) (hL : msL Z < 2 ^ 31) {Y : kMem → Int32 → Option ρ} {e9 : Nat} (hY : ∀ (f : kMem) (x2 : Int32) (u : Nat), u + e9 ≤ U → M p l e R s m args below meth c Z A nL QF z (2 * u) (12 * u) (kw (wC Z.1 ad) f ++ []) 33 [(0, .ref (ad 291)), (1, .ref (msb Z)), (2, .int x2)] [] (Y f x2)) : ∀ (n : Nat) (f : kMem) (x2 : Int32) (u : Nat), u + (n * 1 + 0 + e9) ≤ U → M p l e R s m args below meth c Z A nL QF z (2 * u) (12 * u) (kw (wC Z.1 ad) f ++ []) 2 [(0, .ref (ad 291)), (1, .ref (msb Z)), (2, .int x2)] [] (ll_makes_2 Z Y n f x2) := by
  intro n
  induction n with
  | zero => exact fun f x2 u hu => M_none
  | succ n ih =>
    intro f x2 u hu
    rw [Nat.succ_mul] at hu
    unfold ll_makes_2
    refine M_iload_n C 2 rfl rfl dL_makes_2 ?_
    refine M_iconst C (v := 4) (by decide) dL_makes_3 ?_
    refine M_icmp_ge C (tgt := 33) (by decide) dL_makes_4 ?_ ?_
    · refine M_sub [0, 1, 2] (lv1 := [(0, .ref (ad 291)), (1, .ref (msb Z)), (2, .int x2)]) rfl ?_
      exact hY f x2 _ (by omega)
    · refine M_aload_n C 0 rfl rfl dL_makes_7 ?_
      refine M_aload_n C 1 rfl rfl dL_makes_8 ?_
      refine M_iload_n C 2 rfl rfl dL_makes_9 ?_
      refine M_chk (fun hk1 => ?_)
      refine M_pS C hA hU (ml_at l C.2.2.2.2.2.2 Z _ (of_decide_eq_true hk1) hL) jy_L_at jm_L_161 (by omega) (by omega) rfl (As := [.ref (msb Z), .int x2]) (rest := [.ref (ad 291)]) rfl (Nat.le_of_ble_eq_true rfl) dL_makes_10 ?_
      refine M_bipush C (v := 10) (by decide) dL_makes_13 ?_
      refine M_pS C hA hU (ml_some l C.2.2.2.2.2.2 Z _ _ (by decide)) jy_L_some jm_L_165 (by omega) (by omega) rfl (As := [.int (mAt Z x2), .int 10]) (rest := [.ref (ad 291)]) rfl (Nat.le_of_ble_eq_true rfl) dL_makes_15 ?_
      refine M_bW C hA hU (v := 1) (wr := []) (As := [.ref (ad 291), .int (mSome (mAt Z x2) 10)]) (rest := []) (fun ry fy hy => wl_colour l C.2.2.2.2.2.2 Z ad had f (mSome (mAt Z x2) 10) ry fy hy) jy_L_colour jm_L_168 mSS_nil (by omega) (by omega) rfl rfl (Nat.le_of_ble_eq_true rfl) dL_makes_18 (fun r2 g3 => ?_)
      refine M_iload_n C 2 rfl rfl dL_makes_21 ?_
      refine M_icmp_eq C (tgt := 27) (by decide) dL_makes_22 ?_ M_none
      refine M_iincC C (k := 2) rfl (v := x2 + 1) (incv _) (Nat.lt_of_lt_of_le (by decide) hd.2) (lv1 := [(2, .int (x2 + 1)), (0, .ref (ad 291)), (1, .ref (msb Z))]) rfl dL_makes_27 ?_
      refine M_goto C (tgt := 2) (by decide) dL_makes_30 ?_
      refine M_sub [1, 2, 0] (lv1 := [(0, .ref (ad 291)), (1, .ref (msb Z)), (2, .int (x2 + 1))]) rfl ?_
      exact ih g3 (x2 + 1) _ (by omega)
set_option maxRecDepth 20000 in
set_option maxHeartbeats 4000000 in
theorem mll_makes_35 (C : MC p l e R s m args below meth c Z A ss RL cL_makes nL ret d mc ms) (hA : ∀ q, s.heap.size ≤ q → A q) (hU : 2 * U ≤ mc ∧ 12 * U ≤ ms) (had : mAd Z ad) (hd : 10 ≤ d ∧ 7 ≤ nL) (hL : msL Z < 2 ^ 31) {Y : kMem → Int32 → Option ρ} {e9 : Nat} (hY : ∀ (f : kMem) (x2 : Int32) (u : Nat), u + e9 ≤ U → M p l e R s m args below meth c Z A nL QF z (2 * u) (12 * u) (kw (wC Z.1 ad) f ++ []) 70 [(0, .ref (ad 291)), (1, .ref (msb Z)), (2, .int x2)] [] (Y f x2)) : ∀ (n : Nat) (f : kMem) (x2 : Int32) (u : Nat), u + (n * 1 + 0 + e9) ≤ U → M p l e R s m args below meth c Z A nL QF z (2 * u) (12 * u) (kw (wC Z.1 ad) f ++ []) 35 [(0, .ref (ad 291)), (1, .ref (msb Z)), (2, .int x2)] [] (ll_makes_35 Z Y n f x2) := by
  intro n
  induction n with
  | zero => exact fun f x2 u hu => M_none
  | succ n ih =>
    intro f x2 u hu
    rw [Nat.succ_mul] at hu
    unfold ll_makes_35
    refine M_iload_n C 2 rfl rfl dL_makes_35 ?_
    refine M_iconst C (v := 4) (by decide) dL_makes_36 ?_
    refine M_icmp_ge C (tgt := 70) (by decide) dL_makes_37 ?_ ?_
    · refine M_sub [0, 1, 2] (lv1 := [(0, .ref (ad 291)), (1, .ref (msb Z)), (2, .int x2)]) rfl ?_
      exact hY f x2 _ (by omega)
    · refine M_aload_n C 0 rfl rfl dL_makes_40 ?_
      refine M_iconst C (v := 1) (by decide) dL_makes_41 ?_
      refine M_aload_n C 1 rfl rfl dL_makes_42 ?_
      refine M_iconst C (v := 4) (by decide) dL_makes_43 ?_
      refine M_iload_n C 2 rfl rfl dL_makes_44 ?_
      refine M_iadd C dL_makes_45 ?_
      refine M_chk (fun hk8 => ?_)
      refine M_pS C hA hU (ml_at l C.2.2.2.2.2.2 Z _ (of_decide_eq_true hk8) hL) jy_L_at jm_L_161 (by omega) (by omega) rfl (As := [.ref (msb Z), .int (4 + x2)]) (rest := [.int 1, .ref (ad 291)]) rfl (Nat.le_of_ble_eq_true rfl) dL_makes_46 ?_
      refine M_bipush C (v := 30) (by decide) dL_makes_49 ?_
      refine M_pS C hA hU (ml_some l C.2.2.2.2.2.2 Z _ _ (by decide)) jy_L_some jm_L_165 (by omega) (by omega) rfl (As := [.int (mAt Z (4 + x2)), .int 30]) (rest := [.int 1, .ref (ad 291)]) rfl (Nat.le_of_ble_eq_true rfl) dL_makes_51 ?_
      refine M_iadd C dL_makes_54 ?_
      refine M_bW C hA hU (v := 1) (wr := []) (As := [.ref (ad 291), .int (1 + (mSome (mAt Z (4 + x2)) 30))]) (rest := []) (fun ry fy hy => wl_part l C.2.2.2.2.2.2 Z ad had f (1 + (mSome (mAt Z (4 + x2)) 30)) ry fy hy) jy_L_part jm_L_171 mSS_nil (by omega) (by omega) rfl rfl (Nat.le_of_ble_eq_true rfl) dL_makes_55 (fun r9 g10 => ?_)
      refine M_iload_n C 2 rfl rfl dL_makes_58 ?_
      refine M_icmp_eq C (tgt := 64) (by decide) dL_makes_59 ?_ M_none
      refine M_iincC C (k := 2) rfl (v := x2 + 1) (incv _) (Nat.lt_of_lt_of_le (by decide) hd.2) (lv1 := [(2, .int (x2 + 1)), (0, .ref (ad 291)), (1, .ref (msb Z))]) rfl dL_makes_64 ?_
      refine M_goto C (tgt := 35) (by decide) dL_makes_67 ?_
      refine M_sub [1, 2, 0] (lv1 := [(0, .ref (ad 291)), (1, .ref (msb Z)), (2, .int (x2 + 1))]) rfl ?_
      exact ih g10 (x2 + 1) _ (by omega)
set_option maxRecDepth 20000 in
set_option maxHeartbeats 4000000 in
theorem mll_makes_141 (C : MC p l e R s m args below meth c Z A ss RL cL_makes nL ret d mc ms) (hA : ∀ q, s.heap.size ≤ q → A q) (hU : 2 * U ≤ mc ∧ 12 * U ≤ ms) (had : mAd Z ad) (hd : 10 ≤ d ∧ 7 ≤ nL) {q1 q2 : Nat} (x2 : Int32) (x3 : Int32) (x5 : Int32) {Y : kMem → Int32 → List Int32 → Option ρ} {e9 : Nat} (hY : ∀ (f : kMem) (x6 : Int32) (t : List Int32) (u : Nat) (b : Nat → Int32) (hT : sbT t b), u + e9 ≤ U → M p l e R s m args below meth c Z A nL QF z (2 * u) (12 * u) (sbW Z q1 q2 t.length b ++ (kw (wC Z.1 ad) f ++ [])) 198 [(0, .ref (ad 291)), (1, .ref (msb Z)), (2, .int x2), (3, .int x3), (4, .ref q1), (5, .int x5), (6, .int x6)] [] (Y f x6 t)) : ∀ (n : Nat) (f : kMem) (x6 : Int32) (t : List Int32) (u : Nat) (b : Nat → Int32) (hT : sbT t b), u + (n * 0 + 0 + e9) ≤ U → M p l e R s m args below meth c Z A nL QF z (2 * u) (12 * u) (sbW Z q1 q2 t.length b ++ (kw (wC Z.1 ad) f ++ [])) 141 [(0, .ref (ad 291)), (1, .ref (msb Z)), (2, .int x2), (3, .int x3), (4, .ref q1), (5, .int x5), (6, .int x6)] [] (ll_makes_141 x2 x3 x5 Y n f x6 t) := by
  intro n
  induction n with
  | zero => exact fun f x6 t u b hT hu => M_none
  | succ n ih =>
    intro f x6 t u b hT hu
    rw [Nat.succ_mul] at hu
    unfold ll_makes_141
    refine M_iload C 6 rfl dL_makes_141 ?_
    refine M_iload C 5 rfl dL_makes_143 ?_
    refine M_icmp_ge C (tgt := 198) (by decide) dL_makes_145 ?_ ?_
    · refine M_sub [0, 1, 2, 3, 4, 5, 6] (lv1 := [(0, .ref (ad 291)), (1, .ref (msb Z)), (2, .int x2), (3, .int x3), (4, .ref q1), (5, .int x5), (6, .int x6)]) rfl ?_
      exact hY f x6 _ _ b hT (by omega)
    · refine M_aload C 4 rfl dL_makes_148 ?_
      refine M_bipush C (v := 32) (by decide) dL_makes_150 ?_
      refine M_chk (fun hn33 => ?_)
      refine M_sbC C hA (c9 := 32) (by decide) hT (of_decide_eq_true hn33) (by omega) ⟨by omega, by omega⟩ (rest := []) (Nat.le_of_ble_eq_true rfl) dL_makes_152 (fun b31 hT32 => ?_)
      refine M_iload_n C 3 rfl rfl dL_makes_155 ?_
      refine M_iconst C (v := 4) (by decide) dL_makes_156 ?_
      refine M_ishr C dL_makes_157 ?_
      refine M_iconst C (v := 4) (by decide) dL_makes_158 ?_
      refine M_pS C hA hU (ml_some l C.2.2.2.2.2.2 Z _ _ (by decide)) jy_L_some jm_L_165 (by omega) (by omega) rfl (As := [.int (x3 >>> ((4 : Int32) &&& 31)), .int 4]) (rest := [.ref q1]) rfl (Nat.le_of_ble_eq_true rfl) dL_makes_159 ?_
      refine M_iload C 6 rfl dL_makes_162 ?_
      refine M_iadd C dL_makes_164 ?_
      refine M_iconst C (v := 4) (by decide) dL_makes_165 ?_
      refine M_irem C (by decide) dL_makes_166 ?_
      refine M_chk (fun hn36 => ?_)
      refine M_chk (fun hv37 => ?_)
      refine M_sbI C hA (of_decide_eq_true hv37) hT32 (of_decide_eq_true hn36) (by omega) ⟨by omega, by omega⟩ (rest := []) (Nat.le_of_ble_eq_true rfl) dL_makes_167 (fun b34 hT35 => ?_)
      refine M_bipush C (v := 120) (by decide) dL_makes_170 ?_
      refine M_chk (fun hn40 => ?_)
      refine M_sbC C hA (c9 := 120) (by decide) hT35 (of_decide_eq_true hn40) (by omega) ⟨by omega, by omega⟩ (rest := []) (Nat.le_of_ble_eq_true rfl) dL_makes_172 (fun b38 hT39 => ?_)
      refine M_iconst C (v := 1) (by decide) dL_makes_175 ?_
      refine M_iload_n C 3 rfl rfl dL_makes_176 ?_
      refine M_iconst C (v := 5) (by decide) dL_makes_177 ?_
      refine M_iload C 6 rfl dL_makes_178 ?_
      refine M_iadd C dL_makes_180 ?_
      refine M_ishr C dL_makes_181 ?_
      refine M_bipush C (v := 9) (by decide) dL_makes_182 ?_
      refine M_pS C hA hU (ml_some l C.2.2.2.2.2.2 Z _ _ (by decide)) jy_L_some jm_L_165 (by omega) (by omega) rfl (As := [.int (x3 >>> ((5 + x6) &&& 31)), .int 9]) (rest := [.int 1, .ref q1]) rfl (Nat.le_of_ble_eq_true rfl) dL_makes_184 ?_
      refine M_iadd C dL_makes_187 ?_
      refine M_chk (fun hn43 => ?_)
      refine M_chk (fun hv44 => ?_)
      refine M_sbI C hA (of_decide_eq_true hv44) hT39 (of_decide_eq_true hn43) (by omega) ⟨by omega, by omega⟩ (rest := []) (Nat.le_of_ble_eq_true rfl) dL_makes_188 (fun b41 hT42 => ?_)
      refine M_pop C rfl dL_makes_191 ?_
      refine M_iincC C (k := 6) rfl (v := x6 + 1) (incv _) (Nat.lt_of_lt_of_le (by decide) hd.2) (lv1 := [(6, .int (x6 + 1)), (0, .ref (ad 291)), (1, .ref (msb Z)), (2, .int x2), (3, .int x3), (4, .ref q1), (5, .int x5)]) rfl dL_makes_192 ?_
      refine M_goto C (tgt := 141) (by decide) dL_makes_195 ?_
      refine M_sub [1, 2, 3, 4, 5, 6, 0] (lv1 := [(0, .ref (ad 291)), (1, .ref (msb Z)), (2, .int x2), (3, .int x3), (4, .ref q1), (5, .int x5), (6, .int (x6 + 1))]) rfl ?_
      exact ih f (x6 + 1) _ _ b41 hT42 (by omega)
set_option maxRecDepth 20000 in
set_option maxHeartbeats 4000000 in
theorem mll_makes_72 (C : MC p l e R s m args below meth c Z A ss RL cL_makes nL ret d mc ms) (hA : ∀ q, s.heap.size ≤ q → A q) (hU : 2 * U ≤ mc ∧ 12 * U ≤ ms) (had : mAd Z ad) (hd : 10 ≤ d ∧ 7 ≤ nL) (hL : msL Z < 2 ^ 31) {Y : kMem → Int32 → Option ρ} {e9 : Nat} (hY : ∀ (f : kMem) (x2 : Int32) (u : Nat), u + e9 ≤ U → M p l e R s m args below meth c Z A nL QF z (2 * u) (12 * u) (kw (wC Z.1 ad) f ++ []) 219 [(0, .ref (ad 291)), (1, .ref (msb Z)), (2, .int x2)] [] (Y f x2)) : ∀ (n : Nat) (f : kMem) (x2 : Int32) (u : Nat), u + (n * 21 + 0 + e9) ≤ U → M p l e R s m args below meth c Z A nL QF z (2 * u) (12 * u) (kw (wC Z.1 ad) f ++ []) 72 [(0, .ref (ad 291)), (1, .ref (msb Z)), (2, .int x2)] [] (ll_makes_72 Z Y n f x2) := by
  intro n
  induction n with
  | zero => exact fun f x2 u hu => M_none
  | succ n ih =>
    intro f x2 u hu
    rw [Nat.succ_mul] at hu
    unfold ll_makes_72
    refine M_iload_n C 2 rfl rfl dL_makes_72 ?_
    refine M_iconst C (v := 3) (by decide) dL_makes_73 ?_
    refine M_icmp_ge C (tgt := 219) (by decide) dL_makes_74 ?_ ?_
    · refine M_sub [0, 1, 2] (lv1 := [(0, .ref (ad 291)), (1, .ref (msb Z)), (2, .int x2)]) rfl ?_
      exact hY f x2 _ (by omega)
    · refine M_aload_n C 1 rfl rfl dL_makes_77 ?_
      refine M_bipush C (v := 8) (by decide) dL_makes_78 ?_
      refine M_iload_n C 2 rfl rfl dL_makes_80 ?_
      refine M_iadd C dL_makes_81 ?_
      refine M_chk (fun hk15 => ?_)
      refine M_pS C hA hU (ml_at l C.2.2.2.2.2.2 Z _ (of_decide_eq_true hk15) hL) jy_L_at jm_L_161 (by omega) (by omega) rfl (As := [.ref (msb Z), .int (8 + x2)]) (rest := []) rfl (Nat.le_of_ble_eq_true rfl) dL_makes_82 ?_
      refine M_istore_n C rfl (Nat.lt_of_lt_of_le (by decide) hd.2) (lv1 := [(3, .int (mAt Z (8 + x2))), (0, .ref (ad 291)), (1, .ref (msb Z)), (2, .int x2)]) rfl dL_makes_85 ?_
      refine M_sbNew C hA (by omega) ⟨by omega, by omega⟩ (Nat.le_of_ble_eq_true rfl) dL_makes_86 dL_makes_89 dL_makes_90 (fun q16 q17 b18 hT19 => ?_)
      refine M_widen (k1 := 2 * (u + 2)) (n1 := 12 * (u + 2)) (by omega) (by omega) ?_
      refine M_astore C (Nat.lt_of_lt_of_le (by decide) hd.2) (lv1 := [(4, .ref q16), (3, .int (mAt Z (8 + x2))), (0, .ref (ad 291)), (1, .ref (msb Z)), (2, .int x2)]) rfl dL_makes_93 ?_
      refine M_aload C 0 rfl dL_makes_95 ?_
      refine M_iconst C (v := 1) (by decide) dL_makes_97 ?_
      refine M_iload_n C 1 rfl rfl dL_makes_98 ?_
      refine M_bipush C (v := 9) (by decide) dL_makes_99 ?_
      refine M_pS C hA hU (ml_some l C.2.2.2.2.2.2 Z _ _ (by decide)) jy_L_some jm_L_165 (by omega) (by omega) rfl (As := [.int (mAt Z (8 + x2)), .int 9]) (rest := [.int 1, .ref q16]) rfl (Nat.le_of_ble_eq_true rfl) dL_makes_101 ?_
      refine M_iadd C dL_makes_104 ?_
      refine M_chk (fun hn22 => ?_)
      refine M_chk (fun hv23 => ?_)
      refine M_sbI C hA (of_decide_eq_true hv23) hT19 (of_decide_eq_true hn22) (by omega) ⟨by omega, by omega⟩ (rest := []) (Nat.le_of_ble_eq_true rfl) dL_makes_105 (fun b20 hT21 => ?_)
      refine M_bipush C (v := 32) (by decide) dL_makes_108 ?_
      refine M_chk (fun hn26 => ?_)
      refine M_sbC C hA (c9 := 32) (by decide) hT21 (of_decide_eq_true hn26) (by omega) ⟨by omega, by omega⟩ (rest := []) (Nat.le_of_ble_eq_true rfl) dL_makes_110 (fun b24 hT25 => ?_)
      refine M_iconst C (v := 1) (by decide) dL_makes_113 ?_
      refine M_iload_n C 1 rfl rfl dL_makes_114 ?_
      refine M_iconst C (v := 2) (by decide) dL_makes_115 ?_
      refine M_ishr C dL_makes_116 ?_
      refine M_bipush C (v := 99) (by decide) dL_makes_117 ?_
      refine M_pS C hA hU (ml_some l C.2.2.2.2.2.2 Z _ _ (by decide)) jy_L_some jm_L_165 (by omega) (by omega) rfl (As := [.int ((mAt Z (8 + x2)) >>> ((2 : Int32) &&& 31)), .int 99]) (rest := [.int 1, .ref q16]) rfl (Nat.le_of_ble_eq_true rfl) dL_makes_119 ?_
      refine M_iadd C dL_makes_122 ?_
      refine M_chk (fun hn29 => ?_)
      refine M_chk (fun hv30 => ?_)
      refine M_sbI C hA (of_decide_eq_true hv30) hT25 (of_decide_eq_true hn29) (by omega) ⟨by omega, by omega⟩ (rest := []) (Nat.le_of_ble_eq_true rfl) dL_makes_123 (fun b27 hT28 => ?_)
      refine M_pop C rfl dL_makes_126 ?_
      refine M_iconst C (v := 1) (by decide) dL_makes_127 ?_
      refine M_iload_n C 1 rfl rfl dL_makes_128 ?_
      refine M_iconst C (v := 3) (by decide) dL_makes_129 ?_
      refine M_ishr C dL_makes_130 ?_
      refine M_iconst C (v := 3) (by decide) dL_makes_131 ?_
      refine M_pS C hA hU (ml_some l C.2.2.2.2.2.2 Z _ _ (by decide)) jy_L_some jm_L_165 (by omega) (by omega) rfl (As := [.int ((mAt Z (8 + x2)) >>> ((3 : Int32) &&& 31)), .int 3]) (rest := [.int 1]) rfl (Nat.le_of_ble_eq_true rfl) dL_makes_132 ?_
      refine M_iadd C dL_makes_135 ?_
      refine M_istore C (Nat.lt_of_lt_of_le (by decide) hd.2) (lv1 := [(5, .int (1 + (mSome ((mAt Z (8 + x2)) >>> ((3 : Int32) &&& 31)) 3))), (4, .ref q16), (3, .int (mAt Z (8 + x2))), (0, .ref (ad 291)), (1, .ref (msb Z)), (2, .int x2)]) rfl dL_makes_136 ?_
      refine M_iconst C (v := 0) (by decide) dL_makes_138 ?_
      refine M_istore C (Nat.lt_of_lt_of_le (by decide) hd.2) (lv1 := [(6, .int 0), (5, .int (1 + (mSome ((mAt Z (8 + x2)) >>> ((3 : Int32) &&& 31)) 3))), (4, .ref q16), (3, .int (mAt Z (8 + x2))), (0, .ref (ad 291)), (1, .ref (msb Z)), (2, .int x2)]) rfl dL_makes_139 ?_
      refine M_sub [4, 5, 6, 3, 2, 1, 0] (lv1 := [(0, .ref (ad 291)), (1, .ref (msb Z)), (2, .int x2), (3, .int (mAt Z (8 + x2))), (4, .ref q16), (5, .int (1 + (mSome ((mAt Z (8 + x2)) >>> ((3 : Int32) &&& 31)) 3))), (6, .int 0)]) rfl ?_
      refine mll_makes_141 C hA hU had hd x2 (mAt Z (8 + x2)) (1 + (mSome ((mAt Z (8 + x2)) >>> ((3 : Int32) &&& 31)) 3)) (e9 := 19 + (n * 21 + 0 + e9)) (fun g45 x6_48 t51 u46 b49 hT50 hu47 => ?_) 4 f 0 _ _ b27 hT28 (by omega)
      refine M_aload_n C 0 rfl rfl dL_makes_198 ?_
      refine M_aload C 4 rfl dL_makes_199 ?_
      refine M_sbT C hA hT50 (by omega) ⟨by omega, by omega⟩ (rest := [.ref (ad 291)]) (Nat.le_of_ble_eq_true rfl) dL_makes_201 (fun qs54 qv55 b56 hg57 => ?_)
      refine M_ws (ws1 := kw (wC Z.1 ad) g45 ++ ([] ++ [(qs54, .inr (0, [.ref qv55, .int 0, .int 0, .int 0])), (qv55, eY Z (List.length t51) b56)])) (List.append_assoc _ _ _) ?_
      refine M_widen (k1 := 2 * (u46 + 2)) (n1 := 12 * (u46 + 2)) (by omega) (by omega) ?_
      refine M_bS C hA hU (v := 17) (wr := ([] ++ [(qs54, .inr (0, [.ref qv55, .int 0, .int 0, .int 0])), (qv55, eY Z (List.length t51) b56)])) (As := [.ref (ad 291), .ref qs54]) (rest := []) (fun ry fy hy => ml_told l C.2.2.2.2.2.2 Z ad had g45 _ _ t51 ⟨hT50.1, hT50.2.2.2⟩ ry fy hy) jy_L_told jm_L_186 (mSS_new C (List.mem_append_right _ List.mem_cons_self) (List.mem_append_right _ (List.mem_cons_of_mem _ List.mem_cons_self)) rfl hg57) (by omega) (by omega) rfl rfl (Nat.le_of_ble_eq_true rfl) dL_makes_204 (fun r58 g59 => ?_)
      refine M_ws (ws1 := (kw (wC Z.1 ad) g59 ++ []) ++ [(qs54, .inr (0, [.ref qv55, .int 0, .int 0, .int 0])), (qv55, eY Z (List.length t51) b56)]) (List.append_assoc _ _ _).symm ?_
      refine M_drop ?_
      refine M_iload_n C 2 rfl rfl dL_makes_207 ?_
      refine M_icmp_eq C (tgt := 213) (by decide) dL_makes_208 ?_ M_none
      refine M_iincC C (k := 2) rfl (v := x2 + 1) (incv _) (Nat.lt_of_lt_of_le (by decide) hd.2) (lv1 := [(2, .int (x2 + 1)), (0, .ref (ad 291)), (1, .ref (msb Z)), (3, .int (mAt Z (8 + x2))), (4, .ref q16), (5, .int (1 + (mSome ((mAt Z (8 + x2)) >>> ((3 : Int32) &&& 31)) 3))), (6, .int x6_48)]) rfl dL_makes_213 ?_
      refine M_goto C (tgt := 72) (by decide) dL_makes_216 ?_
      refine M_sub [1, 2, 0] (lv1 := [(0, .ref (ad 291)), (1, .ref (msb Z)), (2, .int (x2 + 1))]) rfl ?_
      exact ih g59 (x2 + 1) _ (by omega)
end MK
def lf_makes (Z : mZ) (f : kMem) : Option (Int32 × kMem) := ll_makes_2 Z (fun g4 x2_7 => ll_makes_35 Z (fun g11 x2_14 => ll_makes_72 Z (fun g60 x2_63 => kbind (lf_set g60 0 (60 + (mSome (mAt Z 12) 300))) (fun r64 g65 => keq r64 480 (kbind (lf_set g65 1 (mSome (mAt Z 13) 90)) (fun r66 g67 => keq r66 60 (kbind (lf_set g67 2 (mSome (mAt Z 14) 6)) (fun r68 g69 => keq r68 2 (kbind (lf_set g69 3 (mSome (mAt Z 15) 40)) (fun r70 g71 => keq r70 10 (some (1, g71)) none)) none)) none)) none)) 4 g11 0) 5 g4 0) 5 f 0
set_option maxRecDepth 20000 in
set_option maxHeartbeats 4000000 in
theorem ml_makes (l : Launch) (hst : l.stackTraces = false) (Z : mZ) (ad : Nat → Nat) (had : mAd Z ad) (hL : msL Z < 2 ^ 31) (f : kMem) (r : Int32) (fo : kMem) (h : lf_makes Z f = some (r, fo)) : mMet l Z yL_makes (.code yL_makes cL_makes 7 (some .boolean)) 10 (2 * 98) (12 * 98) [.ref (ad 291), .ref (msb Z)] (kw (wC Z.1 ad) f) [] (mQi (wC Z.1 ad) (r, fo)) := by
  refine mMet_of (z := (r, fo)) (X := lf_makes Z f) (own := RL) (lv := [(0, .ref (ad 291)), (1, .ref (msb Z))]) hst (by decide +kernel) rfl (Nat.le_of_ble_eq_true rfl) rfl h ?_
  intro p e R s m args below meth c C hini
  have hA : ∀ q, s.heap.size ≤ q → wA (kw (wC Z.1 ad) f) s.heap.size q := fun q h => Or.inr h
  have hU : 2 * 98 ≤ 2 * 98 ∧ 12 * 98 ≤ 12 * 98 := ⟨Nat.le_refl _, Nat.le_refl _⟩
  have hd : 10 ≤ 10 ∧ 7 ≤ 7 := ⟨Nat.le_refl _, Nat.le_refl _⟩
  unfold lf_makes
  refine M_widen (k1 := 2 * 0) (n1 := 12 * 0) (by decide) (by decide) ?_
  refine M_nil ?_
  refine M_iconst C (v := 0) (by decide) dL_makes_0 ?_
  refine M_istore_n C rfl (Nat.lt_of_lt_of_le (by decide) hd.2) (lv1 := [(2, .int 0), (0, .ref (ad 291)), (1, .ref (msb Z))]) rfl dL_makes_1 ?_
  refine M_sub [1, 2, 0] (lv1 := [(0, .ref (ad 291)), (1, .ref (msb Z)), (2, .int 0)]) rfl ?_
  refine mll_makes_2 C hA hU had hd hL (e9 := 93) (fun g4 x2_7 u5 hu6 => ?_) 5 f 0 _ (by omega)
  refine M_iconst C (v := 0) (by decide) dL_makes_33 ?_
  refine M_istore_n C rfl (Nat.lt_of_lt_of_le (by decide) hd.2) (lv1 := [(2, .int 0), (0, .ref (ad 291)), (1, .ref (msb Z))]) rfl dL_makes_34 ?_
  refine M_sub [1, 2, 0] (lv1 := [(0, .ref (ad 291)), (1, .ref (msb Z)), (2, .int 0)]) rfl ?_
  refine mll_makes_35 C hA hU had hd hL (e9 := 88) (fun g11 x2_14 u12 hu13 => ?_) 5 g4 0 _ (by omega)
  refine M_iconst C (v := 0) (by decide) dL_makes_70 ?_
  refine M_istore_n C rfl (Nat.lt_of_lt_of_le (by decide) hd.2) (lv1 := [(2, .int 0), (0, .ref (ad 291)), (1, .ref (msb Z))]) rfl dL_makes_71 ?_
  refine M_sub [1, 2, 0] (lv1 := [(0, .ref (ad 291)), (1, .ref (msb Z)), (2, .int 0)]) rfl ?_
  refine mll_makes_72 C hA hU had hd hL (e9 := 4) (fun g60 x2_63 u61 hu62 => ?_) 4 g11 0 _ (by omega)
  refine M_aload_n C 0 rfl rfl dL_makes_219 ?_
  refine M_iconst C (v := 0) (by decide) dL_makes_220 ?_
  refine M_bipush C (v := 60) (by decide) dL_makes_221 ?_
  refine M_aload_n C 1 rfl rfl dL_makes_223 ?_
  refine M_bipush C (v := 12) (by decide) dL_makes_224 ?_
  refine M_pS C hA hU (ml_at l C.2.2.2.2.2.2 Z _ (by decide) hL) jy_L_at jm_L_161 (by omega) (by omega) rfl (As := [.ref (msb Z), .int 12]) (rest := [.int 60, .int 0, .ref (ad 291)]) rfl (Nat.le_of_ble_eq_true rfl) dL_makes_226 ?_
  refine M_sipush C (v := 300) (by decide) dL_makes_229 ?_
  refine M_pS C hA hU (ml_some l C.2.2.2.2.2.2 Z _ _ (by decide)) jy_L_some jm_L_165 (by omega) (by omega) rfl (As := [.int (mAt Z 12), .int 300]) (rest := [.int 60, .int 0, .ref (ad 291)]) rfl (Nat.le_of_ble_eq_true rfl) dL_makes_232 ?_
  refine M_iadd C dL_makes_235 ?_
  refine M_bW C hA hU (v := 1) (wr := []) (As := [.ref (ad 291), .int 0, .int (60 + (mSome (mAt Z 12) 300))]) (rest := []) (fun ry fy hy => wl_set l C.2.2.2.2.2.2 Z ad had g60 0 (60 + (mSome (mAt Z 12) 300)) ry fy hy) jy_L_set jm_L_190 mSS_nil (by omega) (by omega) rfl rfl (Nat.le_of_ble_eq_true rfl) dL_makes_236 (fun r64 g65 => ?_)
  refine M_sipush C (v := 480) (by decide) dL_makes_239 ?_
  refine M_icmp_ne C (tgt := 311) (by decide) dL_makes_242 M_none ?_
  refine M_aload_n C 0 rfl rfl dL_makes_245 ?_
  refine M_iconst C (v := 1) (by decide) dL_makes_246 ?_
  refine M_aload_n C 1 rfl rfl dL_makes_247 ?_
  refine M_bipush C (v := 13) (by decide) dL_makes_248 ?_
  refine M_pS C hA hU (ml_at l C.2.2.2.2.2.2 Z _ (by decide) hL) jy_L_at jm_L_161 (by omega) (by omega) rfl (As := [.ref (msb Z), .int 13]) (rest := [.int 1, .ref (ad 291)]) rfl (Nat.le_of_ble_eq_true rfl) dL_makes_250 ?_
  refine M_bipush C (v := 90) (by decide) dL_makes_253 ?_
  refine M_pS C hA hU (ml_some l C.2.2.2.2.2.2 Z _ _ (by decide)) jy_L_some jm_L_165 (by omega) (by omega) rfl (As := [.int (mAt Z 13), .int 90]) (rest := [.int 1, .ref (ad 291)]) rfl (Nat.le_of_ble_eq_true rfl) dL_makes_255 ?_
  refine M_bW C hA hU (v := 1) (wr := []) (As := [.ref (ad 291), .int 1, .int (mSome (mAt Z 13) 90)]) (rest := []) (fun ry fy hy => wl_set l C.2.2.2.2.2.2 Z ad had g65 1 (mSome (mAt Z 13) 90) ry fy hy) jy_L_set jm_L_190 mSS_nil (by omega) (by omega) rfl rfl (Nat.le_of_ble_eq_true rfl) dL_makes_258 (fun r66 g67 => ?_)
  refine M_bipush C (v := 60) (by decide) dL_makes_261 ?_
  refine M_icmp_ne C (tgt := 311) (by decide) dL_makes_263 M_none ?_
  refine M_aload_n C 0 rfl rfl dL_makes_266 ?_
  refine M_iconst C (v := 2) (by decide) dL_makes_267 ?_
  refine M_aload_n C 1 rfl rfl dL_makes_268 ?_
  refine M_bipush C (v := 14) (by decide) dL_makes_269 ?_
  refine M_pS C hA hU (ml_at l C.2.2.2.2.2.2 Z _ (by decide) hL) jy_L_at jm_L_161 (by omega) (by omega) rfl (As := [.ref (msb Z), .int 14]) (rest := [.int 2, .ref (ad 291)]) rfl (Nat.le_of_ble_eq_true rfl) dL_makes_271 ?_
  refine M_bipush C (v := 6) (by decide) dL_makes_274 ?_
  refine M_pS C hA hU (ml_some l C.2.2.2.2.2.2 Z _ _ (by decide)) jy_L_some jm_L_165 (by omega) (by omega) rfl (As := [.int (mAt Z 14), .int 6]) (rest := [.int 2, .ref (ad 291)]) rfl (Nat.le_of_ble_eq_true rfl) dL_makes_276 ?_
  refine M_bW C hA hU (v := 1) (wr := []) (As := [.ref (ad 291), .int 2, .int (mSome (mAt Z 14) 6)]) (rest := []) (fun ry fy hy => wl_set l C.2.2.2.2.2.2 Z ad had g67 2 (mSome (mAt Z 14) 6) ry fy hy) jy_L_set jm_L_190 mSS_nil (by omega) (by omega) rfl rfl (Nat.le_of_ble_eq_true rfl) dL_makes_279 (fun r68 g69 => ?_)
  refine M_iconst C (v := 2) (by decide) dL_makes_282 ?_
  refine M_icmp_ne C (tgt := 311) (by decide) dL_makes_283 M_none ?_
  refine M_aload_n C 0 rfl rfl dL_makes_286 ?_
  refine M_iconst C (v := 3) (by decide) dL_makes_287 ?_
  refine M_aload_n C 1 rfl rfl dL_makes_288 ?_
  refine M_bipush C (v := 15) (by decide) dL_makes_289 ?_
  refine M_pS C hA hU (ml_at l C.2.2.2.2.2.2 Z _ (by decide) hL) jy_L_at jm_L_161 (by omega) (by omega) rfl (As := [.ref (msb Z), .int 15]) (rest := [.int 3, .ref (ad 291)]) rfl (Nat.le_of_ble_eq_true rfl) dL_makes_291 ?_
  refine M_bipush C (v := 40) (by decide) dL_makes_294 ?_
  refine M_pS C hA hU (ml_some l C.2.2.2.2.2.2 Z _ _ (by decide)) jy_L_some jm_L_165 (by omega) (by omega) rfl (As := [.int (mAt Z 15), .int 40]) (rest := [.int 3, .ref (ad 291)]) rfl (Nat.le_of_ble_eq_true rfl) dL_makes_296 ?_
  refine M_bW C hA hU (v := 1) (wr := []) (As := [.ref (ad 291), .int 3, .int (mSome (mAt Z 15) 40)]) (rest := []) (fun ry fy hy => wl_set l C.2.2.2.2.2.2 Z ad had g69 3 (mSome (mAt Z 15) 40) ry fy hy) jy_L_set jm_L_190 mSS_nil (by omega) (by omega) rfl rfl (Nat.le_of_ble_eq_true rfl) dL_makes_299 (fun r70 g71 => ?_)
  refine M_bipush C (v := 10) (by decide) dL_makes_302 ?_
  refine M_icmp_ne C (tgt := 311) (by decide) dL_makes_304 M_none ?_
  refine M_iconst C (v := 1) (by decide) dL_makes_307 ?_
  refine M_goto C (tgt := 312) (by decide) dL_makes_308 ?_
  exact M_iret C (ty := .boolean) rfl rfl ⟨by omega, by omega⟩ dL_makes_312 (fun h9 => by cases h9; exact ⟨rfl, List.append_nil _⟩)
