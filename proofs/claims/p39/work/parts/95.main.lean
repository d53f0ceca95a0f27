/-! the law itself -/
theorem jy_L_makes : kYS yL_makes cL_makes 7 (some .boolean) 2 := ⟨⟨kgt (List.mem_of_getElem? (i := 1099) (by decide +kernel)) rfl, kgt (List.mem_of_getElem? (i := 20) (by decide +kernel)) rfl, by decide +kernel, by decide⟩, kgt (List.mem_of_getElem? (i := 1098) (by decide +kernel)) rfl⟩
theorem jm_L_309 : Cond.methodLink RL 309 yL_makes ∈ kGT := kgt (List.mem_of_getElem? (i := 1097) (by decide +kernel)) rfl
theorem jc_L_313 : Cond.constant RL 313 50000 ∈ kGT := kgt (List.mem_of_getElem? (i := 1601) (by decide +kernel)) rfl
set_option maxRecDepth 100000 in
theorem jy_L_refused : kYS yL_refused cL_refused 8 (some .boolean) 1 := ⟨⟨kgt (List.mem_of_getElem? (i := 1587) (by rfl)) rfl, kgt (List.mem_of_getElem? (i := 20) (by decide +kernel)) rfl, by decide +kernel, by decide⟩, kgt (List.mem_of_getElem? (i := 1586) (by decide +kernel)) rfl⟩
theorem jm_L_314 : Cond.methodLink RL 314 yL_refused ∈ kGT := kgt (List.mem_of_getElem? (i := 1585) (by decide +kernel)) rfl
theorem jy_L_changes : kYS yL_changes cL_changes 3 (some .boolean) 2 := ⟨⟨kgt (List.mem_of_getElem? (i := 1561) (by decide +kernel)) rfl, kgt (List.mem_of_getElem? (i := 20) (by decide +kernel)) rfl, by decide +kernel, by decide⟩, kgt (List.mem_of_getElem? (i := 1560) (by decide +kernel)) rfl⟩
theorem jm_L_318 : Cond.methodLink RL 318 yL_changes ∈ kGT := kgt (List.mem_of_getElem? (i := 1559) (by decide +kernel)) rfl
theorem jy_L_undo : kYW yL_undo cL_undo 2 (some .int) [(0, 4, 5, 13)] 1 := ⟨kgt (List.mem_of_getElem? (i := 1063) (by decide +kernel)) rfl, kgt (List.mem_of_getElem? (i := 20) (by decide +kernel)) rfl, kgt (List.mem_of_getElem? (i := 1062) (by decide +kernel)) rfl, by decide +kernel, by decide⟩
theorem jm_L_297 : Cond.methodLink RL 297 yL_undo ∈ kGT := kgt (List.mem_of_getElem? (i := 1061) (by decide +kernel)) rfl
theorem jy_L_restore : kYW yL_restore cL_restore 2 (some .int) [(0, 4, 5, 13)] 1 := ⟨kgt (List.mem_of_getElem? (i := 1075) (by decide +kernel)) rfl, kgt (List.mem_of_getElem? (i := 20) (by decide +kernel)) rfl, kgt (List.mem_of_getElem? (i := 1074) (by decide +kernel)) rfl, by decide +kernel, by decide⟩
theorem jm_L_299 : Cond.methodLink RL 299 yL_restore ∈ kGT := kgt (List.mem_of_getElem? (i := 1073) (by decide +kernel)) rfl
theorem jy_L_bestColour : kYW yL_bestColour cL_bestColour 4 (some .int) [(0, 6, 7, 28), (0, 6, 12, 77)] 3 := ⟨kgt (List.mem_of_getElem? (i := 906) (by decide +kernel)) rfl, kgt (List.mem_of_getElem? (i := 20) (by decide +kernel)) rfl, kgt (List.mem_of_getElem? (i := 905) (by decide +kernel)) rfl, by decide +kernel, by decide⟩
theorem jm_L_304 : Cond.methodLink RL 304 yL_bestColour ∈ kGT := kgt (List.mem_of_getElem? (i := 904) (by decide +kernel)) rfl
section MAIN
variable {p : Program} {l : Launch} {e : Env} {R : Room} {s : State} {m : MethodId} {args : Array Value} {below : List Frame} {meth : Method} {c : Code} {Z : mZ} {A : Nat → Prop} {b : Nat} {ss : List (Nat × Nat × List Int32)} {nL : Nat} {ret0 : Option FieldType} {d mc ms : Nat} {ρ : Type} {QF : State → Prop} {U : Nat} {ad : Nat → Nat}
theorem M_bV {cc : ByteArray} {wr : va_W} {z : ρ} {pc u : Nat} {lv : List (Nat × Value)} {st rest : List Value} {f : kMem} (C : MC p l e R s m args below meth c Z A ss RL cc nL ret0 d mc ms) (hA : ∀ q, s.heap.size ≤ q → A q) (hU : 2 * U ≤ mc ∧ 12 * U ≤ ms) {y : MethodName} {b1 : ByteArray} {nL1 : Nat} {ret1 : Option FieldType} {d1 v idx n : Nat} {As : List Value} {Z1 : Option (Int32 × kMem)} {Y : Int32 → kMem → Option ρ} (hM : ∀ r f1, Z1 = some (r, f1) → mMet l Z y (.code y b1 nL1 ret1) d1 0 0 (.ref (ad 291) :: As) (kw (wC Z.1 ad) f) [] (mQi (wC Z.1 ad) (r, f1))) (hY : kYV y b1 nL1 ret1 n) (hlink : Cond.methodLink RL idx y ∈ kGT) (hss : mSS s Z A (kw (wC Z.1 ad) f ++ wr) (kw (wC Z.1 ad) f) []) (hcls : y.cls = RX11) (hd1 : d1 < d) (hu : u + v ≤ U) (hn : As.length = n) (hst : st = As.reverse ++ .ref (ad 291) :: rest) (hrest : (rest.map fun v => v.category).sum ≤ 8) (hdg : decode cc pc = .ok (.invokevirtual idx, 3))
    (kk : ∀ (r : Int32) (f1 : kMem), M p l e R s m args below meth c Z A nL QF z (2 * u) (12 * u) (kw (wC Z.1 ad) f1 ++ wr) (pc + 3) lv (.int r :: rest) (Y r f1)) : M p l e R s m args below meth c Z A nL QF z (2 * u) (12 * u) (kw (wC Z.1 ad) f ++ wr) pc lv st (kbind Z1 Y) := by
  intro hX
  obtain ⟨r, f1, h1, h2⟩ := kbind_some hX
  refine M_callV C hA (wr := wr) (X := Y r f1) (hM r f1 h1) hY hlink (fun H locs hP hS => ?_) hss (List.Perm.refl _) hd1 ⟨by omega, by omega⟩ hn hst hrest hdg (fun v' wo hq => ?_) h2
  · rw [hcls]
    exact va_recv (C.2.1.1.sub [0, 1, 2] rfl) (vP_mem.mpr fun q hq => vP_mem.mp hP q (List.mem_append_left _ hq)) (ci := 14) rfl (kw_obj (w := wC Z.1 ad) (a := 291) (Nat.le_of_ble_eq_true rfl) (shC_291 Z.1 ad))
  · obtain ⟨rfl, rfl⟩ := hq
    exact kk r f1

def ll_law_668 {ρ : Type} (Z : mZ) (x3 : Int64) (x5 : Int32) (Y : kMem → Int32 → Int32 → (Nat → Int64) → Option ρ) : Nat → kMem → Int32 → Int32 → (Nat → Int64) → Option ρ
  | 0, _, _, _, _ => none
  | n + 1, f, x7, x8, w => kle 12 x8 (Y f x7 x8 w) (mlbind (lf_asks f) (fun r24 g25 => kchk (decide (0 ≤ (20 + x8))) (kbind (lf_changes g25 ((mAt Z (20 + x8)) ^^^ (x8 * 977))) (fun r27 g28 => keq r27 0 (mlbind (lf_asks g28) (fun r29 g30 => mleq r29 r24 (ll_law_668 Z x3 x5 Y n g30 x7 (x8 + 1) w))) (kchk (kin x7 13) (ll_law_668 Z x3 x5 Y n g28 (x7 + 1) (x8 + 1) (vp_updL w (Int32.toNatClampNeg x7) r24)))))))
def ll_law_747 {ρ : Type} (x3 : Int64) (x5 : Int32) (x7 : Int32) (x8 : Int32) (Y : kMem → Int32 → (Nat → Int64) → Option ρ) : Nat → kMem → Int32 → (Nat → Int64) → Option ρ
  | 0, _, _, _ => none
  | n + 1, f, x9, w => klt x8 x9 (Y f x9 w) (kbind (lf_undo f) (fun r38 g39 => klt r38 (x8 - x9) none (klt (8 - x9) r38 none (mlbind (lf_asks g39) (fun r40 g41 => kchk (kin (x7 - x9) 13) (mleq r40 (w (Int32.toNatClampNeg (x7 - x9))) (ll_law_747 x3 x5 x7 x8 Y n g41 (x9 + 1) w)))))))
def lj_law_656 (Z : mZ) (f : kMem) (x3 : Int64) (x5 : Int32) : Option (Int32 × kMem) := ll_law_668 Z x3 x5 (fun g32 x7_35 x8_36 w37 => ll_law_747 x3 x5 x7_35 (kmin 8 x7_35) (fun g43 x9_46 w47 => kbind (lf_restore g43) (fun r48 g49 => keq r48 x5 (kbind (lf_undo g49) (fun r50 g51 => keq r50 (-1001) (mlbind (lf_asks g51) (fun r52 g53 => mleq r52 x3 (kbind (lf_restore g53) (fun r54 g55 => keq r54 x5 (mlbind (lf_asks g55) (fun r56 g57 => mleq r56 x3 (some (1, g57)))) none)))) none)) none)) 9 g32 1 w37) 13 f 0 0 (fun _ => 0)
def lj_law_633 (Z : mZ) (f : kMem) (x3 : Int64) : Option (Int32 × kMem) := kbind (cf_X11_save f) (fun r19 g20 => keq r19 1 (mlbind (lf_asks g20) (fun r21 g22 => mleq r21 x3 (lj_law_656 Z g22 x3 r19))) none)
def lj_law_610 (Z : mZ) (f : kMem) : Option (Int32 × kMem) := mlbind (lf_asks f) (fun r13 g14 => mlbind (lf_asks g14) (fun r15 g16 => mleq r15 r13 (kbind (lf_refused g16) (fun r17 g18 => keq r17 0 none (lj_law_633 Z g18 r13)))))
def lj_law_547 (Z : mZ) (f : kMem) : Option (Int32 × kMem) := kbind (lf_makes Z f) (fun r1 g2 => keq r1 0 none (kbind (lf_load g2 0 0 50000) (fun r3 g4 => keq r3 50000 (kbind (lf_mount g4 0) (fun r5 g6 => klt r5 0 none (kbind (lf_pause g6 99) (fun r7 g8 => klt r7 0 none (kbind (lf_order g8 0 0 2 1) (fun r9 g10 => keq r9 0 (kbind (lf_run g10 0 9) (fun r11 g12 => keq r11 0 (lj_law_610 Z g12) none)) none)))))) none)))
set_option maxRecDepth 20000 in
set_option maxHeartbeats 4000000 in
theorem mll_law_668 {z : ρ} (C : MC p l e R s m args below meth c Z A ss RL cL_law nL ret0 d mc ms) (hA : ∀ q, s.heap.size ≤ q → A q) (hU : 2 * U ≤ mc ∧ 12 * U ≤ ms) (had : mAd Z ad) (hd : 11 ≤ d ∧ 11 ≤ nL) (hL : msL Z < 2 ^ 31) {qa : Nat} (x3 : Int64) (x5 : Int32) {Y : kMem → Int32 → Int32 → (Nat → Int64) → Option ρ} {e9 : Nat} (hY : ∀ (f : kMem) (x7 : Int32) (x8 : Int32) (w : Nat → Int64) (u : Nat), u + e9 ≤ U → M p l e R s m args below meth c Z A nL QF z (2 * u) (12 * u) (kw (wC Z.1 ad) f ++ [(qa, eL Z 13 w)]) 735 [(0, .ref (msb Z)), (2, .ref (ad 291)), (6, .ref qa), (3, .long x3), (5, .int x5), (7, .int x7), (8, .int x8)] [] (Y f x7 x8 w)) : ∀ (n : Nat) (f : kMem) (x7 : Int32) (x8 : Int32) (w : Nat → Int64) (u : Nat), u + (n * 1267 + 0 + e9) ≤ U → M p l e R s m args below meth c Z A nL QF z (2 * u) (12 * u) (kw (wC Z.1 ad) f ++ [(qa, eL Z 13 w)]) 668 [(0, .ref (msb Z)), (2, .ref (ad 291)), (6, .ref qa), (3, .long x3), (5, .int x5), (7, .int x7), (8, .int x8)] [] (ll_law_668 Z x3 x5 Y n f x7 x8 w) := by
  intro n
  induction n with
  | zero => exact fun f x7 x8 w u hu => M_none
  | succ n ih =>
    intro f x7 x8 w u hu
    rw [Nat.succ_mul] at hu
    unfold ll_law_668
    refine M_iload C 6 rfl dL_law_668 ?_
    refine M_bipush C (v := 12) (by decide) dL_law_670 ?_
    refine M_icmp_ge C (tgt := 735) (by decide) dL_law_672 ?_ ?_
    · refine M_sub [0, 1, 2, 3, 4, 5, 6] (lv1 := [(0, .ref (msb Z)), (2, .ref (ad 291)), (6, .ref qa), (3, .long x3), (5, .int x5), (7, .int x7), (8, .int x8)]) rfl ?_
      exact hY f x7 x8 _ _ (by omega)
    · refine M_aload_n C 1 rfl rfl dL_law_675 ?_
      refine M_bSl C hA hU (v := 623) (wr := [(qa, eL Z 13 w)]) (As := [.ref (ad 291)]) (rest := []) (fun ry fy hy => ml_asks l C.2.2.2.2.2.2 Z ad had f  ry fy hy) jy_L_asks jm_L_279 mSS_nil (by omega) (by omega) rfl rfl (Nat.le_of_ble_eq_true rfl) dL_law_676 (fun r24 g25 => ?_)
      refine M_lstore C (Nat.lt_of_lt_of_le (by decide) hd.2) (lv1 := [(9, .long r24), (0, .ref (msb Z)), (2, .ref (ad 291)), (6, .ref qa), (3, .long x3), (5, .int x5), (7, .int x7), (8, .int x8)]) rfl dL_law_679 ?_
      refine M_aload_n C 2 rfl rfl dL_law_681 ?_
      refine M_aload_n C 1 rfl rfl dL_law_682 ?_
      refine M_bipush C (v := 20) (by decide) dL_law_683 ?_
      refine M_iload C 7 rfl dL_law_685 ?_
      refine M_iadd C dL_law_687 ?_
      refine M_chk (fun hk26 => ?_)
      refine M_pS C hA hU (ml_at l C.2.2.2.2.2.2 Z _ (of_decide_eq_true hk26) hL) jy_L_at jm_L_161 (by omega) (by omega) rfl (As := [.ref (msb Z), .int (20 + x8)]) (rest := [.ref (ad 291)]) rfl (Nat.le_of_ble_eq_true rfl) dL_law_688 ?_
      refine M_iload C 7 rfl dL_law_691 ?_
      refine M_sipush C (v := 977) (by decide) dL_law_693 ?_
      refine M_imul C dL_law_696 ?_
      refine M_ixor C dL_law_697 ?_
      refine M_bS C hA hU (v := 21) (wr := [(qa, eL Z 13 w)]) (As := [.ref (ad 291), .int ((mAt Z (20 + x8)) ^^^ (x8 * 977))]) (rest := []) (fun ry fy hy => ml_changes l C.2.2.2.2.2.2 Z ad had g25 ((mAt Z (20 + x8)) ^^^ (x8 * 977)) ry fy hy) jy_L_changes jm_L_318 mSS_nil (by omega) (by omega) rfl rfl (Nat.le_of_ble_eq_true rfl) dL_law_698 (fun r27 g28 => ?_)
      refine M_if_eq C (tgt := 717) (by decide) dL_law_701 ?_ ?_
      · refine M_aload_n C 2 rfl rfl dL_law_717 ?_
        refine M_bSl C hA hU (v := 623) (wr := [(qa, eL Z 13 w)]) (As := [.ref (ad 291)]) (rest := []) (fun ry fy hy => ml_asks l C.2.2.2.2.2.2 Z ad had g28  ry fy hy) jy_L_asks jm_L_279 mSS_nil (by omega) (by omega) rfl rfl (Nat.le_of_ble_eq_true rfl) dL_law_718 (fun r29 g30 => ?_)
        refine M_lload C 0 rfl dL_law_721 ?_
        refine M_lcmpE C dL_law_723 ?_
        refine M_if_eqT C (tgt := 729) (by decide) (by decide) dL_law_724 ?_
        refine M_iincC C (k := 7) rfl (v := x8 + 1) (incv _) (Nat.lt_of_lt_of_le (by decide) hd.2) (lv1 := [(8, .int (x8 + 1)), (9, .long r24), (0, .ref (msb Z)), (2, .ref (ad 291)), (6, .ref qa), (3, .long x3), (5, .int x5), (7, .int x7)]) rfl dL_law_729 ?_
        refine M_goto C (tgt := 668) (by decide) dL_law_732 ?_
        refine M_sub [2, 3, 4, 5, 6, 7, 0] (lv1 := [(0, .ref (msb Z)), (2, .ref (ad 291)), (6, .ref qa), (3, .long x3), (5, .int x5), (7, .int x7), (8, .int (x8 + 1))]) rfl ?_
        exact ih g30 x7 (x8 + 1) _ _ (by omega)
      · refine M_aload C 3 rfl dL_law_704 ?_
        refine M_iload C 6 rfl dL_law_706 ?_
        refine M_iincC C (k := 6) rfl (v := x7 + 1) (incv _) (Nat.lt_of_lt_of_le (by decide) hd.2) (lv1 := [(7, .int (x7 + 1)), (9, .long r24), (0, .ref (msb Z)), (2, .ref (ad 291)), (6, .ref qa), (3, .long x3), (5, .int x5), (8, .int x8)]) rfl dL_law_708 ?_
        refine M_lload C 1 rfl dL_law_711 ?_
        refine M_chk (fun hk31 => ?_)
        refine M_lastW C hk31 dL_law_713 ?_
        refine M_goto C (tgt := 729) (by decide) dL_law_714 ?_
        refine M_iincC C (k := 7) rfl (v := x8 + 1) (incv _) (Nat.lt_of_lt_of_le (by decide) hd.2) (lv1 := [(8, .int (x8 + 1)), (7, .int (x7 + 1)), (9, .long r24), (0, .ref (msb Z)), (2, .ref (ad 291)), (6, .ref qa), (3, .long x3), (5, .int x5)]) rfl dL_law_729 ?_
        refine M_goto C (tgt := 668) (by decide) dL_law_732 ?_
        refine M_sub [3, 4, 5, 6, 7, 1, 0] (lv1 := [(0, .ref (msb Z)), (2, .ref (ad 291)), (6, .ref qa), (3, .long x3), (5, .int x5), (7, .int (x7 + 1)), (8, .int (x8 + 1))]) rfl ?_
        exact ih g28 (x7 + 1) (x8 + 1) _ _ (by omega)
set_option maxRecDepth 20000 in
set_option maxHeartbeats 4000000 in
theorem mll_law_747 {z : ρ} (C : MC p l e R s m args below meth c Z A ss RL cL_law nL ret0 d mc ms) (hA : ∀ q, s.heap.size ≤ q → A q) (hU : 2 * U ≤ mc ∧ 12 * U ≤ ms) (had : mAd Z ad) (hd : 11 ≤ d ∧ 11 ≤ nL) {qa : Nat} (x3 : Int64) (x5 : Int32) (x7 : Int32) (x8 : Int32) {Y : kMem → Int32 → (Nat → Int64) → Option ρ} {e9 : Nat} (hY : ∀ (f : kMem) (x9 : Int32) (w : Nat → Int64) (u : Nat), u + e9 ≤ U → M p l e R s m args below meth c Z A nL QF z (2 * u) (12 * u) (kw (wC Z.1 ad) f ++ [(qa, eL Z 13 w)]) 804 [(0, .ref (msb Z)), (2, .ref (ad 291)), (6, .ref qa), (3, .long x3), (5, .int x5), (7, .int x7), (8, .int x8), (9, .int x9)] [] (Y f x9 w)) : ∀ (n : Nat) (f : kMem) (x9 : Int32) (w : Nat → Int64) (u : Nat), u + (n * 624 + 0 + e9) ≤ U → M p l e R s m args below meth c Z A nL QF z (2 * u) (12 * u) (kw (wC Z.1 ad) f ++ [(qa, eL Z 13 w)]) 747 [(0, .ref (msb Z)), (2, .ref (ad 291)), (6, .ref qa), (3, .long x3), (5, .int x5), (7, .int x7), (8, .int x8), (9, .int x9)] [] (ll_law_747 x3 x5 x7 x8 Y n f x9 w) := by
  intro n
  induction n with
  | zero => exact fun f x9 w u hu => M_none
  | succ n ih =>
    intro f x9 w u hu
    rw [Nat.succ_mul] at hu
    unfold ll_law_747
    refine M_iload C 7 rfl dL_law_747 ?_
    refine M_iload C 6 rfl dL_law_749 ?_
    refine M_icmp_gt C (tgt := 804) (by decide) dL_law_751 ?_ ?_
    · refine M_sub [0, 1, 2, 3, 4, 5, 6, 7] (lv1 := [(0, .ref (msb Z)), (2, .ref (ad 291)), (6, .ref qa), (3, .long x3), (5, .int x5), (7, .int x7), (8, .int x8), (9, .int x9)]) rfl ?_
      exact hY f x9 _ _ (by omega)
    · refine M_aload_n C 1 rfl rfl dL_law_754 ?_
      refine M_bW C hA hU (v := 1) (wr := [(qa, eL Z 13 w)]) (As := [.ref (ad 291)]) (rest := []) (fun ry fy hy => wl_undo l C.2.2.2.2.2.2 Z ad had f  ry fy hy) jy_L_undo jm_L_297 mSS_nil (by omega) (by omega) rfl rfl (Nat.le_of_ble_eq_true rfl) dL_law_755 (fun r38 g39 => ?_)
      refine M_istore C (Nat.lt_of_lt_of_le (by decide) hd.2) (lv1 := [(10, .int r38), (0, .ref (msb Z)), (2, .ref (ad 291)), (6, .ref qa), (3, .long x3), (5, .int x5), (7, .int x7), (8, .int x8), (9, .int x9)]) rfl dL_law_758 ?_
      refine M_iload C 0 rfl dL_law_760 ?_
      refine M_iload C 7 rfl dL_law_762 ?_
      refine M_iload C 8 rfl dL_law_764 ?_
      refine M_isub C dL_law_766 ?_
      refine M_icmp_lt C (tgt := 796) (by decide) dL_law_767 M_none ?_
      refine M_iload C 0 rfl dL_law_770 ?_
      refine M_bipush C (v := 8) (by decide) dL_law_772 ?_
      refine M_iload C 8 rfl dL_law_774 ?_
      refine M_isub C dL_law_776 ?_
      refine M_icmp_gt C (tgt := 796) (by decide) dL_law_777 M_none ?_
      refine M_aload_n C 2 rfl rfl dL_law_780 ?_
      refine M_bSl C hA hU (v := 623) (wr := [(qa, eL Z 13 w)]) (As := [.ref (ad 291)]) (rest := []) (fun ry fy hy => ml_asks l C.2.2.2.2.2.2 Z ad had g39  ry fy hy) jy_L_asks jm_L_279 mSS_nil (by omega) (by omega) rfl rfl (Nat.le_of_ble_eq_true rfl) dL_law_781 (fun r40 g41 => ?_)
      refine M_aload C 3 rfl dL_law_784 ?_
      refine M_iload C 6 rfl dL_law_786 ?_
      refine M_iload C 8 rfl dL_law_788 ?_
      refine M_isub C dL_law_790 ?_
      refine M_chk (fun hk42 => ?_)
      refine M_laldW C hk42 dL_law_791 ?_
      refine M_lcmpE C dL_law_792 ?_
      refine M_if_eqT C (tgt := 798) (by decide) (by decide) dL_law_793 ?_
      refine M_iincC C (k := 8) rfl (v := x9 + 1) (incv _) (Nat.lt_of_lt_of_le (by decide) hd.2) (lv1 := [(9, .int (x9 + 1)), (10, .int r38), (0, .ref (msb Z)), (2, .ref (ad 291)), (6, .ref qa), (3, .long x3), (5, .int x5), (7, .int x7), (8, .int x8)]) rfl dL_law_798 ?_
      refine M_goto C (tgt := 747) (by decide) dL_law_801 ?_
      refine M_sub [2, 3, 4, 5, 6, 7, 8, 0] (lv1 := [(0, .ref (msb Z)), (2, .ref (ad 291)), (6, .ref qa), (3, .long x3), (5, .int x5), (7, .int x7), (8, .int x8), (9, .int (x9 + 1))]) rfl ?_
      exact ih g41 (x9 + 1) _ _ (by omega)
set_option maxRecDepth 20000 in
set_option maxHeartbeats 4000000 in
theorem mlj_law_656 {z : Int32 × kMem} (C : MC p l e room_1 s m #[Value.ref b] below meth c Z (AL s) [] RL cL_law 11 ret 1475 600312 7291330) (hA : ∀ q, s.heap.size ≤ q → AL s q) (hU : 2 * U ≤ 600312 ∧ 12 * U ≤ 7291330) (hAO : va_AO "MouldFloor$Floor" s) (hL : msL Z < 2 ^ 31) (had : mAd Z ad) (hd : 11 ≤ 1475 ∧ 11 ≤ 11) (f : kMem) (x3 : Int64) (x5 : Int32) (u : Nat) (hu : u + 23338 ≤ U) : M p l e room_1 s m #[Value.ref b] below meth c Z (AL s) 11 (lw_Z below #[Value.ref b] s) z (2 * u) (12 * u) (kw (wC Z.1 ad) f ++ []) 656 [(0, .ref (msb Z)), (2, .ref (ad 291)), (3, .long x3), (5, .int x5)] [] (lj_law_656 Z f x3 x5) := by
  unfold lj_law_656
  refine M_bipush C (v := 13) (by decide) dL_law_656 ?_
  refine M_newL C hA (N := 13) wst_L (by decide) (by decide) (by decide) (by omega) (by omega) dL_law_658 (fun qa23 => ?_)
  refine M_ws (ws1 := kw (wC Z.1 ad) f ++ ([] ++ [(qa23, eL Z 13 (fun _ => 0))])) (List.append_assoc _ _ _) ?_
  refine M_widen (k1 := 2 * (u + 2)) (n1 := 12 * (u + 2)) (by omega) (by omega) ?_
  refine M_astore C (Nat.lt_of_lt_of_le (by decide) hd.2) (lv1 := [(6, .ref qa23), (0, .ref (msb Z)), (2, .ref (ad 291)), (3, .long x3), (5, .int x5)]) rfl dL_law_660 ?_
  refine M_iconst C (v := 0) (by decide) dL_law_662 ?_
  refine M_istore C (Nat.lt_of_lt_of_le (by decide) hd.2) (lv1 := [(7, .int 0), (6, .ref qa23), (0, .ref (msb Z)), (2, .ref (ad 291)), (3, .long x3), (5, .int x5)]) rfl dL_law_663 ?_
  refine M_iconst C (v := 0) (by decide) dL_law_665 ?_
  refine M_istore C (Nat.lt_of_lt_of_le (by decide) hd.2) (lv1 := [(8, .int 0), (7, .int 0), (6, .ref qa23), (0, .ref (msb Z)), (2, .ref (ad 291)), (3, .long x3), (5, .int x5)]) rfl dL_law_666 ?_
  refine M_sub [3, 4, 2, 5, 6, 1, 0] (lv1 := [(0, .ref (msb Z)), (2, .ref (ad 291)), (6, .ref qa23), (3, .long x3), (5, .int x5), (7, .int 0), (8, .int 0)]) rfl ?_
  refine mll_law_668 C hA hU had hd hL x3 x5 (e9 := 6865) (fun g32 x7_35 x8_36 w37 u33 hu34 => ?_) 13 f 0 0 _ _ (by omega)
  refine M_bipush C (v := 8) (by decide) dL_law_735 ?_
  refine M_iload C 5 rfl dL_law_737 ?_
  refine M_mmin C jm_L_min (by omega) ⟨by omega, by omega⟩ (Nat.le_of_ble_eq_true rfl) dL_law_739 ?_
  refine M_istore C (Nat.lt_of_lt_of_le (by decide) hd.2) (lv1 := [(8, .int (kmin 8 x7_35)), (0, .ref (msb Z)), (2, .ref (ad 291)), (6, .ref qa23), (3, .long x3), (5, .int x5), (7, .int x7_35)]) rfl dL_law_742 ?_
  refine M_iconst C (v := 1) (by decide) dL_law_744 ?_
  refine M_istore C (Nat.lt_of_lt_of_le (by decide) hd.2) (lv1 := [(9, .int 1), (8, .int (kmin 8 x7_35)), (0, .ref (msb Z)), (2, .ref (ad 291)), (6, .ref qa23), (3, .long x3), (5, .int x5), (7, .int x7_35)]) rfl dL_law_745 ?_
  refine M_sub [2, 3, 4, 5, 6, 7, 1, 0] (lv1 := [(0, .ref (msb Z)), (2, .ref (ad 291)), (6, .ref qa23), (3, .long x3), (5, .int x5), (7, .int x7_35), (8, .int (kmin 8 x7_35)), (9, .int 1)]) rfl ?_
  refine mll_law_747 C hA hU had hd x3 x5 x7_35 (kmin 8 x7_35) (e9 := 1249) (fun g43 x9_46 w47 u44 hu45 => ?_) 9 g32 1 _ _ (by omega)
  refine M_aload_n C 1 rfl rfl dL_law_804 ?_
  refine M_bW C hA hU (v := 1) (wr := [(qa23, eL Z 13 w47)]) (As := [.ref (ad 291)]) (rest := []) (fun ry fy hy => wl_restore l C.2.2.2.2.2.2 Z ad had g43  ry fy hy) jy_L_restore jm_L_299 mSS_nil (by omega) (by omega) rfl rfl (Nat.le_of_ble_eq_true rfl) dL_law_805 (fun r48 g49 => ?_)
  refine M_iload C 4 rfl dL_law_808 ?_
  refine M_icmp_ne C (tgt := 854) (by decide) dL_law_810 M_none ?_
  refine M_aload_n C 1 rfl rfl dL_law_813 ?_
  refine M_bW C hA hU (v := 1) (wr := [(qa23, eL Z 13 w47)]) (As := [.ref (ad 291)]) (rest := []) (fun ry fy hy => wl_undo l C.2.2.2.2.2.2 Z ad had g49  ry fy hy) jy_L_undo jm_L_297 mSS_nil (by omega) (by omega) rfl rfl (Nat.le_of_ble_eq_true rfl) dL_law_814 (fun r50 g51 => ?_)
  refine M_sipush C (v := (-1001)) (by decide) dL_law_817 ?_
  refine M_icmp_ne C (tgt := 854) (by decide) dL_law_820 M_none ?_
  refine M_aload_n C 1 rfl rfl dL_law_823 ?_
  refine M_bSl C hA hU (v := 623) (wr := [(qa23, eL Z 13 w47)]) (As := [.ref (ad 291)]) (rest := []) (fun ry fy hy => ml_asks l C.2.2.2.2.2.2 Z ad had g51  ry fy hy) jy_L_asks jm_L_279 mSS_nil (by omega) (by omega) rfl rfl (Nat.le_of_ble_eq_true rfl) dL_law_824 (fun r52 g53 => ?_)
  refine M_lload_n C 3 rfl rfl dL_law_827 ?_
  refine M_lcmpE C dL_law_828 ?_
  refine M_if_neF C (tgt := 854) (by decide) (by decide) dL_law_829 ?_
  refine M_aload_n C 1 rfl rfl dL_law_832 ?_
  refine M_bW C hA hU (v := 1) (wr := [(qa23, eL Z 13 w47)]) (As := [.ref (ad 291)]) (rest := []) (fun ry fy hy => wl_restore l C.2.2.2.2.2.2 Z ad had g53  ry fy hy) jy_L_restore jm_L_299 mSS_nil (by omega) (by omega) rfl rfl (Nat.le_of_ble_eq_true rfl) dL_law_833 (fun r54 g55 => ?_)
  refine M_iload C 4 rfl dL_law_836 ?_
  refine M_icmp_ne C (tgt := 854) (by decide) dL_law_838 M_none ?_
  refine M_aload_n C 1 rfl rfl dL_law_841 ?_
  refine M_bSl C hA hU (v := 623) (wr := [(qa23, eL Z 13 w47)]) (As := [.ref (ad 291)]) (rest := []) (fun ry fy hy => ml_asks l C.2.2.2.2.2.2 Z ad had g55  ry fy hy) jy_L_asks jm_L_279 mSS_nil (by omega) (by omega) rfl rfl (Nat.le_of_ble_eq_true rfl) dL_law_842 (fun r56 g57 => ?_)
  refine M_lload_n C 3 rfl rfl dL_law_845 ?_
  refine M_lcmpE C dL_law_846 ?_
  refine M_if_neF C (tgt := 854) (by decide) (by decide) dL_law_847 ?_
  refine M_iconst C (v := 1) (by decide) dL_law_850 ?_
  refine M_goto C (tgt := 855) (by decide) dL_law_851 ?_
  exact M_end C ⟨by omega, by omega⟩ dL_law_855
set_option maxRecDepth 20000 in
set_option maxHeartbeats 4000000 in
theorem mlj_law_633 {z : Int32 × kMem} (C : MC p l e room_1 s m #[Value.ref b] below meth c Z (AL s) [] RL cL_law 11 ret 1475 600312 7291330) (hA : ∀ q, s.heap.size ≤ q → AL s q) (hU : 2 * U ≤ 600312 ∧ 12 * U ≤ 7291330) (hAO : va_AO "MouldFloor$Floor" s) (hL : msL Z < 2 ^ 31) (had : mAd Z ad) (hd : 11 ≤ 1475 ∧ 11 ≤ 11) (f : kMem) (x3 : Int64) (u : Nat) (hu : u + 23961 ≤ U) : M p l e room_1 s m #[Value.ref b] below meth c Z (AL s) 11 (lw_Z below #[Value.ref b] s) z (2 * u) (12 * u) (kw (wC Z.1 ad) f ++ []) 633 [(0, .ref (msb Z)), (2, .ref (ad 291)), (3, .long x3)] [] (lj_law_633 Z f x3) := by
  unfold lj_law_633
  refine M_aload_n C 1 rfl rfl dL_law_633 ?_
  refine M_bV C hA hU (v := 0) (wr := []) (As := []) (rest := []) (fun ry fy hy => mMet_k had (km_X11_save l Z.1 ad f ry fy hy)) jyv_save jm_L_301 mSS_nil rfl (by omega) (by omega) rfl rfl (Nat.le_of_ble_eq_true rfl) dL_law_634 (fun r19 g20 => ?_)
  refine M_istore C (Nat.lt_of_lt_of_le (by decide) hd.2) (lv1 := [(5, .int r19), (0, .ref (msb Z)), (2, .ref (ad 291)), (3, .long x3)]) rfl dL_law_637 ?_
  refine M_iload C 0 rfl dL_law_639 ?_
  refine M_iconst C (v := 1) (by decide) dL_law_641 ?_
  refine M_icmp_ne C (tgt := 654) (by decide) dL_law_642 M_none ?_
  refine M_aload_n C 2 rfl rfl dL_law_645 ?_
  refine M_bSl C hA hU (v := 623) (wr := []) (As := [.ref (ad 291)]) (rest := []) (fun ry fy hy => ml_asks l C.2.2.2.2.2.2 Z ad had g20  ry fy hy) jy_L_asks jm_L_279 mSS_nil (by omega) (by omega) rfl rfl (Nat.le_of_ble_eq_true rfl) dL_law_646 (fun r21 g22 => ?_)
  refine M_lload_n C 3 rfl rfl dL_law_649 ?_
  refine M_lcmpE C dL_law_650 ?_
  refine M_if_eqT C (tgt := 656) (by decide) (by decide) dL_law_651 ?_
  refine M_sub [1, 2, 3, 0] (lv1 := [(0, .ref (msb Z)), (2, .ref (ad 291)), (3, .long x3), (5, .int r19)]) rfl ?_
  exact mlj_law_656 C hA hU hAO hL had hd g22 x3 r19 _ (by omega)
set_option maxRecDepth 20000 in
set_option maxHeartbeats 4000000 in
theorem mlj_law_610 {z : Int32 × kMem} (C : MC p l e room_1 s m #[Value.ref b] below meth c Z (AL s) [] RL cL_law 11 ret 1475 600312 7291330) (hA : ∀ q, s.heap.size ≤ q → AL s q) (hU : 2 * U ≤ 600312 ∧ 12 * U ≤ 7291330) (hAO : va_AO "MouldFloor$Floor" s) (hL : msL Z < 2 ^ 31) (had : mAd Z ad) (hd : 11 ≤ 1475 ∧ 11 ≤ 11) (f : kMem) (u : Nat) (hu : u + 26615 ≤ U) : M p l e room_1 s m #[Value.ref b] below meth c Z (AL s) 11 (lw_Z below #[Value.ref b] s) z (2 * u) (12 * u) (kw (wC Z.1 ad) f ++ []) 610 [(0, .ref (msb Z)), (2, .ref (ad 291))] [] (lj_law_610 Z f) := by
  unfold lj_law_610
  refine M_aload_n C 1 rfl rfl dL_law_610 ?_
  refine M_bSl C hA hU (v := 623) (wr := []) (As := [.ref (ad 291)]) (rest := []) (fun ry fy hy => ml_asks l C.2.2.2.2.2.2 Z ad had f  ry fy hy) jy_L_asks jm_L_279 mSS_nil (by omega) (by omega) rfl rfl (Nat.le_of_ble_eq_true rfl) dL_law_611 (fun r13 g14 => ?_)
  refine M_lstore_n C rfl (Nat.lt_of_lt_of_le (by decide) hd.2) (lv1 := [(3, .long r13), (0, .ref (msb Z)), (2, .ref (ad 291))]) rfl dL_law_614 ?_
  refine M_aload_n C 2 rfl rfl dL_law_615 ?_
  refine M_bSl C hA hU (v := 623) (wr := []) (As := [.ref (ad 291)]) (rest := []) (fun ry fy hy => ml_asks l C.2.2.2.2.2.2 Z ad had g14  ry fy hy) jy_L_asks jm_L_279 mSS_nil (by omega) (by omega) rfl rfl (Nat.le_of_ble_eq_true rfl) dL_law_616 (fun r15 g16 => ?_)
  refine M_lload_n C 0 rfl rfl dL_law_619 ?_
  refine M_lcmpE C dL_law_620 ?_
  refine M_if_neF C (tgt := 631) (by decide) (by decide) dL_law_621 ?_
  refine M_aload_n C 2 rfl rfl dL_law_624 ?_
  refine M_bS C hA hU (v := 1408) (wr := []) (As := [.ref (ad 291)]) (rest := []) (fun ry fy hy => ml_refused l C.2.2.2.2.2.2 Z ad had g16  ry fy hy) jy_L_refused jm_L_314 mSS_nil (by omega) (by omega) rfl rfl (Nat.le_of_ble_eq_true rfl) dL_law_625 (fun r17 g18 => ?_)
  refine M_if_ne C (tgt := 633) (by decide) dL_law_628 ?_ M_none
  refine M_sub [1, 2, 0] (lv1 := [(0, .ref (msb Z)), (2, .ref (ad 291)), (3, .long r13)]) rfl ?_
  exact mlj_law_633 C hA hU hAO hL had hd g18 r13 _ (by omega)
set_option maxRecDepth 20000 in
set_option maxHeartbeats 4000000 in
theorem mlj_law_547 {z : Int32 × kMem} (C : MC p l e room_1 s m #[Value.ref b] below meth c Z (AL s) [] RL cL_law 11 ret 1475 600312 7291330) (hA : ∀ q, s.heap.size ≤ q → AL s q) (hU : 2 * U ≤ 600312 ∧ 12 * U ≤ 7291330) (hAO : va_AO "MouldFloor$Floor" s) (hL : msL Z < 2 ^ 31) (had : mAd Z ad) (hd : 11 ≤ 1475 ∧ 11 ≤ 11) (f : kMem) (u : Nat) (hu : u + 26718 ≤ U) : M p l e room_1 s m #[Value.ref b] below meth c Z (AL s) 11 (lw_Z below #[Value.ref b] s) z (2 * u) (12 * u) (kw (wC Z.1 ad) f ++ []) 547 [(0, .ref (msb Z)), (2, .ref (ad 291))] [] (lj_law_547 Z f) := by
  unfold lj_law_547
  refine M_aload_n C 1 rfl rfl dL_law_547 ?_
  refine M_aload_n C 0 rfl rfl dL_law_548 ?_
  refine M_bS C hA hU (v := 98) (wr := []) (As := [.ref (ad 291), .ref (msb Z)]) (rest := []) (fun ry fy hy => ml_makes l C.2.2.2.2.2.2 Z ad had hL f ry fy hy) jy_L_makes jm_L_309 mSS_nil (by omega) (by omega) rfl rfl (Nat.le_of_ble_eq_true rfl) dL_law_549 (fun r1 g2 => ?_)
  refine M_if_eq C (tgt := 608) (by decide) dL_law_552 M_none ?_
  refine M_aload_n C 1 rfl rfl dL_law_555 ?_
  refine M_iconst C (v := 0) (by decide) dL_law_556 ?_
  refine M_iconst C (v := 0) (by decide) dL_law_557 ?_
  refine M_ldc_w C jc_L_313 dL_law_558 ?_
  refine M_bW C hA hU (v := 1) (wr := []) (As := [.ref (ad 291), .int 0, .int 0, .int 50000]) (rest := []) (fun ry fy hy => wl_load l C.2.2.2.2.2.2 Z ad had g2 0 0 50000 ry fy hy) jy_L_load jm_L_257 mSS_nil (by omega) (by omega) rfl rfl (Nat.le_of_ble_eq_true rfl) dL_law_561 (fun r3 g4 => ?_)
  refine M_ldc_w C jc_L_313 dL_law_564 ?_
  refine M_icmp_ne C (tgt := 608) (by decide) dL_law_567 M_none ?_
  refine M_aload_n C 1 rfl rfl dL_law_570 ?_
  refine M_iconst C (v := 0) (by decide) dL_law_571 ?_
  refine M_bW C hA hU (v := 1) (wr := []) (As := [.ref (ad 291), .int 0]) (rest := []) (fun ry fy hy => wl_mount l C.2.2.2.2.2.2 Z ad had g4 0 ry fy hy) jy_L_mount jm_L_254 mSS_nil (by omega) (by omega) rfl rfl (Nat.le_of_ble_eq_true rfl) dL_law_572 (fun r5 g6 => ?_)
  refine M_if_lt C (tgt := 608) (by decide) dL_law_575 M_none ?_
  refine M_aload_n C 1 rfl rfl dL_law_578 ?_
  refine M_bipush C (v := 99) (by decide) dL_law_579 ?_
  refine M_bW C hA hU (v := 1) (wr := []) (As := [.ref (ad 291), .int 99]) (rest := []) (fun ry fy hy => wl_pause l C.2.2.2.2.2.2 Z ad had g6 99 ry fy hy) jy_L_pause jm_L_261 mSS_nil (by omega) (by omega) rfl rfl (Nat.le_of_ble_eq_true rfl) dL_law_581 (fun r7 g8 => ?_)
  refine M_if_lt C (tgt := 608) (by decide) dL_law_584 M_none ?_
  refine M_aload_n C 1 rfl rfl dL_law_587 ?_
  refine M_iconst C (v := 0) (by decide) dL_law_588 ?_
  refine M_iconst C (v := 0) (by decide) dL_law_589 ?_
  refine M_iconst C (v := 2) (by decide) dL_law_590 ?_
  refine M_iconst C (v := 1) (by decide) dL_law_591 ?_
  refine M_bW C hA hU (v := 1) (wr := []) (As := [.ref (ad 291), .int 0, .int 0, .int 2, .int 1]) (rest := []) (fun ry fy hy => wl_order l C.2.2.2.2.2.2 Z ad had g8 0 0 2 1 ry fy hy) jy_L_order jm_L_265 mSS_nil (by omega) (by omega) rfl rfl (Nat.le_of_ble_eq_true rfl) dL_law_592 (fun r9 g10 => ?_)
  refine M_if_ne C (tgt := 608) (by decide) dL_law_595 M_none ?_
  refine M_aload_n C 1 rfl rfl dL_law_598 ?_
  refine M_iconst C (v := 0) (by decide) dL_law_599 ?_
  refine M_bipush C (v := 9) (by decide) dL_law_600 ?_
  refine M_bW C hA hU (v := 1) (wr := []) (As := [.ref (ad 291), .int 0, .int 9]) (rest := []) (fun ry fy hy => wl_run l C.2.2.2.2.2.2 Z ad had g10 0 9 ry fy hy) jy_L_run jm_L_263 mSS_nil (by omega) (by omega) rfl rfl (Nat.le_of_ble_eq_true rfl) dL_law_602 (fun r11 g12 => ?_)
  refine M_if_eq C (tgt := 610) (by decide) dL_law_605 ?_ M_none
  refine M_sub [0, 1] (lv1 := [(0, .ref (msb Z)), (2, .ref (ad 291))]) rfl ?_
  exact mlj_law_610 C hA hU hAO hL had hd g12 _ (by omega)
def lf_o (Z : mZ) : Option (Int32 × kMem) := lj_law_547 Z f0
set_option maxRecDepth 20000 in
set_option maxHeartbeats 4000000 in
theorem ml_o {z : Int32 × kMem} (C : MC p l e room_1 s m #[Value.ref b] below meth c Z (AL s) [] RL cL_law 11 ret 1475 600312 7291330) (hA : ∀ q, s.heap.size ≤ q → AL s q) (hU : 2 * U ≤ 600312 ∧ 12 * U ≤ 7291330) (hAO : va_AO "MouldFloor$Floor" s) (hL : msL Z < 2 ^ 31) (u : Nat) (hu : u + 27118 ≤ U) : M p l e room_1 s m #[Value.ref b] below meth c Z (AL s) 11 (lw_Z below #[Value.ref b] s) z (2 * u) (12 * u) [] 539 [(0, .ref (msb Z))] [] (lf_o Z) := by
  unfold lf_o
  have hd : 11 ≤ 1475 ∧ 11 ≤ 11 := by decide
  refine M_mk C hA hAO (by decide) ⟨by omega, by omega⟩ (by decide) dL_law_539 dL_law_542 dL_law_543 (fun ad had => ?_)
  refine M_widen (k1 := 2 * (u + 400)) (n1 := 12 * (u + 400)) (by omega) (by omega) ?_
  refine M_astore_n C rfl (Nat.lt_of_lt_of_le (by decide) hd.2) (lv1 := [(2, .ref (ad 291)), (0, .ref (msb Z))]) rfl dL_law_546 ?_
  refine M_sub [1, 0] (lv1 := [(0, .ref (msb Z)), (2, .ref (ad 291))]) rfl ?_
  exact mlj_law_547 C hA hU hAO hL had hd f0 _ (by omega)
def ll_law_154 {ρ : Type} (Y : kMem → Int32 → Option ρ) : Nat → kMem → Int32 → Option ρ
  | 0, _, _ => none
  | n + 1, f, x2 => kle 80 x2 (Y f x2) (kbind (lf_append f (((200 + x2).toUInt32 % 65536).toInt32)) (fun r29 g30 => keq r29 (x2 + 1) (ll_law_154 Y n g30 (x2 + 1)) none))
def ll_law_226 {ρ : Type} (Y : kMem → Int32 → Option ρ) : Nat → kMem → Int32 → Option ρ
  | 0, _, _ => none
  | n + 1, f, x2 => kle 6 x2 (Y f x2) (kbind (lf_colour f x2) (fun r43 g44 => keq r43 x2 (ll_law_226 Y n g44 (x2 + 1)) none))
def ll_law_282 {ρ : Type} (Y : kMem → Int32 → Option ρ) : Nat → kMem → Int32 → Option ρ
  | 0, _, _ => none
  | n + 1, f, x2 => kle 10 x2 (Y f x2) (kbind (lf_order f 0 (x2 - x2 / 6 * 6) 1 x2) (fun r55 g56 => keq r55 x2 (ll_law_282 Y n g56 (x2 + 1)) none))
def lj_law_508 {ρ : Type} (Y0 : Option ρ) (f : kMem) : Option ρ := kbind (lf_pause f 99) (fun r99 g100 => keq r99 0 (kbind (lf_pause g100 101) (fun r101 g102 => keq r101 2 (kbind (lf_account g102 6) (fun r103 g104 => keq r103 4 (Y0) none)) none)) none)
def lj_law_456 {ρ : Type} (Y0 : Option ρ) (f : kMem) : Option ρ := kbind (lf_pause f 200) (fun r89 g90 => keq r89 0 (kbind (lf_set g90 0 100) (fun r91 g92 => keq r91 480 (kbind (lf_pause g92 1) (fun r93 g94 => keq r93 1 (kbind (lf_orderOf g94 1 5) (fun r95 g96 => keq r95 1 (kbind (lf_letter g96 1) (fun r97 g98 => keq r97 108 (lj_law_508 Y0 g98) none)) none)) none)) none)) none)
def lj_law_409 {ρ : Type} (Y0 : Option ρ) (f : kMem) : Option ρ := kbind (lf_pause f 479) (fun r79 g80 => keq r79 0 (kbind (lf_letter g80 1) (fun r81 g82 => keq r81 111 (kbind (lf_pause g82 1) (fun r83 g84 => keq r83 1 (kbind (lf_orderOf g84 1 5) (fun r85 g86 => keq r85 0 (kbind (lf_orderOf g86 0 5) (fun r87 g88 => keq r87 0 (lj_law_456 Y0 g88) none)) none)) none)) none)) none)
def lj_law_355 {ρ : Type} (Y0 : Option ρ) (f : kMem) : Option ρ := kbind (lf_account f 3) (fun r69 g70 => keq r69 9 (kbind (lf_callOff g70 0) (fun r71 g72 => keq r71 8 (kbind (lf_callOff g72 0) (fun r73 g74 => keq r73 (-1001) (kbind (lf_is g74 0 9 0) (fun r75 g76 => keq r75 0 none (kbind (lf_letter g76 0) (fun r77 g78 => keq r77 99 (lj_law_409 Y0 g78) none)))) none)) none)) none)
def lj_law_311 {ρ : Type} (Y0 : Option ρ) (f : kMem) : Option ρ := kbind (lf_order f 0 0 1 0) (fun r61 g62 => keq r61 (-1001) (kbind (lf_is g62 0 3 0) (fun r63 g64 => keq r63 0 none (kbind (lf_account g64 13) (fun r65 g66 => keq r65 8 (kbind (lf_undo g66) (fun r67 g68 => keq r67 7 (lj_law_355 Y0 g68) none)) none)))) none)
def lj_law_280 {ρ : Type} (Y0 : Option ρ) (f : kMem) : Option ρ := ll_law_282 (fun g57 x2_60 => lj_law_311 Y0 g57) 11 f 0
def lj_law_249 {ρ : Type} (Y0 : Option ρ) (f : kMem) : Option ρ := kbind (lf_colour f 0) (fun r49 g50 => keq r49 (-1001) (kbind (lf_is g50 0 3 0) (fun r51 g52 => keq r51 0 none (kbind (lf_part g52 1) (fun r53 g54 => keq r53 0 (lj_law_280 Y0 g54) none)))) none)
def lj_law_224 {ρ : Type} (Y0 : Option ρ) (f : kMem) : Option ρ := ll_law_226 (fun g45 x2_48 => lj_law_249 Y0 g45) 7 f 0
def lj_law_184 {ρ : Type} (Y0 : Option ρ) (f : kMem) : Option ρ := kbind (lf_append f 109) (fun r35 g36 => keq r35 (-1001) (kbind (lf_program g36) (fun r37 g38 => keq r37 (-1001) (kbind (cf_X11_faultPosition g38) (fun r39 g40 => keq r39 0 (kbind (lf_account g40 14) (fun r41 g42 => keq r41 0 (lj_law_224 Y0 g42) none)) none)) none)) none)
def lj_law_152 {ρ : Type} (Y0 : Option ρ) (f : kMem) : Option ρ := ll_law_154 (fun g31 x2_34 => lj_law_184 Y0 g31) 81 f 0
def lj_law_109 {ρ : Type} (Y0 : Option ρ) (f : kMem) : Option ρ := kbind (lf_account f 18) (fun r21 g22 => keq r21 10 (kbind (lf_dryer g22 0 0) (fun r23 g24 => keq r23 (-1) (kbind (lf_best g24 0) (fun r25 g26 => keq r25 0 (kbind (lf_bestColour g26 0 0) (fun r27 g28 => keq r27 (-1002) (lj_law_152 Y0 g28) none)) none)) none)) none)
def lj_law_56 {ρ : Type} (Y0 : Option ρ) (f : kMem) : Option ρ := kbind (lf_account f 7) (fun r11 g12 => keq r11 (-1) (kbind (lf_account g12 8) (fun r13 g14 => keq r13 (-1) (kbind (lf_account g14 15) (fun r15 g16 => keq r15 480 (kbind (lf_account g16 16) (fun r17 g18 => keq r17 60 (kbind (lf_account g18 17) (fun r19 g20 => keq r19 2 (lj_law_109 Y0 g20) none)) none)) none)) none)) none)
def lj_law_8 {ρ : Type} (Y0 : Option ρ) (f : kMem) : Option ρ := kbind (lf_undo f) (fun r1 g2 => keq r1 (-1001) (kbind (lf_restore g2) (fun r3 g4 => keq r3 (-1001) (kbind (cf_X11_save g4) (fun r5 g6 => keq r5 0 (mfbind (lf_scrap g6) (fun r7 g8 => kchk (decide (r7 = 3296346112)) (mdbind (lf_lateness g8) (fun r9 g10 => kchk (decide (r9 = 13875388141788987392)) (lj_law_56 Y0 g10))))) none)) none)) none)
set_option maxRecDepth 20000 in
set_option maxHeartbeats 4000000 in
theorem mll_law_154 {z : ρ} (C : MC p l e R s m args below meth c Z A ss RL cL_law nL ret0 d mc ms) (hA : ∀ q, s.heap.size ≤ q → A q) (hU : 2 * U ≤ mc ∧ 12 * U ≤ ms) (had : mAd Z ad) (hd : 11 ≤ d ∧ 11 ≤ nL) {Y : kMem → Int32 → Option ρ} {e9 : Nat} (hY : ∀ (f : kMem) (x2 : Int32) (u : Nat), u + e9 ≤ U → M p l e R s m args below meth c Z A nL QF z (2 * u) (12 * u) (kw (wC Z.1 ad) f ++ []) 184 [(0, .ref (msb Z)), (1, .ref (ad 291)), (2, .int x2)] [] (Y f x2)) : ∀ (n : Nat) (f : kMem) (x2 : Int32) (u : Nat), u + (n * 1 + 0 + e9) ≤ U → M p l e R s m args below meth c Z A nL QF z (2 * u) (12 * u) (kw (wC Z.1 ad) f ++ []) 154 [(0, .ref (msb Z)), (1, .ref (ad 291)), (2, .int x2)] [] (ll_law_154 Y n f x2) := by
  intro n
  induction n with
  | zero => exact fun f x2 u hu => M_none
  | succ n ih =>
    intro f x2 u hu
    rw [Nat.succ_mul] at hu
    unfold ll_law_154
    refine M_iload_n C 2 rfl rfl dL_law_154 ?_
    refine M_bipush C (v := 80) (by decide) dL_law_155 ?_
    refine M_icmp_ge C (tgt := 184) (by decide) dL_law_157 ?_ ?_
    · refine M_sub [0, 1, 2] (lv1 := [(0, .ref (msb Z)), (1, .ref (ad 291)), (2, .int x2)]) rfl ?_
      exact hY f x2 _ (by omega)
    · refine M_aload_n C 1 rfl rfl dL_law_160 ?_
      refine M_sipush C (v := 200) (by decide) dL_law_161 ?_
      refine M_iload_n C 2 rfl rfl dL_law_164 ?_
      refine M_iadd C dL_law_165 ?_
      refine M_i2c C dL_law_166 ?_
      refine M_bW C hA hU (v := 1) (wr := []) (As := [.ref (ad 291), .int (((200 + x2).toUInt32 % 65536).toInt32)]) (rest := []) (fun ry fy hy => wl_append l C.2.2.2.2.2.2 Z ad had f (((200 + x2).toUInt32 % 65536).toInt32) ry fy hy) jy_L_append jm_L_144 mSS_nil (by omega) (by omega) rfl rfl (Nat.le_of_ble_eq_true rfl) dL_law_167 (fun r29 g30 => ?_)
      refine M_iload_n C 2 rfl rfl dL_law_170 ?_
      refine M_iconst C (v := 1) (by decide) dL_law_171 ?_
      refine M_iadd C dL_law_172 ?_
      refine M_icmp_eq C (tgt := 178) (by decide) dL_law_173 ?_ M_none
      refine M_iincC C (k := 2) rfl (v := x2 + 1) (incv _) (Nat.lt_of_lt_of_le (by decide) hd.2) (lv1 := [(2, .int (x2 + 1)), (0, .ref (msb Z)), (1, .ref (ad 291))]) rfl dL_law_178 ?_
      refine M_goto C (tgt := 154) (by decide) dL_law_181 ?_
      refine M_sub [1, 2, 0] (lv1 := [(0, .ref (msb Z)), (1, .ref (ad 291)), (2, .int (x2 + 1))]) rfl ?_
      exact ih g30 (x2 + 1) _ (by omega)
set_option maxRecDepth 20000 in
set_option maxHeartbeats 4000000 in
theorem mll_law_226 {z : ρ} (C : MC p l e R s m args below meth c Z A ss RL cL_law nL ret0 d mc ms) (hA : ∀ q, s.heap.size ≤ q → A q) (hU : 2 * U ≤ mc ∧ 12 * U ≤ ms) (had : mAd Z ad) (hd : 11 ≤ d ∧ 11 ≤ nL) {Y : kMem → Int32 → Option ρ} {e9 : Nat} (hY : ∀ (f : kMem) (x2 : Int32) (u : Nat), u + e9 ≤ U → M p l e R s m args below meth c Z A nL QF z (2 * u) (12 * u) (kw (wC Z.1 ad) f ++ []) 249 [(0, .ref (msb Z)), (1, .ref (ad 291)), (2, .int x2)] [] (Y f x2)) : ∀ (n : Nat) (f : kMem) (x2 : Int32) (u : Nat), u + (n * 1 + 0 + e9) ≤ U → M p l e R s m args below meth c Z A nL QF z (2 * u) (12 * u) (kw (wC Z.1 ad) f ++ []) 226 [(0, .ref (msb Z)), (1, .ref (ad 291)), (2, .int x2)] [] (ll_law_226 Y n f x2) := by
  intro n
  induction n with
  | zero => exact fun f x2 u hu => M_none
  | succ n ih =>
    intro f x2 u hu
    rw [Nat.succ_mul] at hu
    unfold ll_law_226
    refine M_iload_n C 2 rfl rfl dL_law_226 ?_
    refine M_bipush C (v := 6) (by decide) dL_law_227 ?_
    refine M_icmp_ge C (tgt := 249) (by decide) dL_law_229 ?_ ?_
    · refine M_sub [0, 1, 2] (lv1 := [(0, .ref (msb Z)), (1, .ref (ad 291)), (2, .int x2)]) rfl ?_
      exact hY f x2 _ (by omega)
    · refine M_aload_n C 1 rfl rfl dL_law_232 ?_
      refine M_iload_n C 2 rfl rfl dL_law_233 ?_
      refine M_bW C hA hU (v := 1) (wr := []) (As := [.ref (ad 291), .int x2]) (rest := []) (fun ry fy hy => wl_colour l C.2.2.2.2.2.2 Z ad had f x2 ry fy hy) jy_L_colour jm_L_168 mSS_nil (by omega) (by omega) rfl rfl (Nat.le_of_ble_eq_true rfl) dL_law_234 (fun r43 g44 => ?_)
      refine M_iload_n C 2 rfl rfl dL_law_237 ?_
      refine M_icmp_eq C (tgt := 243) (by decide) dL_law_238 ?_ M_none
      refine M_iincC C (k := 2) rfl (v := x2 + 1) (incv _) (Nat.lt_of_lt_of_le (by decide) hd.2) (lv1 := [(2, .int (x2 + 1)), (0, .ref (msb Z)), (1, .ref (ad 291))]) rfl dL_law_243 ?_
      refine M_goto C (tgt := 226) (by decide) dL_law_246 ?_
      refine M_sub [1, 2, 0] (lv1 := [(0, .ref (msb Z)), (1, .ref (ad 291)), (2, .int (x2 + 1))]) rfl ?_
      exact ih g44 (x2 + 1) _ (by omega)
set_option maxRecDepth 20000 in
set_option maxHeartbeats 4000000 in
theorem mll_law_282 {z : ρ} (C : MC p l e R s m args below meth c Z A ss RL cL_law nL ret0 d mc ms) (hA : ∀ q, s.heap.size ≤ q → A q) (hU : 2 * U ≤ mc ∧ 12 * U ≤ ms) (had : mAd Z ad) (hd : 11 ≤ d ∧ 11 ≤ nL) {Y : kMem → Int32 → Option ρ} {e9 : Nat} (hY : ∀ (f : kMem) (x2 : Int32) (u : Nat), u + e9 ≤ U → M p l e R s m args below meth c Z A nL QF z (2 * u) (12 * u) (kw (wC Z.1 ad) f ++ []) 311 [(0, .ref (msb Z)), (1, .ref (ad 291)), (2, .int x2)] [] (Y f x2)) : ∀ (n : Nat) (f : kMem) (x2 : Int32) (u : Nat), u + (n * 1 + 0 + e9) ≤ U → M p l e R s m args below meth c Z A nL QF z (2 * u) (12 * u) (kw (wC Z.1 ad) f ++ []) 282 [(0, .ref (msb Z)), (1, .ref (ad 291)), (2, .int x2)] [] (ll_law_282 Y n f x2) := by
  intro n
  induction n with
  | zero => exact fun f x2 u hu => M_none
  | succ n ih =>
    intro f x2 u hu
    rw [Nat.succ_mul] at hu
    unfold ll_law_282
    refine M_iload_n C 2 rfl rfl dL_law_282 ?_
    refine M_bipush C (v := 10) (by decide) dL_law_283 ?_
    refine M_icmp_ge C (tgt := 311) (by decide) dL_law_285 ?_ ?_
    · refine M_sub [0, 1, 2] (lv1 := [(0, .ref (msb Z)), (1, .ref (ad 291)), (2, .int x2)]) rfl ?_
      exact hY f x2 _ (by omega)
    · refine M_aload_n C 1 rfl rfl dL_law_288 ?_
      refine M_iconst C (v := 0) (by decide) dL_law_289 ?_
      refine M_iload_n C 2 rfl rfl dL_law_290 ?_
      refine M_bipush C (v := 6) (by decide) dL_law_291 ?_
      refine M_irem C (by decide) dL_law_293 ?_
      refine M_iconst C (v := 1) (by decide) dL_law_294 ?_
      refine M_iload_n C 2 rfl rfl dL_law_295 ?_
      refine M_bW C hA hU (v := 1) (wr := []) (As := [.ref (ad 291), .int 0, .int (x2 - x2 / 6 * 6), .int 1, .int x2]) (rest := []) (fun ry fy hy => wl_order l C.2.2.2.2.2.2 Z ad had f 0 (x2 - x2 / 6 * 6) 1 x2 ry fy hy) jy_L_order jm_L_265 mSS_nil (by omega) (by omega) rfl rfl (Nat.le_of_ble_eq_true rfl) dL_law_296 (fun r55 g56 => ?_)
      refine M_iload_n C 2 rfl rfl dL_law_299 ?_
      refine M_icmp_eq C (tgt := 305) (by decide) dL_law_300 ?_ M_none
      refine M_iincC C (k := 2) rfl (v := x2 + 1) (incv _) (Nat.lt_of_lt_of_le (by decide) hd.2) (lv1 := [(2, .int (x2 + 1)), (0, .ref (msb Z)), (1, .ref (ad 291))]) rfl dL_law_305 ?_
      refine M_goto C (tgt := 282) (by decide) dL_law_308 ?_
      refine M_sub [1, 2, 0] (lv1 := [(0, .ref (msb Z)), (1, .ref (ad 291)), (2, .int (x2 + 1))]) rfl ?_
      exact ih g56 (x2 + 1) _ (by omega)
set_option maxRecDepth 20000 in
set_option maxHeartbeats 4000000 in
theorem mlj_law_508 {z : Int32 × kMem} (C : MC p l e room_1 s m #[Value.ref b] below meth c Z (AL s) [] RL cL_law 11 ret 1475 600312 7291330) (hA : ∀ q, s.heap.size ≤ q → AL s q) (hU : 2 * U ≤ 600312 ∧ 12 * U ≤ 7291330) (hAO : va_AO "MouldFloor$Floor" s) (hL : msL Z < 2 ^ 31) (had : mAd Z ad) (hd : 11 ≤ 1475 ∧ 11 ≤ 11) (f : kMem) (u : Nat) (hu : u + 27121 ≤ U) : M p l e room_1 s m #[Value.ref b] below meth c Z (AL s) 11 (lw_Z below #[Value.ref b] s) z (2 * u) (12 * u) (kw (wC Z.1 ad) f ++ []) 508 [(0, .ref (msb Z)), (1, .ref (ad 291))] [] (lj_law_508 (lf_o Z) f) := by
  unfold lj_law_508
  refine M_aload_n C 1 rfl rfl dL_law_508 ?_
  refine M_bipush C (v := 99) (by decide) dL_law_509 ?_
  refine M_bW C hA hU (v := 1) (wr := []) (As := [.ref (ad 291), .int 99]) (rest := []) (fun ry fy hy => wl_pause l C.2.2.2.2.2.2 Z ad had f 99 ry fy hy) jy_L_pause jm_L_261 mSS_nil (by omega) (by omega) rfl rfl (Nat.le_of_ble_eq_true rfl) dL_law_511 (fun r99 g100 => ?_)
  refine M_if_ne C (tgt := 537) (by decide) dL_law_514 M_none ?_
  refine M_aload_n C 1 rfl rfl dL_law_517 ?_
  refine M_bipush C (v := 101) (by decide) dL_law_518 ?_
  refine M_bW C hA hU (v := 1) (wr := []) (As := [.ref (ad 291), .int 101]) (rest := []) (fun ry fy hy => wl_pause l C.2.2.2.2.2.2 Z ad had g100 101 ry fy hy) jy_L_pause jm_L_261 mSS_nil (by omega) (by omega) rfl rfl (Nat.le_of_ble_eq_true rfl) dL_law_520 (fun r101 g102 => ?_)
  refine M_iconst C (v := 2) (by decide) dL_law_523 ?_
  refine M_icmp_ne C (tgt := 537) (by decide) dL_law_524 M_none ?_
  refine M_aload_n C 1 rfl rfl dL_law_527 ?_
  refine M_bipush C (v := 6) (by decide) dL_law_528 ?_
  refine M_bW C hA hU (v := 1) (wr := []) (As := [.ref (ad 291), .int 6]) (rest := []) (fun ry fy hy => wl_account l C.2.2.2.2.2.2 Z ad had g102 6 ry fy hy) jy_L_account jm_L_213 mSS_nil (by omega) (by omega) rfl rfl (Nat.le_of_ble_eq_true rfl) dL_law_530 (fun r103 g104 => ?_)
  refine M_iconst C (v := 4) (by decide) dL_law_533 ?_
  refine M_icmp_eq C (tgt := 539) (by decide) dL_law_534 ?_ M_none
  refine M_forget ?_
  refine M_sub [0] (lv1 := [(0, .ref (msb Z))]) rfl ?_
  exact ml_o C hA hU hAO hL _ (by omega)
set_option maxRecDepth 20000 in
set_option maxHeartbeats 4000000 in
theorem mlj_law_456 {z : Int32 × kMem} (C : MC p l e room_1 s m #[Value.ref b] below meth c Z (AL s) [] RL cL_law 11 ret 1475 600312 7291330) (hA : ∀ q, s.heap.size ≤ q → AL s q) (hU : 2 * U ≤ 600312 ∧ 12 * U ≤ 7291330) (hAO : va_AO "MouldFloor$Floor" s) (hL : msL Z < 2 ^ 31) (had : mAd Z ad) (hd : 11 ≤ 1475 ∧ 11 ≤ 11) (f : kMem) (u : Nat) (hu : u + 27126 ≤ U) : M p l e room_1 s m #[Value.ref b] below meth c Z (AL s) 11 (lw_Z below #[Value.ref b] s) z (2 * u) (12 * u) (kw (wC Z.1 ad) f ++ []) 456 [(0, .ref (msb Z)), (1, .ref (ad 291))] [] (lj_law_456 (lf_o Z) f) := by
  unfold lj_law_456
  refine M_aload_n C 1 rfl rfl dL_law_456 ?_
  refine M_sipush C (v := 200) (by decide) dL_law_457 ?_
  refine M_bW C hA hU (v := 1) (wr := []) (As := [.ref (ad 291), .int 200]) (rest := []) (fun ry fy hy => wl_pause l C.2.2.2.2.2.2 Z ad had f 200 ry fy hy) jy_L_pause jm_L_261 mSS_nil (by omega) (by omega) rfl rfl (Nat.le_of_ble_eq_true rfl) dL_law_460 (fun r89 g90 => ?_)
  refine M_if_ne C (tgt := 537) (by decide) dL_law_463 M_none ?_
  refine M_aload_n C 1 rfl rfl dL_law_466 ?_
  refine M_iconst C (v := 0) (by decide) dL_law_467 ?_
  refine M_bipush C (v := 100) (by decide) dL_law_468 ?_
  refine M_bW C hA hU (v := 1) (wr := []) (As := [.ref (ad 291), .int 0, .int 100]) (rest := []) (fun ry fy hy => wl_set l C.2.2.2.2.2.2 Z ad had g90 0 100 ry fy hy) jy_L_set jm_L_190 mSS_nil (by omega) (by omega) rfl rfl (Nat.le_of_ble_eq_true rfl) dL_law_470 (fun r91 g92 => ?_)
  refine M_sipush C (v := 480) (by decide) dL_law_473 ?_
  refine M_icmp_ne C (tgt := 537) (by decide) dL_law_476 M_none ?_
  refine M_aload_n C 1 rfl rfl dL_law_479 ?_
  refine M_iconst C (v := 1) (by decide) dL_law_480 ?_
  refine M_bW C hA hU (v := 1) (wr := []) (As := [.ref (ad 291), .int 1]) (rest := []) (fun ry fy hy => wl_pause l C.2.2.2.2.2.2 Z ad had g92 1 ry fy hy) jy_L_pause jm_L_261 mSS_nil (by omega) (by omega) rfl rfl (Nat.le_of_ble_eq_true rfl) dL_law_481 (fun r93 g94 => ?_)
  refine M_iconst C (v := 1) (by decide) dL_law_484 ?_
  refine M_icmp_ne C (tgt := 537) (by decide) dL_law_485 M_none ?_
  refine M_aload_n C 1 rfl rfl dL_law_488 ?_
  refine M_iconst C (v := 1) (by decide) dL_law_489 ?_
  refine M_iconst C (v := 5) (by decide) dL_law_490 ?_
  refine M_bW C hA hU (v := 1) (wr := []) (As := [.ref (ad 291), .int 1, .int 5]) (rest := []) (fun ry fy hy => wl_orderOf l C.2.2.2.2.2.2 Z ad had g94 1 5 ry fy hy) jy_L_orderOf jm_L_226 mSS_nil (by omega) (by omega) rfl rfl (Nat.le_of_ble_eq_true rfl) dL_law_491 (fun r95 g96 => ?_)
  refine M_iconst C (v := 1) (by decide) dL_law_494 ?_
  refine M_icmp_ne C (tgt := 537) (by decide) dL_law_495 M_none ?_
  refine M_aload_n C 1 rfl rfl dL_law_498 ?_
  refine M_iconst C (v := 1) (by decide) dL_law_499 ?_
  refine M_bW C hA hU (v := 1) (wr := []) (As := [.ref (ad 291), .int 1]) (rest := []) (fun ry fy hy => wl_letter l C.2.2.2.2.2.2 Z ad had g96 1 ry fy hy) jy_L_letter jm_L_230 mSS_nil (by omega) (by omega) rfl rfl (Nat.le_of_ble_eq_true rfl) dL_law_500 (fun r97 g98 => ?_)
  refine M_bipush C (v := 108) (by decide) dL_law_503 ?_
  refine M_icmp_ne C (tgt := 537) (by decide) dL_law_505 M_none ?_
  refine M_sub [0, 1] (lv1 := [(0, .ref (msb Z)), (1, .ref (ad 291))]) rfl ?_
  exact mlj_law_508 C hA hU hAO hL had hd g98 _ (by omega)
set_option maxRecDepth 20000 in
set_option maxHeartbeats 4000000 in
theorem mlj_law_409 {z : Int32 × kMem} (C : MC p l e room_1 s m #[Value.ref b] below meth c Z (AL s) [] RL cL_law 11 ret 1475 600312 7291330) (hA : ∀ q, s.heap.size ≤ q → AL s q) (hU : 2 * U ≤ 600312 ∧ 12 * U ≤ 7291330) (hAO : va_AO "MouldFloor$Floor" s) (hL : msL Z < 2 ^ 31) (had : mAd Z ad) (hd : 11 ≤ 1475 ∧ 11 ≤ 11) (f : kMem) (u : Nat) (hu : u + 27131 ≤ U) : M p l e room_1 s m #[Value.ref b] below meth c Z (AL s) 11 (lw_Z below #[Value.ref b] s) z (2 * u) (12 * u) (kw (wC Z.1 ad) f ++ []) 409 [(0, .ref (msb Z)), (1, .ref (ad 291))] [] (lj_law_409 (lf_o Z) f) := by
  unfold lj_law_409
  refine M_aload_n C 1 rfl rfl dL_law_409 ?_
  refine M_sipush C (v := 479) (by decide) dL_law_410 ?_
  refine M_bW C hA hU (v := 1) (wr := []) (As := [.ref (ad 291), .int 479]) (rest := []) (fun ry fy hy => wl_pause l C.2.2.2.2.2.2 Z ad had f 479 ry fy hy) jy_L_pause jm_L_261 mSS_nil (by omega) (by omega) rfl rfl (Nat.le_of_ble_eq_true rfl) dL_law_413 (fun r79 g80 => ?_)
  refine M_if_ne C (tgt := 537) (by decide) dL_law_416 M_none ?_
  refine M_aload_n C 1 rfl rfl dL_law_419 ?_
  refine M_iconst C (v := 1) (by decide) dL_law_420 ?_
  refine M_bW C hA hU (v := 1) (wr := []) (As := [.ref (ad 291), .int 1]) (rest := []) (fun ry fy hy => wl_letter l C.2.2.2.2.2.2 Z ad had g80 1 ry fy hy) jy_L_letter jm_L_230 mSS_nil (by omega) (by omega) rfl rfl (Nat.le_of_ble_eq_true rfl) dL_law_421 (fun r81 g82 => ?_)
  refine M_bipush C (v := 111) (by decide) dL_law_424 ?_
  refine M_icmp_ne C (tgt := 537) (by decide) dL_law_426 M_none ?_
  refine M_aload_n C 1 rfl rfl dL_law_429 ?_
  refine M_iconst C (v := 1) (by decide) dL_law_430 ?_
  refine M_bW C hA hU (v := 1) (wr := []) (As := [.ref (ad 291), .int 1]) (rest := []) (fun ry fy hy => wl_pause l C.2.2.2.2.2.2 Z ad had g82 1 ry fy hy) jy_L_pause jm_L_261 mSS_nil (by omega) (by omega) rfl rfl (Nat.le_of_ble_eq_true rfl) dL_law_431 (fun r83 g84 => ?_)
  refine M_iconst C (v := 1) (by decide) dL_law_434 ?_
  refine M_icmp_ne C (tgt := 537) (by decide) dL_law_435 M_none ?_
  refine M_aload_n C 1 rfl rfl dL_law_438 ?_
  refine M_iconst C (v := 1) (by decide) dL_law_439 ?_
  refine M_iconst C (v := 5) (by decide) dL_law_440 ?_
  refine M_bW C hA hU (v := 1) (wr := []) (As := [.ref (ad 291), .int 1, .int 5]) (rest := []) (fun ry fy hy => wl_orderOf l C.2.2.2.2.2.2 Z ad had g84 1 5 ry fy hy) jy_L_orderOf jm_L_226 mSS_nil (by omega) (by omega) rfl rfl (Nat.le_of_ble_eq_true rfl) dL_law_441 (fun r85 g86 => ?_)
  refine M_if_ne C (tgt := 537) (by decide) dL_law_444 M_none ?_
  refine M_aload_n C 1 rfl rfl dL_law_447 ?_
  refine M_iconst C (v := 0) (by decide) dL_law_448 ?_
  refine M_iconst C (v := 5) (by decide) dL_law_449 ?_
  refine M_bW C hA hU (v := 1) (wr := []) (As := [.ref (ad 291), .int 0, .int 5]) (rest := []) (fun ry fy hy => wl_orderOf l C.2.2.2.2.2.2 Z ad had g86 0 5 ry fy hy) jy_L_orderOf jm_L_226 mSS_nil (by omega) (by omega) rfl rfl (Nat.le_of_ble_eq_true rfl) dL_law_450 (fun r87 g88 => ?_)
  refine M_if_ne C (tgt := 537) (by decide) dL_law_453 M_none ?_
  refine M_sub [0, 1] (lv1 := [(0, .ref (msb Z)), (1, .ref (ad 291))]) rfl ?_
  exact mlj_law_456 C hA hU hAO hL had hd g88 _ (by omega)
set_option maxRecDepth 20000 in
set_option maxHeartbeats 4000000 in
theorem mlj_law_355 {z : Int32 × kMem} (C : MC p l e room_1 s m #[Value.ref b] below meth c Z (AL s) [] RL cL_law 11 ret 1475 600312 7291330) (hA : ∀ q, s.heap.size ≤ q → AL s q) (hU : 2 * U ≤ 600312 ∧ 12 * U ≤ 7291330) (hAO : va_AO "MouldFloor$Floor" s) (hL : msL Z < 2 ^ 31) (had : mAd Z ad) (hd : 11 ≤ 1475 ∧ 11 ≤ 11) (f : kMem) (u : Nat) (hu : u + 27137 ≤ U) : M p l e room_1 s m #[Value.ref b] below meth c Z (AL s) 11 (lw_Z below #[Value.ref b] s) z (2 * u) (12 * u) (kw (wC Z.1 ad) f ++ []) 355 [(0, .ref (msb Z)), (1, .ref (ad 291))] [] (lj_law_355 (lf_o Z) f) := by
  unfold lj_law_355
  refine M_aload_n C 1 rfl rfl dL_law_355 ?_
  refine M_iconst C (v := 3) (by decide) dL_law_356 ?_
  refine M_bW C hA hU (v := 1) (wr := []) (As := [.ref (ad 291), .int 3]) (rest := []) (fun ry fy hy => wl_account l C.2.2.2.2.2.2 Z ad had f 3 ry fy hy) jy_L_account jm_L_213 mSS_nil (by omega) (by omega) rfl rfl (Nat.le_of_ble_eq_true rfl) dL_law_357 (fun r69 g70 => ?_)
  refine M_bipush C (v := 9) (by decide) dL_law_360 ?_
  refine M_icmp_ne C (tgt := 407) (by decide) dL_law_362 M_none ?_
  refine M_aload_n C 1 rfl rfl dL_law_365 ?_
  refine M_iconst C (v := 0) (by decide) dL_law_366 ?_
  refine M_bW C hA hU (v := 1) (wr := []) (As := [.ref (ad 291), .int 0]) (rest := []) (fun ry fy hy => wl_callOff l C.2.2.2.2.2.2 Z ad had g70 0 ry fy hy) jy_L_callOff jm_L_268 mSS_nil (by omega) (by omega) rfl rfl (Nat.le_of_ble_eq_true rfl) dL_law_367 (fun r71 g72 => ?_)
  refine M_bipush C (v := 8) (by decide) dL_law_370 ?_
  refine M_icmp_ne C (tgt := 407) (by decide) dL_law_372 M_none ?_
  refine M_aload_n C 1 rfl rfl dL_law_375 ?_
  refine M_iconst C (v := 0) (by decide) dL_law_376 ?_
  refine M_bW C hA hU (v := 1) (wr := []) (As := [.ref (ad 291), .int 0]) (rest := []) (fun ry fy hy => wl_callOff l C.2.2.2.2.2.2 Z ad had g72 0 ry fy hy) jy_L_callOff jm_L_268 mSS_nil (by omega) (by omega) rfl rfl (Nat.le_of_ble_eq_true rfl) dL_law_377 (fun r73 g74 => ?_)
  refine M_sipush C (v := (-1001)) (by decide) dL_law_380 ?_
  refine M_icmp_ne C (tgt := 407) (by decide) dL_law_383 M_none ?_
  refine M_aload_n C 1 rfl rfl dL_law_386 ?_
  refine M_iconst C (v := 0) (by decide) dL_law_387 ?_
  refine M_bipush C (v := 9) (by decide) dL_law_388 ?_
  refine M_iconst C (v := 0) (by decide) dL_law_390 ?_
  refine M_bS C hA hU (v := 2) (wr := []) (As := [.ref (ad 291), .int 0, .int 9, .int 0]) (rest := []) (fun ry fy hy => ml_is l C.2.2.2.2.2.2 Z ad had g74 0 9 0 ry fy hy) jy_L_is jm_L_283 mSS_nil (by omega) (by omega) rfl rfl (Nat.le_of_ble_eq_true rfl) dL_law_391 (fun r75 g76 => ?_)
  refine M_if_eq C (tgt := 407) (by decide) dL_law_394 M_none ?_
  refine M_aload_n C 1 rfl rfl dL_law_397 ?_
  refine M_iconst C (v := 0) (by decide) dL_law_398 ?_
  refine M_bW C hA hU (v := 1) (wr := []) (As := [.ref (ad 291), .int 0]) (rest := []) (fun ry fy hy => wl_letter l C.2.2.2.2.2.2 Z ad had g76 0 ry fy hy) jy_L_letter jm_L_230 mSS_nil (by omega) (by omega) rfl rfl (Nat.le_of_ble_eq_true rfl) dL_law_399 (fun r77 g78 => ?_)
  refine M_bipush C (v := 99) (by decide) dL_law_402 ?_
  refine M_icmp_eq C (tgt := 409) (by decide) dL_law_404 ?_ M_none
  refine M_sub [0, 1] (lv1 := [(0, .ref (msb Z)), (1, .ref (ad 291))]) rfl ?_
  exact mlj_law_409 C hA hU hAO hL had hd g78 _ (by omega)
set_option maxRecDepth 20000 in
set_option maxHeartbeats 4000000 in
theorem mlj_law_311 {z : Int32 × kMem} (C : MC p l e room_1 s m #[Value.ref b] below meth c Z (AL s) [] RL cL_law 11 ret 1475 600312 7291330) (hA : ∀ q, s.heap.size ≤ q → AL s q) (hU : 2 * U ≤ 600312 ∧ 12 * U ≤ 7291330) (hAO : va_AO "MouldFloor$Floor" s) (hL : msL Z < 2 ^ 31) (had : mAd Z ad) (hd : 11 ≤ 1475 ∧ 11 ≤ 11) (f : kMem) (u : Nat) (hu : u + 27142 ≤ U) : M p l e room_1 s m #[Value.ref b] below meth c Z (AL s) 11 (lw_Z below #[Value.ref b] s) z (2 * u) (12 * u) (kw (wC Z.1 ad) f ++ []) 311 [(0, .ref (msb Z)), (1, .ref (ad 291))] [] (lj_law_311 (lf_o Z) f) := by
  unfold lj_law_311
  refine M_aload_n C 1 rfl rfl dL_law_311 ?_
  refine M_iconst C (v := 0) (by decide) dL_law_312 ?_
  refine M_iconst C (v := 0) (by decide) dL_law_313 ?_
  refine M_iconst C (v := 1) (by decide) dL_law_314 ?_
  refine M_iconst C (v := 0) (by decide) dL_law_315 ?_
  refine M_bW C hA hU (v := 1) (wr := []) (As := [.ref (ad 291), .int 0, .int 0, .int 1, .int 0]) (rest := []) (fun ry fy hy => wl_order l C.2.2.2.2.2.2 Z ad had f 0 0 1 0 ry fy hy) jy_L_order jm_L_265 mSS_nil (by omega) (by omega) rfl rfl (Nat.le_of_ble_eq_true rfl) dL_law_316 (fun r61 g62 => ?_)
  refine M_sipush C (v := (-1001)) (by decide) dL_law_319 ?_
  refine M_icmp_ne C (tgt := 407) (by decide) dL_law_322 M_none ?_
  refine M_aload_n C 1 rfl rfl dL_law_325 ?_
  refine M_iconst C (v := 0) (by decide) dL_law_326 ?_
  refine M_iconst C (v := 3) (by decide) dL_law_327 ?_
  refine M_iconst C (v := 0) (by decide) dL_law_328 ?_
  refine M_bS C hA hU (v := 2) (wr := []) (As := [.ref (ad 291), .int 0, .int 3, .int 0]) (rest := []) (fun ry fy hy => ml_is l C.2.2.2.2.2.2 Z ad had g62 0 3 0 ry fy hy) jy_L_is jm_L_283 mSS_nil (by omega) (by omega) rfl rfl (Nat.le_of_ble_eq_true rfl) dL_law_329 (fun r63 g64 => ?_)
  refine M_if_eq C (tgt := 407) (by decide) dL_law_332 M_none ?_
  refine M_aload_n C 1 rfl rfl dL_law_335 ?_
  refine M_bipush C (v := 13) (by decide) dL_law_336 ?_
  refine M_bW C hA hU (v := 1) (wr := []) (As := [.ref (ad 291), .int 13]) (rest := []) (fun ry fy hy => wl_account l C.2.2.2.2.2.2 Z ad had g64 13 ry fy hy) jy_L_account jm_L_213 mSS_nil (by omega) (by omega) rfl rfl (Nat.le_of_ble_eq_true rfl) dL_law_338 (fun r65 g66 => ?_)
  refine M_bipush C (v := 8) (by decide) dL_law_341 ?_
  refine M_icmp_ne C (tgt := 407) (by decide) dL_law_343 M_none ?_
  refine M_aload_n C 1 rfl rfl dL_law_346 ?_
  refine M_bW C hA hU (v := 1) (wr := []) (As := [.ref (ad 291)]) (rest := []) (fun ry fy hy => wl_undo l C.2.2.2.2.2.2 Z ad had g66  ry fy hy) jy_L_undo jm_L_297 mSS_nil (by omega) (by omega) rfl rfl (Nat.le_of_ble_eq_true rfl) dL_law_347 (fun r67 g68 => ?_)
  refine M_bipush C (v := 7) (by decide) dL_law_350 ?_
  refine M_icmp_ne C (tgt := 407) (by decide) dL_law_352 M_none ?_
  refine M_sub [0, 1] (lv1 := [(0, .ref (msb Z)), (1, .ref (ad 291))]) rfl ?_
  exact mlj_law_355 C hA hU hAO hL had hd g68 _ (by omega)
set_option maxRecDepth 20000 in
set_option maxHeartbeats 4000000 in
theorem mlj_law_280 {z : Int32 × kMem} (C : MC p l e room_1 s m #[Value.ref b] below meth c Z (AL s) [] RL cL_law 11 ret 1475 600312 7291330) (hA : ∀ q, s.heap.size ≤ q → AL s q) (hU : 2 * U ≤ 600312 ∧ 12 * U ≤ 7291330) (hAO : va_AO "MouldFloor$Floor" s) (hL : msL Z < 2 ^ 31) (had : mAd Z ad) (hd : 11 ≤ 1475 ∧ 11 ≤ 11) (f : kMem) (u : Nat) (hu : u + 27153 ≤ U) : M p l e room_1 s m #[Value.ref b] below meth c Z (AL s) 11 (lw_Z below #[Value.ref b] s) z (2 * u) (12 * u) (kw (wC Z.1 ad) f ++ []) 280 [(0, .ref (msb Z)), (1, .ref (ad 291))] [] (lj_law_280 (lf_o Z) f) := by
  unfold lj_law_280
  refine M_iconst C (v := 0) (by decide) dL_law_280 ?_
  refine M_istore_n C rfl (Nat.lt_of_lt_of_le (by decide) hd.2) (lv1 := [(2, .int 0), (0, .ref (msb Z)), (1, .ref (ad 291))]) rfl dL_law_281 ?_
  refine M_sub [1, 2, 0] (lv1 := [(0, .ref (msb Z)), (1, .ref (ad 291)), (2, .int 0)]) rfl ?_
  refine mll_law_282 C hA hU had hd (e9 := 27142) (fun g57 x2_60 u58 hu59 => ?_) 11 f 0 _ (by omega)
  refine M_sub [0, 1] (lv1 := [(0, .ref (msb Z)), (1, .ref (ad 291))]) rfl ?_
  exact mlj_law_311 C hA hU hAO hL had hd g57 _ (by omega)
set_option maxRecDepth 20000 in
set_option maxHeartbeats 4000000 in
theorem mlj_law_249 {z : Int32 × kMem} (C : MC p l e room_1 s m #[Value.ref b] below meth c Z (AL s) [] RL cL_law 11 ret 1475 600312 7291330) (hA : ∀ q, s.heap.size ≤ q → AL s q) (hU : 2 * U ≤ 600312 ∧ 12 * U ≤ 7291330) (hAO : va_AO "MouldFloor$Floor" s) (hL : msL Z < 2 ^ 31) (had : mAd Z ad) (hd : 11 ≤ 1475 ∧ 11 ≤ 11) (f : kMem) (u : Nat) (hu : u + 27157 ≤ U) : M p l e room_1 s m #[Value.ref b] below meth c Z (AL s) 11 (lw_Z below #[Value.ref b] s) z (2 * u) (12 * u) (kw (wC Z.1 ad) f ++ []) 249 [(0, .ref (msb Z)), (1, .ref (ad 291))] [] (lj_law_249 (lf_o Z) f) := by
  unfold lj_law_249
  refine M_aload_n C 1 rfl rfl dL_law_249 ?_
  refine M_iconst C (v := 0) (by decide) dL_law_250 ?_
  refine M_bW C hA hU (v := 1) (wr := []) (As := [.ref (ad 291), .int 0]) (rest := []) (fun ry fy hy => wl_colour l C.2.2.2.2.2.2 Z ad had f 0 ry fy hy) jy_L_colour jm_L_168 mSS_nil (by omega) (by omega) rfl rfl (Nat.le_of_ble_eq_true rfl) dL_law_251 (fun r49 g50 => ?_)
  refine M_sipush C (v := (-1001)) (by decide) dL_law_254 ?_
  refine M_icmp_ne C (tgt := 278) (by decide) dL_law_257 M_none ?_
  refine M_aload_n C 1 rfl rfl dL_law_260 ?_
  refine M_iconst C (v := 0) (by decide) dL_law_261 ?_
  refine M_iconst C (v := 3) (by decide) dL_law_262 ?_
  refine M_iconst C (v := 0) (by decide) dL_law_263 ?_
  refine M_bS C hA hU (v := 2) (wr := []) (As := [.ref (ad 291), .int 0, .int 3, .int 0]) (rest := []) (fun ry fy hy => ml_is l C.2.2.2.2.2.2 Z ad had g50 0 3 0 ry fy hy) jy_L_is jm_L_283 mSS_nil (by omega) (by omega) rfl rfl (Nat.le_of_ble_eq_true rfl) dL_law_264 (fun r51 g52 => ?_)
  refine M_if_eq C (tgt := 278) (by decide) dL_law_267 M_none ?_
  refine M_aload_n C 1 rfl rfl dL_law_270 ?_
  refine M_iconst C (v := 1) (by decide) dL_law_271 ?_
  refine M_bW C hA hU (v := 1) (wr := []) (As := [.ref (ad 291), .int 1]) (rest := []) (fun ry fy hy => wl_part l C.2.2.2.2.2.2 Z ad had g52 1 ry fy hy) jy_L_part jm_L_171 mSS_nil (by omega) (by omega) rfl rfl (Nat.le_of_ble_eq_true rfl) dL_law_272 (fun r53 g54 => ?_)
  refine M_if_eq C (tgt := 280) (by decide) dL_law_275 ?_ M_none
  refine M_sub [0, 1] (lv1 := [(0, .ref (msb Z)), (1, .ref (ad 291))]) rfl ?_
  exact mlj_law_280 C hA hU hAO hL had hd g54 _ (by omega)
set_option maxRecDepth 20000 in
set_option maxHeartbeats 4000000 in
theorem mlj_law_224 {z : Int32 × kMem} (C : MC p l e room_1 s m #[Value.ref b] below meth c Z (AL s) [] RL cL_law 11 ret 1475 600312 7291330) (hA : ∀ q, s.heap.size ≤ q → AL s q) (hU : 2 * U ≤ 600312 ∧ 12 * U ≤ 7291330) (hAO : va_AO "MouldFloor$Floor" s) (hL : msL Z < 2 ^ 31) (had : mAd Z ad) (hd : 11 ≤ 1475 ∧ 11 ≤ 11) (f : kMem) (u : Nat) (hu : u + 27164 ≤ U) : M p l e room_1 s m #[Value.ref b] below meth c Z (AL s) 11 (lw_Z below #[Value.ref b] s) z (2 * u) (12 * u) (kw (wC Z.1 ad) f ++ []) 224 [(0, .ref (msb Z)), (1, .ref (ad 291))] [] (lj_law_224 (lf_o Z) f) := by
  unfold lj_law_224
  refine M_iconst C (v := 0) (by decide) dL_law_224 ?_
  refine M_istore_n C rfl (Nat.lt_of_lt_of_le (by decide) hd.2) (lv1 := [(2, .int 0), (0, .ref (msb Z)), (1, .ref (ad 291))]) rfl dL_law_225 ?_
  refine M_sub [1, 2, 0] (lv1 := [(0, .ref (msb Z)), (1, .ref (ad 291)), (2, .int 0)]) rfl ?_
  refine mll_law_226 C hA hU had hd (e9 := 27157) (fun g45 x2_48 u46 hu47 => ?_) 7 f 0 _ (by omega)
  refine M_sub [0, 1] (lv1 := [(0, .ref (msb Z)), (1, .ref (ad 291))]) rfl ?_
  exact mlj_law_249 C hA hU hAO hL had hd g45 _ (by omega)
set_option maxRecDepth 20000 in
set_option maxHeartbeats 4000000 in
theorem mlj_law_184 {z : Int32 × kMem} (C : MC p l e room_1 s m #[Value.ref b] below meth c Z (AL s) [] RL cL_law 11 ret 1475 600312 7291330) (hA : ∀ q, s.heap.size ≤ q → AL s q) (hU : 2 * U ≤ 600312 ∧ 12 * U ≤ 7291330) (hAO : va_AO "MouldFloor$Floor" s) (hL : msL Z < 2 ^ 31) (had : mAd Z ad) (hd : 11 ≤ 1475 ∧ 11 ≤ 11) (f : kMem) (u : Nat) (hu : u + 27167 ≤ U) : M p l e room_1 s m #[Value.ref b] below meth c Z (AL s) 11 (lw_Z below #[Value.ref b] s) z (2 * u) (12 * u) (kw (wC Z.1 ad) f ++ []) 184 [(0, .ref (msb Z)), (1, .ref (ad 291))] [] (lj_law_184 (lf_o Z) f) := by
  unfold lj_law_184
  refine M_aload_n C 1 rfl rfl dL_law_184 ?_
  refine M_bipush C (v := 109) (by decide) dL_law_185 ?_
  refine M_bW C hA hU (v := 1) (wr := []) (As := [.ref (ad 291), .int 109]) (rest := []) (fun ry fy hy => wl_append l C.2.2.2.2.2.2 Z ad had f 109 ry fy hy) jy_L_append jm_L_144 mSS_nil (by omega) (by omega) rfl rfl (Nat.le_of_ble_eq_true rfl) dL_law_187 (fun r35 g36 => ?_)
  refine M_sipush C (v := (-1001)) (by decide) dL_law_190 ?_
  refine M_icmp_ne C (tgt := 222) (by decide) dL_law_193 M_none ?_
  refine M_aload_n C 1 rfl rfl dL_law_196 ?_
  refine M_bW C hA hU (v := 1) (wr := []) (As := [.ref (ad 291)]) (rest := []) (fun ry fy hy => wl_program l C.2.2.2.2.2.2 Z ad had g36  ry fy hy) jy_L_program jm_L_156 mSS_nil (by omega) (by omega) rfl rfl (Nat.le_of_ble_eq_true rfl) dL_law_197 (fun r37 g38 => ?_)
  refine M_sipush C (v := (-1001)) (by decide) dL_law_200 ?_
  refine M_icmp_ne C (tgt := 222) (by decide) dL_law_203 M_none ?_
  refine M_aload_n C 1 rfl rfl dL_law_206 ?_
  refine M_bV C hA hU (v := 0) (wr := []) (As := []) (rest := []) (fun ry fy hy => mMet_k had (km_X11_faultPosition l Z.1 ad g38 ry fy hy)) jyv_faultPosition jm_L_306 mSS_nil rfl (by omega) (by omega) rfl rfl (Nat.le_of_ble_eq_true rfl) dL_law_207 (fun r39 g40 => ?_)
  refine M_if_ne C (tgt := 222) (by decide) dL_law_210 M_none ?_
  refine M_aload_n C 1 rfl rfl dL_law_213 ?_
  refine M_bipush C (v := 14) (by decide) dL_law_214 ?_
  refine M_bW C hA hU (v := 1) (wr := []) (As := [.ref (ad 291), .int 14]) (rest := []) (fun ry fy hy => wl_account l C.2.2.2.2.2.2 Z ad had g40 14 ry fy hy) jy_L_account jm_L_213 mSS_nil (by omega) (by omega) rfl rfl (Nat.le_of_ble_eq_true rfl) dL_law_216 (fun r41 g42 => ?_)
  refine M_if_eq C (tgt := 224) (by decide) dL_law_219 ?_ M_none
  refine M_sub [0, 1] (lv1 := [(0, .ref (msb Z)), (1, .ref (ad 291))]) rfl ?_
  exact mlj_law_224 C hA hU hAO hL had hd g42 _ (by omega)
set_option maxRecDepth 20000 in
set_option maxHeartbeats 4000000 in
theorem mlj_law_152 {z : Int32 × kMem} (C : MC p l e room_1 s m #[Value.ref b] below meth c Z (AL s) [] RL cL_law 11 ret 1475 600312 7291330) (hA : ∀ q, s.heap.size ≤ q → AL s q) (hU : 2 * U ≤ 600312 ∧ 12 * U ≤ 7291330) (hAO : va_AO "MouldFloor$Floor" s) (hL : msL Z < 2 ^ 31) (had : mAd Z ad) (hd : 11 ≤ 1475 ∧ 11 ≤ 11) (f : kMem) (u : Nat) (hu : u + 27248 ≤ U) : M p l e room_1 s m #[Value.ref b] below meth c Z (AL s) 11 (lw_Z below #[Value.ref b] s) z (2 * u) (12 * u) (kw (wC Z.1 ad) f ++ []) 152 [(0, .ref (msb Z)), (1, .ref (ad 291))] [] (lj_law_152 (lf_o Z) f) := by
  unfold lj_law_152
  refine M_iconst C (v := 0) (by decide) dL_law_152 ?_
  refine M_istore_n C rfl (Nat.lt_of_lt_of_le (by decide) hd.2) (lv1 := [(2, .int 0), (0, .ref (msb Z)), (1, .ref (ad 291))]) rfl dL_law_153 ?_
  refine M_sub [1, 2, 0] (lv1 := [(0, .ref (msb Z)), (1, .ref (ad 291)), (2, .int 0)]) rfl ?_
  refine mll_law_154 C hA hU had hd (e9 := 27167) (fun g31 x2_34 u32 hu33 => ?_) 81 f 0 _ (by omega)
  refine M_sub [0, 1] (lv1 := [(0, .ref (msb Z)), (1, .ref (ad 291))]) rfl ?_
  exact mlj_law_184 C hA hU hAO hL had hd g31 _ (by omega)
set_option maxRecDepth 20000 in
set_option maxHeartbeats 4000000 in
theorem mlj_law_109 {z : Int32 × kMem} (C : MC p l e room_1 s m #[Value.ref b] below meth c Z (AL s) [] RL cL_law 11 ret 1475 600312 7291330) (hA : ∀ q, s.heap.size ≤ q → AL s q) (hU : 2 * U ≤ 600312 ∧ 12 * U ≤ 7291330) (hAO : va_AO "MouldFloor$Floor" s) (hL : msL Z < 2 ^ 31) (had : mAd Z ad) (hd : 11 ≤ 1475 ∧ 11 ≤ 11) (f : kMem) (u : Nat) (hu : u + 27252 ≤ U) : M p l e room_1 s m #[Value.ref b] below meth c Z (AL s) 11 (lw_Z below #[Value.ref b] s) z (2 * u) (12 * u) (kw (wC Z.1 ad) f ++ []) 109 [(0, .ref (msb Z)), (1, .ref (ad 291))] [] (lj_law_109 (lf_o Z) f) := by
  unfold lj_law_109
  refine M_aload_n C 1 rfl rfl dL_law_109 ?_
  refine M_bipush C (v := 18) (by decide) dL_law_110 ?_
  refine M_bW C hA hU (v := 1) (wr := []) (As := [.ref (ad 291), .int 18]) (rest := []) (fun ry fy hy => wl_account l C.2.2.2.2.2.2 Z ad had f 18 ry fy hy) jy_L_account jm_L_213 mSS_nil (by omega) (by omega) rfl rfl (Nat.le_of_ble_eq_true rfl) dL_law_112 (fun r21 g22 => ?_)
  refine M_bipush C (v := 10) (by decide) dL_law_115 ?_
  refine M_icmp_ne C (tgt := 150) (by decide) dL_law_117 M_none ?_
  refine M_aload_n C 1 rfl rfl dL_law_120 ?_
  refine M_iconst C (v := 0) (by decide) dL_law_121 ?_
  refine M_iconst C (v := 0) (by decide) dL_law_122 ?_
  refine M_bW C hA hU (v := 1) (wr := []) (As := [.ref (ad 291), .int 0, .int 0]) (rest := []) (fun ry fy hy => wl_dryer l C.2.2.2.2.2.2 Z ad had g22 0 0 ry fy hy) jy_L_dryer jm_L_217 mSS_nil (by omega) (by omega) rfl rfl (Nat.le_of_ble_eq_true rfl) dL_law_123 (fun r23 g24 => ?_)
  refine M_iconst C (v := (-1)) (by decide) dL_law_126 ?_
  refine M_icmp_ne C (tgt := 150) (by decide) dL_law_127 M_none ?_
  refine M_aload_n C 1 rfl rfl dL_law_130 ?_
  refine M_iconst C (v := 0) (by decide) dL_law_131 ?_
  refine M_bW C hA hU (v := 1) (wr := []) (As := [.ref (ad 291), .int 0]) (rest := []) (fun ry fy hy => wl_best l C.2.2.2.2.2.2 Z ad had g24 0 ry fy hy) jy_L_best jm_L_241 mSS_nil (by omega) (by omega) rfl rfl (Nat.le_of_ble_eq_true rfl) dL_law_132 (fun r25 g26 => ?_)
  refine M_if_ne C (tgt := 150) (by decide) dL_law_135 M_none ?_
  refine M_aload_n C 1 rfl rfl dL_law_138 ?_
  refine M_iconst C (v := 0) (by decide) dL_law_139 ?_
  refine M_iconst C (v := 0) (by decide) dL_law_140 ?_
  refine M_bW C hA hU (v := 1) (wr := []) (As := [.ref (ad 291), .int 0, .int 0]) (rest := []) (fun ry fy hy => wl_bestColour l C.2.2.2.2.2.2 Z ad had g26 0 0 ry fy hy) jy_L_bestColour jm_L_304 mSS_nil (by omega) (by omega) rfl rfl (Nat.le_of_ble_eq_true rfl) dL_law_141 (fun r27 g28 => ?_)
  refine M_sipush C (v := (-1002)) (by decide) dL_law_144 ?_
  refine M_icmp_eq C (tgt := 152) (by decide) dL_law_147 ?_ M_none
  refine M_sub [0, 1] (lv1 := [(0, .ref (msb Z)), (1, .ref (ad 291))]) rfl ?_
  exact mlj_law_152 C hA hU hAO hL had hd g28 _ (by omega)
set_option maxRecDepth 20000 in
set_option maxHeartbeats 4000000 in
theorem mlj_law_56 {z : Int32 × kMem} (C : MC p l e room_1 s m #[Value.ref b] below meth c Z (AL s) [] RL cL_law 11 ret 1475 600312 7291330) (hA : ∀ q, s.heap.size ≤ q → AL s q) (hU : 2 * U ≤ 600312 ∧ 12 * U ≤ 7291330) (hAO : va_AO "MouldFloor$Floor" s) (hL : msL Z < 2 ^ 31) (had : mAd Z ad) (hd : 11 ≤ 1475 ∧ 11 ≤ 11) (f : kMem) (u : Nat) (hu : u + 27257 ≤ U) : M p l e room_1 s m #[Value.ref b] below meth c Z (AL s) 11 (lw_Z below #[Value.ref b] s) z (2 * u) (12 * u) (kw (wC Z.1 ad) f ++ []) 56 [(0, .ref (msb Z)), (1, .ref (ad 291))] [] (lj_law_56 (lf_o Z) f) := by
  unfold lj_law_56
  refine M_aload_n C 1 rfl rfl dL_law_56 ?_
  refine M_bipush C (v := 7) (by decide) dL_law_57 ?_
  refine M_bW C hA hU (v := 1) (wr := []) (As := [.ref (ad 291), .int 7]) (rest := []) (fun ry fy hy => wl_account l C.2.2.2.2.2.2 Z ad had f 7 ry fy hy) jy_L_account jm_L_213 mSS_nil (by omega) (by omega) rfl rfl (Nat.le_of_ble_eq_true rfl) dL_law_59 (fun r11 g12 => ?_)
  refine M_iconst C (v := (-1)) (by decide) dL_law_62 ?_
  refine M_icmp_ne C (tgt := 150) (by decide) dL_law_63 M_none ?_
  refine M_aload_n C 1 rfl rfl dL_law_66 ?_
  refine M_bipush C (v := 8) (by decide) dL_law_67 ?_
  refine M_bW C hA hU (v := 1) (wr := []) (As := [.ref (ad 291), .int 8]) (rest := []) (fun ry fy hy => wl_account l C.2.2.2.2.2.2 Z ad had g12 8 ry fy hy) jy_L_account jm_L_213 mSS_nil (by omega) (by omega) rfl rfl (Nat.le_of_ble_eq_true rfl) dL_law_69 (fun r13 g14 => ?_)
  refine M_iconst C (v := (-1)) (by decide) dL_law_72 ?_
  refine M_icmp_ne C (tgt := 150) (by decide) dL_law_73 M_none ?_
  refine M_aload_n C 1 rfl rfl dL_law_76 ?_
  refine M_bipush C (v := 15) (by decide) dL_law_77 ?_
  refine M_bW C hA hU (v := 1) (wr := []) (As := [.ref (ad 291), .int 15]) (rest := []) (fun ry fy hy => wl_account l C.2.2.2.2.2.2 Z ad had g14 15 ry fy hy) jy_L_account jm_L_213 mSS_nil (by omega) (by omega) rfl rfl (Nat.le_of_ble_eq_true rfl) dL_law_79 (fun r15 g16 => ?_)
  refine M_sipush C (v := 480) (by decide) dL_law_82 ?_
  refine M_icmp_ne C (tgt := 150) (by decide) dL_law_85 M_none ?_
  refine M_aload_n C 1 rfl rfl dL_law_88 ?_
  refine M_bipush C (v := 16) (by decide) dL_law_89 ?_
  refine M_bW C hA hU (v := 1) (wr := []) (As := [.ref (ad 291), .int 16]) (rest := []) (fun ry fy hy => wl_account l C.2.2.2.2.2.2 Z ad had g16 16 ry fy hy) jy_L_account jm_L_213 mSS_nil (by omega) (by omega) rfl rfl (Nat.le_of_ble_eq_true rfl) dL_law_91 (fun r17 g18 => ?_)
  refine M_bipush C (v := 60) (by decide) dL_law_94 ?_
  refine M_icmp_ne C (tgt := 150) (by decide) dL_law_96 M_none ?_
  refine M_aload_n C 1 rfl rfl dL_law_99 ?_
  refine M_bipush C (v := 17) (by decide) dL_law_100 ?_
  refine M_bW C hA hU (v := 1) (wr := []) (As := [.ref (ad 291), .int 17]) (rest := []) (fun ry fy hy => wl_account l C.2.2.2.2.2.2 Z ad had g18 17 ry fy hy) jy_L_account jm_L_213 mSS_nil (by omega) (by omega) rfl rfl (Nat.le_of_ble_eq_true rfl) dL_law_102 (fun r19 g20 => ?_)
  refine M_iconst C (v := 2) (by decide) dL_law_105 ?_
  refine M_icmp_ne C (tgt := 150) (by decide) dL_law_106 M_none ?_
  refine M_sub [0, 1] (lv1 := [(0, .ref (msb Z)), (1, .ref (ad 291))]) rfl ?_
  exact mlj_law_109 C hA hU hAO hL had hd g20 _ (by omega)
set_option maxRecDepth 20000 in
set_option maxHeartbeats 4000000 in
theorem mlj_law_8 {z : Int32 × kMem} (C : MC p l e room_1 s m #[Value.ref b] below meth c Z (AL s) [] RL cL_law 11 ret 1475 600312 7291330) (hA : ∀ q, s.heap.size ≤ q → AL s q) (hU : 2 * U ≤ 600312 ∧ 12 * U ≤ 7291330) (hAO : va_AO "MouldFloor$Floor" s) (hL : msL Z < 2 ^ 31) (had : mAd Z ad) (hd : 11 ≤ 1475 ∧ 11 ≤ 11) (f : kMem) (u : Nat) (hu : u + 27261 ≤ U) : M p l e room_1 s m #[Value.ref b] below meth c Z (AL s) 11 (lw_Z below #[Value.ref b] s) z (2 * u) (12 * u) (kw (wC Z.1 ad) f ++ []) 8 [(0, .ref (msb Z)), (1, .ref (ad 291))] [] (lj_law_8 (lf_o Z) f) := by
  unfold lj_law_8
  refine M_aload_n C 1 rfl rfl dL_law_8 ?_
  refine M_bW C hA hU (v := 1) (wr := []) (As := [.ref (ad 291)]) (rest := []) (fun ry fy hy => wl_undo l C.2.2.2.2.2.2 Z ad had f  ry fy hy) jy_L_undo jm_L_297 mSS_nil (by omega) (by omega) rfl rfl (Nat.le_of_ble_eq_true rfl) dL_law_9 (fun r1 g2 => ?_)
  refine M_sipush C (v := (-1001)) (by decide) dL_law_12 ?_
  refine M_icmp_ne C (tgt := 150) (by decide) dL_law_15 M_none ?_
  refine M_aload_n C 1 rfl rfl dL_law_18 ?_
  refine M_bW C hA hU (v := 1) (wr := []) (As := [.ref (ad 291)]) (rest := []) (fun ry fy hy => wl_restore l C.2.2.2.2.2.2 Z ad had g2  ry fy hy) jy_L_restore jm_L_299 mSS_nil (by omega) (by omega) rfl rfl (Nat.le_of_ble_eq_true rfl) dL_law_19 (fun r3 g4 => ?_)
  refine M_sipush C (v := (-1001)) (by decide) dL_law_22 ?_
  refine M_icmp_ne C (tgt := 150) (by decide) dL_law_25 M_none ?_
  refine M_aload_n C 1 rfl rfl dL_law_28 ?_
  refine M_bV C hA hU (v := 0) (wr := []) (As := []) (rest := []) (fun ry fy hy => mMet_k had (km_X11_save l Z.1 ad g4 ry fy hy)) jyv_save jm_L_301 mSS_nil rfl (by omega) (by omega) rfl rfl (Nat.le_of_ble_eq_true rfl) dL_law_29 (fun r5 g6 => ?_)
  refine M_if_ne C (tgt := 150) (by decide) dL_law_32 M_none ?_
  refine M_aload_n C 1 rfl rfl dL_law_35 ?_
  refine M_bWf C hA hU (v := 1) (wr := []) (As := [.ref (ad 291)]) (rest := []) (fun ry fy hy => wl_scrap l C.2.2.2.2.2.2 Z ad had g6  ry fy hy) jy_L_scrap jm_L_202 mSS_nil (by omega) (by omega) rfl rfl (Nat.le_of_ble_eq_true rfl) dL_law_36 (fun r7 g8 => ?_)
  refine M_ldcf C wc_RL_120 dL_law_39 ?_
  refine M_fcmpK C (by decide +kernel) dL_law_41 ?_
  refine M_if_neF C (tgt := 150) (by decide) (by decide) dL_law_42 ?_
  refine M_aload_n C 1 rfl rfl dL_law_45 ?_
  refine M_bWd C hA hU (v := 1) (wr := []) (As := [.ref (ad 291)]) (rest := []) (fun ry fy hy => wl_lateness l C.2.2.2.2.2.2 Z ad had g8  ry fy hy) jy_L_lateness jm_L_193 mSS_nil (by omega) (by omega) rfl rfl (Nat.le_of_ble_eq_true rfl) dL_law_46 (fun r9 g10 => ?_)
  refine M_ldc2d C wc_RL_125 dL_law_49 ?_
  refine M_dcmpK C (by decide +kernel) dL_law_52 ?_
  refine M_if_neF C (tgt := 150) (by decide) (by decide) dL_law_53 ?_
  refine M_sub [0, 1] (lv1 := [(0, .ref (msb Z)), (1, .ref (ad 291))]) rfl ?_
  exact mlj_law_56 C hA hU hAO hL had hd g10 _ (by omega)
def lf_law (Z : mZ) : Option (Int32 × kMem) := lj_law_8 (lf_o Z) f0
set_option maxRecDepth 20000 in
set_option maxHeartbeats 4000000 in
theorem ml_law {z : Int32 × kMem} (C : MC p l e room_1 s m #[Value.ref b] below meth c Z (AL s) [] RL cL_law 11 ret 1475 600312 7291330) (hAO : va_AO "MouldFloor$Floor" s) (hL : msL Z < 2 ^ 31) : M p l e room_1 s m #[Value.ref b] below meth c Z (AL s) 11 (lw_Z below #[Value.ref b] s) z 0 0 [] 0 [(0, .ref (msb Z))] [] (lf_law Z) := by
  have hA : ∀ q, s.heap.size ≤ q → AL s q := fun q h => h
  have hU : 2 * 100000 ≤ 600312 ∧ 12 * 100000 ≤ 7291330 := by decide
  have hd : 11 ≤ 1475 ∧ 11 ≤ 11 := by decide
  unfold lf_law
  refine M_mk C hA hAO (by decide) ⟨by omega, by omega⟩ (by decide) dL_law_0 dL_law_3 dL_law_4 (fun ad had => ?_)
  have hu : 400 + 27261 ≤ 100000 := by decide
  refine M_widen (k1 := 2 * 400) (n1 := 12 * 400) (by omega) (by omega) ?_
  refine M_astore_n C rfl (Nat.lt_of_lt_of_le (by decide) hd.2) (lv1 := [(1, .ref (ad 291)), (0, .ref (msb Z))]) rfl dL_law_7 ?_
  refine M_sub [1, 0] (lv1 := [(0, .ref (msb Z)), (1, .ref (ad 291))]) rfl ?_
  exact mlj_law_8 C hA hU hAO hL had hd f0 _ (by omega)
end MAIN
