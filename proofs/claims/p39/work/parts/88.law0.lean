/-! the law: feeds, told, does, is -/
theorem jy_J0_charAt_5068e : kYV yJ0_charAt_5068e cJ0_charAt_5068e 2 (some .char) 1 := ⟨⟨kgt (List.mem_of_getElem? (i := 1367) (by decide +kernel)) rfl, kgt (List.mem_of_getElem? (i := 40) (by decide +kernel)) rfl, by decide +kernel, by decide⟩, kgt (List.mem_of_getElem? (i := 1365) (by decide +kernel)) rfl, kgt (List.mem_of_getElem? (i := 1366) (by decide +kernel)) rfl⟩
theorem jm_L_136 : Cond.methodLink RL 136 yJ0_length_8abf5 ∈ kGT := kgt (List.mem_of_getElem? (i := 1363) (by decide +kernel)) rfl
theorem jm_L_141 : Cond.methodLink RL 141 yJ0_charAt_5068e ∈ kGT := kgt (List.mem_of_getElem? (i := 1364) (by decide +kernel)) rfl
theorem jm_L_144 : Cond.methodLink RL 144 yL_append ∈ kGT := kgt (List.mem_of_getElem? (i := 441) (by decide +kernel)) rfl
theorem jm_L_149 : Cond.methodLink RL 149 yL_feeds ∈ kGT := kgt (List.mem_of_getElem? (i := 1360) (by decide +kernel)) rfl
theorem jm_L_153 : Cond.methodLink RL 153 yL_family ∈ kGT := kgt (List.mem_of_getElem? (i := 1379) (by decide +kernel)) rfl
theorem jm_L_156 : Cond.methodLink RL 156 yL_program ∈ kGT := kgt (List.mem_of_getElem? (i := 592) (by decide +kernel)) rfl
theorem jy_L_append : kYW yL_append cL_append 3 (some .int) [(0, 5, 6, 13)] 2 := ⟨kgt (List.mem_of_getElem? (i := 443) (by decide +kernel)) rfl, kgt (List.mem_of_getElem? (i := 20) (by decide +kernel)) rfl, kgt (List.mem_of_getElem? (i := 442) (by decide +kernel)) rfl, by decide +kernel, by decide⟩
theorem jy_L_family : kYW yL_family cL_family 2 (some .int) [(0, 4, 5, 28), (0, 4, 10, 19)] 1 := ⟨kgt (List.mem_of_getElem? (i := 1381) (by decide +kernel)) rfl, kgt (List.mem_of_getElem? (i := 20) (by decide +kernel)) rfl, kgt (List.mem_of_getElem? (i := 1380) (by decide +kernel)) rfl, by decide +kernel, by decide⟩
theorem jy_L_program : kYW yL_program cL_program 2 (some .int) [(0, 4, 5, 28), (0, 4, 10, 19)] 1 := ⟨kgt (List.mem_of_getElem? (i := 594) (by decide +kernel)) rfl, kgt (List.mem_of_getElem? (i := 20) (by decide +kernel)) rfl, kgt (List.mem_of_getElem? (i := 593) (by decide +kernel)) rfl, by decide +kernel, by decide⟩
theorem jy_L_feeds : kYS yL_feeds cL_feeds 3 (some .boolean) 2 := ⟨⟨kgt (List.mem_of_getElem? (i := 1362) (by decide +kernel)) rfl, kgt (List.mem_of_getElem? (i := 20) (by decide +kernel)) rfl, by decide +kernel, by decide⟩, kgt (List.mem_of_getElem? (i := 1361) (by decide +kernel)) rfl⟩
theorem jy_L_reason : kYW yL_reason cL_reason 4 (some .int) [(0, 6, 7, 28), (0, 6, 12, 77)] 3 := ⟨kgt (List.mem_of_getElem? (i := 1090) (by decide +kernel)) rfl, kgt (List.mem_of_getElem? (i := 20) (by decide +kernel)) rfl, kgt (List.mem_of_getElem? (i := 1089) (by decide +kernel)) rfl, by decide +kernel, by decide⟩
theorem jm_L_158 : Cond.methodLink RL 158 yL_reason ∈ kGT := kgt (List.mem_of_getElem? (i := 1088) (by decide +kernel)) rfl
def lf_append (f : kMem) (x1 : Int32) : Option (Int32 × kMem) := wvx [1] (cx_X11_append f x1)
def lf_colour (f : kMem) (x1 : Int32) : Option (Int32 × kMem) := wvx [4] (cx_X11_colour f x1)
def lf_part (f : kMem) (x1 : Int32) : Option (Int32 × kMem) := wvx [4] (cx_X11_part f x1)
def lf_family (f : kMem) : Option (Int32 × kMem) := wvx [2, 4] (cx_X11_family f)
def lf_program (f : kMem) : Option (Int32 × kMem) := wvx [2, 4] (cx_X11_program f)
def lf_mount (f : kMem) (x1 : Int32) : Option (Int32 × kMem) := wvx [4] (cx_X11_mount f x1)
def lf_load (f : kMem) (x1 x2 x3 : Int32) : Option (Int32 × kMem) := wvx [4] (cx_X11_load f x1 x2 x3)
def lf_empty (f : kMem) (x1 : Int32) : Option (Int32 × kMem) := wvx [4] (cx_X11_empty f x1)
def lf_pause (f : kMem) (x1 : Int32) : Option (Int32 × kMem) := wvx [4] (cx_X11_pause f x1)
def lf_run (f : kMem) (x1 x2 : Int32) : Option (Int32 × kMem) := wvx [4] (cx_X11_run f x1 x2)
def lf_order (f : kMem) (x1 x2 x3 x4 : Int32) : Option (Int32 × kMem) := wvx [4] (cx_X11_order f x1 x2 x3 x4)
def lf_callOff (f : kMem) (x1 : Int32) : Option (Int32 × kMem) := wvx [4] (cx_X11_callOff f x1)
def lf_set (f : kMem) (x1 x2 : Int32) : Option (Int32 × kMem) := wvx [4] (cx_X11_set f x1 x2)
def lf_purge (f : kMem) (x1 x2 : Int32) : Option (Int32 × kMem) := wvx [3] (cx_X11_purge f x1 x2)
def lf_minutes (f : kMem) (x1 x2 : Int32) : Option (Int32 × kMem) := wvx [3, 2, 1] (cx_X11_minutes f x1 x2)
def lf_best (f : kMem) (x1 : Int32) : Option (Int32 × kMem) := wvx [2] (cx_X11_best f x1)
def lf_bestColour (f : kMem) (x1 x2 : Int32) : Option (Int32 × kMem) := wvx [2, 5] (cx_X11_bestColour f x1 x2)
def lf_familyOf (f : kMem) (x1 x2 : Int32) : Option (Int32 × kMem) := wvx [3, 2] (cx_X11_familyOf f x1 x2)
def lf_pieces (f : kMem) (x1 x2 : Int32) : Option (Int32 × kMem) := wvx [3] (cx_X11_pieces f x1 x2)
def lf_families (f : kMem) (x1 : Int32) : Option (Int32 × kMem) := wvx [3] (cx_X11_families f x1)
def lf_dryer (f : kMem) (x1 x2 : Int32) : Option (Int32 × kMem) := wvx [3, 2] (cx_X11_dryer f x1 x2)
def lf_stock (f : kMem) (x1 x2 x3 : Int32) : Option (Int32 × kMem) := wvx [3, 2] (cx_X11_stock f x1 x2 x3)
def lf_made (f : kMem) (x1 x2 : Int32) : Option (Int32 × kMem) := wvx [3, 2] (cx_X11_made f x1 x2)
def lf_orderOf (f : kMem) (x1 x2 : Int32) : Option (Int32 × kMem) := wvx [3, 2] (cx_X11_orderOf f x1 x2)
def lf_shots (f : kMem) (x1 : Int32) : Option (Int32 × kMem) := wvx [3, 5] (cx_X11_shots f x1)
def lf_letter (f : kMem) (x1 : Int32) : Option (Int32 × kMem) := wvx [3] (cx_X11_letter f x1)
def lf_due (f : kMem) (x1 : Int32) : Option (Int32 × kMem) := wvx [2] (cx_X11_due f x1)
def lf_reason (f : kMem) (x1 x2 : Int32) : Option (Int32 × kMem) := wvx [2, 5] (cx_X11_reason f x1 x2)
def lf_scrap (f : kMem) : Option (UInt32 × kMem) := wvf (cx_X11_scrap f)
def lf_lateness (f : kMem) : Option (UInt64 × kMem) := wvd (cx_X11_lateness f)
def lf_account (f : kMem) (x1 : Int32) : Option (Int32 × kMem) := wvx [2] (cx_X11_account f x1)
def lf_undo (f : kMem) : Option (Int32 × kMem) := wvx [1] (cx_X11_undo f)
def lf_restore (f : kMem) : Option (Int32 × kMem) := wvx [1] (cx_X11_restore f)
theorem incv (x : Int32) : x + Int32.ofInt 1 = x + 1 := congrArg (x + ·) (by decide)
theorem mLit_ok (tx : String) (h : tx ∈ mLits.map Prod.snd) : (mTx tx).length ≤ 16 ∧ ∀ x, x ∈ mTx tx → ∃ c, c < 128 ∧ x = nI c := by
  have h1 : ∀ tx ∈ mLits.map Prod.snd, (mTx tx).length ≤ 16 ∧ ∀ x, x ∈ mTx tx → x ∈ (List.range 128).map nI := by decide +kernel
  obtain ⟨a, b⟩ := h1 tx h
  refine ⟨a, fun x hx => ?_⟩
  obtain ⟨c, hc, rfl⟩ := List.mem_map.mp (b x hx)
  exact ⟨c, List.mem_range.mp hc, rfl⟩
def lf_fd : List Int32 → Nat → kMem → Option (Int32 × kMem)
  | [], _, f => some (1, f)
  | c :: t, n, f => kbind (lf_append f c) (fun r g => keq r (nI n + 1) (lf_fd t (n + 1) g) none)
def lf_feeds (t : List Int32) (f : kMem) : Option (Int32 × kMem) := lf_fd t 0 f
section FD
variable {p : Program} {l : Launch} {e : Env} {R : Room} {s : State} {m : MethodId} {args : Array Value} {below : List Frame} {meth : Method} {c : Code} {Z : mZ} {A : Nat → Prop} {ss : List (Nat × Nat × List Int32)} {nL : Nat} {ret : Option FieldType} {d mc ms : Nat} {ρ : Type} {QF : State → Prop} {z : ρ} {U : Nat} {ad : Nat → Nat}
theorem M_pV {cc : ByteArray} (C : MC p l e R s m args below meth c Z A ss RL cc nL ret d mc ms) (hA : ∀ q, s.heap.size ≤ q → A q) (hU : 2 * U ≤ mc ∧ 12 * U ≤ ms) {wr : va_W} {u pc : Nat} {lv : List (Nat × Value)} {st rest : List Value} {y : MethodName} {b1 : ByteArray} {nL1 b : Nat} {ret1 : Option FieldType} {d1 idx n : Nat} {As : List Value} {ss1 : List (Nat × Nat × List Int32)} {va : Value} {X : Option ρ} (hM : mMet l Z y (.code y b1 nL1 ret1) d1 0 0 (.ref b :: As) [] ss1 (fun r wo => r = some va ∧ wo = [])) (hY : kYV y b1 nL1 ret1 n) (hlink : Cond.methodLink RL idx y ∈ kGT) (hrv : mRecv s Z A wr b y.cls) (hss : mSS s Z A wr [] ss1) (hd1 : d1 < d) (hu : u ≤ U) (hn : As.length = n) (hst : st = As.reverse ++ .ref b :: rest) (hrest : (rest.map fun v => v.category).sum ≤ 8) (hdg : decode cc pc = .ok (.invokevirtual idx, 3))
    (kk : M p l e R s m args below meth c Z A nL QF z (2 * u) (12 * u) wr (pc + 3) lv (va :: rest) X) : M p l e R s m args below meth c Z A nL QF z (2 * u) (12 * u) wr pc lv st X := by
  refine M_callV C hA (wi1 := []) (wr := wr) hM hY hlink hrv hss (List.Perm.refl _) hd1 ⟨by omega, by omega⟩ hn hst hrest hdg (fun v' wo hq => ?_)
  obtain ⟨rfl, rfl⟩ := hq
  exact kk
set_option maxRecDepth 20000 in
set_option maxHeartbeats 4000000 in
theorem mll_feeds (C : MC p l e R s m args below meth c Z A ss RL cL_feeds nL ret d mc ms) (hA : ∀ q, s.heap.size ≤ q → A q) (hU : 2 * U ≤ mc ∧ 12 * U ≤ ms) (had : mAd Z ad) (hd : 8 ≤ d ∧ 3 ≤ nL) {q v : Nat} {t0 : List Int32} (hss : ss = [(q, v, t0)]) (ht : t0.length ≤ 16 ∧ ∀ x, x ∈ t0 → ∃ c, c < 128 ∧ x = nI c) {QF : State → Prop} {z : Int32 × kMem} (hend : ∀ f u, u ≤ U → M p l e R s m args below meth c Z A nL QF z (2 * u) (12 * u) (kw (wC Z.1 ad) f ++ []) 33 [(2, .int (nI t0.length)), (0, .ref (ad 291)), (1, .ref q)] [] (some (1, f))) : ∀ (t pre : List Int32) (f : kMem) (u : Nat), t0 = pre ++ t → u + t.length ≤ U → M p l e R s m args below meth c Z A nL QF z (2 * u) (12 * u) (kw (wC Z.1 ad) f ++ []) 2 [(2, .int (nI pre.length)), (0, .ref (ad 291)), (1, .ref q)] [] (lf_fd t pre.length f) := by
  intro t
  subst hss
  have hst : kStr q v t0 A s s.heap := C.2.2.1 _ List.mem_cons_self
  have hS1 : mSS s Z A = mSS s Z A := rfl
  induction t with
  | nil =>
    intro pre f u h0 hu
    rw [List.append_nil] at h0
    subst h0
    refine M_iload_n C 0 rfl rfl dL_feeds_2 ?_
    refine M_aload_n C 2 rfl rfl dL_feeds_3 ?_
    refine M_pV C hA hU (As := []) (rest := [.int (nI t0.length)]) (kj_length l C.2.2.2.2.2.2 Z q v t0) jy_J0_length_8abf5 jm_L_136 (mRecv_str hst) (mSS_old (fun x hx => C.2.2.1 x hx)) (by omega) (by omega) rfl rfl (Nat.le_of_ble_eq_true rfl) dL_feeds_4 ?_
    refine M_icmp_geT C (tgt := 33) (Int32.le_refl _) (by decide) dL_feeds_7 ?_
    exact hend f u (by simpa using hu)
  | cons c9 t ih =>
    intro pre f u h0 hu
    rw [List.length_cons] at hu
    have hlen : t0.length = pre.length + (t.length + 1) := by rw [h0, List.length_append, List.length_cons]
    have hi : pre.length < t0.length := by omega
    have hc9 : t0.getD pre.length 0 = c9 := by rw [h0, List.getD_eq_getElem?_getD, List.getElem?_append_right (Nat.le_refl _), Nat.sub_self]; rfl
    unfold lf_fd
    refine M_iload_n C 0 rfl rfl dL_feeds_2 ?_
    refine M_aload_n C 2 rfl rfl dL_feeds_3 ?_
    refine M_pV C hA hU (As := []) (rest := [.int (nI pre.length)]) (kj_length l C.2.2.2.2.2.2 Z q v t0) jy_J0_length_8abf5 jm_L_136 (mRecv_str hst) (mSS_old (fun x hx => C.2.2.1 x hx)) (by omega) (by omega) rfl rfl (Nat.le_of_ble_eq_true rfl) dL_feeds_4 ?_
    refine M_icmp_geF C (tgt := 33) (Int32.not_le.mpr ((nI_lt_iff (by omega) (by omega)).mpr hi)) (by decide) dL_feeds_7 ?_
    refine M_aload_n C 1 rfl rfl dL_feeds_10 ?_
    refine M_aload_n C 2 rfl rfl dL_feeds_11 ?_
    refine M_iload_n C 0 rfl rfl dL_feeds_12 ?_
    refine M_pV C hA hU (As := [.int (nI pre.length)]) (rest := [.ref (ad 291)]) (kj_charAt l C.2.2.2.2.2.2 Z q v t0 pre.length hi (by omega) (sbT_letters ht.2)) jy_J0_charAt_5068e jm_L_141 (mRecv_str hst) (mSS_old (fun x hx => C.2.2.1 x hx)) (by omega) (by omega) rfl rfl (Nat.le_of_ble_eq_true rfl) dL_feeds_13 ?_
    refine M_bW C hA hU (v := 1) (wr := []) (As := [.ref (ad 291), .int (t0.getD pre.length 0)]) (rest := []) (fun r9 f9 h9 => wl_append l C.2.2.2.2.2.2 Z ad had f (t0.getD pre.length 0) r9 f9 (by rw [hc9]; exact h9)) jy_L_append jm_L_144 mSS_nil (by omega) (by omega) rfl rfl (Nat.le_of_ble_eq_true rfl) dL_feeds_16 (fun r1 g2 => ?_)
    refine M_iload_n C 0 rfl rfl dL_feeds_19 ?_
    refine M_iconst C (v := 1) (by decide) dL_feeds_20 ?_
    refine M_iadd C dL_feeds_21 ?_
    refine M_icmp_eq C (tgt := 27) (by decide) dL_feeds_22 ?_ M_none
    refine M_iincC C (k := 0) rfl (v := nI (pre.length + 1)) ((incv _).trans (nI_1 _)) (by omega) (lv1 := [(2, .int (nI (pre.length + 1))), (0, .ref (ad 291)), (1, .ref q)]) rfl dL_feeds_27 ?_
    refine M_goto C (tgt := 2) (by decide) dL_feeds_30 ?_
    have h9 := ih (pre ++ [c9]) g2 (u + 1) (by rw [List.append_assoc]; exact h0) (by omega)
    rw [List.length_append, List.length_singleton] at h9
    exact h9
end FD
set_option maxRecDepth 20000 in
set_option maxHeartbeats 4000000 in
theorem ml_feeds (l : Launch) (hst : l.stackTraces = false) (Z : mZ) (ad : Nat → Nat) (had : mAd Z ad) (f : kMem) (q v : Nat) (t : List Int32) (ht : t.length ≤ 16 ∧ ∀ x, x ∈ t → ∃ c, c < 128 ∧ x = nI c) (r : Int32) (fo : kMem) (h : lf_feeds t f = some (r, fo)) : mMet l Z yL_feeds (.code yL_feeds cL_feeds 3 (some .boolean)) 8 (2 * 16) (12 * 16) [.ref (ad 291), .ref q] (kw (wC Z.1 ad) f) [(q, v, t)] (mQi (wC Z.1 ad) (r, fo)) := by
  refine mMet_of (z := (r, fo)) (X := lf_feeds t f) (own := RL) (lv := [(0, .ref (ad 291)), (1, .ref q)]) hst (by decide +kernel) rfl (Nat.le_of_ble_eq_true rfl) rfl h ?_
  intro p e R s m args below meth c C hini
  have hA : ∀ q, s.heap.size ≤ q → wA (kw (wC Z.1 ad) f) s.heap.size q := fun q h => Or.inr h
  unfold lf_feeds
  refine M_widen (k1 := 2 * 0) (n1 := 12 * 0) (by decide) (by decide) ?_
  refine M_nil ?_
  refine M_iconst C (v := 0) (by decide) dL_feeds_0 ?_
  refine M_istore_n C rfl (by decide) (lv1 := [(2, .int 0), (0, .ref (ad 291)), (1, .ref q)]) rfl dL_feeds_1 ?_
  refine mll_feeds (U := 16) C hA ⟨Nat.le_refl _, Nat.le_refl _⟩ had ⟨Nat.le_refl _, Nat.le_refl _⟩ rfl ht (fun f u hu => ?_) t [] f 0 rfl (by simpa using ht.1)
  refine M_iconst C (v := 1) (by decide) dL_feeds_33 ?_
  exact M_iret C (ty := .boolean) rfl rfl ⟨by omega, by omega⟩ dL_feeds_34 (fun h9 => by cases h9; exact ⟨rfl, List.append_nil _⟩)
def lf_told (t : List Int32) (f : kMem) : Option (Int32 × kMem) := kbind (lf_feeds t f) (fun r1 g2 => keq r1 0 none (kbind (lf_family g2) (fun r3 g4 => some (r3, g4))))
set_option maxRecDepth 20000 in
set_option maxHeartbeats 4000000 in
theorem ml_told (l : Launch) (hst : l.stackTraces = false) (Z : mZ) (ad : Nat → Nat) (had : mAd Z ad) (f : kMem) (q v : Nat) (t : List Int32) (ht : t.length ≤ 16 ∧ ∀ x, x ∈ t → ∃ c, c < 128 ∧ x = nI c) (r : Int32) (fo : kMem) (h : lf_told t f = some (r, fo)) : mMet l Z yL_told (.code yL_told cL_told 2 (some .int)) 9 (2 * 17) (12 * 17) [.ref (ad 291), .ref q] (kw (wC Z.1 ad) f) [(q, v, t)] (mQi (wC Z.1 ad) (r, fo)) := by
  refine mMet_of (z := (r, fo)) (X := lf_told t f) (own := RL) (lv := [(0, .ref (ad 291)), (1, .ref q)]) hst (by decide +kernel) rfl (Nat.le_of_ble_eq_true rfl) rfl h ?_
  intro p e R s m args below meth c C hini
  have hA : ∀ q, s.heap.size ≤ q → wA (kw (wC Z.1 ad) f) s.heap.size q := fun q h => Or.inr h
  have hU : 2 * 17 ≤ 2 * 17 ∧ 12 * 17 ≤ 12 * 17 := ⟨Nat.le_refl _, Nat.le_refl _⟩
  unfold lf_told
  refine M_widen (k1 := 2 * 0) (n1 := 12 * 0) (by decide) (by decide) ?_
  refine M_nil ?_
  refine M_aload_n C 0 rfl rfl dL_told_0 ?_
  refine M_aload_n C 1 rfl rfl dL_told_1 ?_
  refine M_bS C hA hU (v := 16) (wr := []) (As := [.ref (ad 291), .ref q]) (rest := []) (fun r9 f9 h9 => ml_feeds l C.2.2.2.2.2.2 Z ad had f q v t ht r9 f9 h9) jy_L_feeds jm_L_149 (mSS_old (fun x hx => C.2.2.1 x hx)) (by omega) (by omega) rfl rfl (Nat.le_of_ble_eq_true rfl) dL_told_2 (fun r1 g2 => ?_)
  refine M_if_eq C (tgt := 15) (by decide) dL_told_5 M_none ?_
  refine M_aload_n C 0 rfl rfl dL_told_8 ?_
  refine M_bW C hA hU (v := 1) (wr := []) (As := [.ref (ad 291)]) (rest := []) (fun r9 f9 h9 => wl_family l C.2.2.2.2.2.2 Z ad had g2 r9 f9 h9) jy_L_family jm_L_153 mSS_nil (by omega) (by omega) rfl rfl (Nat.le_of_ble_eq_true rfl) dL_told_9 (fun r3 g4 => ?_)
  refine M_goto C (tgt := 17) (by decide) dL_told_12 ?_
  exact M_iret C (ty := .int) rfl rfl ⟨by omega, by omega⟩ dL_told_17 (fun h9 => by cases h9; exact ⟨rfl, List.append_nil _⟩)
def lf_does (t : List Int32) (f : kMem) : Option (Int32 × kMem) := kbind (lf_feeds t f) (fun r1 g2 => keq r1 0 none (kbind (lf_program g2) (fun r3 g4 => some (r3, g4))))
set_option maxRecDepth 20000 in
set_option maxHeartbeats 4000000 in
theorem ml_does (l : Launch) (hst : l.stackTraces = false) (Z : mZ) (ad : Nat → Nat) (had : mAd Z ad) (f : kMem) (q v : Nat) (t : List Int32) (ht : t.length ≤ 16 ∧ ∀ x, x ∈ t → ∃ c, c < 128 ∧ x = nI c) (r : Int32) (fo : kMem) (h : lf_does t f = some (r, fo)) : mMet l Z yL_does (.code yL_does cL_does 2 (some .int)) 9 (2 * 17) (12 * 17) [.ref (ad 291), .ref q] (kw (wC Z.1 ad) f) [(q, v, t)] (mQi (wC Z.1 ad) (r, fo)) := by
  refine mMet_of (z := (r, fo)) (X := lf_does t f) (own := RL) (lv := [(0, .ref (ad 291)), (1, .ref q)]) hst (by decide +kernel) rfl (Nat.le_of_ble_eq_true rfl) rfl h ?_
  intro p e R s m args below meth c C hini
  have hA : ∀ q, s.heap.size ≤ q → wA (kw (wC Z.1 ad) f) s.heap.size q := fun q h => Or.inr h
  have hU : 2 * 17 ≤ 2 * 17 ∧ 12 * 17 ≤ 12 * 17 := ⟨Nat.le_refl _, Nat.le_refl _⟩
  unfold lf_does
  refine M_widen (k1 := 2 * 0) (n1 := 12 * 0) (by decide) (by decide) ?_
  refine M_nil ?_
  refine M_aload_n C 0 rfl rfl dL_does_0 ?_
  refine M_aload_n C 1 rfl rfl dL_does_1 ?_
  refine M_bS C hA hU (v := 16) (wr := []) (As := [.ref (ad 291), .ref q]) (rest := []) (fun r9 f9 h9 => ml_feeds l C.2.2.2.2.2.2 Z ad had f q v t ht r9 f9 h9) jy_L_feeds jm_L_149 (mSS_old (fun x hx => C.2.2.1 x hx)) (by omega) (by omega) rfl rfl (Nat.le_of_ble_eq_true rfl) dL_does_2 (fun r1 g2 => ?_)
  refine M_if_eq C (tgt := 15) (by decide) dL_does_5 M_none ?_
  refine M_aload_n C 0 rfl rfl dL_does_8 ?_
  refine M_bW C hA hU (v := 1) (wr := []) (As := [.ref (ad 291)]) (rest := []) (fun r9 f9 h9 => wl_program l C.2.2.2.2.2.2 Z ad had g2 r9 f9 h9) jy_L_program jm_L_156 mSS_nil (by omega) (by omega) rfl rfl (Nat.le_of_ble_eq_true rfl) dL_does_9 (fun r3 g4 => ?_)
  refine M_goto C (tgt := 17) (by decide) dL_does_12 ?_
  exact M_iret C (ty := .int) rfl rfl ⟨by omega, by omega⟩ dL_does_17 (fun h9 => by cases h9; exact ⟨rfl, List.append_nil _⟩)

def lf_is (f : kMem) (x1 x2 x3 : Int32) : Option (Int32 × kMem) := kbind (lf_reason f x1 0) (fun r1 g2 => keq r1 x2 (kbind (lf_reason g2 x1 1) (fun r3 g4 => keq r3 x3 (some (1, g4)) none)) none)
set_option maxRecDepth 20000 in
set_option maxHeartbeats 4000000 in
theorem ml_is (l : Launch) (hst : l.stackTraces = false) (Z : mZ) (ad : Nat → Nat) (had : mAd Z ad) (f : kMem) (x1 x2 x3 : Int32) (r : Int32) (fo : kMem) (h : lf_is f x1 x2 x3 = some (r, fo)) : mMet l Z yL_is (.code yL_is cL_is 4 (some .boolean)) 8 (2 * 2) (12 * 2) [.ref (ad 291), .int x1, .int x2, .int x3] (kw (wC Z.1 ad) f) [] (mQi (wC Z.1 ad) (r, fo)) := by
  refine mMet_of (z := (r, fo)) (X := lf_is f x1 x2 x3) (own := RL) (lv := [(0, .ref (ad 291)), (1, .int x1), (2, .int x2), (3, .int x3)]) hst (by decide +kernel) rfl (Nat.le_of_ble_eq_true rfl) rfl h ?_
  intro p e R s m args below meth c C hini
  have hA : ∀ q, s.heap.size ≤ q → wA (kw (wC Z.1 ad) f) s.heap.size q := fun q h => Or.inr h
  have hU : 2 * 2 ≤ 2 * 2 ∧ 12 * 2 ≤ 12 * 2 := ⟨Nat.le_refl _, Nat.le_refl _⟩
  have hd : 8 ≤ 8 ∧ 4 ≤ 4 := ⟨Nat.le_refl _, Nat.le_refl _⟩
  unfold lf_is
  refine M_widen (k1 := 2 * 0) (n1 := 12 * 0) (by decide) (by decide) ?_
  refine M_nil ?_
  refine M_aload_n C 0 rfl rfl dL_is_0 ?_
  refine M_iload_n C 1 rfl rfl dL_is_1 ?_
  refine M_iconst C (v := 0) (by decide) dL_is_2 ?_
  refine M_bW C hA hU (v := 1) (wr := []) (As := [.ref (ad 291), .int x1, .int 0]) (rest := []) (fun ry fy hy => wl_reason l C.2.2.2.2.2.2 Z ad had f x1 0 ry fy hy) jy_L_reason jm_L_158 mSS_nil (by omega) (by omega) rfl rfl (Nat.le_of_ble_eq_true rfl) dL_is_3 (fun r1 g2 => ?_)
  refine M_iload_n C 2 rfl rfl dL_is_6 ?_
  refine M_icmp_ne C (tgt := 24) (by decide) dL_is_7 M_none ?_
  refine M_aload_n C 0 rfl rfl dL_is_10 ?_
  refine M_iload_n C 1 rfl rfl dL_is_11 ?_
  refine M_iconst C (v := 1) (by decide) dL_is_12 ?_
  refine M_bW C hA hU (v := 1) (wr := []) (As := [.ref (ad 291), .int x1, .int 1]) (rest := []) (fun ry fy hy => wl_reason l C.2.2.2.2.2.2 Z ad had g2 x1 1 ry fy hy) jy_L_reason jm_L_158 mSS_nil (by omega) (by omega) rfl rfl (Nat.le_of_ble_eq_true rfl) dL_is_13 (fun r3 g4 => ?_)
  refine M_iload_n C 3 rfl rfl dL_is_16 ?_
  refine M_icmp_ne C (tgt := 24) (by decide) dL_is_17 M_none ?_
  refine M_iconst C (v := 1) (by decide) dL_is_20 ?_
  refine M_goto C (tgt := 25) (by decide) dL_is_21 ?_
  exact M_iret C (ty := .boolean) rfl rfl ⟨by omega, by omega⟩ dL_is_25 (fun h9 => by cases h9; exact ⟨rfl, List.append_nil _⟩)
