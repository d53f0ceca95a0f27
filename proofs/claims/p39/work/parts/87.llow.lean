/-! the low methods of the law; the texts that it builds -/
def mAt (Z : mZ) (k : Int32) : Int32 := if k < nI (msL Z) then msx Z k.toNatClampNeg else 0
def mSome (v n : Int32) : Int32 := if v - v / n * n < 0 then v - v / n * n + n else v - v / n * n
theorem vp_in_lt {k : Int32} {n : Nat} (hk : 0 ≤ k) (h : k < nI n) (hn : n < 2 ^ 31) : vp_in k n := by
  have h1 := Int32.le_iff_toInt_le.mp hk
  have h2 := Int32.lt_iff_toInt_lt.mp h
  have h3 : (nI n).toInt = n := nI_toInt hn
  rw [h3] at h2
  exact vp_in_iff.mpr ⟨h1, h2⟩
/-- two longs that must be alike -/
def mleq {ρ : Type} (x y : Int64) (X : Option ρ) : Option ρ := if x = y then X else none
theorem mleq_some {ρ : Type} {x y : Int64} {X : Option ρ} {z : ρ} (h : mleq x y X = some z) : x = y ∧ X = some z := by
  unfold mleq at h
  split at h
  · exact ⟨‹_›, h⟩
  · cases h
set_option maxRecDepth 20000 in
theorem ml_at (l : Launch) (hst : l.stackTraces = false) (Z : mZ) (k : Int32) (hk : 0 ≤ k) (hL : msL Z < 2 ^ 31) : mMet l Z yL_at (.code yL_at cL_at 2 (some .int)) 1 0 0 [.ref (msb Z), .int k] [] [] (fun r wo => r = some (.int (mAt Z k)) ∧ wo = []) := by
  refine mMet_of (z := ()) (X := some ()) (own := RL) (lv := [(0, .ref (msb Z)), (1, .int k)]) hst (by decide +kernel) rfl (Nat.le_of_ble_eq_true rfl) rfl rfl ?_
  intro p e R s m args below meth c C hini
  refine M_iload_n C 1 rfl rfl dL_at_0 ?_
  refine M_aload_n C 0 rfl rfl dL_at_1 ?_
  refine M_slen C dL_at_2 ?_
  by_cases h : k < nI (msL Z)
  · refine M_icmp_geF C (tgt := 12) (Int32.not_le.mpr h) (by decide) dL_at_3 ?_
    refine M_aload_n C 0 rfl rfl dL_at_6 ?_
    refine M_iload_n C 1 rfl rfl dL_at_7 ?_
    refine M_sld C (q := k.toNatClampNeg) (vp_in_lt hk h hL) rfl dL_at_8 ?_
    refine M_goto C (tgt := 13) (by decide) dL_at_9 ?_
    refine M_top (y := mAt Z k) (by unfold mAt; rw [if_pos h]) ?_
    exact M_iret C (ty := .int) rfl rfl ⟨by decide, by decide⟩ dL_at_13 (fun _ => ⟨rfl, rfl⟩)
  · refine M_icmp_geT C (tgt := 12) (Int32.not_lt.mp h) (by decide) dL_at_3 ?_
    refine M_iconst C (v := 0) (by decide) dL_at_12 ?_
    refine M_top (y := mAt Z k) (by unfold mAt; rw [if_neg h]) ?_
    exact M_iret C (ty := .int) rfl rfl ⟨by decide, by decide⟩ dL_at_13 (fun _ => ⟨rfl, rfl⟩)
set_option maxRecDepth 20000 in
theorem ml_some (l : Launch) (hst : l.stackTraces = false) (Z : mZ) (v n : Int32) (hn : ¬ n = 0) : mMet l Z yL_some (.code yL_some cL_some 3 (some .int)) 1 0 0 [.int v, .int n] [] [] (fun r wo => r = some (.int (mSome v n)) ∧ wo = []) := by
  refine mMet_of (z := ()) (X := some ()) (own := RL) (lv := [(0, .int v), (1, .int n)]) hst (by decide +kernel) rfl (Nat.le_of_ble_eq_true rfl) rfl rfl ?_
  intro p e R s m args below meth c C hini
  refine M_iload_n C 0 rfl rfl dL_some_0 ?_
  refine M_iload_n C 1 rfl rfl dL_some_1 ?_
  refine M_irem C hn dL_some_2 ?_
  refine M_istore_n C rfl (by decide) (lv1 := [(2, .int (v - v / n * n)), (0, .int v), (1, .int n)]) rfl dL_some_3 ?_
  refine M_iload_n C 0 rfl rfl dL_some_4 ?_
  by_cases h : v - v / n * n < 0
  · refine M_if_geF C (tgt := 14) (Int32.not_le.mpr h) (by decide) dL_some_5 ?_
    refine M_iload_n C 0 rfl rfl dL_some_8 ?_
    refine M_iload_n C 2 rfl rfl dL_some_9 ?_
    refine M_iadd C dL_some_10 ?_
    refine M_goto C (tgt := 15) (by decide) dL_some_11 ?_
    refine M_top (y := mSome v n) (by unfold mSome; rw [if_pos h]) ?_
    exact M_iret C (ty := .int) rfl rfl ⟨by decide, by decide⟩ dL_some_15 (fun _ => ⟨rfl, rfl⟩)
  · refine M_if_geT C (tgt := 14) (Int32.not_lt.mp h) (by decide) dL_some_5 ?_
    refine M_iload_n C 0 rfl rfl dL_some_14 ?_
    refine M_top (y := mSome v n) (by unfold mSome; rw [if_neg h]) ?_
    exact M_iret C (ty := .int) rfl rfl ⟨by decide, by decide⟩ dL_some_15 (fun _ => ⟨rfl, rfl⟩)
theorem jy_J4_append_cf468 : kYV yJ4_append_cf468 cJ4_append_cf468 2 (some (.object "java/lang/StringBuilder")) 1 := ⟨⟨kgt (List.mem_of_getElem? (i := 1219) (by decide +kernel)) rfl, kgt (List.mem_of_getElem? (i := 49) (by decide +kernel)) rfl, by decide +kernel, by decide⟩, kgt (List.mem_of_getElem? (i := 1217) (by decide +kernel)) rfl, kgt (List.mem_of_getElem? (i := 1218) (by decide +kernel)) rfl⟩
theorem jy_J4_append_15ec4 : kYV yJ4_append_15ec4 cJ4_append_15ec4 2 (some (.object "java/lang/StringBuilder")) 1 := ⟨⟨kgt (List.mem_of_getElem? (i := 1300) (by decide +kernel)) rfl, kgt (List.mem_of_getElem? (i := 49) (by decide +kernel)) rfl, by decide +kernel, by decide⟩, kgt (List.mem_of_getElem? (i := 1298) (by decide +kernel)) rfl, kgt (List.mem_of_getElem? (i := 1299) (by decide +kernel)) rfl⟩
theorem jy_J4_append_bf812 : kYV yJ4_append_bf812 cJ4_append_bf812 2 (some (.object "java/lang/StringBuilder")) 1 := ⟨⟨kgt (List.mem_of_getElem? (i := 1137) (by decide +kernel)) rfl, kgt (List.mem_of_getElem? (i := 49) (by decide +kernel)) rfl, by decide +kernel, by decide⟩, kgt (List.mem_of_getElem? (i := 1135) (by decide +kernel)) rfl, kgt (List.mem_of_getElem? (i := 1136) (by decide +kernel)) rfl⟩
theorem jy_J4_toString_0e30d : kYV yJ4_toString_0e30d cJ4_toString_0e30d 1 (some (.object "java/lang/String")) 0 := ⟨⟨kgt (List.mem_of_getElem? (i := 1260) (by decide +kernel)) rfl, kgt (List.mem_of_getElem? (i := 49) (by decide +kernel)) rfl, by decide +kernel, by decide⟩, kgt (List.mem_of_getElem? (i := 1258) (by decide +kernel)) rfl, kgt (List.mem_of_getElem? (i := 1259) (by decide +kernel)) rfl⟩
theorem jy_J4_init_da8c8 : kYI yJ4_init_da8c8 cJ4_init_da8c8 1 0 := ⟨⟨kgt (List.mem_of_getElem? (i := 1107) (by decide +kernel)) rfl, kgt (List.mem_of_getElem? (i := 49) (by decide +kernel)) rfl, by decide +kernel, by decide⟩, rfl, kgt (List.mem_of_getElem? (i := 1106) (by decide +kernel)) rfl⟩
theorem jm_L_179 : Cond.methodLink RL 179 yJ4_append_cf468 ∈ kGT := kgt (List.mem_of_getElem? (i := 1216) (by decide +kernel)) rfl
theorem jm_L_247 : Cond.methodLink RL 247 yJ4_append_15ec4 ∈ kGT := kgt (List.mem_of_getElem? (i := 1563) (by decide +kernel)) rfl
theorem jm_L_176 : Cond.methodLink RL 176 yJ4_append_bf812 ∈ kGT := kgt (List.mem_of_getElem? (i := 1134) (by decide +kernel)) rfl
theorem jm_L_175 : Cond.methodLink RL 175 yJ4_init_da8c8 ∈ kGT := kgt (List.mem_of_getElem? (i := 1105) (by decide +kernel)) rfl
theorem jm_L_182 : Cond.methodLink RL 182 yJ4_toString_0e30d ∈ kGT := kgt (List.mem_of_getElem? (i := 1257) (by decide +kernel)) rfl
theorem jcl_L_173 : Cond.classLink RL 173 RJ4 ∈ kGT := kgt (List.mem_of_getElem? (i := 1103) (by decide +kernel)) rfl
theorem jini_J4 : Cond.initialized RJ4 ∈ kGT := kgt (List.mem_of_getElem? (i := 49) (by decide +kernel)) rfl
theorem dfJ4 : ∀ j, j < 4 → defaultValue (tyJ4 j) = vp_V [.null, .int 0, .int 0, .int 0] j := by decide +kernel
/-- the letters of a text are of one byte -/
def tL (t : List Int32) : Prop := ∀ j, j < t.length → ∃ c, c < 128 ∧ t.getD j 0 = nI c
section LCM
variable {p : Program} {l : Launch} {e : Env} {s : State} {m : MethodId} {below : List Frame} {meth : Method} {c : Code} {k n pc : Nat} {rest : List Value}
theorem lv_lcmpx {R : Room} {args : Array Value} {H : Heap} {locs : List Loc} {Q : State → Prop} {ls : Array Slot} {cc : ByteArray} (hexec : p.tables.exec = Jvm.exec) (hb : c.code = cc) {x : Int64} (hdg : decode cc pc = .ok (.lcmp, 1)) (kk : W p l e R s m args below meth c H locs k n Q (F0 m (pc + 1) ls (.int 0 :: rest))) : W p l e R s m args below meth c H locs k n Q (F0 m pc ls (.long x :: .long x :: rest)) := by
  intro T hT X
  obtain ⟨t, a, b⟩ := kk T hT X
  refine ⟨t, ?_, b⟩
  have h1 : ¬ x > x := Int64.lt_irrefl
  have h2 : (x == x) = true := beq_self_eq_true x
  jvm_step X.here [X.here.top, hexec, hb, hdg, h1, h2]
  exact a
end LCM
section SB
variable {p : Program} {l : Launch} {e : Env} {R : Room} {s : State} {m : MethodId} {args : Array Value} {below : List Frame} {meth : Method} {c : Code} {Z : mZ} {A : Nat → Prop} {ss : List (Nat × Nat × List Int32)} {cc : ByteArray} {nL : Nat} {ret : Option FieldType} {d mc ms : Nat} {ρ : Type} {QF : State → Prop} {z : ρ} {X : Option ρ} {wi1 wr : va_W} {pc k0 n0 : Nat} {lv : List (Nat × Value)} {st rest : List Value}
theorem M_lcmpE (C : MC p l e R s m args below meth c Z A ss RL cc nL ret d mc ms) {x y : Int64} {ws : va_W} (hdg : decode cc pc = .ok (.lcmp, 1)) (kk : M p l e R s m args below meth c Z A nL QF z k0 n0 ws (pc + 1) lv (.int 0 :: st) X) : M p l e R s m args below meth c Z A nL QF z k0 n0 ws pc lv (.long y :: .long x :: st) (mleq x y X) := fun hX H locs ls hP hD hS hl => by
  obtain ⟨rfl, hX1⟩ := mleq_some hX
  exact lv_lcmpx C.1.1 C.1.2.1 hdg (kk hX1 H locs ls hP hD hS hl)
theorem mSS_new (C : MC p l e R s m args below meth c Z A ss RL cc nL ret d mc ms) {qs qv n : Nat} {g2 : Nat → Int32} {t : List Int32} (h0 : (qs, (.inr (0, [.ref qv, .int 0, .int 0, .int 0]) : va_E)) ∈ wr) (h1 : (qv, eY Z n g2) ∈ wr) (hn : n = t.length) (hg : ∀ i, i < n → g2 i = t.getD i 0) : mSS s Z A (wi1 ++ wr) wi1 [(qs, qv, t)] := by
  intro H locs U hP hD hS hsub hU hW x hx
  obtain rfl := List.mem_singleton.mp hx
  subst hn
  have hP1 := vP_mem.mp hP _ (List.mem_append_right _ h0)
  have hP2 := vP_mem.mp hP _ (List.mem_append_right _ h1)
  have hD1 := vD_app.mp hD
  have hK := C.2.1.1
  obtain ⟨r, e1, cell, c1, c2, c3, c4⟩ := hP1
  have hr : r = (RJ0, TJ0, 4) := Option.some.inj (e1.symm.trans rfl)
  subst hr
  obtain ⟨hS2, hfc, kC, hkC, hkind⟩ := hK.1 0 _ rfl
  have hnot : ∀ q : Nat × va_E, q ∈ wr → q.1 < H.size → ¬ wA wi1 H.size q.1 := fun q hq hlt hw => by
    rcases hw with ⟨b, hb, hbe⟩ | hw
    · exact hD1.2.2 b hb q hq hbe
    · omega
  have l1 : qs < H.size := (Array.getElem?_eq_some_iff.mp c1).1
  have l2 : qv < H.size := (Array.getElem?_eq_some_iff.mp hP2).1
  have n1 := hnot _ h0 l1
  have n2 := hnot _ h1 l2
  refine kStr_to hW.alike (fun _ _ _ => rfl) (fun _ z => z) (show kStr qs qv t (wA wi1 H.size) s H from ⟨⟨cell, c1, by rw [c3]; rfl, by rw [c2]; exact hfc, n1⟩, ?_, ?_, ?_⟩)
  · obtain ⟨cf, kf, fi, f, hi, hsl⟩ := hS2 1 (by decide)
    exact ⟨cf, kf, fi, f, cell, hi, (u_facts hfc hkC (u_lays (fun w hw => C.1.2.2.2.2 w hw) kin_J0 (by decide)) hi).1, c1, (by rw [c3]; exact fun h => by cases h), by rw [hsl, c4 1 (by decide)]; rfl, n1⟩
  · obtain ⟨cf, kf, fi, f, hi, hsl⟩ := hS2 0 (by decide)
    exact ⟨cf, kf, fi, f, cell, hi, (u_facts hfc hkC (u_lays (fun w hw => C.1.2.2.2.2 w hw) kin_J0 (by decide)) hi).1, c1, (by rw [c3]; exact fun h => by cases h), by rw [hsl, c4 0 (by decide)]; rfl, n1⟩
  · refine ⟨_, hP2, (hK.2 4 (Z.2.2.1, .byte) rfl).1 _ _, (fun h => by cases h), ?_, ?_, fun j hj => ?_, n2⟩
    · rw [vp_cell_i, arrV_size]
      exact Nat.le_refl _
    · rw [vp_cell_i, arrV_size]
    · rw [vp_cell_i, arrV_read _ _ hj, hg j hj]
/-- a builder with a text in it -/
def sbW (Z : mZ) (q1 q2 n : Nat) (g : Nat → Int32) : va_W := [(q1, .inr (1, [.ref q2, .int 0, .int 0, .int (nI n)])), (q2, eY Z 16 g)]
def sbT (t : List Int32) (g : Nat → Int32) : Prop := t.length ≤ 16 ∧ (∀ i, i < t.length → g i = t.getD i 0) ∧ (∀ i, i < 16 → fits .byte (.int (g i)) = true) ∧ ∀ x, x ∈ t → ∃ c, c < 128 ∧ x = nI c
theorem sbT_letters {t : List Int32} (h : ∀ x, x ∈ t → ∃ c, c < 128 ∧ x = nI c) : tL t := fun j hj => h _ (by rw [List.getD_eq_getElem?_getD, List.getElem?_eq_getElem hj]; exact List.getElem_mem hj)
def dgt (v : Int32) : List Int32 := if v < 10 then [mOnes v.toNatClampNeg] else [mTens v.toNatClampNeg, mOnes v.toNatClampNeg]
theorem mOnes_l (x : Nat) : ∃ c, c < 128 ∧ mOnes x = nI c := ⟨48 + x % 10, by omega, rfl⟩
theorem mTens_l {x : Nat} (h : x < 100) : ∃ c, c < 128 ∧ mTens x = nI c := ⟨48 + x / 10, by omega, rfl⟩
theorem sbT_one {t : List Int32} {g : Nat → Int32} {x : Int32} (h : sbT t g) (hn : t.length < 16) (hx : ∃ c, c < 128 ∧ x = nI c) : sbT (t ++ [x]) (upd g t.length (vp_nar .byte x)) := by
  obtain ⟨h1, h2, h3, h4⟩ := h
  obtain ⟨c, hc, rfl⟩ := hx
  rw [letV c hc]
  refine ⟨by rw [List.length_append, List.length_singleton]; omega, fun i hi => ?_, fun i hi => ?_, fun x hx => ?_⟩
  · rw [List.length_append, List.length_singleton] at hi
    rw [List.getD_eq_getElem?_getD]
    by_cases hj : i = t.length
    · subst hj
      rw [upd_eq, List.getElem?_append_right (Nat.le_refl _), Nat.sub_self]
      rfl
    · rw [upd_ne hj, List.getElem?_append_left (by omega), ← List.getD_eq_getElem?_getD]
      exact h2 i (by omega)
  · by_cases hj : i = t.length
    · subst hj
      rw [upd_eq]
      exact letF c hc
    · rw [upd_ne hj]
      exact h3 i hi
  · rcases List.mem_append.mp hx with hx | hx
    · exact h4 x hx
    · exact ⟨c, hc, List.mem_singleton.mp hx⟩
theorem sbT_two {t : List Int32} {g : Nat → Int32} {x y : Int32} (h : sbT t g) (hn : t.length + 1 < 16) (hx : ∃ c, c < 128 ∧ x = nI c) (hy : ∃ c, c < 128 ∧ y = nI c) : sbT (t ++ [x, y]) (upd (upd g (t.length + 1) (vp_nar .byte y)) t.length (vp_nar .byte x)) := by
  have h1 := sbT_one (sbT_one h (by omega) hx) (by rw [List.length_append, List.length_singleton]; omega) hy
  rw [List.append_assoc, List.length_append, List.length_singleton] at h1
  have e : upd (upd g t.length (vp_nar .byte x)) (t.length + 1) (vp_nar .byte y) = upd (upd g (t.length + 1) (vp_nar .byte y)) t.length (vp_nar .byte x) := by
    funext j
    by_cases a : j = t.length
    · subst a
      rw [upd_ne (by omega), upd_eq, upd_eq]
    · by_cases b : j = t.length + 1
      · subst b
        rw [upd_eq, upd_ne (by omega), upd_eq]
      · rw [upd_ne b, upd_ne a, upd_ne a, upd_ne b]
  rw [← e]
  exact h1
theorem sbT_app {t u : List Int32} {g : Nat → Int32} (h : sbT t g) (hn : t.length + u.length ≤ 16) (hu : ∀ x, x ∈ u → ∃ c, c < 128 ∧ x = nI c) : sbT (t ++ u) (va_cpy (fun j => u.getD j 0) g 0 t.length u.length) := by
  obtain ⟨h1, h2, h3, h4⟩ := h
  have hl := sbT_letters hu
  refine ⟨by rw [List.length_append]; exact hn, fun i hi => ?_, fun i hi => ?_, fun x hx => ?_⟩
  · rw [List.length_append] at hi
    unfold va_cpy
    rw [List.getD_eq_getElem?_getD]
    split
    · rw [List.getElem?_append_right (by omega)]
      show u.getD (0 + (i - t.length)) 0 = _
      rw [Nat.zero_add, List.getD_eq_getElem?_getD]
    · rw [List.getElem?_append_left (by omega), ← List.getD_eq_getElem?_getD]
      exact h2 i (by omega)
  · unfold va_cpy
    split
    · obtain ⟨c, hc, hq⟩ := hl (0 + (i - t.length)) (by omega)
      show fits .byte (.int (u.getD (0 + (i - t.length)) 0)) = true
      rw [hq]
      exact letF c hc
    · exact h3 i hi
  · rcases List.mem_append.mp hx with hx | hx
    · exact h4 x hx
    · exact hu x hx
theorem M_sbC (C : MC p l e R s m args below meth c Z A ss RL cc nL ret d mc ms) (hA : ∀ q, s.heap.size ≤ q → A q) {q1 q2 : Nat} {t : List Int32} {g : Nat → Int32} {c9 : Nat} (hc : c9 < 128) (hT : sbT t g) (hn : t.length < 16) (hd : 3 < d) (hk : k0 ≤ mc ∧ n0 ≤ ms) (hrest : (rest.map fun v => v.category).sum ≤ 8) (hdg : decode cc pc = .ok (.invokevirtual 179, 3)) (kk : ∀ g1, sbT (t ++ [nI c9]) g1 → M p l e R s m args below meth c Z A nL QF z k0 n0 (sbW Z q1 q2 (t ++ [nI c9]).length g1 ++ wr) (pc + 3) lv (.ref q1 :: rest) X) : M p l e R s m args below meth c Z A nL QF z k0 n0 (sbW Z q1 q2 t.length g ++ wr) pc lv (.int (nI c9) :: .ref q1 :: rest) X := by
  refine M_callV C hA (wi1 := sbW Z q1 q2 t.length g) (wr := wr) (As := [.int (nI c9)]) (rest := rest) (kj_appC l C.2.2.2.2.2.2 Z q1 q2 t.length g c9 hn hc) jy_J4_append_cf468 jm_L_179 (mRecv_cell C (ci := 1) (fs := [.ref q2, .int 0, .int 0, .int (nI t.length)]) 0 rfl rfl) mSS_nil (List.Perm.refl _) (by omega) ⟨by omega, by omega⟩ rfl rfl hrest hdg (fun v wo hq => ?_)
  obtain ⟨rfl, rfl⟩ := hq
  have h9 := kk _ (sbT_one hT hn ⟨_, hc, rfl⟩)
  rw [List.length_append] at h9
  exact h9
theorem M_sbS (C : MC p l e R s m args below meth c Z A ss RL cc nL ret d mc ms) (hA : ∀ q, s.heap.size ≤ q → A q) {q1 q2 : Nat} {t : List Int32} {g : Nat → Int32} {sa sv : Nat} {u : List Int32} (hs : kStr sa sv u A s s.heap) (hT : sbT t g) (hn : t.length + u.length ≤ 16) (hu : ∀ x, x ∈ u → ∃ c, c < 128 ∧ x = nI c) (hd : 5 < d) (hk : k0 ≤ mc ∧ n0 ≤ ms) (hrest : (rest.map fun v => v.category).sum ≤ 8) (hdg : decode cc pc = .ok (.invokevirtual 247, 3)) (kk : ∀ g1, sbT (t ++ u) g1 → M p l e R s m args below meth c Z A nL QF z k0 n0 (sbW Z q1 q2 (t ++ u).length g1 ++ wr) (pc + 3) lv (.ref q1 :: rest) X) : M p l e R s m args below meth c Z A nL QF z k0 n0 (sbW Z q1 q2 t.length g ++ wr) pc lv (.ref sa :: .ref q1 :: rest) X := by
  refine M_callV C hA (wi1 := sbW Z q1 q2 t.length g) (wr := wr) (As := [.ref sa]) (rest := rest) (kj_appS l C.2.2.2.2.2.2 Z q1 q2 t.length g sa sv u hn (sbT_letters hu)) jy_J4_append_15ec4 jm_L_247 (mRecv_cell C (ci := 1) (fs := [.ref q2, .int 0, .int 0, .int (nI t.length)]) 0 rfl rfl) (mSS_old (fun x hx => by obtain rfl := List.mem_singleton.mp hx; exact hs)) (List.Perm.refl _) (by omega) ⟨by omega, by omega⟩ rfl rfl hrest hdg (fun v wo hq => ?_)
  obtain ⟨rfl, rfl⟩ := hq
  have h9 := kk _ (sbT_app hT hn hu)
  rw [List.length_append] at h9
  exact h9
theorem M_sbI (C : MC p l e R s m args below meth c Z A ss RL cc nL ret d mc ms) (hA : ∀ q, s.heap.size ≤ q → A q) {q1 q2 : Nat} {t : List Int32} {g : Nat → Int32} {v : Int32} (hv : 0 ≤ v ∧ v < 100) (hT : sbT t g) (hn : t.length + (dgt v).length ≤ 16) (hd : 4 < d) (hk : k0 ≤ mc ∧ n0 ≤ ms) (hrest : (rest.map fun v => v.category).sum ≤ 8) (hdg : decode cc pc = .ok (.invokevirtual 176, 3)) (kk : ∀ g1, sbT (t ++ dgt v) g1 → M p l e R s m args below meth c Z A nL QF z k0 n0 (sbW Z q1 q2 (t ++ dgt v).length g1 ++ wr) (pc + 3) lv (.ref q1 :: rest) X) : M p l e R s m args below meth c Z A nL QF z k0 n0 (sbW Z q1 q2 t.length g ++ wr) pc lv (.int v :: .ref q1 :: rest) X := by
  obtain ⟨x, hx, rfl⟩ : ∃ x, x < 100 ∧ v = nI x := vp_in_of (vp_in_lt (n := 100) hv.1 hv.2 (by decide)) (by decide)
  have hc9 : (nI x).toNatClampNeg = x := nI_clamp (by omega)
  by_cases h : x < 10
  · have e : dgt (nI x) = [mOnes x] := by
      unfold dgt
      rw [if_pos (show nI x < 10 from (nI_lt_iff (b := 10) (by omega) (by decide)).mpr h), hc9]
    rw [e] at kk hn
    simp only [List.length_cons, List.length_nil] at hn
    refine M_callV C hA (wi1 := sbW Z q1 q2 t.length g) (wr := wr) (As := [.int (nI x)]) (rest := rest) (kj_appI1 l C.2.2.2.2.2.2 Z q1 q2 t.length g x h (by omega)) jy_J4_append_bf812 jm_L_176 (mRecv_cell C (ci := 1) (fs := [.ref q2, .int 0, .int 0, .int (nI t.length)]) 0 rfl rfl) mSS_nil (List.Perm.refl _) (by omega) ⟨by omega, by omega⟩ rfl rfl hrest hdg (fun v wo hq => ?_)
    obtain ⟨rfl, rfl⟩ := hq
    have h9 := kk _ (sbT_one hT (by omega) (mOnes_l x))
    rw [List.length_append] at h9
    exact h9
  · have e : dgt (nI x) = [mTens x, mOnes x] := by
      unfold dgt
      rw [if_neg (show ¬ nI x < 10 from fun q => h ((nI_lt_iff (b := 10) (by omega) (by decide)).mp q)), hc9]
    rw [e] at kk hn
    simp only [List.length_cons, List.length_nil] at hn
    refine M_callV C hA (wi1 := sbW Z q1 q2 t.length g) (wr := wr) (As := [.int (nI x)]) (rest := rest) (kj_appI2 l C.2.2.2.2.2.2 Z q1 q2 t.length g x (by omega) hx (by omega)) jy_J4_append_bf812 jm_L_176 (mRecv_cell C (ci := 1) (fs := [.ref q2, .int 0, .int 0, .int (nI t.length)]) 0 rfl rfl) mSS_nil (List.Perm.refl _) (by omega) ⟨by omega, by omega⟩ rfl rfl hrest hdg (fun v wo hq => ?_)
    obtain ⟨rfl, rfl⟩ := hq
    have h9 := kk _ (sbT_two hT (by omega) (mTens_l hx) (mOnes_l x))
    rw [List.length_append] at h9
    exact h9
theorem M_sbNew (C : MC p l e R s m args below meth c Z A ss RL cc nL ret d mc ms) (hA : ∀ q, s.heap.size ≤ q → A q) (hd : 3 < d) (hk : k0 + 2 ≤ mc ∧ n0 + 20 ≤ ms) (hrest : (st.map fun v => v.category).sum ≤ 6) (h0 : decode cc pc = .ok (.new 173, 3)) (h3 : decode cc (pc + 3) = .ok (.dup, 1)) (h4 : decode cc (pc + 4) = .ok (.invokespecial 175, 3)) (kk : ∀ q1 q2 g, sbT [] g → M p l e R s m args below meth c Z A nL QF z (k0 + 2) (n0 + 20) (sbW Z q1 q2 0 g ++ wr) (pc + 7) lv (.ref q1 :: st) X) : M p l e R s m args below meth c Z A nL QF z k0 n0 wr pc lv st X := by
  refine M_new C hA (ci := 1) (fs := [.null, .int 0, .int 0, .int 0]) kin_J4 tyJ4 tyJ4_ok jcl_L_173 jins_J4 jini_J4 rfl dfJ4 (by omega) (by omega) h0 (fun q1 => ?_)
  refine M_dup C rfl h3 ?_
  refine M_callI C hA (wi1 := [(q1, .inr (1, [.null, .int 0, .int 0, .int 0]))]) (wr := wr) (As := []) (rest := .ref q1 :: st) (kj_new l C.2.2.2.2.2.2 Z q1) jy_J4_init_da8c8 jm_L_175 mSS_nil List.perm_append_comm (by omega) ⟨by omega, by omega⟩ rfl rfl (by rw [List.map_cons, List.sum_cons]; exact Nat.le_trans (Nat.add_le_add_left hrest _) (show 1 + 6 ≤ 8 by decide)) h4 (fun v wo hq => ?_)
  obtain ⟨rfl, q2, rfl⟩ := hq
  exact kk q1 q2 (fun _ => 0) ⟨by decide, fun i hi => absurd hi (by simp), fun i hi => rfl, fun x hx => nomatch hx⟩
theorem M_sbT (C : MC p l e R s m args below meth c Z A ss RL cc nL ret d mc ms) (hA : ∀ q, s.heap.size ≤ q → A q) {q1 q2 : Nat} {t : List Int32} {g : Nat → Int32} (hT : sbT t g) (hd : 6 < d) (hk : k0 + 2 ≤ mc ∧ n0 + 20 ≤ ms) (hrest : (rest.map fun v => v.category).sum ≤ 8) (hdg : decode cc pc = .ok (.invokevirtual 182, 3)) (kk : ∀ qs qv g2, (∀ i, i < t.length → g2 i = t.getD i 0) → M p l e R s m args below meth c Z A nL QF z (k0 + 2) (n0 + 20) (wr ++ [(qs, .inr (0, [.ref qv, .int 0, .int 0, .int 0])), (qv, eY Z t.length g2)]) (pc + 3) lv (.ref qs :: rest) X) : M p l e R s m args below meth c Z A nL QF z k0 n0 (sbW Z q1 q2 t.length g ++ wr) pc lv (.ref q1 :: rest) X := by
  refine M_callV C hA (wi1 := sbW Z q1 q2 t.length g) (wr := wr) (As := []) (rest := rest) (kj_toS l C.2.2.2.2.2.2 Z q1 q2 t.length g hT.1 hT.2.2.1) jy_J4_toString_0e30d jm_L_182 (mRecv_cell C (ci := 1) (fs := [.ref q2, .int 0, .int 0, .int (nI t.length)]) 0 rfl rfl) mSS_nil (List.Perm.refl _) (by omega) ⟨by omega, by omega⟩ rfl rfl hrest hdg (fun v wo hq => ?_)
  obtain ⟨qs, qv, g2, rfl, hg2, rfl⟩ := hq
  refine M_perm (ws1 := (wr ++ [(qs, .inr (0, [.ref qv, .int 0, .int 0, .int 0])), (qv, eY Z t.length g2)]) ++ sbW Z q1 q2 t.length g) ?_ (M_drop (kk qs qv g2 (fun i hi => (hg2 i hi).trans (hT.2.1 i hi))))
  show (sbW Z q1 q2 t.length g ++ [_, _] ++ wr).Perm _
  rw [List.append_assoc]
  exact List.perm_append_comm.trans (List.Perm.append_right _ List.perm_append_comm)

end SB
