/-! calls and making, over the judgement M -/
section MCALL
variable {p : Program} {l : Launch} {e : Env} {R : Room} {s : State} {m : MethodId} {args : Array Value} {below : List Frame} {meth : Method} {c : Code} {Z : mZ} {A : Nat → Prop} {ss : List (Nat × Nat × List Int32)} {own : String} {cc : ByteArray} {nL : Nat} {ret : Option FieldType} {d mc ms : Nat} {ρ : Type} {QF : State → Prop} {z : ρ} {k0 n0 : Nat} {ws wr wi1 : va_W} {pc : Nat} {lv : List (Nat × Value)} {st rest : List Value} {X : Option ρ}
theorem wA_sub {H : Heap} (hD : va_D A (wi1 ++ wr)) (hA : ∀ q, s.heap.size ≤ q → A q) (hz : s.heap.size ≤ H.size) : ∀ q, wA wi1 H.size q → A q := fun q h => by
  rcases h with ⟨x, hx, rfl⟩ | h
  · obtain ⟨i, hi⟩ := List.getElem?_of_mem (List.mem_append_left wr hx)
    exact hD.2 i x hi
  · exact hA q (Nat.le_trans hz h)
/-- the texts that a callee reads, at the place of the call -/
def mSS (s : State) (Z : mZ) (A : Nat → Prop) (ws wi1 : va_W) (ss1 : List (Nat × Nat × List Int32)) : Prop := ∀ (H : Heap) (locs : List Loc) (U : State), va_P Z.1.1 vwCl ws H → va_D A ws → va_S A s.heap H locs → (∀ q, wA wi1 H.size q → A q) → U.heap = H → s.WarmedH U.vm → ∀ x ∈ ss1, kStr x.1 x.2.1 x.2.2 (wA wi1 H.size) U H
theorem mSS_nil : mSS s Z A ws wi1 [] := fun _ _ _ _ _ _ _ _ _ x hx => nomatch hx
theorem mSS_old {ss1 : List (Nat × Nat × List Int32)} (h : ∀ x ∈ ss1, kStr x.1 x.2.1 x.2.2 A s s.heap) : mSS s Z A ws wi1 ss1 := fun H locs U hP hD hS hsub hU hW x hx => kStr_to hW.alike hS.2.1 hsub (h x hx)
/-- the cell that a call is made on -/
def mRecv (s : State) (Z : mZ) (A : Nat → Prop) (ws : va_W) (b : Nat) (Cn : String) : Prop := ∀ (H : Heap) (locs : List Loc), va_P Z.1.1 vwCl ws H → va_S A s.heap H locs → ∃ cell : Cell, H[b]? = some cell ∧ cell.vm.isStatics = false ∧ s.vm.findClass Cn = some cell.cls
theorem mRecv_cell (C : MC p l e R s m args below meth c Z A ss own cc nL ret d mc ms) {b ci : Nat} {fs : List Value} {Cn : String} {T : u_T} {N : Nat} (q0 : Nat) (he : ws[q0]? = some (b, .inr (ci, fs))) (hc : vwCl[ci]? = some (Cn, T, N)) : mRecv s Z A ws b Cn := fun H locs hP hS => va_recv C.2.1.1 hP hc he
theorem mRecv_str {b v : Nat} {t : List Int32} (h : kStr b v t A s s.heap) : mRecv s Z A ws b "java/lang/String" := fun H locs hP hS => by
  obtain ⟨h1, -⟩ := h
  obtain ⟨cell, g1, g2, g3, -⟩ := h1.kept hS.2.1
  exact ⟨cell, g1, g2, g3⟩
theorem mpre (C : MC p l e R s m args below meth c Z A ss own cc nL ret d mc ms) {ss1 : List (Nat × Nat × List Int32)} {H : Heap} {locs : List Loc} (hA : ∀ q, s.heap.size ≤ q → A q) (hss : mSS s Z A ws wi1 ss1) (hws : ws.Perm (wi1 ++ wr)) (hP : va_P Z.1.1 vwCl ws H) (hD : va_D A ws) (hS : va_S A s.heap H locs) (av : List Value) : ∀ U : State, U.heap = H → s.WarmedH U.vm → va_Pc av (mPre Z wi1 ss1 H.size) av.toArray U := by
  intro U hU hW
  have hP' := vP_perm hws hP
  have hD' := vD_perm hws hD
  have hsub := wA_sub hD' hA hS.1
  refine ⟨rfl, by rw [hU], by rw [hU]; exact vP_mem.mpr fun q hq => vP_mem.mp hP' q (List.mem_append_left _ hq), ⟨(vD_app.mp hD').1.1, fun _ _ _ => trivial⟩, ?_, ?_⟩
  · rw [hU]
    exact mENV_to hW hS.2.1 hsub C.2.1
  · rw [hU]
    exact hss H locs U hP hD hS hsub hU hW
theorem mgo {Q1 : Option Value → va_W → Prop} {H : Heap} {locs : List Loc} {ls : Array Slot} {st0 : List Value} {a : Array Value} {Q : State → Prop} {mc1 ms1 : Nat} (hA : ∀ q, s.heap.size ≤ q → A q) (hws : ws.Perm (wi1 ++ wr)) (hP : va_P Z.1.1 vwCl ws H) (hD : va_D A ws) (hS : va_S A s.heap H locs)
    (hr : va_Run p l e R s m args below meth c H locs k0 n0 mc1 ms1 (F0 m pc ls st0) rest (mQ Z Q1 wi1 H.size a) (wA wi1 H.size))
    (kk : ∀ v wo, Q1 v wo → ∀ (H1 : Heap) (locs1 : List Loc), va_P Z.1.1 vwCl (wo ++ wr) H1 → va_D A (wo ++ wr) → va_S A s.heap H1 locs1 → W p l e R s m args below meth c H1 locs1 (k0 + mc1) (n0 + ms1) Q (F0 m (pc + 3) ls (v.toList ++ rest))) : W p l e R s m args below meth c H locs k0 n0 Q (F0 m pc ls st0) := by
  have hP' := vP_perm hws hP
  have hD' := vD_perm hws hD
  have hsub := wA_sub hD' hA hS.1
  intro T hT X
  obtain ⟨v, st₀, t, T', L, h0, X', hL, e1, e2, ⟨v', wo, hv, hq, hp, hd, hz, hk⟩, hgo⟩ := hr T hT X
  injection hv with hv
  subst hv
  rw [h0] at hz hk
  have hD1 : va_D A wo := hd.weaken (fun i x hx h => hsub _ h)
  obtain ⟨hP2, hD2⟩ := vframe (Ac := wA wi1 H.size) (wc1 := wo) (H1 := T'.heap) hP' hD' (fun q h1 h2 => by rw [e1]; exact hk q h1 h2) (fun q h => h) (by rw [e1]; exact hp) hD1 (fun x hx => by
    obtain ⟨i, hi⟩ := List.getElem?_of_mem hx
    exact hd.2 i x hi)
  obtain ⟨t2, a1, b1⟩ := kk v wo hq T'.heap (locs ++ L) hP2 hD2 ⟨Nat.le_trans hS.1 (by rw [e1]; exact hz), fun q h1 h2 => by rw [e1, hk q (Nat.lt_of_lt_of_le h1 hS.1) (fun z => h2 (hsub q z))]; exact hS.2.1 q h1 h2, fun q hq => by
      rcases List.mem_append.mp hq with h | h
      · exact hS.2.2 q h
      · exact hsub _ (hL q h)⟩ T' rfl X'
  exact ⟨t2, hgo t2 a1, b1⟩
def kYW (y : MethodName) (b : ByteArray) (nL : Nat) (ret : Option FieldType) (hh : List (Nat × Nat × Nat × Nat)) (n : Nat) : Prop := Cond.codeWith y b nL ret hh ∈ kGT ∧ Cond.initialized y.cls ∈ kGT ∧ Cond.static y ∈ kGT ∧ (y.cls ≠ "java/lang/invoke/MethodHandle" ∧ y.cls ≠ "java/lang/invoke/VarHandle" ∧ (parseMethodDescriptor y.desc).map (fun d => d.parameters.length) = some n) ∧ nL ≤ 40
theorem M_callS (C : MC p l e R s m args below meth c Z A ss own cc nL ret d mc ms) (hA : ∀ q, s.heap.size ≤ q → A q) {y : MethodName} {b1 : ByteArray} {nL1 : Nat} {ret1 : Option FieldType} {d1 mc1 ms1 idx n : Nat} {As : List Value} {ss1 : List (Nat × Nat × List Int32)} {Q1 : Option Value → va_W → Prop} (hM : mMet l Z y (.code y b1 nL1 ret1) d1 mc1 ms1 As wi1 ss1 Q1) (hY : kYS y b1 nL1 ret1 n) (hlink : Cond.methodLink own idx y ∈ kGT) (hss : mSS s Z A ws wi1 ss1) (hws : ws.Perm (wi1 ++ wr)) (hd1 : d1 < d) (hk : k0 + mc1 ≤ mc ∧ n0 + ms1 ≤ ms) (hn : As.length = n) (hst : st = As.reverse ++ rest) (hrest : (rest.map fun v => v.category).sum ≤ 8) (hdg : decode cc pc = .ok (.invokestatic idx, 3))
    (kk : ∀ v wo, Q1 v wo → M p l e R s m args below meth c Z A nL QF z (k0 + mc1) (n0 + ms1) (wo ++ wr) (pc + 3) lv (v.toList ++ rest) X) : M p l e R s m args below meth c Z A nL QF z k0 n0 ws pc lv st X := by
  intro hX H locs ls hP hD hS hl
  subst hst
  have hR : (kRm d1 mc1 ms1).frames + 1 ≤ R.frames ∧ 8 + (nL1 + 11) + (kRm d1 mc1 ms1).locals ≤ R.locals := by
    have h1 := C.2.2.2.2.2.1.1
    have h2 := C.2.2.2.2.2.1.2.1
    have := hY.1.2.2.2
    exact ⟨by show d1 + 1 ≤ _; omega, by show 8 + (nL1 + 11) + 64 * d1 ≤ _; omega⟩
  have hts := C.1.2.2.2.2
  refine mgo hA hws hP hD hS (va_runS (As := As) (rest := rest) C.1 (hM H.size) ⟨(callB_of n hts (kcode_in hY.1.1) rfl rfl rfl (hts _ hY.1.2.1) (hts _ hlink) hY.1.2.2.1 hR), hts _ hY.2⟩ ⟨mQ_blind, mpre C hA hss hws hP hD hS _⟩ rfl hn (hl.1.trans rfl) rfl (lv_room hrest) hdg ⟨Nat.le_trans hk.1 C.2.2.2.2.2.1.2.2.1, Nat.le_trans hk.2 C.2.2.2.2.2.1.2.2.2⟩) (fun v wo hq H1 locs1 hP1 hD1 hS1 => ?_)
  exact kk v wo hq hX H1 locs1 ls hP1 hD1 hS1 hl
theorem M_callW (C : MC p l e R s m args below meth c Z A ss own cc nL ret d mc ms) (hA : ∀ q, s.heap.size ≤ q → A q) {y : MethodName} {b1 : ByteArray} {nL1 : Nat} {ret1 : Option FieldType} {hh : List (Nat × Nat × Nat × Nat)} {d1 mc1 ms1 idx n : Nat} {As : List Value} {ss1 : List (Nat × Nat × List Int32)} {Q1 : Option Value → va_W → Prop} (hM : mMet l Z y (.codeWith y b1 nL1 ret1 hh) d1 mc1 ms1 As wi1 ss1 Q1) (hY : kYW y b1 nL1 ret1 hh n) (hlink : Cond.methodLink own idx y ∈ kGT) (hss : mSS s Z A ws wi1 ss1) (hws : ws.Perm (wi1 ++ wr)) (hd1 : d1 < d) (hk : k0 + mc1 ≤ mc ∧ n0 + ms1 ≤ ms) (hn : As.length = n) (hst : st = As.reverse ++ rest) (hrest : (rest.map fun v => v.category).sum ≤ 8) (hdg : decode cc pc = .ok (.invokestatic idx, 3))
    (kk : ∀ v wo, Q1 v wo → M p l e R s m args below meth c Z A nL QF z (k0 + mc1) (n0 + ms1) (wo ++ wr) (pc + 3) lv (v.toList ++ rest) X) : M p l e R s m args below meth c Z A nL QF z k0 n0 ws pc lv st X := by
  intro hX H locs ls hP hD hS hl
  subst hst
  have hR : (kRm d1 mc1 ms1).frames + 1 ≤ R.frames ∧ 8 + (nL1 + 11) + (kRm d1 mc1 ms1).locals ≤ R.locals := by
    have h1 := C.2.2.2.2.2.1.1
    have h2 := C.2.2.2.2.2.1.2.1
    have := hY.2.2.2.2
    exact ⟨by show d1 + 1 ≤ _; omega, by show 8 + (nL1 + 11) + 64 * d1 ≤ _; omega⟩
  have hts := C.1.2.2.2.2
  have hgood : GoodIn kGT (va_wsS own idx y (.codeWith y b1 nL1 ret1 hh :: kGT)) := kgt_good (fun z hz => by
    simp only [va_wsS, List.cons_append, List.nil_append, List.mem_cons] at hz
    rcases hz with rfl | rfl | rfl | rfl | hz
    · exact hlink
    · exact hY.2.2.1
    · exact hY.2.1
    · exact hY.1
    · exact hz)
  refine mgo hA hws hP hD hS (vx_runSW (As := As) (rest := rest) (n := n) C.1 (hM H.size) (vx_cwSW n hts hgood rfl rfl rfl hY.2.2.2.1 hR) ⟨mQ_blind, mpre C hA hss hws hP hD hS _⟩ rfl hn (hl.1.trans rfl) rfl (lv_room hrest) hdg ⟨Nat.le_trans hk.1 C.2.2.2.2.2.1.2.2.1, Nat.le_trans hk.2 C.2.2.2.2.2.1.2.2.2⟩) (fun v wo hq H1 locs1 hP1 hD1 hS1 => ?_)
  exact kk v wo hq hX H1 locs1 ls hP1 hD1 hS1 hl
theorem M_callV (C : MC p l e R s m args below meth c Z A ss own cc nL ret d mc ms) (hA : ∀ q, s.heap.size ≤ q → A q) {y : MethodName} {b1 : ByteArray} {nL1 b : Nat} {ret1 : Option FieldType} {d1 mc1 ms1 idx n : Nat} {As : List Value} {ss1 : List (Nat × Nat × List Int32)} {Q1 : Option Value → va_W → Prop} (hM : mMet l Z y (.code y b1 nL1 ret1) d1 mc1 ms1 (.ref b :: As) wi1 ss1 Q1) (hY : kYV y b1 nL1 ret1 n) (hlink : Cond.methodLink own idx y ∈ kGT) (hrv : mRecv s Z A ws b y.cls) (hss : mSS s Z A ws wi1 ss1) (hws : ws.Perm (wi1 ++ wr)) (hd1 : d1 < d) (hk : k0 + mc1 ≤ mc ∧ n0 + ms1 ≤ ms) (hn : As.length = n) (hst : st = As.reverse ++ .ref b :: rest) (hrest : (rest.map fun v => v.category).sum ≤ 8) (hdg : decode cc pc = .ok (.invokevirtual idx, 3))
    (kk : ∀ v wo, Q1 v wo → M p l e R s m args below meth c Z A nL QF z (k0 + mc1) (n0 + ms1) (wo ++ wr) (pc + 3) lv (v.toList ++ rest) X) : M p l e R s m args below meth c Z A nL QF z k0 n0 ws pc lv st X := by
  intro hX H locs ls hP hD hS hl
  subst hst
  have hR : (kRm d1 mc1 ms1).frames + 1 ≤ R.frames ∧ 8 + (nL1 + 11) + (kRm d1 mc1 ms1).locals ≤ R.locals := by
    have h1 := C.2.2.2.2.2.1.1
    have h2 := C.2.2.2.2.2.1.2.1
    have := hY.1.2.2.2
    exact ⟨by show d1 + 1 ≤ _; omega, by show 8 + (nL1 + 11) + 64 * d1 ≤ _; omega⟩
  have hts := C.1.2.2.2.2
  refine mgo hA hws hP hD hS (va_runV (C := y.cls) (As := As) (rest := rest) C.1 (hM H.size) ⟨(callB_of n hts (kcode_in hY.1.1) rfl rfl rfl (hts _ hY.1.2.1) (hts _ hlink) hY.1.2.2.1 hR), hts _ hY.2.1, hts _ hY.2.2⟩ ⟨mQ_blind, hrv H locs hP hS, mpre C hA hss hws hP hD hS _⟩ rfl hn (hl.1.trans rfl) rfl (lv_room hrest) hdg ⟨Nat.le_trans hk.1 C.2.2.2.2.2.1.2.2.1, Nat.le_trans hk.2 C.2.2.2.2.2.1.2.2.2⟩) (fun v wo hq H1 locs1 hP1 hD1 hS1 => ?_)
  exact kk v wo hq hX H1 locs1 ls hP1 hD1 hS1 hl
def kYI (y : MethodName) (b : ByteArray) (nL : Nat) (n : Nat) : Prop := kY y b nL none n ∧ y.name = "<init>" ∧ Cond.instanceMethod y ∈ kGT
theorem M_callI (C : MC p l e R s m args below meth c Z A ss own cc nL ret d mc ms) (hA : ∀ q, s.heap.size ≤ q → A q) {y : MethodName} {b1 : ByteArray} {nL1 b : Nat} {d1 mc1 ms1 idx n : Nat} {As : List Value} {ss1 : List (Nat × Nat × List Int32)} {Q1 : Option Value → va_W → Prop} (hM : mMet l Z y (.code y b1 nL1 none) d1 mc1 ms1 (.ref b :: As) wi1 ss1 Q1) (hY : kYI y b1 nL1 n) (hlink : Cond.methodLink own idx y ∈ kGT) (hss : mSS s Z A ws wi1 ss1) (hws : ws.Perm (wi1 ++ wr)) (hd1 : d1 < d) (hk : k0 + mc1 ≤ mc ∧ n0 + ms1 ≤ ms) (hn : As.length = n) (hst : st = As.reverse ++ .ref b :: rest) (hrest : (rest.map fun v => v.category).sum ≤ 8) (hdg : decode cc pc = .ok (.invokespecial idx, 3))
    (kk : ∀ v wo, Q1 v wo → M p l e R s m args below meth c Z A nL QF z (k0 + mc1) (n0 + ms1) (wo ++ wr) (pc + 3) lv (v.toList ++ rest) X) : M p l e R s m args below meth c Z A nL QF z k0 n0 ws pc lv st X := by
  intro hX H locs ls hP hD hS hl
  subst hst
  have hR : (kRm d1 mc1 ms1).frames + 1 ≤ R.frames ∧ 8 + (nL1 + 11) + (kRm d1 mc1 ms1).locals ≤ R.locals := by
    have h1 := C.2.2.2.2.2.1.1
    have h2 := C.2.2.2.2.2.1.2.1
    have := hY.1.2.2.2
    exact ⟨by show d1 + 1 ≤ _; omega, by show 8 + (nL1 + 11) + 64 * d1 ≤ _; omega⟩
  have hts := C.1.2.2.2.2
  refine mgo hA hws hP hD hS (va_runI (As := As) (rest := rest) C.1 (hM H.size) ⟨(callB_of n hts (kcode_in hY.1.1) rfl rfl rfl (hts _ hY.1.2.1) (hts _ hlink) hY.1.2.2.1 hR), hY.2.1, hts _ hY.2.2⟩ ⟨mQ_blind, mpre C hA hss hws hP hD hS _⟩ rfl hn (hl.1.trans rfl) rfl (lv_room hrest) hdg ⟨Nat.le_trans hk.1 C.2.2.2.2.2.1.2.2.1, Nat.le_trans hk.2 C.2.2.2.2.2.1.2.2.2⟩) (fun v wo hq H1 locs1 hP1 hD1 hS1 => ?_)
  exact kk v wo hq hX H1 locs1 ls hP1 hD1 hS1 hl
/-- a method of the class above, found by the receiver -/
def kYU (own : String) (idx : Nat) (x y : MethodName) (b : ByteArray) (nL : Nat) (ret : Option FieldType) (n : Nat) : Prop := (Cond.methodLink own idx x ∈ kGT ∧ Cond.sameMethod x.cls x.cls x.name x.desc ∈ kGT ∧ (∃ b0 m0 r0, Cond.code x b0 m0 r0 ∈ kGT) ∧ Cond.instanceMethod x ∈ kGT) ∧ Cond.instanceMethod y ∈ kGT ∧ Cond.initialized y.cls ∈ kGT ∧ Cond.code y b nL ret ∈ kGT ∧ (x.cls ≠ "java/lang/invoke/MethodHandle" ∧ x.cls ≠ "java/lang/invoke/VarHandle" ∧ (parseMethodDescriptor x.desc).map (fun d => d.parameters.length) = some n) ∧ nL ≤ 40
theorem kselP {y y1 : MethodName} {Cn : String} {n : Nat} {args : Array Value} {s : State} (hy : y.cls ≠ "java/lang/invoke/MethodHandle" ∧ y.cls ≠ "java/lang/invoke/VarHandle") (hins : (Cond.instantiable Cn n).before args s = true) (hsel1 : (Cond.selects Cn y1 y1).before args s = true) (hcls1 : y1.cls = y.cls) (hpriv : (Cond.privateMethod y).before args s = true) (hinst : (Cond.instanceMethod y).before args s = true) : (Cond.selects Cn y y).before args s = true := by
  obtain ⟨c, k, hc, hk, -, -, -, -⟩ := Cond.instantiable_spec hins
  obtain ⟨mk, methM, hnamed, hmethM, -, -⟩ := Cond.instanceMethod_spec hinst
  obtain ⟨c2, r2, m2, q1, q2, q3, q4, kP, hkP, hkPi⟩ := Cond.selects_spec hsel1
  have hfound : s.methodFound? y.cls y.name y.desc = some mk := State.methodFound?_of_named hnamed hy
  have hcls : m2.cls = mk.cls := by
    have h1 := findClass_of_methodNamed q3
    have h2 := findClass_of_methodNamed hnamed
    rw [hcls1] at h1
    exact Option.some.inj (h1.symm.trans h2)
  rw [hcls] at hkP
  have hsel : selectMethod {} s.vm c mk = .method mk := selectMethod_private hmethM (Cond.privateMethod_at hpriv mk methM hnamed hmethM)
  simp only [Cond.before, Cond.holds, Cond.value, hc, hfound, hnamed, hsel, hkP]
  simp
  exact hkPi
theorem M_callU (C : MC p l e R s m args below meth c Z A ss own cc nL ret d mc ms) (hA : ∀ q, s.heap.size ≤ q → A q) {x y : MethodName} {Cn : String} {b1 : ByteArray} {nL1 b : Nat} {ret1 : Option FieldType} {d1 mc1 ms1 idx n : Nat} {As : List Value} {ss1 : List (Nat × Nat × List Int32)} {Q1 : Option Value → va_W → Prop} (hM : mMet l Z y (.code y b1 nL1 ret1) d1 mc1 ms1 (.ref b :: As) wi1 ss1 Q1) (hY : kYU own idx x y b1 nL1 ret1 n) (hsel : (Cond.selects Cn x y).before args s = true) (hrv : mRecv s Z A ws b Cn) (hss : mSS s Z A ws wi1 ss1) (hws : ws.Perm (wi1 ++ wr)) (hd1 : d1 < d) (hk : k0 + mc1 ≤ mc ∧ n0 + ms1 ≤ ms) (hn : As.length = n) (hst : st = As.reverse ++ .ref b :: rest) (hrest : (rest.map fun v => v.category).sum ≤ 8) (hdg : decode cc pc = .ok (.invokevirtual idx, 3))
    (kk : ∀ v wo, Q1 v wo → M p l e R s m args below meth c Z A nL QF z (k0 + mc1) (n0 + ms1) (wo ++ wr) (pc + 3) lv (v.toList ++ rest) X) : M p l e R s m args below meth c Z A nL QF z k0 n0 ws pc lv st X := by
  intro hX H locs ls hP hD hS hl
  subst hst
  obtain ⟨⟨y1, y2, ⟨b0, m0, r0, y3⟩, y4⟩, y5, y6, y7, y8, y9⟩ := hY
  have hR : (kRm d1 mc1 ms1).frames + 1 ≤ R.frames ∧ 8 + (nL1 + 11) + (kRm d1 mc1 ms1).locals ≤ R.locals := by
    have h1 := C.2.2.2.2.2.1.1
    have h2 := C.2.2.2.2.2.1.2.1
    exact ⟨by show d1 + 1 ≤ _; omega, by show 8 + (nL1 + 11) + 64 * d1 ≤ _; omega⟩
  have hts := C.1.2.2.2.2
  have cu : va_CU R s args own Cn x.cls idx x y b1 nL1 ret1 (.code y b1 nL1 ret1 :: kGT) (kRm d1 mc1 ms1) mc1 ms1 n := by
    refine ⟨⟨rfl, rfl, hR.1, hR.2, pay_in hts (kcode_in y7), List.mem_cons_self⟩, hts _ y7, hts _ y6, ⟨y8.1, y8.2.1⟩, fun sig h => ?_, hts _ y1, hts _ y2, va_Decl.of (hts _ y4) (hts _ y3), hsel, hts _ y5⟩
    have h2 := y8.2.2
    rw [h] at h2
    exact (Option.some.inj h2).symm
  refine mgo hA hws hP hD hS (va_runU (As := As) (rest := rest) (n := n) C.1 (hM H.size) cu ⟨mQ_blind, hrv H locs hP hS, mpre C hA hss hws hP hD hS _⟩ rfl hn (hl.1.trans rfl) rfl (lv_room hrest) hdg ⟨Nat.le_trans hk.1 C.2.2.2.2.2.1.2.2.1, Nat.le_trans hk.2 C.2.2.2.2.2.1.2.2.2⟩) (fun v wo hq H1 locs1 hP1 hD1 hS1 => ?_)
  exact kk v wo hq hX H1 locs1 ls hP1 hD1 hS1 hl
/-- super.m(..) -/
def kYSU (own : String) (idx : Nat) (y : MethodName) (b : ByteArray) (nL : Nat) (ret : Option FieldType) (n : Nat) : Prop := Cond.methodLink own idx y ∈ kGT ∧ Cond.sameMethod y.cls y.cls y.name y.desc ∈ kGT ∧ Cond.superclass own y.cls ∈ kGT ∧ Cond.instanceMethod y ∈ kGT ∧ Cond.initialized y.cls ∈ kGT ∧ Cond.code y b nL ret ∈ kGT ∧ (y.name ≠ "<init>" ∧ (parseMethodDescriptor y.desc).map (fun d => d.parameters.length) = some n) ∧ nL ≤ 40
theorem M_callSU (C : MC p l e R s m args below meth c Z A ss own cc nL ret d mc ms) (hA : ∀ q, s.heap.size ≤ q → A q) {y : MethodName} {Cn : String} {T : u_T} {N ci : Nat} {b1 : ByteArray} {nL1 b : Nat} {ret1 : Option FieldType} {d1 mc1 ms1 idx n : Nat} {As : List Value} {ss1 : List (Nat × Nat × List Int32)} {Q1 : Option Value → va_W → Prop} (hM : mMet l Z y (.code y b1 nL1 ret1) d1 mc1 ms1 (.ref b :: As) wi1 ss1 Q1) (hY : kYSU own idx y b1 nL1 ret1 n) (hc : vwCl[ci]? = some (Cn, T, N)) (hrv : mRecv s Z A ws b Cn) (hss : mSS s Z A ws wi1 ss1) (hws : ws.Perm (wi1 ++ wr)) (hd1 : d1 < d) (hk : k0 + mc1 ≤ mc ∧ n0 + ms1 ≤ ms) (hn : As.length = n) (hst : st = As.reverse ++ .ref b :: rest) (hrest : (rest.map fun v => v.category).sum ≤ 8) (hdg : decode cc pc = .ok (.invokespecial idx, 3))
    (kk : ∀ v wo, Q1 v wo → M p l e R s m args below meth c Z A nL QF z (k0 + mc1) (n0 + ms1) (wo ++ wr) (pc + 3) lv (v.toList ++ rest) X) : M p l e R s m args below meth c Z A nL QF z k0 n0 ws pc lv st X := by
  intro hX H locs ls hP hD hS hl
  subst hst
  obtain ⟨y1, y2, y3, y4, y5, y6, y7, y8⟩ := hY
  have hR : (kRm d1 mc1 ms1).frames + 1 ≤ R.frames ∧ 8 + (nL1 + 11) + (kRm d1 mc1 ms1).locals ≤ R.locals := by
    have h1 := C.2.2.2.2.2.1.1
    have h2 := C.2.2.2.2.2.1.2.1
    exact ⟨by show d1 + 1 ≤ _; omega, by show 8 + (nL1 + 11) + 64 * d1 ≤ _; omega⟩
  have hts := C.1.2.2.2.2
  have hgood : GoodIn kGT (va_wsSU own idx y (.code y b1 nL1 ret1 :: kGT)) := kgt_good (fun z hz => by
    simp only [va_wsSU, List.cons_append, List.nil_append, List.mem_cons] at hz
    rcases hz with rfl | rfl | rfl | rfl | rfl | rfl | hz
    · exact y1
    · exact y2
    · exact y3
    · exact y4
    · exact y5
    · exact y6
    · exact hz)
  refine mgo hA hws hP hD hS (va_runSU (C := Cn) (As := As) (rest := rest) (n := n) (C.2.1.1.1 ci _ hc).2 C.1 (hM H.size) (va_cwSU n hts hgood rfl rfl rfl y7 hR) ⟨mQ_blind, hrv H locs hP hS, mpre C hA hss hws hP hD hS _⟩ rfl hn (hl.1.trans rfl) rfl (lv_room hrest) hdg ⟨Nat.le_trans hk.1 C.2.2.2.2.2.1.2.2.1, Nat.le_trans hk.2 C.2.2.2.2.2.1.2.2.2⟩) (fun v wo hq H1 locs1 hP1 hD1 hS1 => ?_)
  exact kk v wo hq hX H1 locs1 ls hP1 hD1 hS1 hl
/-! making -/
def eY (Z : mZ) (n : Nat) (g : Nat → Int32) : va_E := .inl (Z.2.2.1, n, .inl g)
def eL (Z : mZ) (n : Nat) (g : Nat → Int64) : va_E := .inl (Z.2.1, n, .inr (.inl g))
theorem M_new (C : MC p l e R s m args below meth c Z A ss own cc nL ret d mc ms) (hA : ∀ q, s.heap.size ≤ q → A q) {C1 : String} {T : u_T} {N ci index : Nat} {fs : List Value} (hin : ∀ z ∈ u_ws C1 T N, z ∈ kGT) (ty : Nat → FieldType) (hty : ∀ k, k < N → parseFieldDescriptor (T k).2.2.1 = some (ty k)) (hcl : Cond.classLink own index C1 ∈ kGT) (hinst : Cond.instantiable C1 N ∈ kGT) (hini : Cond.initialized C1 ∈ kGT) (hc : vwCl[ci]? = some (C1, T, N)) (hfs : ∀ j, j < N → defaultValue (ty j) = vp_V fs j) (hc1 : k0 + 1 ≤ mc) (hs1 : n0 + N ≤ ms) (hdg : decode cc pc = .ok (.new index, 3)) (kk : ∀ q : Nat, M p l e R s m args below meth c Z A nL QF z (k0 + 1) (n0 + N) (ws ++ [(q, .inr (ci, fs))]) (pc + 3) lv (.ref q :: st) X) : M p l e R s m args below meth c Z A nL QF z k0 n0 ws pc lv st X := fun hX H locs ls hP hD hS hl =>
  va_new C.1.1 C.1.2.1 C.1.2.2.2.2 hin ty hty C.1.2.2.2.1 (C.1.2.2.2.2 _ hcl) (C.1.2.2.2.2 _ hinst) (C.1.2.2.2.2 _ hini) C.2.1.1 hP hD hS hA hc hfs (Nat.le_trans hc1 C.2.2.2.2.2.1.2.2.1) (Nat.le_trans hs1 C.2.2.2.2.2.1.2.2.2) hdg (fun q H1 hP1 hD1 hS1 => kk q hX H1 locs ls hP1 hD1 hS1 hl)
theorem M_newB (C : MC p l e R s m args below meth c Z A ss own cc nL ret d mc ms) (hA : ∀ q, s.heap.size ≤ q → A q) {x : Int32} {N : Nat} (hw : Cond.arrayClass .byte ∈ kGT) (hn : ¬ x < 0) (hN : x.toNatClampNeg = N) (hb : N * 1 ≤ 536870912) (hc : k0 + 1 ≤ mc) (hs : n0 + N ≤ ms) (hdg : decode cc pc = .ok (.newarray .byte, 2)) (kk : ∀ q : Nat, M p l e R s m args below meth c Z A nL QF z (k0 + 1) (n0 + N) (ws ++ [(q, eY Z N (fun _ => 0))]) (pc + 2) lv (.ref q :: st) X) : M p l e R s m args below meth c Z A nL QF z k0 n0 ws pc lv (.int x :: st) X := fun hX H locs ls hP hD hS hl => by
  refine va_newa (atype := .byte) (ty := .byte) (N' := N) (a0 := (N, .inl (fun _ => 0))) C.1.1 C.1.2.1 (C.1.2.2.2.2 _ hw) rfl C.2.1.1 hP hD hS hA (fun cA => rfl) hn hN hb (Nat.le_trans hc C.2.2.2.2.2.1.2.2.1) (Nat.le_trans hs C.2.2.2.2.2.1.2.2.2) hdg (fun q cA H1 hK1 hP1 hD1 hS1 => ?_)
  have e : cA = Z.2.2.1 := arrI hK1 (i := 4) (j := 5) rfl rfl (fun _ h => by cases h)
  subst e
  exact kk q hX H1 locs ls hP1 hD1 hS1 hl
theorem M_newL (C : MC p l e R s m args below meth c Z A ss own cc nL ret d mc ms) (hA : ∀ q, s.heap.size ≤ q → A q) {x : Int32} {N : Nat} (hw : Cond.arrayClass .long ∈ kGT) (hn : ¬ x < 0) (hN : x.toNatClampNeg = N) (hb : N * 8 ≤ 536870912) (hc : k0 + 1 ≤ mc) (hs : n0 + N ≤ ms) (hdg : decode cc pc = .ok (.newarray .long, 2)) (kk : ∀ q : Nat, M p l e R s m args below meth c Z A nL QF z (k0 + 1) (n0 + N) (ws ++ [(q, eL Z N (fun _ => 0))]) (pc + 2) lv (.ref q :: st) X) : M p l e R s m args below meth c Z A nL QF z k0 n0 ws pc lv (.int x :: st) X := fun hX H locs ls hP hD hS hl => by
  refine va_newa (atype := .long) (ty := .long) (N' := N) (a0 := (N, .inr (.inl (fun _ => 0)))) C.1.1 C.1.2.1 (C.1.2.2.2.2 _ hw) rfl C.2.1.1 hP hD hS hA (fun cA => rfl) hn hN hb (Nat.le_trans hc C.2.2.2.2.2.1.2.2.1) (Nat.le_trans hs C.2.2.2.2.2.1.2.2.2) hdg (fun q cA H1 hK1 hP1 hD1 hS1 => ?_)
  have e : cA = Z.2.1 := arrI hK1 (i := 3) (j := 5) rfl rfl (fun _ h => by cases h)
  subst e
  exact kk q hX H1 locs ls hP1 hD1 hS1 hl
theorem M_obj (C : MC p l e R s m args below meth c Z A ss own cc nL ret d mc ms) {idx x : Nat} (hlink : Cond.methodLink own idx objectInit ∈ kGT) (hd : 1 ≤ d) (hrest : (st.map fun v => v.category).sum ≤ 8) (hdg : decode cc pc = .ok (.invokespecial idx, 3)) (kk : M p l e R s m args below meth c Z A nL QF z k0 n0 ws (pc + 3) lv st X) : M p l e R s m args below meth c Z A nL QF z k0 n0 ws pc lv (.ref x :: st) X := fun hX H locs ls hP hD hS hl => by
  have h1 := C.2.2.2.2.2.1.1
  have h2 := C.2.2.2.2.2.1.2.1
  exact W.objInit C.1.1 C.1.2.1 C.1.2.2.2.1 (C.1.2.2.2.2 _ hlink) (C.1.2.2.2.2 _ wobj_1) (C.1.2.2.2.2 _ wobj_2) rfl (hl.1.trans C.1.2.2.1.symm) rfl hdg (by omega) (by show 2 * 0 + _ + 12 ≤ _; omega) (kk hX H locs ls hP hD hS hl)
/-! fields and arrays of bytes -/
theorem M_get (C : MC p l e R s m args below meth c Z A ss own cc nL ret d mc ms) {C1 : String} {T : u_T} {N ci index a : Nat} {ref : String} {fs : List Value} (hin : ∀ z ∈ u_ws C1 T N, z ∈ kGT) (hc : vwCl[ci]? = some (C1, T, N)) (q0 : Nat) (he : ws[q0]? = some (a, .inr (ci, fs))) (k : Nat) (hk : k < N) (hlink : Cond.fieldLink own index ref (T k).2.1 (T k).2.2.1 ∈ kGT) (hT1 : (T k).1 = ref) {v : Value} (hv : fs[k]? = some v) (hdg : decode cc pc = .ok (.getfield index, 3)) (kk : M p l e R s m args below meth c Z A nL QF z k0 n0 ws (pc + 3) lv (v :: st) X) : M p l e R s m args below meth c Z A nL QF z k0 n0 ws pc lv (.ref a :: st) X := fun hX H locs ls hP hD hS hl =>
  va_get C.1.1 C.1.2.1 C.1.2.2.2.2 hin C.1.2.2.2.1 C.2.1.1 hP q0 he hc k hk (C.1.2.2.2.2 _ hlink) (fun x h => by rw [← hT1]; exact h) hv hdg (kk hX H locs ls hP hD hS hl)
theorem M_put (C : MC p l e R s m args below meth c Z A ss own cc nL ret d mc ms) {C1 : String} {T : u_T} {N ci index a : Nat} {ref : String} {fs : List Value} {ws1 : va_W} (hin : ∀ z ∈ u_ws C1 T N, z ∈ kGT) (hc : vwCl[ci]? = some (C1, T, N)) (q0 : Nat) (he : ws[q0]? = some (a, .inr (ci, fs))) (k : Nat) (hk : k < N) (hlink : Cond.fieldLink own index ref (T k).2.1 (T k).2.2.1 ∈ kGT) (hT1 : (T k).1 = ref) (ty0 : Nat → FieldType) (hty : ∀ k, k < N → parseFieldDescriptor (T k).2.2.1 = some (ty0 k)) (hnm : ∀ a, a < N → ∀ b, b < N → a ≠ b → (T a).2.1 ≠ (T b).2.1) (hfin : (T k).2.2.2 = false) {ty : FieldType} {v : Value} (hd : parseFieldDescriptor (T k).2.2.1 = some ty) (hn : narrow ty v = v) (hfit : fits ty v = true) (hl0 : k < fs.length) (hw1 : ws.set q0 (a, .inr (ci, fs.set k v)) = ws1) (hdg : decode cc pc = .ok (.putfield index, 3)) (kk : M p l e R s m args below meth c Z A nL QF z k0 n0 ws1 (pc + 3) lv st X) : M p l e R s m args below meth c Z A nL QF z k0 n0 ws pc lv (v :: .ref a :: st) X := fun hX H locs ls hP hD hS hl => by
  subst hw1
  exact va_put C.1.1 C.1.2.1 C.1.2.2.2.2 hin ty0 hty hnm C.1.2.2.2.1 C.2.1.1 hP hD hS q0 he hc k hk (C.1.2.2.2.2 _ hlink) (fun x h => by rw [← hT1]; exact h) hfin hd hn hfit hl0 hdg (fun H1 locs1 hP1 hD1 hS1 => kk hX H1 locs1 ls hP1 hD1 hS1 hl)
theorem M_putF (C : MC p l e R s m args below meth c Z A ss own cc nL ret d mc ms) (hini : meth.name = "<init>") {C1 : String} {T : u_T} {N ci index a : Nat} {ref : String} {fs : List Value} {ws1 : va_W} (hin : ∀ z ∈ u_ws C1 T N, z ∈ kGT) (hc : vwCl[ci]? = some (C1, T, N)) (q0 : Nat) (he : ws[q0]? = some (a, .inr (ci, fs))) (k : Nat) (hk : k < N) (hlink : Cond.fieldLink own index ref (T k).2.1 (T k).2.2.1 ∈ kGT) (hT1 : (T k).1 = ref) (ty0 : Nat → FieldType) (hty : ∀ k, k < N → parseFieldDescriptor (T k).2.2.1 = some (ty0 k)) (hnm : ∀ a, a < N → ∀ b, b < N → a ≠ b → (T a).2.1 ≠ (T b).2.1) (hfin : (T k).2.2.2 = true) (hdecl : (T k).1 = own) {ty : FieldType} {v : Value} (hd : parseFieldDescriptor (T k).2.2.1 = some ty) (hn : narrow ty v = v) (hfit : fits ty v = true) (hl0 : k < fs.length) (hw1 : ws.set q0 (a, .inr (ci, fs.set k v)) = ws1) (hdg : decode cc pc = .ok (.putfield index, 3)) (kk : M p l e R s m args below meth c Z A nL QF z k0 n0 ws1 (pc + 3) lv st X) : M p l e R s m args below meth c Z A nL QF z k0 n0 ws pc lv (v :: .ref a :: st) X := fun hX H locs ls hP hD hS hl => by
  subst hw1
  exact va_putF C.1.1 C.1.2.1 C.1.2.2.2.2 hin ty0 hty hnm C.1.2.2.2.1 C.2.1.1 hP hD hS q0 he hc k hk (C.1.2.2.2.2 _ hlink) (fun x h => by rw [← hT1]; exact h) hfin hini hdecl hd hn hfit hl0 hdg (fun H1 locs1 hP1 hD1 hS1 => kk hX H1 locs1 ls hP1 hD1 hS1 hl)
theorem M_bald (C : MC p l e R s m args below meth c Z A ss own cc nL ret d mc ms) {a n : Nat} {g : Nat → Int32} {i : Int32} {k : Nat} (q0 : Nat) (he : ws[q0]? = some (a, eY Z n g)) (hi : vp_in i n) (hik : i.toNatClampNeg = k) (hdg : decode cc pc = .ok (.baload, 1)) (kk : M p l e R s m args below meth c Z A nL QF z k0 n0 ws (pc + 1) lv (.int (g k) :: st) X) : M p l e R s m args below meth c Z A nL QF z k0 n0 ws pc lv (.int i :: .ref a :: st) X := fun hX H locs ls hP hD hS hl => by
  subst hik
  exact va_bald C.1.1 C.1.2.1 C.2.1.1 hP q0 4 he rfl hi hdg (kk hX H locs ls hP hD hS hl)
theorem M_bast (C : MC p l e R s m args below meth c Z A ss own cc nL ret d mc ms) {a n : Nat} {g : Nat → Int32} {i x : Int32} {k : Nat} {ws1 : va_W} (q0 : Nat) (he : ws[q0]? = some (a, eY Z n g)) (hi : vp_in i n) (hik : i.toNatClampNeg = k) (hw1 : ws.set q0 (a, eY Z n (upd g k (vp_nar .byte x))) = ws1) (hdg : decode cc pc = .ok (.bastore, 1)) (kk : M p l e R s m args below meth c Z A nL QF z k0 n0 ws1 (pc + 1) lv st X) : M p l e R s m args below meth c Z A nL QF z k0 n0 ws pc lv (.int x :: .int i :: .ref a :: st) X := fun hX H locs ls hP hD hS hl => by
  subst hik
  subst hw1
  exact va_bast C.1.1 C.1.2.1 C.2.1.1 hP hD hS q0 4 he rfl hi hdg (fun H1 locs1 hP1 hD1 hS1 => kk hX H1 locs1 ls hP1 hD1 hS1 hl)
theorem M_lald (C : MC p l e R s m args below meth c Z A ss own cc nL ret d mc ms) {a n : Nat} {g : Nat → Int64} {i : Int32} {k : Nat} (q0 : Nat) (he : ws[q0]? = some (a, eL Z n g)) (hi : vp_in i n) (hik : i.toNatClampNeg = k) (hdg : decode cc pc = .ok (.laload, 1)) (kk : M p l e R s m args below meth c Z A nL QF z k0 n0 ws (pc + 1) lv (.long (g k) :: st) X) : M p l e R s m args below meth c Z A nL QF z k0 n0 ws pc lv (.int i :: .ref a :: st) X := fun hX H locs ls hP hD hS hl => by
  subst hik
  exact va_lald C.1.1 C.1.2.1 C.2.1.1 hP q0 3 he rfl hi hdg (kk hX H locs ls hP hD hS hl)
theorem M_last (C : MC p l e R s m args below meth c Z A ss own cc nL ret d mc ms) {a n : Nat} {g : Nat → Int64} {i : Int32} {x : Int64} {k : Nat} {ws1 : va_W} (q0 : Nat) (he : ws[q0]? = some (a, eL Z n g)) (hi : vp_in i n) (hik : i.toNatClampNeg = k) (hw1 : ws.set q0 (a, eL Z n (vp_updL g k x)) = ws1) (hdg : decode cc pc = .ok (.lastore, 1)) (kk : M p l e R s m args below meth c Z A nL QF z k0 n0 ws1 (pc + 1) lv st X) : M p l e R s m args below meth c Z A nL QF z k0 n0 ws pc lv (.long x :: .int i :: .ref a :: st) X := fun hX H locs ls hP hD hS hl => by
  subst hik
  subst hw1
  exact va_last C.1.1 C.1.2.1 C.2.1.1 hP hD hS q0 3 he rfl hi hdg (fun H1 locs1 hP1 hD1 hS1 => kk hX H1 locs1 ls hP1 hD1 hS1 hl)
theorem M_blen (C : MC p l e R s m args below meth c Z A ss own cc nL ret d mc ms) {a n : Nat} {g : Nat → Int32} {v : Int32} (q0 : Nat) (he : ws[q0]? = some (a, eY Z n g)) (hv : Int32.ofNat n = v) (hdg : decode cc pc = .ok (.arraylength, 1)) (kk : M p l e R s m args below meth c Z A nL QF z k0 n0 ws (pc + 1) lv (.int v :: st) X) : M p l e R s m args below meth c Z A nL QF z k0 n0 ws pc lv (.ref a :: st) X := fun hX H locs ls hP hD hS hl => va_alen C.1.1 C.1.2.1 C.2.1.1 hP q0 4 he rfl hv hdg (kk hX H locs ls hP hD hS hl)
/-- a digit out of Integer's tables -/
theorem M_dones (C : MC p l e R s m args below meth c Z A ss own cc nL ret d mc ms) {index : Nat} (hlink : Cond.fieldLink own index "java/lang/Integer" "DigitOnes" "[B" ∈ kGT) (hdg : decode cc pc = .ok (.getstatic index, 3)) (kk : M p l e R s m args below meth c Z A nL QF z k0 n0 ws (pc + 3) lv (.ref (mst Z 10) :: st) X) : M p l e R s m args below meth c Z A nL QF z k0 n0 ws pc lv st X := fun hX H locs ls hP hD hS hl => va_gets C.1.1 C.1.2.1 C.2.1.2.2.2.2.2.2.1.1.1 hS C.1.2.2.2.1 (C.1.2.2.2.2 _ hlink) (fun x h => h) hdg (kk hX H locs ls hP hD hS hl)
theorem M_dtens (C : MC p l e R s m args below meth c Z A ss own cc nL ret d mc ms) {index : Nat} (hlink : Cond.fieldLink own index "java/lang/Integer" "DigitTens" "[B" ∈ kGT) (hdg : decode cc pc = .ok (.getstatic index, 3)) (kk : M p l e R s m args below meth c Z A nL QF z k0 n0 ws (pc + 3) lv (.ref (mst Z 11) :: st) X) : M p l e R s m args below meth c Z A nL QF z k0 n0 ws pc lv st X := fun hX H locs ls hP hD hS hl => va_gets C.1.1 C.1.2.1 C.2.1.2.2.2.2.2.2.1.2.1 hS C.1.2.2.2.1 (C.1.2.2.2.2 _ hlink) (fun x h => h) hdg (kk hX H locs ls hP hD hS hl)
theorem M_done (C : MC p l e R s m args below meth c Z A ss own cc nL ret d mc ms) {i : Int32} (hi : vp_in i 100) (hdg : decode cc pc = .ok (.baload, 1)) (kk : M p l e R s m args below meth c Z A nL QF z k0 n0 ws (pc + 1) lv (.int (mOnes i.toNatClampNeg) :: st) X) : M p l e R s m args below meth c Z A nL QF z k0 n0 ws pc lv (.int i :: .ref (mst Z 10) :: st) X := fun hX H locs ls hP hD hS hl => va_tb C.1.1 C.1.2.1 C.2.1.2.2.2.2.2.2.1.1.2 hS hi rfl hdg (kk hX H locs ls hP hD hS hl)
theorem M_dten (C : MC p l e R s m args below meth c Z A ss own cc nL ret d mc ms) {i : Int32} (hi : vp_in i 100) (hdg : decode cc pc = .ok (.baload, 1)) (kk : M p l e R s m args below meth c Z A nL QF z k0 n0 ws (pc + 1) lv (.int (mTens i.toNatClampNeg) :: st) X) : M p l e R s m args below meth c Z A nL QF z k0 n0 ws pc lv (.int i :: .ref (mst Z 11) :: st) X := fun hX H locs ls hP hD hS hl => va_tb C.1.1 C.1.2.1 C.2.1.2.2.2.2.2.2.1.2.2 hS hi rfl hdg (kk hX H locs ls hP hD hS hl)
/-! a text that is read -/
theorem M_tget (C : MC p l e R s m args below meth c Z A ss own cc nL ret d mc ms) {index q : Nat} {n dd : String} {v : Value} (h : va_OF "java/lang/String" n dd v q A s s.heap) (hlink : Cond.fieldLink own index "java/lang/String" n dd ∈ kGT) (hdg : decode cc pc = .ok (.getfield index, 3)) (kk : M p l e R s m args below meth c Z A nL QF z k0 n0 ws (pc + 3) lv (v :: st) X) : M p l e R s m args below meth c Z A nL QF z k0 n0 ws pc lv (.ref q :: st) X := fun hX H locs ls hP hD hS hl => vk_getf C.1.1 C.1.2.1 h hS C.1.2.2.2.1 (C.1.2.2.2.2 _ hlink) (fun x h => h) hdg (kk hX H locs ls hP hD hS hl)
theorem M_tlen (C : MC p l e R s m args below meth c Z A ss own cc nL ret d mc ms) {q n : Nat} {g : Nat → Value} {v : Int32} (h : va_T .byte q n g A s s.heap) (hv : Int32.ofNat n = v) (hdg : decode cc pc = .ok (.arraylength, 1)) (kk : M p l e R s m args below meth c Z A nL QF z k0 n0 ws (pc + 1) lv (.int v :: st) X) : M p l e R s m args below meth c Z A nL QF z k0 n0 ws pc lv (.ref q :: st) X := fun hX H locs ls hP hD hS hl => va_tlen C.1.1 C.1.2.1 h hS hv hdg (kk hX H locs ls hP hD hS hl)
theorem M_tld (C : MC p l e R s m args below meth c Z A ss own cc nL ret d mc ms) {q n : Nat} {g : Nat → Value} {i : Int32} {v : Value} (h : va_T .byte q n g A s s.heap) (hi : vp_in i n) (hv : g i.toNatClampNeg = v) (hdg : decode cc pc = .ok (.baload, 1)) (kk : M p l e R s m args below meth c Z A nL QF z k0 n0 ws (pc + 1) lv (v :: st) X) : M p l e R s m args below meth c Z A nL QF z k0 n0 ws pc lv (.int i :: .ref q :: st) X := fun hX H locs ls hP hD hS hl => va_tb C.1.1 C.1.2.1 h hS hi hv hdg (kk hX H locs ls hP hD hS hl)
/-! System.arraycopy of bytes, clone of a row of bytes, Math.min -/
theorem M_copyt (C : MC p l e R s m args below meth c Z A ss own cc nL ret d mc ms) {index a b0 na n0' : Nat} {f g : Nat → Int32} {ws1 : va_W} {sp dp n : Int32} {sq dq nq : Nat} (hlink : Cond.methodLink own index arraycopyName ∈ kGT) (hX0 : va_T .byte b0 n0' (fun j => .int (f j)) A s s.heap) (q1 : Nat) (ha1 : ws[q1]? = some (a, eY Z na g)) (h1 : ¬ sp < 0) (h2 : ¬ dp < 0) (h3 : ¬ n < 0) (e1 : sp.toNatClampNeg = sq) (e2 : dp.toNatClampNeg = dq) (e3 : n.toNatClampNeg = nq) (h4 : sq + nq ≤ n0') (h5 : dq + nq ≤ na) (hfit : ∀ i : Nat, i < nq → fits .byte (.int (f (sq + i))) = true) (hd : 1 ≤ d) (hrest : (st.map fun v => v.category).sum ≤ 8) (hw1 : ws.set q1 (a, eY Z na (va_cpy f g sq dq nq)) = ws1) (hdg : decode cc pc = .ok (.invokestatic index, 3)) (kk : M p l e R s m args below meth c Z A nL QF z k0 n0 ws1 (pc + 3) lv st X) : M p l e R s m args below meth c Z A nL QF z k0 n0 ws pc lv (.int n :: .int dp :: .ref a :: .int sp :: .ref b0 :: st) X := fun hX H locs ls hP hD hS hl => by
  subst e1
  subst e2
  subst e3
  subst hw1
  have r1 := C.2.2.2.2.2.1.1
  have r2 := C.2.2.2.2.2.1.2.1
  have hw : nativeFrameWords "java/lang/System" "arraycopy" 5 ≤ 40 := by decide
  exact vk_copyt C.1.1 C.1.2.1 (C.1.2.2.1.trans hl.1.symm) C.1.2.2.2.1 (C.1.2.2.2.2 _ hlink) (C.1.2.2.2.2 _ wsys_2) (C.1.2.2.2.2 _ wsys_3) (C.1.2.2.2.2 _ wsys_4) C.2.1.1 hP hD hS hX0 q1 4 ha1 rfl h1 h2 h3 h4 h5 hfit (by omega) (by omega) hdg (fun H1 locs1 hP1 hD1 hS1 => kk hX H1 locs1 ls hP1 hD1 hS1 hl)
theorem M_copyb (C : MC p l e R s m args below meth c Z A ss own cc nL ret d mc ms) {index a b0 na n0' : Nat} {f g : Nat → Int32} {ws1 : va_W} {sp dp n : Int32} {sq dq nq : Nat} (hlink : Cond.methodLink own index arraycopyName ∈ kGT) (q0 q1 : Nat) (ha0 : ws[q0]? = some (b0, eY Z n0' f)) (ha1 : ws[q1]? = some (a, eY Z na g)) (h1 : ¬ sp < 0) (h2 : ¬ dp < 0) (h3 : ¬ n < 0) (e1 : sp.toNatClampNeg = sq) (e2 : dp.toNatClampNeg = dq) (e3 : n.toNatClampNeg = nq) (h4 : sq + nq ≤ n0') (h5 : dq + nq ≤ na) (hfit : ∀ i : Nat, i < nq → fits .byte (.int (f (sq + i))) = true) (hd : 1 ≤ d) (hrest : (st.map fun v => v.category).sum ≤ 8) (hw1 : ws.set q1 (a, eY Z na (va_cpy f g sq dq nq)) = ws1) (hdg : decode cc pc = .ok (.invokestatic index, 3)) (kk : M p l e R s m args below meth c Z A nL QF z k0 n0 ws1 (pc + 3) lv st X) : M p l e R s m args below meth c Z A nL QF z k0 n0 ws pc lv (.int n :: .int dp :: .ref a :: .int sp :: .ref b0 :: st) X := fun hX H locs ls hP hD hS hl => by
  subst e1
  subst e2
  subst e3
  subst hw1
  have r1 := C.2.2.2.2.2.1.1
  have r2 := C.2.2.2.2.2.1.2.1
  have hw : nativeFrameWords "java/lang/System" "arraycopy" 5 ≤ 40 := by decide
  exact va_copyi C.1.1 C.1.2.1 (C.1.2.2.1.trans hl.1.symm) C.1.2.2.2.1 (C.1.2.2.2.2 _ hlink) (C.1.2.2.2.2 _ wsys_2) (C.1.2.2.2.2 _ wsys_3) (C.1.2.2.2.2 _ wsys_4) C.2.1.1 hP hD hS q0 q1 4 4 ha0 ha1 rfl rfl rfl h1 h2 h3 h4 h5 hfit (by omega) (by omega) hdg (fun H1 locs1 hP1 hD1 hS1 => kk hX H1 locs1 ls hP1 hD1 hS1 hl)
theorem M_clone (C : MC p l e R s m args below meth c Z A ss own cc nL ret d mc ms) (hA : ∀ q, s.heap.size ≤ q → A q) {index a na : Nat} {g : Nat → Int32} (hlink : Cond.methodLink own index ⟨"[B", "clone", "()Ljava/lang/Object;"⟩ ∈ kGT) (h1 : Cond.sameMethod "[B" "java/lang/Object" "clone" "()Ljava/lang/Object;" ∈ kGT) (h2 : Cond.native ⟨"java/lang/Object", "clone", "()Ljava/lang/Object;"⟩ ∈ kGT) (h3 : Cond.instanceMethod ⟨"java/lang/Object", "clone", "()Ljava/lang/Object;"⟩ ∈ kGT) (h4 : Cond.selects "[B" ⟨"[B", "clone", "()Ljava/lang/Object;"⟩ ⟨"java/lang/Object", "clone", "()Ljava/lang/Object;"⟩ ∈ kGT) (q0 : Nat) (he : ws[q0]? = some (a, eY Z na g)) (hfit : ∀ i : Nat, i < na → fits .byte (.int (g i)) = true) (hd : 1 ≤ d) (hrest : (st.map fun v => v.category).sum ≤ 8) (hc1 : k0 + 1 ≤ mc) (hs1 : n0 + na ≤ ms) (hdg : decode cc pc = .ok (.invokevirtual index, 3)) (kk : ∀ q : Nat, M p l e R s m args below meth c Z A nL QF z (k0 + 1) (n0 + na) (ws ++ [(q, eY Z na g)]) (pc + 3) lv (.ref q :: st) X) : M p l e R s m args below meth c Z A nL QF z k0 n0 ws pc lv (.ref a :: st) X := fun hX H locs ls hP hD hS hl => by
  have r1 := C.2.2.2.2.2.1.1
  have r2 := C.2.2.2.2.2.1.2.1
  have hts := C.1.2.2.2.2
  refine va_clone (x := (na, .inl g)) C.1.1 C.1.2.1 (C.1.2.2.1.trans hl.1.symm) C.1.2.2.2.1 (hts _ hlink) (hts _ h1) (hts _ h2) (hts _ h3) (hts _ h4) (C.2.1.2.2.2.2.2.1.2.2 _ List.mem_cons_self) C.2.1.1 hP hD hS hA q0 4 he rfl (show _ = some Z.2.2.1 from (C.2.1.1.2 4 _ rfl).2) (fun i v hv => ?_) (by omega) (by omega) (Nat.le_trans hc1 C.2.2.2.2.2.1.2.2.1) (Nat.le_trans hs1 C.2.2.2.2.2.1.2.2.2) hdg (fun q H1 hK1 hP1 hD1 hS1 => kk q hX H1 locs ls hP1 hD1 hS1 hl)
  have hi : i < na := by
    have h9 := (Array.getElem?_eq_some_iff.mp hv).1
    rw [show (vp_cell Z.2.2.1 (na, .inl g)).slots.size = na from arrV_size _ _ _] at h9
    exact h9
  have h8 : (vp_cell Z.2.2.1 (na, .inl g)).slots[i]? = some (.int (g i)) := by
    show (arrV Z.2.2.1 na (fun j => Value.int (g j))).slots[i]? = _
    exact arrV_read _ _ hi
  rw [h8] at hv
  cases hv
  exact hfit i hi
theorem M_castB (C : MC p l e R s m args below meth c Z A ss own cc nL ret d mc ms) {index a na : Nat} {g : Nat → Int32} (hlink : Cond.classLink own index "[B" ∈ kGT) (q0 : Nat) (he : ws[q0]? = some (a, eY Z na g)) (hdg : decode cc pc = .ok (.checkcast index, 3)) (kk : M p l e R s m args below meth c Z A nL QF z k0 n0 ws (pc + 3) lv (.ref a :: st) X) : M p l e R s m args below meth c Z A nL QF z k0 n0 ws pc lv (.ref a :: st) X := fun hX H locs ls hP hD hS hl => va_castA C.1.1 C.1.2.1 C.1.2.2.2.1 (C.1.2.2.2.2 _ hlink) hP q0 he (show _ = some Z.2.2.1 from (C.2.1.1.2 4 _ rfl).2) hdg (kk hX H locs ls hP hD hS hl)
theorem M_mmin (C : MC p l e R s m args below meth c Z A ss own cc nL ret d mc ms) {idx : Nat} {x y : Int32} (hlink : Cond.methodLink own idx Lib.Math.min.name ∈ kGT) (hd1 : 1 ≤ d) (hk0 : k0 ≤ mc ∧ n0 ≤ ms) (hrest : (st.map fun v => v.category).sum ≤ 8) (hdg : decode cc pc = .ok (.invokestatic idx, 3)) (kk : M p l e R s m args below meth c Z A nL QF z k0 n0 ws (pc + 3) lv (.int (kmin x y) :: st) X) : M p l e R s m args below meth c Z A nL QF z k0 n0 ws pc lv (.int y :: .int x :: st) X := fun hX H locs ls hP hD hS hl => by
  have r1 := C.2.2.2.2.2.1.1
  have r2 := C.2.2.2.2.2.1.2.1
  exact va_mmin C.1.1 C.1.2.1 (C.1.2.2.1.trans hl.1.symm) C.1.2.2.2.1 (C.1.2.2.2.2 _ hlink) (C.1.2.2.2.2 _ wmath_min.1) (C.1.2.2.2.2 _ wmath_min.2.1) (C.1.2.2.2.2 _ wmath_min.2.2) (by omega) (by show _ ≤ R.locals; omega) (Nat.le_trans hk0.1 C.2.2.2.2.2.1.2.2.1) (Nat.le_trans hk0.2 C.2.2.2.2.2.1.2.2.2) hdg (kk hX H locs ls hP hD hS hl)
theorem M_dcmp (C : MC p l e R s m args below meth c Z A ss own cc nL ret d mc ms) {x y : UInt64} {op : CmpOp} (hdg : decode cc pc = .ok (.dcmp op, 1)) (kk : M p l e R s m args below meth c Z A nL QF z k0 n0 ws (pc + 1) lv (.int (Op.cmpValue (FP.dcmp x y) op) :: st) X) : M p l e R s m args below meth c Z A nL QF z k0 n0 ws (pc) lv (.double y :: .double x :: st) X := fun hX H locs ls hP hD hS hl => lv_dcmp C.1.1 C.1.2.1 hdg (kk hX H locs ls hP hD hS hl)
theorem M_fcmp (C : MC p l e R s m args below meth c Z A ss own cc nL ret d mc ms) {x y : UInt32} {op : CmpOp} (hdg : decode cc pc = .ok (.fcmp op, 1)) (kk : M p l e R s m args below meth c Z A nL QF z k0 n0 ws (pc + 1) lv (.int (Op.cmpValue (FP.fcmp x y) op) :: st) X) : M p l e R s m args below meth c Z A nL QF z k0 n0 ws (pc) lv (.float y :: .float x :: st) X := fun hX H locs ls hP hD hS hl => lv_fcmp C.1.1 C.1.2.1 hdg (kk hX H locs ls hP hD hS hl)
theorem M_d2raw (C : MC p l e R s m args below meth c Z A ss own cc nL ret d mc ms) {index : Nat} {b : UInt64} (hlink : Cond.methodLink own index ⟨"java/lang/Double", "doubleToRawLongBits", "(D)J"⟩ ∈ kGT) (hw : Cond.native ⟨"java/lang/Double", "doubleToRawLongBits", "(D)J"⟩ ∈ kGT ∧ Cond.static ⟨"java/lang/Double", "doubleToRawLongBits", "(D)J"⟩ ∈ kGT ∧ Cond.initialized "java/lang/Double" ∈ kGT) (hd : 1 ≤ d) (hrest : (st.map fun v => v.category).sum ≤ 8) (hdg : decode cc pc = .ok (.invokestatic index, 3)) (kk : M p l e R s m args below meth c Z A nL QF z k0 n0 ws (pc + 3) lv (.long b.toInt64 :: st) X) : M p l e R s m args below meth c Z A nL QF z k0 n0 ws (pc) lv (.double b :: st) X := fun hX H locs ls hP hD hS hl => by
  have r1 := C.2.2.2.2.2.1.1
  have r2 := C.2.2.2.2.2.1.2.1
  exact vn_d2l C.1.1 C.1.2.1 (C.1.2.2.1.trans hl.1.symm) C.1.2.2.2.1 (C.1.2.2.2.2 _ hlink) (C.1.2.2.2.2 _ hw.1) (C.1.2.2.2.2 _ hw.2.1) (C.1.2.2.2.2 _ hw.2.2) (by omega) (by omega) hdg (kk hX H locs ls hP hD hS hl)
theorem M_f2raw (C : MC p l e R s m args below meth c Z A ss own cc nL ret d mc ms) {index : Nat} {b : UInt32} (hlink : Cond.methodLink own index ⟨"java/lang/Float", "floatToRawIntBits", "(F)I"⟩ ∈ kGT) (hw : Cond.native ⟨"java/lang/Float", "floatToRawIntBits", "(F)I"⟩ ∈ kGT ∧ Cond.static ⟨"java/lang/Float", "floatToRawIntBits", "(F)I"⟩ ∈ kGT ∧ Cond.initialized "java/lang/Float" ∈ kGT) (hd : 1 ≤ d) (hrest : (st.map fun v => v.category).sum ≤ 8) (hdg : decode cc pc = .ok (.invokestatic index, 3)) (kk : M p l e R s m args below meth c Z A nL QF z k0 n0 ws (pc + 3) lv (.int b.toInt32 :: st) X) : M p l e R s m args below meth c Z A nL QF z k0 n0 ws (pc) lv (.float b :: st) X := fun hX H locs ls hP hD hS hl => by
  have r1 := C.2.2.2.2.2.1.1
  have r2 := C.2.2.2.2.2.1.2.1
  exact vn_f2i C.1.1 C.1.2.1 (C.1.2.2.1.trans hl.1.symm) C.1.2.2.2.1 (C.1.2.2.2.2 _ hlink) (C.1.2.2.2.2 _ hw.1) (C.1.2.2.2.2 _ hw.2.1) (C.1.2.2.2.2 _ hw.2.2) (by omega) (by omega) hdg (kk hX H locs ls hP hD hS hl)
end MCALL
