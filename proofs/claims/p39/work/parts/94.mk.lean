/-! rows for the law itself -/
theorem jcl_L_8 : Cond.classLink RL 8 RX11 ∈ kGT := kgt (List.mem_of_getElem? (i := 57) (by decide +kernel)) rfl
theorem jins_X11 : Cond.instantiable RX11 9 ∈ kGT := kgt (List.mem_of_getElem? (i := 58) (by decide +kernel)) rfl
theorem jini_X11 : Cond.initialized RX11 ∈ kGT := kgt (List.mem_of_getElem? (i := 21) (by decide +kernel)) rfl
theorem jys_init : kYI yX11_init cX11_init 1 0 := ⟨⟨kgt (List.mem_of_getElem? (i := 61) (by decide +kernel)) rfl, kgt (List.mem_of_getElem? (i := 21) (by decide +kernel)) rfl, by decide +kernel, by decide⟩, rfl, kgt (List.mem_of_getElem? (i := 60) (by decide +kernel)) rfl⟩
theorem jm_L_296 : Cond.methodLink RL 296 yX11_init ∈ kGT := kgt (List.mem_of_getElem? (i := 59) (by decide +kernel)) rfl
theorem jyv_save : kYV yX11_save cX11_save 1 (some .int) 0 := ⟨⟨kgt (List.mem_of_getElem? (i := 405) (by decide +kernel)) rfl, kgt (List.mem_of_getElem? (i := 21) (by decide +kernel)) rfl, by decide +kernel, by decide⟩, kgt (List.mem_of_getElem? (i := 403) (by decide +kernel)) rfl, kgt (List.mem_of_getElem? (i := 404) (by decide +kernel)) rfl⟩
theorem jm_L_301 : Cond.methodLink RL 301 yX11_save ∈ kGT := kgt (List.mem_of_getElem? (i := 402) (by decide +kernel)) rfl
theorem jyv_faultPosition : kYV yX11_faultPosition cX11_faultPosition 1 (some .int) 0 := ⟨⟨kgt (List.mem_of_getElem? (i := 401) (by decide +kernel)) rfl, kgt (List.mem_of_getElem? (i := 21) (by decide +kernel)) rfl, by decide +kernel, by decide⟩, kgt (List.mem_of_getElem? (i := 399) (by decide +kernel)) rfl, kgt (List.mem_of_getElem? (i := 400) (by decide +kernel)) rfl⟩
theorem jm_L_306 : Cond.methodLink RL 306 yX11_faultPosition ∈ kGT := kgt (List.mem_of_getElem? (i := 398) (by decide +kernel)) rfl
theorem wst_L : Cond.arrayClass .long ∈ kGT := kgt (List.mem_of_getElem? (i := 1602) (by decide +kernel)) rfl
def AL (s : State) : Nat → Prop := fun q => s.heap.size ≤ q
/-- a method of the class that throws nothing, as a contract over cells -/
theorem mMet_k {l : Launch} {Z : mZ} {ad : Nat → Nat} (had : mAd Z ad) {y : MethodName} {b : ByteArray} {nL d : Nat} {av : List Value} {f fo : kMem} {r : Int32} (h : kMet l (wC Z.1 ad) y b nL (some .int) d av f r fo) : mMet l Z y (.code y b nL (some .int)) d 0 0 av (kw (wC Z.1 ad) f) [] (mQi (wC Z.1 ad) (r, fo)) := by
  intro sz
  have hA8 : wA (kw (wC Z.1 ad) f) sz = kA (wC Z.1 ad) sz := funext fun q => propext kA_wA.symm
  rw [hA8]
  intro p e ha hc hk s m args below hf happ hP hK
  obtain ⟨rfl, q0, qP, qD, qE, qS⟩ := hP
  subst q0
  have hkB : kB (wC Z.1 ad) f s := (kB_m (A := wA (kw (wC Z.1 ad) f) s.heap.size) had (State.WarmedH.refl s) rfl qE (fun _ _ _ => rfl) (fun q h => kA_wA.mp h) qP qD).1
  obtain ⟨n, o, h1, h2, h3, ⟨q1, q2, q3⟩, q4⟩ := h s.heap.size p e ha hc hk s m _ below hf happ ⟨rfl, rfl, hkB⟩ hK
  exact ⟨n, o, h1, h2, h3, ⟨some (.int r), kw (wC Z.1 ad) fo, q1, ⟨rfl, rfl⟩, q2, (by rw [hA8]; exact kw_DA qD), (by rw [hA8]; exact q3)⟩, q4⟩
theorem adC_st {h0 : Nat} {st : Nat → Nat} {u : Nat → Nat → Nat} {k : Nat} : adC h0 st u (1000 + k) = st k := by
  unfold adC
  repeat rw [if_neg (by omega)]
  rw [Nat.add_sub_cancel_left]
section MK
variable {p : Program} {l : Launch} {e : Env} {R : Room} {s : State} {m : MethodId} {args : Array Value} {below : List Frame} {meth : Method} {c : Code} {Z : mZ} {A : Nat → Prop} {ss : List (Nat × Nat × List Int32)} {cc : ByteArray} {nL : Nat} {ret : Option FieldType} {d mc ms : Nat} {ρ : Type} {QF : State → Prop} {z : ρ} {X : Option ρ} {wi1 wr ws : va_W} {pc k0 n0 : Nat} {lv : List (Nat × Value)} {st rest : List Value} {f : kMem} {ad : Nat → Nat}
theorem M_ctor (C : MC p l e R s m args below meth c Z A ss RL cc nL ret d mc ms) (hA : ∀ q, s.heap.size ≤ q → A q) (hAO : va_AO "MouldFloor$Floor" s) {q : Nat} (hd : 4 < d) (hk : k0 + 291 ≤ mc ∧ n0 + 4544 ≤ ms) (hrest : (st.map fun v => v.category).sum ≤ 8) (hdg : decode cc pc = .ok (.invokespecial 296, 3)) (kk : ∀ u, M p l e R s m args below meth c Z A nL QF z (k0 + 291) (n0 + 4544) (wr ++ Y_X11 Z.1 q u) (pc + 3) lv st X) : M p l e R s m args below meth c Z A nL QF z k0 n0 (wr ++ [(q, .inr (14, [.null, .null, .null, .null, .null, .null, .null, .null, .int 0]))]) pc lv (.ref q :: st) X := by
  intro hX H locs ls hP hD hS hl
  have hR : (kRm 4 291 4544).frames + 1 ≤ R.frames ∧ 8 + (1 + 11) + (kRm 4 291 4544).locals ≤ R.locals := by
    have h1 := C.2.2.2.2.2.1.1
    have h2 := C.2.2.2.2.2.1.2.1
    exact ⟨by show 4 + 1 ≤ _; omega, by show 8 + (1 + 11) + 64 * 4 ≤ _; omega⟩
  have hq : A q := hD.2 wr.length (q, .inr (14, [.null, .null, .null, .null, .null, .null, .null, .null, .int 0])) (by simp)
  have hsub : ∀ a, kIA q H.size a → A a := fun a h => h.elim (fun e => by rw [e]; exact hq) (fun e => hA a (Nat.le_trans hS.1 e))
  have hts := C.1.2.2.2.2
  have hpre : ∀ U : State, U.heap = H → s.WarmedH U.vm → va_Pc [.ref q] (fun U => U.heap.size = H.size ∧ kIB Z.1 0 [(q, .inr (14, [.null, .null, .null, .null, .null, .null, .null, .null, .int 0]))] (kIA q H.size) U) [Value.ref q].toArray U := by
    intro U hU hW
    refine ⟨rfl, by rw [hU], ?_, va_K.moved hW.alike (C.2.1.1.sub [0, 1, 2] rfl), kNW_moved hW C.2.1.2.1, kSI_to (s := s) hW.alike (H := s.heap) (fun a h1 h2 => by rw [hU]; exact hS.2.1 a h1 h2) hsub hAO⟩
    rw [hU]
    intro i x hx
    have h1 := (List.getElem?_eq_some_iff.mp hx).1
    simp at h1
    subst h1
    exact hP wr.length x (by simpa using hx)
  have go : va_Run p l e R s m args below meth c H locs k0 n0 291 4544 (F0 m pc ls (.ref q :: st)) st (va_Qv (fun _ : (Nat → Nat → Nat) => True) (fun u t => va_P Z.1.1 vwCl (Y_X11 Z.1 q u) t.heap ∧ va_D (kIA q H.size) (Y_X11 Z.1 q u)) (kIA q H.size) (Value.ref q :: []).toArray) (kIA q H.size) := va_runI (As := []) (rest := st) C.1 (kim_X11_init l Z.1 0 q H.size) ⟨callB_of 0 hts (kcode_in jys_init.1.1) rfl rfl rfl (hts _ jys_init.1.2.1) (hts _ jm_L_296) jys_init.1.2.2.1 hR, jys_init.2.1, hts _ jys_init.2.2⟩ ⟨kIblind, hpre⟩ rfl rfl (hl.1.trans rfl) rfl (lv_room hrest) hdg ⟨Nat.le_trans hk.1 C.2.2.2.2.2.1.2.2.1, Nat.le_trans hk.2 C.2.2.2.2.2.1.2.2.2⟩
  refine va_callv go hS (fun a _ h => hsub a h) hsub (fun u t H1 locs1 ht hvm _ hB hz1 hk1 hS1 => ?_)
  obtain ⟨hPY, hDY⟩ := hB
  rw [ht] at hPY
  obtain ⟨hP2, hD2⟩ := I_cut hP hD hk1 hsub hPY hDY
  exact kk u hX H1 locs1 ls hP2 hD2 hS1 hl
theorem M_forget (kk : M p l e R s m args below meth c Z A nL QF z k0 n0 [] pc lv st X) : M p l e R s m args below meth c Z A nL QF z k0 n0 ws pc lv st X := fun hX H locs ls hP hD hS hl => kk hX H locs ls (fun k q h => by simp at h) ⟨fun i j p q h => by simp at h, fun k q h => by simp at h⟩ hS hl
/-- a new object of the class: new, dup, <init> -/
theorem M_mk (C : MC p l e R s m args below meth c Z A ss RL cc nL ret d mc ms) (hA : ∀ q, s.heap.size ≤ q → A q) (hAO : va_AO "MouldFloor$Floor" s) (hd : 4 < d) (hk : k0 + 292 ≤ mc ∧ n0 + 4553 ≤ ms) (hrest : (st.map fun v => v.category).sum ≤ 6) (h0 : decode cc pc = .ok (.new 8, 3)) (h3 : decode cc (pc + 3) = .ok (.dup, 1)) (h4 : decode cc (pc + 4) = .ok (.invokespecial 296, 3)) (kk : ∀ ad, mAd Z ad → M p l e R s m args below meth c Z A nL QF z (k0 + 292) (n0 + 4553) (kw (wC Z.1 ad) f0 ++ []) (pc + 7) lv (.ref (ad 291) :: st) X) : M p l e R s m args below meth c Z A nL QF z k0 n0 [] pc lv st X := by
  refine M_new C hA (ci := 14) (fs := [.null, .null, .null, .null, .null, .null, .null, .null, .int 0]) kin_X11 tyX11 tyX11_ok jcl_L_8 jins_X11 jini_X11 rfl (fun j hj => by rcases (show j = 0 ∨ j = 1 ∨ j = 2 ∨ j = 3 ∨ j = 4 ∨ j = 5 ∨ j = 6 ∨ j = 7 ∨ j = 8 by omega) with rfl | rfl | rfl | rfl | rfl | rfl | rfl | rfl | rfl <;> rfl) (by omega) (by omega) h0 (fun q => ?_)
  refine M_dup C rfl h3 ?_
  refine M_ctor C hA hAO hd ⟨by omega, by omega⟩ (by rw [List.map_cons, List.sum_cons]; exact Nat.le_trans (Nat.add_le_add_left hrest _) (show 1 + 6 ≤ 8 by decide)) h4 (fun u => ?_)
  intro hX H locs ls hP hD hS hl
  obtain ⟨p1, p2⟩ := asmC (st := mst Z) (A := A) (G := Z.1) (h0 := q) (u := u) (H := H) hP hD
  have e9 : adC q (mst Z) u 291 = q := rfl
  have h9 := kk (adC q (mst Z) u) (fun k => adC_st) hX H locs ls (by rw [List.append_nil]; exact p1) (by rw [List.append_nil]; exact p2) hS hl
  rw [e9] at h9
  exact h9
/-- the array of longs beside the object -/
theorem M_laldW (C : MC p l e R s m args below meth c Z A ss RL cc nL ret d mc ms) {qa : Nat} {g : Nat → Int64} {i : Int32} (hi : kin i 13 = true) (hdg : decode cc pc = .ok (.laload, 1)) (kk : M p l e R s m args below meth c Z A nL QF z k0 n0 (ws ++ [(qa, eL Z 13 g)]) (pc + 1) lv (.long (g i.toNatClampNeg) :: st) X) : M p l e R s m args below meth c Z A nL QF z k0 n0 (ws ++ [(qa, eL Z 13 g)]) pc lv (.int i :: .ref qa :: st) X := by
  refine M_perm (ws1 := [(qa, eL Z 13 g)] ++ ws) List.perm_append_comm ?_
  refine M_lald C (a := qa) (n := 13) (g := g) 0 rfl (kin_in hi) rfl hdg ?_
  exact M_perm (ws1 := ws ++ [(qa, eL Z 13 g)]) List.perm_append_comm kk
theorem M_lastW (C : MC p l e R s m args below meth c Z A ss RL cc nL ret d mc ms) {qa : Nat} {g : Nat → Int64} {i : Int32} {x : Int64} (hi : kin i 13 = true) (hdg : decode cc pc = .ok (.lastore, 1)) (kk : M p l e R s m args below meth c Z A nL QF z k0 n0 (ws ++ [(qa, eL Z 13 (vp_updL g i.toNatClampNeg x))]) (pc + 1) lv st X) : M p l e R s m args below meth c Z A nL QF z k0 n0 (ws ++ [(qa, eL Z 13 g)]) pc lv (.long x :: .int i :: .ref qa :: st) X := by
  refine M_perm (ws1 := [(qa, eL Z 13 g)] ++ ws) List.perm_append_comm ?_
  refine M_last C (a := qa) (n := 13) (g := g) 0 rfl (kin_in hi) rfl (ws1 := [(qa, eL Z 13 (vp_updL g i.toNatClampNeg x))] ++ ws) rfl hdg ?_
  exact M_perm (ws1 := ws ++ [(qa, eL Z 13 (vp_updL g i.toNatClampNeg x))]) List.perm_append_comm kk
theorem M_fcmpK (C : MC p l e R s m args below meth c Z A ss RL cc nL ret d mc ms) {x b : UInt32} {op : CmpOp} (hb : FP.Core.fIsNaN b = false) (hdg : decode cc pc = .ok (.fcmp op, 1)) (kk : M p l e R s m args below meth c Z A nL QF z k0 n0 ws (pc + 1) lv (.int 0 :: st) X) : M p l e R s m args below meth c Z A nL QF z k0 n0 ws pc lv (.float b :: .float x :: st) (kchk (decide (x = b)) X) := by
  refine M_chk (fun h => ?_)
  obtain rfl := of_decide_eq_true h
  refine M_fcmp C hdg ?_
  exact M_top (y := 0) (by rw [fcmpI hb]; rfl) kk
theorem M_dcmpK (C : MC p l e R s m args below meth c Z A ss RL cc nL ret d mc ms) {x b : UInt64} {op : CmpOp} (hb : FP.Core.dIsNaN b = false) (hdg : decode cc pc = .ok (.dcmp op, 1)) (kk : M p l e R s m args below meth c Z A nL QF z k0 n0 ws (pc + 1) lv (.int 0 :: st) X) : M p l e R s m args below meth c Z A nL QF z k0 n0 ws pc lv (.double b :: .double x :: st) (kchk (decide (x = b)) X) := by
  refine M_chk (fun h => ?_)
  obtain rfl := of_decide_eq_true h
  refine M_dcmp C hdg ?_
  exact M_top (y := 0) (by rw [dcmpI hb]; rfl) kk
end MK
/-- the law's own end -/
theorem M_end {p : Program} {l : Launch} {e : Env} {s : State} {m : MethodId} {below : List Frame} {meth : Method} {c : Code} {b : Nat} {Z : mZ} {ss : List (Nat × Nat × List Int32)} {d : Nat} {ρ : Type} {z : ρ} {X : Option ρ} {ws : va_W} {pc k0 n0 : Nat} {lv : List (Nat × Value)} (C : MC p l e room_1 s m #[Value.ref b] below meth c Z (AL s) ss RL cL_law 11 ret d 600312 7291330) (hk : k0 ≤ 600312 ∧ n0 ≤ 7291330) (hdg : decode cL_law pc = .ok (.ireturn, 1)) : M p l e room_1 s m #[Value.ref b] below meth c Z (AL s) 11 (lw_Z below #[Value.ref b] s) z k0 n0 ws pc lv [.int 1] X := fun hX H locs ls hP hD hS hl => by
  refine va_forget (fun q hq => hS.2.2 q hq) ?_
  refine W.widen (k := 600312) (n := 7291330) hk.1 hk.2 ?_
  exact W.base (lw_ret (d0 := s.drawn) (Drawn.sameBut.refl s.drawn lw_cs) C.1.1 C.1.2.1 C.2.2.2.1 C.2.2.2.2.1 hdg)
