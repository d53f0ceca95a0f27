/-! the law's wrappers: a call of the class, its exceptions caught; the answer as a number -/
def mQi (w : KW) (z : Int32 × kMem) : Option Value → va_W → Prop := fun v wo => v = some (.int z.1) ∧ wo = kw w z.2
def mQl (w : KW) (z : Int64 × kMem) : Option Value → va_W → Prop := fun v wo => v = some (.long z.1) ∧ wo = kw w z.2
def mQf (w : KW) (z : UInt32 × kMem) : Option Value → va_W → Prop := fun v wo => v = some (.float z.1) ∧ wo = kw w z.2
def mQd (w : KW) (z : UInt64 × kMem) : Option Value → va_W → Prop := fun v wo => v = some (.double z.1) ∧ wo = kw w z.2
/-- the world of an object of the class -/
def mAd (Z : mZ) (ad : Nat → Nat) : Prop := ∀ k, ad (1000 + k) = mst Z k
theorem kA_wA {w : KW} {f : kMem} {sz q : Nat} : kA w sz q ↔ wA (kw w f) sz q := by
  constructor
  · rintro (⟨a, ha, rfl⟩ | h)
    · exact Or.inl ⟨_, kw_in ha, rfl⟩
    · exact Or.inr h
  · rintro (⟨x, hx, rfl⟩ | h)
    · obtain ⟨a, ha, rfl⟩ := kw_mem hx
      exact Or.inl ⟨a, ha, rfl⟩
    · exact Or.inr h
theorem kB_m {Z : mZ} {ad : Nat → Nat} {A B : Nat → Prop} {s U : State} {H : Heap} {f : kMem} (had : mAd Z ad) (hW : s.WarmedH U.vm) (hU : U.heap = H) (hE : mENV Z A s s.heap) (hq : ∀ a : Nat, a < s.heap.size → ¬ A a → H[a]? = s.heap[a]?) (hsub : ∀ q, kA (wC Z.1 ad) H.size q → A q) (hP : va_P Z.1.1 vwCl (kw (wC Z.1 ad) f) H) (hD : va_D B (kw (wC Z.1 ad) f)) : kBx (wC Z.1 ad) f U := by
  obtain ⟨h1, h2, ⟨h3, h4⟩, h5, -⟩ := mENV_to (U := U) (H1 := H) hW hq hsub hE
  have e1 : kad (wC Z.1 ad) (1000 + 1) = mst Z 1 := had 1
  have e2 : kad (wC Z.1 ad) (1000 + 2) = mst Z 2 := had 2
  refine ⟨⟨by rw [hU]; exact hP, h1.sub [0, 1, 2] rfl, ⟨hD.1, fun _ _ _ => trivial⟩, h2, ?_⟩, by rw [hU]; exact h5⟩
  rw [hU]
  unfold kS kS1
  rw [e1, e2]
  exact ⟨h3, h4⟩
section MW
variable {p : Program} {l : Launch} {e : Env} {R : Room} {s : State} {m : MethodId} {args : Array Value} {below : List Frame} {meth : Method} {c : Code} {Z : mZ} {A : Nat → Prop} {ss : List (Nat × Nat × List Int32)} {own : String} {cc : ByteArray} {nL : Nat} {ret : Option FieldType} {d mc ms : Nat} {Q : State → Prop} {f : kMem} {ad : Nat → Nat} {pc : Nat} {H : Heap} {locs : List Loc} {ls : Array Slot} {st rest : List Value} {lv : List (Nat × Value)} {k0 n0 : Nat} {wr : va_W}
theorem M_wcall (C : MC p l e R s m args below meth c Z A ss RL cc nL ret d mc ms) (hA : ∀ q, s.heap.size ≤ q → A q) (had : mAd Z ad) {y : MethodName} {b1 : ByteArray} {nL1 : Nat} {ret1 : Option FieldType} {d1 idx n : Nat} {As : List Value} {z : Nat × Value × kMem} (hY : kYV y b1 nL1 ret1 n) (hcls : y.cls = RX11) (hlink : Cond.methodLink RL idx y ∈ kGT) (hd1 : d1 < d) (hk : k0 + 2 ≤ mc ∧ n0 + 12 ≤ ms) (hM : kxMetV l (wC Z.1 ad) y b1 nL1 ret1 d1 2 12 (.ref (ad 291) :: As) f z) (hn : As.length = n) (hst : st = As.reverse ++ .ref (ad 291) :: rest) (hrest : (rest.map fun v => v.category).sum ≤ 8) (hdg : decode cc pc = .ok (.invokevirtual idx, 3))
    (hP : va_P Z.1.1 vwCl (kw (wC Z.1 ad) f ++ wr) H) (hD : va_D A (kw (wC Z.1 ad) f ++ wr)) (hS : va_S A s.heap H locs) (hl : lv_has ls nL lv)
    (kk : z.1 = 0 → ∀ (H1 : Heap) (locs1 : List Loc), va_P Z.1.1 vwCl (kw (wC Z.1 ad) z.2.2 ++ wr) H1 → va_D A (kw (wC Z.1 ad) z.2.2 ++ wr) → va_S A s.heap H1 locs1 → W p l e R s m args below meth c H1 locs1 (k0 + 2) (n0 + 12) Q (F0 m (pc + 3) ls (z.2.1 :: rest)))
    (kx : z.1 ≠ 0 → ∀ (ce : Cell) (q9 : Addr) (H1 : Heap) (locs1 : List Loc), va_P Z.1.1 vwCl (kw (wC Z.1 ad) z.2.2 ++ wr) H1 → va_D A (kw (wC Z.1 ad) z.2.2 ++ wr) → va_S A s.heap H1 locs1 → H1[q9]? = some ce → ce.vm = .none → s.vm.findClass (kE z.1) = some ce.cls → vx_W p l e R s m args below meth c H1 locs1 (k0 + 2) (n0 + 12) Q (F0 m pc ls rest) q9) : W p l e R s m args below meth c H locs k0 n0 Q (F0 m pc ls st) := by
  subst hst
  have hR : (kRm d1 2 12).frames + 1 ≤ R.frames ∧ 8 + (nL1 + 11) + (kRm d1 2 12).locals ≤ R.locals := by
    have h1 := C.2.2.2.2.2.1.1
    have h2 := C.2.2.2.2.2.1.2.1
    have := hY.1.2.2.2
    exact ⟨by show d1 + 1 ≤ _; omega, by show 8 + (nL1 + 11) + 64 * d1 ≤ _; omega⟩
  have hts := C.1.2.2.2.2
  have hsub0 := wA_sub hD hA hS.1
  have hsub : ∀ q, kA (wC Z.1 ad) H.size q → A q := fun q h => hsub0 q (kA_wA.mp h)
  have hPw : va_P Z.1.1 vwCl (kw (wC Z.1 ad) f) H := vP_mem.mpr fun q hq => vP_mem.mp hP q (List.mem_append_left _ hq)
  have hDw : va_D A (kw (wC Z.1 ad) f) := (vD_app.mp hD).1
  have hK3 : va_K (wC Z.1 ad).1.1 vwCl (ktys (wC Z.1 ad)) s := C.2.1.1.sub [0, 1, 2] rfl
  have hrun := vx_runV (C := y.cls) (As := As) (rest := rest) (g := F0 m pc ls (As.reverse ++ .ref (ad 291) :: rest)) (H := H) (locs := locs) (cells := k0) (slots := n0) (e := e) (below := below) (meth := meth) C.1 (hM H.size) ⟨(callB_of n hts (kcode_in hY.1.1) rfl rfl rfl (hts _ hY.1.2.1) (hts _ hlink) hY.1.2.2.1 hR), hts _ hY.2.1, hts _ hY.2.2⟩ ⟨kxblind, (by rw [hcls]; exact va_recv hK3 hPw (ci := 14) rfl (kw_obj (w := wC Z.1 ad) (a := 291) (Nat.le_of_ble_eq_true rfl) (shC_291 Z.1 ad))), fun U hU hW => ⟨rfl, by rw [hU], kB_m had hW hU C.2.1 hS.2.1 hsub hPw hDw⟩⟩ rfl hn (hl.1.trans rfl) rfl (lv_room hrest) hdg ⟨Nat.le_trans hk.1 C.2.2.2.2.2.1.2.2.1, Nat.le_trans hk.2 C.2.2.2.2.2.1.2.2.2⟩
  intro T hT X
  have go : ∀ (t T' : State) (L : List Loc), T'.heap = t.heap → (∀ q ∈ L, kA (wC Z.1 ad) H.size q.base) → H.size ≤ t.heap.size → (∀ q : Nat, q < H.size → ¬ kA (wC Z.1 ad) H.size q → t.heap[q]? = H[q]?) → va_S A s.heap T'.heap (locs ++ L) := fun t T' L e1 hL hz hk =>
    ⟨Nat.le_trans hS.1 (by rw [e1]; exact hz), fun q h1 h2 => by rw [e1, hk q (Nat.lt_of_lt_of_le h1 hS.1) (fun z => h2 (hsub q z))]; exact hS.2.1 q h1 h2, fun q hq => by
      rcases List.mem_append.mp hq with h | h
      · exact hS.2.2 q h
      · exact hsub _ (hL q h)⟩
  rcases hrun T hT X with ⟨v, st₀, t, T', L, h0, X', hL, e1, e2, ⟨hk9, hv, hp, hz, hk⟩, st⟩ | ⟨q, st₀, t, T', L, E, ce, h0, X', hL, e1, e2, ⟨hk9, hE9, hp, hz, hk⟩, hce, hcv, hcl, st⟩
  · injection hv with hv
    subst hv
    rw [h0] at hz hk
    obtain ⟨hP2, hD2⟩ := kframe (w := wC Z.1 ad) hP hD (H1 := T'.heap) (fun q h1 h2 => by rw [e1]; exact hk q h1 h2) (by rw [e1]; exact hp)
    obtain ⟨t2, a1, b1⟩ := kk hk9 T'.heap (locs ++ L) hP2 hD2 (go t T' L e1 hL hz hk) T' rfl X'
    exact ⟨t2, st t2 a1, b1⟩
  · subst hE9
    rw [h0] at hz hk
    obtain ⟨hP2, hD2⟩ := kframe (w := wC Z.1 ad) hP hD (H1 := T'.heap) (fun q h1 h2 => by rw [e1]; exact hk q h1 h2) (by rw [e1]; exact hp)
    obtain ⟨t2, a1, b1⟩ := kx hk9 ce q T'.heap (locs ++ L) hP2 hD2 (go t T' L e1 hL hz hk) (by rw [e1]; exact hce) hcv hcl T' rfl X'
    exact ⟨t2, st.trans a1, b1⟩
end MW
/-- what a wrapper answers: -1001 for the first exception that it names, -1002 for the second .. -/
def wvx (ks : List Nat) (X : Option kXr) : Option (Int32 × kMem) := match X with
  | none => none
  | some z => if z.1 = 0 then some (z.2.1, z.2.2) else if z.1 ∈ ks then some (-1001 - Int32.ofNat (ks.idxOf z.1), z.2.2) else none
theorem wvx_some {ks : List Nat} {X : Option kXr} {r : Int32} {fo : kMem} (h : wvx ks X = some (r, fo)) : ∃ z, X = some z ∧ ((z.1 = 0 ∧ r = z.2.1 ∧ fo = z.2.2) ∨ (z.1 ≠ 0 ∧ z.1 ∈ ks ∧ r = -1001 - Int32.ofNat (ks.idxOf z.1) ∧ fo = z.2.2)) := by
  cases X with
  | none => cases h
  | some z =>
    refine ⟨z, rfl, ?_⟩
    unfold wvx at h
    by_cases h0 : z.1 = 0
    · simp only [h0, if_true] at h
      cases h
      exact Or.inl ⟨h0, rfl, rfl⟩
    · simp only [h0, if_false] at h
      by_cases hk : z.1 ∈ ks
      · rw [if_pos hk] at h
        have h1 := Prod.mk.inj (Option.some.inj h)
        exact Or.inr ⟨h0, hk, h1.1.symm, h1.2.symm⟩
      · rw [if_neg hk] at h
        cases h
def wvf (X : Option (Nat × Value × kMem)) : Option (UInt32 × kMem) := match X with
  | some (0, .float x, f) => some (x, f)
  | some (6, _, f) => some (3296346112, f)
  | _ => none
def wvd (X : Option (Nat × Value × kMem)) : Option (UInt64 × kMem) := match X with
  | some (0, .double x, f) => some (x, f)
  | some (6, _, f) => some (13875388141788987392, f)
  | _ => none
theorem wvf_some {X : Option (Nat × Value × kMem)} {r : UInt32} {fo : kMem} (h : wvf X = some (r, fo)) : X = some (0, .float r, fo) ∨ (∃ v, X = some (6, v, fo) ∧ r = 3296346112) := by
  unfold wvf at h
  split at h
  · have h1 := Prod.mk.inj (Option.some.inj h)
    exact Or.inl (by rw [h1.1, h1.2])
  · have h1 := Prod.mk.inj (Option.some.inj h)
    exact Or.inr ⟨_, by rw [h1.2], h1.1.symm⟩
  · exact nomatch h
theorem wvd_some {X : Option (Nat × Value × kMem)} {r : UInt64} {fo : kMem} (h : wvd X = some (r, fo)) : X = some (0, .double r, fo) ∨ (∃ v, X = some (6, v, fo) ∧ r = 13875388141788987392) := by
  unfold wvd at h
  split at h
  · have h1 := Prod.mk.inj (Option.some.inj h)
    exact Or.inl (by rw [h1.1, h1.2])
  · have h1 := Prod.mk.inj (Option.some.inj h)
    exact Or.inr ⟨_, by rw [h1.2], h1.1.symm⟩
  · exact nomatch h
theorem m_cast {Z : mZ} {A : Nat → Prop} {s : State} {H : Heap} {args : Array Value} {k : Nat} (h : mENV Z A s H) (hk : Cond.castable (kE k) (kE k) ∈ kXN) : (Cond.castable (kE k) (kE k)).before args s = true := va_Nw.use rfl (h.2.2.2.1.2.2.2 _ hk)
theorem wm_RL_7 : Cond.methodLink RL 7 yX11_append ∈ kGT := kgt (List.mem_of_getElem? (i := 445) (by decide +kernel)) rfl
theorem hy_X11_append : kYV yX11_append cX11_append 2 (some .int) 1 := ⟨⟨kgt (List.mem_of_getElem? (i := 448) (by decide +kernel)) rfl, kgt (List.mem_of_getElem? (i := 21) (by decide +kernel)) rfl, by decide +kernel, by decide⟩, kgt (List.mem_of_getElem? (i := 446) (by decide +kernel)) rfl, kgt (List.mem_of_getElem? (i := 447) (by decide +kernel)) rfl⟩
theorem wcl_RL_13 : Cond.classLink RL 13 (kE 1) ∈ kGT := kgt (List.mem_of_getElem? (i := 444) (by decide +kernel)) rfl
set_option maxRecDepth 100000 in
set_option maxHeartbeats 4000000 in
theorem wl_append (l : Launch) (hst : l.stackTraces = false) (Z : mZ) (ad : Nat → Nat) (had : mAd Z ad) (f : kMem) (x1 : Int32) (r : Int32) (fo : kMem) (h : wvx [1] (cx_X11_append f x1) = some (r, fo)) : mMet l Z yL_append (.codeWith yL_append cL_append 3 (some .int) [(0, 5, 6, 13)]) 7 2 12 [.ref (ad 291), .int x1] (kw (wC Z.1 ad) f) [] (mQi (wC Z.1 ad) (r, fo)) := by
  obtain ⟨z, hz, hcase⟩ := wvx_some h
  refine mMet_ofW (z := ()) (X := some ()) (own := RL) (lv := [(0, .ref (ad 291)), (1, .int x1)]) hst (by decide) rfl (Nat.le_of_ble_eq_true rfl) rfl rfl ?_
  intro p e R s m args below meth c C htab
  have hA : ∀ q, s.heap.size ≤ q → wA (kw (wC Z.1 ad) f) s.heap.size q := fun q h => Or.inr h
  refine M_aload_n C 0 rfl rfl dL_append_0 ?_
  refine M_iload_n C 1 rfl rfl dL_append_1 ?_
  intro hX H locs ls hP hD hS hl
  rw [← List.append_nil (kw (wC Z.1 ad) f)] at hP
  have hD0 : va_D (wA (kw (wC Z.1 ad) f) s.heap.size) (kw (wC Z.1 ad) f ++ []) := by rw [List.append_nil]; exact hD
  refine M_wcall C hA had hy_X11_append rfl wm_RL_7 (by decide) ⟨by decide, by decide⟩ (kxMetV_int (kmx_X11_append l hst Z.1 ad f x1 z hz)) (As := [.int x1]) (rest := []) rfl rfl (Nat.le_of_ble_eq_true rfl) dL_append_2 hP hD0 hS hl (fun h0 H1 locs1 hP1 hD1 hS1 => ?_) (fun h0 ce q9 H1 locs1 hP1 hD1 hS1 hce hcv hcl => ?_)
  · rcases hcase with ⟨-, rfl, rfl⟩ | ⟨h1, -⟩
    · rw [List.append_nil] at hP1 hD1
      have hh : M p l e R s m args below meth c Z (wA (kw (wC Z.1 ad) f) s.heap.size) 3 (mQF below Z (mQi (wC Z.1 ad) (z.2.1, z.2.2)) (kw (wC Z.1 ad) f) args s 2 12) () (0 + 2) (0 + 12) (kw (wC Z.1 ad) z.2.2) 5 [(0, .ref (ad 291)), (1, .int x1)] [.int z.2.1] (some ()) := M_iret C (ty := .int) rfl rfl ⟨by decide, by decide⟩ dL_append_5 (fun _ => ⟨rfl, rfl⟩)
      exact hh rfl H1 locs1 ls hP1 hD1 hS1 hl
    · exact absurd h0 h1
  · rcases hcase with ⟨h1, -⟩ | ⟨-, hk, rfl, rfl⟩
    · exact absurd h1 h0
    · rw [List.append_nil] at hP1 hD1
      have hk9 : z.1 = 1 := by simpa using hk
      have h9 := hk9
      · rw [h9] at hcl
        rw [h9]
        refine vx_catch (own := RL) (name := kE 1) (E := kE 1) C.1.2.2.2.1 [] ⟨0, 5, 6, 13⟩ [] htab (fun z9 hz9 => nomatch hz9) rfl (by decide) (C.1.2.2.2.2 _ wcl_RL_13) (m_cast C.2.1 (by decide +kernel)) hce hcv hcl ?_
        have hh : M p l e R s m args below meth c Z (wA (kw (wC Z.1 ad) f) s.heap.size) 3 (mQF below Z (mQi (wC Z.1 ad) ((-1001 - Int32.ofNat ([1].idxOf 1)), z.2.2)) (kw (wC Z.1 ad) f) args s 2 12) () (0 + 2) (0 + 12) (kw (wC Z.1 ad) z.2.2) 6 [(0, .ref (ad 291)), (1, .int x1)] [.ref q9] (some ()) := by
          refine M_astore_n C rfl (by decide) (lv1 := [(2, .ref q9), (0, .ref (ad 291)), (1, .int x1)]) rfl dL_append_6 ?_
          refine M_sipush C (v := (-1001)) (by decide) dL_append_7 ?_
          refine M_top (y := (-1001 - Int32.ofNat ([1].idxOf 1))) (by decide) ?_
          exact M_iret C (ty := .int) rfl rfl ⟨by decide, by decide⟩ dL_append_10 (fun _ => ⟨rfl, rfl⟩)
        exact hh rfl H1 locs1 ls hP1 hD1 hS1 hl
theorem wm_RL_15 : Cond.methodLink RL 15 yX11_colour ∈ kGT := kgt (List.mem_of_getElem? (i := 529) (by decide +kernel)) rfl
theorem hy_X11_colour : kYV yX11_colour cX11_colour 2 (some .int) 1 := ⟨⟨kgt (List.mem_of_getElem? (i := 532) (by decide +kernel)) rfl, kgt (List.mem_of_getElem? (i := 21) (by decide +kernel)) rfl, by decide +kernel, by decide⟩, kgt (List.mem_of_getElem? (i := 530) (by decide +kernel)) rfl, kgt (List.mem_of_getElem? (i := 531) (by decide +kernel)) rfl⟩
theorem wcl_RL_19 : Cond.classLink RL 19 (kE 4) ∈ kGT := kgt (List.mem_of_getElem? (i := 528) (by decide +kernel)) rfl
set_option maxRecDepth 100000 in
set_option maxHeartbeats 4000000 in
theorem wl_colour (l : Launch) (hst : l.stackTraces = false) (Z : mZ) (ad : Nat → Nat) (had : mAd Z ad) (f : kMem) (x1 : Int32) (r : Int32) (fo : kMem) (h : wvx [4] (cx_X11_colour f x1) = some (r, fo)) : mMet l Z yL_colour (.codeWith yL_colour cL_colour 3 (some .int) [(0, 5, 6, 19)]) 8 2 12 [.ref (ad 291), .int x1] (kw (wC Z.1 ad) f) [] (mQi (wC Z.1 ad) (r, fo)) := by
  obtain ⟨z, hz, hcase⟩ := wvx_some h
  refine mMet_ofW (z := ()) (X := some ()) (own := RL) (lv := [(0, .ref (ad 291)), (1, .int x1)]) hst (by decide) rfl (Nat.le_of_ble_eq_true rfl) rfl rfl ?_
  intro p e R s m args below meth c C htab
  have hA : ∀ q, s.heap.size ≤ q → wA (kw (wC Z.1 ad) f) s.heap.size q := fun q h => Or.inr h
  refine M_aload_n C 0 rfl rfl dL_colour_0 ?_
  refine M_iload_n C 1 rfl rfl dL_colour_1 ?_
  intro hX H locs ls hP hD hS hl
  rw [← List.append_nil (kw (wC Z.1 ad) f)] at hP
  have hD0 : va_D (wA (kw (wC Z.1 ad) f) s.heap.size) (kw (wC Z.1 ad) f ++ []) := by rw [List.append_nil]; exact hD
  refine M_wcall C hA had hy_X11_colour rfl wm_RL_15 (by decide) ⟨by decide, by decide⟩ (kxMetV_int (kmx_X11_colour l hst Z.1 ad f x1 z hz)) (As := [.int x1]) (rest := []) rfl rfl (Nat.le_of_ble_eq_true rfl) dL_colour_2 hP hD0 hS hl (fun h0 H1 locs1 hP1 hD1 hS1 => ?_) (fun h0 ce q9 H1 locs1 hP1 hD1 hS1 hce hcv hcl => ?_)
  · rcases hcase with ⟨-, rfl, rfl⟩ | ⟨h1, -⟩
    · rw [List.append_nil] at hP1 hD1
      have hh : M p l e R s m args below meth c Z (wA (kw (wC Z.1 ad) f) s.heap.size) 3 (mQF below Z (mQi (wC Z.1 ad) (z.2.1, z.2.2)) (kw (wC Z.1 ad) f) args s 2 12) () (0 + 2) (0 + 12) (kw (wC Z.1 ad) z.2.2) 5 [(0, .ref (ad 291)), (1, .int x1)] [.int z.2.1] (some ()) := M_iret C (ty := .int) rfl rfl ⟨by decide, by decide⟩ dL_colour_5 (fun _ => ⟨rfl, rfl⟩)
      exact hh rfl H1 locs1 ls hP1 hD1 hS1 hl
    · exact absurd h0 h1
  · rcases hcase with ⟨h1, -⟩ | ⟨-, hk, rfl, rfl⟩
    · exact absurd h1 h0
    · rw [List.append_nil] at hP1 hD1
      have hk9 : z.1 = 4 := by simpa using hk
      have h9 := hk9
      · rw [h9] at hcl
        rw [h9]
        refine vx_catch (own := RL) (name := kE 4) (E := kE 4) C.1.2.2.2.1 [] ⟨0, 5, 6, 19⟩ [] htab (fun z9 hz9 => nomatch hz9) rfl (by decide) (C.1.2.2.2.2 _ wcl_RL_19) (m_cast C.2.1 (by decide +kernel)) hce hcv hcl ?_
        have hh : M p l e R s m args below meth c Z (wA (kw (wC Z.1 ad) f) s.heap.size) 3 (mQF below Z (mQi (wC Z.1 ad) ((-1001 - Int32.ofNat ([4].idxOf 4)), z.2.2)) (kw (wC Z.1 ad) f) args s 2 12) () (0 + 2) (0 + 12) (kw (wC Z.1 ad) z.2.2) 6 [(0, .ref (ad 291)), (1, .int x1)] [.ref q9] (some ()) := by
          refine M_astore_n C rfl (by decide) (lv1 := [(2, .ref q9), (0, .ref (ad 291)), (1, .int x1)]) rfl dL_colour_6 ?_
          refine M_sipush C (v := (-1001)) (by decide) dL_colour_7 ?_
          refine M_top (y := (-1001 - Int32.ofNat ([4].idxOf 4))) (by decide) ?_
          exact M_iret C (ty := .int) rfl rfl ⟨by decide, by decide⟩ dL_colour_10 (fun _ => ⟨rfl, rfl⟩)
        exact hh rfl H1 locs1 ls hP1 hD1 hS1 hl
theorem wm_RL_21 : Cond.methodLink RL 21 yX11_part ∈ kGT := kgt (List.mem_of_getElem? (i := 584) (by decide +kernel)) rfl
theorem hy_X11_part : kYV yX11_part cX11_part 2 (some .int) 1 := ⟨⟨kgt (List.mem_of_getElem? (i := 587) (by decide +kernel)) rfl, kgt (List.mem_of_getElem? (i := 21) (by decide +kernel)) rfl, by decide +kernel, by decide⟩, kgt (List.mem_of_getElem? (i := 585) (by decide +kernel)) rfl, kgt (List.mem_of_getElem? (i := 586) (by decide +kernel)) rfl⟩
set_option maxRecDepth 100000 in
set_option maxHeartbeats 4000000 in
theorem wl_part (l : Launch) (hst : l.stackTraces = false) (Z : mZ) (ad : Nat → Nat) (had : mAd Z ad) (f : kMem) (x1 : Int32) (r : Int32) (fo : kMem) (h : wvx [4] (cx_X11_part f x1) = some (r, fo)) : mMet l Z yL_part (.codeWith yL_part cL_part 3 (some .int) [(0, 5, 6, 19)]) 8 2 12 [.ref (ad 291), .int x1] (kw (wC Z.1 ad) f) [] (mQi (wC Z.1 ad) (r, fo)) := by
  obtain ⟨z, hz, hcase⟩ := wvx_some h
  refine mMet_ofW (z := ()) (X := some ()) (own := RL) (lv := [(0, .ref (ad 291)), (1, .int x1)]) hst (by decide) rfl (Nat.le_of_ble_eq_true rfl) rfl rfl ?_
  intro p e R s m args below meth c C htab
  have hA : ∀ q, s.heap.size ≤ q → wA (kw (wC Z.1 ad) f) s.heap.size q := fun q h => Or.inr h
  refine M_aload_n C 0 rfl rfl dL_part_0 ?_
  refine M_iload_n C 1 rfl rfl dL_part_1 ?_
  intro hX H locs ls hP hD hS hl
  rw [← List.append_nil (kw (wC Z.1 ad) f)] at hP
  have hD0 : va_D (wA (kw (wC Z.1 ad) f) s.heap.size) (kw (wC Z.1 ad) f ++ []) := by rw [List.append_nil]; exact hD
  refine M_wcall C hA had hy_X11_part rfl wm_RL_21 (by decide) ⟨by decide, by decide⟩ (kxMetV_int (kmx_X11_part l hst Z.1 ad f x1 z hz)) (As := [.int x1]) (rest := []) rfl rfl (Nat.le_of_ble_eq_true rfl) dL_part_2 hP hD0 hS hl (fun h0 H1 locs1 hP1 hD1 hS1 => ?_) (fun h0 ce q9 H1 locs1 hP1 hD1 hS1 hce hcv hcl => ?_)
  · rcases hcase with ⟨-, rfl, rfl⟩ | ⟨h1, -⟩
    · rw [List.append_nil] at hP1 hD1
      have hh : M p l e R s m args below meth c Z (wA (kw (wC Z.1 ad) f) s.heap.size) 3 (mQF below Z (mQi (wC Z.1 ad) (z.2.1, z.2.2)) (kw (wC Z.1 ad) f) args s 2 12) () (0 + 2) (0 + 12) (kw (wC Z.1 ad) z.2.2) 5 [(0, .ref (ad 291)), (1, .int x1)] [.int z.2.1] (some ()) := M_iret C (ty := .int) rfl rfl ⟨by decide, by decide⟩ dL_part_5 (fun _ => ⟨rfl, rfl⟩)
      exact hh rfl H1 locs1 ls hP1 hD1 hS1 hl
    · exact absurd h0 h1
  · rcases hcase with ⟨h1, -⟩ | ⟨-, hk, rfl, rfl⟩
    · exact absurd h1 h0
    · rw [List.append_nil] at hP1 hD1
      have hk9 : z.1 = 4 := by simpa using hk
      have h9 := hk9
      · rw [h9] at hcl
        rw [h9]
        refine vx_catch (own := RL) (name := kE 4) (E := kE 4) C.1.2.2.2.1 [] ⟨0, 5, 6, 19⟩ [] htab (fun z9 hz9 => nomatch hz9) rfl (by decide) (C.1.2.2.2.2 _ wcl_RL_19) (m_cast C.2.1 (by decide +kernel)) hce hcv hcl ?_
        have hh : M p l e R s m args below meth c Z (wA (kw (wC Z.1 ad) f) s.heap.size) 3 (mQF below Z (mQi (wC Z.1 ad) ((-1001 - Int32.ofNat ([4].idxOf 4)), z.2.2)) (kw (wC Z.1 ad) f) args s 2 12) () (0 + 2) (0 + 12) (kw (wC Z.1 ad) z.2.2) 6 [(0, .ref (ad 291)), (1, .int x1)] [.ref q9] (some ()) := by
          refine M_astore_n C rfl (by decide) (lv1 := [(2, .ref q9), (0, .ref (ad 291)), (1, .int x1)]) rfl dL_part_6 ?_
          refine M_sipush C (v := (-1001)) (by decide) dL_part_7 ?_
          refine M_top (y := (-1001 - Int32.ofNat ([4].idxOf 4))) (by decide) ?_
          exact M_iret C (ty := .int) rfl rfl ⟨by decide, by decide⟩ dL_part_10 (fun _ => ⟨rfl, rfl⟩)
        exact hh rfl H1 locs1 ls hP1 hD1 hS1 hl
theorem wm_RL_24 : Cond.methodLink RL 24 yX11_family ∈ kGT := kgt (List.mem_of_getElem? (i := 1382) (by decide +kernel)) rfl
theorem hy_X11_family : kYV yX11_family cX11_family 2 (some .int) 0 := ⟨⟨kgt (List.mem_of_getElem? (i := 1385) (by decide +kernel)) rfl, kgt (List.mem_of_getElem? (i := 21) (by decide +kernel)) rfl, by decide +kernel, by decide⟩, kgt (List.mem_of_getElem? (i := 1383) (by decide +kernel)) rfl, kgt (List.mem_of_getElem? (i := 1384) (by decide +kernel)) rfl⟩
theorem wcl_RL_28 : Cond.classLink RL 28 (kE 2) ∈ kGT := kgt (List.mem_of_getElem? (i := 595) (by decide +kernel)) rfl
set_option maxRecDepth 100000 in
set_option maxHeartbeats 4000000 in
theorem wl_family (l : Launch) (hst : l.stackTraces = false) (Z : mZ) (ad : Nat → Nat) (had : mAd Z ad) (f : kMem) (r : Int32) (fo : kMem) (h : wvx [2, 4] (cx_X11_family f) = some (r, fo)) : mMet l Z yL_family (.codeWith yL_family cL_family 2 (some .int) [(0, 4, 5, 28), (0, 4, 10, 19)]) 8 2 12 [.ref (ad 291)] (kw (wC Z.1 ad) f) [] (mQi (wC Z.1 ad) (r, fo)) := by
  obtain ⟨z, hz, hcase⟩ := wvx_some h
  refine mMet_ofW (z := ()) (X := some ()) (own := RL) (lv := [(0, .ref (ad 291))]) hst (by decide) rfl (Nat.le_of_ble_eq_true rfl) rfl rfl ?_
  intro p e R s m args below meth c C htab
  have hA : ∀ q, s.heap.size ≤ q → wA (kw (wC Z.1 ad) f) s.heap.size q := fun q h => Or.inr h
  refine M_aload_n C 0 rfl rfl dL_family_0 ?_
  intro hX H locs ls hP hD hS hl
  rw [← List.append_nil (kw (wC Z.1 ad) f)] at hP
  have hD0 : va_D (wA (kw (wC Z.1 ad) f) s.heap.size) (kw (wC Z.1 ad) f ++ []) := by rw [List.append_nil]; exact hD
  refine M_wcall C hA had hy_X11_family rfl wm_RL_24 (by decide) ⟨by decide, by decide⟩ (kxMetV_int (kmx_X11_family l hst Z.1 ad f z hz)) (As := []) (rest := []) rfl rfl (Nat.le_of_ble_eq_true rfl) dL_family_1 hP hD0 hS hl (fun h0 H1 locs1 hP1 hD1 hS1 => ?_) (fun h0 ce q9 H1 locs1 hP1 hD1 hS1 hce hcv hcl => ?_)
  · rcases hcase with ⟨-, rfl, rfl⟩ | ⟨h1, -⟩
    · rw [List.append_nil] at hP1 hD1
      have hh : M p l e R s m args below meth c Z (wA (kw (wC Z.1 ad) f) s.heap.size) 2 (mQF below Z (mQi (wC Z.1 ad) (z.2.1, z.2.2)) (kw (wC Z.1 ad) f) args s 2 12) () (0 + 2) (0 + 12) (kw (wC Z.1 ad) z.2.2) 4 [(0, .ref (ad 291))] [.int z.2.1] (some ()) := M_iret C (ty := .int) rfl rfl ⟨by decide, by decide⟩ dL_family_4 (fun _ => ⟨rfl, rfl⟩)
      exact hh rfl H1 locs1 ls hP1 hD1 hS1 hl
    · exact absurd h0 h1
  · rcases hcase with ⟨h1, -⟩ | ⟨-, hk, rfl, rfl⟩
    · exact absurd h1 h0
    · rw [List.append_nil] at hP1 hD1
      have hk9 : z.1 = 2 ∨ z.1 = 4 := by simpa using hk
      rcases hk9 with h9 | h9
      · rw [h9] at hcl
        rw [h9]
        refine vx_catch (own := RL) (name := kE 2) (E := kE 2) C.1.2.2.2.1 [] ⟨0, 4, 5, 28⟩ [⟨0, 4, 10, 19⟩] htab (fun z9 hz9 => nomatch hz9) rfl (by decide) (C.1.2.2.2.2 _ wcl_RL_28) (m_cast C.2.1 (by decide +kernel)) hce hcv hcl ?_
        have hh : M p l e R s m args below meth c Z (wA (kw (wC Z.1 ad) f) s.heap.size) 2 (mQF below Z (mQi (wC Z.1 ad) ((-1001 - Int32.ofNat ([2, 4].idxOf 2)), z.2.2)) (kw (wC Z.1 ad) f) args s 2 12) () (0 + 2) (0 + 12) (kw (wC Z.1 ad) z.2.2) 5 [(0, .ref (ad 291))] [.ref q9] (some ()) := by
          refine M_astore_n C rfl (by decide) (lv1 := [(1, .ref q9), (0, .ref (ad 291))]) rfl dL_family_5 ?_
          refine M_sipush C (v := (-1001)) (by decide) dL_family_6 ?_
          refine M_top (y := (-1001 - Int32.ofNat ([2, 4].idxOf 2))) (by decide) ?_
          exact M_iret C (ty := .int) rfl rfl ⟨by decide, by decide⟩ dL_family_9 (fun _ => ⟨rfl, rfl⟩)
        exact hh rfl H1 locs1 ls hP1 hD1 hS1 hl
      · rw [h9] at hcl
        rw [h9]
        refine vx_catch (own := RL) (name := kE 4) (E := kE 4) C.1.2.2.2.1 [⟨0, 4, 5, 28⟩] ⟨0, 4, 10, 19⟩ [] htab (fun z9 hz9 => by
          simp only [List.mem_cons, List.not_mem_nil, or_false] at hz9
          rcases hz9 with rfl
          · exact Or.inr ⟨by decide, kE 2, C.1.2.2.2.2 _ wcl_RL_28, C.2.1.2.2.2.2.1 4 2 (by decide) (by decide) (by decide)⟩) rfl (by decide) (C.1.2.2.2.2 _ wcl_RL_19) (m_cast C.2.1 (by decide +kernel)) hce hcv hcl ?_
        have hh : M p l e R s m args below meth c Z (wA (kw (wC Z.1 ad) f) s.heap.size) 2 (mQF below Z (mQi (wC Z.1 ad) ((-1001 - Int32.ofNat ([2, 4].idxOf 4)), z.2.2)) (kw (wC Z.1 ad) f) args s 2 12) () (0 + 2) (0 + 12) (kw (wC Z.1 ad) z.2.2) 10 [(0, .ref (ad 291))] [.ref q9] (some ()) := by
          refine M_astore_n C rfl (by decide) (lv1 := [(1, .ref q9), (0, .ref (ad 291))]) rfl dL_family_10 ?_
          refine M_sipush C (v := (-1002)) (by decide) dL_family_11 ?_
          refine M_top (y := (-1001 - Int32.ofNat ([2, 4].idxOf 4))) (by decide) ?_
          exact M_iret C (ty := .int) rfl rfl ⟨by decide, by decide⟩ dL_family_14 (fun _ => ⟨rfl, rfl⟩)
        exact hh rfl H1 locs1 ls hP1 hD1 hS1 hl
theorem wm_RL_30 : Cond.methodLink RL 30 yX11_program ∈ kGT := kgt (List.mem_of_getElem? (i := 596) (by decide +kernel)) rfl
theorem hy_X11_program : kYV yX11_program cX11_program 3 (some .int) 0 := ⟨⟨kgt (List.mem_of_getElem? (i := 599) (by decide +kernel)) rfl, kgt (List.mem_of_getElem? (i := 21) (by decide +kernel)) rfl, by decide +kernel, by decide⟩, kgt (List.mem_of_getElem? (i := 597) (by decide +kernel)) rfl, kgt (List.mem_of_getElem? (i := 598) (by decide +kernel)) rfl⟩
set_option maxRecDepth 100000 in
set_option maxHeartbeats 4000000 in
theorem wl_program (l : Launch) (hst : l.stackTraces = false) (Z : mZ) (ad : Nat → Nat) (had : mAd Z ad) (f : kMem) (r : Int32) (fo : kMem) (h : wvx [2, 4] (cx_X11_program f) = some (r, fo)) : mMet l Z yL_program (.codeWith yL_program cL_program 2 (some .int) [(0, 4, 5, 28), (0, 4, 10, 19)]) 8 2 12 [.ref (ad 291)] (kw (wC Z.1 ad) f) [] (mQi (wC Z.1 ad) (r, fo)) := by
  obtain ⟨z, hz, hcase⟩ := wvx_some h
  refine mMet_ofW (z := ()) (X := some ()) (own := RL) (lv := [(0, .ref (ad 291))]) hst (by decide) rfl (Nat.le_of_ble_eq_true rfl) rfl rfl ?_
  intro p e R s m args below meth c C htab
  have hA : ∀ q, s.heap.size ≤ q → wA (kw (wC Z.1 ad) f) s.heap.size q := fun q h => Or.inr h
  refine M_aload_n C 0 rfl rfl dL_program_0 ?_
  intro hX H locs ls hP hD hS hl
  rw [← List.append_nil (kw (wC Z.1 ad) f)] at hP
  have hD0 : va_D (wA (kw (wC Z.1 ad) f) s.heap.size) (kw (wC Z.1 ad) f ++ []) := by rw [List.append_nil]; exact hD
  refine M_wcall C hA had hy_X11_program rfl wm_RL_30 (by decide) ⟨by decide, by decide⟩ (kxMetV_int (kmx_X11_program l hst Z.1 ad f z hz)) (As := []) (rest := []) rfl rfl (Nat.le_of_ble_eq_true rfl) dL_program_1 hP hD0 hS hl (fun h0 H1 locs1 hP1 hD1 hS1 => ?_) (fun h0 ce q9 H1 locs1 hP1 hD1 hS1 hce hcv hcl => ?_)
  · rcases hcase with ⟨-, rfl, rfl⟩ | ⟨h1, -⟩
    · rw [List.append_nil] at hP1 hD1
      have hh : M p l e R s m args below meth c Z (wA (kw (wC Z.1 ad) f) s.heap.size) 2 (mQF below Z (mQi (wC Z.1 ad) (z.2.1, z.2.2)) (kw (wC Z.1 ad) f) args s 2 12) () (0 + 2) (0 + 12) (kw (wC Z.1 ad) z.2.2) 4 [(0, .ref (ad 291))] [.int z.2.1] (some ()) := M_iret C (ty := .int) rfl rfl ⟨by decide, by decide⟩ dL_program_4 (fun _ => ⟨rfl, rfl⟩)
      exact hh rfl H1 locs1 ls hP1 hD1 hS1 hl
    · exact absurd h0 h1
  · rcases hcase with ⟨h1, -⟩ | ⟨-, hk, rfl, rfl⟩
    · exact absurd h1 h0
    · rw [List.append_nil] at hP1 hD1
      have hk9 : z.1 = 2 ∨ z.1 = 4 := by simpa using hk
      rcases hk9 with h9 | h9
      · rw [h9] at hcl
        rw [h9]
        refine vx_catch (own := RL) (name := kE 2) (E := kE 2) C.1.2.2.2.1 [] ⟨0, 4, 5, 28⟩ [⟨0, 4, 10, 19⟩] htab (fun z9 hz9 => nomatch hz9) rfl (by decide) (C.1.2.2.2.2 _ wcl_RL_28) (m_cast C.2.1 (by decide +kernel)) hce hcv hcl ?_
        have hh : M p l e R s m args below meth c Z (wA (kw (wC Z.1 ad) f) s.heap.size) 2 (mQF below Z (mQi (wC Z.1 ad) ((-1001 - Int32.ofNat ([2, 4].idxOf 2)), z.2.2)) (kw (wC Z.1 ad) f) args s 2 12) () (0 + 2) (0 + 12) (kw (wC Z.1 ad) z.2.2) 5 [(0, .ref (ad 291))] [.ref q9] (some ()) := by
          refine M_astore_n C rfl (by decide) (lv1 := [(1, .ref q9), (0, .ref (ad 291))]) rfl dL_program_5 ?_
          refine M_sipush C (v := (-1001)) (by decide) dL_program_6 ?_
          refine M_top (y := (-1001 - Int32.ofNat ([2, 4].idxOf 2))) (by decide) ?_
          exact M_iret C (ty := .int) rfl rfl ⟨by decide, by decide⟩ dL_program_9 (fun _ => ⟨rfl, rfl⟩)
        exact hh rfl H1 locs1 ls hP1 hD1 hS1 hl
      · rw [h9] at hcl
        rw [h9]
        refine vx_catch (own := RL) (name := kE 4) (E := kE 4) C.1.2.2.2.1 [⟨0, 4, 5, 28⟩] ⟨0, 4, 10, 19⟩ [] htab (fun z9 hz9 => by
          simp only [List.mem_cons, List.not_mem_nil, or_false] at hz9
          rcases hz9 with rfl
          · exact Or.inr ⟨by decide, kE 2, C.1.2.2.2.2 _ wcl_RL_28, C.2.1.2.2.2.2.1 4 2 (by decide) (by decide) (by decide)⟩) rfl (by decide) (C.1.2.2.2.2 _ wcl_RL_19) (m_cast C.2.1 (by decide +kernel)) hce hcv hcl ?_
        have hh : M p l e R s m args below meth c Z (wA (kw (wC Z.1 ad) f) s.heap.size) 2 (mQF below Z (mQi (wC Z.1 ad) ((-1001 - Int32.ofNat ([2, 4].idxOf 4)), z.2.2)) (kw (wC Z.1 ad) f) args s 2 12) () (0 + 2) (0 + 12) (kw (wC Z.1 ad) z.2.2) 10 [(0, .ref (ad 291))] [.ref q9] (some ()) := by
          refine M_astore_n C rfl (by decide) (lv1 := [(1, .ref q9), (0, .ref (ad 291))]) rfl dL_program_10 ?_
          refine M_sipush C (v := (-1002)) (by decide) dL_program_11 ?_
          refine M_top (y := (-1001 - Int32.ofNat ([2, 4].idxOf 4))) (by decide) ?_
          exact M_iret C (ty := .int) rfl rfl ⟨by decide, by decide⟩ dL_program_14 (fun _ => ⟨rfl, rfl⟩)
        exact hh rfl H1 locs1 ls hP1 hD1 hS1 hl
theorem wm_RL_33 : Cond.methodLink RL 33 yX11_mount ∈ kGT := kgt (List.mem_of_getElem? (i := 793) (by decide +kernel)) rfl
theorem hy_X11_mount : kYV yX11_mount cX11_mount 2 (some .int) 1 := ⟨⟨kgt (List.mem_of_getElem? (i := 796) (by decide +kernel)) rfl, kgt (List.mem_of_getElem? (i := 21) (by decide +kernel)) rfl, by decide +kernel, by decide⟩, kgt (List.mem_of_getElem? (i := 794) (by decide +kernel)) rfl, kgt (List.mem_of_getElem? (i := 795) (by decide +kernel)) rfl⟩
set_option maxRecDepth 100000 in
set_option maxHeartbeats 4000000 in
theorem wl_mount (l : Launch) (hst : l.stackTraces = false) (Z : mZ) (ad : Nat → Nat) (had : mAd Z ad) (f : kMem) (x1 : Int32) (r : Int32) (fo : kMem) (h : wvx [4] (cx_X11_mount f x1) = some (r, fo)) : mMet l Z yL_mount (.codeWith yL_mount cL_mount 3 (some .int) [(0, 5, 6, 19)]) 8 2 12 [.ref (ad 291), .int x1] (kw (wC Z.1 ad) f) [] (mQi (wC Z.1 ad) (r, fo)) := by
  obtain ⟨z, hz, hcase⟩ := wvx_some h
  refine mMet_ofW (z := ()) (X := some ()) (own := RL) (lv := [(0, .ref (ad 291)), (1, .int x1)]) hst (by decide) rfl (Nat.le_of_ble_eq_true rfl) rfl rfl ?_
  intro p e R s m args below meth c C htab
  have hA : ∀ q, s.heap.size ≤ q → wA (kw (wC Z.1 ad) f) s.heap.size q := fun q h => Or.inr h
  refine M_aload_n C 0 rfl rfl dL_mount_0 ?_
  refine M_iload_n C 1 rfl rfl dL_mount_1 ?_
  intro hX H locs ls hP hD hS hl
  rw [← List.append_nil (kw (wC Z.1 ad) f)] at hP
  have hD0 : va_D (wA (kw (wC Z.1 ad) f) s.heap.size) (kw (wC Z.1 ad) f ++ []) := by rw [List.append_nil]; exact hD
  refine M_wcall C hA had hy_X11_mount rfl wm_RL_33 (by decide) ⟨by decide, by decide⟩ (kxMetV_int (kmx_X11_mount l hst Z.1 ad f x1 z hz)) (As := [.int x1]) (rest := []) rfl rfl (Nat.le_of_ble_eq_true rfl) dL_mount_2 hP hD0 hS hl (fun h0 H1 locs1 hP1 hD1 hS1 => ?_) (fun h0 ce q9 H1 locs1 hP1 hD1 hS1 hce hcv hcl => ?_)
  · rcases hcase with ⟨-, rfl, rfl⟩ | ⟨h1, -⟩
    · rw [List.append_nil] at hP1 hD1
      have hh : M p l e R s m args below meth c Z (wA (kw (wC Z.1 ad) f) s.heap.size) 3 (mQF below Z (mQi (wC Z.1 ad) (z.2.1, z.2.2)) (kw (wC Z.1 ad) f) args s 2 12) () (0 + 2) (0 + 12) (kw (wC Z.1 ad) z.2.2) 5 [(0, .ref (ad 291)), (1, .int x1)] [.int z.2.1] (some ()) := M_iret C (ty := .int) rfl rfl ⟨by decide, by decide⟩ dL_mount_5 (fun _ => ⟨rfl, rfl⟩)
      exact hh rfl H1 locs1 ls hP1 hD1 hS1 hl
    · exact absurd h0 h1
  · rcases hcase with ⟨h1, -⟩ | ⟨-, hk, rfl, rfl⟩
    · exact absurd h1 h0
    · rw [List.append_nil] at hP1 hD1
      have hk9 : z.1 = 4 := by simpa using hk
      have h9 := hk9
      · rw [h9] at hcl
        rw [h9]
        refine vx_catch (own := RL) (name := kE 4) (E := kE 4) C.1.2.2.2.1 [] ⟨0, 5, 6, 19⟩ [] htab (fun z9 hz9 => nomatch hz9) rfl (by decide) (C.1.2.2.2.2 _ wcl_RL_19) (m_cast C.2.1 (by decide +kernel)) hce hcv hcl ?_
        have hh : M p l e R s m args below meth c Z (wA (kw (wC Z.1 ad) f) s.heap.size) 3 (mQF below Z (mQi (wC Z.1 ad) ((-1001 - Int32.ofNat ([4].idxOf 4)), z.2.2)) (kw (wC Z.1 ad) f) args s 2 12) () (0 + 2) (0 + 12) (kw (wC Z.1 ad) z.2.2) 6 [(0, .ref (ad 291)), (1, .int x1)] [.ref q9] (some ()) := by
          refine M_astore_n C rfl (by decide) (lv1 := [(2, .ref q9), (0, .ref (ad 291)), (1, .int x1)]) rfl dL_mount_6 ?_
          refine M_sipush C (v := (-1001)) (by decide) dL_mount_7 ?_
          refine M_top (y := (-1001 - Int32.ofNat ([4].idxOf 4))) (by decide) ?_
          exact M_iret C (ty := .int) rfl rfl ⟨by decide, by decide⟩ dL_mount_10 (fun _ => ⟨rfl, rfl⟩)
        exact hh rfl H1 locs1 ls hP1 hD1 hS1 hl
theorem wm_RL_36 : Cond.methodLink RL 36 yX11_load ∈ kGT := kgt (List.mem_of_getElem? (i := 800) (by decide +kernel)) rfl
theorem hy_X11_load : kYV yX11_load cX11_load 4 (some .int) 3 := ⟨⟨kgt (List.mem_of_getElem? (i := 803) (by decide +kernel)) rfl, kgt (List.mem_of_getElem? (i := 21) (by decide +kernel)) rfl, by decide +kernel, by decide⟩, kgt (List.mem_of_getElem? (i := 801) (by decide +kernel)) rfl, kgt (List.mem_of_getElem? (i := 802) (by decide +kernel)) rfl⟩
set_option maxRecDepth 100000 in
set_option maxHeartbeats 4000000 in
theorem wl_load (l : Launch) (hst : l.stackTraces = false) (Z : mZ) (ad : Nat → Nat) (had : mAd Z ad) (f : kMem) (x1 x2 x3 : Int32) (r : Int32) (fo : kMem) (h : wvx [4] (cx_X11_load f x1 x2 x3) = some (r, fo)) : mMet l Z yL_load (.codeWith yL_load cL_load 5 (some .int) [(0, 7, 8, 19)]) 8 2 12 [.ref (ad 291), .int x1, .int x2, .int x3] (kw (wC Z.1 ad) f) [] (mQi (wC Z.1 ad) (r, fo)) := by
  obtain ⟨z, hz, hcase⟩ := wvx_some h
  refine mMet_ofW (z := ()) (X := some ()) (own := RL) (lv := [(0, .ref (ad 291)), (1, .int x1), (2, .int x2), (3, .int x3)]) hst (by decide) rfl (Nat.le_of_ble_eq_true rfl) rfl rfl ?_
  intro p e R s m args below meth c C htab
  have hA : ∀ q, s.heap.size ≤ q → wA (kw (wC Z.1 ad) f) s.heap.size q := fun q h => Or.inr h
  refine M_aload_n C 0 rfl rfl dL_load_0 ?_
  refine M_iload_n C 1 rfl rfl dL_load_1 ?_
  refine M_iload_n C 2 rfl rfl dL_load_2 ?_
  refine M_iload_n C 3 rfl rfl dL_load_3 ?_
  intro hX H locs ls hP hD hS hl
  rw [← List.append_nil (kw (wC Z.1 ad) f)] at hP
  have hD0 : va_D (wA (kw (wC Z.1 ad) f) s.heap.size) (kw (wC Z.1 ad) f ++ []) := by rw [List.append_nil]; exact hD
  refine M_wcall C hA had hy_X11_load rfl wm_RL_36 (by decide) ⟨by decide, by decide⟩ (kxMetV_int (kmx_X11_load l hst Z.1 ad f x1 x2 x3 z hz)) (As := [.int x1, .int x2, .int x3]) (rest := []) rfl rfl (Nat.le_of_ble_eq_true rfl) dL_load_4 hP hD0 hS hl (fun h0 H1 locs1 hP1 hD1 hS1 => ?_) (fun h0 ce q9 H1 locs1 hP1 hD1 hS1 hce hcv hcl => ?_)
  · rcases hcase with ⟨-, rfl, rfl⟩ | ⟨h1, -⟩
    · rw [List.append_nil] at hP1 hD1
      have hh : M p l e R s m args below meth c Z (wA (kw (wC Z.1 ad) f) s.heap.size) 5 (mQF below Z (mQi (wC Z.1 ad) (z.2.1, z.2.2)) (kw (wC Z.1 ad) f) args s 2 12) () (0 + 2) (0 + 12) (kw (wC Z.1 ad) z.2.2) 7 [(0, .ref (ad 291)), (1, .int x1), (2, .int x2), (3, .int x3)] [.int z.2.1] (some ()) := M_iret C (ty := .int) rfl rfl ⟨by decide, by decide⟩ dL_load_7 (fun _ => ⟨rfl, rfl⟩)
      exact hh rfl H1 locs1 ls hP1 hD1 hS1 hl
    · exact absurd h0 h1
  · rcases hcase with ⟨h1, -⟩ | ⟨-, hk, rfl, rfl⟩
    · exact absurd h1 h0
    · rw [List.append_nil] at hP1 hD1
      have hk9 : z.1 = 4 := by simpa using hk
      have h9 := hk9
      · rw [h9] at hcl
        rw [h9]
        refine vx_catch (own := RL) (name := kE 4) (E := kE 4) C.1.2.2.2.1 [] ⟨0, 7, 8, 19⟩ [] htab (fun z9 hz9 => nomatch hz9) rfl (by decide) (C.1.2.2.2.2 _ wcl_RL_19) (m_cast C.2.1 (by decide +kernel)) hce hcv hcl ?_
        have hh : M p l e R s m args below meth c Z (wA (kw (wC Z.1 ad) f) s.heap.size) 5 (mQF below Z (mQi (wC Z.1 ad) ((-1001 - Int32.ofNat ([4].idxOf 4)), z.2.2)) (kw (wC Z.1 ad) f) args s 2 12) () (0 + 2) (0 + 12) (kw (wC Z.1 ad) z.2.2) 8 [(0, .ref (ad 291)), (1, .int x1), (2, .int x2), (3, .int x3)] [.ref q9] (some ()) := by
          refine M_astore C (by decide) (lv1 := [(4, .ref q9), (0, .ref (ad 291)), (1, .int x1), (2, .int x2), (3, .int x3)]) rfl dL_load_8 ?_
          refine M_sipush C (v := (-1001)) (by decide) dL_load_10 ?_
          refine M_top (y := (-1001 - Int32.ofNat ([4].idxOf 4))) (by decide) ?_
          exact M_iret C (ty := .int) rfl rfl ⟨by decide, by decide⟩ dL_load_13 (fun _ => ⟨rfl, rfl⟩)
        exact hh rfl H1 locs1 ls hP1 hD1 hS1 hl
theorem wm_RL_40 : Cond.methodLink RL 40 yX11_empty ∈ kGT := kgt (List.mem_of_getElem? (i := 1570) (by decide +kernel)) rfl
theorem hy_X11_empty : kYV yX11_empty cX11_empty 2 (some .int) 1 := ⟨⟨kgt (List.mem_of_getElem? (i := 1573) (by decide +kernel)) rfl, kgt (List.mem_of_getElem? (i := 21) (by decide +kernel)) rfl, by decide +kernel, by decide⟩, kgt (List.mem_of_getElem? (i := 1571) (by decide +kernel)) rfl, kgt (List.mem_of_getElem? (i := 1572) (by decide +kernel)) rfl⟩
set_option maxRecDepth 100000 in
set_option maxHeartbeats 4000000 in
theorem wl_empty (l : Launch) (hst : l.stackTraces = false) (Z : mZ) (ad : Nat → Nat) (had : mAd Z ad) (f : kMem) (x1 : Int32) (r : Int32) (fo : kMem) (h : wvx [4] (cx_X11_empty f x1) = some (r, fo)) : mMet l Z yL_empty (.codeWith yL_empty cL_empty 3 (some .int) [(0, 5, 6, 19)]) 8 2 12 [.ref (ad 291), .int x1] (kw (wC Z.1 ad) f) [] (mQi (wC Z.1 ad) (r, fo)) := by
  obtain ⟨z, hz, hcase⟩ := wvx_some h
  refine mMet_ofW (z := ()) (X := some ()) (own := RL) (lv := [(0, .ref (ad 291)), (1, .int x1)]) hst (by decide) rfl (Nat.le_of_ble_eq_true rfl) rfl rfl ?_
  intro p e R s m args below meth c C htab
  have hA : ∀ q, s.heap.size ≤ q → wA (kw (wC Z.1 ad) f) s.heap.size q := fun q h => Or.inr h
  refine M_aload_n C 0 rfl rfl dL_empty_0 ?_
  refine M_iload_n C 1 rfl rfl dL_empty_1 ?_
  intro hX H locs ls hP hD hS hl
  rw [← List.append_nil (kw (wC Z.1 ad) f)] at hP
  have hD0 : va_D (wA (kw (wC Z.1 ad) f) s.heap.size) (kw (wC Z.1 ad) f ++ []) := by rw [List.append_nil]; exact hD
  refine M_wcall C hA had hy_X11_empty rfl wm_RL_40 (by decide) ⟨by decide, by decide⟩ (kxMetV_int (kmx_X11_empty l hst Z.1 ad f x1 z hz)) (As := [.int x1]) (rest := []) rfl rfl (Nat.le_of_ble_eq_true rfl) dL_empty_2 hP hD0 hS hl (fun h0 H1 locs1 hP1 hD1 hS1 => ?_) (fun h0 ce q9 H1 locs1 hP1 hD1 hS1 hce hcv hcl => ?_)
  · rcases hcase with ⟨-, rfl, rfl⟩ | ⟨h1, -⟩
    · rw [List.append_nil] at hP1 hD1
      have hh : M p l e R s m args below meth c Z (wA (kw (wC Z.1 ad) f) s.heap.size) 3 (mQF below Z (mQi (wC Z.1 ad) (z.2.1, z.2.2)) (kw (wC Z.1 ad) f) args s 2 12) () (0 + 2) (0 + 12) (kw (wC Z.1 ad) z.2.2) 5 [(0, .ref (ad 291)), (1, .int x1)] [.int z.2.1] (some ()) := M_iret C (ty := .int) rfl rfl ⟨by decide, by decide⟩ dL_empty_5 (fun _ => ⟨rfl, rfl⟩)
      exact hh rfl H1 locs1 ls hP1 hD1 hS1 hl
    · exact absurd h0 h1
  · rcases hcase with ⟨h1, -⟩ | ⟨-, hk, rfl, rfl⟩
    · exact absurd h1 h0
    · rw [List.append_nil] at hP1 hD1
      have hk9 : z.1 = 4 := by simpa using hk
      have h9 := hk9
      · rw [h9] at hcl
        rw [h9]
        refine vx_catch (own := RL) (name := kE 4) (E := kE 4) C.1.2.2.2.1 [] ⟨0, 5, 6, 19⟩ [] htab (fun z9 hz9 => nomatch hz9) rfl (by decide) (C.1.2.2.2.2 _ wcl_RL_19) (m_cast C.2.1 (by decide +kernel)) hce hcv hcl ?_
        have hh : M p l e R s m args below meth c Z (wA (kw (wC Z.1 ad) f) s.heap.size) 3 (mQF below Z (mQi (wC Z.1 ad) ((-1001 - Int32.ofNat ([4].idxOf 4)), z.2.2)) (kw (wC Z.1 ad) f) args s 2 12) () (0 + 2) (0 + 12) (kw (wC Z.1 ad) z.2.2) 6 [(0, .ref (ad 291)), (1, .int x1)] [.ref q9] (some ()) := by
          refine M_astore_n C rfl (by decide) (lv1 := [(2, .ref q9), (0, .ref (ad 291)), (1, .int x1)]) rfl dL_empty_6 ?_
          refine M_sipush C (v := (-1001)) (by decide) dL_empty_7 ?_
          refine M_top (y := (-1001 - Int32.ofNat ([4].idxOf 4))) (by decide) ?_
          exact M_iret C (ty := .int) rfl rfl ⟨by decide, by decide⟩ dL_empty_10 (fun _ => ⟨rfl, rfl⟩)
        exact hh rfl H1 locs1 ls hP1 hD1 hS1 hl
theorem wm_RL_43 : Cond.methodLink RL 43 yX11_pause ∈ kGT := kgt (List.mem_of_getElem? (i := 807) (by decide +kernel)) rfl
theorem hy_X11_pause : kYV yX11_pause cX11_pause 2 (some .int) 1 := ⟨⟨kgt (List.mem_of_getElem? (i := 810) (by decide +kernel)) rfl, kgt (List.mem_of_getElem? (i := 21) (by decide +kernel)) rfl, by decide +kernel, by decide⟩, kgt (List.mem_of_getElem? (i := 808) (by decide +kernel)) rfl, kgt (List.mem_of_getElem? (i := 809) (by decide +kernel)) rfl⟩
set_option maxRecDepth 100000 in
set_option maxHeartbeats 4000000 in
theorem wl_pause (l : Launch) (hst : l.stackTraces = false) (Z : mZ) (ad : Nat → Nat) (had : mAd Z ad) (f : kMem) (x1 : Int32) (r : Int32) (fo : kMem) (h : wvx [4] (cx_X11_pause f x1) = some (r, fo)) : mMet l Z yL_pause (.codeWith yL_pause cL_pause 3 (some .int) [(0, 5, 6, 19)]) 8 2 12 [.ref (ad 291), .int x1] (kw (wC Z.1 ad) f) [] (mQi (wC Z.1 ad) (r, fo)) := by
  obtain ⟨z, hz, hcase⟩ := wvx_some h
  refine mMet_ofW (z := ()) (X := some ()) (own := RL) (lv := [(0, .ref (ad 291)), (1, .int x1)]) hst (by decide) rfl (Nat.le_of_ble_eq_true rfl) rfl rfl ?_
  intro p e R s m args below meth c C htab
  have hA : ∀ q, s.heap.size ≤ q → wA (kw (wC Z.1 ad) f) s.heap.size q := fun q h => Or.inr h
  refine M_aload_n C 0 rfl rfl dL_pause_0 ?_
  refine M_iload_n C 1 rfl rfl dL_pause_1 ?_
  intro hX H locs ls hP hD hS hl
  rw [← List.append_nil (kw (wC Z.1 ad) f)] at hP
  have hD0 : va_D (wA (kw (wC Z.1 ad) f) s.heap.size) (kw (wC Z.1 ad) f ++ []) := by rw [List.append_nil]; exact hD
  refine M_wcall C hA had hy_X11_pause rfl wm_RL_43 (by decide) ⟨by decide, by decide⟩ (kxMetV_int (kmx_X11_pause l hst Z.1 ad f x1 z hz)) (As := [.int x1]) (rest := []) rfl rfl (Nat.le_of_ble_eq_true rfl) dL_pause_2 hP hD0 hS hl (fun h0 H1 locs1 hP1 hD1 hS1 => ?_) (fun h0 ce q9 H1 locs1 hP1 hD1 hS1 hce hcv hcl => ?_)
  · rcases hcase with ⟨-, rfl, rfl⟩ | ⟨h1, -⟩
    · rw [List.append_nil] at hP1 hD1
      have hh : M p l e R s m args below meth c Z (wA (kw (wC Z.1 ad) f) s.heap.size) 3 (mQF below Z (mQi (wC Z.1 ad) (z.2.1, z.2.2)) (kw (wC Z.1 ad) f) args s 2 12) () (0 + 2) (0 + 12) (kw (wC Z.1 ad) z.2.2) 5 [(0, .ref (ad 291)), (1, .int x1)] [.int z.2.1] (some ()) := M_iret C (ty := .int) rfl rfl ⟨by decide, by decide⟩ dL_pause_5 (fun _ => ⟨rfl, rfl⟩)
      exact hh rfl H1 locs1 ls hP1 hD1 hS1 hl
    · exact absurd h0 h1
  · rcases hcase with ⟨h1, -⟩ | ⟨-, hk, rfl, rfl⟩
    · exact absurd h1 h0
    · rw [List.append_nil] at hP1 hD1
      have hk9 : z.1 = 4 := by simpa using hk
      have h9 := hk9
      · rw [h9] at hcl
        rw [h9]
        refine vx_catch (own := RL) (name := kE 4) (E := kE 4) C.1.2.2.2.1 [] ⟨0, 5, 6, 19⟩ [] htab (fun z9 hz9 => nomatch hz9) rfl (by decide) (C.1.2.2.2.2 _ wcl_RL_19) (m_cast C.2.1 (by decide +kernel)) hce hcv hcl ?_
        have hh : M p l e R s m args below meth c Z (wA (kw (wC Z.1 ad) f) s.heap.size) 3 (mQF below Z (mQi (wC Z.1 ad) ((-1001 - Int32.ofNat ([4].idxOf 4)), z.2.2)) (kw (wC Z.1 ad) f) args s 2 12) () (0 + 2) (0 + 12) (kw (wC Z.1 ad) z.2.2) 6 [(0, .ref (ad 291)), (1, .int x1)] [.ref q9] (some ()) := by
          refine M_astore_n C rfl (by decide) (lv1 := [(2, .ref q9), (0, .ref (ad 291)), (1, .int x1)]) rfl dL_pause_6 ?_
          refine M_sipush C (v := (-1001)) (by decide) dL_pause_7 ?_
          refine M_top (y := (-1001 - Int32.ofNat ([4].idxOf 4))) (by decide) ?_
          exact M_iret C (ty := .int) rfl rfl ⟨by decide, by decide⟩ dL_pause_10 (fun _ => ⟨rfl, rfl⟩)
        exact hh rfl H1 locs1 ls hP1 hD1 hS1 hl
theorem wm_RL_46 : Cond.methodLink RL 46 yX11_run ∈ kGT := kgt (List.mem_of_getElem? (i := 814) (by decide +kernel)) rfl
theorem hy_X11_run : kYV yX11_run cX11_run 3 (some .int) 2 := ⟨⟨kgt (List.mem_of_getElem? (i := 817) (by decide +kernel)) rfl, kgt (List.mem_of_getElem? (i := 21) (by decide +kernel)) rfl, by decide +kernel, by decide⟩, kgt (List.mem_of_getElem? (i := 815) (by decide +kernel)) rfl, kgt (List.mem_of_getElem? (i := 816) (by decide +kernel)) rfl⟩
set_option maxRecDepth 100000 in
set_option maxHeartbeats 4000000 in
theorem wl_run (l : Launch) (hst : l.stackTraces = false) (Z : mZ) (ad : Nat → Nat) (had : mAd Z ad) (f : kMem) (x1 x2 : Int32) (r : Int32) (fo : kMem) (h : wvx [4] (cx_X11_run f x1 x2) = some (r, fo)) : mMet l Z yL_run (.codeWith yL_run cL_run 4 (some .int) [(0, 6, 7, 19)]) 8 2 12 [.ref (ad 291), .int x1, .int x2] (kw (wC Z.1 ad) f) [] (mQi (wC Z.1 ad) (r, fo)) := by
  obtain ⟨z, hz, hcase⟩ := wvx_some h
  refine mMet_ofW (z := ()) (X := some ()) (own := RL) (lv := [(0, .ref (ad 291)), (1, .int x1), (2, .int x2)]) hst (by decide) rfl (Nat.le_of_ble_eq_true rfl) rfl rfl ?_
  intro p e R s m args below meth c C htab
  have hA : ∀ q, s.heap.size ≤ q → wA (kw (wC Z.1 ad) f) s.heap.size q := fun q h => Or.inr h
  refine M_aload_n C 0 rfl rfl dL_run_0 ?_
  refine M_iload_n C 1 rfl rfl dL_run_1 ?_
  refine M_iload_n C 2 rfl rfl dL_run_2 ?_
  intro hX H locs ls hP hD hS hl
  rw [← List.append_nil (kw (wC Z.1 ad) f)] at hP
  have hD0 : va_D (wA (kw (wC Z.1 ad) f) s.heap.size) (kw (wC Z.1 ad) f ++ []) := by rw [List.append_nil]; exact hD
  refine M_wcall C hA had hy_X11_run rfl wm_RL_46 (by decide) ⟨by decide, by decide⟩ (kxMetV_int (kmx_X11_run l hst Z.1 ad f x1 x2 z hz)) (As := [.int x1, .int x2]) (rest := []) rfl rfl (Nat.le_of_ble_eq_true rfl) dL_run_3 hP hD0 hS hl (fun h0 H1 locs1 hP1 hD1 hS1 => ?_) (fun h0 ce q9 H1 locs1 hP1 hD1 hS1 hce hcv hcl => ?_)
  · rcases hcase with ⟨-, rfl, rfl⟩ | ⟨h1, -⟩
    · rw [List.append_nil] at hP1 hD1
      have hh : M p l e R s m args below meth c Z (wA (kw (wC Z.1 ad) f) s.heap.size) 4 (mQF below Z (mQi (wC Z.1 ad) (z.2.1, z.2.2)) (kw (wC Z.1 ad) f) args s 2 12) () (0 + 2) (0 + 12) (kw (wC Z.1 ad) z.2.2) 6 [(0, .ref (ad 291)), (1, .int x1), (2, .int x2)] [.int z.2.1] (some ()) := M_iret C (ty := .int) rfl rfl ⟨by decide, by decide⟩ dL_run_6 (fun _ => ⟨rfl, rfl⟩)
      exact hh rfl H1 locs1 ls hP1 hD1 hS1 hl
    · exact absurd h0 h1
  · rcases hcase with ⟨h1, -⟩ | ⟨-, hk, rfl, rfl⟩
    · exact absurd h1 h0
    · rw [List.append_nil] at hP1 hD1
      have hk9 : z.1 = 4 := by simpa using hk
      have h9 := hk9
      · rw [h9] at hcl
        rw [h9]
        refine vx_catch (own := RL) (name := kE 4) (E := kE 4) C.1.2.2.2.1 [] ⟨0, 6, 7, 19⟩ [] htab (fun z9 hz9 => nomatch hz9) rfl (by decide) (C.1.2.2.2.2 _ wcl_RL_19) (m_cast C.2.1 (by decide +kernel)) hce hcv hcl ?_
        have hh : M p l e R s m args below meth c Z (wA (kw (wC Z.1 ad) f) s.heap.size) 4 (mQF below Z (mQi (wC Z.1 ad) ((-1001 - Int32.ofNat ([4].idxOf 4)), z.2.2)) (kw (wC Z.1 ad) f) args s 2 12) () (0 + 2) (0 + 12) (kw (wC Z.1 ad) z.2.2) 7 [(0, .ref (ad 291)), (1, .int x1), (2, .int x2)] [.ref q9] (some ()) := by
          refine M_astore_n C rfl (by decide) (lv1 := [(3, .ref q9), (0, .ref (ad 291)), (1, .int x1), (2, .int x2)]) rfl dL_run_7 ?_
          refine M_sipush C (v := (-1001)) (by decide) dL_run_8 ?_
          refine M_top (y := (-1001 - Int32.ofNat ([4].idxOf 4))) (by decide) ?_
          exact M_iret C (ty := .int) rfl rfl ⟨by decide, by decide⟩ dL_run_11 (fun _ => ⟨rfl, rfl⟩)
        exact hh rfl H1 locs1 ls hP1 hD1 hS1 hl
theorem wm_RL_50 : Cond.methodLink RL 50 yX11_order ∈ kGT := kgt (List.mem_of_getElem? (i := 821) (by decide +kernel)) rfl
theorem hy_X11_order : kYV yX11_order cX11_order 5 (some .int) 4 := ⟨⟨kgt (List.mem_of_getElem? (i := 824) (by decide +kernel)) rfl, kgt (List.mem_of_getElem? (i := 21) (by decide +kernel)) rfl, by decide +kernel, by decide⟩, kgt (List.mem_of_getElem? (i := 822) (by decide +kernel)) rfl, kgt (List.mem_of_getElem? (i := 823) (by decide +kernel)) rfl⟩
set_option maxRecDepth 100000 in
set_option maxHeartbeats 4000000 in
theorem wl_order (l : Launch) (hst : l.stackTraces = false) (Z : mZ) (ad : Nat → Nat) (had : mAd Z ad) (f : kMem) (x1 x2 x3 x4 : Int32) (r : Int32) (fo : kMem) (h : wvx [4] (cx_X11_order f x1 x2 x3 x4) = some (r, fo)) : mMet l Z yL_order (.codeWith yL_order cL_order 6 (some .int) [(0, 9, 10, 19)]) 8 2 12 [.ref (ad 291), .int x1, .int x2, .int x3, .int x4] (kw (wC Z.1 ad) f) [] (mQi (wC Z.1 ad) (r, fo)) := by
  obtain ⟨z, hz, hcase⟩ := wvx_some h
  refine mMet_ofW (z := ()) (X := some ()) (own := RL) (lv := [(0, .ref (ad 291)), (1, .int x1), (2, .int x2), (3, .int x3), (4, .int x4)]) hst (by decide) rfl (Nat.le_of_ble_eq_true rfl) rfl rfl ?_
  intro p e R s m args below meth c C htab
  have hA : ∀ q, s.heap.size ≤ q → wA (kw (wC Z.1 ad) f) s.heap.size q := fun q h => Or.inr h
  refine M_aload_n C 0 rfl rfl dL_order_0 ?_
  refine M_iload_n C 1 rfl rfl dL_order_1 ?_
  refine M_iload_n C 2 rfl rfl dL_order_2 ?_
  refine M_iload_n C 3 rfl rfl dL_order_3 ?_
  refine M_iload C 4 rfl dL_order_4 ?_
  intro hX H locs ls hP hD hS hl
  rw [← List.append_nil (kw (wC Z.1 ad) f)] at hP
  have hD0 : va_D (wA (kw (wC Z.1 ad) f) s.heap.size) (kw (wC Z.1 ad) f ++ []) := by rw [List.append_nil]; exact hD
  refine M_wcall C hA had hy_X11_order rfl wm_RL_50 (by decide) ⟨by decide, by decide⟩ (kxMetV_int (kmx_X11_order l hst Z.1 ad f x1 x2 x3 x4 z hz)) (As := [.int x1, .int x2, .int x3, .int x4]) (rest := []) rfl rfl (Nat.le_of_ble_eq_true rfl) dL_order_6 hP hD0 hS hl (fun h0 H1 locs1 hP1 hD1 hS1 => ?_) (fun h0 ce q9 H1 locs1 hP1 hD1 hS1 hce hcv hcl => ?_)
  · rcases hcase with ⟨-, rfl, rfl⟩ | ⟨h1, -⟩
    · rw [List.append_nil] at hP1 hD1
      have hh : M p l e R s m args below meth c Z (wA (kw (wC Z.1 ad) f) s.heap.size) 6 (mQF below Z (mQi (wC Z.1 ad) (z.2.1, z.2.2)) (kw (wC Z.1 ad) f) args s 2 12) () (0 + 2) (0 + 12) (kw (wC Z.1 ad) z.2.2) 9 [(0, .ref (ad 291)), (1, .int x1), (2, .int x2), (3, .int x3), (4, .int x4)] [.int z.2.1] (some ()) := M_iret C (ty := .int) rfl rfl ⟨by decide, by decide⟩ dL_order_9 (fun _ => ⟨rfl, rfl⟩)
      exact hh rfl H1 locs1 ls hP1 hD1 hS1 hl
    · exact absurd h0 h1
  · rcases hcase with ⟨h1, -⟩ | ⟨-, hk, rfl, rfl⟩
    · exact absurd h1 h0
    · rw [List.append_nil] at hP1 hD1
      have hk9 : z.1 = 4 := by simpa using hk
      have h9 := hk9
      · rw [h9] at hcl
        rw [h9]
        refine vx_catch (own := RL) (name := kE 4) (E := kE 4) C.1.2.2.2.1 [] ⟨0, 9, 10, 19⟩ [] htab (fun z9 hz9 => nomatch hz9) rfl (by decide) (C.1.2.2.2.2 _ wcl_RL_19) (m_cast C.2.1 (by decide +kernel)) hce hcv hcl ?_
        have hh : M p l e R s m args below meth c Z (wA (kw (wC Z.1 ad) f) s.heap.size) 6 (mQF below Z (mQi (wC Z.1 ad) ((-1001 - Int32.ofNat ([4].idxOf 4)), z.2.2)) (kw (wC Z.1 ad) f) args s 2 12) () (0 + 2) (0 + 12) (kw (wC Z.1 ad) z.2.2) 10 [(0, .ref (ad 291)), (1, .int x1), (2, .int x2), (3, .int x3), (4, .int x4)] [.ref q9] (some ()) := by
          refine M_astore C (by decide) (lv1 := [(5, .ref q9), (0, .ref (ad 291)), (1, .int x1), (2, .int x2), (3, .int x3), (4, .int x4)]) rfl dL_order_10 ?_
          refine M_sipush C (v := (-1001)) (by decide) dL_order_12 ?_
          refine M_top (y := (-1001 - Int32.ofNat ([4].idxOf 4))) (by decide) ?_
          exact M_iret C (ty := .int) rfl rfl ⟨by decide, by decide⟩ dL_order_15 (fun _ => ⟨rfl, rfl⟩)
        exact hh rfl H1 locs1 ls hP1 hD1 hS1 hl
theorem wm_RL_54 : Cond.methodLink RL 54 yX11_callOff ∈ kGT := kgt (List.mem_of_getElem? (i := 839) (by decide +kernel)) rfl
theorem hy_X11_callOff : kYV yX11_callOff cX11_callOff 2 (some .int) 1 := ⟨⟨kgt (List.mem_of_getElem? (i := 842) (by decide +kernel)) rfl, kgt (List.mem_of_getElem? (i := 21) (by decide +kernel)) rfl, by decide +kernel, by decide⟩, kgt (List.mem_of_getElem? (i := 840) (by decide +kernel)) rfl, kgt (List.mem_of_getElem? (i := 841) (by decide +kernel)) rfl⟩
set_option maxRecDepth 100000 in
set_option maxHeartbeats 4000000 in
theorem wl_callOff (l : Launch) (hst : l.stackTraces = false) (Z : mZ) (ad : Nat → Nat) (had : mAd Z ad) (f : kMem) (x1 : Int32) (r : Int32) (fo : kMem) (h : wvx [4] (cx_X11_callOff f x1) = some (r, fo)) : mMet l Z yL_callOff (.codeWith yL_callOff cL_callOff 3 (some .int) [(0, 5, 6, 19)]) 8 2 12 [.ref (ad 291), .int x1] (kw (wC Z.1 ad) f) [] (mQi (wC Z.1 ad) (r, fo)) := by
  obtain ⟨z, hz, hcase⟩ := wvx_some h
  refine mMet_ofW (z := ()) (X := some ()) (own := RL) (lv := [(0, .ref (ad 291)), (1, .int x1)]) hst (by decide) rfl (Nat.le_of_ble_eq_true rfl) rfl rfl ?_
  intro p e R s m args below meth c C htab
  have hA : ∀ q, s.heap.size ≤ q → wA (kw (wC Z.1 ad) f) s.heap.size q := fun q h => Or.inr h
  refine M_aload_n C 0 rfl rfl dL_callOff_0 ?_
  refine M_iload_n C 1 rfl rfl dL_callOff_1 ?_
  intro hX H locs ls hP hD hS hl
  rw [← List.append_nil (kw (wC Z.1 ad) f)] at hP
  have hD0 : va_D (wA (kw (wC Z.1 ad) f) s.heap.size) (kw (wC Z.1 ad) f ++ []) := by rw [List.append_nil]; exact hD
  refine M_wcall C hA had hy_X11_callOff rfl wm_RL_54 (by decide) ⟨by decide, by decide⟩ (kxMetV_int (kmx_X11_callOff l hst Z.1 ad f x1 z hz)) (As := [.int x1]) (rest := []) rfl rfl (Nat.le_of_ble_eq_true rfl) dL_callOff_2 hP hD0 hS hl (fun h0 H1 locs1 hP1 hD1 hS1 => ?_) (fun h0 ce q9 H1 locs1 hP1 hD1 hS1 hce hcv hcl => ?_)
  · rcases hcase with ⟨-, rfl, rfl⟩ | ⟨h1, -⟩
    · rw [List.append_nil] at hP1 hD1
      have hh : M p l e R s m args below meth c Z (wA (kw (wC Z.1 ad) f) s.heap.size) 3 (mQF below Z (mQi (wC Z.1 ad) (z.2.1, z.2.2)) (kw (wC Z.1 ad) f) args s 2 12) () (0 + 2) (0 + 12) (kw (wC Z.1 ad) z.2.2) 5 [(0, .ref (ad 291)), (1, .int x1)] [.int z.2.1] (some ()) := M_iret C (ty := .int) rfl rfl ⟨by decide, by decide⟩ dL_callOff_5 (fun _ => ⟨rfl, rfl⟩)
      exact hh rfl H1 locs1 ls hP1 hD1 hS1 hl
    · exact absurd h0 h1
  · rcases hcase with ⟨h1, -⟩ | ⟨-, hk, rfl, rfl⟩
    · exact absurd h1 h0
    · rw [List.append_nil] at hP1 hD1
      have hk9 : z.1 = 4 := by simpa using hk
      have h9 := hk9
      · rw [h9] at hcl
        rw [h9]
        refine vx_catch (own := RL) (name := kE 4) (E := kE 4) C.1.2.2.2.1 [] ⟨0, 5, 6, 19⟩ [] htab (fun z9 hz9 => nomatch hz9) rfl (by decide) (C.1.2.2.2.2 _ wcl_RL_19) (m_cast C.2.1 (by decide +kernel)) hce hcv hcl ?_
        have hh : M p l e R s m args below meth c Z (wA (kw (wC Z.1 ad) f) s.heap.size) 3 (mQF below Z (mQi (wC Z.1 ad) ((-1001 - Int32.ofNat ([4].idxOf 4)), z.2.2)) (kw (wC Z.1 ad) f) args s 2 12) () (0 + 2) (0 + 12) (kw (wC Z.1 ad) z.2.2) 6 [(0, .ref (ad 291)), (1, .int x1)] [.ref q9] (some ()) := by
          refine M_astore_n C rfl (by decide) (lv1 := [(2, .ref q9), (0, .ref (ad 291)), (1, .int x1)]) rfl dL_callOff_6 ?_
          refine M_sipush C (v := (-1001)) (by decide) dL_callOff_7 ?_
          refine M_top (y := (-1001 - Int32.ofNat ([4].idxOf 4))) (by decide) ?_
          exact M_iret C (ty := .int) rfl rfl ⟨by decide, by decide⟩ dL_callOff_10 (fun _ => ⟨rfl, rfl⟩)
        exact hh rfl H1 locs1 ls hP1 hD1 hS1 hl
theorem wm_RL_57 : Cond.methodLink RL 57 yX11_set ∈ kGT := kgt (List.mem_of_getElem? (i := 858) (by decide +kernel)) rfl
theorem hy_X11_set : kYV yX11_set cX11_set 3 (some .int) 2 := ⟨⟨kgt (List.mem_of_getElem? (i := 861) (by decide +kernel)) rfl, kgt (List.mem_of_getElem? (i := 21) (by decide +kernel)) rfl, by decide +kernel, by decide⟩, kgt (List.mem_of_getElem? (i := 859) (by decide +kernel)) rfl, kgt (List.mem_of_getElem? (i := 860) (by decide +kernel)) rfl⟩
set_option maxRecDepth 100000 in
set_option maxHeartbeats 4000000 in
theorem wl_set (l : Launch) (hst : l.stackTraces = false) (Z : mZ) (ad : Nat → Nat) (had : mAd Z ad) (f : kMem) (x1 x2 : Int32) (r : Int32) (fo : kMem) (h : wvx [4] (cx_X11_set f x1 x2) = some (r, fo)) : mMet l Z yL_set (.codeWith yL_set cL_set 4 (some .int) [(0, 6, 7, 19)]) 8 2 12 [.ref (ad 291), .int x1, .int x2] (kw (wC Z.1 ad) f) [] (mQi (wC Z.1 ad) (r, fo)) := by
  obtain ⟨z, hz, hcase⟩ := wvx_some h
  refine mMet_ofW (z := ()) (X := some ()) (own := RL) (lv := [(0, .ref (ad 291)), (1, .int x1), (2, .int x2)]) hst (by decide) rfl (Nat.le_of_ble_eq_true rfl) rfl rfl ?_
  intro p e R s m args below meth c C htab
  have hA : ∀ q, s.heap.size ≤ q → wA (kw (wC Z.1 ad) f) s.heap.size q := fun q h => Or.inr h
  refine M_aload_n C 0 rfl rfl dL_set_0 ?_
  refine M_iload_n C 1 rfl rfl dL_set_1 ?_
  refine M_iload_n C 2 rfl rfl dL_set_2 ?_
  intro hX H locs ls hP hD hS hl
  rw [← List.append_nil (kw (wC Z.1 ad) f)] at hP
  have hD0 : va_D (wA (kw (wC Z.1 ad) f) s.heap.size) (kw (wC Z.1 ad) f ++ []) := by rw [List.append_nil]; exact hD
  refine M_wcall C hA had hy_X11_set rfl wm_RL_57 (by decide) ⟨by decide, by decide⟩ (kxMetV_int (kmx_X11_set l hst Z.1 ad f x1 x2 z hz)) (As := [.int x1, .int x2]) (rest := []) rfl rfl (Nat.le_of_ble_eq_true rfl) dL_set_3 hP hD0 hS hl (fun h0 H1 locs1 hP1 hD1 hS1 => ?_) (fun h0 ce q9 H1 locs1 hP1 hD1 hS1 hce hcv hcl => ?_)
  · rcases hcase with ⟨-, rfl, rfl⟩ | ⟨h1, -⟩
    · rw [List.append_nil] at hP1 hD1
      have hh : M p l e R s m args below meth c Z (wA (kw (wC Z.1 ad) f) s.heap.size) 4 (mQF below Z (mQi (wC Z.1 ad) (z.2.1, z.2.2)) (kw (wC Z.1 ad) f) args s 2 12) () (0 + 2) (0 + 12) (kw (wC Z.1 ad) z.2.2) 6 [(0, .ref (ad 291)), (1, .int x1), (2, .int x2)] [.int z.2.1] (some ()) := M_iret C (ty := .int) rfl rfl ⟨by decide, by decide⟩ dL_set_6 (fun _ => ⟨rfl, rfl⟩)
      exact hh rfl H1 locs1 ls hP1 hD1 hS1 hl
    · exact absurd h0 h1
  · rcases hcase with ⟨h1, -⟩ | ⟨-, hk, rfl, rfl⟩
    · exact absurd h1 h0
    · rw [List.append_nil] at hP1 hD1
      have hk9 : z.1 = 4 := by simpa using hk
      have h9 := hk9
      · rw [h9] at hcl
        rw [h9]
        refine vx_catch (own := RL) (name := kE 4) (E := kE 4) C.1.2.2.2.1 [] ⟨0, 6, 7, 19⟩ [] htab (fun z9 hz9 => nomatch hz9) rfl (by decide) (C.1.2.2.2.2 _ wcl_RL_19) (m_cast C.2.1 (by decide +kernel)) hce hcv hcl ?_
        have hh : M p l e R s m args below meth c Z (wA (kw (wC Z.1 ad) f) s.heap.size) 4 (mQF below Z (mQi (wC Z.1 ad) ((-1001 - Int32.ofNat ([4].idxOf 4)), z.2.2)) (kw (wC Z.1 ad) f) args s 2 12) () (0 + 2) (0 + 12) (kw (wC Z.1 ad) z.2.2) 7 [(0, .ref (ad 291)), (1, .int x1), (2, .int x2)] [.ref q9] (some ()) := by
          refine M_astore_n C rfl (by decide) (lv1 := [(3, .ref q9), (0, .ref (ad 291)), (1, .int x1), (2, .int x2)]) rfl dL_set_7 ?_
          refine M_sipush C (v := (-1001)) (by decide) dL_set_8 ?_
          refine M_top (y := (-1001 - Int32.ofNat ([4].idxOf 4))) (by decide) ?_
          exact M_iret C (ty := .int) rfl rfl ⟨by decide, by decide⟩ dL_set_11 (fun _ => ⟨rfl, rfl⟩)
        exact hh rfl H1 locs1 ls hP1 hD1 hS1 hl
theorem wm_RL_60 : Cond.methodLink RL 60 yX11_purge ∈ kGT := kgt (List.mem_of_getElem? (i := 1531) (by decide +kernel)) rfl
theorem hy_X11_purge : kYV yX11_purge cX11_purge 3 (some .int) 2 := ⟨⟨kgt (List.mem_of_getElem? (i := 1534) (by decide +kernel)) rfl, kgt (List.mem_of_getElem? (i := 21) (by decide +kernel)) rfl, by decide +kernel, by decide⟩, kgt (List.mem_of_getElem? (i := 1532) (by decide +kernel)) rfl, kgt (List.mem_of_getElem? (i := 1533) (by decide +kernel)) rfl⟩
theorem wcl_RL_63 : Cond.classLink RL 63 (kE 3) ∈ kGT := kgt (List.mem_of_getElem? (i := 942) (by decide +kernel)) rfl
set_option maxRecDepth 100000 in
set_option maxHeartbeats 4000000 in
theorem wl_purge (l : Launch) (hst : l.stackTraces = false) (Z : mZ) (ad : Nat → Nat) (had : mAd Z ad) (f : kMem) (x1 x2 : Int32) (r : Int32) (fo : kMem) (h : wvx [3] (cx_X11_purge f x1 x2) = some (r, fo)) : mMet l Z yL_purge (.codeWith yL_purge cL_purge 4 (some .int) [(0, 6, 7, 63)]) 7 2 12 [.ref (ad 291), .int x1, .int x2] (kw (wC Z.1 ad) f) [] (mQi (wC Z.1 ad) (r, fo)) := by
  obtain ⟨z, hz, hcase⟩ := wvx_some h
  refine mMet_ofW (z := ()) (X := some ()) (own := RL) (lv := [(0, .ref (ad 291)), (1, .int x1), (2, .int x2)]) hst (by decide) rfl (Nat.le_of_ble_eq_true rfl) rfl rfl ?_
  intro p e R s m args below meth c C htab
  have hA : ∀ q, s.heap.size ≤ q → wA (kw (wC Z.1 ad) f) s.heap.size q := fun q h => Or.inr h
  refine M_aload_n C 0 rfl rfl dL_purge_0 ?_
  refine M_iload_n C 1 rfl rfl dL_purge_1 ?_
  refine M_iload_n C 2 rfl rfl dL_purge_2 ?_
  intro hX H locs ls hP hD hS hl
  rw [← List.append_nil (kw (wC Z.1 ad) f)] at hP
  have hD0 : va_D (wA (kw (wC Z.1 ad) f) s.heap.size) (kw (wC Z.1 ad) f ++ []) := by rw [List.append_nil]; exact hD
  refine M_wcall C hA had hy_X11_purge rfl wm_RL_60 (by decide) ⟨by decide, by decide⟩ (kxMetV_int (kmx_X11_purge l hst Z.1 ad f x1 x2 z hz)) (As := [.int x1, .int x2]) (rest := []) rfl rfl (Nat.le_of_ble_eq_true rfl) dL_purge_3 hP hD0 hS hl (fun h0 H1 locs1 hP1 hD1 hS1 => ?_) (fun h0 ce q9 H1 locs1 hP1 hD1 hS1 hce hcv hcl => ?_)
  · rcases hcase with ⟨-, rfl, rfl⟩ | ⟨h1, -⟩
    · rw [List.append_nil] at hP1 hD1
      have hh : M p l e R s m args below meth c Z (wA (kw (wC Z.1 ad) f) s.heap.size) 4 (mQF below Z (mQi (wC Z.1 ad) (z.2.1, z.2.2)) (kw (wC Z.1 ad) f) args s 2 12) () (0 + 2) (0 + 12) (kw (wC Z.1 ad) z.2.2) 6 [(0, .ref (ad 291)), (1, .int x1), (2, .int x2)] [.int z.2.1] (some ()) := M_iret C (ty := .int) rfl rfl ⟨by decide, by decide⟩ dL_purge_6 (fun _ => ⟨rfl, rfl⟩)
      exact hh rfl H1 locs1 ls hP1 hD1 hS1 hl
    · exact absurd h0 h1
  · rcases hcase with ⟨h1, -⟩ | ⟨-, hk, rfl, rfl⟩
    · exact absurd h1 h0
    · rw [List.append_nil] at hP1 hD1
      have hk9 : z.1 = 3 := by simpa using hk
      have h9 := hk9
      · rw [h9] at hcl
        rw [h9]
        refine vx_catch (own := RL) (name := kE 3) (E := kE 3) C.1.2.2.2.1 [] ⟨0, 6, 7, 63⟩ [] htab (fun z9 hz9 => nomatch hz9) rfl (by decide) (C.1.2.2.2.2 _ wcl_RL_63) (m_cast C.2.1 (by decide +kernel)) hce hcv hcl ?_
        have hh : M p l e R s m args below meth c Z (wA (kw (wC Z.1 ad) f) s.heap.size) 4 (mQF below Z (mQi (wC Z.1 ad) ((-1001 - Int32.ofNat ([3].idxOf 3)), z.2.2)) (kw (wC Z.1 ad) f) args s 2 12) () (0 + 2) (0 + 12) (kw (wC Z.1 ad) z.2.2) 7 [(0, .ref (ad 291)), (1, .int x1), (2, .int x2)] [.ref q9] (some ()) := by
          refine M_astore_n C rfl (by decide) (lv1 := [(3, .ref q9), (0, .ref (ad 291)), (1, .int x1), (2, .int x2)]) rfl dL_purge_7 ?_
          refine M_sipush C (v := (-1001)) (by decide) dL_purge_8 ?_
          refine M_top (y := (-1001 - Int32.ofNat ([3].idxOf 3))) (by decide) ?_
          exact M_iret C (ty := .int) rfl rfl ⟨by decide, by decide⟩ dL_purge_11 (fun _ => ⟨rfl, rfl⟩)
        exact hh rfl H1 locs1 ls hP1 hD1 hS1 hl
theorem wm_RL_65 : Cond.methodLink RL 65 yX11_minutes ∈ kGT := kgt (List.mem_of_getElem? (i := 1540) (by decide +kernel)) rfl
theorem hy_X11_minutes : kYV yX11_minutes cX11_minutes 3 (some .int) 2 := ⟨⟨kgt (List.mem_of_getElem? (i := 1543) (by decide +kernel)) rfl, kgt (List.mem_of_getElem? (i := 21) (by decide +kernel)) rfl, by decide +kernel, by decide⟩, kgt (List.mem_of_getElem? (i := 1541) (by decide +kernel)) rfl, kgt (List.mem_of_getElem? (i := 1542) (by decide +kernel)) rfl⟩
set_option maxRecDepth 100000 in
set_option maxHeartbeats 4000000 in
theorem wl_minutes (l : Launch) (hst : l.stackTraces = false) (Z : mZ) (ad : Nat → Nat) (had : mAd Z ad) (f : kMem) (x1 x2 : Int32) (r : Int32) (fo : kMem) (h : wvx [3, 2, 1] (cx_X11_minutes f x1 x2) = some (r, fo)) : mMet l Z yL_minutes (.codeWith yL_minutes cL_minutes 4 (some .int) [(0, 6, 7, 63), (0, 6, 12, 28), (0, 6, 17, 13)]) 7 2 12 [.ref (ad 291), .int x1, .int x2] (kw (wC Z.1 ad) f) [] (mQi (wC Z.1 ad) (r, fo)) := by
  obtain ⟨z, hz, hcase⟩ := wvx_some h
  refine mMet_ofW (z := ()) (X := some ()) (own := RL) (lv := [(0, .ref (ad 291)), (1, .int x1), (2, .int x2)]) hst (by decide) rfl (Nat.le_of_ble_eq_true rfl) rfl rfl ?_
  intro p e R s m args below meth c C htab
  have hA : ∀ q, s.heap.size ≤ q → wA (kw (wC Z.1 ad) f) s.heap.size q := fun q h => Or.inr h
  refine M_aload_n C 0 rfl rfl dL_minutes_0 ?_
  refine M_iload_n C 1 rfl rfl dL_minutes_1 ?_
  refine M_iload_n C 2 rfl rfl dL_minutes_2 ?_
  intro hX H locs ls hP hD hS hl
  rw [← List.append_nil (kw (wC Z.1 ad) f)] at hP
  have hD0 : va_D (wA (kw (wC Z.1 ad) f) s.heap.size) (kw (wC Z.1 ad) f ++ []) := by rw [List.append_nil]; exact hD
  refine M_wcall C hA had hy_X11_minutes rfl wm_RL_65 (by decide) ⟨by decide, by decide⟩ (kxMetV_int (kmx_X11_minutes l hst Z.1 ad f x1 x2 z hz)) (As := [.int x1, .int x2]) (rest := []) rfl rfl (Nat.le_of_ble_eq_true rfl) dL_minutes_3 hP hD0 hS hl (fun h0 H1 locs1 hP1 hD1 hS1 => ?_) (fun h0 ce q9 H1 locs1 hP1 hD1 hS1 hce hcv hcl => ?_)
  · rcases hcase with ⟨-, rfl, rfl⟩ | ⟨h1, -⟩
    · rw [List.append_nil] at hP1 hD1
      have hh : M p l e R s m args below meth c Z (wA (kw (wC Z.1 ad) f) s.heap.size) 4 (mQF below Z (mQi (wC Z.1 ad) (z.2.1, z.2.2)) (kw (wC Z.1 ad) f) args s 2 12) () (0 + 2) (0 + 12) (kw (wC Z.1 ad) z.2.2) 6 [(0, .ref (ad 291)), (1, .int x1), (2, .int x2)] [.int z.2.1] (some ()) := M_iret C (ty := .int) rfl rfl ⟨by decide, by decide⟩ dL_minutes_6 (fun _ => ⟨rfl, rfl⟩)
      exact hh rfl H1 locs1 ls hP1 hD1 hS1 hl
    · exact absurd h0 h1
  · rcases hcase with ⟨h1, -⟩ | ⟨-, hk, rfl, rfl⟩
    · exact absurd h1 h0
    · rw [List.append_nil] at hP1 hD1
      have hk9 : z.1 = 3 ∨ z.1 = 2 ∨ z.1 = 1 := by simpa using hk
      rcases hk9 with h9 | h9 | h9
      · rw [h9] at hcl
        rw [h9]
        refine vx_catch (own := RL) (name := kE 3) (E := kE 3) C.1.2.2.2.1 [] ⟨0, 6, 7, 63⟩ [⟨0, 6, 12, 28⟩, ⟨0, 6, 17, 13⟩] htab (fun z9 hz9 => nomatch hz9) rfl (by decide) (C.1.2.2.2.2 _ wcl_RL_63) (m_cast C.2.1 (by decide +kernel)) hce hcv hcl ?_
        have hh : M p l e R s m args below meth c Z (wA (kw (wC Z.1 ad) f) s.heap.size) 4 (mQF below Z (mQi (wC Z.1 ad) ((-1001 - Int32.ofNat ([3, 2, 1].idxOf 3)), z.2.2)) (kw (wC Z.1 ad) f) args s 2 12) () (0 + 2) (0 + 12) (kw (wC Z.1 ad) z.2.2) 7 [(0, .ref (ad 291)), (1, .int x1), (2, .int x2)] [.ref q9] (some ()) := by
          refine M_astore_n C rfl (by decide) (lv1 := [(3, .ref q9), (0, .ref (ad 291)), (1, .int x1), (2, .int x2)]) rfl dL_minutes_7 ?_
          refine M_sipush C (v := (-1001)) (by decide) dL_minutes_8 ?_
          refine M_top (y := (-1001 - Int32.ofNat ([3, 2, 1].idxOf 3))) (by decide) ?_
          exact M_iret C (ty := .int) rfl rfl ⟨by decide, by decide⟩ dL_minutes_11 (fun _ => ⟨rfl, rfl⟩)
        exact hh rfl H1 locs1 ls hP1 hD1 hS1 hl
      · rw [h9] at hcl
        rw [h9]
        refine vx_catch (own := RL) (name := kE 2) (E := kE 2) C.1.2.2.2.1 [⟨0, 6, 7, 63⟩] ⟨0, 6, 12, 28⟩ [⟨0, 6, 17, 13⟩] htab (fun z9 hz9 => by
          simp only [List.mem_cons, List.not_mem_nil, or_false] at hz9
          rcases hz9 with rfl
          · exact Or.inr ⟨by decide, kE 3, C.1.2.2.2.2 _ wcl_RL_63, C.2.1.2.2.2.2.1 2 3 (by decide) (by decide) (by decide)⟩) rfl (by decide) (C.1.2.2.2.2 _ wcl_RL_28) (m_cast C.2.1 (by decide +kernel)) hce hcv hcl ?_
        have hh : M p l e R s m args below meth c Z (wA (kw (wC Z.1 ad) f) s.heap.size) 4 (mQF below Z (mQi (wC Z.1 ad) ((-1001 - Int32.ofNat ([3, 2, 1].idxOf 2)), z.2.2)) (kw (wC Z.1 ad) f) args s 2 12) () (0 + 2) (0 + 12) (kw (wC Z.1 ad) z.2.2) 12 [(0, .ref (ad 291)), (1, .int x1), (2, .int x2)] [.ref q9] (some ()) := by
          refine M_astore_n C rfl (by decide) (lv1 := [(3, .ref q9), (0, .ref (ad 291)), (1, .int x1), (2, .int x2)]) rfl dL_minutes_12 ?_
          refine M_sipush C (v := (-1002)) (by decide) dL_minutes_13 ?_
          refine M_top (y := (-1001 - Int32.ofNat ([3, 2, 1].idxOf 2))) (by decide) ?_
          exact M_iret C (ty := .int) rfl rfl ⟨by decide, by decide⟩ dL_minutes_16 (fun _ => ⟨rfl, rfl⟩)
        exact hh rfl H1 locs1 ls hP1 hD1 hS1 hl
      · rw [h9] at hcl
        rw [h9]
        refine vx_catch (own := RL) (name := kE 1) (E := kE 1) C.1.2.2.2.1 [⟨0, 6, 7, 63⟩, ⟨0, 6, 12, 28⟩] ⟨0, 6, 17, 13⟩ [] htab (fun z9 hz9 => by
          simp only [List.mem_cons, List.not_mem_nil, or_false] at hz9
          rcases hz9 with rfl | rfl
          · exact Or.inr ⟨by decide, kE 3, C.1.2.2.2.2 _ wcl_RL_63, C.2.1.2.2.2.2.1 1 3 (by decide) (by decide) (by decide)⟩
          · exact Or.inr ⟨by decide, kE 2, C.1.2.2.2.2 _ wcl_RL_28, C.2.1.2.2.2.2.1 1 2 (by decide) (by decide) (by decide)⟩) rfl (by decide) (C.1.2.2.2.2 _ wcl_RL_13) (m_cast C.2.1 (by decide +kernel)) hce hcv hcl ?_
        have hh : M p l e R s m args below meth c Z (wA (kw (wC Z.1 ad) f) s.heap.size) 4 (mQF below Z (mQi (wC Z.1 ad) ((-1001 - Int32.ofNat ([3, 2, 1].idxOf 1)), z.2.2)) (kw (wC Z.1 ad) f) args s 2 12) () (0 + 2) (0 + 12) (kw (wC Z.1 ad) z.2.2) 17 [(0, .ref (ad 291)), (1, .int x1), (2, .int x2)] [.ref q9] (some ()) := by
          refine M_astore_n C rfl (by decide) (lv1 := [(3, .ref q9), (0, .ref (ad 291)), (1, .int x1), (2, .int x2)]) rfl dL_minutes_17 ?_
          refine M_sipush C (v := (-1003)) (by decide) dL_minutes_18 ?_
          refine M_top (y := (-1001 - Int32.ofNat ([3, 2, 1].idxOf 1))) (by decide) ?_
          exact M_iret C (ty := .int) rfl rfl ⟨by decide, by decide⟩ dL_minutes_21 (fun _ => ⟨rfl, rfl⟩)
        exact hh rfl H1 locs1 ls hP1 hD1 hS1 hl
theorem wm_RL_68 : Cond.methodLink RL 68 yX11_best ∈ kGT := kgt (List.mem_of_getElem? (i := 873) (by decide +kernel)) rfl
theorem hy_X11_best : kYV yX11_best cX11_best 2 (some .int) 1 := ⟨⟨kgt (List.mem_of_getElem? (i := 876) (by decide +kernel)) rfl, kgt (List.mem_of_getElem? (i := 21) (by decide +kernel)) rfl, by decide +kernel, by decide⟩, kgt (List.mem_of_getElem? (i := 874) (by decide +kernel)) rfl, kgt (List.mem_of_getElem? (i := 875) (by decide +kernel)) rfl⟩
set_option maxRecDepth 100000 in
set_option maxHeartbeats 4000000 in
theorem wl_best (l : Launch) (hst : l.stackTraces = false) (Z : mZ) (ad : Nat → Nat) (had : mAd Z ad) (f : kMem) (x1 : Int32) (r : Int32) (fo : kMem) (h : wvx [2] (cx_X11_best f x1) = some (r, fo)) : mMet l Z yL_best (.codeWith yL_best cL_best 3 (some .int) [(0, 5, 6, 28)]) 8 2 12 [.ref (ad 291), .int x1] (kw (wC Z.1 ad) f) [] (mQi (wC Z.1 ad) (r, fo)) := by
  obtain ⟨z, hz, hcase⟩ := wvx_some h
  refine mMet_ofW (z := ()) (X := some ()) (own := RL) (lv := [(0, .ref (ad 291)), (1, .int x1)]) hst (by decide) rfl (Nat.le_of_ble_eq_true rfl) rfl rfl ?_
  intro p e R s m args below meth c C htab
  have hA : ∀ q, s.heap.size ≤ q → wA (kw (wC Z.1 ad) f) s.heap.size q := fun q h => Or.inr h
  refine M_aload_n C 0 rfl rfl dL_best_0 ?_
  refine M_iload_n C 1 rfl rfl dL_best_1 ?_
  intro hX H locs ls hP hD hS hl
  rw [← List.append_nil (kw (wC Z.1 ad) f)] at hP
  have hD0 : va_D (wA (kw (wC Z.1 ad) f) s.heap.size) (kw (wC Z.1 ad) f ++ []) := by rw [List.append_nil]; exact hD
  refine M_wcall C hA had hy_X11_best rfl wm_RL_68 (by decide) ⟨by decide, by decide⟩ (kxMetV_int (kmx_X11_best l hst Z.1 ad f x1 z hz)) (As := [.int x1]) (rest := []) rfl rfl (Nat.le_of_ble_eq_true rfl) dL_best_2 hP hD0 hS hl (fun h0 H1 locs1 hP1 hD1 hS1 => ?_) (fun h0 ce q9 H1 locs1 hP1 hD1 hS1 hce hcv hcl => ?_)
  · rcases hcase with ⟨-, rfl, rfl⟩ | ⟨h1, -⟩
    · rw [List.append_nil] at hP1 hD1
      have hh : M p l e R s m args below meth c Z (wA (kw (wC Z.1 ad) f) s.heap.size) 3 (mQF below Z (mQi (wC Z.1 ad) (z.2.1, z.2.2)) (kw (wC Z.1 ad) f) args s 2 12) () (0 + 2) (0 + 12) (kw (wC Z.1 ad) z.2.2) 5 [(0, .ref (ad 291)), (1, .int x1)] [.int z.2.1] (some ()) := M_iret C (ty := .int) rfl rfl ⟨by decide, by decide⟩ dL_best_5 (fun _ => ⟨rfl, rfl⟩)
      exact hh rfl H1 locs1 ls hP1 hD1 hS1 hl
    · exact absurd h0 h1
  · rcases hcase with ⟨h1, -⟩ | ⟨-, hk, rfl, rfl⟩
    · exact absurd h1 h0
    · rw [List.append_nil] at hP1 hD1
      have hk9 : z.1 = 2 := by simpa using hk
      have h9 := hk9
      · rw [h9] at hcl
        rw [h9]
        refine vx_catch (own := RL) (name := kE 2) (E := kE 2) C.1.2.2.2.1 [] ⟨0, 5, 6, 28⟩ [] htab (fun z9 hz9 => nomatch hz9) rfl (by decide) (C.1.2.2.2.2 _ wcl_RL_28) (m_cast C.2.1 (by decide +kernel)) hce hcv hcl ?_
        have hh : M p l e R s m args below meth c Z (wA (kw (wC Z.1 ad) f) s.heap.size) 3 (mQF below Z (mQi (wC Z.1 ad) ((-1001 - Int32.ofNat ([2].idxOf 2)), z.2.2)) (kw (wC Z.1 ad) f) args s 2 12) () (0 + 2) (0 + 12) (kw (wC Z.1 ad) z.2.2) 6 [(0, .ref (ad 291)), (1, .int x1)] [.ref q9] (some ()) := by
          refine M_astore_n C rfl (by decide) (lv1 := [(2, .ref q9), (0, .ref (ad 291)), (1, .int x1)]) rfl dL_best_6 ?_
          refine M_sipush C (v := (-1001)) (by decide) dL_best_7 ?_
          refine M_top (y := (-1001 - Int32.ofNat ([2].idxOf 2))) (by decide) ?_
          exact M_iret C (ty := .int) rfl rfl ⟨by decide, by decide⟩ dL_best_10 (fun _ => ⟨rfl, rfl⟩)
        exact hh rfl H1 locs1 ls hP1 hD1 hS1 hl
theorem wm_RL_74 : Cond.methodLink RL 74 yX11_bestColour ∈ kGT := kgt (List.mem_of_getElem? (i := 908) (by decide +kernel)) rfl
theorem hy_X11_bestColour : kYV yX11_bestColour cX11_bestColour 3 (some .int) 2 := ⟨⟨kgt (List.mem_of_getElem? (i := 911) (by decide +kernel)) rfl, kgt (List.mem_of_getElem? (i := 21) (by decide +kernel)) rfl, by decide +kernel, by decide⟩, kgt (List.mem_of_getElem? (i := 909) (by decide +kernel)) rfl, kgt (List.mem_of_getElem? (i := 910) (by decide +kernel)) rfl⟩
theorem wcl_RL_77 : Cond.classLink RL 77 (kE 5) ∈ kGT := kgt (List.mem_of_getElem? (i := 907) (by decide +kernel)) rfl
set_option maxRecDepth 100000 in
set_option maxHeartbeats 4000000 in
theorem wl_bestColour (l : Launch) (hst : l.stackTraces = false) (Z : mZ) (ad : Nat → Nat) (had : mAd Z ad) (f : kMem) (x1 x2 : Int32) (r : Int32) (fo : kMem) (h : wvx [2, 5] (cx_X11_bestColour f x1 x2) = some (r, fo)) : mMet l Z yL_bestColour (.codeWith yL_bestColour cL_bestColour 4 (some .int) [(0, 6, 7, 28), (0, 6, 12, 77)]) 8 2 12 [.ref (ad 291), .int x1, .int x2] (kw (wC Z.1 ad) f) [] (mQi (wC Z.1 ad) (r, fo)) := by
  obtain ⟨z, hz, hcase⟩ := wvx_some h
  refine mMet_ofW (z := ()) (X := some ()) (own := RL) (lv := [(0, .ref (ad 291)), (1, .int x1), (2, .int x2)]) hst (by decide) rfl (Nat.le_of_ble_eq_true rfl) rfl rfl ?_
  intro p e R s m args below meth c C htab
  have hA : ∀ q, s.heap.size ≤ q → wA (kw (wC Z.1 ad) f) s.heap.size q := fun q h => Or.inr h
  refine M_aload_n C 0 rfl rfl dL_bestColour_0 ?_
  refine M_iload_n C 1 rfl rfl dL_bestColour_1 ?_
  refine M_iload_n C 2 rfl rfl dL_bestColour_2 ?_
  intro hX H locs ls hP hD hS hl
  rw [← List.append_nil (kw (wC Z.1 ad) f)] at hP
  have hD0 : va_D (wA (kw (wC Z.1 ad) f) s.heap.size) (kw (wC Z.1 ad) f ++ []) := by rw [List.append_nil]; exact hD
  refine M_wcall C hA had hy_X11_bestColour rfl wm_RL_74 (by decide) ⟨by decide, by decide⟩ (kxMetV_int (kmx_X11_bestColour l hst Z.1 ad f x1 x2 z hz)) (As := [.int x1, .int x2]) (rest := []) rfl rfl (Nat.le_of_ble_eq_true rfl) dL_bestColour_3 hP hD0 hS hl (fun h0 H1 locs1 hP1 hD1 hS1 => ?_) (fun h0 ce q9 H1 locs1 hP1 hD1 hS1 hce hcv hcl => ?_)
  · rcases hcase with ⟨-, rfl, rfl⟩ | ⟨h1, -⟩
    · rw [List.append_nil] at hP1 hD1
      have hh : M p l e R s m args below meth c Z (wA (kw (wC Z.1 ad) f) s.heap.size) 4 (mQF below Z (mQi (wC Z.1 ad) (z.2.1, z.2.2)) (kw (wC Z.1 ad) f) args s 2 12) () (0 + 2) (0 + 12) (kw (wC Z.1 ad) z.2.2) 6 [(0, .ref (ad 291)), (1, .int x1), (2, .int x2)] [.int z.2.1] (some ()) := M_iret C (ty := .int) rfl rfl ⟨by decide, by decide⟩ dL_bestColour_6 (fun _ => ⟨rfl, rfl⟩)
      exact hh rfl H1 locs1 ls hP1 hD1 hS1 hl
    · exact absurd h0 h1
  · rcases hcase with ⟨h1, -⟩ | ⟨-, hk, rfl, rfl⟩
    · exact absurd h1 h0
    · rw [List.append_nil] at hP1 hD1
      have hk9 : z.1 = 2 ∨ z.1 = 5 := by simpa using hk
      rcases hk9 with h9 | h9
      · rw [h9] at hcl
        rw [h9]
        refine vx_catch (own := RL) (name := kE 2) (E := kE 2) C.1.2.2.2.1 [] ⟨0, 6, 7, 28⟩ [⟨0, 6, 12, 77⟩] htab (fun z9 hz9 => nomatch hz9) rfl (by decide) (C.1.2.2.2.2 _ wcl_RL_28) (m_cast C.2.1 (by decide +kernel)) hce hcv hcl ?_
        have hh : M p l e R s m args below meth c Z (wA (kw (wC Z.1 ad) f) s.heap.size) 4 (mQF below Z (mQi (wC Z.1 ad) ((-1001 - Int32.ofNat ([2, 5].idxOf 2)), z.2.2)) (kw (wC Z.1 ad) f) args s 2 12) () (0 + 2) (0 + 12) (kw (wC Z.1 ad) z.2.2) 7 [(0, .ref (ad 291)), (1, .int x1), (2, .int x2)] [.ref q9] (some ()) := by
          refine M_astore_n C rfl (by decide) (lv1 := [(3, .ref q9), (0, .ref (ad 291)), (1, .int x1), (2, .int x2)]) rfl dL_bestColour_7 ?_
          refine M_sipush C (v := (-1001)) (by decide) dL_bestColour_8 ?_
          refine M_top (y := (-1001 - Int32.ofNat ([2, 5].idxOf 2))) (by decide) ?_
          exact M_iret C (ty := .int) rfl rfl ⟨by decide, by decide⟩ dL_bestColour_11 (fun _ => ⟨rfl, rfl⟩)
        exact hh rfl H1 locs1 ls hP1 hD1 hS1 hl
      · rw [h9] at hcl
        rw [h9]
        refine vx_catch (own := RL) (name := kE 5) (E := kE 5) C.1.2.2.2.1 [⟨0, 6, 7, 28⟩] ⟨0, 6, 12, 77⟩ [] htab (fun z9 hz9 => by
          simp only [List.mem_cons, List.not_mem_nil, or_false] at hz9
          rcases hz9 with rfl
          · exact Or.inr ⟨by decide, kE 2, C.1.2.2.2.2 _ wcl_RL_28, C.2.1.2.2.2.2.1 5 2 (by decide) (by decide) (by decide)⟩) rfl (by decide) (C.1.2.2.2.2 _ wcl_RL_77) (m_cast C.2.1 (by decide +kernel)) hce hcv hcl ?_
        have hh : M p l e R s m args below meth c Z (wA (kw (wC Z.1 ad) f) s.heap.size) 4 (mQF below Z (mQi (wC Z.1 ad) ((-1001 - Int32.ofNat ([2, 5].idxOf 5)), z.2.2)) (kw (wC Z.1 ad) f) args s 2 12) () (0 + 2) (0 + 12) (kw (wC Z.1 ad) z.2.2) 12 [(0, .ref (ad 291)), (1, .int x1), (2, .int x2)] [.ref q9] (some ()) := by
          refine M_astore_n C rfl (by decide) (lv1 := [(3, .ref q9), (0, .ref (ad 291)), (1, .int x1), (2, .int x2)]) rfl dL_bestColour_12 ?_
          refine M_sipush C (v := (-1002)) (by decide) dL_bestColour_13 ?_
          refine M_top (y := (-1001 - Int32.ofNat ([2, 5].idxOf 5))) (by decide) ?_
          exact M_iret C (ty := .int) rfl rfl ⟨by decide, by decide⟩ dL_bestColour_16 (fun _ => ⟨rfl, rfl⟩)
        exact hh rfl H1 locs1 ls hP1 hD1 hS1 hl
theorem wm_RL_79 : Cond.methodLink RL 79 yX11_familyOf ∈ kGT := kgt (List.mem_of_getElem? (i := 1456) (by decide +kernel)) rfl
theorem hy_X11_familyOf : kYV yX11_familyOf cX11_familyOf 3 (some .int) 2 := ⟨⟨kgt (List.mem_of_getElem? (i := 1459) (by decide +kernel)) rfl, kgt (List.mem_of_getElem? (i := 21) (by decide +kernel)) rfl, by decide +kernel, by decide⟩, kgt (List.mem_of_getElem? (i := 1457) (by decide +kernel)) rfl, kgt (List.mem_of_getElem? (i := 1458) (by decide +kernel)) rfl⟩
set_option maxRecDepth 100000 in
set_option maxHeartbeats 4000000 in
theorem wl_familyOf (l : Launch) (hst : l.stackTraces = false) (Z : mZ) (ad : Nat → Nat) (had : mAd Z ad) (f : kMem) (x1 x2 : Int32) (r : Int32) (fo : kMem) (h : wvx [3, 2] (cx_X11_familyOf f x1 x2) = some (r, fo)) : mMet l Z yL_familyOf (.codeWith yL_familyOf cL_familyOf 4 (some .int) [(0, 6, 7, 63), (0, 6, 12, 28)]) 7 2 12 [.ref (ad 291), .int x1, .int x2] (kw (wC Z.1 ad) f) [] (mQi (wC Z.1 ad) (r, fo)) := by
  obtain ⟨z, hz, hcase⟩ := wvx_some h
  refine mMet_ofW (z := ()) (X := some ()) (own := RL) (lv := [(0, .ref (ad 291)), (1, .int x1), (2, .int x2)]) hst (by decide) rfl (Nat.le_of_ble_eq_true rfl) rfl rfl ?_
  intro p e R s m args below meth c C htab
  have hA : ∀ q, s.heap.size ≤ q → wA (kw (wC Z.1 ad) f) s.heap.size q := fun q h => Or.inr h
  refine M_aload_n C 0 rfl rfl dL_familyOf_0 ?_
  refine M_iload_n C 1 rfl rfl dL_familyOf_1 ?_
  refine M_iload_n C 2 rfl rfl dL_familyOf_2 ?_
  intro hX H locs ls hP hD hS hl
  rw [← List.append_nil (kw (wC Z.1 ad) f)] at hP
  have hD0 : va_D (wA (kw (wC Z.1 ad) f) s.heap.size) (kw (wC Z.1 ad) f ++ []) := by rw [List.append_nil]; exact hD
  refine M_wcall C hA had hy_X11_familyOf rfl wm_RL_79 (by decide) ⟨by decide, by decide⟩ (kxMetV_int (kmx_X11_familyOf l hst Z.1 ad f x1 x2 z hz)) (As := [.int x1, .int x2]) (rest := []) rfl rfl (Nat.le_of_ble_eq_true rfl) dL_familyOf_3 hP hD0 hS hl (fun h0 H1 locs1 hP1 hD1 hS1 => ?_) (fun h0 ce q9 H1 locs1 hP1 hD1 hS1 hce hcv hcl => ?_)
  · rcases hcase with ⟨-, rfl, rfl⟩ | ⟨h1, -⟩
    · rw [List.append_nil] at hP1 hD1
      have hh : M p l e R s m args below meth c Z (wA (kw (wC Z.1 ad) f) s.heap.size) 4 (mQF below Z (mQi (wC Z.1 ad) (z.2.1, z.2.2)) (kw (wC Z.1 ad) f) args s 2 12) () (0 + 2) (0 + 12) (kw (wC Z.1 ad) z.2.2) 6 [(0, .ref (ad 291)), (1, .int x1), (2, .int x2)] [.int z.2.1] (some ()) := M_iret C (ty := .int) rfl rfl ⟨by decide, by decide⟩ dL_familyOf_6 (fun _ => ⟨rfl, rfl⟩)
      exact hh rfl H1 locs1 ls hP1 hD1 hS1 hl
    · exact absurd h0 h1
  · rcases hcase with ⟨h1, -⟩ | ⟨-, hk, rfl, rfl⟩
    · exact absurd h1 h0
    · rw [List.append_nil] at hP1 hD1
      have hk9 : z.1 = 3 ∨ z.1 = 2 := by simpa using hk
      rcases hk9 with h9 | h9
      · rw [h9] at hcl
        rw [h9]
        refine vx_catch (own := RL) (name := kE 3) (E := kE 3) C.1.2.2.2.1 [] ⟨0, 6, 7, 63⟩ [⟨0, 6, 12, 28⟩] htab (fun z9 hz9 => nomatch hz9) rfl (by decide) (C.1.2.2.2.2 _ wcl_RL_63) (m_cast C.2.1 (by decide +kernel)) hce hcv hcl ?_
        have hh : M p l e R s m args below meth c Z (wA (kw (wC Z.1 ad) f) s.heap.size) 4 (mQF below Z (mQi (wC Z.1 ad) ((-1001 - Int32.ofNat ([3, 2].idxOf 3)), z.2.2)) (kw (wC Z.1 ad) f) args s 2 12) () (0 + 2) (0 + 12) (kw (wC Z.1 ad) z.2.2) 7 [(0, .ref (ad 291)), (1, .int x1), (2, .int x2)] [.ref q9] (some ()) := by
          refine M_astore_n C rfl (by decide) (lv1 := [(3, .ref q9), (0, .ref (ad 291)), (1, .int x1), (2, .int x2)]) rfl dL_familyOf_7 ?_
          refine M_sipush C (v := (-1001)) (by decide) dL_familyOf_8 ?_
          refine M_top (y := (-1001 - Int32.ofNat ([3, 2].idxOf 3))) (by decide) ?_
          exact M_iret C (ty := .int) rfl rfl ⟨by decide, by decide⟩ dL_familyOf_11 (fun _ => ⟨rfl, rfl⟩)
        exact hh rfl H1 locs1 ls hP1 hD1 hS1 hl
      · rw [h9] at hcl
        rw [h9]
        refine vx_catch (own := RL) (name := kE 2) (E := kE 2) C.1.2.2.2.1 [⟨0, 6, 7, 63⟩] ⟨0, 6, 12, 28⟩ [] htab (fun z9 hz9 => by
          simp only [List.mem_cons, List.not_mem_nil, or_false] at hz9
          rcases hz9 with rfl
          · exact Or.inr ⟨by decide, kE 3, C.1.2.2.2.2 _ wcl_RL_63, C.2.1.2.2.2.2.1 2 3 (by decide) (by decide) (by decide)⟩) rfl (by decide) (C.1.2.2.2.2 _ wcl_RL_28) (m_cast C.2.1 (by decide +kernel)) hce hcv hcl ?_
        have hh : M p l e R s m args below meth c Z (wA (kw (wC Z.1 ad) f) s.heap.size) 4 (mQF below Z (mQi (wC Z.1 ad) ((-1001 - Int32.ofNat ([3, 2].idxOf 2)), z.2.2)) (kw (wC Z.1 ad) f) args s 2 12) () (0 + 2) (0 + 12) (kw (wC Z.1 ad) z.2.2) 12 [(0, .ref (ad 291)), (1, .int x1), (2, .int x2)] [.ref q9] (some ()) := by
          refine M_astore_n C rfl (by decide) (lv1 := [(3, .ref q9), (0, .ref (ad 291)), (1, .int x1), (2, .int x2)]) rfl dL_familyOf_12 ?_
          refine M_sipush C (v := (-1002)) (by decide) dL_familyOf_13 ?_
          refine M_top (y := (-1001 - Int32.ofNat ([3, 2].idxOf 2))) (by decide) ?_
          exact M_iret C (ty := .int) rfl rfl ⟨by decide, by decide⟩ dL_familyOf_16 (fun _ => ⟨rfl, rfl⟩)
        exact hh rfl H1 locs1 ls hP1 hD1 hS1 hl
theorem wm_RL_82 : Cond.methodLink RL 82 yX11_pieces ∈ kGT := kgt (List.mem_of_getElem? (i := 1592) (by decide +kernel)) rfl
theorem hy_X11_pieces : kYV yX11_pieces cX11_pieces 3 (some .int) 2 := ⟨⟨kgt (List.mem_of_getElem? (i := 1595) (by decide +kernel)) rfl, kgt (List.mem_of_getElem? (i := 21) (by decide +kernel)) rfl, by decide +kernel, by decide⟩, kgt (List.mem_of_getElem? (i := 1593) (by decide +kernel)) rfl, kgt (List.mem_of_getElem? (i := 1594) (by decide +kernel)) rfl⟩
set_option maxRecDepth 100000 in
set_option maxHeartbeats 4000000 in
theorem wl_pieces (l : Launch) (hst : l.stackTraces = false) (Z : mZ) (ad : Nat → Nat) (had : mAd Z ad) (f : kMem) (x1 x2 : Int32) (r : Int32) (fo : kMem) (h : wvx [3] (cx_X11_pieces f x1 x2) = some (r, fo)) : mMet l Z yL_pieces (.codeWith yL_pieces cL_pieces 4 (some .int) [(0, 6, 7, 63)]) 7 2 12 [.ref (ad 291), .int x1, .int x2] (kw (wC Z.1 ad) f) [] (mQi (wC Z.1 ad) (r, fo)) := by
  obtain ⟨z, hz, hcase⟩ := wvx_some h
  refine mMet_ofW (z := ()) (X := some ()) (own := RL) (lv := [(0, .ref (ad 291)), (1, .int x1), (2, .int x2)]) hst (by decide) rfl (Nat.le_of_ble_eq_true rfl) rfl rfl ?_
  intro p e R s m args below meth c C htab
  have hA : ∀ q, s.heap.size ≤ q → wA (kw (wC Z.1 ad) f) s.heap.size q := fun q h => Or.inr h
  refine M_aload_n C 0 rfl rfl dL_pieces_0 ?_
  refine M_iload_n C 1 rfl rfl dL_pieces_1 ?_
  refine M_iload_n C 2 rfl rfl dL_pieces_2 ?_
  intro hX H locs ls hP hD hS hl
  rw [← List.append_nil (kw (wC Z.1 ad) f)] at hP
  have hD0 : va_D (wA (kw (wC Z.1 ad) f) s.heap.size) (kw (wC Z.1 ad) f ++ []) := by rw [List.append_nil]; exact hD
  refine M_wcall C hA had hy_X11_pieces rfl wm_RL_82 (by decide) ⟨by decide, by decide⟩ (kxMetV_int (kmx_X11_pieces l hst Z.1 ad f x1 x2 z hz)) (As := [.int x1, .int x2]) (rest := []) rfl rfl (Nat.le_of_ble_eq_true rfl) dL_pieces_3 hP hD0 hS hl (fun h0 H1 locs1 hP1 hD1 hS1 => ?_) (fun h0 ce q9 H1 locs1 hP1 hD1 hS1 hce hcv hcl => ?_)
  · rcases hcase with ⟨-, rfl, rfl⟩ | ⟨h1, -⟩
    · rw [List.append_nil] at hP1 hD1
      have hh : M p l e R s m args below meth c Z (wA (kw (wC Z.1 ad) f) s.heap.size) 4 (mQF below Z (mQi (wC Z.1 ad) (z.2.1, z.2.2)) (kw (wC Z.1 ad) f) args s 2 12) () (0 + 2) (0 + 12) (kw (wC Z.1 ad) z.2.2) 6 [(0, .ref (ad 291)), (1, .int x1), (2, .int x2)] [.int z.2.1] (some ()) := M_iret C (ty := .int) rfl rfl ⟨by decide, by decide⟩ dL_pieces_6 (fun _ => ⟨rfl, rfl⟩)
      exact hh rfl H1 locs1 ls hP1 hD1 hS1 hl
    · exact absurd h0 h1
  · rcases hcase with ⟨h1, -⟩ | ⟨-, hk, rfl, rfl⟩
    · exact absurd h1 h0
    · rw [List.append_nil] at hP1 hD1
      have hk9 : z.1 = 3 := by simpa using hk
      have h9 := hk9
      · rw [h9] at hcl
        rw [h9]
        refine vx_catch (own := RL) (name := kE 3) (E := kE 3) C.1.2.2.2.1 [] ⟨0, 6, 7, 63⟩ [] htab (fun z9 hz9 => nomatch hz9) rfl (by decide) (C.1.2.2.2.2 _ wcl_RL_63) (m_cast C.2.1 (by decide +kernel)) hce hcv hcl ?_
        have hh : M p l e R s m args below meth c Z (wA (kw (wC Z.1 ad) f) s.heap.size) 4 (mQF below Z (mQi (wC Z.1 ad) ((-1001 - Int32.ofNat ([3].idxOf 3)), z.2.2)) (kw (wC Z.1 ad) f) args s 2 12) () (0 + 2) (0 + 12) (kw (wC Z.1 ad) z.2.2) 7 [(0, .ref (ad 291)), (1, .int x1), (2, .int x2)] [.ref q9] (some ()) := by
          refine M_astore_n C rfl (by decide) (lv1 := [(3, .ref q9), (0, .ref (ad 291)), (1, .int x1), (2, .int x2)]) rfl dL_pieces_7 ?_
          refine M_sipush C (v := (-1001)) (by decide) dL_pieces_8 ?_
          refine M_top (y := (-1001 - Int32.ofNat ([3].idxOf 3))) (by decide) ?_
          exact M_iret C (ty := .int) rfl rfl ⟨by decide, by decide⟩ dL_pieces_11 (fun _ => ⟨rfl, rfl⟩)
        exact hh rfl H1 locs1 ls hP1 hD1 hS1 hl
theorem wm_RL_85 : Cond.methodLink RL 85 yX11_families ∈ kGT := kgt (List.mem_of_getElem? (i := 1475) (by decide +kernel)) rfl
theorem hy_X11_families : kYV yX11_families cX11_families 2 (some .int) 1 := ⟨⟨kgt (List.mem_of_getElem? (i := 1478) (by decide +kernel)) rfl, kgt (List.mem_of_getElem? (i := 21) (by decide +kernel)) rfl, by decide +kernel, by decide⟩, kgt (List.mem_of_getElem? (i := 1476) (by decide +kernel)) rfl, kgt (List.mem_of_getElem? (i := 1477) (by decide +kernel)) rfl⟩
set_option maxRecDepth 100000 in
set_option maxHeartbeats 4000000 in
theorem wl_families (l : Launch) (hst : l.stackTraces = false) (Z : mZ) (ad : Nat → Nat) (had : mAd Z ad) (f : kMem) (x1 : Int32) (r : Int32) (fo : kMem) (h : wvx [3] (cx_X11_families f x1) = some (r, fo)) : mMet l Z yL_families (.codeWith yL_families cL_families 3 (some .int) [(0, 5, 6, 63)]) 7 2 12 [.ref (ad 291), .int x1] (kw (wC Z.1 ad) f) [] (mQi (wC Z.1 ad) (r, fo)) := by
  obtain ⟨z, hz, hcase⟩ := wvx_some h
  refine mMet_ofW (z := ()) (X := some ()) (own := RL) (lv := [(0, .ref (ad 291)), (1, .int x1)]) hst (by decide) rfl (Nat.le_of_ble_eq_true rfl) rfl rfl ?_
  intro p e R s m args below meth c C htab
  have hA : ∀ q, s.heap.size ≤ q → wA (kw (wC Z.1 ad) f) s.heap.size q := fun q h => Or.inr h
  refine M_aload_n C 0 rfl rfl dL_families_0 ?_
  refine M_iload_n C 1 rfl rfl dL_families_1 ?_
  intro hX H locs ls hP hD hS hl
  rw [← List.append_nil (kw (wC Z.1 ad) f)] at hP
  have hD0 : va_D (wA (kw (wC Z.1 ad) f) s.heap.size) (kw (wC Z.1 ad) f ++ []) := by rw [List.append_nil]; exact hD
  refine M_wcall C hA had hy_X11_families rfl wm_RL_85 (by decide) ⟨by decide, by decide⟩ (kxMetV_int (kmx_X11_families l hst Z.1 ad f x1 z hz)) (As := [.int x1]) (rest := []) rfl rfl (Nat.le_of_ble_eq_true rfl) dL_families_2 hP hD0 hS hl (fun h0 H1 locs1 hP1 hD1 hS1 => ?_) (fun h0 ce q9 H1 locs1 hP1 hD1 hS1 hce hcv hcl => ?_)
  · rcases hcase with ⟨-, rfl, rfl⟩ | ⟨h1, -⟩
    · rw [List.append_nil] at hP1 hD1
      have hh : M p l e R s m args below meth c Z (wA (kw (wC Z.1 ad) f) s.heap.size) 3 (mQF below Z (mQi (wC Z.1 ad) (z.2.1, z.2.2)) (kw (wC Z.1 ad) f) args s 2 12) () (0 + 2) (0 + 12) (kw (wC Z.1 ad) z.2.2) 5 [(0, .ref (ad 291)), (1, .int x1)] [.int z.2.1] (some ()) := M_iret C (ty := .int) rfl rfl ⟨by decide, by decide⟩ dL_families_5 (fun _ => ⟨rfl, rfl⟩)
      exact hh rfl H1 locs1 ls hP1 hD1 hS1 hl
    · exact absurd h0 h1
  · rcases hcase with ⟨h1, -⟩ | ⟨-, hk, rfl, rfl⟩
    · exact absurd h1 h0
    · rw [List.append_nil] at hP1 hD1
      have hk9 : z.1 = 3 := by simpa using hk
      have h9 := hk9
      · rw [h9] at hcl
        rw [h9]
        refine vx_catch (own := RL) (name := kE 3) (E := kE 3) C.1.2.2.2.1 [] ⟨0, 5, 6, 63⟩ [] htab (fun z9 hz9 => nomatch hz9) rfl (by decide) (C.1.2.2.2.2 _ wcl_RL_63) (m_cast C.2.1 (by decide +kernel)) hce hcv hcl ?_
        have hh : M p l e R s m args below meth c Z (wA (kw (wC Z.1 ad) f) s.heap.size) 3 (mQF below Z (mQi (wC Z.1 ad) ((-1001 - Int32.ofNat ([3].idxOf 3)), z.2.2)) (kw (wC Z.1 ad) f) args s 2 12) () (0 + 2) (0 + 12) (kw (wC Z.1 ad) z.2.2) 6 [(0, .ref (ad 291)), (1, .int x1)] [.ref q9] (some ()) := by
          refine M_astore_n C rfl (by decide) (lv1 := [(2, .ref q9), (0, .ref (ad 291)), (1, .int x1)]) rfl dL_families_6 ?_
          refine M_sipush C (v := (-1001)) (by decide) dL_families_7 ?_
          refine M_top (y := (-1001 - Int32.ofNat ([3].idxOf 3))) (by decide) ?_
          exact M_iret C (ty := .int) rfl rfl ⟨by decide, by decide⟩ dL_families_10 (fun _ => ⟨rfl, rfl⟩)
        exact hh rfl H1 locs1 ls hP1 hD1 hS1 hl
theorem wm_RL_88 : Cond.methodLink RL 88 yX11_dryer ∈ kGT := kgt (List.mem_of_getElem? (i := 966) (by decide +kernel)) rfl
theorem hy_X11_dryer : kYV yX11_dryer cX11_dryer 3 (some .int) 2 := ⟨⟨kgt (List.mem_of_getElem? (i := 969) (by decide +kernel)) rfl, kgt (List.mem_of_getElem? (i := 21) (by decide +kernel)) rfl, by decide +kernel, by decide⟩, kgt (List.mem_of_getElem? (i := 967) (by decide +kernel)) rfl, kgt (List.mem_of_getElem? (i := 968) (by decide +kernel)) rfl⟩
set_option maxRecDepth 100000 in
set_option maxHeartbeats 4000000 in
theorem wl_dryer (l : Launch) (hst : l.stackTraces = false) (Z : mZ) (ad : Nat → Nat) (had : mAd Z ad) (f : kMem) (x1 x2 : Int32) (r : Int32) (fo : kMem) (h : wvx [3, 2] (cx_X11_dryer f x1 x2) = some (r, fo)) : mMet l Z yL_dryer (.codeWith yL_dryer cL_dryer 4 (some .int) [(0, 6, 7, 63), (0, 6, 12, 28)]) 7 2 12 [.ref (ad 291), .int x1, .int x2] (kw (wC Z.1 ad) f) [] (mQi (wC Z.1 ad) (r, fo)) := by
  obtain ⟨z, hz, hcase⟩ := wvx_some h
  refine mMet_ofW (z := ()) (X := some ()) (own := RL) (lv := [(0, .ref (ad 291)), (1, .int x1), (2, .int x2)]) hst (by decide) rfl (Nat.le_of_ble_eq_true rfl) rfl rfl ?_
  intro p e R s m args below meth c C htab
  have hA : ∀ q, s.heap.size ≤ q → wA (kw (wC Z.1 ad) f) s.heap.size q := fun q h => Or.inr h
  refine M_aload_n C 0 rfl rfl dL_dryer_0 ?_
  refine M_iload_n C 1 rfl rfl dL_dryer_1 ?_
  refine M_iload_n C 2 rfl rfl dL_dryer_2 ?_
  intro hX H locs ls hP hD hS hl
  rw [← List.append_nil (kw (wC Z.1 ad) f)] at hP
  have hD0 : va_D (wA (kw (wC Z.1 ad) f) s.heap.size) (kw (wC Z.1 ad) f ++ []) := by rw [List.append_nil]; exact hD
  refine M_wcall C hA had hy_X11_dryer rfl wm_RL_88 (by decide) ⟨by decide, by decide⟩ (kxMetV_int (kmx_X11_dryer l hst Z.1 ad f x1 x2 z hz)) (As := [.int x1, .int x2]) (rest := []) rfl rfl (Nat.le_of_ble_eq_true rfl) dL_dryer_3 hP hD0 hS hl (fun h0 H1 locs1 hP1 hD1 hS1 => ?_) (fun h0 ce q9 H1 locs1 hP1 hD1 hS1 hce hcv hcl => ?_)
  · rcases hcase with ⟨-, rfl, rfl⟩ | ⟨h1, -⟩
    · rw [List.append_nil] at hP1 hD1
      have hh : M p l e R s m args below meth c Z (wA (kw (wC Z.1 ad) f) s.heap.size) 4 (mQF below Z (mQi (wC Z.1 ad) (z.2.1, z.2.2)) (kw (wC Z.1 ad) f) args s 2 12) () (0 + 2) (0 + 12) (kw (wC Z.1 ad) z.2.2) 6 [(0, .ref (ad 291)), (1, .int x1), (2, .int x2)] [.int z.2.1] (some ()) := M_iret C (ty := .int) rfl rfl ⟨by decide, by decide⟩ dL_dryer_6 (fun _ => ⟨rfl, rfl⟩)
      exact hh rfl H1 locs1 ls hP1 hD1 hS1 hl
    · exact absurd h0 h1
  · rcases hcase with ⟨h1, -⟩ | ⟨-, hk, rfl, rfl⟩
    · exact absurd h1 h0
    · rw [List.append_nil] at hP1 hD1
      have hk9 : z.1 = 3 ∨ z.1 = 2 := by simpa using hk
      rcases hk9 with h9 | h9
      · rw [h9] at hcl
        rw [h9]
        refine vx_catch (own := RL) (name := kE 3) (E := kE 3) C.1.2.2.2.1 [] ⟨0, 6, 7, 63⟩ [⟨0, 6, 12, 28⟩] htab (fun z9 hz9 => nomatch hz9) rfl (by decide) (C.1.2.2.2.2 _ wcl_RL_63) (m_cast C.2.1 (by decide +kernel)) hce hcv hcl ?_
        have hh : M p l e R s m args below meth c Z (wA (kw (wC Z.1 ad) f) s.heap.size) 4 (mQF below Z (mQi (wC Z.1 ad) ((-1001 - Int32.ofNat ([3, 2].idxOf 3)), z.2.2)) (kw (wC Z.1 ad) f) args s 2 12) () (0 + 2) (0 + 12) (kw (wC Z.1 ad) z.2.2) 7 [(0, .ref (ad 291)), (1, .int x1), (2, .int x2)] [.ref q9] (some ()) := by
          refine M_astore_n C rfl (by decide) (lv1 := [(3, .ref q9), (0, .ref (ad 291)), (1, .int x1), (2, .int x2)]) rfl dL_dryer_7 ?_
          refine M_sipush C (v := (-1001)) (by decide) dL_dryer_8 ?_
          refine M_top (y := (-1001 - Int32.ofNat ([3, 2].idxOf 3))) (by decide) ?_
          exact M_iret C (ty := .int) rfl rfl ⟨by decide, by decide⟩ dL_dryer_11 (fun _ => ⟨rfl, rfl⟩)
        exact hh rfl H1 locs1 ls hP1 hD1 hS1 hl
      · rw [h9] at hcl
        rw [h9]
        refine vx_catch (own := RL) (name := kE 2) (E := kE 2) C.1.2.2.2.1 [⟨0, 6, 7, 63⟩] ⟨0, 6, 12, 28⟩ [] htab (fun z9 hz9 => by
          simp only [List.mem_cons, List.not_mem_nil, or_false] at hz9
          rcases hz9 with rfl
          · exact Or.inr ⟨by decide, kE 3, C.1.2.2.2.2 _ wcl_RL_63, C.2.1.2.2.2.2.1 2 3 (by decide) (by decide) (by decide)⟩) rfl (by decide) (C.1.2.2.2.2 _ wcl_RL_28) (m_cast C.2.1 (by decide +kernel)) hce hcv hcl ?_
        have hh : M p l e R s m args below meth c Z (wA (kw (wC Z.1 ad) f) s.heap.size) 4 (mQF below Z (mQi (wC Z.1 ad) ((-1001 - Int32.ofNat ([3, 2].idxOf 2)), z.2.2)) (kw (wC Z.1 ad) f) args s 2 12) () (0 + 2) (0 + 12) (kw (wC Z.1 ad) z.2.2) 12 [(0, .ref (ad 291)), (1, .int x1), (2, .int x2)] [.ref q9] (some ()) := by
          refine M_astore_n C rfl (by decide) (lv1 := [(3, .ref q9), (0, .ref (ad 291)), (1, .int x1), (2, .int x2)]) rfl dL_dryer_12 ?_
          refine M_sipush C (v := (-1002)) (by decide) dL_dryer_13 ?_
          refine M_top (y := (-1001 - Int32.ofNat ([3, 2].idxOf 2))) (by decide) ?_
          exact M_iret C (ty := .int) rfl rfl ⟨by decide, by decide⟩ dL_dryer_16 (fun _ => ⟨rfl, rfl⟩)
        exact hh rfl H1 locs1 ls hP1 hD1 hS1 hl
theorem wm_RL_91 : Cond.methodLink RL 91 yX11_stock ∈ kGT := kgt (List.mem_of_getElem? (i := 1504) (by decide +kernel)) rfl
theorem hy_X11_stock : kYV yX11_stock cX11_stock 5 (some .int) 3 := ⟨⟨kgt (List.mem_of_getElem? (i := 1507) (by decide +kernel)) rfl, kgt (List.mem_of_getElem? (i := 21) (by decide +kernel)) rfl, by decide +kernel, by decide⟩, kgt (List.mem_of_getElem? (i := 1505) (by decide +kernel)) rfl, kgt (List.mem_of_getElem? (i := 1506) (by decide +kernel)) rfl⟩
set_option maxRecDepth 100000 in
set_option maxHeartbeats 4000000 in
theorem wl_stock (l : Launch) (hst : l.stackTraces = false) (Z : mZ) (ad : Nat → Nat) (had : mAd Z ad) (f : kMem) (x1 x2 x3 : Int32) (r : Int32) (fo : kMem) (h : wvx [3, 2] (cx_X11_stock f x1 x2 x3) = some (r, fo)) : mMet l Z yL_stock (.codeWith yL_stock cL_stock 5 (some .int) [(0, 7, 8, 63), (0, 7, 14, 28)]) 7 2 12 [.ref (ad 291), .int x1, .int x2, .int x3] (kw (wC Z.1 ad) f) [] (mQi (wC Z.1 ad) (r, fo)) := by
  obtain ⟨z, hz, hcase⟩ := wvx_some h
  refine mMet_ofW (z := ()) (X := some ()) (own := RL) (lv := [(0, .ref (ad 291)), (1, .int x1), (2, .int x2), (3, .int x3)]) hst (by decide) rfl (Nat.le_of_ble_eq_true rfl) rfl rfl ?_
  intro p e R s m args below meth c C htab
  have hA : ∀ q, s.heap.size ≤ q → wA (kw (wC Z.1 ad) f) s.heap.size q := fun q h => Or.inr h
  refine M_aload_n C 0 rfl rfl dL_stock_0 ?_
  refine M_iload_n C 1 rfl rfl dL_stock_1 ?_
  refine M_iload_n C 2 rfl rfl dL_stock_2 ?_
  refine M_iload_n C 3 rfl rfl dL_stock_3 ?_
  intro hX H locs ls hP hD hS hl
  rw [← List.append_nil (kw (wC Z.1 ad) f)] at hP
  have hD0 : va_D (wA (kw (wC Z.1 ad) f) s.heap.size) (kw (wC Z.1 ad) f ++ []) := by rw [List.append_nil]; exact hD
  refine M_wcall C hA had hy_X11_stock rfl wm_RL_91 (by decide) ⟨by decide, by decide⟩ (kxMetV_int (kmx_X11_stock l hst Z.1 ad f x1 x2 x3 z hz)) (As := [.int x1, .int x2, .int x3]) (rest := []) rfl rfl (Nat.le_of_ble_eq_true rfl) dL_stock_4 hP hD0 hS hl (fun h0 H1 locs1 hP1 hD1 hS1 => ?_) (fun h0 ce q9 H1 locs1 hP1 hD1 hS1 hce hcv hcl => ?_)
  · rcases hcase with ⟨-, rfl, rfl⟩ | ⟨h1, -⟩
    · rw [List.append_nil] at hP1 hD1
      have hh : M p l e R s m args below meth c Z (wA (kw (wC Z.1 ad) f) s.heap.size) 5 (mQF below Z (mQi (wC Z.1 ad) (z.2.1, z.2.2)) (kw (wC Z.1 ad) f) args s 2 12) () (0 + 2) (0 + 12) (kw (wC Z.1 ad) z.2.2) 7 [(0, .ref (ad 291)), (1, .int x1), (2, .int x2), (3, .int x3)] [.int z.2.1] (some ()) := M_iret C (ty := .int) rfl rfl ⟨by decide, by decide⟩ dL_stock_7 (fun _ => ⟨rfl, rfl⟩)
      exact hh rfl H1 locs1 ls hP1 hD1 hS1 hl
    · exact absurd h0 h1
  · rcases hcase with ⟨h1, -⟩ | ⟨-, hk, rfl, rfl⟩
    · exact absurd h1 h0
    · rw [List.append_nil] at hP1 hD1
      have hk9 : z.1 = 3 ∨ z.1 = 2 := by simpa using hk
      rcases hk9 with h9 | h9
      · rw [h9] at hcl
        rw [h9]
        refine vx_catch (own := RL) (name := kE 3) (E := kE 3) C.1.2.2.2.1 [] ⟨0, 7, 8, 63⟩ [⟨0, 7, 14, 28⟩] htab (fun z9 hz9 => nomatch hz9) rfl (by decide) (C.1.2.2.2.2 _ wcl_RL_63) (m_cast C.2.1 (by decide +kernel)) hce hcv hcl ?_
        have hh : M p l e R s m args below meth c Z (wA (kw (wC Z.1 ad) f) s.heap.size) 5 (mQF below Z (mQi (wC Z.1 ad) ((-1001 - Int32.ofNat ([3, 2].idxOf 3)), z.2.2)) (kw (wC Z.1 ad) f) args s 2 12) () (0 + 2) (0 + 12) (kw (wC Z.1 ad) z.2.2) 8 [(0, .ref (ad 291)), (1, .int x1), (2, .int x2), (3, .int x3)] [.ref q9] (some ()) := by
          refine M_astore C (by decide) (lv1 := [(4, .ref q9), (0, .ref (ad 291)), (1, .int x1), (2, .int x2), (3, .int x3)]) rfl dL_stock_8 ?_
          refine M_sipush C (v := (-1001)) (by decide) dL_stock_10 ?_
          refine M_top (y := (-1001 - Int32.ofNat ([3, 2].idxOf 3))) (by decide) ?_
          exact M_iret C (ty := .int) rfl rfl ⟨by decide, by decide⟩ dL_stock_13 (fun _ => ⟨rfl, rfl⟩)
        exact hh rfl H1 locs1 ls hP1 hD1 hS1 hl
      · rw [h9] at hcl
        rw [h9]
        refine vx_catch (own := RL) (name := kE 2) (E := kE 2) C.1.2.2.2.1 [⟨0, 7, 8, 63⟩] ⟨0, 7, 14, 28⟩ [] htab (fun z9 hz9 => by
          simp only [List.mem_cons, List.not_mem_nil, or_false] at hz9
          rcases hz9 with rfl
          · exact Or.inr ⟨by decide, kE 3, C.1.2.2.2.2 _ wcl_RL_63, C.2.1.2.2.2.2.1 2 3 (by decide) (by decide) (by decide)⟩) rfl (by decide) (C.1.2.2.2.2 _ wcl_RL_28) (m_cast C.2.1 (by decide +kernel)) hce hcv hcl ?_
        have hh : M p l e R s m args below meth c Z (wA (kw (wC Z.1 ad) f) s.heap.size) 5 (mQF below Z (mQi (wC Z.1 ad) ((-1001 - Int32.ofNat ([3, 2].idxOf 2)), z.2.2)) (kw (wC Z.1 ad) f) args s 2 12) () (0 + 2) (0 + 12) (kw (wC Z.1 ad) z.2.2) 14 [(0, .ref (ad 291)), (1, .int x1), (2, .int x2), (3, .int x3)] [.ref q9] (some ()) := by
          refine M_astore C (by decide) (lv1 := [(4, .ref q9), (0, .ref (ad 291)), (1, .int x1), (2, .int x2), (3, .int x3)]) rfl dL_stock_14 ?_
          refine M_sipush C (v := (-1002)) (by decide) dL_stock_16 ?_
          refine M_top (y := (-1001 - Int32.ofNat ([3, 2].idxOf 2))) (by decide) ?_
          exact M_iret C (ty := .int) rfl rfl ⟨by decide, by decide⟩ dL_stock_19 (fun _ => ⟨rfl, rfl⟩)
        exact hh rfl H1 locs1 ls hP1 hD1 hS1 hl
theorem wm_RL_94 : Cond.methodLink RL 94 yX11_made ∈ kGT := kgt (List.mem_of_getElem? (i := 1488) (by decide +kernel)) rfl
theorem hy_X11_made : kYV yX11_made cX11_made 3 (some .int) 2 := ⟨⟨kgt (List.mem_of_getElem? (i := 1491) (by decide +kernel)) rfl, kgt (List.mem_of_getElem? (i := 21) (by decide +kernel)) rfl, by decide +kernel, by decide⟩, kgt (List.mem_of_getElem? (i := 1489) (by decide +kernel)) rfl, kgt (List.mem_of_getElem? (i := 1490) (by decide +kernel)) rfl⟩
set_option maxRecDepth 100000 in
set_option maxHeartbeats 4000000 in
theorem wl_made (l : Launch) (hst : l.stackTraces = false) (Z : mZ) (ad : Nat → Nat) (had : mAd Z ad) (f : kMem) (x1 x2 : Int32) (r : Int32) (fo : kMem) (h : wvx [3, 2] (cx_X11_made f x1 x2) = some (r, fo)) : mMet l Z yL_made (.codeWith yL_made cL_made 4 (some .int) [(0, 6, 7, 63), (0, 6, 12, 28)]) 7 2 12 [.ref (ad 291), .int x1, .int x2] (kw (wC Z.1 ad) f) [] (mQi (wC Z.1 ad) (r, fo)) := by
  obtain ⟨z, hz, hcase⟩ := wvx_some h
  refine mMet_ofW (z := ()) (X := some ()) (own := RL) (lv := [(0, .ref (ad 291)), (1, .int x1), (2, .int x2)]) hst (by decide) rfl (Nat.le_of_ble_eq_true rfl) rfl rfl ?_
  intro p e R s m args below meth c C htab
  have hA : ∀ q, s.heap.size ≤ q → wA (kw (wC Z.1 ad) f) s.heap.size q := fun q h => Or.inr h
  refine M_aload_n C 0 rfl rfl dL_made_0 ?_
  refine M_iload_n C 1 rfl rfl dL_made_1 ?_
  refine M_iload_n C 2 rfl rfl dL_made_2 ?_
  intro hX H locs ls hP hD hS hl
  rw [← List.append_nil (kw (wC Z.1 ad) f)] at hP
  have hD0 : va_D (wA (kw (wC Z.1 ad) f) s.heap.size) (kw (wC Z.1 ad) f ++ []) := by rw [List.append_nil]; exact hD
  refine M_wcall C hA had hy_X11_made rfl wm_RL_94 (by decide) ⟨by decide, by decide⟩ (kxMetV_int (kmx_X11_made l hst Z.1 ad f x1 x2 z hz)) (As := [.int x1, .int x2]) (rest := []) rfl rfl (Nat.le_of_ble_eq_true rfl) dL_made_3 hP hD0 hS hl (fun h0 H1 locs1 hP1 hD1 hS1 => ?_) (fun h0 ce q9 H1 locs1 hP1 hD1 hS1 hce hcv hcl => ?_)
  · rcases hcase with ⟨-, rfl, rfl⟩ | ⟨h1, -⟩
    · rw [List.append_nil] at hP1 hD1
      have hh : M p l e R s m args below meth c Z (wA (kw (wC Z.1 ad) f) s.heap.size) 4 (mQF below Z (mQi (wC Z.1 ad) (z.2.1, z.2.2)) (kw (wC Z.1 ad) f) args s 2 12) () (0 + 2) (0 + 12) (kw (wC Z.1 ad) z.2.2) 6 [(0, .ref (ad 291)), (1, .int x1), (2, .int x2)] [.int z.2.1] (some ()) := M_iret C (ty := .int) rfl rfl ⟨by decide, by decide⟩ dL_made_6 (fun _ => ⟨rfl, rfl⟩)
      exact hh rfl H1 locs1 ls hP1 hD1 hS1 hl
    · exact absurd h0 h1
  · rcases hcase with ⟨h1, -⟩ | ⟨-, hk, rfl, rfl⟩
    · exact absurd h1 h0
    · rw [List.append_nil] at hP1 hD1
      have hk9 : z.1 = 3 ∨ z.1 = 2 := by simpa using hk
      rcases hk9 with h9 | h9
      · rw [h9] at hcl
        rw [h9]
        refine vx_catch (own := RL) (name := kE 3) (E := kE 3) C.1.2.2.2.1 [] ⟨0, 6, 7, 63⟩ [⟨0, 6, 12, 28⟩] htab (fun z9 hz9 => nomatch hz9) rfl (by decide) (C.1.2.2.2.2 _ wcl_RL_63) (m_cast C.2.1 (by decide +kernel)) hce hcv hcl ?_
        have hh : M p l e R s m args below meth c Z (wA (kw (wC Z.1 ad) f) s.heap.size) 4 (mQF below Z (mQi (wC Z.1 ad) ((-1001 - Int32.ofNat ([3, 2].idxOf 3)), z.2.2)) (kw (wC Z.1 ad) f) args s 2 12) () (0 + 2) (0 + 12) (kw (wC Z.1 ad) z.2.2) 7 [(0, .ref (ad 291)), (1, .int x1), (2, .int x2)] [.ref q9] (some ()) := by
          refine M_astore_n C rfl (by decide) (lv1 := [(3, .ref q9), (0, .ref (ad 291)), (1, .int x1), (2, .int x2)]) rfl dL_made_7 ?_
          refine M_sipush C (v := (-1001)) (by decide) dL_made_8 ?_
          refine M_top (y := (-1001 - Int32.ofNat ([3, 2].idxOf 3))) (by decide) ?_
          exact M_iret C (ty := .int) rfl rfl ⟨by decide, by decide⟩ dL_made_11 (fun _ => ⟨rfl, rfl⟩)
        exact hh rfl H1 locs1 ls hP1 hD1 hS1 hl
      · rw [h9] at hcl
        rw [h9]
        refine vx_catch (own := RL) (name := kE 2) (E := kE 2) C.1.2.2.2.1 [⟨0, 6, 7, 63⟩] ⟨0, 6, 12, 28⟩ [] htab (fun z9 hz9 => by
          simp only [List.mem_cons, List.not_mem_nil, or_false] at hz9
          rcases hz9 with rfl
          · exact Or.inr ⟨by decide, kE 3, C.1.2.2.2.2 _ wcl_RL_63, C.2.1.2.2.2.2.1 2 3 (by decide) (by decide) (by decide)⟩) rfl (by decide) (C.1.2.2.2.2 _ wcl_RL_28) (m_cast C.2.1 (by decide +kernel)) hce hcv hcl ?_
        have hh : M p l e R s m args below meth c Z (wA (kw (wC Z.1 ad) f) s.heap.size) 4 (mQF below Z (mQi (wC Z.1 ad) ((-1001 - Int32.ofNat ([3, 2].idxOf 2)), z.2.2)) (kw (wC Z.1 ad) f) args s 2 12) () (0 + 2) (0 + 12) (kw (wC Z.1 ad) z.2.2) 12 [(0, .ref (ad 291)), (1, .int x1), (2, .int x2)] [.ref q9] (some ()) := by
          refine M_astore_n C rfl (by decide) (lv1 := [(3, .ref q9), (0, .ref (ad 291)), (1, .int x1), (2, .int x2)]) rfl dL_made_12 ?_
          refine M_sipush C (v := (-1002)) (by decide) dL_made_13 ?_
          refine M_top (y := (-1001 - Int32.ofNat ([3, 2].idxOf 2))) (by decide) ?_
          exact M_iret C (ty := .int) rfl rfl ⟨by decide, by decide⟩ dL_made_16 (fun _ => ⟨rfl, rfl⟩)
        exact hh rfl H1 locs1 ls hP1 hD1 hS1 hl
theorem wm_RL_97 : Cond.methodLink RL 97 yX11_orderOf ∈ kGT := kgt (List.mem_of_getElem? (i := 988) (by decide +kernel)) rfl
theorem hy_X11_orderOf : kYV yX11_orderOf cX11_orderOf 3 (some .int) 2 := ⟨⟨kgt (List.mem_of_getElem? (i := 991) (by decide +kernel)) rfl, kgt (List.mem_of_getElem? (i := 21) (by decide +kernel)) rfl, by decide +kernel, by decide⟩, kgt (List.mem_of_getElem? (i := 989) (by decide +kernel)) rfl, kgt (List.mem_of_getElem? (i := 990) (by decide +kernel)) rfl⟩
set_option maxRecDepth 100000 in
set_option maxHeartbeats 4000000 in
theorem wl_orderOf (l : Launch) (hst : l.stackTraces = false) (Z : mZ) (ad : Nat → Nat) (had : mAd Z ad) (f : kMem) (x1 x2 : Int32) (r : Int32) (fo : kMem) (h : wvx [3, 2] (cx_X11_orderOf f x1 x2) = some (r, fo)) : mMet l Z yL_orderOf (.codeWith yL_orderOf cL_orderOf 4 (some .int) [(0, 6, 7, 63), (0, 6, 12, 28)]) 8 2 12 [.ref (ad 291), .int x1, .int x2] (kw (wC Z.1 ad) f) [] (mQi (wC Z.1 ad) (r, fo)) := by
  obtain ⟨z, hz, hcase⟩ := wvx_some h
  refine mMet_ofW (z := ()) (X := some ()) (own := RL) (lv := [(0, .ref (ad 291)), (1, .int x1), (2, .int x2)]) hst (by decide) rfl (Nat.le_of_ble_eq_true rfl) rfl rfl ?_
  intro p e R s m args below meth c C htab
  have hA : ∀ q, s.heap.size ≤ q → wA (kw (wC Z.1 ad) f) s.heap.size q := fun q h => Or.inr h
  refine M_aload_n C 0 rfl rfl dL_orderOf_0 ?_
  refine M_iload_n C 1 rfl rfl dL_orderOf_1 ?_
  refine M_iload_n C 2 rfl rfl dL_orderOf_2 ?_
  intro hX H locs ls hP hD hS hl
  rw [← List.append_nil (kw (wC Z.1 ad) f)] at hP
  have hD0 : va_D (wA (kw (wC Z.1 ad) f) s.heap.size) (kw (wC Z.1 ad) f ++ []) := by rw [List.append_nil]; exact hD
  refine M_wcall C hA had hy_X11_orderOf rfl wm_RL_97 (by decide) ⟨by decide, by decide⟩ (kxMetV_int (kmx_X11_orderOf l hst Z.1 ad f x1 x2 z hz)) (As := [.int x1, .int x2]) (rest := []) rfl rfl (Nat.le_of_ble_eq_true rfl) dL_orderOf_3 hP hD0 hS hl (fun h0 H1 locs1 hP1 hD1 hS1 => ?_) (fun h0 ce q9 H1 locs1 hP1 hD1 hS1 hce hcv hcl => ?_)
  · rcases hcase with ⟨-, rfl, rfl⟩ | ⟨h1, -⟩
    · rw [List.append_nil] at hP1 hD1
      have hh : M p l e R s m args below meth c Z (wA (kw (wC Z.1 ad) f) s.heap.size) 4 (mQF below Z (mQi (wC Z.1 ad) (z.2.1, z.2.2)) (kw (wC Z.1 ad) f) args s 2 12) () (0 + 2) (0 + 12) (kw (wC Z.1 ad) z.2.2) 6 [(0, .ref (ad 291)), (1, .int x1), (2, .int x2)] [.int z.2.1] (some ()) := M_iret C (ty := .int) rfl rfl ⟨by decide, by decide⟩ dL_orderOf_6 (fun _ => ⟨rfl, rfl⟩)
      exact hh rfl H1 locs1 ls hP1 hD1 hS1 hl
    · exact absurd h0 h1
  · rcases hcase with ⟨h1, -⟩ | ⟨-, hk, rfl, rfl⟩
    · exact absurd h1 h0
    · rw [List.append_nil] at hP1 hD1
      have hk9 : z.1 = 3 ∨ z.1 = 2 := by simpa using hk
      rcases hk9 with h9 | h9
      · rw [h9] at hcl
        rw [h9]
        refine vx_catch (own := RL) (name := kE 3) (E := kE 3) C.1.2.2.2.1 [] ⟨0, 6, 7, 63⟩ [⟨0, 6, 12, 28⟩] htab (fun z9 hz9 => nomatch hz9) rfl (by decide) (C.1.2.2.2.2 _ wcl_RL_63) (m_cast C.2.1 (by decide +kernel)) hce hcv hcl ?_
        have hh : M p l e R s m args below meth c Z (wA (kw (wC Z.1 ad) f) s.heap.size) 4 (mQF below Z (mQi (wC Z.1 ad) ((-1001 - Int32.ofNat ([3, 2].idxOf 3)), z.2.2)) (kw (wC Z.1 ad) f) args s 2 12) () (0 + 2) (0 + 12) (kw (wC Z.1 ad) z.2.2) 7 [(0, .ref (ad 291)), (1, .int x1), (2, .int x2)] [.ref q9] (some ()) := by
          refine M_astore_n C rfl (by decide) (lv1 := [(3, .ref q9), (0, .ref (ad 291)), (1, .int x1), (2, .int x2)]) rfl dL_orderOf_7 ?_
          refine M_sipush C (v := (-1001)) (by decide) dL_orderOf_8 ?_
          refine M_top (y := (-1001 - Int32.ofNat ([3, 2].idxOf 3))) (by decide) ?_
          exact M_iret C (ty := .int) rfl rfl ⟨by decide, by decide⟩ dL_orderOf_11 (fun _ => ⟨rfl, rfl⟩)
        exact hh rfl H1 locs1 ls hP1 hD1 hS1 hl
      · rw [h9] at hcl
        rw [h9]
        refine vx_catch (own := RL) (name := kE 2) (E := kE 2) C.1.2.2.2.1 [⟨0, 6, 7, 63⟩] ⟨0, 6, 12, 28⟩ [] htab (fun z9 hz9 => by
          simp only [List.mem_cons, List.not_mem_nil, or_false] at hz9
          rcases hz9 with rfl
          · exact Or.inr ⟨by decide, kE 3, C.1.2.2.2.2 _ wcl_RL_63, C.2.1.2.2.2.2.1 2 3 (by decide) (by decide) (by decide)⟩) rfl (by decide) (C.1.2.2.2.2 _ wcl_RL_28) (m_cast C.2.1 (by decide +kernel)) hce hcv hcl ?_
        have hh : M p l e R s m args below meth c Z (wA (kw (wC Z.1 ad) f) s.heap.size) 4 (mQF below Z (mQi (wC Z.1 ad) ((-1001 - Int32.ofNat ([3, 2].idxOf 2)), z.2.2)) (kw (wC Z.1 ad) f) args s 2 12) () (0 + 2) (0 + 12) (kw (wC Z.1 ad) z.2.2) 12 [(0, .ref (ad 291)), (1, .int x1), (2, .int x2)] [.ref q9] (some ()) := by
          refine M_astore_n C rfl (by decide) (lv1 := [(3, .ref q9), (0, .ref (ad 291)), (1, .int x1), (2, .int x2)]) rfl dL_orderOf_12 ?_
          refine M_sipush C (v := (-1002)) (by decide) dL_orderOf_13 ?_
          refine M_top (y := (-1001 - Int32.ofNat ([3, 2].idxOf 2))) (by decide) ?_
          exact M_iret C (ty := .int) rfl rfl ⟨by decide, by decide⟩ dL_orderOf_16 (fun _ => ⟨rfl, rfl⟩)
        exact hh rfl H1 locs1 ls hP1 hD1 hS1 hl
theorem wm_RL_100 : Cond.methodLink RL 100 yX11_shots ∈ kGT := kgt (List.mem_of_getElem? (i := 1514) (by decide +kernel)) rfl
theorem hy_X11_shots : kYV yX11_shots cX11_shots 4 (some .int) 1 := ⟨⟨kgt (List.mem_of_getElem? (i := 1517) (by decide +kernel)) rfl, kgt (List.mem_of_getElem? (i := 21) (by decide +kernel)) rfl, by decide +kernel, by decide⟩, kgt (List.mem_of_getElem? (i := 1515) (by decide +kernel)) rfl, kgt (List.mem_of_getElem? (i := 1516) (by decide +kernel)) rfl⟩
set_option maxRecDepth 100000 in
set_option maxHeartbeats 4000000 in
theorem wl_shots (l : Launch) (hst : l.stackTraces = false) (Z : mZ) (ad : Nat → Nat) (had : mAd Z ad) (f : kMem) (x1 : Int32) (r : Int32) (fo : kMem) (h : wvx [3, 5] (cx_X11_shots f x1) = some (r, fo)) : mMet l Z yL_shots (.codeWith yL_shots cL_shots 3 (some .int) [(0, 5, 6, 63), (0, 5, 11, 77)]) 8 2 12 [.ref (ad 291), .int x1] (kw (wC Z.1 ad) f) [] (mQi (wC Z.1 ad) (r, fo)) := by
  obtain ⟨z, hz, hcase⟩ := wvx_some h
  refine mMet_ofW (z := ()) (X := some ()) (own := RL) (lv := [(0, .ref (ad 291)), (1, .int x1)]) hst (by decide) rfl (Nat.le_of_ble_eq_true rfl) rfl rfl ?_
  intro p e R s m args below meth c C htab
  have hA : ∀ q, s.heap.size ≤ q → wA (kw (wC Z.1 ad) f) s.heap.size q := fun q h => Or.inr h
  refine M_aload_n C 0 rfl rfl dL_shots_0 ?_
  refine M_iload_n C 1 rfl rfl dL_shots_1 ?_
  intro hX H locs ls hP hD hS hl
  rw [← List.append_nil (kw (wC Z.1 ad) f)] at hP
  have hD0 : va_D (wA (kw (wC Z.1 ad) f) s.heap.size) (kw (wC Z.1 ad) f ++ []) := by rw [List.append_nil]; exact hD
  refine M_wcall C hA had hy_X11_shots rfl wm_RL_100 (by decide) ⟨by decide, by decide⟩ (kxMetV_int (kmx_X11_shots l hst Z.1 ad f x1 z hz)) (As := [.int x1]) (rest := []) rfl rfl (Nat.le_of_ble_eq_true rfl) dL_shots_2 hP hD0 hS hl (fun h0 H1 locs1 hP1 hD1 hS1 => ?_) (fun h0 ce q9 H1 locs1 hP1 hD1 hS1 hce hcv hcl => ?_)
  · rcases hcase with ⟨-, rfl, rfl⟩ | ⟨h1, -⟩
    · rw [List.append_nil] at hP1 hD1
      have hh : M p l e R s m args below meth c Z (wA (kw (wC Z.1 ad) f) s.heap.size) 3 (mQF below Z (mQi (wC Z.1 ad) (z.2.1, z.2.2)) (kw (wC Z.1 ad) f) args s 2 12) () (0 + 2) (0 + 12) (kw (wC Z.1 ad) z.2.2) 5 [(0, .ref (ad 291)), (1, .int x1)] [.int z.2.1] (some ()) := M_iret C (ty := .int) rfl rfl ⟨by decide, by decide⟩ dL_shots_5 (fun _ => ⟨rfl, rfl⟩)
      exact hh rfl H1 locs1 ls hP1 hD1 hS1 hl
    · exact absurd h0 h1
  · rcases hcase with ⟨h1, -⟩ | ⟨-, hk, rfl, rfl⟩
    · exact absurd h1 h0
    · rw [List.append_nil] at hP1 hD1
      have hk9 : z.1 = 3 ∨ z.1 = 5 := by simpa using hk
      rcases hk9 with h9 | h9
      · rw [h9] at hcl
        rw [h9]
        refine vx_catch (own := RL) (name := kE 3) (E := kE 3) C.1.2.2.2.1 [] ⟨0, 5, 6, 63⟩ [⟨0, 5, 11, 77⟩] htab (fun z9 hz9 => nomatch hz9) rfl (by decide) (C.1.2.2.2.2 _ wcl_RL_63) (m_cast C.2.1 (by decide +kernel)) hce hcv hcl ?_
        have hh : M p l e R s m args below meth c Z (wA (kw (wC Z.1 ad) f) s.heap.size) 3 (mQF below Z (mQi (wC Z.1 ad) ((-1001 - Int32.ofNat ([3, 5].idxOf 3)), z.2.2)) (kw (wC Z.1 ad) f) args s 2 12) () (0 + 2) (0 + 12) (kw (wC Z.1 ad) z.2.2) 6 [(0, .ref (ad 291)), (1, .int x1)] [.ref q9] (some ()) := by
          refine M_astore_n C rfl (by decide) (lv1 := [(2, .ref q9), (0, .ref (ad 291)), (1, .int x1)]) rfl dL_shots_6 ?_
          refine M_sipush C (v := (-1001)) (by decide) dL_shots_7 ?_
          refine M_top (y := (-1001 - Int32.ofNat ([3, 5].idxOf 3))) (by decide) ?_
          exact M_iret C (ty := .int) rfl rfl ⟨by decide, by decide⟩ dL_shots_10 (fun _ => ⟨rfl, rfl⟩)
        exact hh rfl H1 locs1 ls hP1 hD1 hS1 hl
      · rw [h9] at hcl
        rw [h9]
        refine vx_catch (own := RL) (name := kE 5) (E := kE 5) C.1.2.2.2.1 [⟨0, 5, 6, 63⟩] ⟨0, 5, 11, 77⟩ [] htab (fun z9 hz9 => by
          simp only [List.mem_cons, List.not_mem_nil, or_false] at hz9
          rcases hz9 with rfl
          · exact Or.inr ⟨by decide, kE 3, C.1.2.2.2.2 _ wcl_RL_63, C.2.1.2.2.2.2.1 5 3 (by decide) (by decide) (by decide)⟩) rfl (by decide) (C.1.2.2.2.2 _ wcl_RL_77) (m_cast C.2.1 (by decide +kernel)) hce hcv hcl ?_
        have hh : M p l e R s m args below meth c Z (wA (kw (wC Z.1 ad) f) s.heap.size) 3 (mQF below Z (mQi (wC Z.1 ad) ((-1001 - Int32.ofNat ([3, 5].idxOf 5)), z.2.2)) (kw (wC Z.1 ad) f) args s 2 12) () (0 + 2) (0 + 12) (kw (wC Z.1 ad) z.2.2) 11 [(0, .ref (ad 291)), (1, .int x1)] [.ref q9] (some ()) := by
          refine M_astore_n C rfl (by decide) (lv1 := [(2, .ref q9), (0, .ref (ad 291)), (1, .int x1)]) rfl dL_shots_11 ?_
          refine M_sipush C (v := (-1002)) (by decide) dL_shots_12 ?_
          refine M_top (y := (-1001 - Int32.ofNat ([3, 5].idxOf 5))) (by decide) ?_
          exact M_iret C (ty := .int) rfl rfl ⟨by decide, by decide⟩ dL_shots_15 (fun _ => ⟨rfl, rfl⟩)
        exact hh rfl H1 locs1 ls hP1 hD1 hS1 hl
theorem wm_RL_103 : Cond.methodLink RL 103 yX11_letter ∈ kGT := kgt (List.mem_of_getElem? (i := 1002) (by decide +kernel)) rfl
theorem hy_X11_letter : kYV yX11_letter cX11_letter 2 (some .char) 1 := ⟨⟨kgt (List.mem_of_getElem? (i := 1005) (by decide +kernel)) rfl, kgt (List.mem_of_getElem? (i := 21) (by decide +kernel)) rfl, by decide +kernel, by decide⟩, kgt (List.mem_of_getElem? (i := 1003) (by decide +kernel)) rfl, kgt (List.mem_of_getElem? (i := 1004) (by decide +kernel)) rfl⟩
set_option maxRecDepth 100000 in
set_option maxHeartbeats 4000000 in
theorem wl_letter (l : Launch) (hst : l.stackTraces = false) (Z : mZ) (ad : Nat → Nat) (had : mAd Z ad) (f : kMem) (x1 : Int32) (r : Int32) (fo : kMem) (h : wvx [3] (cx_X11_letter f x1) = some (r, fo)) : mMet l Z yL_letter (.codeWith yL_letter cL_letter 3 (some .int) [(0, 5, 6, 63)]) 8 2 12 [.ref (ad 291), .int x1] (kw (wC Z.1 ad) f) [] (mQi (wC Z.1 ad) (r, fo)) := by
  obtain ⟨z, hz, hcase⟩ := wvx_some h
  refine mMet_ofW (z := ()) (X := some ()) (own := RL) (lv := [(0, .ref (ad 291)), (1, .int x1)]) hst (by decide) rfl (Nat.le_of_ble_eq_true rfl) rfl rfl ?_
  intro p e R s m args below meth c C htab
  have hA : ∀ q, s.heap.size ≤ q → wA (kw (wC Z.1 ad) f) s.heap.size q := fun q h => Or.inr h
  refine M_aload_n C 0 rfl rfl dL_letter_0 ?_
  refine M_iload_n C 1 rfl rfl dL_letter_1 ?_
  intro hX H locs ls hP hD hS hl
  rw [← List.append_nil (kw (wC Z.1 ad) f)] at hP
  have hD0 : va_D (wA (kw (wC Z.1 ad) f) s.heap.size) (kw (wC Z.1 ad) f ++ []) := by rw [List.append_nil]; exact hD
  refine M_wcall C hA had hy_X11_letter rfl wm_RL_103 (by decide) ⟨by decide, by decide⟩ (kxMetV_int (kmx_X11_letter l hst Z.1 ad f x1 z hz)) (As := [.int x1]) (rest := []) rfl rfl (Nat.le_of_ble_eq_true rfl) dL_letter_2 hP hD0 hS hl (fun h0 H1 locs1 hP1 hD1 hS1 => ?_) (fun h0 ce q9 H1 locs1 hP1 hD1 hS1 hce hcv hcl => ?_)
  · rcases hcase with ⟨-, rfl, rfl⟩ | ⟨h1, -⟩
    · rw [List.append_nil] at hP1 hD1
      have hh : M p l e R s m args below meth c Z (wA (kw (wC Z.1 ad) f) s.heap.size) 3 (mQF below Z (mQi (wC Z.1 ad) (z.2.1, z.2.2)) (kw (wC Z.1 ad) f) args s 2 12) () (0 + 2) (0 + 12) (kw (wC Z.1 ad) z.2.2) 5 [(0, .ref (ad 291)), (1, .int x1)] [.int z.2.1] (some ()) := M_iret C (ty := .int) rfl rfl ⟨by decide, by decide⟩ dL_letter_5 (fun _ => ⟨rfl, rfl⟩)
      exact hh rfl H1 locs1 ls hP1 hD1 hS1 hl
    · exact absurd h0 h1
  · rcases hcase with ⟨h1, -⟩ | ⟨-, hk, rfl, rfl⟩
    · exact absurd h1 h0
    · rw [List.append_nil] at hP1 hD1
      have hk9 : z.1 = 3 := by simpa using hk
      have h9 := hk9
      · rw [h9] at hcl
        rw [h9]
        refine vx_catch (own := RL) (name := kE 3) (E := kE 3) C.1.2.2.2.1 [] ⟨0, 5, 6, 63⟩ [] htab (fun z9 hz9 => nomatch hz9) rfl (by decide) (C.1.2.2.2.2 _ wcl_RL_63) (m_cast C.2.1 (by decide +kernel)) hce hcv hcl ?_
        have hh : M p l e R s m args below meth c Z (wA (kw (wC Z.1 ad) f) s.heap.size) 3 (mQF below Z (mQi (wC Z.1 ad) ((-1001 - Int32.ofNat ([3].idxOf 3)), z.2.2)) (kw (wC Z.1 ad) f) args s 2 12) () (0 + 2) (0 + 12) (kw (wC Z.1 ad) z.2.2) 6 [(0, .ref (ad 291)), (1, .int x1)] [.ref q9] (some ()) := by
          refine M_astore_n C rfl (by decide) (lv1 := [(2, .ref q9), (0, .ref (ad 291)), (1, .int x1)]) rfl dL_letter_6 ?_
          refine M_sipush C (v := (-1001)) (by decide) dL_letter_7 ?_
          refine M_top (y := (-1001 - Int32.ofNat ([3].idxOf 3))) (by decide) ?_
          exact M_iret C (ty := .int) rfl rfl ⟨by decide, by decide⟩ dL_letter_10 (fun _ => ⟨rfl, rfl⟩)
        exact hh rfl H1 locs1 ls hP1 hD1 hS1 hl
theorem wm_RL_107 : Cond.methodLink RL 107 yX11_due ∈ kGT := kgt (List.mem_of_getElem? (i := 1550) (by decide +kernel)) rfl
theorem hy_X11_due : kYV yX11_due cX11_due 2 (some .int) 1 := ⟨⟨kgt (List.mem_of_getElem? (i := 1553) (by decide +kernel)) rfl, kgt (List.mem_of_getElem? (i := 21) (by decide +kernel)) rfl, by decide +kernel, by decide⟩, kgt (List.mem_of_getElem? (i := 1551) (by decide +kernel)) rfl, kgt (List.mem_of_getElem? (i := 1552) (by decide +kernel)) rfl⟩
set_option maxRecDepth 100000 in
set_option maxHeartbeats 4000000 in
theorem wl_due (l : Launch) (hst : l.stackTraces = false) (Z : mZ) (ad : Nat → Nat) (had : mAd Z ad) (f : kMem) (x1 : Int32) (r : Int32) (fo : kMem) (h : wvx [2] (cx_X11_due f x1) = some (r, fo)) : mMet l Z yL_due (.codeWith yL_due cL_due 3 (some .int) [(0, 5, 6, 28)]) 7 2 12 [.ref (ad 291), .int x1] (kw (wC Z.1 ad) f) [] (mQi (wC Z.1 ad) (r, fo)) := by
  obtain ⟨z, hz, hcase⟩ := wvx_some h
  refine mMet_ofW (z := ()) (X := some ()) (own := RL) (lv := [(0, .ref (ad 291)), (1, .int x1)]) hst (by decide) rfl (Nat.le_of_ble_eq_true rfl) rfl rfl ?_
  intro p e R s m args below meth c C htab
  have hA : ∀ q, s.heap.size ≤ q → wA (kw (wC Z.1 ad) f) s.heap.size q := fun q h => Or.inr h
  refine M_aload_n C 0 rfl rfl dL_due_0 ?_
  refine M_iload_n C 1 rfl rfl dL_due_1 ?_
  intro hX H locs ls hP hD hS hl
  rw [← List.append_nil (kw (wC Z.1 ad) f)] at hP
  have hD0 : va_D (wA (kw (wC Z.1 ad) f) s.heap.size) (kw (wC Z.1 ad) f ++ []) := by rw [List.append_nil]; exact hD
  refine M_wcall C hA had hy_X11_due rfl wm_RL_107 (by decide) ⟨by decide, by decide⟩ (kxMetV_int (kmx_X11_due l hst Z.1 ad f x1 z hz)) (As := [.int x1]) (rest := []) rfl rfl (Nat.le_of_ble_eq_true rfl) dL_due_2 hP hD0 hS hl (fun h0 H1 locs1 hP1 hD1 hS1 => ?_) (fun h0 ce q9 H1 locs1 hP1 hD1 hS1 hce hcv hcl => ?_)
  · rcases hcase with ⟨-, rfl, rfl⟩ | ⟨h1, -⟩
    · rw [List.append_nil] at hP1 hD1
      have hh : M p l e R s m args below meth c Z (wA (kw (wC Z.1 ad) f) s.heap.size) 3 (mQF below Z (mQi (wC Z.1 ad) (z.2.1, z.2.2)) (kw (wC Z.1 ad) f) args s 2 12) () (0 + 2) (0 + 12) (kw (wC Z.1 ad) z.2.2) 5 [(0, .ref (ad 291)), (1, .int x1)] [.int z.2.1] (some ()) := M_iret C (ty := .int) rfl rfl ⟨by decide, by decide⟩ dL_due_5 (fun _ => ⟨rfl, rfl⟩)
      exact hh rfl H1 locs1 ls hP1 hD1 hS1 hl
    · exact absurd h0 h1
  · rcases hcase with ⟨h1, -⟩ | ⟨-, hk, rfl, rfl⟩
    · exact absurd h1 h0
    · rw [List.append_nil] at hP1 hD1
      have hk9 : z.1 = 2 := by simpa using hk
      have h9 := hk9
      · rw [h9] at hcl
        rw [h9]
        refine vx_catch (own := RL) (name := kE 2) (E := kE 2) C.1.2.2.2.1 [] ⟨0, 5, 6, 28⟩ [] htab (fun z9 hz9 => nomatch hz9) rfl (by decide) (C.1.2.2.2.2 _ wcl_RL_28) (m_cast C.2.1 (by decide +kernel)) hce hcv hcl ?_
        have hh : M p l e R s m args below meth c Z (wA (kw (wC Z.1 ad) f) s.heap.size) 3 (mQF below Z (mQi (wC Z.1 ad) ((-1001 - Int32.ofNat ([2].idxOf 2)), z.2.2)) (kw (wC Z.1 ad) f) args s 2 12) () (0 + 2) (0 + 12) (kw (wC Z.1 ad) z.2.2) 6 [(0, .ref (ad 291)), (1, .int x1)] [.ref q9] (some ()) := by
          refine M_astore_n C rfl (by decide) (lv1 := [(2, .ref q9), (0, .ref (ad 291)), (1, .int x1)]) rfl dL_due_6 ?_
          refine M_sipush C (v := (-1001)) (by decide) dL_due_7 ?_
          refine M_top (y := (-1001 - Int32.ofNat ([2].idxOf 2))) (by decide) ?_
          exact M_iret C (ty := .int) rfl rfl ⟨by decide, by decide⟩ dL_due_10 (fun _ => ⟨rfl, rfl⟩)
        exact hh rfl H1 locs1 ls hP1 hD1 hS1 hl
theorem wm_RL_110 : Cond.methodLink RL 110 yX11_reason ∈ kGT := kgt (List.mem_of_getElem? (i := 1091) (by decide +kernel)) rfl
theorem hy_X11_reason : kYV yX11_reason cX11_reason 3 (some .int) 2 := ⟨⟨kgt (List.mem_of_getElem? (i := 1094) (by decide +kernel)) rfl, kgt (List.mem_of_getElem? (i := 21) (by decide +kernel)) rfl, by decide +kernel, by decide⟩, kgt (List.mem_of_getElem? (i := 1092) (by decide +kernel)) rfl, kgt (List.mem_of_getElem? (i := 1093) (by decide +kernel)) rfl⟩
set_option maxRecDepth 100000 in
set_option maxHeartbeats 4000000 in
theorem wl_reason (l : Launch) (hst : l.stackTraces = false) (Z : mZ) (ad : Nat → Nat) (had : mAd Z ad) (f : kMem) (x1 x2 : Int32) (r : Int32) (fo : kMem) (h : wvx [2, 5] (cx_X11_reason f x1 x2) = some (r, fo)) : mMet l Z yL_reason (.codeWith yL_reason cL_reason 4 (some .int) [(0, 6, 7, 28), (0, 6, 12, 77)]) 7 2 12 [.ref (ad 291), .int x1, .int x2] (kw (wC Z.1 ad) f) [] (mQi (wC Z.1 ad) (r, fo)) := by
  obtain ⟨z, hz, hcase⟩ := wvx_some h
  refine mMet_ofW (z := ()) (X := some ()) (own := RL) (lv := [(0, .ref (ad 291)), (1, .int x1), (2, .int x2)]) hst (by decide) rfl (Nat.le_of_ble_eq_true rfl) rfl rfl ?_
  intro p e R s m args below meth c C htab
  have hA : ∀ q, s.heap.size ≤ q → wA (kw (wC Z.1 ad) f) s.heap.size q := fun q h => Or.inr h
  refine M_aload_n C 0 rfl rfl dL_reason_0 ?_
  refine M_iload_n C 1 rfl rfl dL_reason_1 ?_
  refine M_iload_n C 2 rfl rfl dL_reason_2 ?_
  intro hX H locs ls hP hD hS hl
  rw [← List.append_nil (kw (wC Z.1 ad) f)] at hP
  have hD0 : va_D (wA (kw (wC Z.1 ad) f) s.heap.size) (kw (wC Z.1 ad) f ++ []) := by rw [List.append_nil]; exact hD
  refine M_wcall C hA had hy_X11_reason rfl wm_RL_110 (by decide) ⟨by decide, by decide⟩ (kxMetV_int (kmx_X11_reason l hst Z.1 ad f x1 x2 z hz)) (As := [.int x1, .int x2]) (rest := []) rfl rfl (Nat.le_of_ble_eq_true rfl) dL_reason_3 hP hD0 hS hl (fun h0 H1 locs1 hP1 hD1 hS1 => ?_) (fun h0 ce q9 H1 locs1 hP1 hD1 hS1 hce hcv hcl => ?_)
  · rcases hcase with ⟨-, rfl, rfl⟩ | ⟨h1, -⟩
    · rw [List.append_nil] at hP1 hD1
      have hh : M p l e R s m args below meth c Z (wA (kw (wC Z.1 ad) f) s.heap.size) 4 (mQF below Z (mQi (wC Z.1 ad) (z.2.1, z.2.2)) (kw (wC Z.1 ad) f) args s 2 12) () (0 + 2) (0 + 12) (kw (wC Z.1 ad) z.2.2) 6 [(0, .ref (ad 291)), (1, .int x1), (2, .int x2)] [.int z.2.1] (some ()) := M_iret C (ty := .int) rfl rfl ⟨by decide, by decide⟩ dL_reason_6 (fun _ => ⟨rfl, rfl⟩)
      exact hh rfl H1 locs1 ls hP1 hD1 hS1 hl
    · exact absurd h0 h1
  · rcases hcase with ⟨h1, -⟩ | ⟨-, hk, rfl, rfl⟩
    · exact absurd h1 h0
    · rw [List.append_nil] at hP1 hD1
      have hk9 : z.1 = 2 ∨ z.1 = 5 := by simpa using hk
      rcases hk9 with h9 | h9
      · rw [h9] at hcl
        rw [h9]
        refine vx_catch (own := RL) (name := kE 2) (E := kE 2) C.1.2.2.2.1 [] ⟨0, 6, 7, 28⟩ [⟨0, 6, 12, 77⟩] htab (fun z9 hz9 => nomatch hz9) rfl (by decide) (C.1.2.2.2.2 _ wcl_RL_28) (m_cast C.2.1 (by decide +kernel)) hce hcv hcl ?_
        have hh : M p l e R s m args below meth c Z (wA (kw (wC Z.1 ad) f) s.heap.size) 4 (mQF below Z (mQi (wC Z.1 ad) ((-1001 - Int32.ofNat ([2, 5].idxOf 2)), z.2.2)) (kw (wC Z.1 ad) f) args s 2 12) () (0 + 2) (0 + 12) (kw (wC Z.1 ad) z.2.2) 7 [(0, .ref (ad 291)), (1, .int x1), (2, .int x2)] [.ref q9] (some ()) := by
          refine M_astore_n C rfl (by decide) (lv1 := [(3, .ref q9), (0, .ref (ad 291)), (1, .int x1), (2, .int x2)]) rfl dL_reason_7 ?_
          refine M_sipush C (v := (-1001)) (by decide) dL_reason_8 ?_
          refine M_top (y := (-1001 - Int32.ofNat ([2, 5].idxOf 2))) (by decide) ?_
          exact M_iret C (ty := .int) rfl rfl ⟨by decide, by decide⟩ dL_reason_11 (fun _ => ⟨rfl, rfl⟩)
        exact hh rfl H1 locs1 ls hP1 hD1 hS1 hl
      · rw [h9] at hcl
        rw [h9]
        refine vx_catch (own := RL) (name := kE 5) (E := kE 5) C.1.2.2.2.1 [⟨0, 6, 7, 28⟩] ⟨0, 6, 12, 77⟩ [] htab (fun z9 hz9 => by
          simp only [List.mem_cons, List.not_mem_nil, or_false] at hz9
          rcases hz9 with rfl
          · exact Or.inr ⟨by decide, kE 2, C.1.2.2.2.2 _ wcl_RL_28, C.2.1.2.2.2.2.1 5 2 (by decide) (by decide) (by decide)⟩) rfl (by decide) (C.1.2.2.2.2 _ wcl_RL_77) (m_cast C.2.1 (by decide +kernel)) hce hcv hcl ?_
        have hh : M p l e R s m args below meth c Z (wA (kw (wC Z.1 ad) f) s.heap.size) 4 (mQF below Z (mQi (wC Z.1 ad) ((-1001 - Int32.ofNat ([2, 5].idxOf 5)), z.2.2)) (kw (wC Z.1 ad) f) args s 2 12) () (0 + 2) (0 + 12) (kw (wC Z.1 ad) z.2.2) 12 [(0, .ref (ad 291)), (1, .int x1), (2, .int x2)] [.ref q9] (some ()) := by
          refine M_astore_n C rfl (by decide) (lv1 := [(3, .ref q9), (0, .ref (ad 291)), (1, .int x1), (2, .int x2)]) rfl dL_reason_12 ?_
          refine M_sipush C (v := (-1002)) (by decide) dL_reason_13 ?_
          refine M_top (y := (-1001 - Int32.ofNat ([2, 5].idxOf 5))) (by decide) ?_
          exact M_iret C (ty := .int) rfl rfl ⟨by decide, by decide⟩ dL_reason_16 (fun _ => ⟨rfl, rfl⟩)
        exact hh rfl H1 locs1 ls hP1 hD1 hS1 hl
theorem wm_RL_114 : Cond.methodLink RL 114 yX11_scrap ∈ kGT := kgt (List.mem_of_getElem? (i := 1023) (by decide +kernel)) rfl
theorem hy_X11_scrap : kYV yX11_scrap cX11_scrap 2 (some .float) 0 := ⟨⟨kgt (List.mem_of_getElem? (i := 1026) (by decide +kernel)) rfl, kgt (List.mem_of_getElem? (i := 21) (by decide +kernel)) rfl, by decide +kernel, by decide⟩, kgt (List.mem_of_getElem? (i := 1024) (by decide +kernel)) rfl, kgt (List.mem_of_getElem? (i := 1025) (by decide +kernel)) rfl⟩
theorem wcl_RL_118 : Cond.classLink RL 118 (kE 6) ∈ kGT := kgt (List.mem_of_getElem? (i := 1009) (by decide +kernel)) rfl
theorem wc_RL_120 : Cond.constantFloat RL 120 3296346112 ∈ kGT := kgt (List.mem_of_getElem? (i := 1034) (by decide +kernel)) rfl
set_option maxRecDepth 100000 in
set_option maxHeartbeats 4000000 in
theorem wl_scrap (l : Launch) (hst : l.stackTraces = false) (Z : mZ) (ad : Nat → Nat) (had : mAd Z ad) (f : kMem) (r : UInt32) (fo : kMem) (h : wvf (cx_X11_scrap f) = some (r, fo)) : mMet l Z yL_scrap (.codeWith yL_scrap cL_scrap 2 (some .float) [(0, 4, 5, 118)]) 7 2 12 [.ref (ad 291)] (kw (wC Z.1 ad) f) [] (mQf (wC Z.1 ad) (r, fo)) := by
  obtain ⟨z, hz, hcase⟩ : ∃ z, cx_X11_scrap f = some z ∧ ((z.1 = 0 ∧ z.2.1 = .float r ∧ fo = z.2.2) ∨ (z.1 ≠ 0 ∧ z.1 = 6 ∧ r = 3296346112 ∧ fo = z.2.2)) := by
    rcases wvf_some h with h1 | ⟨v, h1, h2⟩
    · exact ⟨_, h1, Or.inl ⟨rfl, rfl, rfl⟩⟩
    · exact ⟨_, h1, Or.inr ⟨(show (6 : Nat) ≠ 0 by decide), rfl, h2, rfl⟩⟩
  refine mMet_ofW (z := ()) (X := some ()) (own := RL) (lv := [(0, .ref (ad 291))]) hst (by decide) rfl (Nat.le_of_ble_eq_true rfl) rfl rfl ?_
  intro p e R s m args below meth c C htab
  have hA : ∀ q, s.heap.size ≤ q → wA (kw (wC Z.1 ad) f) s.heap.size q := fun q h => Or.inr h
  refine M_aload_n C 0 rfl rfl dL_scrap_0 ?_
  intro hX H locs ls hP hD hS hl
  rw [← List.append_nil (kw (wC Z.1 ad) f)] at hP
  have hD0 : va_D (wA (kw (wC Z.1 ad) f) s.heap.size) (kw (wC Z.1 ad) f ++ []) := by rw [List.append_nil]; exact hD
  refine M_wcall C hA had hy_X11_scrap rfl wm_RL_114 (by decide) ⟨by decide, by decide⟩ (kmx_X11_scrap l hst Z.1 ad f z hz) (As := []) (rest := []) rfl rfl (Nat.le_of_ble_eq_true rfl) dL_scrap_1 hP hD0 hS hl (fun h0 H1 locs1 hP1 hD1 hS1 => ?_) (fun h0 ce q9 H1 locs1 hP1 hD1 hS1 hce hcv hcl => ?_)
  · rcases hcase with ⟨-, hv, rfl⟩ | ⟨h1, -⟩
    · rw [List.append_nil] at hP1 hD1
      rw [hv]
      have hh : M p l e R s m args below meth c Z (wA (kw (wC Z.1 ad) f) s.heap.size) 2 (mQF below Z (mQf (wC Z.1 ad) (r, z.2.2)) (kw (wC Z.1 ad) f) args s 2 12) () (0 + 2) (0 + 12) (kw (wC Z.1 ad) z.2.2) 4 [(0, .ref (ad 291))] [.float r] (some ()) := M_fret C rfl ⟨by decide, by decide⟩ dL_scrap_4 (fun _ => ⟨rfl, rfl⟩)
      exact hh rfl H1 locs1 ls hP1 hD1 hS1 hl
    · exact absurd h0 h1
  · rcases hcase with ⟨h1, -⟩ | ⟨-, hk, rfl, rfl⟩
    · exact absurd h1 h0
    · rw [List.append_nil] at hP1 hD1
      have hk9 : z.1 = 6 := hk
      have h9 := hk9
      · rw [h9] at hcl
        refine vx_catch (own := RL) (name := kE 6) (E := kE 6) C.1.2.2.2.1 [] ⟨0, 4, 5, 118⟩ [] htab (fun z9 hz9 => nomatch hz9) rfl (by decide) (C.1.2.2.2.2 _ wcl_RL_118) (m_cast C.2.1 (by decide +kernel)) hce hcv hcl ?_
        have hh : M p l e R s m args below meth c Z (wA (kw (wC Z.1 ad) f) s.heap.size) 2 (mQF below Z (mQf (wC Z.1 ad) ((3296346112 : UInt32), z.2.2)) (kw (wC Z.1 ad) f) args s 2 12) () (0 + 2) (0 + 12) (kw (wC Z.1 ad) z.2.2) 5 [(0, .ref (ad 291))] [.ref q9] (some ()) := by
          refine M_astore_n C rfl (by decide) (lv1 := [(1, .ref q9), (0, .ref (ad 291))]) rfl dL_scrap_5 ?_
          refine M_ldcf C wc_RL_120 dL_scrap_6 ?_
          exact M_fret C rfl ⟨by decide, by decide⟩ dL_scrap_8 (fun _ => ⟨rfl, rfl⟩)
        exact hh rfl H1 locs1 ls hP1 hD1 hS1 hl
theorem wm_RL_121 : Cond.methodLink RL 121 yX11_lateness ∈ kGT := kgt (List.mem_of_getElem? (i := 1038) (by decide +kernel)) rfl
theorem hy_X11_lateness : kYV yX11_lateness cX11_lateness 2 (some .double) 0 := ⟨⟨kgt (List.mem_of_getElem? (i := 1041) (by decide +kernel)) rfl, kgt (List.mem_of_getElem? (i := 21) (by decide +kernel)) rfl, by decide +kernel, by decide⟩, kgt (List.mem_of_getElem? (i := 1039) (by decide +kernel)) rfl, kgt (List.mem_of_getElem? (i := 1040) (by decide +kernel)) rfl⟩
theorem wc_RL_125 : Cond.constantDouble RL 125 13875388141788987392 ∈ kGT := kgt (List.mem_of_getElem? (i := 1048) (by decide +kernel)) rfl
set_option maxRecDepth 100000 in
set_option maxHeartbeats 4000000 in
theorem wl_lateness (l : Launch) (hst : l.stackTraces = false) (Z : mZ) (ad : Nat → Nat) (had : mAd Z ad) (f : kMem) (r : UInt64) (fo : kMem) (h : wvd (cx_X11_lateness f) = some (r, fo)) : mMet l Z yL_lateness (.codeWith yL_lateness cL_lateness 2 (some .double) [(0, 4, 5, 118)]) 7 2 12 [.ref (ad 291)] (kw (wC Z.1 ad) f) [] (mQd (wC Z.1 ad) (r, fo)) := by
  obtain ⟨z, hz, hcase⟩ : ∃ z, cx_X11_lateness f = some z ∧ ((z.1 = 0 ∧ z.2.1 = .double r ∧ fo = z.2.2) ∨ (z.1 ≠ 0 ∧ z.1 = 6 ∧ r = 13875388141788987392 ∧ fo = z.2.2)) := by
    rcases wvd_some h with h1 | ⟨v, h1, h2⟩
    · exact ⟨_, h1, Or.inl ⟨rfl, rfl, rfl⟩⟩
    · exact ⟨_, h1, Or.inr ⟨(show (6 : Nat) ≠ 0 by decide), rfl, h2, rfl⟩⟩
  refine mMet_ofW (z := ()) (X := some ()) (own := RL) (lv := [(0, .ref (ad 291))]) hst (by decide) rfl (Nat.le_of_ble_eq_true rfl) rfl rfl ?_
  intro p e R s m args below meth c C htab
  have hA : ∀ q, s.heap.size ≤ q → wA (kw (wC Z.1 ad) f) s.heap.size q := fun q h => Or.inr h
  refine M_aload_n C 0 rfl rfl dL_lateness_0 ?_
  intro hX H locs ls hP hD hS hl
  rw [← List.append_nil (kw (wC Z.1 ad) f)] at hP
  have hD0 : va_D (wA (kw (wC Z.1 ad) f) s.heap.size) (kw (wC Z.1 ad) f ++ []) := by rw [List.append_nil]; exact hD
  refine M_wcall C hA had hy_X11_lateness rfl wm_RL_121 (by decide) ⟨by decide, by decide⟩ (kmx_X11_lateness l hst Z.1 ad f z hz) (As := []) (rest := []) rfl rfl (Nat.le_of_ble_eq_true rfl) dL_lateness_1 hP hD0 hS hl (fun h0 H1 locs1 hP1 hD1 hS1 => ?_) (fun h0 ce q9 H1 locs1 hP1 hD1 hS1 hce hcv hcl => ?_)
  · rcases hcase with ⟨-, hv, rfl⟩ | ⟨h1, -⟩
    · rw [List.append_nil] at hP1 hD1
      rw [hv]
      have hh : M p l e R s m args below meth c Z (wA (kw (wC Z.1 ad) f) s.heap.size) 2 (mQF below Z (mQd (wC Z.1 ad) (r, z.2.2)) (kw (wC Z.1 ad) f) args s 2 12) () (0 + 2) (0 + 12) (kw (wC Z.1 ad) z.2.2) 4 [(0, .ref (ad 291))] [.double r] (some ()) := M_dret C rfl ⟨by decide, by decide⟩ dL_lateness_4 (fun _ => ⟨rfl, rfl⟩)
      exact hh rfl H1 locs1 ls hP1 hD1 hS1 hl
    · exact absurd h0 h1
  · rcases hcase with ⟨h1, -⟩ | ⟨-, hk, rfl, rfl⟩
    · exact absurd h1 h0
    · rw [List.append_nil] at hP1 hD1
      have hk9 : z.1 = 6 := hk
      have h9 := hk9
      · rw [h9] at hcl
        refine vx_catch (own := RL) (name := kE 6) (E := kE 6) C.1.2.2.2.1 [] ⟨0, 4, 5, 118⟩ [] htab (fun z9 hz9 => nomatch hz9) rfl (by decide) (C.1.2.2.2.2 _ wcl_RL_118) (m_cast C.2.1 (by decide +kernel)) hce hcv hcl ?_
        have hh : M p l e R s m args below meth c Z (wA (kw (wC Z.1 ad) f) s.heap.size) 2 (mQF below Z (mQd (wC Z.1 ad) ((13875388141788987392 : UInt64), z.2.2)) (kw (wC Z.1 ad) f) args s 2 12) () (0 + 2) (0 + 12) (kw (wC Z.1 ad) z.2.2) 5 [(0, .ref (ad 291))] [.ref q9] (some ()) := by
          refine M_astore_n C rfl (by decide) (lv1 := [(1, .ref q9), (0, .ref (ad 291))]) rfl dL_lateness_5 ?_
          refine M_ldc2d C wc_RL_125 dL_lateness_6 ?_
          exact M_dret C rfl ⟨by decide, by decide⟩ dL_lateness_9 (fun _ => ⟨rfl, rfl⟩)
        exact hh rfl H1 locs1 ls hP1 hD1 hS1 hl
theorem wm_RL_127 : Cond.methodLink RL 127 yX11_account ∈ kGT := kgt (List.mem_of_getElem? (i := 1052) (by decide +kernel)) rfl
theorem hy_X11_account : kYV yX11_account cX11_account 2 (some .int) 1 := ⟨⟨kgt (List.mem_of_getElem? (i := 1055) (by decide +kernel)) rfl, kgt (List.mem_of_getElem? (i := 21) (by decide +kernel)) rfl, by decide +kernel, by decide⟩, kgt (List.mem_of_getElem? (i := 1053) (by decide +kernel)) rfl, kgt (List.mem_of_getElem? (i := 1054) (by decide +kernel)) rfl⟩
set_option maxRecDepth 100000 in
set_option maxHeartbeats 4000000 in
theorem wl_account (l : Launch) (hst : l.stackTraces = false) (Z : mZ) (ad : Nat → Nat) (had : mAd Z ad) (f : kMem) (x1 : Int32) (r : Int32) (fo : kMem) (h : wvx [2] (cx_X11_account f x1) = some (r, fo)) : mMet l Z yL_account (.codeWith yL_account cL_account 3 (some .int) [(0, 5, 6, 28)]) 7 2 12 [.ref (ad 291), .int x1] (kw (wC Z.1 ad) f) [] (mQi (wC Z.1 ad) (r, fo)) := by
  obtain ⟨z, hz, hcase⟩ := wvx_some h
  refine mMet_ofW (z := ()) (X := some ()) (own := RL) (lv := [(0, .ref (ad 291)), (1, .int x1)]) hst (by decide) rfl (Nat.le_of_ble_eq_true rfl) rfl rfl ?_
  intro p e R s m args below meth c C htab
  have hA : ∀ q, s.heap.size ≤ q → wA (kw (wC Z.1 ad) f) s.heap.size q := fun q h => Or.inr h
  refine M_aload_n C 0 rfl rfl dL_account_0 ?_
  refine M_iload_n C 1 rfl rfl dL_account_1 ?_
  intro hX H locs ls hP hD hS hl
  rw [← List.append_nil (kw (wC Z.1 ad) f)] at hP
  have hD0 : va_D (wA (kw (wC Z.1 ad) f) s.heap.size) (kw (wC Z.1 ad) f ++ []) := by rw [List.append_nil]; exact hD
  refine M_wcall C hA had hy_X11_account rfl wm_RL_127 (by decide) ⟨by decide, by decide⟩ (kxMetV_int (kmx_X11_account l hst Z.1 ad f x1 z hz)) (As := [.int x1]) (rest := []) rfl rfl (Nat.le_of_ble_eq_true rfl) dL_account_2 hP hD0 hS hl (fun h0 H1 locs1 hP1 hD1 hS1 => ?_) (fun h0 ce q9 H1 locs1 hP1 hD1 hS1 hce hcv hcl => ?_)
  · rcases hcase with ⟨-, rfl, rfl⟩ | ⟨h1, -⟩
    · rw [List.append_nil] at hP1 hD1
      have hh : M p l e R s m args below meth c Z (wA (kw (wC Z.1 ad) f) s.heap.size) 3 (mQF below Z (mQi (wC Z.1 ad) (z.2.1, z.2.2)) (kw (wC Z.1 ad) f) args s 2 12) () (0 + 2) (0 + 12) (kw (wC Z.1 ad) z.2.2) 5 [(0, .ref (ad 291)), (1, .int x1)] [.int z.2.1] (some ()) := M_iret C (ty := .int) rfl rfl ⟨by decide, by decide⟩ dL_account_5 (fun _ => ⟨rfl, rfl⟩)
      exact hh rfl H1 locs1 ls hP1 hD1 hS1 hl
    · exact absurd h0 h1
  · rcases hcase with ⟨h1, -⟩ | ⟨-, hk, rfl, rfl⟩
    · exact absurd h1 h0
    · rw [List.append_nil] at hP1 hD1
      have hk9 : z.1 = 2 := by simpa using hk
      have h9 := hk9
      · rw [h9] at hcl
        rw [h9]
        refine vx_catch (own := RL) (name := kE 2) (E := kE 2) C.1.2.2.2.1 [] ⟨0, 5, 6, 28⟩ [] htab (fun z9 hz9 => nomatch hz9) rfl (by decide) (C.1.2.2.2.2 _ wcl_RL_28) (m_cast C.2.1 (by decide +kernel)) hce hcv hcl ?_
        have hh : M p l e R s m args below meth c Z (wA (kw (wC Z.1 ad) f) s.heap.size) 3 (mQF below Z (mQi (wC Z.1 ad) ((-1001 - Int32.ofNat ([2].idxOf 2)), z.2.2)) (kw (wC Z.1 ad) f) args s 2 12) () (0 + 2) (0 + 12) (kw (wC Z.1 ad) z.2.2) 6 [(0, .ref (ad 291)), (1, .int x1)] [.ref q9] (some ()) := by
          refine M_astore_n C rfl (by decide) (lv1 := [(2, .ref q9), (0, .ref (ad 291)), (1, .int x1)]) rfl dL_account_6 ?_
          refine M_sipush C (v := (-1001)) (by decide) dL_account_7 ?_
          refine M_top (y := (-1001 - Int32.ofNat ([2].idxOf 2))) (by decide) ?_
          exact M_iret C (ty := .int) rfl rfl ⟨by decide, by decide⟩ dL_account_10 (fun _ => ⟨rfl, rfl⟩)
        exact hh rfl H1 locs1 ls hP1 hD1 hS1 hl
theorem wm_RL_130 : Cond.methodLink RL 130 yX11_undo ∈ kGT := kgt (List.mem_of_getElem? (i := 1064) (by decide +kernel)) rfl
theorem hy_X11_undo : kYV yX11_undo cX11_undo 1 (some .int) 0 := ⟨⟨kgt (List.mem_of_getElem? (i := 1067) (by decide +kernel)) rfl, kgt (List.mem_of_getElem? (i := 21) (by decide +kernel)) rfl, by decide +kernel, by decide⟩, kgt (List.mem_of_getElem? (i := 1065) (by decide +kernel)) rfl, kgt (List.mem_of_getElem? (i := 1066) (by decide +kernel)) rfl⟩
set_option maxRecDepth 100000 in
set_option maxHeartbeats 4000000 in
theorem wl_undo (l : Launch) (hst : l.stackTraces = false) (Z : mZ) (ad : Nat → Nat) (had : mAd Z ad) (f : kMem) (r : Int32) (fo : kMem) (h : wvx [1] (cx_X11_undo f) = some (r, fo)) : mMet l Z yL_undo (.codeWith yL_undo cL_undo 2 (some .int) [(0, 4, 5, 13)]) 7 2 12 [.ref (ad 291)] (kw (wC Z.1 ad) f) [] (mQi (wC Z.1 ad) (r, fo)) := by
  obtain ⟨z, hz, hcase⟩ := wvx_some h
  refine mMet_ofW (z := ()) (X := some ()) (own := RL) (lv := [(0, .ref (ad 291))]) hst (by decide) rfl (Nat.le_of_ble_eq_true rfl) rfl rfl ?_
  intro p e R s m args below meth c C htab
  have hA : ∀ q, s.heap.size ≤ q → wA (kw (wC Z.1 ad) f) s.heap.size q := fun q h => Or.inr h
  refine M_aload_n C 0 rfl rfl dL_undo_0 ?_
  intro hX H locs ls hP hD hS hl
  rw [← List.append_nil (kw (wC Z.1 ad) f)] at hP
  have hD0 : va_D (wA (kw (wC Z.1 ad) f) s.heap.size) (kw (wC Z.1 ad) f ++ []) := by rw [List.append_nil]; exact hD
  refine M_wcall C hA had hy_X11_undo rfl wm_RL_130 (by decide) ⟨by decide, by decide⟩ (kxMetV_int (kmx_X11_undo l hst Z.1 ad f z hz)) (As := []) (rest := []) rfl rfl (Nat.le_of_ble_eq_true rfl) dL_undo_1 hP hD0 hS hl (fun h0 H1 locs1 hP1 hD1 hS1 => ?_) (fun h0 ce q9 H1 locs1 hP1 hD1 hS1 hce hcv hcl => ?_)
  · rcases hcase with ⟨-, rfl, rfl⟩ | ⟨h1, -⟩
    · rw [List.append_nil] at hP1 hD1
      have hh : M p l e R s m args below meth c Z (wA (kw (wC Z.1 ad) f) s.heap.size) 2 (mQF below Z (mQi (wC Z.1 ad) (z.2.1, z.2.2)) (kw (wC Z.1 ad) f) args s 2 12) () (0 + 2) (0 + 12) (kw (wC Z.1 ad) z.2.2) 4 [(0, .ref (ad 291))] [.int z.2.1] (some ()) := M_iret C (ty := .int) rfl rfl ⟨by decide, by decide⟩ dL_undo_4 (fun _ => ⟨rfl, rfl⟩)
      exact hh rfl H1 locs1 ls hP1 hD1 hS1 hl
    · exact absurd h0 h1
  · rcases hcase with ⟨h1, -⟩ | ⟨-, hk, rfl, rfl⟩
    · exact absurd h1 h0
    · rw [List.append_nil] at hP1 hD1
      have hk9 : z.1 = 1 := by simpa using hk
      have h9 := hk9
      · rw [h9] at hcl
        rw [h9]
        refine vx_catch (own := RL) (name := kE 1) (E := kE 1) C.1.2.2.2.1 [] ⟨0, 4, 5, 13⟩ [] htab (fun z9 hz9 => nomatch hz9) rfl (by decide) (C.1.2.2.2.2 _ wcl_RL_13) (m_cast C.2.1 (by decide +kernel)) hce hcv hcl ?_
        have hh : M p l e R s m args below meth c Z (wA (kw (wC Z.1 ad) f) s.heap.size) 2 (mQF below Z (mQi (wC Z.1 ad) ((-1001 - Int32.ofNat ([1].idxOf 1)), z.2.2)) (kw (wC Z.1 ad) f) args s 2 12) () (0 + 2) (0 + 12) (kw (wC Z.1 ad) z.2.2) 5 [(0, .ref (ad 291))] [.ref q9] (some ()) := by
          refine M_astore_n C rfl (by decide) (lv1 := [(1, .ref q9), (0, .ref (ad 291))]) rfl dL_undo_5 ?_
          refine M_sipush C (v := (-1001)) (by decide) dL_undo_6 ?_
          refine M_top (y := (-1001 - Int32.ofNat ([1].idxOf 1))) (by decide) ?_
          exact M_iret C (ty := .int) rfl rfl ⟨by decide, by decide⟩ dL_undo_9 (fun _ => ⟨rfl, rfl⟩)
        exact hh rfl H1 locs1 ls hP1 hD1 hS1 hl
theorem wm_RL_133 : Cond.methodLink RL 133 yX11_restore ∈ kGT := kgt (List.mem_of_getElem? (i := 1076) (by decide +kernel)) rfl
theorem hy_X11_restore : kYV yX11_restore cX11_restore 1 (some .int) 0 := ⟨⟨kgt (List.mem_of_getElem? (i := 1079) (by decide +kernel)) rfl, kgt (List.mem_of_getElem? (i := 21) (by decide +kernel)) rfl, by decide +kernel, by decide⟩, kgt (List.mem_of_getElem? (i := 1077) (by decide +kernel)) rfl, kgt (List.mem_of_getElem? (i := 1078) (by decide +kernel)) rfl⟩
set_option maxRecDepth 100000 in
set_option maxHeartbeats 4000000 in
theorem wl_restore (l : Launch) (hst : l.stackTraces = false) (Z : mZ) (ad : Nat → Nat) (had : mAd Z ad) (f : kMem) (r : Int32) (fo : kMem) (h : wvx [1] (cx_X11_restore f) = some (r, fo)) : mMet l Z yL_restore (.codeWith yL_restore cL_restore 2 (some .int) [(0, 4, 5, 13)]) 7 2 12 [.ref (ad 291)] (kw (wC Z.1 ad) f) [] (mQi (wC Z.1 ad) (r, fo)) := by
  obtain ⟨z, hz, hcase⟩ := wvx_some h
  refine mMet_ofW (z := ()) (X := some ()) (own := RL) (lv := [(0, .ref (ad 291))]) hst (by decide) rfl (Nat.le_of_ble_eq_true rfl) rfl rfl ?_
  intro p e R s m args below meth c C htab
  have hA : ∀ q, s.heap.size ≤ q → wA (kw (wC Z.1 ad) f) s.heap.size q := fun q h => Or.inr h
  refine M_aload_n C 0 rfl rfl dL_restore_0 ?_
  intro hX H locs ls hP hD hS hl
  rw [← List.append_nil (kw (wC Z.1 ad) f)] at hP
  have hD0 : va_D (wA (kw (wC Z.1 ad) f) s.heap.size) (kw (wC Z.1 ad) f ++ []) := by rw [List.append_nil]; exact hD
  refine M_wcall C hA had hy_X11_restore rfl wm_RL_133 (by decide) ⟨by decide, by decide⟩ (kxMetV_int (kmx_X11_restore l hst Z.1 ad f z hz)) (As := []) (rest := []) rfl rfl (Nat.le_of_ble_eq_true rfl) dL_restore_1 hP hD0 hS hl (fun h0 H1 locs1 hP1 hD1 hS1 => ?_) (fun h0 ce q9 H1 locs1 hP1 hD1 hS1 hce hcv hcl => ?_)
  · rcases hcase with ⟨-, rfl, rfl⟩ | ⟨h1, -⟩
    · rw [List.append_nil] at hP1 hD1
      have hh : M p l e R s m args below meth c Z (wA (kw (wC Z.1 ad) f) s.heap.size) 2 (mQF below Z (mQi (wC Z.1 ad) (z.2.1, z.2.2)) (kw (wC Z.1 ad) f) args s 2 12) () (0 + 2) (0 + 12) (kw (wC Z.1 ad) z.2.2) 4 [(0, .ref (ad 291))] [.int z.2.1] (some ()) := M_iret C (ty := .int) rfl rfl ⟨by decide, by decide⟩ dL_restore_4 (fun _ => ⟨rfl, rfl⟩)
      exact hh rfl H1 locs1 ls hP1 hD1 hS1 hl
    · exact absurd h0 h1
  · rcases hcase with ⟨h1, -⟩ | ⟨-, hk, rfl, rfl⟩
    · exact absurd h1 h0
    · rw [List.append_nil] at hP1 hD1
      have hk9 : z.1 = 1 := by simpa using hk
      have h9 := hk9
      · rw [h9] at hcl
        rw [h9]
        refine vx_catch (own := RL) (name := kE 1) (E := kE 1) C.1.2.2.2.1 [] ⟨0, 4, 5, 13⟩ [] htab (fun z9 hz9 => nomatch hz9) rfl (by decide) (C.1.2.2.2.2 _ wcl_RL_13) (m_cast C.2.1 (by decide +kernel)) hce hcv hcl ?_
        have hh : M p l e R s m args below meth c Z (wA (kw (wC Z.1 ad) f) s.heap.size) 2 (mQF below Z (mQi (wC Z.1 ad) ((-1001 - Int32.ofNat ([1].idxOf 1)), z.2.2)) (kw (wC Z.1 ad) f) args s 2 12) () (0 + 2) (0 + 12) (kw (wC Z.1 ad) z.2.2) 5 [(0, .ref (ad 291))] [.ref q9] (some ()) := by
          refine M_astore_n C rfl (by decide) (lv1 := [(1, .ref q9), (0, .ref (ad 291))]) rfl dL_restore_5 ?_
          refine M_sipush C (v := (-1001)) (by decide) dL_restore_6 ?_
          refine M_top (y := (-1001 - Int32.ofNat ([1].idxOf 1))) (by decide) ?_
          exact M_iret C (ty := .int) rfl rfl ⟨by decide, by decide⟩ dL_restore_9 (fun _ => ⟨rfl, rfl⟩)
        exact hh rfl H1 locs1 ls hP1 hD1 hS1 hl
