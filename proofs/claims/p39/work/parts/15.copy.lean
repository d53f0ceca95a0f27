theorem wm_X11_448 : Cond.methodLink RX11 448 Lib.Math.min.name ∈ kGT := kgt (List.mem_of_getElem? (i := 417) (by decide +kernel)) rfl
/-! copies of rows and of whole floors -/
theorem kfs_eqv (w : KW) {g g' : Nat → Int32} : ∀ (fl : List (Option Nat)) (i : Nat), (∀ j, fl[j]? = some none → g (i + j) = g' (i + j)) → kfs w g i fl = kfs w g' i fl
  | [], _, _ => rfl
  | none :: r, i, h => by
    simp only [kfs]
    rw [kfs_eqv w (g := g) (g' := g') r (i + 1) (fun j hj => by
      have h2 := h (j + 1) (by simpa using hj)
      rw [show i + 1 + j = i + (j + 1) by omega]
      exact h2)]
    have := h 0 rfl
    rw [Nat.add_zero] at this
    rw [this]
  | some b :: r, i, h => by
    simp only [kfs]
    rw [kfs_eqv w (g := g) (g' := g') r (i + 1) (fun j hj => by
      have h2 := h (j + 1) (by simpa using hj)
      rw [show i + 1 + j = i + (j + 1) by omega]
      exact h2)]
/-- two memories that say the same of all that the world's cells hold -/
def keqv (w : KW) (f f' : kMem) : Prop := ∀ a, a < kn w → (∀ ty n, ksh w a = .inl (ty, n) → ∀ j, j < n → f a j = f' a j) ∧ (∀ ci fl, ksh w a = .inr (ci, fl) → ∀ j : Nat, fl[j]? = some none → f a j = f' a j)
theorem karr_eqv {c : ClassId} {n : Nat} {f f' : Nat → Int32} (h : ∀ j, j < n → f j = f' j) : vp_cell c (n, .inl f) = vp_cell c (n, .inl f') := by
  show arrV c n (fun j => .int (f j)) = arrV c n (fun j => .int (f' j))
  unfold arrV
  congr 1
  apply Array.ext
  · simp
  · intro i h1 h2
    simp only [Array.getElem_ofFn]
    rw [h i (by simpa using h1)]
theorem kw_eqv {w : KW} {f f' : kMem} {H : Heap} (h : keqv w f f') (hP : va_P w.1.1 vwCl (kw w f) H) : va_P w.1.1 vwCl (kw w f') H := by
  intro k q hq
  by_cases hk : k < kn w
  · rw [kw_get hk] at hq
    cases hq
    have h1 := hP k _ (kw_get hk)
    have h2 := h k hk
    unfold kcell at h1 ⊢
    cases hs : ksh w k with
    | inl x =>
      obtain ⟨ty, n⟩ := x
      rw [hs] at h1
      match ty with
      | 0 => simp only [va_at] at h1 ⊢; rw [h1, karr_eqv (h2.1 _ _ hs)]
      | 1 => simp only [va_at] at h1 ⊢; rw [h1, karr_eqv (h2.1 _ _ hs)]
      | _ + 2 => exact h1
    | inr x =>
      obtain ⟨ci, fl⟩ := x
      rw [hs] at h1
      simp only at h1 ⊢
      rw [← kfs_eqv w (g := f k) (g' := f' k) fl 0 (fun j hj => by rw [Nat.zero_add]; exact h2.2 _ _ hs j hj)]
      exact h1
  · simp [kw, hk] at hq
theorem kMet_eqv {l : Launch} {w : KW} {y : MethodName} {b : ByteArray} {nL : Nat} {ret : Option FieldType} {d : Nat} {av : List Value} {f : kMem} {r : Int32} {fo fo' : kMem} (h : kMet l w y b nL ret d av f r fo) (he : keqv w fo fo') : kMet l w y b nL ret d av f r fo' := by
  intro sz
  intro p e ha hc hk s m args below hf happ hP hK
  obtain ⟨n, o, h1, h2, h3, ⟨q1, q2, q3⟩, h5⟩ := h sz p e ha hc hk s m args below hf happ hP hK
  exact ⟨n, o, h1, h2, h3, ⟨q1, kw_eqv he q2, q3⟩, h5⟩
/-- the row a over the row b -/
def kcp (f : kMem) (a b : Nat) : kMem := fun q => if q = b then f a else f q
/-- the cells lo .. hi of the floor j over those of the floor i -/
def kfc (f : kMem) (i j lo hi : Nat) : kMem := fun q => if 25 * i + lo ≤ q ∧ q < 25 * i + hi then f (25 * j + (q - 25 * i)) else f q
theorem kfc_j {f : kMem} {i j lo hi c : Nat} (h : i ≠ j) (hh : hi ≤ 25) (hc : c < 25) : kfc f i j lo hi (25 * j + c) = f (25 * j + c) := if_neg (by omega)
theorem kfc_j0 {f : kMem} {i j lo hi : Nat} (h : i ≠ j) (hh : hi ≤ 25) : kfc f i j lo hi (25 * j) = f (25 * j) := if_neg (by omega)
theorem kfc_in {f : kMem} {i j lo hi c : Nat} (h1 : lo ≤ c) (h2 : c < hi) : kfc f i j lo hi (25 * i + c) = f (25 * j + c) := by
  unfold kfc
  rw [if_pos (by omega), show 25 * i + c - 25 * i = c by omega]
theorem kfc_out {f : kMem} {i j lo hi c : Nat} (h1 : ¬ (lo ≤ c ∧ c < hi)) : kfc f i j lo hi (25 * i + c) = f (25 * i + c) := if_neg (by omega)
theorem kfc_in0 {f : kMem} {i j hi : Nat} (h2 : 0 < hi) : kfc f i j 0 hi (25 * i) = f (25 * j) := kfc_in (c := 0) (Nat.le_refl 0) h2
theorem kfc_out0 {f : kMem} {i j lo hi : Nat} (h1 : 0 < lo) : kfc f i j lo hi (25 * i) = f (25 * i) := if_neg (by omega)
theorem kfc_far {f : kMem} {i j lo hi a : Nat} (hh : hi ≤ 25) (h : ¬ (25 * i ≤ a ∧ a < 25 * i + 25)) : kfc f i j lo hi a = f a := if_neg (by omega)
theorem k12 {fl : List (Option Nat)} {q : Nat} {x : Option Nat} (h : fl[q]? = some x) (hl : fl.length ≤ 12) : q < 12 := Nat.lt_of_lt_of_le (List.getElem?_eq_some_iff.mp h).1 hl
theorem kne0 {i j : Nat} (h : i ≠ j) : (25 * j = 25 * i) = False := eq_false (by omega)
theorem kne1 {i j c d : Nat} (h : i ≠ j) (hc : c < 25) (hd : d < 25) : (25 * j + c = 25 * i + d) = False := eq_false (by omega)
theorem kne2 {i j c : Nat} (h : i ≠ j) (hc : c < 25) : (25 * j + c = 25 * i) = False := eq_false (by omega)
theorem kne3 {i j c : Nat} (h : i ≠ j) (hc : c < 25) : (25 * j = 25 * i + c) = False := eq_false (by omega)
theorem shFl (G : kG) (ad : Nat → Nat) {i c : Nat} (hi : i < 11) (hc : c < 25) : ksh (wC G ad) (25 * i + c) = shF (25 * i) c := by
  show shC (25 * i + c) = _
  unfold shC
  rw [if_pos (by omega), show (25 * i + c) / 25 = i by omega, show (25 * i + c) % 25 = c by omega]
theorem shFl0 (G : kG) (ad : Nat → Nat) {i : Nat} (hi : i < 11) : ksh (wC G ad) (25 * i) = shF (25 * i) 0 := shFl G ad (c := 0) hi (by decide)
theorem wsys_1 : Cond.methodLink RX11 453 arraycopyName ∈ kGT := kgt (List.mem_of_getElem? (i := 420) (by decide +kernel)) rfl
theorem wsys_2 : Cond.native arraycopyName ∈ kGT := kgt (List.mem_of_getElem? (i := 422) (by decide +kernel)) rfl
theorem wsys_3 : Cond.static arraycopyName ∈ kGT := kgt (List.mem_of_getElem? (i := 421) (by decide +kernel)) rfl
theorem wsys_4 : Cond.initialized "java/lang/System" ∈ kGT := kgt (List.mem_of_getElem? (i := 38) (by decide +kernel)) rfl
theorem K_copy {p : Program} {l : Launch} {e : Env} {R : Room} {s : State} {m : MethodId} {args : Array Value} {below : List Frame} {meth : Method} {c : Code} {w : KW} {own : String} {cc : ByteArray} {nL : Nat} {ret : Option FieldType} {d mc ms : Nat} {ρ : Type} {QF : State → Prop} {z : ρ} {k0 n0 : Nat} {f : kMem} {pc : Nat} {lv : List (Nat × Value)} {st : List Value} {Y : kMem → Option ρ} (C : KC p l e R s m args below meth c w own cc nL ret d mc ms) {a b n idx : Nat} {x : Int32} (ha : a < kn w) (hb : b < kn w) (h0 : ksh w a = .inl (0, n)) (h1 : ksh w b = .inl (0, n)) (hx : x = Int32.ofNat n) (hn : n < 2 ^ 31) (hlink : Cond.methodLink own idx arraycopyName ∈ kGT) (hd1 : 1 ≤ d) (hrest : (st.map fun v => v.category).sum ≤ 8) (hdg : decode cc pc = .ok (.invokestatic idx, 3)) (kk : ∀ g : kMem, K p l e R s m args below meth c w nL QF z k0 n0 g (pc + 3) lv st (Y g)) : K p l e R s m args below meth c w nL QF z k0 n0 f pc lv (.int x :: .int 0 :: .ref (kad w b) :: .int 0 :: .ref (kad w a) :: st) (kmem (kcp f a b) Y) := by
  intro hX H locs ls hP hS hl
  have hxc : x.toNatClampNeg = n := by rw [hx]; exact nI_clamp hn
  have h0c : (0 : Int32).toNatClampNeg = 0 := rfl
  have hnf : nativeFrameWords "java/lang/System" "arraycopy" 5 + 11 ≤ 56 := by decide
  refine va_copyi (sp := 0) (dp := 0) (n := x) C.1.1 C.1.2.1 (C.1.2.2.1.trans hl.1.symm) C.1.2.2.2.1 (C.1.2.2.2.2 _ hlink) (C.1.2.2.2.2 _ wsys_2) (C.1.2.2.2.2 _ wsys_3) (C.1.2.2.2.2 _ wsys_4) C.2.1 hP (kw_D C.2.2.2.2.1) hS a b 0 0 (kw_arr ha h0) (kw_arr hb h1) rfl rfl rfl (by decide) (by decide) (by rw [hx]; exact nI_pos hn) (by rw [hxc, h0c]; omega) (by rw [hxc, h0c]; omega) (fun _ _ => rfl) (by rw [C.2.2.2.2.2.2.2]; exact hd1) (by rw [C.2.2.2.2.2.2.2]; show _ ≤ 64 * d; omega) hdg (fun H1 locs1 hP1 hD1 hS1 => ?_)
  rw [kw_set (f' := fun q => if q = b then va_cpy (f a) (f b) (0 : Int32).toNatClampNeg (0 : Int32).toNatClampNeg x.toNatClampNeg else f q) (by unfold kcell; rw [h1]; simp) (fun q hq => by simp [hq])] at hP1
  refine kk _ hX H1 locs1 ls (kw_eqv ?_ hP1) hS1 hl
  intro q hq
  by_cases hqb : q = b
  · subst hqb
    refine ⟨fun ty m h j hj => ?_, fun ci fl h => ?_⟩
    · rw [h1] at h; cases h
      simp only [kcp, if_true]
      rw [hxc]
      simp [va_cpy, hj]
    · rw [h1] at h; cases h
  · exact ⟨fun _ _ _ j _ => by simp [kcp, hqb], fun _ _ _ j _ => by simp [kcp, hqb]⟩
set_option maxRecDepth 100000 in
set_option maxHeartbeats 4000000 in
theorem km_X11_copyRow (l : Launch) (w : KW) (f : kMem) (a b n : Nat) (ha : a < kn w) (hb : b < kn w) (h0 : ksh w a = .inl (0, n)) (h1 : ksh w b = .inl (0, n)) (hn : n < 2 ^ 31) : kMet l w yX11_copyRow cX11_copyRow 2 none 1 [.ref (kad w a), .ref (kad w b)] f 0 (kcp f a b) := by
  refine kMet_of (own := RX11) (lv := [(0, .ref (kad w a)), (1, .ref (kad w b))]) (X := kmem (kcp f a b) (fun g => some (0, g))) (by decide) rfl (Nat.le_of_ble_eq_true rfl) rfl rfl ?_
  intro p e R s m args below meth c C
  refine K_aload_n C 0 rfl rfl dX11_copyRow_0 ?_
  refine K_iconst C (v := 0) (by decide) dX11_copyRow_1 ?_
  refine K_aload_n C 1 rfl rfl dX11_copyRow_2 ?_
  refine K_iconst C (v := 0) (by decide) dX11_copyRow_3 ?_
  refine K_aload_n C 0 rfl rfl dX11_copyRow_4 ?_
  refine K_alen C ha h0 rfl dX11_copyRow_5 ?_
  refine K_aload_n C 1 rfl rfl dX11_copyRow_6 ?_
  refine K_alen C hb h1 rfl dX11_copyRow_7 ?_
  refine K_mmin C wm_X11_448 (by decide) ⟨Nat.le_refl _, Nat.le_refl _⟩ (Nat.le_of_ble_eq_true rfl) dX11_copyRow_8 ?_
  refine K_copy C ha hb h0 h1 (by simp [kmin]) hn wsys_1 (by decide) (Nat.le_of_ble_eq_true rfl) dX11_copyRow_11 (fun g => ?_)
  exact K_vret C rfl dX11_copyRow_14
theorem hy_X11_copyRow : kYS yX11_copyRow cX11_copyRow 2 none 2 := ⟨⟨kgt (List.mem_of_getElem? (i := 416) (by decide +kernel)) rfl, kgt (List.mem_of_getElem? (i := 21) (by decide +kernel)) rfl, by decide +kernel, by decide⟩, kgt (List.mem_of_getElem? (i := 415) (by decide +kernel)) rfl⟩
def ce_X0_copyFrom (f : kMem) (i j : Nat) : Option (Int32 × kMem) := kmem (kup f (25 * i + 1) 0 (f (25 * j + 1) 0)) (fun g1 => kmem (kup g1 (25 * i + 1) 1 (g1 (25 * j + 1) 1)) (fun g2 => kmem (kup g2 (25 * i + 1) 2 (g2 (25 * j + 1) 2)) (fun g3 => kbind (some (0, kcp g3 (25 * j + 2) (25 * i + 2))) (fun r4 g4 => kbind (some (0, kcp g4 (25 * j + 3) (25 * i + 3))) (fun r5 g5 => kbind (some (0, kcp g5 (25 * j + 4) (25 * i + 4))) (fun r6 g6 => kbind (some (0, kcp g6 (25 * j + 5) (25 * i + 5))) (fun r7 g7 => kbind (some (0, kcp g7 (25 * j + 6) (25 * i + 6))) (fun r8 g8 => kbind (some (0, kcp g8 (25 * j + 7) (25 * i + 7))) (fun r9 g9 => some (0, g9))))))))))
set_option maxRecDepth 100000 in
set_option maxHeartbeats 4000000 in
theorem ke_X0_copyFrom (G : kG) (ad : Nat → Nat) {i j : Nat} (hi : i < 11) (hj : j < 11) (hij : i ≠ j) (f : kMem) : ∃ fo, ce_X0_copyFrom f i j = some (0, fo) ∧ keqv (wC G ad) fo (kfc f i j 1 8) := by
  refine ⟨_, rfl, ?_⟩
  intro a ha
  by_cases hr : 25 * i + 1 ≤ a ∧ a < 25 * i + 8
  · obtain ⟨c, rfl, hc⟩ : ∃ c, a = 25 * i + c ∧ 1 ≤ c ∧ c < 8 := ⟨a - 25 * i, by omega, by omega, by omega⟩
    rcases (show c = 1 ∨ c = 2 ∨ c = 3 ∨ c = 4 ∨ c = 5 ∨ c = 6 ∨ c = 7 by omega) with rfl | rfl | rfl | rfl | rfl | rfl | rfl
    all_goals (first | rw [shFl G ad hi (by decide)] | rw [Nat.add_zero, shFl0 G ad hi])
    all_goals (refine ⟨fun ty n h q hq => ?_, fun ci fl h q hq => ?_⟩ <;> cases h)
    all_goals (first | (simp [kcp, kfc, kup, upd, kne1 hij, kne2 hij, kne3 hij, kne0 hij, hij, hij.symm] ; done) | (have h12 : q < 12 := k12 hq (by simp)))
    all_goals (rcases (show q = 0 ∨ q = 1 ∨ q = 2 ∨ q = 3 ∨ q = 4 ∨ q = 5 ∨ q = 6 ∨ q = 7 ∨ q = 8 ∨ q = 9 ∨ q = 10 ∨ q = 11 by omega) with rfl | rfl | rfl | rfl | rfl | rfl | rfl | rfl | rfl | rfl | rfl | rfl)
    all_goals (first | (cases hq ; done) | (simp at hq ; done) | (simp [kcp, kfc, kup, upd, kne1 hij, kne2 hij, kne3 hij, kne0 hij, hij, hij.symm] ; done))
  · have q1 : a ≠ 25 * i + 1 := by omega
    have q2 : a ≠ 25 * i + 2 := by omega
    have q3 : a ≠ 25 * i + 3 := by omega
    have q4 : a ≠ 25 * i + 4 := by omega
    have q5 : a ≠ 25 * i + 5 := by omega
    have q6 : a ≠ 25 * i + 6 := by omega
    have q7 : a ≠ 25 * i + 7 := by omega
    refine ⟨fun ty n h q hq => ?_, fun ci fl h q hq => ?_⟩ <;> simp [kcp, kfc, kup, upd, hr, q1, q2, q3, q4, q5, q6, q7]
set_option maxRecDepth 100000 in
set_option maxHeartbeats 4000000 in
theorem km_X0_copyFrom (l : Launch) (G : kG) (ad : Nat → Nat) {i j : Nat} (hi : i < 11) (hj : j < 11) (hij : i ≠ j) (f : kMem) : kMet l (wC G ad) yX0_copyFrom cX0_copyFrom 2 none 2 [.ref (kad (wC G ad) (25 * i + 1)), .ref (kad (wC G ad) (25 * j + 1))] f 0 (kfc f i j 1 8) := by
  obtain ⟨fo, h, he⟩ := ke_X0_copyFrom G ad hi hj hij f
  refine kMet_eqv ?_ he
  refine kMet_of (own := RX0) (lv := [(0, .ref (kad (wC G ad) (25 * i + 1))), (1, .ref (kad (wC G ad) (25 * j + 1)))]) (by decide) rfl (Nat.le_of_ble_eq_true rfl) rfl h ?_
  intro p e R s m args below meth c C
  unfold ce_X0_copyFrom
  refine K_aload_n C 0 rfl rfl dX0_copyFrom_0 ?_
  refine K_aload_n C 1 rfl rfl dX0_copyFrom_1 ?_
  refine K_getI C kin_X0 rfl (show _ < 292 by omega) (shFl G ad hj (by decide)) 0 (by decide) rfl wf_X0_30 rfl dX0_copyFrom_2 ?_
  refine K_putI C kin_X0 rfl (show _ < 292 by omega) (shFl G ad hi (by decide)) 0 (by decide) rfl wf_X0_30 rfl tyX0 tyX0_ok nmX0 (by decide) (ty := .int) (by decide +kernel) rfl rfl dX0_copyFrom_5 (fun g1 => ?_)
  refine K_aload_n C 0 rfl rfl dX0_copyFrom_8 ?_
  refine K_aload_n C 1 rfl rfl dX0_copyFrom_9 ?_
  refine K_getI C kin_X0 rfl (show _ < 292 by omega) (shFl G ad hj (by decide)) 1 (by decide) rfl wf_X0_34 rfl dX0_copyFrom_10 ?_
  refine K_putI C kin_X0 rfl (show _ < 292 by omega) (shFl G ad hi (by decide)) 1 (by decide) rfl wf_X0_34 rfl tyX0 tyX0_ok nmX0 (by decide) (ty := .int) (by decide +kernel) rfl rfl dX0_copyFrom_13 (fun g2 => ?_)
  refine K_aload_n C 0 rfl rfl dX0_copyFrom_16 ?_
  refine K_aload_n C 1 rfl rfl dX0_copyFrom_17 ?_
  refine K_getI C kin_X0 rfl (show _ < 292 by omega) (shFl G ad hj (by decide)) 2 (by decide) rfl wf_X0_37 rfl dX0_copyFrom_18 ?_
  refine K_putI C kin_X0 rfl (show _ < 292 by omega) (shFl G ad hi (by decide)) 2 (by decide) rfl wf_X0_37 rfl tyX0 tyX0_ok nmX0 (by decide) (ty := .int) (by decide +kernel) rfl rfl dX0_copyFrom_21 (fun g3 => ?_)
  refine K_aload_n C 1 rfl rfl dX0_copyFrom_24 ?_
  refine K_getR C kin_X0 rfl (show _ < 292 by omega) (shFl G ad hj (by decide)) 3 (by decide) (b := 25 * j + 2) rfl wf_X0_9 rfl dX0_copyFrom_25 ?_
  refine K_aload_n C 0 rfl rfl dX0_copyFrom_28 ?_
  refine K_getR C kin_X0 rfl (show _ < 292 by omega) (shFl G ad hi (by decide)) 3 (by decide) (b := 25 * i + 2) rfl wf_X0_9 rfl dX0_copyFrom_29 ?_
  refine K_callSNv C (d1 := 1) (As := [.ref (kad (wC G ad) (25 * j + 2)), .ref (kad (wC G ad) (25 * i + 2))]) (rest := []) hy_X11_copyRow (by decide +kernel) (by decide) ⟨Nat.le_refl _, Nat.le_refl _⟩ (fun rr ff hh => by cases hh; exact km_X11_copyRow l _ _ _ _ 6 (show _ < 292 by omega) (show _ < 292 by omega) (shFl G ad hj (by decide)) (shFl G ad hi (by decide)) (by decide)) rfl rfl (Nat.le_of_ble_eq_true rfl) rfl dX0_copyFrom_32 (fun r4 g4 => ?_)
  refine K_aload_n C 1 rfl rfl dX0_copyFrom_35 ?_
  refine K_getR C kin_X0 rfl (show _ < 292 by omega) (shFl G ad hj (by decide)) 4 (by decide) (b := 25 * j + 3) rfl wf_X0_15 rfl dX0_copyFrom_36 ?_
  refine K_aload_n C 0 rfl rfl dX0_copyFrom_39 ?_
  refine K_getR C kin_X0 rfl (show _ < 292 by omega) (shFl G ad hi (by decide)) 4 (by decide) (b := 25 * i + 3) rfl wf_X0_15 rfl dX0_copyFrom_40 ?_
  refine K_callSNv C (d1 := 1) (As := [.ref (kad (wC G ad) (25 * j + 3)), .ref (kad (wC G ad) (25 * i + 3))]) (rest := []) hy_X11_copyRow (by decide +kernel) (by decide) ⟨Nat.le_refl _, Nat.le_refl _⟩ (fun rr ff hh => by cases hh; exact km_X11_copyRow l _ _ _ _ 8 (show _ < 292 by omega) (show _ < 292 by omega) (shFl G ad hj (by decide)) (shFl G ad hi (by decide)) (by decide)) rfl rfl (Nat.le_of_ble_eq_true rfl) rfl dX0_copyFrom_43 (fun r5 g5 => ?_)
  refine K_aload_n C 1 rfl rfl dX0_copyFrom_46 ?_
  refine K_getR C kin_X0 rfl (show _ < 292 by omega) (shFl G ad hj (by decide)) 5 (by decide) (b := 25 * j + 4) rfl wf_X0_18 rfl dX0_copyFrom_47 ?_
  refine K_aload_n C 0 rfl rfl dX0_copyFrom_50 ?_
  refine K_getR C kin_X0 rfl (show _ < 292 by omega) (shFl G ad hi (by decide)) 5 (by decide) (b := 25 * i + 4) rfl wf_X0_18 rfl dX0_copyFrom_51 ?_
  refine K_callSNv C (d1 := 1) (As := [.ref (kad (wC G ad) (25 * j + 4)), .ref (kad (wC G ad) (25 * i + 4))]) (rest := []) hy_X11_copyRow (by decide +kernel) (by decide) ⟨Nat.le_refl _, Nat.le_refl _⟩ (fun rr ff hh => by cases hh; exact km_X11_copyRow l _ _ _ _ 6 (show _ < 292 by omega) (show _ < 292 by omega) (shFl G ad hj (by decide)) (shFl G ad hi (by decide)) (by decide)) rfl rfl (Nat.le_of_ble_eq_true rfl) rfl dX0_copyFrom_54 (fun r6 g6 => ?_)
  refine K_aload_n C 1 rfl rfl dX0_copyFrom_57 ?_
  refine K_getR C kin_X0 rfl (show _ < 292 by omega) (shFl G ad hj (by decide)) 6 (by decide) (b := 25 * j + 5) rfl wf_X0_21 rfl dX0_copyFrom_58 ?_
  refine K_aload_n C 0 rfl rfl dX0_copyFrom_61 ?_
  refine K_getR C kin_X0 rfl (show _ < 292 by omega) (shFl G ad hi (by decide)) 6 (by decide) (b := 25 * i + 5) rfl wf_X0_21 rfl dX0_copyFrom_62 ?_
  refine K_callSNv C (d1 := 1) (As := [.ref (kad (wC G ad) (25 * j + 5)), .ref (kad (wC G ad) (25 * i + 5))]) (rest := []) hy_X11_copyRow (by decide +kernel) (by decide) ⟨Nat.le_refl _, Nat.le_refl _⟩ (fun rr ff hh => by cases hh; exact km_X11_copyRow l _ _ _ _ 6 (show _ < 292 by omega) (show _ < 292 by omega) (shFl G ad hj (by decide)) (shFl G ad hi (by decide)) (by decide)) rfl rfl (Nat.le_of_ble_eq_true rfl) rfl dX0_copyFrom_65 (fun r7 g7 => ?_)
  refine K_aload_n C 1 rfl rfl dX0_copyFrom_68 ?_
  refine K_getR C kin_X0 rfl (show _ < 292 by omega) (shFl G ad hj (by decide)) 7 (by decide) (b := 25 * j + 6) rfl wf_X0_24 rfl dX0_copyFrom_69 ?_
  refine K_aload_n C 0 rfl rfl dX0_copyFrom_72 ?_
  refine K_getR C kin_X0 rfl (show _ < 292 by omega) (shFl G ad hi (by decide)) 7 (by decide) (b := 25 * i + 6) rfl wf_X0_24 rfl dX0_copyFrom_73 ?_
  refine K_callSNv C (d1 := 1) (As := [.ref (kad (wC G ad) (25 * j + 6)), .ref (kad (wC G ad) (25 * i + 6))]) (rest := []) hy_X11_copyRow (by decide +kernel) (by decide) ⟨Nat.le_refl _, Nat.le_refl _⟩ (fun rr ff hh => by cases hh; exact km_X11_copyRow l _ _ _ _ 48 (show _ < 292 by omega) (show _ < 292 by omega) (shFl G ad hj (by decide)) (shFl G ad hi (by decide)) (by decide)) rfl rfl (Nat.le_of_ble_eq_true rfl) rfl dX0_copyFrom_76 (fun r8 g8 => ?_)
  refine K_aload_n C 1 rfl rfl dX0_copyFrom_79 ?_
  refine K_getR C kin_X0 rfl (show _ < 292 by omega) (shFl G ad hj (by decide)) 8 (by decide) (b := 25 * j + 7) rfl wf_X0_27 rfl dX0_copyFrom_80 ?_
  refine K_aload_n C 0 rfl rfl dX0_copyFrom_83 ?_
  refine K_getR C kin_X0 rfl (show _ < 292 by omega) (shFl G ad hi (by decide)) 8 (by decide) (b := 25 * i + 7) rfl wf_X0_27 rfl dX0_copyFrom_84 ?_
  refine K_callSNv C (d1 := 1) (As := [.ref (kad (wC G ad) (25 * j + 7)), .ref (kad (wC G ad) (25 * i + 7))]) (rest := []) hy_X11_copyRow (by decide +kernel) (by decide) ⟨Nat.le_refl _, Nat.le_refl _⟩ (fun rr ff hh => by cases hh; exact km_X11_copyRow l _ _ _ _ 4 (show _ < 292 by omega) (show _ < 292 by omega) (shFl G ad hj (by decide)) (shFl G ad hi (by decide)) (by decide)) rfl rfl (Nat.le_of_ble_eq_true rfl) rfl dX0_copyFrom_87 (fun r9 g9 => ?_)
  exact K_vret C rfl dX0_copyFrom_90
def ce_X2_copyFrom (f : kMem) (i j : Nat) : Option (Int32 × kMem) := kbind (some (0, kcp f (25 * j + 9) (25 * i + 9))) (fun r1 g1 => kbind (some (0, kcp g1 (25 * j + 10) (25 * i + 10))) (fun r2 g2 => kbind (some (0, kcp g2 (25 * j + 11) (25 * i + 11))) (fun r3 g3 => some (0, g3))))
set_option maxRecDepth 100000 in
set_option maxHeartbeats 4000000 in
theorem ke_X2_copyFrom (G : kG) (ad : Nat → Nat) {i j : Nat} (hi : i < 11) (hj : j < 11) (hij : i ≠ j) (f : kMem) : ∃ fo, ce_X2_copyFrom f i j = some (0, fo) ∧ keqv (wC G ad) fo (kfc f i j 8 12) := by
  refine ⟨_, rfl, ?_⟩
  intro a ha
  by_cases hr : 25 * i + 8 ≤ a ∧ a < 25 * i + 12
  · obtain ⟨c, rfl, hc⟩ : ∃ c, a = 25 * i + c ∧ 8 ≤ c ∧ c < 12 := ⟨a - 25 * i, by omega, by omega, by omega⟩
    rcases (show c = 8 ∨ c = 9 ∨ c = 10 ∨ c = 11 by omega) with rfl | rfl | rfl | rfl
    all_goals (first | rw [shFl G ad hi (by decide)] | rw [Nat.add_zero, shFl0 G ad hi])
    all_goals (refine ⟨fun ty n h q hq => ?_, fun ci fl h q hq => ?_⟩ <;> cases h)
    all_goals (first | (simp [kcp, kfc, kup, upd, kne1 hij, kne2 hij, kne3 hij, kne0 hij, hij, hij.symm] ; done) | (have h12 : q < 12 := k12 hq (by simp)))
    all_goals (rcases (show q = 0 ∨ q = 1 ∨ q = 2 ∨ q = 3 ∨ q = 4 ∨ q = 5 ∨ q = 6 ∨ q = 7 ∨ q = 8 ∨ q = 9 ∨ q = 10 ∨ q = 11 by omega) with rfl | rfl | rfl | rfl | rfl | rfl | rfl | rfl | rfl | rfl | rfl | rfl)
    all_goals (first | (cases hq ; done) | (simp at hq ; done) | (simp [kcp, kfc, kup, upd, kne1 hij, kne2 hij, kne3 hij, kne0 hij, hij, hij.symm] ; done))
  · have q8 : a ≠ 25 * i + 8 := by omega
    have q9 : a ≠ 25 * i + 9 := by omega
    have q10 : a ≠ 25 * i + 10 := by omega
    have q11 : a ≠ 25 * i + 11 := by omega
    refine ⟨fun ty n h q hq => ?_, fun ci fl h q hq => ?_⟩ <;> simp [kcp, kfc, kup, upd, hr, q8, q9, q10, q11]
set_option maxRecDepth 100000 in
set_option maxHeartbeats 4000000 in
theorem km_X2_copyFrom (l : Launch) (G : kG) (ad : Nat → Nat) {i j : Nat} (hi : i < 11) (hj : j < 11) (hij : i ≠ j) (f : kMem) : kMet l (wC G ad) yX2_copyFrom cX2_copyFrom 2 none 2 [.ref (kad (wC G ad) (25 * i + 8)), .ref (kad (wC G ad) (25 * j + 8))] f 0 (kfc f i j 8 12) := by
  obtain ⟨fo, h, he⟩ := ke_X2_copyFrom G ad hi hj hij f
  refine kMet_eqv ?_ he
  refine kMet_of (own := RX2) (lv := [(0, .ref (kad (wC G ad) (25 * i + 8))), (1, .ref (kad (wC G ad) (25 * j + 8)))]) (by decide) rfl (Nat.le_of_ble_eq_true rfl) rfl h ?_
  intro p e R s m args below meth c C
  unfold ce_X2_copyFrom
  refine K_aload_n C 1 rfl rfl dX2_copyFrom_0 ?_
  refine K_getR C kin_X2 rfl (show _ < 292 by omega) (shFl G ad hj (by decide)) 0 (by decide) (b := 25 * j + 9) rfl wf_X2_9 rfl dX2_copyFrom_1 ?_
  refine K_aload_n C 0 rfl rfl dX2_copyFrom_4 ?_
  refine K_getR C kin_X2 rfl (show _ < 292 by omega) (shFl G ad hi (by decide)) 0 (by decide) (b := 25 * i + 9) rfl wf_X2_9 rfl dX2_copyFrom_5 ?_
  refine K_callSNv C (d1 := 1) (As := [.ref (kad (wC G ad) (25 * j + 9)), .ref (kad (wC G ad) (25 * i + 9))]) (rest := []) hy_X11_copyRow (by decide +kernel) (by decide) ⟨Nat.le_refl _, Nat.le_refl _⟩ (fun rr ff hh => by cases hh; exact km_X11_copyRow l _ _ _ _ 3 (show _ < 292 by omega) (show _ < 292 by omega) (shFl G ad hj (by decide)) (shFl G ad hi (by decide)) (by decide)) rfl rfl (Nat.le_of_ble_eq_true rfl) rfl dX2_copyFrom_8 (fun r1 g1 => ?_)
  refine K_aload_n C 1 rfl rfl dX2_copyFrom_11 ?_
  refine K_getR C kin_X2 rfl (show _ < 292 by omega) (shFl G ad hj (by decide)) 1 (by decide) (b := 25 * j + 10) rfl wf_X2_15 rfl dX2_copyFrom_12 ?_
  refine K_aload_n C 0 rfl rfl dX2_copyFrom_15 ?_
  refine K_getR C kin_X2 rfl (show _ < 292 by omega) (shFl G ad hi (by decide)) 1 (by decide) (b := 25 * i + 10) rfl wf_X2_15 rfl dX2_copyFrom_16 ?_
  refine K_callSNv C (d1 := 1) (As := [.ref (kad (wC G ad) (25 * j + 10)), .ref (kad (wC G ad) (25 * i + 10))]) (rest := []) hy_X11_copyRow (by decide +kernel) (by decide) ⟨Nat.le_refl _, Nat.le_refl _⟩ (fun rr ff hh => by cases hh; exact km_X11_copyRow l _ _ _ _ 3 (show _ < 292 by omega) (show _ < 292 by omega) (shFl G ad hj (by decide)) (shFl G ad hi (by decide)) (by decide)) rfl rfl (Nat.le_of_ble_eq_true rfl) rfl dX2_copyFrom_19 (fun r2 g2 => ?_)
  refine K_aload_n C 1 rfl rfl dX2_copyFrom_22 ?_
  refine K_getR C kin_X2 rfl (show _ < 292 by omega) (shFl G ad hj (by decide)) 2 (by decide) (b := 25 * j + 11) rfl wf_X2_18 rfl dX2_copyFrom_23 ?_
  refine K_aload_n C 0 rfl rfl dX2_copyFrom_26 ?_
  refine K_getR C kin_X2 rfl (show _ < 292 by omega) (shFl G ad hi (by decide)) 2 (by decide) (b := 25 * i + 11) rfl wf_X2_18 rfl dX2_copyFrom_27 ?_
  refine K_callSNv C (d1 := 1) (As := [.ref (kad (wC G ad) (25 * j + 11)), .ref (kad (wC G ad) (25 * i + 11))]) (rest := []) hy_X11_copyRow (by decide +kernel) (by decide) ⟨Nat.le_refl _, Nat.le_refl _⟩ (fun rr ff hh => by cases hh; exact km_X11_copyRow l _ _ _ _ 3 (show _ < 292 by omega) (show _ < 292 by omega) (shFl G ad hj (by decide)) (shFl G ad hi (by decide)) (by decide)) rfl rfl (Nat.le_of_ble_eq_true rfl) rfl dX2_copyFrom_30 (fun r3 g3 => ?_)
  exact K_vret C rfl dX2_copyFrom_33
def ce_X9_copyFrom (f : kMem) (i j : Nat) : Option (Int32 × kMem) := kbind (some (0, kcp f (25 * j + 13) (25 * i + 13))) (fun r1 g1 => kbind (some (0, kcp g1 (25 * j + 14) (25 * i + 14))) (fun r2 g2 => kbind (some (0, kcp g2 (25 * j + 15) (25 * i + 15))) (fun r3 g3 => kbind (some (0, kcp g3 (25 * j + 16) (25 * i + 16))) (fun r4 g4 => kbind (some (0, kcp g4 (25 * j + 17) (25 * i + 17))) (fun r5 g5 => some (0, g5))))))
set_option maxRecDepth 100000 in
set_option maxHeartbeats 4000000 in
theorem ke_X9_copyFrom (G : kG) (ad : Nat → Nat) {i j : Nat} (hi : i < 11) (hj : j < 11) (hij : i ≠ j) (f : kMem) : ∃ fo, ce_X9_copyFrom f i j = some (0, fo) ∧ keqv (wC G ad) fo (kfc f i j 12 18) := by
  refine ⟨_, rfl, ?_⟩
  intro a ha
  by_cases hr : 25 * i + 12 ≤ a ∧ a < 25 * i + 18
  · obtain ⟨c, rfl, hc⟩ : ∃ c, a = 25 * i + c ∧ 12 ≤ c ∧ c < 18 := ⟨a - 25 * i, by omega, by omega, by omega⟩
    rcases (show c = 12 ∨ c = 13 ∨ c = 14 ∨ c = 15 ∨ c = 16 ∨ c = 17 by omega) with rfl | rfl | rfl | rfl | rfl | rfl
    all_goals (first | rw [shFl G ad hi (by decide)] | rw [Nat.add_zero, shFl0 G ad hi])
    all_goals (refine ⟨fun ty n h q hq => ?_, fun ci fl h q hq => ?_⟩ <;> cases h)
    all_goals (first | (simp [kcp, kfc, kup, upd, kne1 hij, kne2 hij, kne3 hij, kne0 hij, hij, hij.symm] ; done) | (have h12 : q < 12 := k12 hq (by simp)))
    all_goals (rcases (show q = 0 ∨ q = 1 ∨ q = 2 ∨ q = 3 ∨ q = 4 ∨ q = 5 ∨ q = 6 ∨ q = 7 ∨ q = 8 ∨ q = 9 ∨ q = 10 ∨ q = 11 by omega) with rfl | rfl | rfl | rfl | rfl | rfl | rfl | rfl | rfl | rfl | rfl | rfl)
    all_goals (first | (cases hq ; done) | (simp at hq ; done) | (simp [kcp, kfc, kup, upd, kne1 hij, kne2 hij, kne3 hij, kne0 hij, hij, hij.symm] ; done))
  · have q12 : a ≠ 25 * i + 12 := by omega
    have q13 : a ≠ 25 * i + 13 := by omega
    have q14 : a ≠ 25 * i + 14 := by omega
    have q15 : a ≠ 25 * i + 15 := by omega
    have q16 : a ≠ 25 * i + 16 := by omega
    have q17 : a ≠ 25 * i + 17 := by omega
    refine ⟨fun ty n h q hq => ?_, fun ci fl h q hq => ?_⟩ <;> simp [kcp, kfc, kup, upd, hr, q12, q13, q14, q15, q16, q17]
set_option maxRecDepth 100000 in
set_option maxHeartbeats 4000000 in
theorem km_X9_copyFrom (l : Launch) (G : kG) (ad : Nat → Nat) {i j : Nat} (hi : i < 11) (hj : j < 11) (hij : i ≠ j) (f : kMem) : kMet l (wC G ad) yX9_copyFrom cX9_copyFrom 2 none 2 [.ref (kad (wC G ad) (25 * i + 12)), .ref (kad (wC G ad) (25 * j + 12))] f 0 (kfc f i j 12 18) := by
  obtain ⟨fo, h, he⟩ := ke_X9_copyFrom G ad hi hj hij f
  refine kMet_eqv ?_ he
  refine kMet_of (own := RX9) (lv := [(0, .ref (kad (wC G ad) (25 * i + 12))), (1, .ref (kad (wC G ad) (25 * j + 12)))]) (by decide) rfl (Nat.le_of_ble_eq_true rfl) rfl h ?_
  intro p e R s m args below meth c C
  unfold ce_X9_copyFrom
  refine K_aload_n C 1 rfl rfl dX9_copyFrom_0 ?_
  refine K_getR C kin_X9 rfl (show _ < 292 by omega) (shFl G ad hj (by decide)) 0 (by decide) (b := 25 * j + 13) rfl wf_X9_9 rfl dX9_copyFrom_1 ?_
  refine K_aload_n C 0 rfl rfl dX9_copyFrom_4 ?_
  refine K_getR C kin_X9 rfl (show _ < 292 by omega) (shFl G ad hi (by decide)) 0 (by decide) (b := 25 * i + 13) rfl wf_X9_9 rfl dX9_copyFrom_5 ?_
  refine K_callSNv C (d1 := 1) (As := [.ref (kad (wC G ad) (25 * j + 13)), .ref (kad (wC G ad) (25 * i + 13))]) (rest := []) hy_X11_copyRow (by decide +kernel) (by decide) ⟨Nat.le_refl _, Nat.le_refl _⟩ (fun rr ff hh => by cases hh; exact km_X11_copyRow l _ _ _ _ 48 (show _ < 292 by omega) (show _ < 292 by omega) (shFl G ad hj (by decide)) (shFl G ad hi (by decide)) (by decide)) rfl rfl (Nat.le_of_ble_eq_true rfl) rfl dX9_copyFrom_8 (fun r1 g1 => ?_)
  refine K_aload_n C 1 rfl rfl dX9_copyFrom_11 ?_
  refine K_getR C kin_X9 rfl (show _ < 292 by omega) (shFl G ad hj (by decide)) 1 (by decide) (b := 25 * j + 14) rfl wf_X9_15 rfl dX9_copyFrom_12 ?_
  refine K_aload_n C 0 rfl rfl dX9_copyFrom_15 ?_
  refine K_getR C kin_X9 rfl (show _ < 292 by omega) (shFl G ad hi (by decide)) 1 (by decide) (b := 25 * i + 14) rfl wf_X9_15 rfl dX9_copyFrom_16 ?_
  refine K_callSNv C (d1 := 1) (As := [.ref (kad (wC G ad) (25 * j + 14)), .ref (kad (wC G ad) (25 * i + 14))]) (rest := []) hy_X11_copyRow (by decide +kernel) (by decide) ⟨Nat.le_refl _, Nat.le_refl _⟩ (fun rr ff hh => by cases hh; exact km_X11_copyRow l _ _ _ _ 48 (show _ < 292 by omega) (show _ < 292 by omega) (shFl G ad hj (by decide)) (shFl G ad hi (by decide)) (by decide)) rfl rfl (Nat.le_of_ble_eq_true rfl) rfl dX9_copyFrom_19 (fun r2 g2 => ?_)
  refine K_aload_n C 1 rfl rfl dX9_copyFrom_22 ?_
  refine K_getR C kin_X9 rfl (show _ < 292 by omega) (shFl G ad hj (by decide)) 2 (by decide) (b := 25 * j + 15) rfl wf_X9_18 rfl dX9_copyFrom_23 ?_
  refine K_aload_n C 0 rfl rfl dX9_copyFrom_26 ?_
  refine K_getR C kin_X9 rfl (show _ < 292 by omega) (shFl G ad hi (by decide)) 2 (by decide) (b := 25 * i + 15) rfl wf_X9_18 rfl dX9_copyFrom_27 ?_
  refine K_callSNv C (d1 := 1) (As := [.ref (kad (wC G ad) (25 * j + 15)), .ref (kad (wC G ad) (25 * i + 15))]) (rest := []) hy_X11_copyRow (by decide +kernel) (by decide) ⟨Nat.le_refl _, Nat.le_refl _⟩ (fun rr ff hh => by cases hh; exact km_X11_copyRow l _ _ _ _ 48 (show _ < 292 by omega) (show _ < 292 by omega) (shFl G ad hj (by decide)) (shFl G ad hi (by decide)) (by decide)) rfl rfl (Nat.le_of_ble_eq_true rfl) rfl dX9_copyFrom_30 (fun r3 g3 => ?_)
  refine K_aload_n C 1 rfl rfl dX9_copyFrom_33 ?_
  refine K_getR C kin_X9 rfl (show _ < 292 by omega) (shFl G ad hj (by decide)) 3 (by decide) (b := 25 * j + 16) rfl wf_X9_21 rfl dX9_copyFrom_34 ?_
  refine K_aload_n C 0 rfl rfl dX9_copyFrom_37 ?_
  refine K_getR C kin_X9 rfl (show _ < 292 by omega) (shFl G ad hi (by decide)) 3 (by decide) (b := 25 * i + 16) rfl wf_X9_21 rfl dX9_copyFrom_38 ?_
  refine K_callSNv C (d1 := 1) (As := [.ref (kad (wC G ad) (25 * j + 16)), .ref (kad (wC G ad) (25 * i + 16))]) (rest := []) hy_X11_copyRow (by decide +kernel) (by decide) ⟨Nat.le_refl _, Nat.le_refl _⟩ (fun rr ff hh => by cases hh; exact km_X11_copyRow l _ _ _ _ 8 (show _ < 292 by omega) (show _ < 292 by omega) (shFl G ad hj (by decide)) (shFl G ad hi (by decide)) (by decide)) rfl rfl (Nat.le_of_ble_eq_true rfl) rfl dX9_copyFrom_41 (fun r4 g4 => ?_)
  refine K_aload_n C 1 rfl rfl dX9_copyFrom_44 ?_
  refine K_getR C kin_X9 rfl (show _ < 292 by omega) (shFl G ad hj (by decide)) 4 (by decide) (b := 25 * j + 17) rfl wf_X9_24 rfl dX9_copyFrom_45 ?_
  refine K_aload_n C 0 rfl rfl dX9_copyFrom_48 ?_
  refine K_getR C kin_X9 rfl (show _ < 292 by omega) (shFl G ad hi (by decide)) 4 (by decide) (b := 25 * i + 17) rfl wf_X9_24 rfl dX9_copyFrom_49 ?_
  refine K_callSNv C (d1 := 1) (As := [.ref (kad (wC G ad) (25 * j + 17)), .ref (kad (wC G ad) (25 * i + 17))]) (rest := []) hy_X11_copyRow (by decide +kernel) (by decide) ⟨Nat.le_refl _, Nat.le_refl _⟩ (fun rr ff hh => by cases hh; exact km_X11_copyRow l _ _ _ _ 8 (show _ < 292 by omega) (show _ < 292 by omega) (shFl G ad hj (by decide)) (shFl G ad hi (by decide)) (by decide)) rfl rfl (Nat.le_of_ble_eq_true rfl) rfl dX9_copyFrom_52 (fun r5 g5 => ?_)
  exact K_vret C rfl dX9_copyFrom_55
def ce_X6_copyFrom (f : kMem) (i j : Nat) : Option (Int32 × kMem) := kmem (kup f (25 * i + 18) 0 (f (25 * j + 18) 0)) (fun g1 => kbind (some (0, kcp g1 (25 * j + 19) (25 * i + 19))) (fun r2 g2 => kbind (some (0, kcp g2 (25 * j + 20) (25 * i + 20))) (fun r3 g3 => kbind (some (0, kcp g3 (25 * j + 21) (25 * i + 21))) (fun r4 g4 => kbind (some (0, kcp g4 (25 * j + 22) (25 * i + 22))) (fun r5 g5 => kbind (some (0, kcp g5 (25 * j + 23) (25 * i + 23))) (fun r6 g6 => kbind (some (0, kcp g6 (25 * j + 24) (25 * i + 24))) (fun r7 g7 => some (0, g7))))))))
set_option maxRecDepth 100000 in
set_option maxHeartbeats 4000000 in
theorem ke_X6_copyFrom (G : kG) (ad : Nat → Nat) {i j : Nat} (hi : i < 11) (hj : j < 11) (hij : i ≠ j) (f : kMem) : ∃ fo, ce_X6_copyFrom f i j = some (0, fo) ∧ keqv (wC G ad) fo (kfc f i j 18 25) := by
  refine ⟨_, rfl, ?_⟩
  intro a ha
  by_cases hr : 25 * i + 18 ≤ a ∧ a < 25 * i + 25
  · obtain ⟨c, rfl, hc⟩ : ∃ c, a = 25 * i + c ∧ 18 ≤ c ∧ c < 25 := ⟨a - 25 * i, by omega, by omega, by omega⟩
    rcases (show c = 18 ∨ c = 19 ∨ c = 20 ∨ c = 21 ∨ c = 22 ∨ c = 23 ∨ c = 24 by omega) with rfl | rfl | rfl | rfl | rfl | rfl | rfl
    all_goals (first | rw [shFl G ad hi (by decide)] | rw [Nat.add_zero, shFl0 G ad hi])
    all_goals (refine ⟨fun ty n h q hq => ?_, fun ci fl h q hq => ?_⟩ <;> cases h)
    all_goals (first | (simp [kcp, kfc, kup, upd, kne1 hij, kne2 hij, kne3 hij, kne0 hij, hij, hij.symm] ; done) | (have h12 : q < 12 := k12 hq (by simp)))
    all_goals (rcases (show q = 0 ∨ q = 1 ∨ q = 2 ∨ q = 3 ∨ q = 4 ∨ q = 5 ∨ q = 6 ∨ q = 7 ∨ q = 8 ∨ q = 9 ∨ q = 10 ∨ q = 11 by omega) with rfl | rfl | rfl | rfl | rfl | rfl | rfl | rfl | rfl | rfl | rfl | rfl)
    all_goals (first | (cases hq ; done) | (simp at hq ; done) | (simp [kcp, kfc, kup, upd, kne1 hij, kne2 hij, kne3 hij, kne0 hij, hij, hij.symm] ; done))
  · have q18 : a ≠ 25 * i + 18 := by omega
    have q19 : a ≠ 25 * i + 19 := by omega
    have q20 : a ≠ 25 * i + 20 := by omega
    have q21 : a ≠ 25 * i + 21 := by omega
    have q22 : a ≠ 25 * i + 22 := by omega
    have q23 : a ≠ 25 * i + 23 := by omega
    have q24 : a ≠ 25 * i + 24 := by omega
    refine ⟨fun ty n h q hq => ?_, fun ci fl h q hq => ?_⟩ <;> simp [kcp, kfc, kup, upd, hr, q18, q19, q20, q21, q22, q23, q24]
set_option maxRecDepth 100000 in
set_option maxHeartbeats 4000000 in
theorem km_X6_copyFrom (l : Launch) (G : kG) (ad : Nat → Nat) {i j : Nat} (hi : i < 11) (hj : j < 11) (hij : i ≠ j) (f : kMem) : kMet l (wC G ad) yX6_copyFrom cX6_copyFrom 2 none 2 [.ref (kad (wC G ad) (25 * i + 18)), .ref (kad (wC G ad) (25 * j + 18))] f 0 (kfc f i j 18 25) := by
  obtain ⟨fo, h, he⟩ := ke_X6_copyFrom G ad hi hj hij f
  refine kMet_eqv ?_ he
  refine kMet_of (own := RX6) (lv := [(0, .ref (kad (wC G ad) (25 * i + 18))), (1, .ref (kad (wC G ad) (25 * j + 18)))]) (by decide) rfl (Nat.le_of_ble_eq_true rfl) rfl h ?_
  intro p e R s m args below meth c C
  unfold ce_X6_copyFrom
  refine K_aload_n C 0 rfl rfl dX6_copyFrom_0 ?_
  refine K_aload_n C 1 rfl rfl dX6_copyFrom_1 ?_
  refine K_getI C kin_X6 rfl (show _ < 292 by omega) (shFl G ad hj (by decide)) 0 (by decide) rfl wf_X6_30 rfl dX6_copyFrom_2 ?_
  refine K_putI C kin_X6 rfl (show _ < 292 by omega) (shFl G ad hi (by decide)) 0 (by decide) rfl wf_X6_30 rfl tyX6 tyX6_ok nmX6 (by decide) (ty := .int) (by decide +kernel) rfl rfl dX6_copyFrom_5 (fun g1 => ?_)
  refine K_aload_n C 1 rfl rfl dX6_copyFrom_8 ?_
  refine K_getR C kin_X6 rfl (show _ < 292 by omega) (shFl G ad hj (by decide)) 1 (by decide) (b := 25 * j + 19) rfl wf_X6_9 rfl dX6_copyFrom_9 ?_
  refine K_aload_n C 0 rfl rfl dX6_copyFrom_12 ?_
  refine K_getR C kin_X6 rfl (show _ < 292 by omega) (shFl G ad hi (by decide)) 1 (by decide) (b := 25 * i + 19) rfl wf_X6_9 rfl dX6_copyFrom_13 ?_
  refine K_callSNv C (d1 := 1) (As := [.ref (kad (wC G ad) (25 * j + 19)), .ref (kad (wC G ad) (25 * i + 19))]) (rest := []) hy_X11_copyRow (by decide +kernel) (by decide) ⟨Nat.le_refl _, Nat.le_refl _⟩ (fun rr ff hh => by cases hh; exact km_X11_copyRow l _ _ _ _ 10 (show _ < 292 by omega) (show _ < 292 by omega) (shFl G ad hj (by decide)) (shFl G ad hi (by decide)) (by decide)) rfl rfl (Nat.le_of_ble_eq_true rfl) rfl dX6_copyFrom_16 (fun r2 g2 => ?_)
  refine K_aload_n C 1 rfl rfl dX6_copyFrom_19 ?_
  refine K_getR C kin_X6 rfl (show _ < 292 by omega) (shFl G ad hj (by decide)) 2 (by decide) (b := 25 * j + 20) rfl wf_X6_15 rfl dX6_copyFrom_20 ?_
  refine K_aload_n C 0 rfl rfl dX6_copyFrom_23 ?_
  refine K_getR C kin_X6 rfl (show _ < 292 by omega) (shFl G ad hi (by decide)) 2 (by decide) (b := 25 * i + 20) rfl wf_X6_15 rfl dX6_copyFrom_24 ?_
  refine K_callSNv C (d1 := 1) (As := [.ref (kad (wC G ad) (25 * j + 20)), .ref (kad (wC G ad) (25 * i + 20))]) (rest := []) hy_X11_copyRow (by decide +kernel) (by decide) ⟨Nat.le_refl _, Nat.le_refl _⟩ (fun rr ff hh => by cases hh; exact km_X11_copyRow l _ _ _ _ 10 (show _ < 292 by omega) (show _ < 292 by omega) (shFl G ad hj (by decide)) (shFl G ad hi (by decide)) (by decide)) rfl rfl (Nat.le_of_ble_eq_true rfl) rfl dX6_copyFrom_27 (fun r3 g3 => ?_)
  refine K_aload_n C 1 rfl rfl dX6_copyFrom_30 ?_
  refine K_getR C kin_X6 rfl (show _ < 292 by omega) (shFl G ad hj (by decide)) 3 (by decide) (b := 25 * j + 21) rfl wf_X6_18 rfl dX6_copyFrom_31 ?_
  refine K_aload_n C 0 rfl rfl dX6_copyFrom_34 ?_
  refine K_getR C kin_X6 rfl (show _ < 292 by omega) (shFl G ad hi (by decide)) 3 (by decide) (b := 25 * i + 21) rfl wf_X6_18 rfl dX6_copyFrom_35 ?_
  refine K_callSNv C (d1 := 1) (As := [.ref (kad (wC G ad) (25 * j + 21)), .ref (kad (wC G ad) (25 * i + 21))]) (rest := []) hy_X11_copyRow (by decide +kernel) (by decide) ⟨Nat.le_refl _, Nat.le_refl _⟩ (fun rr ff hh => by cases hh; exact km_X11_copyRow l _ _ _ _ 10 (show _ < 292 by omega) (show _ < 292 by omega) (shFl G ad hj (by decide)) (shFl G ad hi (by decide)) (by decide)) rfl rfl (Nat.le_of_ble_eq_true rfl) rfl dX6_copyFrom_38 (fun r4 g4 => ?_)
  refine K_aload_n C 1 rfl rfl dX6_copyFrom_41 ?_
  refine K_getR C kin_X6 rfl (show _ < 292 by omega) (shFl G ad hj (by decide)) 4 (by decide) (b := 25 * j + 22) rfl wf_X6_21 rfl dX6_copyFrom_42 ?_
  refine K_aload_n C 0 rfl rfl dX6_copyFrom_45 ?_
  refine K_getR C kin_X6 rfl (show _ < 292 by omega) (shFl G ad hi (by decide)) 4 (by decide) (b := 25 * i + 22) rfl wf_X6_21 rfl dX6_copyFrom_46 ?_
  refine K_callSNv C (d1 := 1) (As := [.ref (kad (wC G ad) (25 * j + 22)), .ref (kad (wC G ad) (25 * i + 22))]) (rest := []) hy_X11_copyRow (by decide +kernel) (by decide) ⟨Nat.le_refl _, Nat.le_refl _⟩ (fun rr ff hh => by cases hh; exact km_X11_copyRow l _ _ _ _ 10 (show _ < 292 by omega) (show _ < 292 by omega) (shFl G ad hj (by decide)) (shFl G ad hi (by decide)) (by decide)) rfl rfl (Nat.le_of_ble_eq_true rfl) rfl dX6_copyFrom_49 (fun r5 g5 => ?_)
  refine K_aload_n C 1 rfl rfl dX6_copyFrom_52 ?_
  refine K_getR C kin_X6 rfl (show _ < 292 by omega) (shFl G ad hj (by decide)) 5 (by decide) (b := 25 * j + 23) rfl wf_X6_24 rfl dX6_copyFrom_53 ?_
  refine K_aload_n C 0 rfl rfl dX6_copyFrom_56 ?_
  refine K_getR C kin_X6 rfl (show _ < 292 by omega) (shFl G ad hi (by decide)) 5 (by decide) (b := 25 * i + 23) rfl wf_X6_24 rfl dX6_copyFrom_57 ?_
  refine K_callSNv C (d1 := 1) (As := [.ref (kad (wC G ad) (25 * j + 23)), .ref (kad (wC G ad) (25 * i + 23))]) (rest := []) hy_X11_copyRow (by decide +kernel) (by decide) ⟨Nat.le_refl _, Nat.le_refl _⟩ (fun rr ff hh => by cases hh; exact km_X11_copyRow l _ _ _ _ 10 (show _ < 292 by omega) (show _ < 292 by omega) (shFl G ad hj (by decide)) (shFl G ad hi (by decide)) (by decide)) rfl rfl (Nat.le_of_ble_eq_true rfl) rfl dX6_copyFrom_60 (fun r6 g6 => ?_)
  refine K_aload_n C 1 rfl rfl dX6_copyFrom_63 ?_
  refine K_getR C kin_X6 rfl (show _ < 292 by omega) (shFl G ad hj (by decide)) 6 (by decide) (b := 25 * j + 24) rfl wf_X6_27 rfl dX6_copyFrom_64 ?_
  refine K_aload_n C 0 rfl rfl dX6_copyFrom_67 ?_
  refine K_getR C kin_X6 rfl (show _ < 292 by omega) (shFl G ad hi (by decide)) 6 (by decide) (b := 25 * i + 24) rfl wf_X6_27 rfl dX6_copyFrom_68 ?_
  refine K_callSNv C (d1 := 1) (As := [.ref (kad (wC G ad) (25 * j + 24)), .ref (kad (wC G ad) (25 * i + 24))]) (rest := []) hy_X11_copyRow (by decide +kernel) (by decide) ⟨Nat.le_refl _, Nat.le_refl _⟩ (fun rr ff hh => by cases hh; exact km_X11_copyRow l _ _ _ _ 10 (show _ < 292 by omega) (show _ < 292 by omega) (shFl G ad hj (by decide)) (shFl G ad hi (by decide)) (by decide)) rfl rfl (Nat.le_of_ble_eq_true rfl) rfl dX6_copyFrom_71 (fun r7 g7 => ?_)
  exact K_vret C rfl dX6_copyFrom_74
theorem hy_X0_copyFrom : kYV yX0_copyFrom cX0_copyFrom 2 none 1 := ⟨⟨kgt (List.mem_of_getElem? (i := 413) (by decide +kernel)) rfl, kgt (List.mem_of_getElem? (i := 23) (by decide +kernel)) rfl, by decide +kernel, by decide⟩, kgt (List.mem_of_getElem? (i := 411) (by decide +kernel)) rfl, kgt (List.mem_of_getElem? (i := 412) (by decide +kernel)) rfl⟩
theorem wm_X4_46 : Cond.methodLink RX4 46 yX0_copyFrom ∈ kGT := kgt (List.mem_of_getElem? (i := 410) (by decide +kernel)) rfl
theorem hy_X2_copyFrom : kYV yX2_copyFrom cX2_copyFrom 2 none 1 := ⟨⟨kgt (List.mem_of_getElem? (i := 426) (by decide +kernel)) rfl, kgt (List.mem_of_getElem? (i := 24) (by decide +kernel)) rfl, by decide +kernel, by decide⟩, kgt (List.mem_of_getElem? (i := 424) (by decide +kernel)) rfl, kgt (List.mem_of_getElem? (i := 425) (by decide +kernel)) rfl⟩
theorem wm_X4_50 : Cond.methodLink RX4 50 yX2_copyFrom ∈ kGT := kgt (List.mem_of_getElem? (i := 423) (by decide +kernel)) rfl
theorem hy_X9_copyFrom : kYV yX9_copyFrom cX9_copyFrom 2 none 1 := ⟨⟨kgt (List.mem_of_getElem? (i := 431) (by decide +kernel)) rfl, kgt (List.mem_of_getElem? (i := 25) (by decide +kernel)) rfl, by decide +kernel, by decide⟩, kgt (List.mem_of_getElem? (i := 429) (by decide +kernel)) rfl, kgt (List.mem_of_getElem? (i := 430) (by decide +kernel)) rfl⟩
theorem wm_X4_53 : Cond.methodLink RX4 53 yX9_copyFrom ∈ kGT := kgt (List.mem_of_getElem? (i := 428) (by decide +kernel)) rfl
theorem hy_X6_copyFrom : kYV yX6_copyFrom cX6_copyFrom 2 none 1 := ⟨⟨kgt (List.mem_of_getElem? (i := 436) (by decide +kernel)) rfl, kgt (List.mem_of_getElem? (i := 26) (by decide +kernel)) rfl, by decide +kernel, by decide⟩, kgt (List.mem_of_getElem? (i := 434) (by decide +kernel)) rfl, kgt (List.mem_of_getElem? (i := 435) (by decide +kernel)) rfl⟩
theorem wm_X4_56 : Cond.methodLink RX4 56 yX6_copyFrom ∈ kGT := kgt (List.mem_of_getElem? (i := 433) (by decide +kernel)) rfl
def ce_X4_copyFrom (f : kMem) (i j : Nat) : Option (Int32 × kMem) := kbind (some (0, kfc f i j 1 8)) (fun r1 g1 => kbind (some (0, kfc g1 i j 8 12)) (fun r2 g2 => kbind (some (0, kfc g2 i j 12 18)) (fun r3 g3 => kbind (some (0, kfc g3 i j 18 25)) (fun r4 g4 => kmem (kup g4 (25 * i) 4 (g4 (25 * j) 4)) (fun g5 => kmem (kup g5 (25 * i) 5 (g5 (25 * j) 5)) (fun g6 => kmem (kup g6 (25 * i) 6 (g6 (25 * j) 6)) (fun g7 => kmem (kup g7 (25 * i) 7 (g7 (25 * j) 7)) (fun g8 => kmem (kup g8 (25 * i) 8 (g8 (25 * j) 8)) (fun g9 => kmem (kup g9 (25 * i) 9 (g9 (25 * j) 9)) (fun g10 => kmem (kup g10 (25 * i) 10 (g10 (25 * j) 10)) (fun g11 => kmem (kup g11 (25 * i) 11 (g11 (25 * j) 11)) (fun g12 => some (0, g12)))))))))))))
set_option maxRecDepth 100000 in
set_option maxHeartbeats 4000000 in
theorem ke_X4_copyFrom (G : kG) (ad : Nat → Nat) {i j : Nat} (hi : i < 11) (hj : j < 11) (hij : i ≠ j) (f : kMem) : ∃ fo, ce_X4_copyFrom f i j = some (0, fo) ∧ keqv (wC G ad) fo (kfc f i j 0 25) := by
  refine ⟨_, rfl, ?_⟩
  intro a ha
  by_cases hr : 25 * i + 0 ≤ a ∧ a < 25 * i + 25
  · obtain ⟨c, rfl, hc⟩ : ∃ c, a = 25 * i + c ∧ 0 ≤ c ∧ c < 25 := ⟨a - 25 * i, by omega, by omega, by omega⟩
    rcases (show c = 0 ∨ c = 1 ∨ c = 2 ∨ c = 3 ∨ c = 4 ∨ c = 5 ∨ c = 6 ∨ c = 7 ∨ c = 8 ∨ c = 9 ∨ c = 10 ∨ c = 11 ∨ c = 12 ∨ c = 13 ∨ c = 14 ∨ c = 15 ∨ c = 16 ∨ c = 17 ∨ c = 18 ∨ c = 19 ∨ c = 20 ∨ c = 21 ∨ c = 22 ∨ c = 23 ∨ c = 24 by omega) with rfl | rfl | rfl | rfl | rfl | rfl | rfl | rfl | rfl | rfl | rfl | rfl | rfl | rfl | rfl | rfl | rfl | rfl | rfl | rfl | rfl | rfl | rfl | rfl | rfl
    all_goals (first | rw [shFl G ad hi (by decide)] | rw [Nat.add_zero, shFl0 G ad hi])
    all_goals (refine ⟨fun ty n h q hq => ?_, fun ci fl h q hq => ?_⟩ <;> cases h)
    all_goals (first | (simp [kcp, kfc_j hij, kfc_j0 hij, kfc_in, kfc_out, kfc_in0, kfc_out0, kfc_far, kup, upd, kne1 hij, kne2 hij, kne3 hij, kne0 hij, hij, hij.symm] ; done) | (have h12 : q < 12 := k12 hq (by simp)))
    all_goals (rcases (show q = 0 ∨ q = 1 ∨ q = 2 ∨ q = 3 ∨ q = 4 ∨ q = 5 ∨ q = 6 ∨ q = 7 ∨ q = 8 ∨ q = 9 ∨ q = 10 ∨ q = 11 by omega) with rfl | rfl | rfl | rfl | rfl | rfl | rfl | rfl | rfl | rfl | rfl | rfl)
    all_goals (first | (cases hq ; done) | (simp at hq ; done) | (simp [kcp, kfc_j hij, kfc_j0 hij, kfc_in, kfc_out, kfc_in0, kfc_out0, kfc_far, kup, upd, kne1 hij, kne2 hij, kne3 hij, kne0 hij, hij, hij.symm] ; done))
  · have q0 : a ≠ 25 * i + 0 := by omega
    have q1 : a ≠ 25 * i + 1 := by omega
    have q2 : a ≠ 25 * i + 2 := by omega
    have q3 : a ≠ 25 * i + 3 := by omega
    have q4 : a ≠ 25 * i + 4 := by omega
    have q5 : a ≠ 25 * i + 5 := by omega
    have q6 : a ≠ 25 * i + 6 := by omega
    have q7 : a ≠ 25 * i + 7 := by omega
    have q8 : a ≠ 25 * i + 8 := by omega
    have q9 : a ≠ 25 * i + 9 := by omega
    have q10 : a ≠ 25 * i + 10 := by omega
    have q11 : a ≠ 25 * i + 11 := by omega
    have q12 : a ≠ 25 * i + 12 := by omega
    have q13 : a ≠ 25 * i + 13 := by omega
    have q14 : a ≠ 25 * i + 14 := by omega
    have q15 : a ≠ 25 * i + 15 := by omega
    have q16 : a ≠ 25 * i + 16 := by omega
    have q17 : a ≠ 25 * i + 17 := by omega
    have q18 : a ≠ 25 * i + 18 := by omega
    have q19 : a ≠ 25 * i + 19 := by omega
    have q20 : a ≠ 25 * i + 20 := by omega
    have q21 : a ≠ 25 * i + 21 := by omega
    have q22 : a ≠ 25 * i + 22 := by omega
    have q23 : a ≠ 25 * i + 23 := by omega
    have q24 : a ≠ 25 * i + 24 := by omega
    have q99 : a ≠ 25 * i := by omega
    have q98 : ¬ (25 * i ≤ a ∧ a < 25 * i + 25) := by omega
    refine ⟨fun ty n h q hq => ?_, fun ci fl h q hq => ?_⟩ <;> simp [kcp, kfc_j hij, kfc_j0 hij, kfc_in, kfc_out, kfc_in0, kfc_out0, kfc_far, kup, upd, hr, q0, q1, q2, q3, q4, q5, q6, q7, q8, q9, q10, q11, q12, q13, q14, q15, q16, q17, q18, q19, q20, q21, q22, q23, q24, q99, q98]
set_option maxRecDepth 100000 in
set_option maxHeartbeats 4000000 in
theorem km_X4_copyFrom (l : Launch) (G : kG) (ad : Nat → Nat) {i j : Nat} (hi : i < 11) (hj : j < 11) (hij : i ≠ j) (f : kMem) : kMet l (wC G ad) yX4_copyFrom cX4_copyFrom 2 none 3 [.ref (kad (wC G ad) (25 * i)), .ref (kad (wC G ad) (25 * j))] f 0 (kfc f i j 0 25) := by
  obtain ⟨fo, h, he⟩ := ke_X4_copyFrom G ad hi hj hij f
  refine kMet_eqv ?_ he
  refine kMet_of (own := RX4) (lv := [(0, .ref (kad (wC G ad) (25 * i))), (1, .ref (kad (wC G ad) (25 * j)))]) (by decide) rfl (Nat.le_of_ble_eq_true rfl) rfl h ?_
  intro p e R s m args below meth c C
  unfold ce_X4_copyFrom
  refine K_aload_n C 0 rfl rfl dX4_copyFrom_0 ?_
  refine K_getR C kin_X4 rfl (show _ < 292 by omega) (shFl0 G ad hi) 0 (by decide) (b := 25 * i + 1) rfl wf_X4_12 rfl dX4_copyFrom_1 ?_
  refine K_aload_n C 1 rfl rfl dX4_copyFrom_4 ?_
  refine K_getR C kin_X4 rfl (show _ < 292 by omega) (shFl0 G ad hj) 0 (by decide) (b := 25 * j + 1) rfl wf_X4_12 rfl dX4_copyFrom_5 ?_
  refine K_callVv C (d1 := 2) (As := [.ref (kad (wC G ad) (25 * j + 1))]) (rest := []) (show _ < 292 by omega) (shFl G ad hi (by decide)) rfl hy_X0_copyFrom wm_X4_46 (by decide) ⟨Nat.le_refl _, Nat.le_refl _⟩ (fun rr ff hh => by cases hh; exact km_X0_copyFrom l G ad hi hj hij _) rfl rfl (Nat.le_of_ble_eq_true rfl) rfl dX4_copyFrom_8 (fun r1 g1 => ?_)
  refine K_aload_n C 0 rfl rfl dX4_copyFrom_11 ?_
  refine K_getR C kin_X4 rfl (show _ < 292 by omega) (shFl0 G ad hi) 1 (by decide) (b := 25 * i + 8) rfl wf_X4_21 rfl dX4_copyFrom_12 ?_
  refine K_aload_n C 1 rfl rfl dX4_copyFrom_15 ?_
  refine K_getR C kin_X4 rfl (show _ < 292 by omega) (shFl0 G ad hj) 1 (by decide) (b := 25 * j + 8) rfl wf_X4_21 rfl dX4_copyFrom_16 ?_
  refine K_callVv C (d1 := 2) (As := [.ref (kad (wC G ad) (25 * j + 8))]) (rest := []) (show _ < 292 by omega) (shFl G ad hi (by decide)) rfl hy_X2_copyFrom wm_X4_50 (by decide) ⟨Nat.le_refl _, Nat.le_refl _⟩ (fun rr ff hh => by cases hh; exact km_X2_copyFrom l G ad hi hj hij _) rfl rfl (Nat.le_of_ble_eq_true rfl) rfl dX4_copyFrom_19 (fun r2 g2 => ?_)
  refine K_aload_n C 0 rfl rfl dX4_copyFrom_22 ?_
  refine K_getR C kin_X4 rfl (show _ < 292 by omega) (shFl0 G ad hi) 2 (by decide) (b := 25 * i + 12) rfl wf_X4_28 rfl dX4_copyFrom_23 ?_
  refine K_aload_n C 1 rfl rfl dX4_copyFrom_26 ?_
  refine K_getR C kin_X4 rfl (show _ < 292 by omega) (shFl0 G ad hj) 2 (by decide) (b := 25 * j + 12) rfl wf_X4_28 rfl dX4_copyFrom_27 ?_
  refine K_callVv C (d1 := 2) (As := [.ref (kad (wC G ad) (25 * j + 12))]) (rest := []) (show _ < 292 by omega) (shFl G ad hi (by decide)) rfl hy_X9_copyFrom wm_X4_53 (by decide) ⟨Nat.le_refl _, Nat.le_refl _⟩ (fun rr ff hh => by cases hh; exact km_X9_copyFrom l G ad hi hj hij _) rfl rfl (Nat.le_of_ble_eq_true rfl) rfl dX4_copyFrom_30 (fun r3 g3 => ?_)
  refine K_aload_n C 0 rfl rfl dX4_copyFrom_33 ?_
  refine K_getR C kin_X4 rfl (show _ < 292 by omega) (shFl0 G ad hi) 3 (by decide) (b := 25 * i + 18) rfl wf_X4_35 rfl dX4_copyFrom_34 ?_
  refine K_aload_n C 1 rfl rfl dX4_copyFrom_37 ?_
  refine K_getR C kin_X4 rfl (show _ < 292 by omega) (shFl0 G ad hj) 3 (by decide) (b := 25 * j + 18) rfl wf_X4_35 rfl dX4_copyFrom_38 ?_
  refine K_callVv C (d1 := 2) (As := [.ref (kad (wC G ad) (25 * j + 18))]) (rest := []) (show _ < 292 by omega) (shFl G ad hi (by decide)) rfl hy_X6_copyFrom wm_X4_56 (by decide) ⟨Nat.le_refl _, Nat.le_refl _⟩ (fun rr ff hh => by cases hh; exact km_X6_copyFrom l G ad hi hj hij _) rfl rfl (Nat.le_of_ble_eq_true rfl) rfl dX4_copyFrom_41 (fun r4 g4 => ?_)
  refine K_aload_n C 0 rfl rfl dX4_copyFrom_44 ?_
  refine K_aload_n C 1 rfl rfl dX4_copyFrom_45 ?_
  refine K_getI C kin_X4 rfl (show _ < 292 by omega) (shFl0 G ad hj) 4 (by decide) rfl wf_X4_59 rfl dX4_copyFrom_46 ?_
  refine K_putI C kin_X4 rfl (show _ < 292 by omega) (shFl0 G ad hi) 4 (by decide) rfl wf_X4_59 rfl tyX4 tyX4_ok nmX4 (by decide) (ty := .int) (by decide +kernel) rfl rfl dX4_copyFrom_49 (fun g5 => ?_)
  refine K_aload_n C 0 rfl rfl dX4_copyFrom_52 ?_
  refine K_aload_n C 1 rfl rfl dX4_copyFrom_53 ?_
  refine K_getI C kin_X4 rfl (show _ < 292 by omega) (shFl0 G ad hj) 5 (by decide) rfl wf_X4_62 rfl dX4_copyFrom_54 ?_
  refine K_putI C kin_X4 rfl (show _ < 292 by omega) (shFl0 G ad hi) 5 (by decide) rfl wf_X4_62 rfl tyX4 tyX4_ok nmX4 (by decide) (ty := .int) (by decide +kernel) rfl rfl dX4_copyFrom_57 (fun g6 => ?_)
  refine K_aload_n C 0 rfl rfl dX4_copyFrom_60 ?_
  refine K_aload_n C 1 rfl rfl dX4_copyFrom_61 ?_
  refine K_getI C kin_X4 rfl (show _ < 292 by omega) (shFl0 G ad hj) 6 (by decide) rfl wf_X4_65 rfl dX4_copyFrom_62 ?_
  refine K_putI C kin_X4 rfl (show _ < 292 by omega) (shFl0 G ad hi) 6 (by decide) rfl wf_X4_65 rfl tyX4 tyX4_ok nmX4 (by decide) (ty := .int) (by decide +kernel) rfl rfl dX4_copyFrom_65 (fun g7 => ?_)
  refine K_aload_n C 0 rfl rfl dX4_copyFrom_68 ?_
  refine K_aload_n C 1 rfl rfl dX4_copyFrom_69 ?_
  refine K_getI C kin_X4 rfl (show _ < 292 by omega) (shFl0 G ad hj) 7 (by decide) rfl wf_X4_39 rfl dX4_copyFrom_70 ?_
  refine K_putI C kin_X4 rfl (show _ < 292 by omega) (shFl0 G ad hi) 7 (by decide) rfl wf_X4_39 rfl tyX4 tyX4_ok nmX4 (by decide) (ty := .int) (by decide +kernel) rfl rfl dX4_copyFrom_73 (fun g8 => ?_)
  refine K_aload_n C 0 rfl rfl dX4_copyFrom_76 ?_
  refine K_aload_n C 1 rfl rfl dX4_copyFrom_77 ?_
  refine K_getI C kin_X4 rfl (show _ < 292 by omega) (shFl0 G ad hj) 8 (by decide) rfl wf_X4_43 rfl dX4_copyFrom_78 ?_
  refine K_putI C kin_X4 rfl (show _ < 292 by omega) (shFl0 G ad hi) 8 (by decide) rfl wf_X4_43 rfl tyX4 tyX4_ok nmX4 (by decide) (ty := .int) (by decide +kernel) rfl rfl dX4_copyFrom_81 (fun g9 => ?_)
  refine K_aload_n C 0 rfl rfl dX4_copyFrom_84 ?_
  refine K_aload_n C 1 rfl rfl dX4_copyFrom_85 ?_
  refine K_getI C kin_X4 rfl (show _ < 292 by omega) (shFl0 G ad hj) 9 (by decide) rfl wf_X4_68 rfl dX4_copyFrom_86 ?_
  refine K_putI C kin_X4 rfl (show _ < 292 by omega) (shFl0 G ad hi) 9 (by decide) rfl wf_X4_68 rfl tyX4 tyX4_ok nmX4 (by decide) (ty := .int) (by decide +kernel) rfl rfl dX4_copyFrom_89 (fun g10 => ?_)
  refine K_aload_n C 0 rfl rfl dX4_copyFrom_92 ?_
  refine K_aload_n C 1 rfl rfl dX4_copyFrom_93 ?_
  refine K_getI C kin_X4 rfl (show _ < 292 by omega) (shFl0 G ad hj) 10 (by decide) rfl wf_X4_71 rfl dX4_copyFrom_94 ?_
  refine K_putI C kin_X4 rfl (show _ < 292 by omega) (shFl0 G ad hi) 10 (by decide) rfl wf_X4_71 rfl tyX4 tyX4_ok nmX4 (by decide) (ty := .int) (by decide +kernel) rfl rfl dX4_copyFrom_97 (fun g11 => ?_)
  refine K_aload_n C 0 rfl rfl dX4_copyFrom_100 ?_
  refine K_aload_n C 1 rfl rfl dX4_copyFrom_101 ?_
  refine K_getI C kin_X4 rfl (show _ < 292 by omega) (shFl0 G ad hj) 11 (by decide) rfl wf_X4_74 rfl dX4_copyFrom_102 ?_
  refine K_putI C kin_X4 rfl (show _ < 292 by omega) (shFl0 G ad hi) 11 (by decide) rfl wf_X4_74 rfl tyX4 tyX4_ok nmX4 (by decide) (ty := .int) (by decide +kernel) rfl rfl dX4_copyFrom_105 (fun g12 => ?_)
  exact K_vret C rfl dX4_copyFrom_108
