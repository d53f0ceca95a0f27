/-! the second object before its save: changes whose core is known exactly -/
def Pv (m : Nat) (f : kMem) (L : List kMem) : Prop := Vb m f ∧ f 280 2 = 0 ∧ HC f L
def Xc (m : Nat) (f : kMem) (L : List kMem) (core : kMem → Option (Int32 × kMem)) (Q : Option (Int32 × kMem)) : Prop := ∀ P : Int32 → kMem → Prop, (∀ f1 : kMem, (∀ q, q < 25 → f1 q = f q) → (∀ a, 275 ≤ a → f1 a = f a) → ∃ r f2, core f1 = some (r, f2) ∧ P r f2) → ∃ r f2 f1, P r f2 ∧ ((r = -1 ∧ Q = some (-1001, f1) ∧ f1 = f2 ∧ Pv m f1 L ∧ ∀ q, q < 25 → f1 q = f q) ∨ (¬ r < 0 ∧ Q = some (r, f1) ∧ Pv m f1 (psh L f) ∧ ∀ a, a ≠ 275 → f1 a = f2 a))
theorem kex {M : Nat} {E : kMem → kMem → Prop} {cC cM : kMem → Option (Int32 × kMem)} (hs : kSim M E cC cM) {N : Nat} {f g : kMem} (hN : N < 512) (hR : kR N f g) (hE : ∀ f1 g1 : kMem, (∀ a, 275 ≤ a → f1 a = f a) → (∀ a, a ≠ 0 → a ≠ 2 → g1 a = g a) → E f1 g1) {P : Int32 → kMem → Prop} (hP : ∀ f1 : kMem, (∀ q, q < 25 → f1 q = f q) → (∀ a, 275 ≤ a → f1 a = f a) → ∃ r f2, cC f1 = some (r, f2) ∧ P r f2) : ∃ z r f2, kbind (cf_X5_begin f) (fun _ g2 => kbind (cC g2) (fun r3 g4 => kxbind (cx_X11_settled g4 r3) (fun r5 g6 => some (0, r5, g6)))) = some z ∧ P r f2 ∧ ((r = -1 ∧ z = (4, 0, f2)) ∨ (¬ r < 0 ∧ z.1 = 0 ∧ z.2.1 = r ∧ ∀ a, a ≠ 275 → z.2.2 a = f2 a)) := by
  obtain ⟨hNw, hRe, hH, hS, hT⟩ := hR
  obtain ⟨⟨r1, f1⟩, e1, ⟨r2, g1⟩, e2, b1, b2, -, -, bf, bg⟩ := p_begin hNw hRe hH hS hT
  obtain ⟨⟨r3, f2⟩, e3, ⟨r4, g2⟩, e4, d1, d2, d3, d4, d5⟩ := hs (N * 59778) f1 g1 (by omega) b1 b2 (hE f1 g1 bf bg)
  obtain ⟨o, c, ho, hc, h1, h2, -⟩ := hH
  dsimp only at d1 d2 d3 d4 d5
  have e0 := c_begin ho hc h1 h2
  have ef : f1 = kfc f ((o + c) % 9 + 2) 0 0 25 := congrArg Prod.snd (Option.some.inj (e1.symm.trans e0))
  subst ef
  have h9 : (o + c) % 9 < 9 := Nat.mod_lt _ (by decide)
  obtain ⟨r, f3, p1, p2⟩ := hP _ (fun q hq => kfc_fl h9 hq) bf
  obtain ⟨rfl, rfl⟩ := Prod.mk.inj (Option.some.inj (e3.symm.trans p1))
  rw [e1, kbind_s, e3, kbind_s]
  rcases d5 with ⟨q1, -, q2⟩ | ⟨q1, -, -⟩
  · subst q1
    exact ⟨(4, 0, f2), -1, f2, rfl, p2, Or.inl ⟨rfl, rfl⟩⟩
  · have k1 : f2 275 1 = nI o := by rw [d1 275 (by decide) (by decide) (by decide) (by decide), kfc_hi h9 (by decide)]; exact h1
    have k2 : f2 275 2 = nI c := by rw [d1 275 (by decide) (by decide) (by decide) (by decide), kfc_hi h9 (by decide)]; exact h2
    refine ⟨(0, r3, if c = 8 then kup f2 275 1 (nI ((o + 1) % 9)) else kup f2 275 2 (nI (c + 1))), r3, f2, ?_, p2, Or.inr ⟨q1, rfl, rfl, ?_⟩⟩
    · have e : cx_X11_settled f2 r3 = some (0, r3, if c = 8 then kup f2 275 1 (nI ((o + 1) % 9)) else kup f2 275 2 (nI (c + 1))) := by
        unfold cx_X11_settled keq
        rw [if_neg (fun e => q1 (by rw [e]; decide)), c_keep ho hc k1 k2]
        rfl
      rw [e]
      rfl
    · intro a ha
      show (if c = 8 then kup f2 275 1 (nI ((o + 1) % 9)) else kup f2 275 2 (nI (c + 1))) a = f2 a
      split
      · exact kup_ne _ _ _ ha
      · exact kup_ne _ _ _ ha
theorem xc_of {m : Nat} {f : kMem} {L : List kMem} (h : Pv (m + 1) f L) {core : kMem → Option (Int32 × kMem)} {X : Option kXr} {z : kXr} (e : X = some z) (hC : Chg f z) (hV : Vb m z.2.2) (hk : ∀ P : Int32 → kMem → Prop, (∀ f1 : kMem, (∀ q, q < 25 → f1 q = f q) → (∀ a, 275 ≤ a → f1 a = f a) → ∃ r f2, core f1 = some (r, f2) ∧ P r f2) → ∃ z r f2, X = some z ∧ P r f2 ∧ ((r = -1 ∧ z = (4, 0, f2)) ∨ (¬ r < 0 ∧ z.1 = 0 ∧ z.2.1 = r ∧ ∀ a, a ≠ 275 → z.2.2 a = f2 a))) : Xc m f L core (wvx [4] X) := by
  intro P hP
  obtain ⟨z', r, f2, e', p2, hz⟩ := hk P hP
  obtain rfl := Option.some.inj (e'.symm.trans e)
  obtain ⟨h1, h2, h3⟩ := h
  obtain ⟨c1, c2, c3, c4⟩ := hC
  have t0 : z'.2.2 280 2 = 0 := c3.elim (fun e => e.trans h2) id
  refine ⟨r, f2, z'.2.2, p2, ?_⟩
  rw [e]
  unfold wvx
  dsimp only
  rcases hz with ⟨q1, q2⟩ | ⟨q1, q2, q3, q4⟩
  · subst q2
    rcases c4 with ⟨d1, d2, d3⟩ | ⟨d1, -⟩
    · refine Or.inl ⟨q1, ?_, rfl, ⟨hV, t0, d3 L h3⟩, d2⟩
      rw [if_neg (show ¬ (4 : Nat) = 0 by decide), if_pos (show (4 : Nat) ∈ [4] by decide)]
      exact congrArg (fun q => some (q, f2)) (show (-1001 - Int32.ofNat (List.idxOf 4 [4]) : Int32) = -1001 by decide)
    · exact absurd d1 (show ¬ (4 : Nat) = 0 by decide)
  · rcases c4 with ⟨d1, -⟩ | ⟨d1, d2, d3⟩
    · exact absurd q2 d1
    · refine Or.inr ⟨q1, ?_, ⟨hV, t0, d3 L h3⟩, q4⟩
      rw [if_pos q2, q3]
theorem xc_colour {m : Nat} {f : kMem} {L : List kMem} (h : Pv (m + 1) f L) (x1 : Int32) : Xc m f L (fun f1 => cf_X0_addColour f1 x1) (lf_colour f x1) := by
  obtain ⟨N, g, hN, hR⟩ := id h.1
  obtain ⟨z, e, hz, hC⟩ := cg_colour (by omega) hR x1
  obtain ⟨z', bb, g', z1, -, -, -, -, z6⟩ := kp_colour N f g x1 (by omega) hR
  obtain rfl := Option.some.inj (z1.symm.trans e)
  exact xc_of h e hC ⟨N + 1, g', by omega, z6⟩ (fun P hP => kex (s_colour x1) (by omega) hR (fun _ _ _ _ => trivial) hP)
theorem xc_part {m : Nat} {f : kMem} {L : List kMem} (h : Pv (m + 1) f L) (x1 : Int32) : Xc m f L (fun f1 => cf_X0_addPart f1 x1) (lf_part f x1) := by
  obtain ⟨N, g, hN, hR⟩ := id h.1
  obtain ⟨z, e, hz, hC⟩ := cg_part (by omega) hR x1
  obtain ⟨z', bb, g', z1, -, -, -, -, z6⟩ := kp_part N f g x1 (by omega) hR
  obtain rfl := Option.some.inj (z1.symm.trans e)
  exact xc_of h e hC ⟨N + 1, g', by omega, z6⟩ (fun P hP => kex (s_part x1) (by omega) hR (fun _ _ _ _ => trivial) hP)
theorem xc_mount {m : Nat} {f : kMem} {L : List kMem} (h : Pv (m + 1) f L) (x1 : Int32) : Xc m f L (fun f1 => cf_X4_mountFamily f1 x1) (lf_mount f x1) := by
  obtain ⟨N, g, hN, hR⟩ := id h.1
  obtain ⟨z, e, hz, hC⟩ := cg_mount (by omega) hR x1
  obtain ⟨z', bb, g', z1, -, -, -, -, z6⟩ := kp_mount N f g x1 (by omega) hR
  obtain rfl := Option.some.inj (z1.symm.trans e)
  exact xc_of h e hC ⟨N + 1, g', by omega, z6⟩ (fun P hP => kex (s_mount x1) (by omega) hR (fun _ _ _ _ => trivial) hP)
theorem xc_load {m : Nat} {f : kMem} {L : List kMem} (h : Pv (m + 1) f L) (x1 x2 x3 : Int32) : Xc m f L (fun f1 => cf_X4_loadDryer f1 x1 x2 x3) (lf_load f x1 x2 x3) := by
  obtain ⟨N, g, hN, hR⟩ := id h.1
  obtain ⟨z, e, hz, hC⟩ := cg_load (by omega) hR x1 x2 x3
  obtain ⟨z', bb, g', z1, -, -, -, -, z6⟩ := kp_load N f g x1 x2 x3 (by omega) hR
  obtain rfl := Option.some.inj (z1.symm.trans e)
  exact xc_of h e hC ⟨N + 1, g', by omega, z6⟩ (fun P hP => kex (s_load x1 x2 x3) (by omega) hR (fun _ _ _ _ => trivial) hP)
theorem xc_empty {m : Nat} {f : kMem} {L : List kMem} (h : Pv (m + 1) f L) (x1 : Int32) : Xc m f L (fun f1 => cf_X2_takeAll f1 x1) (lf_empty f x1) := by
  obtain ⟨N, g, hN, hR⟩ := id h.1
  obtain ⟨z, e, hz, hC⟩ := cg_empty (by omega) hR x1
  obtain ⟨z', bb, g', z1, -, -, -, -, z6⟩ := kp_empty N f g x1 (by omega) hR
  obtain rfl := Option.some.inj (z1.symm.trans e)
  exact xc_of h e hC ⟨N + 1, g', by omega, z6⟩ (fun P hP => kex (s_empty x1) (by omega) hR (fun _ _ _ _ => trivial) hP)
theorem xc_pause {m : Nat} {f : kMem} {L : List kMem} (h : Pv (m + 1) f L) (x1 : Int32) : Xc m f L (fun f1 => cf_X4_waitMinutes f1 x1) (lf_pause f x1) := by
  obtain ⟨N, g, hN, hR⟩ := id h.1
  obtain ⟨z, e, hz, hC⟩ := cg_pause (by omega) hR x1
  obtain ⟨z', bb, g', z1, -, -, -, -, z6⟩ := kp_pause N f g x1 (by omega) hR
  obtain rfl := Option.some.inj (z1.symm.trans e)
  exact xc_of h e hC ⟨N + 1, g', by omega, z6⟩ (fun P hP => kex (s_pause x1) (by omega) hR (fun _ _ _ _ => trivial) hP)
theorem xc_run {m : Nat} {f : kMem} {L : List kMem} (h : Pv (m + 1) f L) (x1 x2 : Int32) : Xc m f L (fun f1 => cf_X4_runShots f1 x1 x2) (lf_run f x1 x2) := by
  obtain ⟨N, g, hN, hR⟩ := id h.1
  obtain ⟨z, e, hz, hC⟩ := cg_run (by omega) hR x1 x2
  obtain ⟨z', bb, g', z1, -, -, -, -, z6⟩ := kp_run N f g x1 x2 (by omega) hR
  obtain rfl := Option.some.inj (z1.symm.trans e)
  exact xc_of h e hC ⟨N + 1, g', by omega, z6⟩ (fun P hP => kex (s_run x1 x2) (by omega) hR (fun _ _ _ _ => trivial) hP)
theorem xc_order {m : Nat} {f : kMem} {L : List kMem} (h : Pv (m + 1) f L) (x1 x2 x3 x4 : Int32) : Xc m f L (fun f1 => cf_X4_addOrder f1 x1 x2 x3 x4) (lf_order f x1 x2 x3 x4) := by
  obtain ⟨N, g, hN, hR⟩ := id h.1
  obtain ⟨z, e, hz, hC⟩ := cg_order (by omega) hR x1 x2 x3 x4
  obtain ⟨z', bb, g', z1, -, -, -, -, z6⟩ := kp_order N f g x1 x2 x3 x4 (by omega) hR
  obtain rfl := Option.some.inj (z1.symm.trans e)
  exact xc_of h e hC ⟨N + 1, g', by omega, z6⟩ (fun P hP => kex (s_order x1 x2 x3 x4) (by omega) hR (fun _ _ _ _ => trivial) hP)
theorem xc_callOff {m : Nat} {f : kMem} {L : List kMem} (h : Pv (m + 1) f L) (x1 : Int32) : Xc m f L (fun f1 => cf_X6_close f1 x1) (lf_callOff f x1) := by
  obtain ⟨N, g, hN, hR⟩ := id h.1
  obtain ⟨z, e, hz, hC⟩ := cg_callOff (by omega) hR x1
  obtain ⟨z', bb, g', z1, -, -, -, -, z6⟩ := kp_callOff N f g x1 (by omega) hR
  obtain rfl := Option.some.inj (z1.symm.trans e)
  exact xc_of h e hC ⟨N + 1, g', by omega, z6⟩ (fun P hP => kex (s_callOff x1) (by omega) hR (fun _ _ _ _ => trivial) hP)
theorem xc_set {m : Nat} {f : kMem} {L : List kMem} (h : Pv (m + 1) f L) (x1 x2 : Int32) : Xc m f L (fun f1 => cf_X0_changeSetting f1 x1 x2) (lf_set f x1 x2) := by
  obtain ⟨N, g, hN, hR⟩ := id h.1
  obtain ⟨z, e, hz, hC⟩ := cg_set (by omega) hR x1 x2
  obtain ⟨z', bb, g', z1, -, -, -, -, z6⟩ := kp_set N f g x1 x2 (by omega) hR
  obtain rfl := Option.some.inj (z1.symm.trans e)
  exact xc_of h e hC ⟨N + 1, g', by omega, z6⟩ (fun P hP => kex (s_set x1 x2) (by omega) hR (fun _ _ _ _ => trivial) hP)
theorem is_rfC {f : kMem} {a d : Int32} (h1 : f 277 2 = 1) (h2 : f 278 0 = a) (h3 : f 279 0 = d) : lf_is f 0 a d = some (1, f) := by
  have e0 : lf_reason f 0 0 = some (a, f) := by
    unfold lf_reason cx_X11_reason cf_X11_isWithin
    rw [h1, kle_t (by decide), klt_f (by decide), klt_f (by decide), kbind_s, keq_f (by decide), keq_t rfl, kchk_t (by decide)]
    show some (f 278 0, f) = _
    rw [h2]
  have e1 : lf_reason f 0 1 = some (d, f) := by
    unfold lf_reason cx_X11_reason cf_X11_isWithin
    rw [h1, kle_t (by decide), klt_f (by decide), klt_f (by decide), kbind_s, keq_f (by decide), keq_f (by decide), kchk_t (by decide)]
    show some (f 279 0, f) = _
    rw [h3]
  unfold lf_is
  rw [e0, kbind_s, keq_t rfl, e1, kbind_s, keq_t rfl]
theorem xc_no {m : Nat} {f F : kMem} {L : List kMem} {core : kMem → Option (Int32 × kMem)} {Q : Option (Int32 × kMem)} (h : Xc m f L core Q) (hF : ∀ q, q < 25 → f q = F q) {a d : Int32} (hc : ∀ f1 : kMem, (∀ q, q < 25 → f1 q = F q) → core f1 = some (-1, rfC f1 a d)) : ∃ f1, Q = some (-1001, f1) ∧ Pv m f1 L ∧ (∀ q, q < 25 → f1 q = F q) ∧ lf_is f1 0 a d = some (1, f1) ∧ f1 277 2 = 1 := by
  obtain ⟨r, f2, f1, p, hz⟩ := h (fun r f2 => r = -1 ∧ f2 277 2 = 1 ∧ f2 278 0 = a ∧ f2 279 0 = d) (fun f1 q1 q2 => ⟨-1, _, hc f1 (fun q hq => (q1 q hq).trans (hF q hq)), rfl, rfl, rfl, rfl⟩)
  obtain ⟨p0, p1, p2, p3⟩ := p
  rcases hz with ⟨z1, z2, z3, z4, z5⟩ | ⟨z1, -⟩
  · subst z3
    exact ⟨f1, z2, z4, fun q hq => (z5 q hq).trans (hF q hq), is_rfC p1 p2 p3, p1⟩
  · exact absurd (show r < 0 by rw [p0]; decide) z1
theorem xc_yes {m : Nat} {f : kMem} {L : List kMem} {core : kMem → Option (Int32 × kMem)} {Q : Option (Int32 × kMem)} (h : Xc m f L core Q) {P : Int32 → kMem → Prop} (hc : ∀ f1 : kMem, (∀ q, q < 25 → f1 q = f q) → (∀ a, 275 ≤ a → f1 a = f a) → ∃ r f2, core f1 = some (r, f2) ∧ r ≠ -1 ∧ P r f2) : ∃ r f1 f2, Q = some (r, f1) ∧ ¬ r < 0 ∧ Pv m f1 (psh L f) ∧ P r f2 ∧ ∀ a, a ≠ 275 → f1 a = f2 a := by
  obtain ⟨r, f2, f1, ⟨p0, p⟩, hz⟩ := h (fun r f2 => r ≠ -1 ∧ P r f2) hc
  rcases hz with ⟨z1, -⟩ | ⟨z1, z2, z3, z4⟩
  · exact absurd z1 p0
  · exact ⟨r, f1, f2, z2, z1, z3, p, z4⟩
