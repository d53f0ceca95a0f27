/-! a program is carried out -/
theorem c_numOf {f : kMem} {m j p : Nat} (h : f 285 2 = nI m) (hm : m ≤ 27) (hj : j < m) (hp : p ≤ 2) : cf_X7_numberOf f (nI j) (nI p) = some (f 287 (3 * j + p), f) := by
  unfold cf_X7_numberOf
  rw [h, c_in1 ((inb_rl (by omega)).mpr ⟨j, rfl, hj⟩), kbind_s, keq10, show nI j * 3 + nI p = nI (3 * j + p) by rw [show (3 : Int32) = nI 3 from rfl, nI_mul, nI_add, Nat.mul_comm], kchk_t (nI_kin (by omega) (by decide)), nI_clamp (by omega)]
theorem c_kindOf {f : kMem} {m j : Nat} (h : f 285 2 = nI m) (hm : m ≤ 27) (hj : j < m) : cf_X7_kindOf f (nI j) = some (f 286 j, f) := by
  unfold cf_X7_kindOf
  rw [h, c_in1 ((inb_rl (by omega)).mpr ⟨j, rfl, hj⟩), kbind_s, keq10, kchk_t (nI_kin (by omega) (by decide)), nI_clamp (by omega)]
theorem sim_wrap {M B : Nat} {f g : kMem} {X Y : Option (Int32 × kMem)} (h : kO X (fun z => kO Y (fun y => Fr1 f z.2 ∧ Fr2 g y.2 ∧ Reas z.2 y.2 ∧ Now (B + M) z.2 y.2 ∧ ((z.1 = -1 ∧ y.1 = 0 ∧ Rs2 f z.2) ∨ (¬ z.1 < 0 ∧ y.1 = 1 ∧ y.2 0 13 = z.1))))) (hM : M ≤ 2214) : kO (kbind X (fun r g2 => some (r, g2))) (fun z => kO (kbind Y (fun r g2 => kchk (kbool r) (some (r, g2)))) (fun y => Fr1 f z.2 ∧ Fr2 g y.2 ∧ Reas z.2 y.2 ∧ Now (B + 2214) z.2 y.2 ∧ ((z.1 = -1 ∧ y.1 = 0 ∧ Rs2 f z.2) ∨ (¬ z.1 < 0 ∧ y.1 = 1 ∧ y.2 0 13 = z.1)))) := by
  obtain ⟨⟨r, f1⟩, e1, ⟨r2, g1⟩, e2, h1, h2, h3, h4, h5⟩ := h
  dsimp only at h1 h2 h3 h4 h5
  refine kO_E (z := (r, f1)) (by rw [e1]; rfl) (kO_E (z := (r2, g1)) ?_ ⟨h1, h2, h3, ⟨h4.1, Inv_mono h4.2.1 (by omega), h4.2.2⟩, h5⟩)
  rw [e2, kbind_s]
  rcases h5 with ⟨-, h, -⟩ | ⟨-, h, -⟩
  · rw [h]
    rfl
  · rw [h]
    rfl
theorem kchs : kch 0 = 109 ∧ kch 1 = 114 ∧ kch 2 = 119 ∧ kch 3 = 108 := by decide
set_option maxRecDepth 20000 in
theorem s_cmd {m j : Nat} (hm : m ≤ 27) (hj : j < m) : kSim 2214 (fun f g => f 285 2 = nI m ∧ Cmd f g j) (fun f => cf_X11_commandCarriedOut f (nI j)) (fun g => cf_X12_does g (nI (4 * j))) := by
  intro B f g hB hN hR hE
  dsimp only
  obtain ⟨h2, kd, k1, k2, k3, k4, k5, k6⟩ := hE
  have n0 : cf_X7_numberOf f (nI j) 0 = _ := c_numOf (p := 0) h2 hm hj (by omega)
  have n1 : cf_X7_numberOf f (nI j) 1 = _ := c_numOf (p := 1) h2 hm hj (by omega)
  have n2 : cf_X7_numberOf f (nI j) 2 = _ := c_numOf (p := 2) h2 hm hj (by omega)
  have K : ∀ i, i < 400 → kin (nI i) 400 = true := fun i hi => nI_kin hi (by decide)
  have Lc : ∀ i, i < 400 → (nI i).toNatClampNeg = i := fun i hi => nI_clamp (by omega)
  have p2 : nI (4 * j) + 2 = nI (4 * j + 2) := nI_add (4 * j) 2
  have p3 : nI (4 * j) + 3 = nI (4 * j + 3) := nI_add (4 * j) 3
  obtain ⟨h0, h1, h2', h3⟩ := kchs
  unfold cf_X11_commandCarriedOut cf_X12_does
  rw [n0, kbind_s, n1, kbind_s, c_kindOf h2 hm hj, kbind_s, k2, kchk_t (K _ (by omega)), Lc (4 * j) (by omega), k3, nI_1, p2, p3, kchk_t (K (4 * j + 1) (by omega)), kchk_t (K (4 * j + 1) (by omega)), kchk_t (K (4 * j + 1) (by omega)), kchk_t (K (4 * j + 1) (by omega)), Lc (4 * j + 1) (by omega), Lc (4 * j + 2) (by omega), Lc (4 * j + 3) (by omega), Nat.add_zero, k4]
  rcases (show kd = 0 ∨ kd = 1 ∨ kd = 2 ∨ kd = 3 by omega) with rfl | rfl | rfl | rfl
  · rw [h0, keq_t rfl, keq_t (show nI 0 = 0 from rfl)]
    exact sim_wrap (s_mount _ B f g hB hN hR trivial) (by omega)
  · rw [h1, keq_f (show ¬ nI 1 = 0 by decide), keq_t (show nI 1 = 1 from rfl), keq_f (show ¬ (114 : Int32) = 109 by decide), keq_t rfl, kchk_t (K (4 * j + 2) (by omega)), k5 (Or.inl rfl)]
    exact sim_wrap (s_run _ _ B f g hB hN hR trivial) (by omega)
  · rw [h2', keq_f (show ¬ nI 2 = 0 by decide), keq_f (show ¬ nI 2 = 1 by decide), keq_t (show nI 2 = 2 from rfl), keq_f (show ¬ (119 : Int32) = 109 by decide), keq_f (show ¬ (119 : Int32) = 114 by decide), keq_t rfl]
    exact sim_wrap (s_pause _ B f g hB hN hR trivial) (by omega)
  · rw [h3, keq_f (by decide), keq_f (by decide), keq_f (by decide), keq_f (by decide), keq_f (by decide), keq_f (by decide), n2, kbind_s, kchk_t (K (4 * j + 2) (by omega)), kchk_t (K (4 * j + 3) (by omega)), k5 (Or.inr rfl), k6 rfl]
    exact sim_wrap (s_load _ _ _ B f g hB hN hR trivial) (by omega)
theorem Cmd_Fr {f f1 g g1 : kMem} {m : Nat} (h : Cmds f g m) (hf : Fr1 f f1) (hg : Fr2 g g1) : Cmds f1 g1 m := fun j hj => Cmd_fr (h j hj) (by rw [hf 286 (by decide) (by decide) (by decide) (by decide)]) (fun k _ => by rw [hf 287 (by decide) (by decide) (by decide) (by decide)]) (fun k _ => by rw [hg.1 8 (by decide) (by decide) (by decide) (by decide)])
set_option maxRecDepth 20000 in
theorem lp_exec {m : Nat} (hm : m ≤ 27) {Y66 : kMem → Int32 → Option kXr} {Y103 : kMem → Option kXr} {Y117 Y207 : kMem → Int32 → Option (Int32 × kMem)} : ∀ k j u u' B (f g : kMem), j + k = m → k < u → k < u' → B + k * 2214 ≤ 40000000 → Now B f g → Reas f g → f 285 2 = nI m → Cmds f g m → (∃ f1 g1, cl_X11_program_46 Y66 Y103 u f (nI j) = Y103 f1 ∧ cl_X12_program_99 Y117 Y207 u' g (nI m) (nI j) = Y207 g1 (nI m) ∧ Fr1 f f1 ∧ Fr2 g g1 ∧ Reas f1 g1 ∧ Now (B + k * 2214) f1 g1) ∨ ∃ t f1 g1, t < m ∧ cl_X11_program_46 Y66 Y103 u f (nI j) = Y66 f1 (nI t) ∧ cl_X12_program_99 Y117 Y207 u' g (nI m) (nI j) = Y117 g1 (nI t) ∧ Fr1 f f1 ∧ Fr2 g g1 ∧ Reas f1 g1 ∧ (f1 277 2 = 1 ∨ f1 277 2 = 2) ∧ kZ (g1 1)
  | 0, j, u + 1, u' + 1, B, f, g, h1, h2, h3, hB, hN, hR, hc, hC => by
    obtain rfl : j = m := by omega
    refine Or.inl ⟨f, g, ?_, ?_, Fr1_rf, Fr2_rf, hR, by rw [Nat.zero_mul]; exact hN⟩
    · rw [cl_X11_program_46.eq_2, hc, kle_t (Int32.le_refl _)]
    · rw [cl_X12_program_99.eq_2, kle_t (Int32.le_refl _)]
  | k + 1, j, u + 1, u' + 1, B, f, g, h1, h2, h3, hB, hN, hR, hc, hC => by
    have one : nI j + Int32.ofInt 1 = nI (j + 1) := nI_1 j
    have hle : ¬ nI m ≤ nI j := fun q => by have := (nI_le_iff (by omega) (by omega)).mp q; omega
    obtain ⟨⟨r, f1⟩, e1, ⟨r2, g1⟩, e2, d1, d2, d3, d4, d5⟩ := s_cmd hm (show j < m by omega) B f g (by omega) hN hR ⟨hc, hC j (by omega)⟩
    dsimp only at d1 d2 d3 d4 d5 e1 e2
    have eC : cl_X11_program_46 Y66 Y103 (u + 1) f (nI j) = keq r (-1) (Y66 f1 (nI j)) (cl_X11_program_46 Y66 Y103 u f1 (nI (j + 1))) := by
      rw [cl_X11_program_46.eq_2, hc, kle_f hle, e1, kbind_s, one, klet_s]
    have eM : cl_X12_program_99 Y117 Y207 (u' + 1) g (nI m) (nI j) = keq r2 0 (Y117 g1 (nI j)) (cl_X12_program_99 Y117 Y207 u' g1 (nI m) (nI (j + 1))) := by
      rw [cl_X12_program_99.eq_2, kle_f hle, a4, e2, kbind_s, one, klet_s]
    rw [eC, eM]
    rcases d5 with ⟨q1, q2, q3⟩ | ⟨q1, q2, -⟩
    · exact Or.inr ⟨j, f1, g1, by omega, keq_t q1, keq_t q2, d1, d2, d3, q3.1, d4.2.2⟩
    · rw [keq_f (show ¬ r = -1 from fun e => q1 (by rw [e]; decide)), q2, keq10]
      rcases lp_exec hm (Y66 := Y66) (Y103 := Y103) (Y117 := Y117) (Y207 := Y207) k (j + 1) u u' (B + 2214) f1 g1 (by omega) (by omega) (by omega) (by omega) d4 d3 (by rw [d1 285 (by decide) (by decide) (by decide) (by decide)]; exact hc) (Cmd_Fr hC d1 d2) with ⟨f2, g2, w1, w2, w3, w4, w5, w6⟩ | ⟨t, f2, g2, w0, w1, w2, w3, w4, w5, w6, w7⟩
      · exact Or.inl ⟨f2, g2, w1, w2, Fr1_tr d1 w3, Fr2_tr d2 w4, w5, by rw [show B + (k + 1) * 2214 = B + 2214 + k * 2214 by omega]; exact w6⟩
      · exact Or.inr ⟨t, f2, g2, w0, w1, w2, Fr1_tr d1 w3, Fr2_tr d2 w4, w5, w6, w7⟩
/-! the reason 13 ahead of the others -/
theorem lp_127 {Y : kMem → Int32 → Option (Int32 × kMem)} {x : Int32} : ∀ k u (g : kMem), k ≤ 2 → k < u → ∃ g1, cl_X12_program_127 Y u g x (nI k) = Y g1 x ∧ (∀ a, a ≠ 6 → a ≠ 7 → g1 a = g a) ∧ (∀ i, i < k → g1 6 (i + 1) = g 6 i ∧ g1 7 (i + 1) = g 7 i) ∧ ∀ i, k < i → g1 6 i = g 6 i ∧ g1 7 i = g 7 i
  | 0, u + 1, g, h1, h2 => by
    refine ⟨g, ?_, fun _ _ _ => rfl, fun i hi => by omega, fun _ _ => ⟨rfl, rfl⟩⟩
    rw [cl_X12_program_127.eq_2, kle_t (by decide)]
  | k + 1, u + 1, g, h1, h2 => by
    have m1 : nI (k + 1) + Int32.ofInt (-1) = nI k := by rw [ofm1, ← Int32.sub_eq_add_neg, nI_pred]
    obtain ⟨g1, e1, e2, e3, e4⟩ := lp_127 (Y := Y) (x := x) k u (kup (kup g 6 (k + 1) (g 6 k)) 7 (k + 1) (g 7 k)) (by omega) (by omega)
    refine ⟨g1, ?_, fun a a6 a7 => by rw [e2 a a6 a7, kup_ne _ _ _ a7, kup_ne _ _ _ a6], fun i hi => ?_, fun i hi => ?_⟩
    · rw [cl_X12_program_127.eq_2, kle_f (fun q => by have := (nI_le_iff (b := 0) (by omega) (by omega)).mp q; omega), nI_pred, m1, kchk_t (nI_kin (i := k) (by omega) (by decide)), kchk_t (nI_kin (i := k + 1) (by omega) (by decide)), nI_clamp (n := k) (by omega), nI_clamp (n := k + 1) (by omega), kmem_s, kchk_t (nI_kin (i := k) (by omega) (by decide)), kchk_t (nI_kin (i := k + 1) (by omega) (by decide)), kmem_s, klet_s]
      exact e1
    · by_cases hik : i = k
      · rw [hik, (e4 (k + 1) (by omega)).1, (e4 (k + 1) (by omega)).2, kup_ne _ _ _ (by decide), kup_at, kup_at]
        exact ⟨rfl, rfl⟩
      · rw [(e3 i (by omega)).1, (e3 i (by omega)).2, kup_ne _ _ _ (by decide), kup_nk (by omega), kup_nk (by omega)]
        exact ⟨rfl, rfl⟩
    · rw [(e4 i (by omega)).1, (e4 i (by omega)).2, kup_ne _ _ _ (by decide), kup_nk (by omega), kup_nk (by omega)]
      exact ⟨rfl, rfl⟩
theorem lp_21 {Y : kMem → Int32 → Int32 → Option (Int32 × kMem)} {x y : Int32} : ∀ k u (f : kMem), k ≤ 2 → k < u → ∃ f1, cl_X8_putAhead_21 Y u f x y (nI k) = Y f1 x y ∧ (∀ a, a ≠ 278 → a ≠ 279 → f1 a = f a) ∧ (∀ i, i < k → f1 278 (i + 1) = f 278 i ∧ f1 279 (i + 1) = f 279 i) ∧ ∀ i, k < i → f1 278 i = f 278 i ∧ f1 279 i = f 279 i
  | 0, u + 1, f, h1, h2 => by
    refine ⟨f, ?_, fun _ _ _ => rfl, fun i hi => by omega, fun _ _ => ⟨rfl, rfl⟩⟩
    rw [cl_X8_putAhead_21.eq_2, kle_t (by decide)]
  | k + 1, u + 1, f, h1, h2 => by
    have m1 : nI (k + 1) + Int32.ofInt (-1) = nI k := by rw [ofm1, ← Int32.sub_eq_add_neg, nI_pred]
    obtain ⟨f1, e1, e2, e3, e4⟩ := lp_21 (Y := Y) (x := x) (y := y) k u (kup (kup f 278 (k + 1) (f 278 k)) 279 (k + 1) (f 279 k)) (by omega) (by omega)
    refine ⟨f1, ?_, fun a a6 a7 => by rw [e2 a a6 a7, kup_ne _ _ _ a7, kup_ne _ _ _ a6], fun i hi => ?_, fun i hi => ?_⟩
    · rw [cl_X8_putAhead_21.eq_2, kle_f (fun q => by have := (nI_le_iff (b := 0) (by omega) (by omega)).mp q; omega), nI_pred, m1, kchk_t (nI_kin (i := k) (by omega) (by decide)), kchk_t (nI_kin (i := k + 1) (by omega) (by decide)), nI_clamp (n := k) (by omega), nI_clamp (n := k + 1) (by omega), kmem_s, kchk_t (nI_kin (i := k) (by omega) (by decide)), kchk_t (nI_kin (i := k + 1) (by omega) (by decide)), kmem_s, klet_s]
      exact e1
    · by_cases hik : i = k
      · rw [hik, (e4 (k + 1) (by omega)).1, (e4 (k + 1) (by omega)).2, kup_ne _ _ _ (by decide), kup_at, kup_at]
        exact ⟨rfl, rfl⟩
      · rw [(e3 i (by omega)).1, (e3 i (by omega)).2, kup_ne _ _ _ (by decide), kup_nk (by omega), kup_nk (by omega)]
        exact ⟨rfl, rfl⟩
    · rw [(e4 i (by omega)).1, (e4 i (by omega)).2, kup_ne _ _ _ (by decide), kup_nk (by omega), kup_nk (by omega)]
      exact ⟨rfl, rfl⟩
theorem c_ahead {f : kMem} {r : Nat} {x y : Int32} (h : f 277 2 = nI r) (h1 : 1 ≤ r) (h2 : r ≤ 2) : ∃ f1, cf_X8_putAhead f x y = some (0, f1) ∧ (∀ a, a ≠ 277 → a ≠ 278 → a ≠ 279 → f1 a = f a) ∧ f1 277 2 = nI (r + 1) ∧ f1 278 0 = x ∧ f1 279 0 = y ∧ ∀ i, i < r → f1 278 (i + 1) = f 278 i ∧ f1 279 (i + 1) = f 279 i := by
  have e : kmin (f 277 2 + 1) 3 = nI (r + 1) := by
    rw [h, nI_1, show (3 : Int32) = nI 3 from rfl, kmin_nI (by omega) (by omega), show min (r + 1) 3 = r + 1 by omega]
  obtain ⟨f1, e1, e2, e3, e4⟩ := lp_21 (Y := fun g8 x1_6 x2_7 => kmem (kup g8 278 0 x1_6) (fun g9 => kmem (kup g9 279 0 x2_7) (fun g10 => some (0, g10)))) (x := x) (y := y) r 100 (kup f 277 2 (nI (r + 1))) h2 (by omega)
  refine ⟨kup (kup f1 278 0 x) 279 0 y, ?_, fun a a7 a8 a9 => by rw [kup_ne _ _ _ a9, kup_ne _ _ _ a8, e2 a a8 a9, kup_ne _ _ _ a7], ?_, by rw [kup_ne _ _ _ (by decide), kup_at], kup_at, fun i hi => ?_⟩
  · unfold cf_X8_putAhead
    rw [e, kmem_s, kup_at, nI_pred, klet_s, e1, kmem_s, kmem_s]
  · rw [kup_ne _ _ _ (by decide), kup_ne _ _ _ (by decide), e2 277 (by decide) (by decide), kup_at]
  · rw [kup_ne _ _ _ (by decide), kup_nk (by omega), kup_nk (by omega), kup_ne _ _ _ (by decide), (e3 i hi).1, (e3 i hi).2]
    exact ⟨rfl, rfl⟩
set_option maxRecDepth 20000 in
theorem p_refuse {N o c t : Nat} {f g : kMem} (hP : Pend (N * 59778) f g o c) (hR : Reas f g) (hR2 : f 277 2 = 1 ∨ f 277 2 = 2) (hZ : kZ (g 1)) : ∃ f1 g1, kbind (cf_X8_putAhead f 13 (nI t)) (fun r12 g13 => kbind (cf_X5_rollBack g13) (fun r14 g15 => some ((4, 0, g15) : kXr))) = some (4, 0, f1) ∧ kbind (cf_X12_comesBack g) (fun r22 g23 => klet (g23 0 10) (fun x4_24 => (cl_X12_program_127 (fun g29 x3_28 => kmem (kup g29 0 10 ((g29 0 10) + 1)) (fun g30 => kmem (kup g30 6 0 13) (fun g31 => kmem (kup g31 7 0 x3_28) (fun g32 => kbind (cf_X12_raises g32 2) (fun r33 g34 => some (r33, g34)))))) 100 g23 (nI t) x4_24))) = some (0, g1) ∧ g1 0 18 = 2 ∧ kR (N + 1) f1 g1 := by
  obtain ⟨hH, ⟨p1, p2⟩, hS, hT⟩ := id hP
  obtain ⟨ho, hc, h1, h2, h3, h4⟩ := id hH
  have h9 : (o + c) % 9 < 9 := Nat.mod_lt _ (by decide)
  obtain ⟨r, hr1, hr2, hr3, hr4⟩ := id hR
  have hr : 1 ≤ r ∧ r ≤ 2 := by
    rcases hR2 with h | h
    · have := nI_inj (b := 1) (by omega) (by omega) (hr2.symm.trans h)
      omega
    · have := nI_inj (b := 2) (by omega) (by omega) (hr2.symm.trans h)
      omega
  obtain ⟨fa, a1, a2, a3, a4', a5, a6⟩ := c_ahead (x := 13) (y := nI t) hr2 hr.1 hr.2
  obtain ⟨⟨rb, gb⟩, b1, -, b2, b3⟩ := m_comes hZ
  dsimp only at b2 b3
  obtain ⟨gc, c1, c2, c3, c4⟩ := lp_127 (Y := fun g29 x3_28 => kmem (kup g29 0 10 ((g29 0 10) + 1)) (fun g30 => kmem (kup g30 6 0 13) (fun g31 => kmem (kup g31 7 0 x3_28) (fun g32 => kbind (cf_X12_raises g32 2) (fun r33 g34 => some (r33, g34)))))) (x := nI t) r 100 gb hr.2 (by omega)
  have gc10 : gc 0 10 = nI r := by rw [c2 0 (by decide) (by decide), b2 0 (by decide)]; exact hr3
  have k0 : ∀ q, q < 25 → kfc fa 0 ((o + c) % 9 + 2) 0 25 q = rm f ((o + c) % 9) q := fun q hq => by
    unfold kfc
    rw [if_pos ⟨by omega, by omega⟩, show 25 * ((o + c) % 9 + 2) + (q - 25 * 0) = 25 * ((o + c) % 9 + 2) + q by omega, a2 _ (by omega) (by omega) (by omega)]
    rfl
  have k2 : ∀ a, 25 ≤ a → kfc fa 0 ((o + c) % 9 + 2) 0 25 a = fa a := fun a ha => by
    unfold kfc
    rw [if_neg (by omega)]
  have k3 : ∀ a, 25 ≤ a → a ≠ 277 → a ≠ 278 → a ≠ 279 → kfc fa 0 ((o + c) % 9 + 2) 0 25 a = f a := fun a ha a7 a8 a9 => by rw [k2 a ha, a2 a a7 a8 a9]
  have G : ∀ a, a ≠ 0 → a ≠ 1 → a ≠ 6 → a ≠ 7 → kup (kup (kup (kup gc 0 10 (nI (r + 1))) 6 0 13) 7 0 (nI t)) 0 18 2 a = g a := fun a a0 a1 a6 a7 => by rw [kup_ne _ _ _ a0, kup_ne _ _ _ a7, kup_ne _ _ _ a6, kup_ne _ _ _ a0, c2 a a6 a7, b2 a a1]
  have G0 : ∀ k, k ≠ 10 → k ≠ 18 → kup (kup (kup (kup gc 0 10 (nI (r + 1))) 6 0 13) 7 0 (nI t)) 0 18 2 0 k = g 0 k := fun k k10 k18 => by rw [kup_nk k18, kup_ne _ _ _ (by decide), kup_ne _ _ _ (by decide), kup_nk k10, c2 0 (by decide) (by decide), b2 0 (by decide)]
  have G1 : kup (kup (kup (kup gc 0 10 (nI (r + 1))) 6 0 13) 7 0 (nI t)) 0 18 2 1 = cut (g 2) := by rw [kup_ne _ _ _ (by decide), kup_ne _ _ _ (by decide), kup_ne _ _ _ (by decide), kup_ne _ _ _ (by decide), c2 1 (by decide) (by decide), b3]
  refine ⟨kfc fa 0 ((o + c) % 9 + 2) 0 25, kup (kup (kup (kup gc 0 10 (nI (r + 1))) 6 0 13) 7 0 (nI t)) 0 18 2, ?_, ?_, kup_at, kR_mono _ _ _ ⟨⟨?_, ?_, ?_⟩, ⟨r + 1, by omega, ?_, ?_, fun i hi => ?_⟩, ⟨o, c, HistC_fr hH (fun a x y => k3 a (by omega) (by omega) (by omega) (by omega)) (k3 275 (by decide) (by decide) (by decide) (by decide)) (G0 3 (by decide) (by decide)) (G 3 (by decide) (by decide) (by decide) (by decide))⟩, Snap_fr hS (fun a x y => k3 a x (by omega) (by omega) (by omega)) (congrFun (k3 291 (by decide) (by decide) (by decide) (by decide)) 8) (G0 5 (by decide) (by decide)) (G 4 (by decide) (by decide) (by decide) (by decide)), Txt_fr hT (k3 280 (by decide) (by decide) (by decide) (by decide)) (k3 281 (by decide) (by decide) (by decide) (by decide)) (G0 7 (by decide) (by decide)) (G0 9 (by decide) (by decide)) (G 5 (by decide) (by decide) (by decide) (by decide))⟩⟩
  · rw [a1, kbind_s]
    unfold cf_X5_rollBack
    rw [c_room (f := fa) ho hc (by rw [a2 275 (by decide) (by decide) (by decide)]; exact h1) (by rw [a2 275 (by decide) (by decide) (by decide)]; exact h2), kbind_s, kchk_t (nI_kin h9 (by decide)), kchk_t (nI_kin h9 (by decide)), nI_clamp (by omega), kbind_s, kbind_s]
  · rw [b1, kbind_s, b2 0 (by decide), hr3, klet_s, c1, gc10, nI_1, kmem_s, kmem_s, kmem_s]
    rfl
  · rw [G1]
    exact FRel_cells (fun q hq => k0 q hq) p1
  · rw [G1]
    exact p2
  · rw [G1]
    exact kZ_cut
  · rw [k2 277 (by decide)]
    exact a3
  · rw [kup_nk (by decide), kup_ne _ _ _ (by decide), kup_ne _ _ _ (by decide), kup_at]
  · rw [k2 278 (by decide), k2 279 (by decide)]
    cases i with
    | zero =>
      rw [a4', a5, kup_ne _ _ _ (by decide), kup_ne _ _ _ (by decide), kup_at, kup_ne _ _ _ (by decide), kup_at]
      exact ⟨rfl, rfl⟩
    | succ i =>
      obtain ⟨w1, w2⟩ := a6 i (by omega)
      obtain ⟨x1, x2⟩ := c3 i (by omega)
      obtain ⟨y1, y2⟩ := hr4 i (by omega)
      rw [w1, w2, y1, y2, kup_ne _ _ _ (by decide), kup_ne _ _ _ (by decide), kup_nk (by omega), kup_ne _ _ _ (by decide), x1, kup_ne _ _ _ (by decide), kup_nk (by omega), kup_ne _ _ _ (by decide), kup_ne _ _ _ (by decide), x2, b2 6 (by decide), b2 7 (by decide)]
      exact ⟨rfl, rfl⟩
set_option maxRecDepth 20000 in
theorem kp_program : kP_program kR := by
  intro N f g hN hR
  have h5 : kR5 (N * 59778) f g := hR
  obtain ⟨n, t1, t2, t3, t4, t5⟩ := hR.2.2.2.2
  obtain ⟨⟨r0, ga⟩, e0, -, ta, t0, tc⟩ := m_tries (g := g)
  dsimp only at ta t0 tc
  unfold cx_X11_program cf_X12_program
  rw [e0, kbind_s, kmem_s]
  have gb0 : ∀ k, k ≠ 8 → k ≠ 18 → kup ga 0 8 0 0 k = g 0 k := fun k h8 h18 => by rw [kup_nk h8, t0, upd_ne h18]
  have gba : ∀ a, a ≠ 0 → a ≠ 2 → kup ga 0 8 0 a = g a := fun a h0 h2 => by rw [kup_ne _ _ _ h0, ta a h0 h2]
  obtain ⟨r, f1, gc, i1, m, l1, r1, r2, hF, hG, r3, r4, r6, r5⟩ := tx_program (f := f) (g := kup ga 0 8 0) (n := n) t2 kup_at (by rw [gb0 7 (by decide) (by decide)]; exact t3) t1 (fun j hj => by rw [gba 5 (by decide) (by decide)]; exact t4 j hj)
  rw [r1, kbind_s, r2]
  unfold cf_X10_clear cj_X12_program_63
  rw [kmem_s, kbind_s, show nI m + Int32.ofInt 1 = nI (m + 1) from nI_1 m, klet_s, kmem_s]
  have gca : ∀ a, a ≠ 0 → a ≠ 2 → a ≠ 8 → gc a = g a := fun a h0 h2 h8 => by rw [hG.1 a h0 h8, gba a h0 h2]
  have gc0 : ∀ k, k ≠ 18 → k ≠ 8 → gc 0 k = g 0 k := fun k h18 h8 => by rw [hG.2 k h8, gb0 k h8 h18]
  have gc2 : gc 2 = ga 2 := by rw [hG.1 2 (by decide) (by decide), kup_ne _ _ _ (by decide)]
  have gc18 : gc 0 18 = 0 := by rw [hG.2 18 (by decide), kup_nk (by decide), t0, upd_eq]
  have at0 : ∀ x, f1 280 3 = x → kR5 (N * 59778) (kup f1 280 2 0) (kup (kup gc 0 7 0) 0 9 x) := fun x hx => tx_at h5 (fun a a1 a2 => by rw [kup_ne _ _ _ a1, hF.1 a a1 a2]) (fun a a0 a2 a8 => by rw [kup_ne _ _ _ a0, kup_ne _ _ _ a0, gca a a0 a2 a8]) (fun k k18 k8 k7 k9 => by rw [kup_nk k9, kup_nk k7, gc0 k k18 k8]) kup_at (by rw [kup_nk (by decide), kup_at]) (by rw [kup_nk (by decide), kup_at]; exact hx)
  unfold cj_X12_program_84
  rcases (show r = 0 ∨ r = 1 by omega) with rfl | rfl
  · rw [keq_t (show nI 0 = 0 from rfl), keq_t (show nI 0 = 0 from rfl), show kup gc 0 7 0 0 8 = nI i1 from r4, kmem_s, keq_t (show nI 0 = 0 from rfl)]
    exact kOk_mk (n := 2) (f1 := kup f1 280 2 0) (g1 := kup (kup (kup gc 0 7 0) 0 9 (nI i1)) 0 18 1) rfl rfl (Or.inr (by decide)) kup_at (fun h => absurd h (by decide)) (kR5_up (kR5_thr (at0 _ (by rw [r3, if_neg (by omega)]))))
  rw [keq_f (show ¬ nI 1 = 0 by decide), keq_f (show ¬ nI 1 = 0 by decide), kmem_s, keq_f (show ¬ nI 1 = 0 by decide)]
  obtain ⟨q1, q2⟩ := r5 rfl
  obtain ⟨hNw, hRe, hH, hS, hT⟩ := at0 (-1) (by rw [r3, if_pos rfl])
  obtain ⟨fc, e1, b1, b2, ⟨o, c, bP⟩, bf⟩ := p_begin2 hNw hRe hH hS hT (by rw [kup_ne _ _ _ (by decide), kup_ne _ _ _ (by decide), kup_ne _ _ _ (by decide), kup_ne _ _ _ (by decide), gc2, tc, gca 1 (by decide) (by decide) (by decide)])
  have h18 : kup (kup gc 0 7 0) 0 9 (-1) 0 18 = 0 := by
    rw [kup_nk (by decide), kup_nk (by decide)]
    exact gc18
  have q : ∀ a, 282 ≤ a → fc a = f1 a := fun a ha => by rw [bf a (by omega), kup_ne _ _ _ (by omega)]
  have hC : Cmds fc (kup (kup gc 0 7 0) 0 9 (-1)) (m + 1) := fun j hj => Cmd_fr (q2 j hj) (by rw [q 286 (by decide)]) (fun k _ => by rw [q 287 (by decide)]) (fun k _ => rfl)
  rw [e1, kbind_s]
  rcases lp_exec (m := m + 1) (by omega) (Y66 := fun g11 x2_10 => kbind (cf_X8_putAhead g11 13 x2_10) (fun r12 g13 => kbind (cf_X5_rollBack g13) (fun r14 g15 => some (4, 0, g15)))) (Y103 := fun g16 => kxbind (cx_X11_settled g16 (g16 285 2)) (fun r17 g18 => some (0, r17, g18))) (Y117 := fun g21 x3_20 => kbind (cf_X12_comesBack g21) (fun r22 g23 => klet (g23 0 10) (fun x4_24 => (cl_X12_program_127 (fun g29 x3_28 => kmem (kup g29 0 10 ((g29 0 10) + 1)) (fun g30 => kmem (kup g30 6 0 13) (fun g31 => kmem (kup g31 7 0 x3_28) (fun g32 => kbind (cf_X12_raises g32 2) (fun r33 g34 => some (r33, g34)))))) 100 g23 x3_20 x4_24)))) (Y207 := fun g36 x1_35 => kbind (cf_X12_keeps g36) (fun r37 g38 => some (x1_35, g38))) (m + 1) 0 100 100 (N * 59778) fc (kup (kup gc 0 7 0) 0 9 (-1)) (by omega) (by omega) (by omega) (by omega) b1 b2 (by rw [q 285 (by decide)]; exact q1) hC with ⟨f2, g2, w1, w2, w3, w4, w5, w6⟩ | ⟨t, f2, g2, w0, w1, w2, w3, w4, w5, w6, w7⟩
  · have bP2 := Pend_fr bP w3 w4
    obtain ⟨f3, g3, r7, r8, e5, e6, k1, k3, k4⟩ := p_keep2 bP2 w6 w5 (by omega)
    have e285 : f2 285 2 = nI (m + 1) := by
      rw [w3 285 (by decide) (by decide) (by decide) (by decide), q 285 (by decide)]
      exact q1
    refine kOk_mk (n := 0) (r := nI (m + 1)) (f1 := f3) (bb := nI (m + 1)) (g1 := g3) (w1.trans ?_) (w2.trans ?_) (Or.inl rfl) ?_ (fun _ => rfl) k4
    · have e : cx_X11_settled f2 (nI (m + 1)) = some (0, nI (m + 1), f3) := by
        unfold cx_X11_settled keq
        rw [if_neg (nI_m1 (by omega)), e5]
        rfl
      rw [e285, e]
      rfl
    · rw [e6, kbind_s]
    · show g3 0 18 = 0
      rw [k3 18 (by decide), w4.2 18 (by decide) (by decide)]
      exact h18
  · have bP2 := Pend_fr bP w3 w4
    obtain ⟨f3, g3, x1, x2, x3, x4⟩ := p_refuse (t := t) bP2 w5 w6 w7
    exact kOk_mk (n := 4) (f1 := f3) (g1 := g3) (w1.trans x1) (w2.trans x2) (Or.inr (by decide)) x3 (fun h => absurd h (by decide)) x4
