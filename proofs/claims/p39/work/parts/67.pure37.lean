/-! family: it is stored -/
def LkF (f : kMem) (n i p : Nat) (y : Int32) : Prop := (∃ j, i ≤ j ∧ j < n ∧ f 283 j = nI p ∧ y = f 284 j ∧ ∀ o, i ≤ o → o < j → f 283 o ≠ nI p) ∨ ((∀ j, i ≤ j → j < n → f 283 j ≠ nI p) ∧ y = 0)
theorem LkF_fr {f f1 : kMem} {n i p : Nat} {y : Int32} (h3 : f1 283 = f 283) (h4 : f1 284 = f 284) (h : LkF f1 n i p y) : LkF f n i p y := by
  unfold LkF at h
  rw [h3, h4] at h
  exact h
theorem Parts_fr {f f1 g g1 : kMem} {n : Nat} (h : Parts f g n) (h3 : f1 283 = f 283) (h4 : f1 284 = f 284) (h8 : g1 8 = g 8) : Parts f1 g1 n := by
  unfold Parts
  rw [h3, h4, h8]
  exact h
theorem lp_95 {Y : kMem → Option (Int32 × kMem)} {q n : Nat} (hq : q < 6) (hn : n ≤ 3) : ∀ k u p (f g : kMem), p + k = 8 → k < u → f 1 2 = nI q → f 282 2 = nI n → Parts f g n → ∃ f1, cl_X0_addFamily_95 Y u f (nI p) = Y f1 ∧ (∀ a, a ≠ 6 → f1 a = f a) ∧ (∀ j, j < 8 * q + p ∨ 8 * q + 8 ≤ j → f1 6 j = f 6 j) ∧ ∀ d, p ≤ d → d < 8 → LkF f n 0 d (f1 6 (8 * q + d))
  | 0, u + 1, p, f, g, h1, h2, h3, h4, hP => by
    obtain rfl : p = 8 := by omega
    refine ⟨f, ?_, fun _ _ => rfl, fun _ _ => rfl, fun d d1 d2 => by omega⟩
    rw [cl_X0_addFamily_95.eq_2, kle_t (by decide)]
  | k + 1, u + 1, p, f, g, h1, h2, h3, h4, hP => by
    have one : nI p + Int32.ofInt 1 = nI (p + 1) := nI_1 p
    obtain ⟨y, y1, y2⟩ := lp_for (p := p) hn h4 hP n 100 0 (by omega) (by omega)
    have y1' : cf_X3_piecesFor f (nI p) = some (y, f) := y1
    obtain ⟨f1, e1, e2, e3, e4⟩ := lp_95 (Y := Y) hq hn k u (p + 1) (kup f 6 (8 * q + p) y) g (by omega) (by omega) h3 h4 (Parts_fr hP rfl rfl rfl)
    refine ⟨f1, ?_, fun a ha => by rw [e2 a ha, kup_ne _ _ _ ha], fun j hj => by rw [e3 j (by omega), kup_nk (by omega)], fun d d1 d2 => ?_⟩
    · rw [cl_X0_addFamily_95.eq_2, kle_f (fun q => by have := (nI_le_iff (a := 8) (by omega) (by omega)).mp q; omega), y1', kbind_s, h3, show nI q * 8 + nI p = nI (8 * q + p) by rw [show (8 : Int32) = nI 8 from rfl, nI_mul, nI_add, Nat.mul_comm], kchk_t (nI_kin (by omega) (by decide)), nI_clamp (by omega), kmem_s, klet_s, one]
      exact e1
    · by_cases hd : d = p
      · rw [hd, e3 _ (by omega), kup_at]
        exact y2
      · exact LkF_fr rfl rfl (e4 d (by omega) d2)
theorem m_208 {Y : kMem → Option (Int32 × kMem)} {q : Nat} (hq : q < 6) : ∀ k u i (g : kMem), i + k = 9 → k < u → g 1 2 = nI q → ∃ g1, cl_X12_doesFamily_208 Y u g (nI i) = Y g1 ∧ (∀ a, a ≠ 1 → g1 a = g a) ∧ (∀ j, j < 46 + 9 * q + i ∨ 55 + 9 * q ≤ j → g1 1 j = g 1 j) ∧ ∀ d, i ≤ d → d < 9 → g1 1 (46 + 9 * q + d) = g 8 d
  | 0, u + 1, i, g, h1, h2, h3 => by
    obtain rfl : i = 9 := by omega
    refine ⟨g, ?_, fun _ _ => rfl, fun _ _ => rfl, fun d d1 d2 => by omega⟩
    rw [cl_X12_doesFamily_208.eq_2, kle_t (by decide)]
  | k + 1, u + 1, i, g, h1, h2, h3 => by
    have one : nI i + Int32.ofInt 1 = nI (i + 1) := nI_1 i
    obtain ⟨g1, e1, e2, e3, e4⟩ := m_208 (Y := Y) hq k u (i + 1) (kup g 1 (46 + 9 * q + i) (g 8 i)) (by omega) (by omega) (by rw [kup_nk (by omega)]; exact h3)
    refine ⟨g1, ?_, fun a ha => by rw [e2 a ha, kup_ne _ _ _ ha], fun j hj => by rw [e3 j (by omega), kup_nk (by omega)], fun d d1 d2 => ?_⟩
    · rw [cl_X12_doesFamily_208.eq_2, kle_f (fun q => by have := (nI_le_iff (a := 9) (by omega) (by omega)).mp q; omega), h3, a46, nI_add, kchk_t (nI_kin (i := i) (by omega) (by decide)), kchk_t (nI_kin (i := 46 + 9 * q + i) (by omega) (by decide)), nI_clamp (n := i) (by omega), nI_clamp (n := 46 + 9 * q + i) (by omega), kmem_s, klet_s, one]
      exact e1
    · by_cases hd : d = i
      · rw [hd, e3 _ (by omega), kup_at]
      · rw [e4 d (by omega) d2, kup_ne _ _ _ (by decide)]
theorem lkf_LkF {f : kMem} {v : Nat → Int32} {q p n : Nat} {y : Int32} (h3 : ∀ i, i < n → v (49 + 9 * q + i) = f 283 i) (h6 : ∀ i, i < n → v (52 + 9 * q + i) = f 284 i) : ∀ k i, i + k = n → LkF f n i p y → lkf v q p k i = y
  | 0, i, h1, h => by
    rcases h with ⟨j, j1, j2, -⟩ | ⟨-, h⟩
    · omega
    · exact h.symm
  | k + 1, i, h1, h => by
    show (if v (49 + 9 * q + i) = nI p then v (52 + 9 * q + i) else lkf v q p k (i + 1)) = y
    rw [h3 i (by omega), h6 i (by omega)]
    rcases h with ⟨j, j1, j2, j3, j4, j5⟩ | ⟨j1, j2⟩
    · by_cases hj : j = i
      · rw [hj] at j3 j4
        rw [if_pos j3, j4]
      · rw [if_neg (j5 i (by omega) (by omega))]
        exact lkf_LkF h3 h6 k (i + 1) (by omega) (Or.inl ⟨j, by omega, j2, j3, j4, fun o o1 o2 => j5 o (by omega) o2⟩)
    · rw [if_neg (j1 i (by omega) (by omega))]
      exact lkf_LkF h3 h6 k (i + 1) (by omega) (Or.inr ⟨fun j k1 k2 => j1 j (by omega) k2, j2⟩)
theorem FRel_fam {f f1 : kMem} {v w : Nat → Int32} {q : Nat} (h : FRel f v) (hq : q < 6) (a0 : ∀ a, a ≠ 4 → a ≠ 5 → a ≠ 6 → f1 a = f a) (a4 : ∀ j, j ≠ q → f1 4 j = f 4 j) (a5 : ∀ j, j ≠ q → f1 5 j = f 5 j) (a6 : ∀ j, j < 8 * q ∨ 8 * q + 8 ≤ j → f1 6 j = f 6 j) (b0 : ∀ j, j < 46 + 9 * q ∨ 55 + 9 * q ≤ j → w j = v j) (n4 : w (46 + 9 * q) = f1 4 q) (n5 : w (47 + 9 * q) = f1 5 q) (n6 : ∀ p, p < 8 → f1 6 (8 * q + p) = lk w q p) : FRel f1 w := by
  refine ⟨fun j hj => ?_, fun r hr => ?_⟩
  · have hj1 : j < 313 ∧ (j < 46 ∨ 100 ≤ j) := by
      unfold dj at hj
      simp at hj
      omega
    obtain ⟨c1, c2⟩ := mc_cell0 j hj1.1
    obtain ⟨c3, c4, c5⟩ := c2 hj
    rw [b0 j (by omega), a0 _ c3 c4 c5]
    exact h.1 j hj
  · by_cases hrq : r = q
    · rw [hrq]
      exact ⟨n4, n5, n6⟩
    · obtain ⟨k1, k2, k3⟩ := h.2 r hr
      refine ⟨by rw [b0 _ (by omega), a4 r hrq]; exact k1, by rw [b0 _ (by omega), a5 r hrq]; exact k2, fun p hp => ?_⟩
      rw [a6 _ (by omega), k3 p hp]
      unfold lk
      rw [b0 (48 + 9 * r) (by omega), b0 (49 + 9 * r) (by omega), b0 (50 + 9 * r) (by omega), b0 (51 + 9 * r) (by omega), b0 (52 + 9 * r) (by omega), b0 (53 + 9 * r) (by omega), b0 (54 + 9 * r) (by omega)]
theorem InvC_c2 {B c0 c1 c2 c3 : Nat} {v w : Nat → Int32} (h : InvC B v c0 c1 c2 c3) (hc : c2 + 1 ≤ 6) (b0 : ∀ j, j < 46 + 9 * c2 ∨ 55 + 9 * c2 ≤ j → w j = v j) (hf : fam w c1 c2) : InvC B (upd w 2 (nI (c2 + 1))) c0 c1 (c2 + 1) c3 := by
  have e : ∀ j, j ≠ 2 → (j < 46 + 9 * c2 ∨ 55 + 9 * c2 ≤ j) → upd w 2 (nI (c2 + 1)) j = v j := fun j h2 hj => by rw [upd_ne h2, b0 j hj]
  obtain ⟨⟨a0, a1, a2, a3, a4, a5, a6, a7⟩, ⟨b4, b5, b8, b12, b13, b14, b15⟩, ⟨d1, d2, d3, d4⟩, ef, m, n⟩ := h
  refine ⟨⟨by rw [e _ (by omega) (by omega)]; exact a0, by rw [e _ (by omega) (by omega)]; exact a1, upd_eq, by rw [e _ (by omega) (by omega)]; exact a3, a4, a5, hc, a7⟩, ⟨?_, by rw [e _ (by omega) (by omega)]; exact b5, by rw [e _ (by omega) (by omega)]; exact b8, by rw [e _ (by omega) (by omega)]; exact b12, by rw [e _ (by omega) (by omega)]; exact b13, by rw [e _ (by omega) (by omega)]; exact b14, by rw [e _ (by omega) (by omega)]; exact b15⟩, ⟨fun k hk => by rw [e _ (by omega) (by omega)]; exact d1 k hk, fun k hk => by rw [e _ (by omega) (by omega)]; exact d2 k hk, fun k hk => by rw [e _ (by omega) (by omega)]; exact d3 k hk, fun k hk => by rw [e _ (by omega) (by omega)]; exact d4 k hk⟩, fun q hq => ?_, fun d hd => ?_, fun o ho => ?_⟩
  · rw [e _ (by omega) (by omega)]
    exact b4.imp id (fun h => rl_mono h (by omega))
  · by_cases hq2 : q = c2
    · rw [hq2]
      exact fam_upd hf (by omega)
    · refine fam_upd ?_ (by omega)
      obtain ⟨n, h1, h2, h3, h4, h5, h6, h7, h8⟩ := ef q (by omega)
      exact ⟨n, by rw [b0 _ (by omega)]; exact h1, h2, h3, by rw [b0 _ (by omega)]; exact h4, by rw [b0 _ (by omega)]; exact h5, fun i hi => by rw [b0 _ (by omega), b0 _ (by omega)]; exact h6 i hi, fun i hi k hk => by rw [b0 _ (by omega), b0 _ (by omega)]; exact h7 i hi k hk, fun i hi hi3 => by rw [b0 _ (by omega)]; exact h8 i hi hi3⟩
  · rw [e _ (by omega) (by omega), e _ (by omega) (by omega), e _ (by omega) (by omega)]
    exact m d hd
  · rw [e _ (by omega) (by omega), e _ (by omega) (by omega), e _ (by omega) (by omega), e _ (by omega) (by omega)]
    exact n o ho
theorem bI_1 : bI true = 1 := rfl
theorem bI_0 : bI false = 0 := rfl
set_option maxRecDepth 20000 in
theorem s_family : kSim 0 FamT (fun f => cf_X0_addFamily f) (fun g => cf_X12_doesFamily g) := by
  intro B f g hB hN hR hE
  dsimp only
  obtain ⟨hF, ⟨c0, c1, c2, c3, hI⟩, hZ⟩ := id hN
  obtain ⟨g0, g1, g2, g3, hc0, hc1, hc2, hc3⟩ := id hI.1
  have f1 : f 1 1 = nI c1 := (FRel_at hF (j := 1) (a := 1) (k := 1) (by decide)).symm.trans g1
  have f2 : f 1 2 = nI c2 := (FRel_at hF (j := 2) (a := 1) (k := 2) (by decide)).symm.trans g2
  obtain ⟨n, cyc, wt, e1, e2, e3, e4, e5, e6, e7, e8, e9, e10, hP, hz⟩ := hE
  -- the steps of both
  have z1 : ∀ Y, cl_X3_hasZero_2 Y 100 f 0 = if al (fun j => decide (1 ≤ fE f j)) n 0 = true then Y f else some (1, f) := fun Y => lp_zero e2 e5 hP n 100 0 (by omega) (by omega)
  have w0 : ∀ Y, cl_X12_doesFamily_46 Y 100 g (nI n) 0 0 = Y g (nI n) 0 := fun Y => (m_46 (Y := Y) e2 hP n 100 0 false (by omega) (by omega))
  have w1 : ∀ Y, cl_X12_doesFamily_46 Y 100 g (nI n) 1 0 = Y g (nI n) (bI (al (fun j => decide (1 ≤ fE f j)) n 0)) := fun Y => (m_46 (Y := Y) e2 hP n 100 0 true (by omega) (by omega))
  have v1 : ∀ Y, cl_X12_doesFamily_88 Y 100 g (nI n) 1 0 = Y g (nI n) (bI (al (fun j => decide (fP f j < c1)) n 0)) := fun Y => (m_88 (Y := Y) e2 hP g1 hc1 n 100 0 true (by omega) (by omega))
  have t1 : ∀ Y1 Y2, cl_X12_doesFamily_127 Y1 Y2 100 g (nI n) 0 = match tw f n 0 with | none => Y2 g | some y => Y1 g (nI y) := fun Y1 Y2 => m_127 (Y161 := Y1) (Y188 := Y2) e2 hP n 100 0 (by omega) (by omega)
  have t2 : cf_X3_partTwice f = some (twC f (tw f n 0), f) := lp_tw e2 e5 hP n 100 0 (by omega) (by omega)
  obtain ⟨hi, hi9, h1, h2⟩ := lp_high e2 e5 hP n 100 0 0 (by omega) (by omega) (by omega)
  have h1' : cf_X3_highestPart f = some (nI hi, f) := h1
  have i0 : cf_X12_in g (nI cyc) 1 99 = some (bI (decide (1 ≤ cyc)), g) := by
    by_cases h : 1 ≤ cyc
    · rw [m_in1 (show inb (nI cyc) 1 99 from (inb_rg (A := 1) (B := 99) (by decide) (by decide)).mpr ⟨_, rfl, h, e3⟩), decide_eq_true h]
      rfl
    · rw [m_in0 (fun (q : inb (nI cyc) 1 99) => h (by
        obtain ⟨m, e, m1, m2⟩ := (inb_rg (A := 1) (B := 99) (by decide) (by decide)).mp q
        have := nI_inj (by omega) (by omega) e
        omega)), decide_eq_false h]
      rfl
  have i1 : cf_X12_in g (nI wt) 1 999 = some (bI (decide (1 ≤ wt)), g) := by
    by_cases h : 1 ≤ wt
    · rw [m_in1 (show inb (nI wt) 1 999 from (inb_rg (A := 1) (B := 999) (by decide) (by decide)).mpr ⟨_, rfl, h, e4⟩), decide_eq_true h]
      rfl
    · rw [m_in0 (fun (q : inb (nI wt) 1 999) => h (by
        obtain ⟨m, e, m1, m2⟩ := (inb_rg (A := 1) (B := 999) (by decide) (by decide)).mp q
        have := nI_inj (by omega) (by omega) e
        omega)), decide_eq_false h]
      rfl
  unfold cf_X0_addFamily cf_X3_hasZero cf_X12_doesFamily
  rw [klet_s, e10, e8, i0, kbind_s, e9, z1, e6, e7]
  simp only [i1, kbind_s]
  by_cases hcy : 1 ≤ cyc
  rotate_left
  · refine sim_no (a := 2) (d := 0) hN ?_ ?_
    · by_cases ha : al (fun j => decide (1 ≤ fE f j)) n 0 = true
      · rw [if_pos ha, keq_t (show nI cyc = 0 by rw [show cyc = 0 by omega]; rfl), kbind_s, keq10, c_refuse]
        rfl
      · rw [if_neg ha, kbind_s, keq10, c_refuse]
        rfl
    · rw [decide_eq_false hcy, bI_0, keq00, w0, keq00]
      rfl
  rw [decide_eq_true hcy, bI_1, keq10]
  by_cases hwt : 1 ≤ wt
  rotate_left
  · refine sim_no (a := 2) (d := 0) hN ?_ ?_
    · by_cases ha : al (fun j => decide (1 ≤ fE f j)) n 0 = true
      · rw [if_pos ha, keq_f (nI_ne0 (by omega) (by omega)), keq_t (show nI wt = 0 by rw [show wt = 0 by omega]; rfl), kbind_s, keq10, c_refuse]
        rfl
      · rw [if_neg ha, kbind_s, keq10, c_refuse]
        rfl
    · rw [decide_eq_false hwt, bI_0, keq00, w0, keq00]
      rfl
  rw [decide_eq_true hwt, bI_1, keq10, w1]
  by_cases ha : al (fun j => decide (1 ≤ fE f j)) n 0 = true
  rotate_left
  · refine sim_no (a := 2) (d := 0) hN ?_ ?_
    · rw [if_neg ha, kbind_s, keq10, c_refuse]
      rfl
    · rw [Bool.eq_false_iff.mpr ha, bI_0, keq00]
      rfl
  rw [if_pos ha, keq_f (nI_ne0 (by omega) (by omega)), keq_f (nI_ne0 (by omega) (by omega)), kbind_s, keq00, ha, bI_1, keq10, v1, h1', kbind_s]
  by_cases hp : al (fun j => decide (fP f j < c1)) n 0 = true
  rotate_left
  · refine sim_no (a := 1) (d := 0) hN ?_ ?_
    · rw [c_isP0 (by omega) f1 (fun ⟨m, e, hm⟩ => hp (by
        have := nI_inj (by omega) (by omega) e
        exact ((h2 c1).mp (by omega)).2)), kbind_s, keq00, c_refuse]
      rfl
    · rw [Bool.eq_false_iff.mpr hp, bI_0, keq00]
      rfl
  have hp1 : ∀ j, j < n → fP f j < c1 := fun j hj => of_decide_eq_true ((al_iff n 0).mp hp j (by omega) (by omega))
  have hc1p : 0 < c1 := by have := hp1 0 (by omega); omega
  rw [c_isP1 (by omega) f1 ⟨hi, rfl, (h2 c1).mpr ⟨hc1p, hp⟩⟩, kbind_s, keq10, t2, kbind_s, hp, bI_1, keq10, t1]
  rcases ht : tw f n 0 with _ | y
  rotate_left
  · obtain ⟨y1, y2⟩ := tw_some n 0 ht
    obtain ⟨-, -, -, p4, -, -⟩ := Parts_at hP (j := y) (by omega)
    refine sim_no (a := 14) (d := nI (fP f y)) hN ?_ ?_
    · rw [show twC f (some y) = nI (fP f y) from rfl, keq_f (nI_m1 (by have := (Parts_at hP (j := y) (by omega)).1; omega)), c_refuse]
      rfl
    · show kchk (kin ((3 : Int32) + nI y) 400) _ = _
      rw [show (3 : Int32) + nI y = nI (3 + y) from nI_add 3 y, kchk_t (nI_kin (by omega) (by decide)), nI_clamp (by omega), p4]
      rfl
  have hdist := tw_none n 0 ht
  rw [show twC f none = -1 from rfl, keq_t rfl, f2, g2]
  by_cases h6 : c2 = 6
  · refine sim_no (a := 3) (d := 0) hN ?_ ?_
    · rw [klt_f (by rw [h6]; decide), c_refuse]
      rfl
    · show keq (nI c2) 6 _ _ = _
      rw [keq_t (by rw [h6]; rfl)]
      rfl
  have hq : c2 < 6 := by omega
  have hk : kin (nI c2) 6 = true := nI_kin hq (by decide)
  rw [klt_t (show nI c2 < 6 from (nI_lt_iff (b := 6) (by omega) (by omega)).mpr hq), kchk_t hk, nI_clamp (by omega), kmem_s]
  have q12 : ∀ x, kup f 4 c2 x 1 2 = nI c2 := fun _ => f2
  have q24 : ∀ x, kup f 4 c2 x 282 4 = nI wt := fun _ => e7
  rw [q12, kchk_t hk, nI_clamp (by omega), kmem_s, q24, e6]
  obtain ⟨fa, a1, a2, a3, a4⟩ := lp_95 (Y := fun g15 => kmem (kup g15 1 2 ((g15 1 2) + 1)) (fun g16 => some (((g16 1 2) - 1), g16))) hq e2 8 100 0 (kup (kup f 4 c2 (nI cyc)) 5 c2 (nI wt)) g (by omega) (by omega) f2 e5 (Parts_fr hP rfl rfl rfl)
  have a1' : cl_X0_addFamily_95 (fun g15 => kmem (kup g15 1 2 ((g15 1 2) + 1)) (fun g16 => some (((g16 1 2) - 1), g16))) 100 (kup (kup f 4 c2 (nI cyc)) 5 c2 (nI wt)) 0 = _ := a1
  obtain ⟨ga, b1, b2, b3, b4⟩ := m_208 (Y := fun g30 => kmem (kup g30 1 2 ((g30 1 2) + 1)) (fun g31 => kbind (cf_X12_is g31 (g30 1 2)) (fun r32 g33 => kchk (kbool r32) (some (r32, g33))))) hq 9 100 0 g (by omega) (by omega) g2
  have b1' : cl_X12_doesFamily_208 (fun g30 => kmem (kup g30 1 2 ((g30 1 2) + 1)) (fun g31 => kbind (cf_X12_is g31 (g30 1 2)) (fun r32 g33 => kchk (kbool r32) (some (r32, g33))))) 100 g 0 = _ := b1
  have fa12 : fa 1 2 = nI c2 := by rw [a2 1 (by decide)]; exact f2
  have ga12 : ga 1 2 = nI c2 := by rw [b3 2 (by omega)]; exact g2
  have W : ∀ d, d < 9 → ga 1 (46 + 9 * c2 + d) = g 8 d := fun d hd => b4 d (by omega) hd
  have w46 : ga 1 (46 + 9 * c2) = nI cyc := (W 0 (by omega)).trans e8
  have w47 : ga 1 (47 + 9 * c2) = nI wt := by rw [show 47 + 9 * c2 = 46 + 9 * c2 + 1 by omega, W 1 (by omega), e9]
  have w48 : ga 1 (48 + 9 * c2) = nI n := by rw [show 48 + 9 * c2 = 46 + 9 * c2 + 2 by omega, W 2 (by omega), e10]
  have w49 : ∀ i, i < 3 → ga 1 (49 + 9 * c2 + i) = g 8 (3 + i) := fun i hi => by rw [show 49 + 9 * c2 + i = 46 + 9 * c2 + (3 + i) by omega, W _ (by omega)]
  have w52 : ∀ i, i < 3 → ga 1 (52 + 9 * c2 + i) = g 8 (6 + i) := fun i hi => by rw [show 52 + 9 * c2 + i = 46 + 9 * c2 + (6 + i) by omega, W _ (by omega)]
  have hfam : fam (ga 1) c1 c2 := by
    refine ⟨n, w48, e1, e2, ⟨cyc, w46, hcy, e3⟩, ⟨wt, w47, hwt, e4⟩, fun i hin => ?_, fun i hin k hk => ?_, fun i hin hi3 => by rw [w52 i hi3]; exact hz i hin hi3⟩
    · obtain ⟨p1, p2, p3, p4, p5, p6⟩ := Parts_at hP hin
      rw [w49 i (by omega), w52 i (by omega), p4, p6]
      exact ⟨⟨_, rfl, hp1 i hin⟩, ⟨_, rfl, of_decide_eq_true ((al_iff n 0).mp ha i (by omega) (by omega)), p2⟩⟩
    · obtain ⟨p1, -, -, p4, -, -⟩ := Parts_at hP hin
      obtain ⟨k1, -, -, k4, -, -⟩ := Parts_at hP (j := k) (by omega)
      rw [w49 i (by omega), w49 k (by omega), p4, k4]
      intro h
      exact hdist i (by omega) (by omega) k hk (nI_inj (by omega) (by omega) h.symm)
  have hFR : FRel fa (ga 1) := FRel_fam hF hq (fun a h4 h5 h6 => by rw [a2 a h6, kup_ne _ _ _ h5, kup_ne _ _ _ h4]) (fun j hj => by rw [a2 4 (by decide), kup_ne _ _ _ (by decide), kup_nk hj]) (fun j hj => by rw [a2 5 (by decide), kup_nk hj, kup_ne _ _ _ (by decide)]) (fun j hj => by rw [a3 j (by omega), kup_ne _ _ _ (by decide), kup_ne _ _ _ (by decide)]) (fun j hj => b3 j (by omega)) (by rw [w46, a2 4 (by decide), kup_ne _ _ _ (by decide), kup_at]) (by rw [w47, a2 5 (by decide), kup_at]) (fun p hp8 => by
    rw [lk_lkf w48 e2]
    refine (lkf_LkF (f := f) (fun i hin => ?_) (fun i hin => ?_) n 0 (by omega) (LkF_fr rfl rfl (a4 p (by omega) hp8))).symm
    · obtain ⟨-, -, p3, p4, -, -⟩ := Parts_at hP hin
      rw [w49 i (by omega), p4, p3]
    · obtain ⟨-, -, -, -, p5, p6⟩ := Parts_at hP hin
      rw [w52 i (by omega), p6, p5])
  refine sim_yes (r := nI c2) (f1 := kup fa 1 2 (nI (c2 + 1))) (g1 := kup ga 1 2 (nI (c2 + 1))) ?_ ?_ (fun a h1 h2 h3 h4 => ?_) ?_ (Reas_fr hR ?_ ?_ ?_ ?_ ?_ ?_) ⟨FRel_up _ hFR (j := 2) (a := 1) (k := 2) (by decide), ⟨c0, c1, c2 + 1, c3, InvC_c2 hI (by omega) (fun j hj => b3 j (by omega)) hfam⟩, kZ_upd (fun j hj => by rw [b3 j (by omega)]; exact hZ j hj) (by omega)⟩ (nI_not_neg (by omega))
  · rw [a1', kmem_s, fa12, nI_1, kup_at, nI_pred]
  · show keq (nI c2) 6 _ (cl_X12_doesFamily_208 (fun g30 => kmem (kup g30 1 2 ((g30 1 2) + 1)) (fun g31 => kbind (cf_X12_is g31 (g30 1 2)) (fun r32 g33 => kchk (kbool r32) (some (r32, g33))))) 100 g 0) = _
    rw [keq_f (show ¬ nI c2 = 6 from fun e => h6 (nI_inj (b := 6) (by omega) (by decide) e)), b1', kmem_s, ga12, nI_1]
    rfl
  · rw [kup_ne _ _ _ (by omega), a2 a (by omega), kup_ne _ _ _ (by omega), kup_ne _ _ _ (by omega)]
  · exact Fr2_row (fun a ha => by rw [kup_ne _ _ _ ha, b2 a ha])
  · rw [kup_ne _ _ _ (by decide), a2 277 (by decide), kup_ne _ _ _ (by decide), kup_ne _ _ _ (by decide)]
  · rw [kup_ne _ _ _ (by decide), a2 278 (by decide), kup_ne _ _ _ (by decide), kup_ne _ _ _ (by decide)]
  · rw [kup_ne _ _ _ (by decide), a2 279 (by decide), kup_ne _ _ _ (by decide), kup_ne _ _ _ (by decide)]
  · rw [kup_ne _ _ _ (by decide), b2 0 (by decide)]
  · rw [kup_ne _ _ _ (by decide), b2 6 (by decide)]
  · rw [kup_ne _ _ _ (by decide), b2 7 (by decide)]
