/-! more queries -/
theorem kp_reason : kP_reason kR := by
  intro N f g x y hN hR
  obtain ⟨-, ⟨r, r1, r2, r3, r4⟩, -⟩ := id hR
  unfold cx_X11_reason cf_X12_reason
  rw [kmem_s]
  by_cases h0 : (0 : Int32) ≤ x
  · rw [kle_t h0, kle_t h0, r2]
    have e3 : kup g 0 18 0 0 10 = nI r := r3
    rw [e3]
    have hx := of_toInt (x := x) (by have := Int32.le_iff_toInt_le.mp h0; exact this)
    obtain ⟨n, rfl, hn⟩ : ∃ n, x = nI n ∧ n < 2 ^ 31 := ⟨x.toInt.toNat, hx, by have := Int32.toInt_lt x; omega⟩
    by_cases h1 : n < r
    · rw [c_in1 ((inb_rl (by omega)).mpr ⟨n, rfl, h1⟩), kbind_s, keq_f (by decide), klt_t ((nI_lt_iff hn (by omega)).mpr h1)]
      obtain ⟨w1, w2⟩ := r4 n h1
      by_cases hy : k01 y = 0
      · refine q_yes hR (r := f 278 n) ?_ ?_
        · rw [keq_t hy, kchk_t (nI_kin (by omega) (by decide)), nI_clamp hn]
        · rw [keq_t hy, kchk_t (nI_kin (by omega) (by decide)), nI_clamp hn, w1]
          rfl
      · refine q_yes hR (r := f 279 n) ?_ ?_
        · rw [keq_f hy, kchk_t (nI_kin (by omega) (by decide)), nI_clamp hn]
        · rw [keq_f hy, kchk_t (nI_kin (by omega) (by decide)), nI_clamp hn, w2]
          rfl
    · refine q_no hR (n := 5) (by decide) (by decide) ?_ ?_
      · rw [c_in0 (fun q => by
          obtain ⟨m, e, hm⟩ := (inb_rl (by omega)).mp q
          have := nI_inj hn (by omega) e
          omega), kbind_s, keq_t rfl]
      · rw [klt_f (fun q => h1 ((nI_lt_iff hn (by omega)).mp q))]
        rfl
  · rw [kle_f h0, kle_f h0]
    exact q_no hR (n := 2) (by decide) (by decide) rfl rfl
theorem pmax : ∀ s, s < 10 → ∀ t, t < 10 → kmax 0 (nI s - nI t) = nI (s - t) := by decide +kernel
/-- the shots of a purge -/
theorem p_purge {B : Nat} {f g : kMem} {c0 c1 c2 c3 : Nat} (hF : FRel f (g 1)) (hI : InvC B (g 1) c0 c1 c2 c3) {x y : Int32} (hx : x = -1 ∨ rl x c0) (hy : rl y c0) : ∃ n, n ≤ 46 ∧ cf_X0_purgeShots f x y = some (nI n, f) ∧ cf_X12_purgeOf g x y = some (nI n, g) := by
  obtain ⟨⟨g0, -, -, -, hc0, -⟩, ⟨-, -, -, -, -, b14, -⟩, ⟨d1, -⟩, -⟩ := id hI
  have f0 : f 1 0 = nI c0 := (FRel_at hF (j := 0) (a := 1) (k := 0) (by decide)).symm.trans g0
  rcases hx with rfl | hx
  · refine ⟨0, by decide, ?_, ?_⟩
    · unfold cf_X0_purgeShots
      rw [c_isC0 (by omega) f0 (fun ⟨m, e, hm⟩ => nI_m1 (n := m) (by omega) e.symm), kbind_s, keq_t rfl]
      rfl
    · unfold cf_X12_purgeOf
      rw [klt_t (by decide)]
      rfl
  · unfold cf_X0_purgeShots cf_X12_purgeOf
    rw [c_isC1 (by omega) f0 hx, kbind_s, keq_f (by decide), c_isC1 (by omega) f0 hy, kbind_s, keq_f (by decide)]
    obtain ⟨a, rfl, ha⟩ := hx
    obtain ⟨b, rfl, hb⟩ := hy
    rw [klt_f (nI_not_neg (by omega))]
    by_cases hab : nI a = nI b
    · exact ⟨0, by decide, by rw [keq_t hab]; rfl, by rw [keq_t hab]; rfl⟩
    · have q1 := FRel_at hF (mcs_2 a (by omega))
      have q2 := FRel_at hF (mcs_2 b (by omega))
      have q3 : g 1 14 = f 7 2 := FRel_at hF (j := 14) (a := 7) (k := 2) (by decide)
      obtain ⟨s, s1, -, s3⟩ := d1 a (by omega)
      obtain ⟨t, t1, -, t3⟩ := d1 b (by omega)
      obtain ⟨p, p1, -, p3⟩ := b14
      rw [keq_f hab, keq_f hab, kchk_t (nI_kin (by omega) (by decide)), kchk_t (nI_kin (by omega) (by decide)), show (16 : Int32) = nI 16 from rfl, nI_add, nI_add, kchk_t (nI_kin (by omega) (by decide)), kchk_t (nI_kin (by omega) (by decide)), nI_clamp (by omega), nI_clamp (by omega), nI_clamp (by omega), nI_clamp (by omega), ← q1, ← q2, ← q3, s1, t1, p1, pmax s (by omega) t (by omega), nI_mul, show (1 : Int32) = nI 1 from rfl, nI_add]
      refine ⟨1 + (s - t) * p, ?_, rfl, rfl⟩
      have : (s - t) * p ≤ 9 * 5 := Nat.mul_le_mul (by omega) p3
      omega
theorem kp_purge : kP_purge kR := by
  intro N f g x y hN hR
  obtain ⟨⟨hF, ⟨c0, c1, c2, c3, hI⟩, hZ⟩, -⟩ := id hR
  obtain ⟨g0, -, -, -, hc0, -⟩ := id hI.1
  have f0 : f 1 0 = nI c0 := (FRel_at hF (j := 0) (a := 1) (k := 0) (by decide)).symm.trans g0
  have G0 : kup g 0 18 0 1 0 = nI c0 := g0
  unfold cx_X11_purge cf_X12_purge
  rw [kmem_s]
  by_cases hx : rl x c0
  · rw [c_isC1 (by omega) f0 hx, kbind_s, keq_f (by decide), m_isC1 (by omega) G0 hx, kbind_s, keq_f (by decide)]
    by_cases hy : rl y c0
    · rw [c_isC1 (by omega) f0 hy, kbind_s, keq_f (by decide), m_isC1 (by omega) G0 hy, kbind_s, keq_f (by decide)]
      obtain ⟨n, -, e1, e2⟩ := p_purge (g := kup g 0 18 0) hF hI (Or.inr hx) hy
      exact q_yes hR (by rw [e1]; rfl) (by rw [e2]; rfl)
    · exact q_no hR (n := 3) (by decide) (by decide) (by rw [c_isC0 (by omega) f0 hy, kbind_s, keq_t rfl]; rfl) (by rw [m_isC0 (by omega) G0 hy, kbind_s, keq_t rfl]; rfl)
  · exact q_no hR (n := 3) (by decide) (by decide) (by rw [c_isC0 (by omega) f0 hx, kbind_s, keq_t rfl]; rfl) (by rw [m_isC0 (by omega) G0 hx, kbind_s, keq_t rfl]; rfl)
theorem a46 (c : Nat) : (46 : Int32) + 9 * nI c = nI (46 + 9 * c) := by
  rw [show (46 : Int32) = nI 46 from rfl, show (9 : Int32) = nI 9 from rfl, nI_mul, nI_add]
theorem m_of {g : kMem} {q w : Nat} (hq : q < 6) (hw : w < 9) : cf_X12_of g (nI q) (nI w) = some (g 1 (46 + 9 * q + w), g) := by
  unfold cf_X12_of
  rw [a46, nI_add, kchk_t (nI_kin (by omega) (by decide)), nI_clamp (by omega)]
theorem kp_minutes : kP_minutes kR := by
  intro N f g x y hN hR
  obtain ⟨⟨hF, ⟨c0, c1, c2, c3, hI⟩, hZ⟩, -⟩ := id hR
  obtain ⟨g0, -, g2, -, hc0, -, hc2, -⟩ := id hI.1
  obtain ⟨b4, b5, -⟩ := id hI.2.1
  have f0 : f 1 0 = nI c0 := (FRel_at hF (j := 0) (a := 1) (k := 0) (by decide)).symm.trans g0
  have f2 : f 1 2 = nI c2 := (FRel_at hF (j := 2) (a := 1) (k := 2) (by decide)).symm.trans g2
  have f4 : g 1 4 = f 0 8 := FRel_at hF (j := 4) (a := 0) (k := 8) (by decide)
  have f5 : g 1 5 = f 0 7 := FRel_at hF (j := 5) (a := 0) (k := 7) (by decide)
  have G0 : kup g 0 18 0 1 0 = nI c0 := g0
  have G4 : kup g 0 18 0 1 4 = f 0 8 := f4
  have G5 : kup g 0 18 0 1 5 = f 0 7 := f5
  unfold cx_X11_minutes cf_X12_minutes
  rw [kmem_s]
  by_cases hx : rl x c0
  · rw [c_isC1 (by omega) f0 hx, kbind_s, keq_f (by decide), m_isC1 (by omega) G0 hx, kbind_s, keq_f (by decide)]
    by_cases hy : inb y 1 200
    · rw [c_in1 hy, kbind_s, keq_f (by decide), m_in1 hy, kbind_s, keq_f (by decide), G4]
      rw [f4] at b4
      rw [f5] at b5
      rcases b4 with h | ⟨m, h, hm⟩
      · rw [h]
        exact q_no hR (n := 1) (by decide) (by decide) (by rw [c_isF0 (by omega) f2 (fun ⟨m, e, hm⟩ => nI_m1 (n := m) (by omega) e.symm), kbind_s, keq_t rfl]) (by rw [kle_f (by decide)]; rfl)
      · rw [h, c_isF1 (by omega) f2 ⟨m, rfl, hm⟩, kbind_s, keq_f (by decide), kle_t (nI_pos' (by omega)), show (0 : Int32) = nI 0 from rfl, m_of (by omega) (by decide), kbind_s]
        obtain ⟨n, -, e1, e2⟩ := p_purge (g := kup g 0 18 (nI 0)) hF hI b5 hx
        have G5' : kup g 0 18 (nI 0) 1 5 = f 0 7 := f5
        rw [e1, kbind_s, G5', e2, kbind_s, h, kchk_t (nI_kin (by omega) (by decide)), nI_clamp (by omega)]
        have q4 : kup g 0 18 (nI 0) 1 (46 + 9 * m + 0) = f 4 m := (hF.2 m (by omega)).1
        rw [q4]
        exact q_yes hR rfl (by rw [Int32.mul_comm]; rfl)
    · exact q_no hR (n := 2) (by decide) (by decide) (by rw [c_in0 hy, kbind_s, keq_t rfl]) (by rw [m_in0 hy, kbind_s, keq_t rfl]; rfl)
  · exact q_no hR (n := 3) (by decide) (by decide) (by rw [c_isC0 (by omega) f0 hx, kbind_s, keq_t rfl]) (by rw [m_isC0 (by omega) G0 hx, kbind_s, keq_t rfl]; rfl)
theorem lp_due {f g : kMem} {w : Int32} {c : Nat} (hc : c ≤ 10) (hF : FRel f (g 1)) (hg : g 1 3 = nI c) (hf : f 18 0 = nI c) : ∀ (k u i : Nat) (x : Int32), i + k = c → k < u → ∃ r, cl_X6_openUpTo_4 u f w x (nI i) = some (r, f) ∧ cl_X12_due_19 u g w x (nI i) = some (r, g)
  | 0, u + 1, i, x, h1, h2 => by
    unfold cl_X6_openUpTo_4 cl_X12_due_19
    rw [hf, hg, kle_t (by rw [show i = c by omega]; exact Int32.le_refl _), kle_t (by rw [show i = c by omega]; exact Int32.le_refl _)]
    exact ⟨x, rfl, rfl⟩
  | k + 1, u + 1, i, x, h1, h2 => by
    obtain ⟨-, -, -, q3, q4, -⟩ := mcs_19 i (by omega)
    have e3 := FRel_at hF q3
    have e4 := FRel_at hF q4
    unfold cl_X6_openUpTo_4 cl_X12_due_19 cf_X6_isOpen
    rw [hf, hg, kle_f (fun q => by have := (nI_le_iff (by omega) (by omega)).mp q; omega), kle_f (fun q => by have := (nI_le_iff (by omega) (by omega)).mp q; omega), show (4 : Int32) = nI 4 from rfl, show (3 : Int32) = nI 3 from rfl, m_ordered (by omega) (by decide), kbind_s, m_ordered (by omega) (by decide), kbind_s, kchk_t (nI_kin (by omega) (by decide)), nI_clamp (by omega), show 253 + 6 * i + 4 = 257 + 6 * i by omega, show 253 + 6 * i + 3 = 256 + 6 * i by omega, e3, e4, show nI i + Int32.ofInt 1 = nI (i + 1) from nI_1 i]
    by_cases h0 : f 23 i = 0
    · rw [keq_t h0, keq_t h0, kbind_s, keq_f (by decide), kchk_t (nI_kin (by omega) (by decide))]
      by_cases hw : w < f 22 i
      · rw [klt_t hw, klt_t hw, klet_s, klet_s, klet_s, Int32.or_zero]
        exact lp_due hc hF hg hf k u (i + 1) x (by omega) (by omega)
      · rw [klt_f hw, klt_f hw, klet_s, klet_s, klet_s, klet_s]
        exact lp_due hc hF hg hf k u (i + 1) _ (by omega) (by omega)
    · rw [keq_f h0, keq_f h0, kbind_s, keq_t rfl, klet_s, klet_s, klet_s, Int32.or_zero]
      exact lp_due hc hF hg hf k u (i + 1) x (by omega) (by omega)
theorem kp_due : kP_due kR := by
  intro N f g x hN hR
  obtain ⟨⟨hF, ⟨c0, c1, c2, c3, hI⟩, hZ⟩, -⟩ := id hR
  obtain ⟨-, -, -, g3, -, -, -, hc3⟩ := id hI.1
  have f3 : f 18 0 = nI c3 := (FRel_at hF (j := 3) (a := 18) (k := 0) (by decide)).symm.trans g3
  unfold cx_X11_due cf_X12_due
  rw [kmem_s]
  by_cases h0 : (0 : Int32) ≤ x
  · rw [kle_t h0, kle_t h0]
    obtain ⟨r, e1, e2⟩ := lp_due (f := f) (g := kup g 0 18 0) (w := x) hc3 hF g3 f3 c3 100 0 0 (by omega) (by omega)
    refine q_yes hR (r := r) ?_ e2
    unfold cf_X6_openUpTo
    rw [show cl_X6_openUpTo_4 100 f x 0 0 = some (r, f) from e1]
    rfl
  · rw [kle_f h0, kle_f h0]
    exact q_no hR (n := 2) (by decide) (by decide) rfl rfl
theorem kp_stock : kP_stock kR := by
  intro N f g x y w hN hR
  obtain ⟨⟨hF, ⟨c0, c1, c2, c3, hI⟩, hZ⟩, -⟩ := id hR
  obtain ⟨g0, g1, -, -, hc0, hc1, -, -⟩ := id hI.1
  have f0 : f 1 0 = nI c0 := (FRel_at hF (j := 0) (a := 1) (k := 0) (by decide)).symm.trans g0
  have f1 : f 1 1 = nI c1 := (FRel_at hF (j := 1) (a := 1) (k := 1) (by decide)).symm.trans g1
  have G0 : kup g 0 18 0 1 0 = nI c0 := g0
  have G1 : kup g 0 18 0 1 1 = nI c1 := g1
  unfold cx_X11_stock cf_X12_stock
  rw [kmem_s]
  by_cases hx : rl x c1
  · rw [c_isP1 (by omega) f1 hx, kbind_s, keq_f (by decide), m_isP1 (by omega) G1 hx, kbind_s, keq_f (by decide)]
    by_cases hy : rl y c0
    · rw [c_isC1 (by omega) f0 hy, kbind_s, keq_f (by decide), m_isC1 (by omega) G0 hy, kbind_s, keq_f (by decide), klet_s]
      unfold cf_X12_place
      obtain ⟨a, rfl, ha⟩ := hx
      obtain ⟨b, rfl, hb⟩ := hy
      obtain ⟨q1, q2, q3⟩ := mcs_13 (6 * a + b) (by omega)
      rw [kbind_s, show nI a * 6 + nI b = nI (6 * a + b) by rw [show (6 : Int32) = nI 6 from rfl, nI_mul, nI_add, Nat.mul_comm], show (6 : Int32) * nI a + nI b = nI (6 * a + b) by rw [show (6 : Int32) = nI 6 from rfl, nI_mul, nI_add]]
      have A1 : (109 : Int32) + nI (6 * a + b) = nI (109 + (6 * a + b)) := nI_add 109 _
      have A2 : (157 : Int32) + nI (6 * a + b) = nI (157 + (6 * a + b)) := nI_add 157 _
      have A3 : (205 : Int32) + nI (6 * a + b) = nI (205 + (6 * a + b)) := nI_add 205 _
      have hk : kin (nI (6 * a + b)) 48 = true := nI_kin (by omega) (by decide)
      by_cases h0 : w = 0
      · refine q_yes hR (r := f 13 (6 * a + b)) (by rw [keq_t h0, kchk_t hk, nI_clamp (by omega)]) ?_
        rw [keq_t h0, A1, kchk_t (nI_kin (by omega) (by decide)), nI_clamp (by omega), ← FRel_at hF q1]
        rfl
      by_cases h1 : w = 1
      · refine q_yes hR (r := f 14 (6 * a + b)) (by rw [keq_f h0, keq_t h1, kchk_t hk, nI_clamp (by omega)]) ?_
        rw [keq_f h0, keq_t h1, A2, kchk_t (nI_kin (by omega) (by decide)), nI_clamp (by omega), ← FRel_at hF q2]
        rfl
      by_cases h2 : w = 2
      · refine q_yes hR (r := f 15 (6 * a + b)) (by rw [keq_f h0, keq_f h1, keq_t h2, kchk_t hk, nI_clamp (by omega)]) ?_
        rw [keq_f h0, keq_f h1, keq_t h2, A3, kchk_t (nI_kin (by omega) (by decide)), nI_clamp (by omega), ← FRel_at hF q3]
        rfl
      exact q_no hR (n := 2) (by decide) (by decide) (by rw [keq_f h0, keq_f h1, keq_f h2]) (by rw [keq_f h0, keq_f h1, keq_f h2]; rfl)
    · exact q_no hR (n := 3) (by decide) (by decide) (by rw [c_isC0 (by omega) f0 hy, kbind_s, keq_t rfl]; rfl) (by rw [m_isC0 (by omega) G0 hy, kbind_s, keq_t rfl]; rfl)
  · exact q_no hR (n := 3) (by decide) (by decide) (by rw [c_isP0 (by omega) f1 hx, kbind_s, keq_t rfl]; rfl) (by rw [m_isP0 (by omega) G1 hx, kbind_s, keq_t rfl]; rfl)
