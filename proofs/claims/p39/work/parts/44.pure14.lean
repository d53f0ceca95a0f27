/-! made -/
theorem pl1 (a b : Nat) : nI a * 6 + nI b = nI (6 * a + b) := by rw [show (6 : Int32) = nI 6 from rfl, nI_mul, nI_add, Nat.mul_comm]
theorem pl2 (a b : Nat) : (6 : Int32) * nI a + nI b = nI (6 * a + b) := by rw [show (6 : Int32) = nI 6 from rfl, nI_mul, nI_add]
theorem lp_crates {f g : kMem} {a : Nat} (ha : a < 8) (hF : FRel f (g 1)) : ∀ (k u i : Nat) (x : Int32), i + k = 6 → k < u → ∃ r, cl_X9_cratesOf_4 u f (nI a) x (nI i) = some (r, f) ∧ ∀ Y : kMem → Int32 → Int32 → Option (Int32 × kMem), cl_X12_made_65 Y u g (nI a) x (nI i) = Y g (nI a) r
  | 0, u + 1, i, x, h1, h2 => by
    have hi : i = 6 := by omega
    subst hi
    unfold cl_X9_cratesOf_4 cl_X12_made_65
    refine ⟨x, by rw [kle_t (by decide)], fun Y => by rw [kle_t (by decide)]⟩
  | k + 1, u + 1, i, x, h1, h2 => by
    obtain ⟨q1, q2, q3⟩ := mcs_13 (6 * a + i) (by omega)
    obtain ⟨r, e1, e2⟩ := lp_crates ha hF k u (i + 1) (x + (g 1 (109 + (6 * a + i)) + g 1 (205 + (6 * a + i)))) (by omega) (by omega)
    refine ⟨r, ?_, fun Y => ?_⟩
    · unfold cl_X9_cratesOf_4
      rw [kle_f (fun q => by have := (nI_le_iff (a := 6) (by omega) (by omega)).mp q; omega), klet_s, pl1, kchk_t (nI_kin (by omega) (by decide)), kchk_t (nI_kin (by omega) (by decide)), nI_clamp (by omega), klet_s, klet_s, show nI i + Int32.ofInt 1 = nI (i + 1) from nI_1 i, ← FRel_at hF q1, ← FRel_at hF q3]
      exact e1
    · unfold cl_X12_made_65 cf_X12_place
      rw [kle_f (fun q => by have := (nI_le_iff (a := 6) (by omega) (by omega)).mp q; omega), pl2, kbind_s, show (109 : Int32) + nI (6 * a + i) = nI (109 + (6 * a + i)) from nI_add 109 _, kchk_t (nI_kin (by omega) (by decide)), kbind_s, show (205 : Int32) + nI (6 * a + i) = nI (205 + (6 * a + i)) from nI_add 205 _, kchk_t (nI_kin (by omega) (by decide)), nI_clamp (n := 109 + (6 * a + i)) (by omega), nI_clamp (n := 205 + (6 * a + i)) (by omega), klet_s, klet_s, show nI i + Int32.ofInt 1 = nI (i + 1) from nI_1 i]
      exact e2 Y
theorem lp_rest {f g : kMem} {a : Nat} (ha : a < 8) (hF : FRel f (g 1)) : ∀ (k u i : Nat) (x : Int32), i + k = 6 → k < u → ∃ r, cl_X9_restOf_4 u f (nI a) x (nI i) = some (r, f) ∧ cl_X12_made_126 u g (nI a) x (nI i) = some (r, g)
  | 0, u + 1, i, x, h1, h2 => by
    have hi : i = 6 := by omega
    subst hi
    unfold cl_X9_restOf_4 cl_X12_made_126
    exact ⟨x, by rw [kle_t (by decide)], by rw [kle_t (by decide)]⟩
  | k + 1, u + 1, i, x, h1, h2 => by
    obtain ⟨-, q2, -⟩ := mcs_13 (6 * a + i) (by omega)
    obtain ⟨r, e1, e2⟩ := lp_rest ha hF k u (i + 1) (x + g 1 (157 + (6 * a + i))) (by omega) (by omega)
    refine ⟨r, ?_, ?_⟩
    · unfold cl_X9_restOf_4
      rw [kle_f (fun q => by have := (nI_le_iff (a := 6) (by omega) (by omega)).mp q; omega), pl1, kchk_t (nI_kin (by omega) (by decide)), nI_clamp (by omega), klet_s, klet_s, show nI i + Int32.ofInt 1 = nI (i + 1) from nI_1 i, ← FRel_at hF q2]
      exact e1
    · unfold cl_X12_made_126 cf_X12_place
      rw [kle_f (fun q => by have := (nI_le_iff (a := 6) (by omega) (by omega)).mp q; omega), pl2, kbind_s, show (157 : Int32) + nI (6 * a + i) = nI (157 + (6 * a + i)) from nI_add 157 _, kchk_t (nI_kin (by omega) (by decide)), nI_clamp (n := 157 + (6 * a + i)) (by omega), klet_s, klet_s, show nI i + Int32.ofInt 1 = nI (i + 1) from nI_1 i]
      exact e2
theorem kp_made : kP_made kR := by
  intro N f g x y hN hR
  obtain ⟨⟨hF, ⟨c0, c1, c2, c3, hI⟩, hZ⟩, -⟩ := id hR
  obtain ⟨-, g1, -, -, -, hc1, -, -⟩ := id hI.1
  have f1 : f 1 1 = nI c1 := (FRel_at hF (j := 1) (a := 1) (k := 1) (by decide)).symm.trans g1
  have G1 : kup g 0 18 0 1 1 = nI c1 := g1
  unfold cx_X11_made cf_X12_made
  rw [kmem_s]
  by_cases hx : rl x c1
  · rw [c_isP1 (by omega) f1 hx, kbind_s, keq10, m_isP1 (by omega) G1 hx, kbind_s, keq10]
    obtain ⟨a, rfl, ha⟩ := hx
    have hk : kin (nI a) 8 = true := nI_kin (by omega) (by decide)
    have hcl : (nI a).toNatClampNeg = a := nI_clamp (by omega)
    by_cases h0 : y = 0
    · exact q_yes hR (r := f 16 a) (by rw [keq_t h0, kchk_t hk, hcl]) (by
        rw [keq_t h0, show (30 : Int32) + nI a = nI (30 + a) from nI_add 30 a, kchk_t (nI_kin (by omega) (by decide)), nI_clamp (by omega)]
        exact congrArg (fun q => some (q, kup g 0 18 0)) (FRel_at hF (mcs_16 a (by omega))))
    rw [keq_f h0, keq_f h0]
    by_cases h1 : y = 1
    · obtain ⟨r, e1, e2⟩ := lp_crates (f := f) (g := kup g 0 18 0) (a := a) (by omega) hF 6 100 0 0 (by omega) (by omega)
      unfold cf_X9_cratesOf
      refine q_yes hR (r := r * f 3 a) ?_ ?_
      · rw [keq_t h1, show cl_X9_cratesOf_4 100 f (nI a) 0 0 = some (r, f) from e1, kbind_s, kchk_t hk, hcl]
      · rw [keq_t h1]
        refine (e2 _).trans ?_
        rw [show (22 : Int32) + nI a = nI (22 + a) from nI_add 22 a, kchk_t (nI_kin (by omega) (by decide)), nI_clamp (by omega)]
        exact congrArg (fun q => some (r * q, kup g 0 18 0)) (FRel_at hF (mcs_3 a (by omega)))
    rw [keq_f h1, keq_f h1]
    by_cases h2 : y = 2
    · obtain ⟨r, e1, e2⟩ := lp_rest (f := f) (g := kup g 0 18 0) (a := a) (by omega) hF 6 100 0 0 (by omega) (by omega)
      unfold cf_X9_restOf
      exact q_yes hR (r := r) (by rw [keq_t h2, show cl_X9_restOf_4 100 f (nI a) 0 0 = some (r, f) from e1, kbind_s]) (by rw [keq_t h2]; exact e2)
    rw [keq_f h2, keq_f h2]
    by_cases h3 : y = 3
    · exact q_yes hR (r := f 17 a) (by rw [keq_t h3, kchk_t hk, hcl]) (by
        rw [keq_t h3, show (38 : Int32) + nI a = nI (38 + a) from nI_add 38 a, kchk_t (nI_kin (by omega) (by decide)), nI_clamp (by omega)]
        exact congrArg (fun q => some (q, kup g 0 18 0)) (FRel_at hF (mcs_17 a (by omega))))
    exact q_no hR (n := 2) (by decide) (by decide) (by rw [keq_f h3]) (by rw [keq_f h3]; rfl)
  · exact q_no hR (n := 3) (by decide) (by decide) (by rw [c_isP0 (by omega) f1 hx, kbind_s, keq00]) (by rw [m_isP0 (by omega) G1 hx, kbind_s, keq00]; rfl)
