/-! orders and dryers -/
theorem keq10 {ρ : Type} {X1 X2 : Option ρ} : keq (1 : Int32) 0 X1 X2 = X2 := keq_f (by decide)
theorem keq00 {ρ : Type} {X1 X2 : Option ρ} : keq (0 : Int32) 0 X1 X2 = X1 := keq_t rfl
theorem kxbind_s {r : Int32} {f1 : kMem} {Y : Int32 → kMem → Option kXr} : kxbind (some (0, r, f1)) Y = Y r f1 := rfl
theorem kp_orderOf : kP_orderOf kR := by
  intro N f g x y hN hR
  obtain ⟨⟨hF, ⟨c0, c1, c2, c3, hI⟩, hZ⟩, -⟩ := id hR
  obtain ⟨-, -, -, g3, -, -, -, hc3⟩ := id hI.1
  have f3 : f 18 0 = nI c3 := (FRel_at hF (j := 3) (a := 18) (k := 0) (by decide)).symm.trans g3
  have G3 : kup g 0 18 0 1 3 = nI c3 := g3
  unfold cx_X11_orderOf cf_X12_orderOf cx_X11_checkOrder
  rw [kmem_s]
  by_cases hx : rl x c3
  · rw [c_isO1 (by omega) f3 hx, kbind_s, keq10, kxbind_s, m_isO1 (by omega) G3 hx, kbind_s, keq10]
    obtain ⟨o, rfl, ho⟩ := hx
    obtain ⟨q0, q1, q2, q3, q4, q5⟩ := mcs_19 o (by omega)
    have hk : kin (nI o) 10 = true := nI_kin (by omega) (by decide)
    have hcl : (nI o).toNatClampNeg = o := nI_clamp (by omega)
    by_cases hy : inb y 0 5
    · obtain ⟨w, rfl, -, hw⟩ := (inb_rg (A := 0) (B := 5) (by decide) (by decide)).mp hy
      rw [m_in1 hy, kbind_s, keq10, m_ordered (by omega) (by omega), kbind_s]
      rcases (show w = 0 ∨ w = 1 ∨ w = 2 ∨ w = 3 ∨ w = 4 ∨ w = 5 by omega) with rfl | rfl | rfl | rfl | rfl | rfl
      · exact q_yes hR (r := f 19 o) (by rw [keq_t (by decide), kchk_t hk, hcl]) (by rw [← FRel_at hF q0]; rfl)
      · exact q_yes hR (r := f 20 o) (by rw [keq_f (by decide), keq_t (by decide), kchk_t hk, hcl]) (by rw [← FRel_at hF q1, show 254 + 6 * o = 253 + 6 * o + 1 by omega]; rfl)
      · exact q_yes hR (r := f 21 o) (by rw [keq_f (by decide), keq_f (by decide), keq_t (by decide), kchk_t hk, hcl]) (by rw [← FRel_at hF q2, show 255 + 6 * o = 253 + 6 * o + 2 by omega]; rfl)
      · exact q_yes hR (r := f 22 o) (by rw [keq_f (by decide), keq_f (by decide), keq_f (by decide), keq_t (by decide), kchk_t hk, hcl]) (by rw [← FRel_at hF q3, show 256 + 6 * o = 253 + 6 * o + 3 by omega]; rfl)
      · exact q_yes hR (r := f 23 o) (by rw [keq_f (by decide), keq_f (by decide), keq_f (by decide), keq_f (by decide), keq_t (by decide), kchk_t hk, hcl]) (by rw [← FRel_at hF q4, show 257 + 6 * o = 253 + 6 * o + 4 by omega]; rfl)
      · exact q_yes hR (r := f 24 o) (by rw [keq_f (by decide), keq_f (by decide), keq_f (by decide), keq_f (by decide), keq_f (by decide), keq_t (by decide), kchk_t hk, hcl]) (by rw [← FRel_at hF q5, show 258 + 6 * o = 253 + 6 * o + 5 by omega]; rfl)
    · have hn : ∀ k : Nat, k ≤ 5 → ¬ y = nI k := fun k hk e => hy ((inb_rg (A := 0) (B := 5) (by decide) (by decide)).mpr ⟨k, e, by omega, hk⟩)
      refine q_no hR (n := 2) (by decide) (by decide) ?_ ?_
      · rw [keq_f (show ¬ y = 0 from hn 0 (by decide)), keq_f (show ¬ y = 1 from hn 1 (by decide)), keq_f (show ¬ y = 2 from hn 2 (by decide)), keq_f (show ¬ y = 3 from hn 3 (by decide)), keq_f (show ¬ y = 4 from hn 4 (by decide)), keq_f (show ¬ y = 5 from hn 5 (by decide))]
      · rw [m_in0 hy, kbind_s, keq00]
        rfl
  · exact q_no hR (n := 3) (by decide) (by decide) (by rw [c_isO0 (by omega) f3 hx, kbind_s, keq00]; rfl) (by rw [m_isO0 (by omega) G3 hx, kbind_s, keq00]; rfl)
theorem kp_letter : kP_letter kR := by
  intro N f g x hN hR
  obtain ⟨⟨hF, ⟨c0, c1, c2, c3, hI⟩, hZ⟩, -⟩ := id hR
  obtain ⟨-, -, -, g3, -, -, -, hc3⟩ := id hI.1
  have f3 : f 18 0 = nI c3 := (FRel_at hF (j := 3) (a := 18) (k := 0) (by decide)).symm.trans g3
  have G3 : kup g 0 18 0 1 3 = nI c3 := g3
  unfold cx_X11_letter cf_X12_letter cx_X11_checkOrder
  rw [kmem_s]
  by_cases hx : rl x c3
  · rw [c_isO1 (by omega) f3 hx, kbind_s, keq10, kxbind_s, m_isO1 (by omega) G3 hx, kbind_s, keq10]
    obtain ⟨o, rfl, ho⟩ := hx
    obtain ⟨-, -, -, s, s1, -, s3⟩ := hI.2.2.2.2.2 o ho
    obtain ⟨-, -, -, -, q4, q5⟩ := mcs_19 o (by omega)
    have hk : kin (nI o) 10 = true := nI_kin (by omega) (by decide)
    have hcl : (nI o).toNatClampNeg = o := nI_clamp (by omega)
    have e4 : f 23 o = nI s := (FRel_at hF q4).symm.trans s1
    have e4' : kup g 0 18 0 1 (253 + 6 * o + 4) = nI s := by rw [show 253 + 6 * o + 4 = 257 + 6 * o by omega]; exact s1
    have e5' : kup g 0 18 0 1 (253 + 6 * o + 5) = f 24 o := by rw [show 253 + 6 * o + 5 = 258 + 6 * o by omega]; exact FRel_at hF q5
    rw [show (4 : Int32) = nI 4 from rfl, show (5 : Int32) = nI 5 from rfl, m_ordered (by omega) (by decide), kbind_s, e4', m_ordered (by omega) (by decide), kbind_s, e5']
    rcases (show s = 0 ∨ s = 1 ∨ s = 2 by omega) with rfl | rfl | rfl
    · by_cases hl : f 24 o ≤ 0
      · exact q_yes hR (r := 111) (by rw [kchk_t hk, hcl, e4, keq_f (by decide), keq_f (by decide), kchk_t hk, kle_t hl]) (by rw [keq_t (by decide), kle_t hl])
      · exact q_yes hR (r := 108) (by rw [kchk_t hk, hcl, e4, keq_f (by decide), keq_f (by decide), kchk_t hk, kle_f hl]) (by rw [keq_t (by decide), kle_f hl])
    · exact q_yes hR (r := 100) (by rw [kchk_t hk, hcl, e4, keq_t (by decide)]) (by rw [keq_f (by decide), keq_t (by decide)])
    · exact q_yes hR (r := 99) (by rw [kchk_t hk, hcl, e4, keq_f (by decide), keq_t (by decide)]) (by rw [keq_f (by decide), keq_f (by decide)])
  · exact q_no hR (n := 3) (by decide) (by decide) (by rw [c_isO0 (by omega) f3 hx, kbind_s, keq00]; rfl) (by rw [m_isO0 (by omega) G3 hx, kbind_s, keq00]; rfl)
theorem a100 (c : Nat) : (100 : Int32) + 3 * nI c = nI (100 + 3 * c) := by
  rw [show (100 : Int32) = nI 100 from rfl, show (3 : Int32) = nI 3 from rfl, nI_mul, nI_add]
theorem kp_dryer : kP_dryer kR := by
  intro N f g x y hN hR
  obtain ⟨⟨hF, ⟨c0, c1, c2, c3, hI⟩, hZ⟩, -⟩ := id hR
  unfold cx_X11_dryer cf_X12_dryer
  rw [kmem_s]
  by_cases hx : rl x 3
  · rw [c_in1 (inb_3.mpr hx), kbind_s, keq10, m_isD1 hx, kbind_s, keq10]
    obtain ⟨d, rfl, hd⟩ := hx
    obtain ⟨q0, q1, q2⟩ := mcs_9 d hd
    have hk : kin (nI d) 3 = true := nI_kin hd (by decide)
    have hcl : (nI d).toNatClampNeg = d := nI_clamp (by omega)
    have e0 : kup g 0 18 0 1 (100 + 3 * d) = f 9 d := FRel_at hF q0
    have e1 : kup g 0 18 0 1 (100 + 3 * d + 1) = f 10 d := by rw [show 100 + 3 * d + 1 = 101 + 3 * d by omega]; exact FRel_at hF q1
    have e2 : kup g 0 18 0 1 (100 + 3 * d + 2) = f 11 d := by rw [show 100 + 3 * d + 2 = 102 + 3 * d by omega]; exact FRel_at hF q2
    by_cases hy : inb y 0 3
    · obtain ⟨w, rfl, -, hw⟩ := (inb_rg (A := 0) (B := 3) (by decide) (by decide)).mp hy
      rw [m_in1 hy, kbind_s, keq10, klet_s, a100]
      rcases (show w = 0 ∨ w = 1 ∨ w = 2 ∨ w = 3 by omega) with rfl | rfl | rfl | rfl
      · exact q_yes hR (r := f 9 d) (by rw [keq_t (by decide), kchk_t hk, hcl]) (by rw [kle_f (by decide), nI_add, Nat.add_zero, kchk_t (nI_kin (by omega) (by decide)), nI_clamp (by omega), e0])
      · exact q_yes hR (r := f 10 d) (by rw [keq_f (by decide), keq_t (by decide), kchk_t hk, hcl]) (by rw [kle_f (by decide), nI_add, kchk_t (nI_kin (by omega) (by decide)), nI_clamp (by omega), e1])
      · exact q_yes hR (r := f 11 d) (by rw [keq_f (by decide), keq_f (by decide), keq_t (by decide), kchk_t hk, hcl]) (by rw [kle_f (by decide), nI_add, kchk_t (nI_kin (by omega) (by decide)), nI_clamp (by omega), e2])
      · rw [kle_t (by decide), kchk_t (nI_kin (i := 100 + 3 * d) (by omega) (by decide)), nI_clamp (n := 100 + 3 * d) (by omega), e0, keq_f (by decide), keq_f (by decide), keq_f (by decide), keq_t (by decide)]
        unfold cf_X2_lackingMinutes
        rw [kchk_t hk, hcl]
        have hcol : f 9 d = -1 ∨ rl (f 9 d) c0 := by
          rw [← FRel_at hF q0]
          exact (hI.2.2.2.2.1 d hd).imp (fun h => h.1) (fun h => h.1)
        rcases hcol with h | ⟨m, h, hm⟩
        · rw [h, keq_t (by decide), kle_f (by decide)]
          exact q_yes hR (r := 0) rfl rfl
        · have hc0 := hI.1.2.2.2.2.1
          rw [h, keq_f (nI_m1 (by omega)), kle_t (nI_pos' (by omega)), show nI (100 + 3 * d) + 2 = nI (100 + 3 * d + 2) from nI_add _ 2, kchk_t (nI_kin (i := 100 + 3 * d + 2) (by omega) (by decide)), nI_clamp (n := 100 + 3 * d + 2) (by omega), e2, kchk_t hk]
          have e13 : kup g 0 18 0 1 13 = f 7 1 := FRel_at hF (j := 13) (a := 7) (k := 1) (by decide)
          rw [e13]
          exact q_yes hR (r := kmax 0 (f 7 1 - f 11 d)) rfl rfl
    · have hn : ∀ k : Nat, k ≤ 3 → ¬ y = nI k := fun k hk e => hy ((inb_rg (A := 0) (B := 3) (by decide) (by decide)).mpr ⟨k, e, by omega, hk⟩)
      exact q_no hR (n := 2) (by decide) (by decide) (by rw [keq_f (show ¬ y = 0 from hn 0 (by decide)), keq_f (show ¬ y = 1 from hn 1 (by decide)), keq_f (show ¬ y = 2 from hn 2 (by decide)), keq_f (show ¬ y = 3 from hn 3 (by decide))]) (by rw [m_in0 hy, kbind_s, keq00]; rfl)
  · exact q_no hR (n := 3) (by decide) (by decide) (by rw [c_in0 (fun q => hx (inb_3.mp q)), kbind_s, keq00]) (by rw [m_isD0 hx, kbind_s, keq00]; rfl)
