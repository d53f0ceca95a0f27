/-! shots -/
theorem lkf_rg {v : Nat → Int32} {q p n : Nat} (h : ∀ i, i < n → rg (v (52 + 9 * q + i)) 1 9) : ∀ k i, i + k = n → lkf v q p k i = 0 ∨ rg (lkf v q p k i) 1 9
  | 0, i, _ => Or.inl rfl
  | k + 1, i, h1 => by
    unfold lkf
    split
    · exact Or.inr (h i (by omega))
    · exact lkf_rg h k (i + 1) (by omega)
theorem lk_rg {v : Nat → Int32} {c1 q p : Nat} (h : fam v c1 q) : lk v q p = 0 ∨ rg (lk v q p) 1 9 := by
  obtain ⟨n, h1, -, h3, -, -, h6, -⟩ := h
  rw [lk_lkf h1 h3]
  exact lkf_rg (fun i hi => (h6 i hi).2) n 0 (by omega)
theorem sh0 : ∀ e, e < 10 → 0 < e → ((0 : Int32) + nI e - 1) / nI e = 0 := by decide +kernel
theorem kp_shots : kP_shots kR := by
  intro N f g x hN hR
  obtain ⟨⟨hF, ⟨c0, c1, c2, c3, hI⟩, hZ⟩, -⟩ := id hR
  obtain ⟨g0, g1, g2, g3, hc0, hc1, hc2, hc3⟩ := id hI.1
  have f3 : f 18 0 = nI c3 := (FRel_at hF (j := 3) (a := 18) (k := 0) (by decide)).symm.trans g3
  have f2 : f 1 2 = nI c2 := (FRel_at hF (j := 2) (a := 1) (k := 2) (by decide)).symm.trans g2
  have f4 : g 1 4 = f 0 8 := FRel_at hF (j := 4) (a := 0) (k := 8) (by decide)
  have G3 : kup g 0 18 0 1 3 = nI c3 := g3
  have G4 : kup g 0 18 0 1 4 = f 0 8 := f4
  unfold cx_X11_shots cf_X12_shots cx_X11_checkOrder
  rw [kmem_s]
  by_cases hx : rl x c3
  rotate_left
  · exact q_no hR (n := 3) (by decide) (by decide) (by rw [c_isO0 (by omega) f3 hx, kbind_s, keq00]; rfl) (by rw [m_isO0 (by omega) G3 hx, kbind_s, keq00]; rfl)
  rw [c_isO1 (by omega) f3 hx, kbind_s, keq10, kxbind_s, m_isO1 (by omega) G3 hx, kbind_s, keq10]
  obtain ⟨o, rfl, ho⟩ := hx
  obtain ⟨⟨p, hp, hp1⟩, ⟨b, hb, hb0⟩, ⟨cr, hcr, -, -⟩, -⟩ := hI.2.2.2.2.2 o ho
  obtain ⟨q0, q1, q2, -, q4, -⟩ := mcs_19 o (by omega)
  have hk : kin (nI o) 10 = true := nI_kin (by omega) (by decide)
  have hcl : (nI o).toNatClampNeg = o := nI_clamp (by omega)
  have e0 : f 19 o = nI p := (FRel_at hF q0).symm.trans hp
  have e1 : f 20 o = nI b := (FRel_at hF q1).symm.trans hb
  have e2 : f 21 o = nI cr := (FRel_at hF q2).symm.trans hcr
  have m0 : cf_X12_ordered (kup g 0 18 0) (nI o) 0 = some (nI p, kup g 0 18 0) := (m_ordered (w := 0) (by omega) (by decide)).trans (congrArg (fun q => some (q, kup g 0 18 0)) hp)
  have m1 : cf_X12_ordered (kup g 0 18 0) (nI o) 1 = some (nI b, kup g 0 18 0) := (m_ordered (w := 1) (by omega) (by decide)).trans (congrArg (fun q => some (q, kup g 0 18 0)) (by rw [show 253 + 6 * o + 1 = 254 + 6 * o by omega]; exact hb))
  have m2 : cf_X12_ordered (kup g 0 18 0) (nI o) 2 = some (nI cr, kup g 0 18 0) := (m_ordered (w := 2) (by omega) (by decide)).trans (congrArg (fun q => some (q, kup g 0 18 0)) (by rw [show 253 + 6 * o + 2 = 255 + 6 * o by omega]; exact hcr))
  have m4 : cf_X12_ordered (kup g 0 18 0) (nI o) 4 = some (f 23 o, kup g 0 18 0) := (m_ordered (w := 4) (by omega) (by decide)).trans (congrArg (fun q => some (q, kup g 0 18 0)) (by rw [show 253 + 6 * o + 4 = 257 + 6 * o by omega]; exact FRel_at hF q4))
  rw [m0, kbind_s, klet_s, m4, kbind_s, G4]
  unfold cf_X4_piecesFor cf_X6_isOpen
  rw [kchk_t hk, hcl, e0]
  have hm := hI.2.1.1
  rw [f4] at hm
  have hno : ∀ {X : Option (Int32 × kMem)} {Y : Option (Int32 × kMem)}, X = some (0, f) → Y = cj_X12_shots_55 (kup g 0 18 0) → kOk [3, 5] (kbind (kbind X (fun r1 g2 => some (r1, g2))) (fun r3 g4 => kbind (kchk (kin (nI o) 10) (keq (g4 23 o) 0 (some (1, g4)) (some (0, g4)))) (fun r5 g6 => keq r5 0 (cj_X11_shots_32 g6) (klt 0 r3 (kbind (cf_X4_lackingPieces g6 (nI o)) (fun r7 g8 => kchk (!decide (r3 = 0)) (some (0, (((r7 + r3) - 1) / r3), g8)))) (cj_X11_shots_32 g6))))) Y (kR (N + 1)) := fun h1 h2 => by
    refine q_no hR (n := 5) (by decide) (by decide) ?_ (by rw [h2]; rfl)
    rw [h1, kbind_s, kbind_s, kchk_t hk]
    by_cases hs : f 23 o = 0
    · rw [keq_t hs, kbind_s, keq10, klt_f (by decide)]
      rfl
    · rw [keq_f hs, kbind_s, keq00]
      rfl
  by_cases hs : f 23 o = 0
  · rw [keq_t hs]
    rcases hm with h | ⟨m, h, hm⟩
    · rw [h]
      refine hno (X := cf_X0_piecesOf f (-1) (nI p)) ?_ (by rw [klt_t (by decide)])
      unfold cf_X0_piecesOf
      rw [c_isF0 (by omega) f2 (fun ⟨m, e, hm⟩ => nI_m1 (n := m) (by omega) e.symm), kbind_s, keq00]
    · rw [h]
      obtain ⟨w1, w2⟩ := p_pieces (g := kup g 0 18 0) hF hI hm hp1
      rw [klt_f (nI_not_neg (by omega)), w2, kbind_s]
      rcases lk_rg (p := p) (hI.2.2.2.1 m hm) with hz | ⟨e, he, he1, he9⟩
      · have hz' : lk (kup g 0 18 0 1) m p = 0 := hz
        exact hno (X := cf_X0_piecesOf f (nI m) (nI p)) (by rw [w1, hz']) (keq_t hz')
      · have he' : lk (kup g 0 18 0 1) m p = nI e := he
        have hne : ¬ nI e = 0 := nI_ne0 (by omega) (by omega)
        rw [w1, he', kbind_s, kbind_s, kchk_t hk, keq_t hs, kbind_s, keq10, klt_t (show (0 : Int32) < nI e from (nI_lt_iff (a := 0) (by omega) (by omega)).mpr (by omega)), keq_f hne, m1, kbind_s]
        unfold cf_X4_lackingPieces cf_X12_place
        obtain ⟨s1, s2, -⟩ := mcs_13 (6 * p + b) (by omega)
        have t1 : kup g 0 18 0 1 (109 + (6 * p + b)) = f 13 (6 * p + b) := FRel_at hF s1
        have t2 : kup g 0 18 0 1 (157 + (6 * p + b)) = f 14 (6 * p + b) := FRel_at hF s2
        have t3 : kup g 0 18 0 1 (22 + p) = f 3 p := FRel_at hF (mcs_3 p (by omega))
        rw [kbind_s, m2, kbind_s, kchk_t hk, hcl, e0, klet_s, kchk_t hk, e1, pl1, pl2, klet_s, kchk_t hk, e2, kchk_t (nI_kin (i := 6 * p + b) (by omega) (by decide)), nI_clamp (n := 6 * p + b) (by omega), klet_s, show (109 : Int32) + nI (6 * p + b) = nI (109 + (6 * p + b)) from nI_add 109 _, kchk_t (nI_kin (i := 109 + (6 * p + b)) (by omega) (by decide)), nI_clamp (n := 109 + (6 * p + b)) (by omega), t1, klet_s]
        by_cases hl : (0 : Int32) < nI cr - f 13 (6 * p + b)
        · rw [klt_t hl, klt_t hl, kchk_t (nI_kin (i := p) (by omega) (by decide)), kchk_t (nI_kin (i := 6 * p + b) (by omega) (by decide)), nI_clamp (n := p) (by omega), show (22 : Int32) + nI p = nI (22 + p) from nI_add 22 p, kchk_t (nI_kin (i := 22 + p) (by omega) (by decide)), nI_clamp (n := 22 + p) (by omega), show (157 : Int32) + nI (6 * p + b) = nI (157 + (6 * p + b)) from nI_add 157 _, kchk_t (nI_kin (i := 157 + (6 * p + b)) (by omega) (by decide)), nI_clamp (n := 157 + (6 * p + b)) (by omega), t2, t3, klet_s, w2, he', kbind_s, kbind_s, kchk_t (by simp [hne]), kchk_t (by simp [hne])]
          exact q_yes hR rfl rfl
        · rw [klt_f hl, klt_f hl, kbind_s, kchk_t (by simp [hne]), sh0 e (by omega) (by omega)]
          exact q_yes hR rfl rfl
  · rw [keq_f hs]
    refine q_no hR (n := 5) (by decide) (by decide) ?_ rfl
    have hX : ∃ r, cf_X0_piecesOf f (f 0 8) (nI p) = some (r, f) := by
      rcases hm with h | ⟨m, h, hm⟩
      · refine ⟨0, ?_⟩
        unfold cf_X0_piecesOf
        rw [h, c_isF0 (by omega) f2 (fun ⟨m, e, hm⟩ => nI_m1 (n := m) (by omega) e.symm), kbind_s, keq00]
      · rw [h]
        exact ⟨_, (p_pieces hF hI hm hp1).1⟩
    obtain ⟨r, hX⟩ := hX
    rw [hX, kbind_s, kbind_s, kchk_t hk, keq_f hs, kbind_s, keq00]
    rfl
