/-! empty, load -/
theorem upd_comm {v : Nat → Int32} {a b : Nat} {x y : Int32} (h : a ≠ b) : upd (upd v a x) b y = upd (upd v b y) a x := by
  funext j
  by_cases h1 : j = a
  · subst h1
    rw [upd_ne h, upd_eq, upd_eq]
  · rw [upd_ne (f := upd v b y) h1]
    by_cases h2 : j = b
    · subst h2
      rw [upd_eq, upd_eq]
    · rw [upd_ne h2, upd_ne h1, upd_ne h2]
theorem InvC_dry {B c0 c1 c2 c3 d : Nat} {v : Nat → Int32} {x y z : Int32} (h : InvC B v c0 c1 c2 c3) (hd : d < 3) (hx : (x = -1 ∧ y = 0 ∧ z = 0) ∨ (rl x c0 ∧ rg y 1 99999)) : InvC B (upd (upd (upd v (100 + 3 * d) x) (101 + 3 * d) y) (102 + 3 * d) z) c0 c1 c2 c3 := by
  have e : ∀ j, j < 100 ∨ 109 ≤ j → upd (upd (upd v (100 + 3 * d) x) (101 + 3 * d) y) (102 + 3 * d) z j = v j := fun j hj => by rw [upd_ne (by omega), upd_ne (by omega), upd_ne (by omega)]
  obtain ⟨⟨a0, a1, a2, a3, a4⟩, ⟨b4, b5, b8, b12, b13, b14, b15⟩, ⟨d1, d2, d3, d4⟩, ef, m, n⟩ := h
  refine ⟨⟨by rw [e _ (by omega)]; exact a0, by rw [e _ (by omega)]; exact a1, by rw [e _ (by omega)]; exact a2, by rw [e _ (by omega)]; exact a3, a4⟩, ⟨by rw [e _ (by omega)]; exact b4, by rw [e _ (by omega)]; exact b5, by rw [e _ (by omega)]; exact b8, by rw [e _ (by omega)]; exact b12, by rw [e _ (by omega)]; exact b13, by rw [e _ (by omega)]; exact b14, by rw [e _ (by omega)]; exact b15⟩, ⟨fun k hk => by rw [e _ (by omega)]; exact d1 k hk, fun k hk => by rw [e _ (by omega)]; exact d2 k hk, fun k hk => by rw [e _ (by omega)]; exact d3 k hk, fun k hk => by rw [e _ (by omega)]; exact d4 k hk⟩, fun q hq => fam_upd (fam_upd (fam_upd (ef q hq) (by omega)) (by omega)) (by omega), fun i hi => ?_, fun o ho => ?_⟩
  · by_cases hid : i = d
    · subst hid
      rw [upd_ne (j := 100 + 3 * i) (by omega), upd_ne (j := 100 + 3 * i) (by omega), upd_eq, upd_ne (j := 101 + 3 * i) (by omega), upd_eq, upd_eq]
      exact hx
    · rw [upd_ne (j := 100 + 3 * i) (by omega), upd_ne (j := 100 + 3 * i) (by omega), upd_ne (j := 100 + 3 * i) (by omega), upd_ne (j := 101 + 3 * i) (by omega), upd_ne (j := 101 + 3 * i) (by omega), upd_ne (j := 101 + 3 * i) (by omega), upd_ne (j := 102 + 3 * i) (by omega), upd_ne (j := 102 + 3 * i) (by omega), upd_ne (j := 102 + 3 * i) (by omega)]
      exact m i hi
  · rw [e _ (by omega), e _ (by omega), e _ (by omega), e _ (by omega)]
    exact n o ho
theorem n100 {d : Nat} (i : Nat) : nI (100 + 3 * d) + nI i = nI (100 + i + 3 * d) := by rw [nI_add, show 100 + 3 * d + i = 100 + i + 3 * d by omega]
set_option maxRecDepth 20000 in
theorem s_empty (x : Int32) : kSim 0 (fun _ _ => True) (fun f => cf_X2_takeAll f x) (fun g => cf_X12_doesEmpty g x) := by
  intro B f g hB hN hR _
  dsimp only
  obtain ⟨hF, ⟨c0, c1, c2, c3, hI⟩, hZ⟩ := id hN
  have hc0 := hI.1.2.2.2.2.1
  unfold cf_X2_takeAll cf_X12_doesEmpty
  by_cases hx : rl x 3
  · rw [c_in1 (inb_3.mpr hx), kbind_s, keq10, m_isD1 hx, kbind_s, keq10]
    obtain ⟨d, rfl, hd⟩ := hx
    obtain ⟨q0, q1, q2⟩ := mcs_9 d hd
    have hk : kin (nI d) 3 = true := nI_kin hd (by decide)
    have hcl : (nI d).toNatClampNeg = d := nI_clamp (by omega)
    have e0 : g 1 (100 + 3 * d) = f 9 d := FRel_at hF q0
    have e1 : g 1 (101 + 3 * d) = f 10 d := FRel_at hF q1
    have k0 : kin (nI (100 + 3 * d)) 313 = true := nI_kin (by omega) (by decide)
    have k1 : kin (nI (101 + 3 * d)) 313 = true := nI_kin (by omega) (by decide)
    have k2 : kin (nI (102 + 3 * d)) 313 = true := nI_kin (by omega) (by decide)
    have l0 : (nI (100 + 3 * d)).toNatClampNeg = 100 + 3 * d := nI_clamp (by omega)
    have l1 : (nI (101 + 3 * d)).toNatClampNeg = 101 + 3 * d := nI_clamp (by omega)
    have l2 : (nI (102 + 3 * d)).toNatClampNeg = 102 + 3 * d := nI_clamp (by omega)
    have s1 : nI (100 + 3 * d) + 1 = nI (101 + 3 * d) := n100 1
    have s2 : nI (100 + 3 * d) + 2 = nI (102 + 3 * d) := n100 2
    rw [kchk_t hk, hcl, klet_s, klet_s, a100, kchk_t k0, l0, e0, s1, kchk_t k1, l1, e1, klet_s]
    rcases hI.2.2.2.2.1 d hd with ⟨h1, h2, h3⟩ | ⟨⟨m, h1, hm⟩, ⟨n, h2, hn1, hn2⟩⟩
    · rw [e0] at h1
      rw [h1, keq_t rfl, kle_f (by decide)]
      exact sim_no (a := 8) (d := 0) hN (by rw [c_refuse]; rfl) rfl
    · rw [e0] at h1
      rw [e1] at h2
      rw [h1, keq_f (nI_m1 (by omega)), kle_t (nI_pos' (by omega)), kchk_t hk, h2]
      unfold cf_X2_take cf_X12_becomesEmpty
      rw [kchk_t hk, kchk_t hk, hcl, h2, Int32.sub_self, kmem_s, kchk_t hk, keq_t kup_at, kchk_t hk, kmem_s, kchk_t hk, kmem_s, kbind_s, kchk_t k0, l0, kmem_s, s1, kchk_t k1, l1, kmem_s, s2, kchk_t k2, l2, kmem_s, kbind_s]
      refine sim_yes (r := nI n) (f1 := kup (kup (kup f 10 d 0) 9 d (-1)) 11 d 0) (g1 := kup (kup (kup g 1 (100 + 3 * d) (-1)) 1 (101 + 3 * d) 0) 1 (102 + 3 * d) 0) rfl rfl (Fr1_tr (Fr1_tr (Fr1_k (by omega)) (Fr1_k (by omega))) (Fr1_k (by omega))) (Fr2_tr (Fr2_tr (Fr2_k (by omega)) (Fr2_k (by omega))) (Fr2_k (by omega))) (Reas_fr hR rfl rfl rfl rfl rfl rfl) ⟨?_, ⟨c0, c1, c2, c3, InvC_dry hI hd (Or.inl ⟨rfl, rfl, rfl⟩)⟩, kZ_upd (kZ_upd (kZ_upd hZ (by omega)) (by omega)) (by omega)⟩ (nI_not_neg (by omega))
      have h9 := FRel_up 0 (FRel_up (-1) (FRel_up 0 hF q1) q0) q2
      rw [upd_comm (a := 101 + 3 * d) (b := 100 + 3 * d) (by omega)] at h9
      exact h9
  · exact sim_no (a := 1) (d := 0) hN (by rw [c_in0 (fun q => hx (inb_3.mp q)), kbind_s, keq00, c_refuse]; rfl) (by rw [m_isD0 hx, kbind_s, keq00]; rfl)
theorem kp_empty : kP_empty kR := fun N f g a hN hR => kchange (s_empty a) (by decide) hN hR (fun _ _ _ _ => trivial)
set_option maxRecDepth 20000 in
theorem s_load (x y z : Int32) : kSim 0 (fun _ _ => True) (fun f => cf_X4_loadDryer f x y z) (fun g => cf_X12_doesLoad g x y z) := by
  intro B f g hB hN hR _
  dsimp only
  obtain ⟨hF, ⟨c0, c1, c2, c3, hI⟩, hZ⟩ := id hN
  obtain ⟨g0, -, -, -, hc0, -⟩ := id hI.1
  have f0 : f 1 0 = nI c0 := (FRel_at hF (j := 0) (a := 1) (k := 0) (by decide)).symm.trans g0
  unfold cf_X4_loadDryer cf_X12_doesLoad
  by_cases hx : rl x 3
  rotate_left
  · exact sim_no (a := 1) (d := 0) hN (by rw [c_in0 (fun q => hx (inb_3.mp q)), kbind_s, keq00]; unfold cj_X4_loadDryer_20; rw [c_refuse]; rfl) (by rw [m_isD0 hx, kbind_s, keq00]; rfl)
  rw [c_in1 (inb_3.mpr hx), kbind_s, keq10, m_isD1 hx, kbind_s, keq10]
  by_cases hy : rl y c0
  rotate_left
  · exact sim_no (a := 1) (d := 0) hN (by rw [c_isC0 (by omega) f0 hy, kbind_s, keq00]; unfold cj_X4_loadDryer_20; rw [c_refuse]; rfl) (by rw [m_isC0 (by omega) g0 hy, kbind_s, keq00]; rfl)
  rw [c_isC1 (by omega) f0 hy, kbind_s, keq10, m_isC1 (by omega) g0 hy, kbind_s, keq10]
  unfold cf_X2_fill
  by_cases hz : inb z 1 99999
  rotate_left
  · exact sim_no (a := 2) (d := 0) hN (by rw [c_in0 hz, kbind_s, keq00, c_refuse]; rfl) (by rw [m_in0 hz, kbind_s, keq00]; rfl)
  rw [c_in1 hz, kbind_s, keq10, m_in1 hz, kbind_s, keq10]
  obtain ⟨t, rfl, ht1, ht2⟩ := (inb_rg (A := 1) (B := 99999) (by decide) (by decide)).mp hz
  obtain ⟨d, rfl, hd⟩ := hx
  obtain ⟨q0, q1, q2⟩ := mcs_9 d hd
  have hk : kin (nI d) 3 = true := nI_kin hd (by decide)
  have hcl : (nI d).toNatClampNeg = d := nI_clamp (by omega)
  have e0 : g 1 (100 + 3 * d) = f 9 d := FRel_at hF q0
  have e1 : g 1 (101 + 3 * d) = f 10 d := FRel_at hF q1
  have k0 : kin (nI (100 + 3 * d)) 313 = true := nI_kin (by omega) (by decide)
  have k1 : kin (nI (101 + 3 * d)) 313 = true := nI_kin (by omega) (by decide)
  have k2 : kin (nI (102 + 3 * d)) 313 = true := nI_kin (by omega) (by decide)
  have l0 : (nI (100 + 3 * d)).toNatClampNeg = 100 + 3 * d := nI_clamp (by omega)
  have l1 : (nI (101 + 3 * d)).toNatClampNeg = 101 + 3 * d := nI_clamp (by omega)
  have l2 : (nI (102 + 3 * d)).toNatClampNeg = 102 + 3 * d := nI_clamp (by omega)
  have s1 : nI (100 + 3 * d) + 1 = nI (101 + 3 * d) := n100 1
  have s2 : nI (100 + 3 * d) + 2 = nI (102 + 3 * d) := n100 2
  obtain ⟨a, ha, ha2⟩ : ∃ a, f 10 d = nI a ∧ a ≤ 99999 := by
    rw [← e1]
    rcases hI.2.2.2.2.1 d hd with ⟨-, h, -⟩ | ⟨-, n, h, -, h2⟩
    · exact ⟨0, h, by omega⟩
    · exact ⟨n, h, h2⟩
  have key : kO (kbind (cj_X2_fill_52 f (nI d) y (nI t)) (fun r7 g8 => some (r7, g8))) (fun z => kO (cj_X12_doesLoad_82 g y (nI t) (nI (100 + 3 * d))) (fun y => Fr1 f z.2 ∧ Fr2 g y.2 ∧ Reas z.2 y.2 ∧ Now (B + 0) z.2 y.2 ∧ ((z.1 = -1 ∧ y.1 = 0 ∧ Rs2 f z.2) ∨ (¬ z.1 < 0 ∧ y.1 = 1 ∧ y.2 0 13 = z.1)))) := by
    unfold cj_X2_fill_52 cj_X12_doesLoad_82
    rw [kchk_t hk, hcl, s1, kchk_t k1, l1, e1, ha, nI_add]
    by_cases hs : a + t ≤ 99999
    · have hs' : nI (a + t) ≤ 99999 := (nI_le_iff (b := 99999) (by omega) (by decide)).mpr hs
      rw [kle_t hs', kle_t hs', kchk_t hk, kmem_s (h := kup f 9 d y), kchk_t hk, kchk_t hk, kchk_t k0, l0, kmem_s (h := kup g 1 (100 + 3 * d) y)]
      have w1 : kup f 9 d y 10 d = nI a := ha
      have w2 : kup g 1 (100 + 3 * d) y 1 (101 + 3 * d) = nI a := by rw [kup_nk (by omega), e1, ha]
      rw [w1, w2, nI_add, kmem_s, kchk_t hk, kmem_s, kchk_t hk, kbind_s, kchk_t k1, kchk_t k1, kmem_s, s2, kchk_t k2, l2, kmem_s, kchk_t k1]
      have w3 : kup (kup (kup g 1 (100 + 3 * d) y) 1 (101 + 3 * d) (nI (a + t))) 1 (102 + 3 * d) 0 1 (101 + 3 * d) = nI (a + t) := by rw [kup_nk (by omega), kup_at]
      rw [w3]
      exact sim_yes (r := nI (a + t)) (f1 := kup (kup (kup f 9 d y) 10 d (nI (a + t))) 11 d 0) (g1 := kup (kup (kup g 1 (100 + 3 * d) y) 1 (101 + 3 * d) (nI (a + t))) 1 (102 + 3 * d) 0) (congrArg (fun q => some (q, kup (kup (kup f 9 d y) 10 d (nI (a + t))) 11 d 0)) (by rw [kup_ne _ _ _ (by decide), kup_at])) rfl (Fr1_tr (Fr1_tr (Fr1_k (by omega)) (Fr1_k (by omega))) (Fr1_k (by omega))) (Fr2_tr (Fr2_tr (Fr2_k (by omega)) (Fr2_k (by omega))) (Fr2_k (by omega))) (Reas_fr hR rfl rfl rfl rfl rfl rfl) ⟨FRel_up 0 (FRel_up _ (FRel_up _ hF q0) q1) q2, ⟨c0, c1, c2, c3, InvC_dry hI hd (Or.inr ⟨hy, a + t, rfl, by omega, hs⟩)⟩, kZ_upd (kZ_upd (kZ_upd hZ (by omega)) (by omega)) (by omega)⟩ (nI_not_neg (by omega))
    · have hs' : ¬ nI (a + t) ≤ 99999 := fun q => hs ((nI_le_iff (b := 99999) (by omega) (by decide)).mp q)
      rw [kle_f hs', kle_f hs']
      exact sim_no (a := 7) (d := 0) hN (by rw [c_refuse]; rfl) rfl
  rw [kchk_t hk, hcl, klet_s, a100, kchk_t k0, l0, e0]
  rcases hI.2.2.2.2.1 d hd with ⟨h1, -, -⟩ | ⟨⟨m, h1, hm⟩, -⟩
  · rw [e0] at h1
    rw [h1, keq_t rfl, klt_t (by decide)]
    exact key
  · rw [e0] at h1
    rw [h1, keq_f (nI_m1 (by omega)), klt_f (nI_not_neg (by omega)), kchk_t hk, kchk_t k0]
    by_cases hmy : nI m = y
    · rw [keq_t hmy, keq_t hmy]
      exact key
    · rw [keq_f hmy, keq_f hmy, kchk_t hk, kchk_t k0]
      exact sim_no (a := 6) (d := nI m) hN (by rw [c_refuse]; rfl) rfl
theorem kp_load : kP_load kR := fun N f g a b c hN hR => kchange (s_load a b c) (by decide) hN hR (fun _ _ _ _ => trivial)
