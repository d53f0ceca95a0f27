/-! order, callOff
-/
theorem a253 (c : Nat) : (253 : Int32) + 6 * nI c = nI (253 + 6 * c) := by
  rw [show (253 : Int32) = nI 253 from rfl, show (6 : Int32) = nI 6 from rfl, nI_mul, nI_add]
theorem nI_add' {a : Nat} {y : Int32} (b : Nat) (h : y = nI b) : nI a + y = nI (a + b) := by rw [h, nI_add]
set_option maxRecDepth 20000 in
theorem s_order (x1 x2 x3 x4 : Int32) : kSim 0 (fun _ _ => True) (fun f => cf_X4_addOrder f x1 x2 x3 x4) (fun g => cf_X12_doesOrder g x1 x2 x3 x4) := by
  intro B f g hB hN hR _
  dsimp only
  obtain ⟨hF, ⟨c0, c1, c2, c3, hI⟩, hZ⟩ := id hN
  obtain ⟨g0, g1, g2, g3, hc0, hc1, hc2, hc3⟩ := id hI.1
  have f0 : f 1 0 = nI c0 := (FRel_at hF (j := 0) (a := 1) (k := 0) (by decide)).symm.trans g0
  have f1 : f 1 1 = nI c1 := (FRel_at hF (j := 1) (a := 1) (k := 1) (by decide)).symm.trans g1
  have f3 : f 18 0 = nI c3 := (FRel_at hF (j := 3) (a := 18) (k := 0) (by decide)).symm.trans g3
  have no1 : ∀ {X Y : Option (Int32 × kMem)}, X = cj_X4_addOrder_22 f → Y = cj_X12_doesOrder_16 g → kO X (fun z => kO Y (fun y => Fr1 f z.2 ∧ Fr2 g y.2 ∧ Reas z.2 y.2 ∧ Now (B + 0) z.2 y.2 ∧ ((z.1 = -1 ∧ y.1 = 0 ∧ Rs2 f z.2) ∨ (¬ z.1 < 0 ∧ y.1 = 1 ∧ y.2 0 13 = z.1)))) := fun h1 h2 => sim_no (a := 1) (d := 0) hN (by rw [h1]; unfold cj_X4_addOrder_22; rw [c_refuse]; rfl) (by rw [h2]; rfl)
  unfold cf_X4_addOrder cf_X12_doesOrder
  by_cases hp : rl x1 c1
  rotate_left
  · exact no1 (by rw [c_isP0 (by omega) f1 hp, kbind_s, keq_t rfl]) (by rw [m_isP0 (by omega) g1 hp, kbind_s, keq_t rfl])
  by_cases hc : rl x2 c0
  rotate_left
  · exact no1 (by rw [c_isP1 (by omega) f1 hp, kbind_s, keq_f (by decide), c_isC0 (by omega) f0 hc, kbind_s, keq_t rfl]) (by rw [m_isP1 (by omega) g1 hp, kbind_s, keq_f (by decide), m_isC0 (by omega) g0 hc, kbind_s, keq_t rfl])
  rw [c_isP1 (by omega) f1 hp, kbind_s, keq_f (by decide), c_isC1 (by omega) f0 hc, kbind_s, keq_f (by decide), m_isP1 (by omega) g1 hp, kbind_s, keq_f (by decide), m_isC1 (by omega) g0 hc, kbind_s, keq_f (by decide)]
  unfold cf_X6_add
  have no2 : ∀ {X Y : Option (Int32 × kMem)}, X = cj_X6_add_21 f → Y = cj_X12_doesOrder_44 g → kO (kbind X (fun r7 g8 => some (r7, g8))) (fun z => kO Y (fun y => Fr1 f z.2 ∧ Fr2 g y.2 ∧ Reas z.2 y.2 ∧ Now (B + 0) z.2 y.2 ∧ ((z.1 = -1 ∧ y.1 = 0 ∧ Rs2 f z.2) ∨ (¬ z.1 < 0 ∧ y.1 = 1 ∧ y.2 0 13 = z.1)))) := fun h1 h2 => sim_no (a := 2) (d := 0) hN (by rw [h1]; unfold cj_X6_add_21; rw [c_refuse]; rfl) (by rw [h2]; rfl)
  by_cases h3 : inb x3 1 20
  rotate_left
  · exact no2 (by rw [c_in0 h3, kbind_s, keq_t rfl]) (by rw [m_in0 h3, kbind_s, keq_t rfl])
  by_cases h4 : inb x4 0 99
  rotate_left
  · exact no2 (by rw [c_in1 h3, kbind_s, keq_f (by decide), c_in0 h4, kbind_s, keq_t rfl]) (by rw [m_in1 h3, kbind_s, keq_f (by decide), m_in0 h4, kbind_s, keq_t rfl])
  rw [c_in1 h3, kbind_s, keq_f (by decide), c_in1 h4, kbind_s, keq_f (by decide), m_in1 h3, kbind_s, keq_f (by decide), m_in1 h4, kbind_s, keq_f (by decide), f3, g3]
  by_cases h6 : c3 = 10
  · exact sim_no (a := 3) (d := 0) hN (by rw [klt_f (by rw [h6]; decide), c_refuse]; rfl) (by rw [keq_t (by rw [h6]; rfl)]; rfl)
  have e6 : c3 < 10 := by omega
  have hk : kin (nI c3) 10 = true := nI_kin e6 (by decide)
  have hcl : (nI c3).toNatClampNeg = c3 := nI_clamp (by omega)
  obtain ⟨q0, q1, q2, q3, q4, q5⟩ := mcs_19 c3 e6
  refine sim_yes (r := nI c3) (f1 := kup (kup (kup (kup (kup (kup (kup f 19 c3 x1) 20 c3 x2) 21 c3 x3) 22 c3 x4) 23 c3 0) 24 c3 0) 18 0 (nI (c3 + 1))) (g1 := kup (kup (kup (kup (kup (kup (kup g 1 (253 + 6 * c3) x1) 1 (254 + 6 * c3) x2) 1 (255 + 6 * c3) x3) 1 (256 + 6 * c3) x4) 1 (257 + 6 * c3) 0) 1 (258 + 6 * c3) 0) 1 3 (nI (c3 + 1))) ?_ ?_ (Fr1_tr (Fr1_tr (Fr1_tr (Fr1_tr (Fr1_tr (Fr1_tr (Fr1_k (by omega)) (Fr1_k (by omega))) (Fr1_k (by omega))) (Fr1_k (by omega))) (Fr1_k (by omega))) (Fr1_k (by omega))) (Fr1_k (by omega))) (Fr2_tr (Fr2_tr (Fr2_tr (Fr2_tr (Fr2_tr (Fr2_tr (Fr2_k (by omega)) (Fr2_k (by omega))) (Fr2_k (by omega))) (Fr2_k (by omega))) (Fr2_k (by omega))) (Fr2_k (by omega))) (Fr2_k (by omega))) (Reas_fr hR rfl rfl rfl rfl rfl rfl) ⟨FRel_up _ (FRel_up _ (FRel_up _ (FRel_up _ (FRel_up _ (FRel_up _ (FRel_up _ hF q0) q1) q2) q3) q4) q5) (j := 3) (by decide), ⟨c0, c1, c2, c3 + 1, InvC_c3 (InvC_set (InvC_set (InvC_set (InvC_set (InvC_set (InvC_set hI (j := 253 + 6 * c3) (x := x1) ?_) (j := 254 + 6 * c3) (x := x2) ?_) (j := 255 + 6 * c3) (x := x3) ?_) (j := 256 + 6 * c3) (x := x4) ?_) (j := 257 + 6 * c3) (x := 0) ?_) (j := 258 + 6 * c3) (x := 0) ?_) (by omega) ?_⟩, kZ_upd (kZ_upd (kZ_upd (kZ_upd (kZ_upd (kZ_upd (kZ_upd hZ (by omega)) (by omega)) (by omega)) (by omega)) (by omega)) (by omega)) (by omega)⟩ (nI_not_neg (by omega))
  · rw [klt_t (show nI c3 < 10 from (nI_lt_iff (b := 10) (by omega) (by omega)).mpr e6)]
    simp only [kmem_s, kup_ne, f3, hk, hcl, kchk_s, ne_eq, not_false_eq_true, reduceCtorEq, Nat.reduceEqDiff, kup_at, nI_1, nI_pred, kbind_s]
  · rw [keq_f (show ¬ nI c3 = 10 from fun e => h6 (nI_inj (b := 10) (by omega) (by decide) e))]
    have k1 : ∀ i, i < 6 → kin (nI (253 + 6 * c3 + i)) 313 = true := fun i hi => nI_kin (by omega) (by decide)
    have k2 : ∀ i, i < 6 → (nI (253 + 6 * c3 + i)).toNatClampNeg = 253 + i + 6 * c3 := fun i hi => by rw [nI_clamp (by omega)]; omega
    have e3 : ∀ {h : kMem} {i : Nat} {x : Int32}, i < 6 → kup h 1 (253 + i + 6 * c3) x 1 3 = h 1 3 := fun hi => kup_nk (by omega)
    have e0 : nI (253 + 6 * c3) = nI (253 + 6 * c3 + 0) := rfl
    simp only [klet_s, a253, kmem_s]
    rw [show (1 : Int32) = nI 1 from rfl, show (2 : Int32) = nI 2 from rfl, show (3 : Int32) = nI 3 from rfl, show (4 : Int32) = nI 4 from rfl, show (5 : Int32) = nI 5 from rfl]
    simp only [nI_add]
    rw [e0]
    simp only [k1 0 (by decide), k1 1 (by decide), k1 2 (by decide), k1 3 (by decide), k1 4 (by decide), k1 5 (by decide), k2 0 (by decide), k2 1 (by decide), k2 2 (by decide), k2 3 (by decide), k2 4 (by decide), k2 5 (by decide), kchk_s]
    rw [e3 (i := 5) (by decide), e3 (i := 4) (by decide), e3 (i := 3) (by decide), e3 (i := 2) (by decide), e3 (i := 1) (by decide), e3 (i := 0) (by decide), g3, nI_add]
    rfl
  · exact ⟨by omega, by omega, by omega, by omega, by omega, by omega, by omega, by omega, by omega, by omega, by omega, by omega, fun o ho => ⟨by omega, by omega, by omega, by omega⟩⟩
  · exact ⟨by omega, by omega, by omega, by omega, by omega, by omega, by omega, by omega, by omega, by omega, by omega, by omega, fun o ho => ⟨by omega, by omega, by omega, by omega⟩⟩
  · exact ⟨by omega, by omega, by omega, by omega, by omega, by omega, by omega, by omega, by omega, by omega, by omega, by omega, fun o ho => ⟨by omega, by omega, by omega, by omega⟩⟩
  · exact ⟨by omega, by omega, by omega, by omega, by omega, by omega, by omega, by omega, by omega, by omega, by omega, by omega, fun o ho => ⟨by omega, by omega, by omega, by omega⟩⟩
  · exact ⟨by omega, by omega, by omega, by omega, by omega, by omega, by omega, by omega, by omega, by omega, by omega, by omega, fun o ho => ⟨by omega, by omega, by omega, by omega⟩⟩
  · exact ⟨by omega, by omega, by omega, by omega, by omega, by omega, by omega, by omega, by omega, by omega, by omega, by omega, fun o ho => ⟨by omega, by omega, by omega, by omega⟩⟩
  · refine ⟨?_, ?_, ?_, ?_⟩
    · rw [kup_nk (by omega), kup_nk (by omega), kup_nk (by omega), kup_nk (by omega), kup_nk (by omega), kup_at]
      exact hp
    · rw [kup_nk (by omega), kup_nk (by omega), kup_nk (by omega), kup_nk (by omega), kup_at]
      exact hc
    · rw [kup_nk (by omega), kup_nk (by omega), kup_nk (by omega), kup_at]
      exact (inb_rg (A := 1) (B := 20) (by decide) (by decide)).mp h3
    · rw [kup_nk (by omega), kup_at]
      exact ⟨0, rfl, by omega, by omega⟩
theorem kp_order : kP_order kR := fun N f g a b c d hN hR => kchange (s_order a b c d) (by decide) hN hR (fun _ _ _ _ => trivial)
/-- how many of the places i .. i+k-1 have p -/
def cnt (p : Nat → Prop) [DecidablePred p] : Nat → Nat → Nat
  | 0, _ => 0
  | k + 1, i => (if p i then 1 else 0) + cnt p k (i + 1)
theorem cnt_le {p : Nat → Prop} [DecidablePred p] : ∀ k i, cnt p k i ≤ k
  | 0, i => Nat.le_refl 0
  | k + 1, i => by
    have := cnt_le (p := p) k (i + 1)
    unfold cnt
    split <;> omega
theorem cnt_congr {p q : Nat → Prop} [DecidablePred p] [DecidablePred q] : ∀ k i, (∀ o, i ≤ o → o < i + k → (p o ↔ q o)) → cnt p k i = cnt q k i
  | 0, i, _ => rfl
  | k + 1, i, h => by
    unfold cnt
    rw [cnt_congr k (i + 1) (fun o h1 h2 => h o (by omega) (by omega))]
    have h9 := h i (by omega) (by omega)
    by_cases hp : p i
    · rw [if_pos hp, if_pos (h9.mp hp)]
    · rw [if_neg hp, if_neg (fun q => hp (h9.mpr q))]
theorem lp_countOf {f : kMem} {s : Int32} {c : Nat} (hc : c ≤ 10) (h : f 18 0 = nI c) : ∀ (k u i n : Nat), i + k = c → k < u → cl_X6_countOf_4 u f s (nI n) (nI i) = some (nI (n + cnt (fun o => f 23 o = s) k i), f)
  | 0, u + 1, i, n, h1, h2 => by
    unfold cl_X6_countOf_4
    rw [h, kle_t (by rw [show i = c by omega]; exact Int32.le_refl _)]
    rfl
  | k + 1, u + 1, i, n, h1, h2 => by
    unfold cl_X6_countOf_4
    rw [h, kle_f (fun q => by have := (nI_le_iff (by omega) (by omega)).mp q; omega), kchk_t (nI_kin (by omega) (by decide)), nI_clamp (by omega)]
    unfold cnt
    by_cases hs : f 23 i = s
    · rw [keq_t hs, if_pos hs, klet_s, klet_s, nI_1, show nI i + Int32.ofInt 1 = nI (i + 1) from nI_1 i, lp_countOf hc h k u (i + 1) (n + 1) (by omega) (by omega), show n + (1 + cnt (fun o => f 23 o = s) k (i + 1)) = n + 1 + cnt (fun o => f 23 o = s) k (i + 1) by omega]
    · rw [keq_f hs, if_neg hs, klet_s, klet_s, show nI n + 0 = nI (n + 0) from nI_add n 0, show nI i + Int32.ofInt 1 = nI (i + 1) from nI_1 i, lp_countOf hc h k u (i + 1) (n + 0) (by omega) (by omega), show n + (0 + cnt (fun o => f 23 o = s) k (i + 1)) = n + 0 + cnt (fun o => f 23 o = s) k (i + 1) by omega]
theorem m_ordered {g : kMem} {o w : Nat} (ho : o < 10) (hw : w < 6) : cf_X12_ordered g (nI o) (nI w) = some (g 1 (253 + 6 * o + w), g) := by
  unfold cf_X12_ordered
  rw [a253, nI_add, kchk_t (nI_kin (by omega) (by decide)), nI_clamp (by omega)]
theorem lp_opens {g : kMem} {c : Nat} (hc : c ≤ 10) (h : g 1 3 = nI c) : ∀ (k u i n : Nat), i + k = c → k < u → cl_X12_opens_4 u g (nI n) (nI i) = some (nI (n + cnt (fun o => g 1 (257 + 6 * o) = 0) k i), g)
  | 0, u + 1, i, n, h1, h2 => by
    unfold cl_X12_opens_4
    rw [h, kle_t (by rw [show i = c by omega]; exact Int32.le_refl _)]
    rfl
  | k + 1, u + 1, i, n, h1, h2 => by
    unfold cl_X12_opens_4
    rw [h, kle_f (fun q => by have := (nI_le_iff (by omega) (by omega)).mp q; omega), show (4 : Int32) = nI 4 from rfl, m_ordered (by omega) (by decide), kbind_s, show 253 + 6 * i + 4 = 257 + 6 * i by omega]
    unfold cnt
    by_cases hs : g 1 (257 + 6 * i) = 0
    · rw [keq_t hs, if_pos hs, klet_s, klet_s, show nI n + Int32.ofInt 1 = nI (n + 1) from nI_1 n, show nI i + Int32.ofInt 1 = nI (i + 1) from nI_1 i, lp_opens hc h k u (i + 1) (n + 1) (by omega) (by omega), show n + (1 + cnt (fun o => g 1 (257 + 6 * o) = 0) k (i + 1)) = n + 1 + cnt (fun o => g 1 (257 + 6 * o) = 0) k (i + 1) by omega]
    · rw [keq_f hs, if_neg hs, klet_s, show nI i + Int32.ofInt 1 = nI (i + 1) from nI_1 i, lp_opens hc h k u (i + 1) n (by omega) (by omega), show n + (0 + cnt (fun o => g 1 (257 + 6 * o) = 0) k (i + 1)) = n + cnt (fun o => g 1 (257 + 6 * o) = 0) k (i + 1) by omega]
theorem c_opens {f g : kMem} {c : Nat} (hc : c ≤ 10) (hF : FRel f (g 1)) (h : g 1 3 = nI c) : ∃ n, n ≤ 10 ∧ cf_X6_countOf f 0 = some (nI n, f) ∧ cf_X12_opens g = some (nI n, g) := by
  have f3 : f 18 0 = nI c := (FRel_at hF (j := 3) (a := 18) (k := 0) (by decide)).symm.trans h
  refine ⟨0 + cnt (fun o => g 1 (257 + 6 * o) = 0) c 0, by have := cnt_le (p := fun o => g 1 (257 + 6 * o) = 0) c 0; omega, ?_, lp_opens hc h c 100 0 0 (by omega) (by omega)⟩
  refine (lp_countOf hc f3 c 100 0 0 (by omega) (by omega)).trans ?_
  rw [cnt_congr (p := fun o => f 23 o = 0) (q := fun o => g 1 (257 + 6 * o) = 0) c 0 (fun o h1 h2 => by rw [FRel_at hF (mcs_19 o (by omega)).2.2.2.2.1])]
set_option maxRecDepth 20000 in
theorem s_callOff (x : Int32) : kSim 0 (fun _ _ => True) (fun f => cf_X6_close f x) (fun g => cf_X12_doesCallOff g x) := by
  intro B f g hB hN hR _
  dsimp only
  obtain ⟨hF, ⟨c0, c1, c2, c3, hI⟩, hZ⟩ := id hN
  obtain ⟨g0, g1, g2, g3, hc0, hc1, hc2, hc3⟩ := id hI.1
  have f3 : f 18 0 = nI c3 := (FRel_at hF (j := 3) (a := 18) (k := 0) (by decide)).symm.trans g3
  unfold cf_X6_close cf_X12_doesCallOff
  by_cases ho : rl x c3
  · obtain ⟨o, rfl, ho3⟩ := id ho
    have q4 := (mcs_19 o (by omega)).2.2.2.2.1
    have e4 : g 1 (257 + 6 * o) = f 23 o := FRel_at hF q4
    rw [c_isO1 (by omega) f3 ho, kbind_s, keq_f (by decide), m_isO1 (by omega) g3 ho, kbind_s, keq_f (by decide)]
    unfold cf_X6_isOpen
    rw [kchk_t (nI_kin (by omega) (by decide)), nI_clamp (by omega), show (4 : Int32) = nI 4 from rfl, m_ordered (by omega) (by decide), kbind_s, show 253 + 6 * o + 4 = 257 + 6 * o by omega, e4]
    by_cases h0 : f 23 o = 0
    · rw [keq_t h0, kbind_s, keq_f (by decide), keq_t h0, kchk_t (nI_kin (by omega) (by decide)), kmem_s, a253, nI_add, kchk_t (nI_kin (by omega) (by decide)), kmem_s, nI_clamp (by omega), show 253 + 6 * o + 4 = 257 + 6 * o by omega]
      have hF1 : FRel (kup f 23 o 2) ((kup g 1 (257 + 6 * o) 2) 1) := FRel_up _ hF q4
      obtain ⟨n, hn, en1, en2⟩ := c_opens (f := kup f 23 o 2) (g := kup g 1 (257 + 6 * o) 2) hc3 hF1 (by rw [kup_nk (by omega)]; exact g3)
      rw [en1, en2, kbind_s, kbind_s]
      refine sim_yes (r := nI n) (f1 := kup f 23 o 2) (g1 := kup g 1 (257 + 6 * o) 2) rfl rfl (Fr1_k (by omega)) (Fr2_k (by omega)) (Reas_fr hR rfl rfl rfl rfl rfl rfl) ⟨hF1, ⟨c0, c1, c2, c3, InvC_set hI (j := 257 + 6 * o) (x := 2) ?_⟩, kZ_upd hZ (by omega)⟩ (nI_not_neg (by omega))
      exact ⟨by omega, by omega, by omega, by omega, by omega, by omega, by omega, by omega, by omega, by omega, by omega, by omega, fun o ho => ⟨by omega, by omega, by omega, fun _ => ⟨2, rfl, by omega, by omega⟩⟩⟩
    · rw [keq_f h0, kbind_s, keq_t rfl, keq_f h0]
      exact sim_no (a := 9) (d := 0) hN (by rw [c_refuse]; rfl) rfl
  · exact sim_no (a := 1) (d := 0) hN (by rw [c_isO0 (by omega) f3 ho, kbind_s, keq_t rfl, c_refuse]; rfl) (by rw [m_isO0 (by omega) g3 ho, kbind_s, keq_t rfl]; rfl)
theorem kp_callOff : kP_callOff kR := fun N f g a hN hR => kchange (s_callOff a) (by decide) hN hR (fun _ _ _ _ => trivial)
