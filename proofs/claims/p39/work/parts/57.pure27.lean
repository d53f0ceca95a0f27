/-! run -/
def runC (f : kMem) (x1 x2 r7 t G : Int32) : Option (Int32 × kMem) := kmem (kup f 0 9 ((f 0 9) + G)) (fun g14 => kmem (kup g14 0 10 ((g14 0 10) + t)) (fun g15 => kmem (kup g15 0 11 ((g15 0 11) + r7)) (fun g16 => kmem (kup g16 0 7 x1) (fun g17 => kchk (kin (g17 0 8) 6) (kbind (cf_X4_pass g17 (t * (g17 4 (Int32.toNatClampNeg (g17 0 8))))) (fun r18 g19 => kbind (cf_X4_putPieces g19 r7 x2) (fun r20 g21 => some (r7, g21))))))))
theorem PL_911 {B c0 c1 c2 c3 j : Nat} {x : Int32} (h : j = 9 ∨ j = 10 ∨ j = 11) : PL B c0 c1 c2 c3 j x := ⟨by omega, by omega, by omega, by omega, by omega, by omega, by omega, by omega, by omega, by omega, by omega, by omega, fun o ho => ⟨by omega, by omega, by omega, by omega⟩⟩
theorem putA_rg {B c0 c1 c2 c3 q a b col k : Nat} {v : Nat → Int32} (hI : InvC B v c0 c1 c2 c3) (hq : q < c2) (hk : k < 8) (ha : a + b ≤ 246) : rg (putA a b col (xc v q c1) v (30 + k)) 0 (B + 2214) := by
  obtain ⟨m, hm, -, hm2⟩ := hI.2.2.1.2.2.2 k hk
  have hx : ∃ e, xc v q c1 k = nI e ∧ e ≤ 9 := by
    unfold xc
    split
    · rcases lk_rg (p := k) (hI.2.2.2.1 q hq) with h | ⟨e, h, -, h9⟩
      · exact ⟨0, h, by omega⟩
      · exact ⟨e, h, h9⟩
    · exact ⟨0, rfl, by omega⟩
  obtain ⟨e, he, he9⟩ := hx
  rw [putA_30 hk, hm, he, nI_mul, nI_add]
  refine ⟨_, rfl, by omega, ?_⟩
  have : e * (a + b) ≤ 9 * 246 := Nat.mul_le_mul he9 ha
  omega
set_option maxRecDepth 20000 in
theorem run_go {B c0 c1 c2 c3 a b col q : Nat} {G : Int32} {f g : kMem} (hI : InvC B (g 1) c0 c1 c2 c3) (hF : FRel f (g 1)) (hZ : kZ (g 1)) (h4 : g 1 4 = nI q) (hq : q < c2) (hcol : col < c0) (ha : a ≤ 46) (hb : b ≤ 200) : ∃ f2 g2, runC f (nI col) (nI b) (nI a) (nI (a + b)) G = some (nI a, f2) ∧ cj_X12_doesRun_271 g (nI col) (nI b) (nI q) (nI a) G = some (1, kup g2 0 13 (nI a)) ∧ InvC (B + 2214) (g2 1) c0 c1 c2 c3 ∧ FRel f2 (g2 1) ∧ kZ (g2 1) ∧ (∀ c, 25 ≤ c → f2 c = f c) ∧ ∀ c, c ≠ 1 → g2 c = g c := by
  obtain ⟨-, -, -, -, hc0, hc1, hc2, -⟩ := id hI.1
  have f8 : f 0 8 = nI q := (FRel_at hF (j := 4) (a := 0) (k := 8) (by decide)).symm.trans h4
  have f9 : g 1 9 = f 0 9 := FRel_at hF (j := 9) (a := 0) (k := 9) (by decide)
  have f10 : g 1 10 = f 0 10 := FRel_at hF (j := 10) (a := 0) (k := 10) (by decide)
  have f11 : g 1 11 = f 0 11 := FRel_at hF (j := 11) (a := 0) (k := 11) (by decide)
  obtain ⟨n, hn, -, hn3, ⟨cyc, hcyc, -, hcyc2⟩, -⟩ := hI.2.2.2.1 q hq
  have e4 : f 4 q = nI cyc := (hF.2 q (by omega)).1.symm.trans hcyc
  have hM : (a + b) * cyc < 100000 := by
    have : (a + b) * cyc ≤ 246 * 99 := Nat.mul_le_mul (by omega) hcyc2
    omega
  obtain ⟨e, f3, g3, r1, r2, r3, r4, r5, r6, r7, r8, r9⟩ := p_pass (B := B) (c0 := c0) (c1 := c1) (c2 := c2) (c3 := c3) (M := (a + b) * cyc) (f := kup (kup (kup (kup f 0 9 (f 0 9 + G)) 0 10 (f 0 10 + nI (a + b))) 0 11 (f 0 11 + nI a)) 0 7 (nI col)) (g := kup (kup (kup (kup g 1 9 (f 0 9 + G)) 1 10 (f 0 10 + nI (a + b))) 1 11 (f 0 11 + nI a)) 1 5 (nI col)) hM (InvC_set (InvC_set (InvC_set (InvC_set hI (j := 9) (x := f 0 9 + G) (PL_911 (by omega))) (j := 10) (x := f 0 10 + nI (a + b)) (PL_911 (by omega))) (j := 11) (x := f 0 11 + nI a) (PL_911 (by omega))) (j := 5) (x := nI col) ⟨by omega, by omega, fun _ => Or.inr ⟨col, rfl, hcol⟩, by omega, by omega, by omega, by omega, by omega, by omega, by omega, by omega, by omega, fun o ho => ⟨by omega, by omega, by omega, by omega⟩⟩) (FRel_up _ (FRel_up _ (FRel_up _ (FRel_up _ hF (j := 9) (a := 0) (k := 9) (by decide)) (j := 10) (a := 0) (k := 10) (by decide)) (j := 11) (a := 0) (k := 11) (by decide)) (j := 5) (a := 0) (k := 7) (by decide)) (kZ_upd (kZ_upd (kZ_upd (kZ_upd hZ (by omega)) (by omega)) (by omega)) (by omega))
  have v4 : g3 1 4 = nI q := (r9 4 (by omega) (by omega) (by omega) (by omega)).trans h4
  have v5 : g3 1 5 = nI col := (r9 5 (by omega) (by omega) (by omega) (by omega)).trans kup_at
  have vn : g3 1 (48 + 9 * q) = nI n := by
    rw [r9 _ (by omega) (by omega) (by omega) (by omega), kup_nk (by omega), kup_nk (by omega), kup_nk (by omega), kup_nk (by omega)]
    exact hn
  have hx0 : xc (g3 1) q 0 = fun _ => 0 := by
    funext p
    exact if_neg (by omega)
  obtain ⟨f4, p1, p2, p3⟩ := lp_putC (a := a) (b := b) r4 v4 hq v5 hcol c1 100 0 f3 (by omega) (by omega) (by rw [hx0, putA_0]; exact r5)
  have eX : putA a b col (xm (g3 1) q n) (g3 1) = putA a b col (xc (g3 1) q c1) (g3 1) := putA_congr (fun p hp => (xc_xm r4 hq vn hn3 hp).symm)
  refine ⟨f4, rw1 g3 (putA a b col (xc (g3 1) q c1) (g3 1)), ?_, ?_, InvC_fr r4 (fun j hj => putA_lo (by omega)) (fun k hk => putA_rg r4 hq hk (by omega)), p2, fun j hj => ?_, fun c hc => ?_, fun c hc => ?_⟩
  · unfold runC
    rw [kmem_s, kmem_s, kmem_s, kmem_s]
    have k8 : ∀ A B' C D, kup (kup (kup (kup f 0 9 A) 0 10 B') 0 11 C) 0 7 D 0 8 = nI q := fun _ _ _ _ => f8
    have k4 : ∀ A B' C D, kup (kup (kup (kup f 0 9 A) 0 10 B') 0 11 C) 0 7 D 4 q = nI cyc := fun _ _ _ _ => e4
    have k10 : ∀ A, kup f 0 9 A 0 10 = f 0 10 := fun _ => rfl
    have k11 : ∀ A B', kup (kup f 0 9 A) 0 10 B' 0 11 = f 0 11 := fun _ _ => rfl
    rw [k8, kchk_t (nI_kin (by omega) (by decide)), nI_clamp (by omega), k4, nI_mul, k10, k11, r1, kbind_s]
    unfold cf_X4_putPieces
    have p1' : cl_X4_putPieces_2 100 f3 (nI a) (nI b) 0 = some (0, f4) := p1
    rw [p1', kbind_s]
  · unfold cj_X12_doesRun_271
    rw [kmem_s, kmem_s, kmem_s, kmem_s, nI_add]
    have k0 : ∀ A B' C D, cf_X12_of (kup (kup (kup (kup g 1 9 A) 1 10 B') 1 11 C) 1 5 D) (nI q) 0 = some (nI cyc, kup (kup (kup (kup g 1 9 A) 1 10 B') 1 11 C) 1 5 D) := fun A B' C D => by
      refine (m_of (w := 0) (by omega) (by decide)).trans ?_
      rw [kup_nk (by omega), kup_nk (by omega), kup_nk (by omega), kup_nk (by omega), Nat.add_zero, hcyc]
    have k10 : ∀ A, kup g 1 9 A 1 10 = f 0 10 := fun _ => f10
    have k11 : ∀ A B', kup (kup g 1 9 A) 1 10 B' 1 11 = f 0 11 := fun _ _ => f11
    rw [k0, kbind_s, nI_mul, Nat.mul_comm, k10, k11, f9, r2, kbind_s]
    have m1 : ∀ Y : kMem → Int32 → Option (Int32 × kMem), cl_X12_doesRun_336 Y 100 g3 (nI col) (nI b) (nI q) (nI a) 0 = Y (rw1 g3 (putA a b col (xm (g3 1) q n) (g3 1))) (nI a) := fun Y => lp_putM r4 hq (by omega) vn hn3 n 100 0 g3 (by omega) (by omega) putA_0.symm
    rw [m1, eX]
    rfl
  · show putA a b col (xc (g3 1) q c1) (g3 1) j = 0
    rw [putA_lo (by omega)]
    exact r6 j hj
  · rw [p3 c hc, r7 c hc, kup_ne _ _ _ (by omega), kup_ne _ _ _ (by omega), kup_ne _ _ _ (by omega), kup_ne _ _ _ (by omega)]
  · rw [rw1_ne hc, r8 c hc, kup_ne _ _ _ hc, kup_ne _ _ _ hc, kup_ne _ _ _ hc, kup_ne _ _ _ hc]
theorem m_empt {h : kMem} {d : Nat} (hd : d < 3) : cf_X12_becomesEmpty h (nI (100 + 3 * d)) = some (0, kup (kup (kup h 1 (100 + 3 * d) (-1)) 1 (101 + 3 * d) 0) 1 (102 + 3 * d) 0) := by
  have s1 : nI (100 + 3 * d) + 1 = nI (101 + 3 * d) := n100 1
  have s2 : nI (100 + 3 * d) + 2 = nI (102 + 3 * d) := n100 2
  unfold cf_X12_becomesEmpty
  rw [kchk_t (nI_kin (i := 100 + 3 * d) (by omega) (by decide)), nI_clamp (n := 100 + 3 * d) (by omega), kmem_s, s1, kchk_t (nI_kin (i := 101 + 3 * d) (by omega) (by decide)), nI_clamp (n := 101 + 3 * d) (by omega), kmem_s, s2, kchk_t (nI_kin (i := 102 + 3 * d) (by omega) (by decide)), nI_clamp (n := 102 + 3 * d) (by omega), kmem_s]
set_option maxRecDepth 20000 in
theorem s_run (x y : Int32) : kSim 2214 (fun _ _ => True) (fun f => cf_X4_runShots f x y) (fun g => cf_X12_doesRun g x y) := by
  intro B f g hB hN hR _
  dsimp only
  obtain ⟨hF, ⟨c0, c1, c2, c3, hI⟩, hZ⟩ := id hN
  obtain ⟨g0, -, g2, -, hc0, hc1, hc2, -⟩ := id hI.1
  obtain ⟨b4, b5, -⟩ := id hI.2.1
  have f0 : f 1 0 = nI c0 := (FRel_at hF (j := 0) (a := 1) (k := 0) (by decide)).symm.trans g0
  have f2 : f 1 2 = nI c2 := (FRel_at hF (j := 2) (a := 1) (k := 2) (by decide)).symm.trans g2
  have f8 : g 1 4 = f 0 8 := FRel_at hF (j := 4) (a := 0) (k := 8) (by decide)
  have f5 : g 1 5 = f 0 7 := FRel_at hF (j := 5) (a := 0) (k := 7) (by decide)
  have f71 : f 7 1 = g 1 13 := (FRel_at hF (j := 13) (a := 7) (k := 1) (by decide)).symm
  unfold cf_X4_runShots cf_X12_doesRun
  by_cases hx : rl x c0
  rotate_left
  · exact sim_no (a := 1) (d := 0) hN (by rw [c_isC0 (by omega) f0 hx, kbind_s, keq00, c_refuse]; rfl) (by rw [m_isC0 (by omega) g0 hx, kbind_s, keq00]; rfl)
  rw [c_isC1 (by omega) f0 hx, kbind_s, keq10, m_isC1 (by omega) g0 hx, kbind_s, keq10]
  by_cases hy : inb y 1 200
  rotate_left
  · exact sim_no (a := 2) (d := 0) hN (by rw [c_in0 hy, kbind_s, keq00, c_refuse]; rfl) (by rw [m_in0 hy, kbind_s, keq00]; rfl)
  rw [c_in1 hy, kbind_s, keq10, m_in1 hy, kbind_s, keq10, klet_s, f8]
  rw [f8] at b4
  rw [f5] at b5
  rcases b4 with h4 | ⟨q, h4, hq⟩
  · rw [h4]
    exact sim_no (a := 5) (d := 0) hN (by rw [c_isF0 (by omega) f2 (fun ⟨m, e, hm⟩ => nI_m1 (n := m) (by omega) e.symm), kbind_s, keq00, c_refuse]; rfl) (by rw [kle_f (by decide)]; rfl)
  obtain ⟨b, rfl, hb1, hb2⟩ := (inb_rg (A := 1) (B := 200) (by decide) (by decide)).mp hy
  obtain ⟨a, ha, ea1, ea2⟩ := p_purge hF hI b5 hx
  obtain ⟨col, rfl, hcol⟩ := hx
  obtain ⟨n, hn, -, hn3, -, ⟨wt, hwt, -, hwt2⟩, -⟩ := hI.2.2.2.1 q hq
  have e5 : f 5 q = nI wt := (hF.2 q (by omega)).2.1.symm.trans hwt
  have mw : cf_X12_of g (nI q) 1 = some (nI wt, g) := by
    refine (m_of (w := 1) (by omega) (by decide)).trans ?_
    rw [show 46 + 9 * q + 1 = 47 + 9 * q by omega, hwt]
  rw [h4, c_isF1 (by omega) f2 ⟨q, rfl, hq⟩, kbind_s, keq10, kle_t (nI_pos' (by omega)), f5, ea1, ea2, kbind_s, kbind_s, h4, kchk_t (nI_kin (by omega) (by decide)), nI_clamp (by omega), e5, mw, kbind_s, nI_add, nI_mul, nI_mul, Nat.mul_comm wt (a + b), klet_s, klet_s, f71]
  have hG : (a + b) * wt ≤ 246 * 999 := Nat.mul_le_mul (by omega) hwt2
  generalize (a + b) * wt = G at hG
  have u1 : cf_X2_lowestUsable f (nI col) (nI G) (g 1 13) = some (enC (fo (isU (g 1) (nI col) (nI G)) 3 0), f) := lp_usable hF 3 100 0 (by omega) (by omega)
  have u2 : ∀ Y : kMem → Int32 → Int32 → Int32 → Int32 → Int32 → Int32 → Int32 → Option (Int32 × kMem), cl_X12_doesRun_86 Y 100 g (nI col) (nI b) (nI q) (nI a) (nI G) (-1) (-1) 2 = Y g (nI col) (nI b) (nI q) (nI a) (nI G) (enM (fo (isU (g 1) (nI col) (nI G)) 3 0)) (enM (fo (isC (g 1) (nI col)) 3 0)) := fun Y => lp_down (Y := Y) 3 0 100 (by omega) (by omega)
  rw [u1, kbind_s, u2]
  rcases hU : fo (isU (g 1) (nI col) (nI G)) 3 0 with _ | d
  · obtain ⟨f1, g1, n1, n2, n3, n4, n5, n6, n7⟩ := run_no (G := nI G) hN hI hcol
    refine sim_no2 (f1 := f1) (g1 := g1) ?_ ?_ n3 n4 n5 n6 n7
    · show keq (-1 : Int32) (-1) _ _ = _
      rw [keq_t rfl, n1]
      rfl
    · show kle 0 (-1 : Int32) _ _ = _
      rw [kle_f (by decide)]
      exact n2
  · obtain ⟨hd1, -, hd3⟩ := fo_some _ _ hU
    have hd3 : d < 3 := by omega
    obtain ⟨q0, q1, q2⟩ := mcs_9 d hd3
    have hk : kin (nI d) 3 = true := nI_kin hd3 (by decide)
    have hcl : (nI d).toNatClampNeg = d := nI_clamp (by omega)
    have K1 : kin (nI (101 + 3 * d)) 313 = true := nI_kin (by omega) (by decide)
    have L1 : (nI (101 + 3 * d)).toNatClampNeg = 101 + 3 * d := nI_clamp (by omega)
    have s1 : nI (100 + 3 * d) + 1 = nI (101 + 3 * d) := n100 1
    have s2 : nI (100 + 3 * d) + 2 = nI (102 + 3 * d) := n100 2
    unfold isU at hd1
    simp only [Bool.and_eq_true, decide_eq_true_eq, Bool.not_eq_true', decide_eq_false_iff_not] at hd1
    obtain ⟨k1, -, k3⟩ := hd1
    obtain ⟨m, hm, hm1, hm2⟩ : rg (g 1 (101 + 3 * d)) 1 99999 := by
      rcases hI.2.2.2.2.1 d hd3 with ⟨h, -, -⟩ | h
      · rw [k1] at h
        exact absurd h (nI_m1 (by omega))
      · exact h.2
    have hGm : G ≤ m := by
      rw [hm, nI_lt_iff (by omega) (by omega)] at k3
      omega
    have e10 : f 10 d = nI m := (FRel_at hF q1).symm.trans hm
    rw [show enC (some d) = nI d from rfl, show enM (some d) = nI (100 + 3 * d) from rfl]
    unfold cf_X2_take
    rw [keq_f (nI_m1 (by omega)), kle_t (nI_pos' (by omega)), kchk_t hk, kchk_t hk, hcl, e10, nI_sub hGm, kmem_s (h := kup f 10 d (nI (m - G))), kchk_t hk, kup_at, s1, kchk_t K1, kchk_t K1, L1, hm, nI_sub hGm, kmem_s (h := kup g 1 (101 + 3 * d) (nI (m - G))), kchk_t K1, kup_at]
    by_cases hz : m = G
    · have ez : nI (m - G) = 0 := by rw [hz, Nat.sub_self]; rfl
      rw [ez, keq00, keq00, kchk_t hk, kmem_s (h := kup (kup f 10 d 0) 9 d (-1)), kchk_t hk, kmem_s (h := kup (kup (kup f 10 d 0) 9 d (-1)) 11 d 0), kbind_s, m_empt hd3, kbind_s]
      have er : kup (kup (kup (kup g 1 (101 + 3 * d) 0) 1 (100 + 3 * d) (-1)) 1 (101 + 3 * d) 0) 1 (102 + 3 * d) 0 = rw1 g (upd (upd (upd (g 1) (100 + 3 * d) (-1)) (101 + 3 * d) 0) (102 + 3 * d) 0) := by
        rw [rw1_up, rw1_up, rw1_up, rw1_up]
        simp only [rw1_rw1, rw1_1]
        rw [upd_comm (a := 101 + 3 * d) (b := 100 + 3 * d) (by omega), upd_upd]
      rw [er]
      have h9 := FRel_up 0 (FRel_up (-1) (FRel_up 0 hF q1) q0) q2
      rw [upd_comm (a := 101 + 3 * d) (b := 100 + 3 * d) (by omega)] at h9
      obtain ⟨fE, gE, w1, w2, w3, w4, w5, w6, w7⟩ := run_go (B := B) (c0 := c0) (c1 := c1) (c2 := c2) (c3 := c3) (a := a) (b := b) (col := col) (q := q) (G := nI G) (f := kup (kup (kup f 10 d 0) 9 d (-1)) 11 d 0) (g := rw1 g (upd (upd (upd (g 1) (100 + 3 * d) (-1)) (101 + 3 * d) 0) (102 + 3 * d) 0)) (InvC_dry hI hd3 (Or.inl ⟨rfl, rfl, rfl⟩)) h9 (kZ_upd (kZ_upd (kZ_upd hZ (by omega)) (by omega)) (by omega)) (by rw [rw1_1, upd_ne (by omega), upd_ne (by omega), upd_ne (by omega), f8, h4]) hq hcol ha hb2
      have t1 : ∀ c, 25 ≤ c → fE c = f c := fun c hc => by rw [w6 c hc, kup_ne _ _ _ (by omega), kup_ne _ _ _ (by omega), kup_ne _ _ _ (by omega)]
      have t2 : ∀ c, c ≠ 1 → gE c = g c := fun c hc => by rw [w7 c hc, rw1_ne hc]
      exact sim_yes (r := nI a) (f1 := fE) (g1 := gE) w1 w2 (Fr1_lo t1) (Fr2_row t2) (Reas_lo hR t1 t2) ⟨w4, ⟨c0, c1, c2, c3, w3⟩, w5⟩ (nI_not_neg (by omega))
    · have ez : ¬ nI (m - G) = 0 := nI_ne0 (by omega) (by omega)
      rw [keq_f ez, keq_f ez, kbind_s]
      have hID : InvC B (upd (g 1) (101 + 3 * d) (nI (m - G))) c0 c1 c2 c3 := by
        have h := InvC_dry (x := g 1 (100 + 3 * d)) (y := nI (m - G)) (z := g 1 (102 + 3 * d)) hI hd3 (Or.inr ⟨⟨col, k1, hcol⟩, m - G, rfl, by omega, by omega⟩)
        rw [upd_self (k := 100 + 3 * d) rfl, upd_self (k := 102 + 3 * d) (upd_ne (by omega))] at h
        exact h
      obtain ⟨fE, gE, w1, w2, w3, w4, w5, w6, w7⟩ := run_go (B := B) (c0 := c0) (c1 := c1) (c2 := c2) (c3 := c3) (a := a) (b := b) (col := col) (q := q) (G := nI G) (f := kup f 10 d (nI (m - G))) (g := kup g 1 (101 + 3 * d) (nI (m - G))) hID (FRel_up _ hF q1) (kZ_upd hZ (by omega)) (by rw [kup_nk (by omega), f8, h4]) hq hcol ha hb2
      have t1 : ∀ c, 25 ≤ c → fE c = f c := fun c hc => by rw [w6 c hc, kup_ne _ _ _ (by omega)]
      have t2 : ∀ c, c ≠ 1 → gE c = g c := fun c hc => by rw [w7 c hc, kup_ne _ _ _ hc]
      exact sim_yes (r := nI a) (f1 := fE) (g1 := gE) w1 w2 (Fr1_lo t1) (Fr2_row t2) (Reas_lo hR t1 t2) ⟨w4, ⟨c0, c1, c2, c3, w3⟩, w5⟩ (nI_not_neg (by omega))
theorem kp_run : kP_run kR := fun N f g a b hN hR => kchange (s_run a b) (by decide) hN hR (fun _ _ _ _ => trivial)
