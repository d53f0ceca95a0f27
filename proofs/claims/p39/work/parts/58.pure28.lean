/-! familyOf -/
def sI (x : Nat → Int32) : Nat → Nat → Int32
  | 0, _ => 0
  | k + 1, i => x i + sI x k (i + 1)
theorem sI_congr {x y : Nat → Int32} : ∀ k i, (∀ p, i ≤ p → p < i + k → x p = y p) → sI x k i = sI y k i
  | 0, _, _ => rfl
  | k + 1, i, h => by
    unfold sI
    rw [h i (by omega) (by omega), sI_congr k (i + 1) (fun p h1 h2 => h p (by omega) (by omega))]
theorem sI_upd {x : Nat → Int32} {p : Nat} {e : Int32} : ∀ k i, i ≤ p → p < i + k → x p = 0 → sI (upd x p e) k i = sI x k i + e
  | 0, i, h1, h2, _ => by omega
  | k + 1, i, h1, h2, h => by
    unfold sI
    by_cases hi : i = p
    · subst hi
      rw [upd_eq, h, Int32.zero_add, Int32.add_comm, sI_congr k (i + 1) (fun p h3 h4 => upd_ne (by omega))]
    · rw [upd_ne hi, sI_upd k (i + 1) (by omega) (by omega) h, Int32.add_assoc]
theorem sI_0 : ∀ k i, sI (fun _ => 0) k i = 0
  | 0, _ => rfl
  | k + 1, i => by
    unfold sI
    rw [sI_0 k (i + 1), Int32.add_zero]
def ind (x : Nat → Int32) : Nat → Int32 := fun p => if x p ≤ 0 then 0 else 1
theorem ind_upd {x : Nat → Int32} {p e : Nat} (h1 : 1 ≤ e) (h9 : e ≤ 9) : ind (upd x p (nI e)) = upd (ind x) p 1 := by
  funext j
  unfold ind
  by_cases hj : j = p
  · rw [hj, upd_eq, upd_eq, if_neg (fun q => by have := (nI_le_iff (b := 0) (by omega) (by omega)).mp q; omega)]
  · rw [upd_ne hj, upd_ne hj]
def eS (v : Nat → Int32) (q : Nat) : Nat → Int32
  | 0 => 0
  | t + 1 => eS v q t + v (52 + 9 * q + t)
theorem xm_sum {B c0 c1 c2 c3 q n : Nat} {v : Nat → Int32} (hI : InvC B v c0 c1 c2 c3) (hq : q < c2) (hn : v (48 + 9 * q) = nI n) (hn3 : n ≤ 3) : ∀ t, t ≤ n → sI (xm v q t) c1 0 = eS v q t ∧ sI (ind (xm v q t)) c1 0 = nI t
  | 0, _ => ⟨sI_0 _ _, sI_0 _ _⟩
  | t + 1, ht => by
    obtain ⟨-, -, -, -, -, hc1, hc2, -⟩ := id hI.1
    obtain ⟨n', hn', h2, h3, -, -, h6, h7, -⟩ := hI.2.2.2.1 q hq
    obtain rfl : n' = n := nI_inj (by omega) (by omega) (hn'.symm.trans hn)
    obtain ⟨⟨r, hr, hr1⟩, e, he, he1, he9⟩ := h6 t (by omega)
    have ex : xm v q (t + 1) = upd (xm v q t) r (nI e) := by
      show upd (xm v q t) (v (49 + 9 * q + t)).toNatClampNeg (v (52 + 9 * q + t)) = _
      rw [hr, he, nI_clamp (by omega)]
    have hx0 : xm v q t r = 0 := xm_0 t (fun i hi hip => by
      obtain ⟨⟨p', hp', hp1'⟩, -⟩ := h6 i (by omega)
      rw [hp', nI_clamp (by omega)] at hip
      exact h7 t (by omega) i hi (by rw [hr, hp', hip]))
    have hi0 : ind (xm v q t) r = 0 := by
      unfold ind
      rw [hx0, if_pos (by decide)]
    obtain ⟨i1, i2⟩ := xm_sum hI hq hn hn3 t (by omega)
    rw [ex, sI_upd c1 0 (by omega) (by omega) hx0, ind_upd he1 he9, sI_upd c1 0 (by omega) (by omega) hi0, i1, i2]
    refine ⟨?_, nI_1 t⟩
    show _ = eS v q t + v (52 + 9 * q + t)
    rw [he]
theorem lp_allP {f : kMem} {v : Nat → Int32} {c1 c2 q : Nat} (hF : FRel f v) (w1 : v 1 = nI c1) (w2 : v 2 = nI c2) (hc1 : c1 ≤ 8) (hc2 : c2 ≤ 6) (hq : q < c2) : ∀ k u i x, i + k = c1 → k < u → cl_X0_allPiecesOf_4 u f (nI q) x (nI i) = some (x + sI (lk v q) k i, f)
  | 0, u + 1, i, x, h1, h2 => by
    have f1 : f 1 1 = nI c1 := (FRel_at hF (j := 1) (a := 1) (k := 1) (by decide)).symm.trans w1
    rw [cl_X0_allPiecesOf_4.eq_2, f1, kle_t (by rw [show i = c1 by omega]; exact Int32.le_refl _)]
    unfold sI
    rw [Int32.add_zero]
  | k + 1, u + 1, i, x, h1, h2 => by
    have f1 : f 1 1 = nI c1 := (FRel_at hF (j := 1) (a := 1) (k := 1) (by decide)).symm.trans w1
    have one : nI i + Int32.ofInt 1 = nI (i + 1) := nI_1 i
    rw [cl_X0_allPiecesOf_4.eq_2, f1, kle_f (fun q => by have := (nI_le_iff (by omega) (by omega)).mp q; omega), c_pieces hF w1 w2 hc1 hc2 hq (by omega), kbind_s, klet_s, klet_s, one, lp_allP hF w1 w2 hc1 hc2 hq k u (i + 1) _ (by omega) (by omega), show sI (lk v q) (k + 1) i = lk v q i + sI (lk v q) k (i + 1) from rfl, Int32.add_assoc]
theorem lp_partsOf {f : kMem} {v : Nat → Int32} {c1 c2 q : Nat} (hF : FRel f v) (w1 : v 1 = nI c1) (w2 : v 2 = nI c2) (hc1 : c1 ≤ 8) (hc2 : c2 ≤ 6) (hq : q < c2) : ∀ k u i x, i + k = c1 → k < u → cl_X0_partsOf_4 u f (nI q) x (nI i) = some (x + sI (ind (lk v q)) k i, f)
  | 0, u + 1, i, x, h1, h2 => by
    have f1 : f 1 1 = nI c1 := (FRel_at hF (j := 1) (a := 1) (k := 1) (by decide)).symm.trans w1
    rw [cl_X0_partsOf_4.eq_2, f1, kle_t (by rw [show i = c1 by omega]; exact Int32.le_refl _)]
    unfold sI
    rw [Int32.add_zero]
  | k + 1, u + 1, i, x, h1, h2 => by
    have f1 : f 1 1 = nI c1 := (FRel_at hF (j := 1) (a := 1) (k := 1) (by decide)).symm.trans w1
    have one : nI i + Int32.ofInt 1 = nI (i + 1) := nI_1 i
    have e1 : sI (ind (lk v q)) (k + 1) i = (if lk v q i ≤ 0 then 0 else 1) + sI (ind (lk v q)) k (i + 1) := rfl
    rw [cl_X0_partsOf_4.eq_2, f1, kle_f (fun q => by have := (nI_le_iff (by omega) (by omega)).mp q; omega), c_pieces hF w1 w2 hc1 hc2 hq (by omega), kbind_s, klet_s, klet_s, klet_s, klet_s, one, e1]
    by_cases h0 : lk v q i ≤ 0
    · rw [kle_t h0, if_pos h0, lp_partsOf hF w1 w2 hc1 hc2 hq k u (i + 1) _ (by omega) (by omega), Int32.add_assoc]
    · rw [kle_f h0, if_neg h0, lp_partsOf hF w1 w2 hc1 hc2 hq k u (i + 1) _ (by omega) (by omega), Int32.add_assoc]
theorem kp_familyOf : kP_familyOf kR := by
  intro N f g x y hN hR
  obtain ⟨⟨hF, ⟨c0, c1, c2, c3, hI⟩, hZ⟩, -⟩ := id hR
  obtain ⟨-, g1, g2, -, -, hc1, hc2, -⟩ := id hI.1
  have f2 : f 1 2 = nI c2 := (FRel_at hF (j := 2) (a := 1) (k := 2) (by decide)).symm.trans g2
  have G2 : kup g 0 18 0 1 2 = nI c2 := g2
  unfold cx_X11_familyOf cf_X12_familyOf
  rw [kmem_s]
  by_cases hx : rl x c2
  rotate_left
  · exact q_no hR (n := 3) (by decide) (by decide) (by rw [c_isF0 (by omega) f2 hx, kbind_s, keq00]) (by rw [m_isF0 (by omega) G2 hx, kbind_s, keq00]; rfl)
  rw [c_isF1 (by omega) f2 hx, kbind_s, keq10, m_isF1 (by omega) G2 hx, kbind_s, keq10]
  obtain ⟨q, rfl, hq⟩ := hx
  have hk : kin (nI q) 6 = true := nI_kin (by omega) (by decide)
  have hcl : (nI q).toNatClampNeg = q := nI_clamp (by omega)
  obtain ⟨k4, k5, -⟩ := hF.2 q (by omega)
  obtain ⟨n, hn, h2, h3, -, -, -, -, hz⟩ := hI.2.2.2.1 q hq
  have m0 : cf_X12_of (kup g 0 18 0) (nI q) 0 = some (f 4 q, kup g 0 18 0) := (m_of (w := 0) (by omega) (by decide)).trans (congrArg (fun z => some (z, kup g 0 18 0)) k4)
  have m1 : cf_X12_of (kup g 0 18 0) (nI q) 1 = some (f 5 q, kup g 0 18 0) := (m_of (w := 1) (by omega) (by decide)).trans (congrArg (fun z => some (z, kup g 0 18 0)) (by rw [show 46 + 9 * q + 1 = 47 + 9 * q by omega]; exact k5))
  have m2 : cf_X12_of (kup g 0 18 0) (nI q) 2 = some (nI n, kup g 0 18 0) := (m_of (w := 2) (by omega) (by decide)).trans (congrArg (fun z => some (z, kup g 0 18 0)) (by rw [show 46 + 9 * q + 2 = 48 + 9 * q by omega]; exact hn))
  have m6 : cf_X12_of (kup g 0 18 0) (nI q) 6 = some (g 1 (52 + 9 * q + 0), kup g 0 18 0) := (m_of (w := 6) (by omega) (by decide)).trans (congrArg (fun z => some (z, kup g 0 18 0)) (by rw [show 46 + 9 * q + 6 = 52 + 9 * q + 0 by omega]; rfl))
  have m7 : cf_X12_of (kup g 0 18 0) (nI q) 7 = some (g 1 (52 + 9 * q + 1), kup g 0 18 0) := (m_of (w := 7) (by omega) (by decide)).trans (congrArg (fun z => some (z, kup g 0 18 0)) (by rw [show 46 + 9 * q + 7 = 52 + 9 * q + 1 by omega]; rfl))
  have m8 : cf_X12_of (kup g 0 18 0) (nI q) 8 = some (g 1 (52 + 9 * q + 2), kup g 0 18 0) := (m_of (w := 8) (by omega) (by decide)).trans (congrArg (fun z => some (z, kup g 0 18 0)) (by rw [show 46 + 9 * q + 8 = 52 + 9 * q + 2 by omega]; rfl))
  have hlx : ∀ p, 0 ≤ p → p < 0 + c1 → lk (g 1) q p = xm (g 1) q n p := fun p _ hp => by
    rw [← xc_xm hI hq hn h3 (p := p) (by omega)]
    unfold xc
    rw [if_pos (by omega)]
  obtain ⟨s1, s2⟩ := xm_sum hI hq hn h3 n (by omega)
  by_cases h0 : y = 0
  · subst h0
    exact q_yes hR (r := f 4 q) (by rw [keq_t rfl, kchk_t hk, hcl]) (by rw [keq_t rfl, m0]; rfl)
  rw [keq_f h0, keq_f h0]
  by_cases h1 : y = 1
  · subst h1
    exact q_yes hR (r := f 5 q) (by rw [keq_t rfl, kchk_t hk, hcl]) (by rw [keq_t rfl, m1]; rfl)
  rw [keq_f h1, keq_f h1]
  by_cases hy2 : y = 2
  · subst hy2
    have e : cl_X0_partsOf_4 100 f (nI q) 0 0 = some (0 + sI (ind (lk (g 1) q)) c1 0, f) := lp_partsOf hF g1 g2 hc1 hc2 hq c1 100 0 0 (by omega) (by omega)
    have e2 : sI (ind (lk (g 1) q)) c1 0 = nI n := by
      rw [← s2]
      refine sI_congr c1 0 (fun p h1 h2 => ?_)
      unfold ind
      rw [hlx p h1 h2]
    unfold cf_X0_partsOf
    exact q_yes hR (r := nI n) (by rw [keq_t rfl, e, e2, Int32.zero_add]; rfl) (by rw [keq_t rfl, m2]; rfl)
  rw [keq_f hy2, keq_f hy2]
  by_cases hy3 : y = 3
  · subst hy3
    have e : cl_X0_allPiecesOf_4 100 f (nI q) 0 0 = some (0 + sI (lk (g 1) q) c1 0, f) := lp_allP hF g1 g2 hc1 hc2 hq c1 100 0 0 (by omega) (by omega)
    have e2 : sI (lk (g 1) q) c1 0 = eS (g 1) q n := by
      rw [← s1]
      exact sI_congr c1 0 hlx
    have e3 : eS (g 1) q n = g 1 (52 + 9 * q + 0) + g 1 (52 + 9 * q + 1) + g 1 (52 + 9 * q + 2) := by
      rcases (show n = 1 ∨ n = 2 ∨ n = 3 by omega) with rfl | rfl | rfl
      · rw [hz 1 (by omega) (by omega), hz 2 (by omega) (by omega)]
        show (0 : Int32) + g 1 (52 + 9 * q + 0) = _
        rw [Int32.zero_add, Int32.add_zero, Int32.add_zero]
      · rw [hz 2 (by omega) (by omega)]
        show (0 : Int32) + g 1 (52 + 9 * q + 0) + g 1 (52 + 9 * q + 1) = _
        rw [Int32.zero_add, Int32.add_zero]
      · show (0 : Int32) + g 1 (52 + 9 * q + 0) + g 1 (52 + 9 * q + 1) + g 1 (52 + 9 * q + 2) = _
        rw [Int32.zero_add]
    unfold cf_X0_allPiecesOf
    exact q_yes hR (r := eS (g 1) q n) (by rw [keq_t rfl, e, e2, Int32.zero_add]; rfl) (by rw [keq_t rfl, m6, kbind_s, m7, kbind_s, m8, kbind_s, e3])
  rw [keq_f hy3, keq_f hy3]
  by_cases hy4 : y = 4
  · subst hy4
    have e4 : kup g 0 18 0 1 4 = f 0 8 := FRel_at hF (j := 4) (a := 0) (k := 8) (by decide)
    by_cases hm : f 0 8 = nI q
    · exact q_yes hR (r := 1) (by rw [keq_t rfl, keq_t hm]) (by rw [keq_t rfl, e4, keq_t hm])
    · exact q_yes hR (r := 0) (by rw [keq_t rfl, keq_f hm]) (by rw [keq_t rfl, e4, keq_f hm])
  exact q_no hR (n := 2) (by decide) (by decide) (by rw [keq_f hy4]) (by rw [keq_f hy4]; rfl)
