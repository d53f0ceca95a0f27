/-! pieces, families, lateness -/
def lkf (v : Nat → Int32) (q p : Nat) : Nat → Nat → Int32
  | 0, _ => 0
  | k + 1, i => if v (49 + 9 * q + i) = nI p then v (52 + 9 * q + i) else lkf v q p k (i + 1)
theorem lk_lkf {v : Nat → Int32} {q p n : Nat} (h : v (48 + 9 * q) = nI n) (hn : n ≤ 3) : lk v q p = lkf v q p n 0 := by
  unfold lk
  rw [h]
  rcases (show n = 0 ∨ n = 1 ∨ n = 2 ∨ n = 3 by omega) with rfl | rfl | rfl | rfl
  · rw [if_neg (fun q => absurd q.1 (by decide)), if_neg (fun q => absurd q.1 (by decide)), if_neg (fun q => absurd q.1 (by decide))]
    rfl
  · by_cases h0 : v (49 + 9 * q) = nI p
    · rw [if_pos ⟨by decide, h0⟩]
      unfold lkf
      rw [Nat.add_zero, Nat.add_zero, if_pos h0]
    · rw [if_neg (fun q => h0 q.2), if_neg (fun q => absurd q.1 (by decide)), if_neg (fun q => absurd q.1 (by decide))]
      unfold lkf
      rw [Nat.add_zero, if_neg h0]
      rfl
  · by_cases h0 : v (49 + 9 * q) = nI p
    · rw [if_pos ⟨by decide, h0⟩]
      unfold lkf
      rw [Nat.add_zero, Nat.add_zero, if_pos h0]
    · rw [if_neg (fun q => h0 q.2)]
      unfold lkf
      rw [Nat.add_zero, if_neg h0]
      unfold lkf
      rw [show 49 + 9 * q + (0 + 1) = 50 + 9 * q by omega, show 52 + 9 * q + (0 + 1) = 53 + 9 * q by omega]
      by_cases h1 : v (50 + 9 * q) = nI p
      · rw [if_pos ⟨by decide, h1⟩, if_pos h1]
      · rw [if_neg (fun q => h1 q.2), if_neg (fun q => absurd q.1 (by decide)), if_neg h1]
        rfl
  · by_cases h0 : v (49 + 9 * q) = nI p
    · rw [if_pos ⟨by decide, h0⟩]
      unfold lkf
      rw [Nat.add_zero, Nat.add_zero, if_pos h0]
    · rw [if_neg (fun q => h0 q.2)]
      unfold lkf
      rw [Nat.add_zero, if_neg h0]
      unfold lkf
      rw [show 49 + 9 * q + (0 + 1) = 50 + 9 * q by omega, show 52 + 9 * q + (0 + 1) = 53 + 9 * q by omega]
      by_cases h1 : v (50 + 9 * q) = nI p
      · rw [if_pos ⟨by decide, h1⟩, if_pos h1]
      · rw [if_neg (fun q => h1 q.2), if_neg h1]
        unfold lkf
        rw [show 49 + 9 * q + (0 + 1 + 1) = 51 + 9 * q by omega, show 52 + 9 * q + (0 + 1 + 1) = 54 + 9 * q by omega]
        by_cases h2 : v (51 + 9 * q) = nI p
        · rw [if_pos ⟨by decide, h2⟩, if_pos h2]
        · rw [if_neg (fun q => h2 q.2), if_neg h2]
          rfl
theorem lp_pieces {g : kMem} {q p n : Nat} (hq : q < 6) (hn : n ≤ 3) (h : g 1 (48 + 9 * q) = nI n) : ∀ (k u i : Nat), i + k = n → k < u → cl_X12_piecesOf_2 (fun g8 x1_6 x3_7 => kbind (cf_X12_of g8 x1_6 (6 + x3_7)) (fun r9 g10 => some (r9, g10))) u g (nI q) (nI p) (nI i) = some (lkf (g 1) q p k i, g)
  | 0, u + 1, i, h1, h2 => by
    unfold cl_X12_piecesOf_2
    rw [show (2 : Int32) = nI 2 from rfl, m_of hq (by decide), kbind_s, show 46 + 9 * q + 2 = 48 + 9 * q by omega, h, kle_t (by rw [show i = n by omega]; exact Int32.le_refl _)]
    rfl
  | k + 1, u + 1, i, h1, h2 => by
    unfold cl_X12_piecesOf_2
    rw [show (2 : Int32) = nI 2 from rfl, m_of hq (by decide), kbind_s, show 46 + 9 * q + 2 = 48 + 9 * q by omega, h, kle_f (fun q => by have := (nI_le_iff (by omega) (by omega)).mp q; omega), show (3 : Int32) + nI i = nI (3 + i) from nI_add 3 i, m_of hq (by omega), kbind_s, show 46 + 9 * q + (3 + i) = 49 + 9 * q + i by omega]
    unfold lkf
    by_cases hp : g 1 (49 + 9 * q + i) = nI p
    · rw [keq_t hp, if_pos hp, show (6 : Int32) + nI i = nI (6 + i) from nI_add 6 i, m_of hq (by omega), kbind_s, show 46 + 9 * q + (6 + i) = 52 + 9 * q + i by omega]
    · rw [keq_f hp, if_neg hp, klet_s, show nI i + Int32.ofInt 1 = nI (i + 1) from nI_1 i]
      exact lp_pieces hq hn h k u (i + 1) (by omega) (by omega)
theorem p_pieces {B : Nat} {f g : kMem} {c0 c1 c2 c3 q p : Nat} (hF : FRel f (g 1)) (hI : InvC B (g 1) c0 c1 c2 c3) (hq : q < c2) (hp : p < c1) : cf_X0_piecesOf f (nI q) (nI p) = some (lk (g 1) q p, f) ∧ cf_X12_piecesOf g (nI q) (nI p) = some (lk (g 1) q p, g) := by
  obtain ⟨⟨-, g1, g2, -, -, hc1, hc2, -⟩, -, -, hfam, -⟩ := id hI
  have f1 : f 1 1 = nI c1 := (FRel_at hF (j := 1) (a := 1) (k := 1) (by decide)).symm.trans g1
  have f2 : f 1 2 = nI c2 := (FRel_at hF (j := 2) (a := 1) (k := 2) (by decide)).symm.trans g2
  obtain ⟨n, hn, -, hn3, -⟩ := hfam q hq
  constructor
  · unfold cf_X0_piecesOf
    rw [c_isF1 (by omega) f2 ⟨q, rfl, hq⟩, kbind_s, keq10, c_isP1 (by omega) f1 ⟨p, rfl, hp⟩, kbind_s, keq10, show nI q * 8 + nI p = nI (8 * q + p) by rw [show (8 : Int32) = nI 8 from rfl, nI_mul, nI_add, Nat.mul_comm], kchk_t (nI_kin (by omega) (by decide)), nI_clamp (by omega), (hF.2 q (by omega)).2.2 p (by omega)]
  · unfold cf_X12_piecesOf
    rw [lk_lkf hn hn3]
    exact lp_pieces (by omega) hn3 hn n 100 0 (by omega) (by omega)
theorem kp_pieces : kP_pieces kR := by
  intro N f g x y hN hR
  obtain ⟨⟨hF, ⟨c0, c1, c2, c3, hI⟩, hZ⟩, -⟩ := id hR
  obtain ⟨-, g1, g2, -, -, hc1, hc2, -⟩ := id hI.1
  have f1 : f 1 1 = nI c1 := (FRel_at hF (j := 1) (a := 1) (k := 1) (by decide)).symm.trans g1
  have f2 : f 1 2 = nI c2 := (FRel_at hF (j := 2) (a := 1) (k := 2) (by decide)).symm.trans g2
  have G1 : kup g 0 18 0 1 1 = nI c1 := g1
  have G2 : kup g 0 18 0 1 2 = nI c2 := g2
  unfold cx_X11_pieces cf_X12_pieces
  rw [kmem_s]
  by_cases hx : rl x c2
  · rw [c_isF1 (by omega) f2 hx, kbind_s, keq10, m_isF1 (by omega) G2 hx, kbind_s, keq10]
    by_cases hy : rl y c1
    · rw [c_isP1 (by omega) f1 hy, kbind_s, keq10, m_isP1 (by omega) G1 hy, kbind_s, keq10]
      obtain ⟨q, rfl, hq⟩ := hx
      obtain ⟨p, rfl, hp⟩ := hy
      obtain ⟨e1, e2⟩ := p_pieces (g := kup g 0 18 0) hF hI hq hp
      exact q_yes hR (by rw [e1]; rfl) (by rw [e2]; rfl)
    · exact q_no hR (n := 3) (by decide) (by decide) (by rw [c_isP0 (by omega) f1 hy, kbind_s, keq00]; rfl) (by rw [m_isP0 (by omega) G1 hy, kbind_s, keq00]; rfl)
  · exact q_no hR (n := 3) (by decide) (by decide) (by rw [c_isF0 (by omega) f2 hx, kbind_s, keq00]; rfl) (by rw [m_isF0 (by omega) G2 hx, kbind_s, keq00]; rfl)
theorem lp_fams {B : Nat} {f g : kMem} {c0 c1 c2 c3 p : Nat} (hF : FRel f (g 1)) (hI : InvC B (g 1) c0 c1 c2 c3) (hp : p < c1) : ∀ (k u i : Nat) (x : Int32), i + k = c2 → k < u → ∃ r, cl_X0_familiesWith_4 u f (nI p) x (nI i) = some (r, f) ∧ cl_X12_families_23 u g (nI p) x (nI i) = some (r, g)
  | 0, u + 1, i, x, h1, h2 => by
    obtain ⟨⟨-, -, g2, -, -, hc1, hc2, -⟩, -⟩ := id hI
    have f2 : f 1 2 = nI c2 := (FRel_at hF (j := 2) (a := 1) (k := 2) (by decide)).symm.trans g2
    unfold cl_X0_familiesWith_4 cl_X12_families_23
    rw [f2, g2, kle_t (by rw [show i = c2 by omega]; exact Int32.le_refl _), kle_t (by rw [show i = c2 by omega]; exact Int32.le_refl _)]
    exact ⟨x, rfl, rfl⟩
  | k + 1, u + 1, i, x, h1, h2 => by
    obtain ⟨⟨-, -, g2, -, -, hc1, hc2, -⟩, -⟩ := id hI
    have f2 : f 1 2 = nI c2 := (FRel_at hF (j := 2) (a := 1) (k := 2) (by decide)).symm.trans g2
    obtain ⟨e1, e2⟩ := p_pieces hF hI (q := i) (by omega) hp
    unfold cl_X0_familiesWith_4 cl_X12_families_23
    rw [f2, g2, kle_f (fun q => by have := (nI_le_iff (by omega) (by omega)).mp q; omega), kle_f (fun q => by have := (nI_le_iff (by omega) (by omega)).mp q; omega), e1, e2, kbind_s, kbind_s, show nI i + Int32.ofInt 1 = nI (i + 1) from nI_1 i]
    by_cases h0 : lk (g 1) i p ≤ 0
    · rw [kle_t h0, kle_t h0, klet_s, klet_s, klet_s, Int32.or_zero]
      exact lp_fams hF hI hp k u (i + 1) x (by omega) (by omega)
    · rw [kle_f h0, kle_f h0, klet_s, klet_s, klet_s, klet_s]
      exact lp_fams hF hI hp k u (i + 1) _ (by omega) (by omega)
theorem kp_families : kP_families kR := by
  intro N f g x hN hR
  obtain ⟨⟨hF, ⟨c0, c1, c2, c3, hI⟩, hZ⟩, -⟩ := id hR
  obtain ⟨-, g1, -, -, -, hc1, hc2, -⟩ := id hI.1
  have f1 : f 1 1 = nI c1 := (FRel_at hF (j := 1) (a := 1) (k := 1) (by decide)).symm.trans g1
  have G1 : kup g 0 18 0 1 1 = nI c1 := g1
  unfold cx_X11_families cf_X12_families
  rw [kmem_s]
  by_cases hx : rl x c1
  · rw [c_isP1 (by omega) f1 hx, kbind_s, keq10, m_isP1 (by omega) G1 hx, kbind_s, keq10]
    obtain ⟨p, rfl, hp⟩ := hx
    obtain ⟨r, e1, e2⟩ := lp_fams (g := kup g 0 18 0) hF hI hp c2 100 0 0 (by omega) (by omega)
    unfold cf_X0_familiesWith
    exact q_yes hR (r := r) (by rw [show cl_X0_familiesWith_4 100 f (nI p) 0 0 = some (r, f) from e1]; rfl) e2
  · exact q_no hR (n := 3) (by decide) (by decide) (by rw [c_isP0 (by omega) f1 hx, kbind_s, keq00]) (by rw [m_isP0 (by omega) G1 hx, kbind_s, keq00]; rfl)
