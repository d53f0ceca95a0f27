/-! run: the pieces. x: how many a shot makes of each part; a shots of the purge, b others, colour col -/
def putA (a b col : Nat) (x v : Nat → Int32) : Nat → Int32 := fun j =>
  if 30 ≤ j ∧ j < 38 then v j + x (j - 30) * nI (a + b)
  else if 38 ≤ j ∧ j < 46 then v j + x (j - 38) * nI a
  else if (109 ≤ j ∧ j < 157) ∧ (j - 109) % 6 = col ∧ x ((j - 109) / 6) ≠ 0 then v j + (v (j + 48) + x ((j - 109) / 6) * nI b) / v (22 + (j - 109) / 6)
  else if (157 ≤ j ∧ j < 205) ∧ (j - 157) % 6 = col ∧ x ((j - 157) / 6) ≠ 0 then (v j + x ((j - 157) / 6) * nI b) - (v j + x ((j - 157) / 6) * nI b) / v (22 + (j - 157) / 6) * v (22 + (j - 157) / 6)
  else v j
def stp (a b col p e : Nat) (w : Nat → Int32) : Nat → Int32 := upd (upd (upd (upd (upd w (30 + p) (w (30 + p) + nI e * nI (a + b))) (38 + p) (w (38 + p) + nI e * nI a)) (157 + (6 * p + col)) (w (157 + (6 * p + col)) + nI e * nI b)) (109 + (6 * p + col)) (w (109 + (6 * p + col)) + (w (157 + (6 * p + col)) + nI e * nI b) / w (22 + p))) (157 + (6 * p + col)) ((w (157 + (6 * p + col)) + nI e * nI b) - (w (157 + (6 * p + col)) + nI e * nI b) / w (22 + p) * w (22 + p))
theorem putA_lo {a b col j : Nat} {x v : Nat → Int32} (h : j < 30 ∨ (46 ≤ j ∧ j < 109) ∨ 205 ≤ j) : putA a b col x v j = v j := by
  unfold putA
  rw [if_neg (by omega), if_neg (by omega), if_neg (by omega), if_neg (by omega)]
theorem putA_0 {a b col : Nat} {v : Nat → Int32} : putA a b col (fun _ => 0) v = v := by
  funext j
  unfold putA
  simp
theorem putA_30 {a b col p : Nat} {x v : Nat → Int32} (hp : p < 8) : putA a b col x v (30 + p) = v (30 + p) + x p * nI (a + b) := by
  unfold putA
  rw [if_pos (by omega), show 30 + p - 30 = p by omega]
theorem putA_38 {a b col p : Nat} {x v : Nat → Int32} (hp : p < 8) : putA a b col x v (38 + p) = v (38 + p) + x p * nI a := by
  unfold putA
  rw [if_neg (by omega), if_pos (by omega), show 38 + p - 38 = p by omega]
theorem putA_109 {a b col p : Nat} {x v : Nat → Int32} (hp : p < 8) (hc : col < 6) (hx : x p = 0) : putA a b col x v (109 + (6 * p + col)) = v (109 + (6 * p + col)) := by
  unfold putA
  rw [show 109 + (6 * p + col) - 109 = 6 * p + col by omega, show (6 * p + col) / 6 = p by omega, if_neg (by omega), if_neg (by omega), if_neg (fun q => q.2.2 hx), if_neg (by omega)]
theorem putA_157 {a b col p : Nat} {x v : Nat → Int32} (hp : p < 8) (hc : col < 6) (hx : x p = 0) : putA a b col x v (157 + (6 * p + col)) = v (157 + (6 * p + col)) := by
  unfold putA
  rw [show 157 + (6 * p + col) - 157 = 6 * p + col by omega, show (6 * p + col) / 6 = p by omega, if_neg (by omega), if_neg (by omega), if_neg (by omega), if_neg (fun q => q.2.2 hx)]
theorem putA_109' {a b col p : Nat} {x v : Nat → Int32} (hp : p < 8) (hc : col < 6) (hx : x p ≠ 0) : putA a b col x v (109 + (6 * p + col)) = v (109 + (6 * p + col)) + (v (157 + (6 * p + col)) + x p * nI b) / v (22 + p) := by
  unfold putA
  rw [show 109 + (6 * p + col) - 109 = 6 * p + col by omega, show (6 * p + col) / 6 = p by omega, if_neg (by omega), if_neg (by omega), if_pos ⟨by omega, by omega, hx⟩, show 109 + (6 * p + col) + 48 = 157 + (6 * p + col) by omega]
theorem putA_157' {a b col p : Nat} {x v : Nat → Int32} (hp : p < 8) (hc : col < 6) (hx : x p ≠ 0) : putA a b col x v (157 + (6 * p + col)) = (v (157 + (6 * p + col)) + x p * nI b) - (v (157 + (6 * p + col)) + x p * nI b) / v (22 + p) * v (22 + p) := by
  unfold putA
  rw [show 157 + (6 * p + col) - 157 = 6 * p + col by omega, show (6 * p + col) / 6 = p by omega, if_neg (by omega), if_neg (by omega), if_neg (by omega), if_pos ⟨by omega, by omega, hx⟩]
/-- the row at a place that belongs to no other part -/
theorem putA_ne {a b col p j : Nat} {x y v : Nat → Int32} (h : ∀ q, q < 8 → q ≠ p → x q = y q) (h1 : j ≠ 30 + p) (h2 : j ≠ 38 + p) (h3 : j ≠ 109 + (6 * p + col)) (h4 : j ≠ 157 + (6 * p + col)) : putA a b col x v j = putA a b col y v j := by
  unfold putA
  by_cases c1 : 30 ≤ j ∧ j < 38
  · rw [if_pos c1, if_pos c1, h (j - 30) (by omega) (by omega)]
  rw [if_neg c1, if_neg c1]
  by_cases c2 : 38 ≤ j ∧ j < 46
  · rw [if_pos c2, if_pos c2, h (j - 38) (by omega) (by omega)]
  rw [if_neg c2, if_neg c2]
  by_cases c3 : (109 ≤ j ∧ j < 157) ∧ (j - 109) % 6 = col
  · have n4 : ∀ z : Nat → Int32, ¬ ((157 ≤ j ∧ j < 205) ∧ (j - 157) % 6 = col ∧ z ((j - 157) / 6) ≠ 0) := fun z q => absurd q.1.1 (by omega)
    rw [h ((j - 109) / 6) (by omega) (by omega), if_neg (n4 x), if_neg (n4 y)]
  have n3 : ∀ z : Nat → Int32, ¬ ((109 ≤ j ∧ j < 157) ∧ (j - 109) % 6 = col ∧ z ((j - 109) / 6) ≠ 0) := fun z q => c3 ⟨q.1, q.2.1⟩
  rw [if_neg (n3 x), if_neg (n3 y)]
  by_cases c4 : (157 ≤ j ∧ j < 205) ∧ (j - 157) % 6 = col
  · rw [h ((j - 157) / 6) (by omega) (by omega)]
  have n4 : ∀ z : Nat → Int32, ¬ ((157 ≤ j ∧ j < 205) ∧ (j - 157) % 6 = col ∧ z ((j - 157) / 6) ≠ 0) := fun z q => c4 ⟨q.1, q.2.1⟩
  rw [if_neg (n4 x), if_neg (n4 y)]
theorem putA_step {a b col p e : Nat} {x v : Nat → Int32} (hp : p < 8) (hc : col < 6) (hx : x p = 0) (he : nI e ≠ 0) : stp a b col p e (putA a b col x v) = putA a b col (upd x p (nI e)) v := by
  have hx' : upd x p (nI e) p ≠ 0 := by rw [upd_eq]; exact he
  have e22 : putA a b col x v (22 + p) = v (22 + p) := putA_lo (by omega)
  funext j
  unfold stp
  rw [putA_30 hp, putA_38 hp, putA_109 hp hc hx, putA_157 hp hc hx, e22, hx, Int32.zero_mul, Int32.zero_mul, Int32.add_zero, Int32.add_zero]
  by_cases h4 : j = 157 + (6 * p + col)
  · rw [h4, upd_eq, putA_157' hp hc hx', upd_eq]
  rw [upd_ne h4]
  by_cases h3 : j = 109 + (6 * p + col)
  · rw [h3, upd_eq, putA_109' hp hc hx', upd_eq]
  rw [upd_ne h3, upd_ne h4]
  by_cases h2 : j = 38 + p
  · rw [h2, upd_eq, putA_38 hp, upd_eq]
  rw [upd_ne h2]
  by_cases h1 : j = 30 + p
  · rw [h1, upd_eq, putA_30 hp, upd_eq]
  rw [upd_ne h1]
  exact putA_ne (p := p) (fun q _ hq => by rw [upd_ne hq]) h1 h2 h3 h4
theorem putA_congr {a b col : Nat} {x y v : Nat → Int32} (h : ∀ q, q < 8 → x q = y q) : putA a b col x v = putA a b col y v := by
  funext j
  by_cases hj : j < 205
  · exact putA_ne (p := 1000) (fun q hq _ => h q hq) (by omega) (by omega) (by omega) (by omega)
  · rw [putA_lo (by omega), putA_lo (by omega)]
theorem InvC_fr {B B' c0 c1 c2 c3 : Nat} {v w : Nat → Int32} (h : InvC B v c0 c1 c2 c3) (e : ∀ j, j < 30 ∨ (46 ≤ j ∧ j < 109) ∨ 253 ≤ j → w j = v j) (hm : ∀ k, k < 8 → rg (w (30 + k)) 0 B') : InvC B' w c0 c1 c2 c3 := by
  obtain ⟨⟨a0, a1, a2, a3, a4⟩, ⟨b4, b5, b8, b12, b13, b14, b15⟩, ⟨d1, d2, d3, d4⟩, ef, m, n⟩ := h
  refine ⟨⟨by rw [e _ (by omega)]; exact a0, by rw [e _ (by omega)]; exact a1, by rw [e _ (by omega)]; exact a2, by rw [e _ (by omega)]; exact a3, a4⟩, ⟨by rw [e _ (by omega)]; exact b4, by rw [e _ (by omega)]; exact b5, by rw [e _ (by omega)]; exact b8, by rw [e _ (by omega)]; exact b12, by rw [e _ (by omega)]; exact b13, by rw [e _ (by omega)]; exact b14, by rw [e _ (by omega)]; exact b15⟩, ⟨fun k hk => by rw [e _ (by omega)]; exact d1 k hk, fun k hk => by rw [e _ (by omega)]; exact d2 k hk, fun k hk => by rw [e _ (by omega)]; exact d3 k (by omega), hm⟩, fun q hq => ?_, fun i hi => ?_, fun o ho => ?_⟩
  · obtain ⟨n, h1, h2, h3, h4, h5, h6, h7, h8⟩ := ef q hq
    refine ⟨n, by rw [e _ (by omega)]; exact h1, h2, h3, by rw [e _ (by omega)]; exact h4, by rw [e _ (by omega)]; exact h5, fun i hi => ?_, fun i hi k hk => ?_, fun i hi hi3 => ?_⟩
    · rw [e _ (by omega), e _ (by omega)]
      exact h6 i hi
    · rw [e _ (by omega), e _ (by omega)]
      exact h7 i hi k hk
    · rw [e _ (by omega)]
      exact h8 i hi hi3
  · rw [e _ (by omega), e _ (by omega), e _ (by omega)]
    exact m i hi
  · rw [e _ (by omega), e _ (by omega), e _ (by omega), e _ (by omega)]
    exact n o ho
theorem lk_eq {v w : Nat → Int32} {q p : Nat} (h : ∀ j, 46 ≤ j → j < 109 → w j = v j) (hq : q < 6) : lk w q p = lk v q p := by
  unfold lk
  rw [h _ (by omega) (by omega), h _ (by omega) (by omega), h _ (by omega) (by omega), h _ (by omega) (by omega), h _ (by omega) (by omega), h _ (by omega) (by omega), h _ (by omega) (by omega)]
theorem c_pieces {f : kMem} {w : Nat → Int32} {c1 c2 q p : Nat} (hF : FRel f w) (w1 : w 1 = nI c1) (w2 : w 2 = nI c2) (hc1 : c1 ≤ 8) (hc2 : c2 ≤ 6) (hq : q < c2) (hp : p < c1) : cf_X0_piecesOf f (nI q) (nI p) = some (lk w q p, f) := by
  have f1 : f 1 1 = nI c1 := (FRel_at hF (j := 1) (a := 1) (k := 1) (by decide)).symm.trans w1
  have f2 : f 1 2 = nI c2 := (FRel_at hF (j := 2) (a := 1) (k := 2) (by decide)).symm.trans w2
  unfold cf_X0_piecesOf
  rw [c_isF1 (by omega) f2 ⟨q, rfl, hq⟩, kbind_s, keq10, c_isP1 (by omega) f1 ⟨p, rfl, hp⟩, kbind_s, keq10, show nI q * 8 + nI p = nI (8 * q + p) by rw [show (8 : Int32) = nI 8 from rfl, nI_mul, nI_add, Nat.mul_comm], kchk_t (nI_kin (by omega) (by decide)), nI_clamp (by omega), (hF.2 q (by omega)).2.2 p (by omega)]
theorem c_addScrap {f : kMem} {p : Nat} {y : Int32} (hp : p < 8) : cf_X9_addScrap f (nI p) y = some (0, kup (kup f 16 p (f 16 p + y)) 17 p (f 17 p + y)) := by
  have hk : kin (nI p) 8 = true := nI_kin hp (by decide)
  unfold cf_X9_addScrap
  rw [kchk_t hk, kchk_t hk, nI_clamp (by omega), kmem_s, kchk_t hk, kchk_t hk, kmem_s]
  rfl
theorem c_addPieces {f : kMem} {p col sz : Nat} {y : Int32} (hp : p < 8) (hc : col < 6) (h1 : 1 ≤ sz) (h2 : sz ≤ 50) : cf_X9_addPieces f (nI p) (nI col) y (nI sz) = some (0, kup (kup (kup (kup f 16 p (f 16 p + y)) 14 (6 * p + col) (f 14 (6 * p + col) + y)) 13 (6 * p + col) (f 13 (6 * p + col) + (f 14 (6 * p + col) + y) / nI sz)) 14 (6 * p + col) ((f 14 (6 * p + col) + y) - (f 14 (6 * p + col) + y) / nI sz * nI sz)) := by
  have hk : kin (nI p) 8 = true := nI_kin hp (by decide)
  have hl : kin (nI (6 * p + col)) 48 = true := nI_kin (by omega) (by decide)
  have hne : ¬ nI sz = 0 := nI_ne0 (by omega) (by omega)
  have hd : (!decide (nI sz = 0)) = true := by simp [hne]
  unfold cf_X9_addPieces
  rw [klet_s, pl1, kchk_t hk, kchk_t hk, nI_clamp (by omega), nI_clamp (by omega), kmem_s, kchk_t hl, kchk_t hl, kmem_s, kle_f (fun q => by have := (nI_le_iff (b := 0) (by omega) (by omega)).mp q; omega), kchk_t hl, kchk_t hl, kchk_t hd, kchk_t hl, kmem_s, kchk_t hl, kchk_t hd, kchk_t hl, kmem_s]
  have e1 : kup f 16 p (f 16 p + y) 14 (6 * p + col) = f 14 (6 * p + col) := rfl
  have e2 : ∀ z, kup (kup f 16 p (f 16 p + y)) 14 (6 * p + col) z 13 (6 * p + col) = f 13 (6 * p + col) := fun z => rfl
  have e3 : ∀ (h : kMem) z, kup h 13 (6 * p + col) z 14 (6 * p + col) = h 14 (6 * p + col) := fun h z => rfl
  rw [e1, e2, e3, kup_at]
def xc (v : Nat → Int32) (q i : Nat) : Nat → Int32 := fun p => if p < i then lk v q p else 0
set_option maxRecDepth 20000 in
theorem lp_putC {B c0 c1 c2 c3 a b col q : Nat} {v : Nat → Int32} (hI : InvC B v c0 c1 c2 c3) (hv4 : v 4 = nI q) (hq : q < c2) (hv5 : v 5 = nI col) (hcol : col < c0) : ∀ k u i f, i + k = c1 → k < u → FRel f (putA a b col (xc v q i) v) → ∃ f1, cl_X4_putPieces_2 u f (nI a) (nI b) (nI i) = some (0, f1) ∧ FRel f1 (putA a b col (xc v q c1) v) ∧ ∀ c, 25 ≤ c → f1 c = f c
  | 0, u + 1, i, f, h1, h2, hF => by
    obtain ⟨-, v1, -⟩ := id hI.1
    have f1 : f 1 1 = nI c1 := (FRel_at hF (j := 1) (a := 1) (k := 1) (by decide)).symm.trans ((putA_lo (by omega)).trans v1)
    obtain rfl : i = c1 := by omega
    refine ⟨f, ?_, hF, fun _ _ => rfl⟩
    rw [cl_X4_putPieces_2.eq_2, f1, kle_t (Int32.le_refl _)]
  | k + 1, u + 1, i, f, h1, h2, hF => by
    obtain ⟨-, v1, v2, -, hc0, hc1, hc2, -⟩ := id hI.1
    obtain ⟨-, -, d3, -⟩ := id hI.2.2.1
    have f1 : f 1 1 = nI c1 := (FRel_at hF (j := 1) (a := 1) (k := 1) (by decide)).symm.trans ((putA_lo (by omega)).trans v1)
    have f8 : f 0 8 = nI q := (FRel_at hF (j := 4) (a := 0) (k := 8) (by decide)).symm.trans ((putA_lo (by omega)).trans hv4)
    have f7 : f 0 7 = nI col := (FRel_at hF (j := 5) (a := 0) (k := 7) (by decide)).symm.trans ((putA_lo (by omega)).trans hv5)
    have one : nI i + Int32.ofInt 1 = nI (i + 1) := nI_1 i
    have w := c_pieces (q := q) (p := i) hF ((putA_lo (by omega)).trans v1) ((putA_lo (by omega)).trans v2) hc1 hc2 hq (by omega)
    rw [lk_eq (fun j j1 j2 => putA_lo (by omega)) (by omega)] at w
    rw [cl_X4_putPieces_2.eq_2, f1, kle_f (fun q => by have := (nI_le_iff (by omega) (by omega)).mp q; omega), f8, w, kbind_s, one, klet_s]
    rcases lk_rg (p := i) (hI.2.2.2.1 q hq) with h0 | ⟨e, he, he1, he9⟩
    · have ex : xc v q (i + 1) = xc v q i := by
        funext p
        unfold xc
        by_cases hp : p = i
        · rw [hp, if_pos (by omega), if_neg (by omega), h0]
        · by_cases hp2 : p < i
          · rw [if_pos hp2, if_pos (by omega)]
          · rw [if_neg hp2, if_neg (by omega)]
      rw [h0, kle_t (by decide)]
      exact lp_putC hI hv4 hq hv5 hcol k u (i + 1) f (by omega) (by omega) (by rw [ex]; exact hF)
    · have ex : xc v q (i + 1) = upd (xc v q i) i (nI e) := by
        funext p
        unfold xc
        by_cases hp : p = i
        · rw [hp, if_pos (by omega), upd_eq, he]
        · rw [upd_ne hp]
          by_cases hp2 : p < i
          · rw [if_pos hp2, if_pos (by omega)]
          · rw [if_neg hp2, if_neg (by omega)]
      obtain ⟨sz, hsz, hs1, hs2⟩ := d3 i (by omega)
      have f3 : f 3 i = nI sz := (FRel_at hF (mcs_3 i (by omega))).symm.trans ((putA_lo (by omega)).trans hsz)
      have hne : ¬ nI e ≤ 0 := fun q => by have := (nI_le_iff (b := 0) (by omega) (by omega)).mp q; omega
      rw [he, kle_f hne, c_addScrap (by omega), kbind_s, kchk_t (nI_kin (by omega) (by decide)), nI_clamp (by omega)]
      have g7 : ∀ A C, kup (kup f 16 i A) 17 i C 0 7 = nI col := fun A C => f7
      have g3 : ∀ A C, kup (kup f 16 i A) 17 i C 3 i = nI sz := fun A C => f3
      have z16 : ∀ A C, kup (kup f 16 i A) 17 i C 16 i = A := fun A C => by rw [kup_ne _ _ _ (by decide), kup_at]
      have z14 : ∀ A C, kup (kup f 16 i A) 17 i C 14 (6 * i + col) = f 14 (6 * i + col) := fun A C => rfl
      have z13 : ∀ A C, kup (kup f 16 i A) 17 i C 13 (6 * i + col) = f 13 (6 * i + col) := fun A C => rfl
      rw [g7, g3, c_addPieces (by omega) (by omega) hs1 hs2, kbind_s, klet_s, z16, z14, z13]
      obtain ⟨s13, s14, -⟩ := mcs_13 (6 * i + col) (by omega)
      have hst := putA_step (a := a) (b := b) (col := col) (p := i) (e := e) (x := xc v q i) (v := v) (by omega) (by omega) (if_neg (by omega)) (nI_ne0 (by omega) (by omega))
      have k16 := FRel_at hF (mcs_16 i (by omega))
      have k17 := FRel_at hF (mcs_17 i (by omega))
      have k13 := FRel_at hF s13
      have k14 := FRel_at hF s14
      have k3 := FRel_at hF (mcs_3 i (by omega))
      obtain ⟨f2, r1, r2, r3⟩ := lp_putC (a := a) (b := b) hI hv4 hq hv5 hcol k u (i + 1) (kup (kup (kup (kup (kup (kup f 16 i (f 16 i + nI e * nI a)) 17 i (f 17 i + nI e * nI a)) 16 i (f 16 i + nI e * nI a + nI e * nI b)) 14 (6 * i + col) (f 14 (6 * i + col) + nI e * nI b)) 13 (6 * i + col) (f 13 (6 * i + col) + (f 14 (6 * i + col) + nI e * nI b) / nI sz)) 14 (6 * i + col) ((f 14 (6 * i + col) + nI e * nI b) - (f 14 (6 * i + col) + nI e * nI b) / nI sz * nI sz)) (by omega) (by omega) (by
        rw [ex, ← hst]
        have h9 := FRel_up ((f 14 (6 * i + col) + nI e * nI b) - (f 14 (6 * i + col) + nI e * nI b) / nI sz * nI sz) (FRel_up (f 13 (6 * i + col) + (f 14 (6 * i + col) + nI e * nI b) / nI sz) (FRel_up (f 14 (6 * i + col) + nI e * nI b) (FRel_up (f 16 i + nI e * nI a + nI e * nI b) (FRel_up (f 17 i + nI e * nI a) (FRel_up (f 16 i + nI e * nI a) hF (mcs_16 i (by omega))) (mcs_17 i (by omega))) (mcs_16 i (by omega))) s14) s13) s14
        rw [upd_comm (a := 38 + i) (b := 30 + i) (by omega), upd_upd] at h9
        unfold stp
        rw [k16, k17, k14, k13, k3, f3, show f 16 i + nI e * nI (a + b) = f 16 i + nI e * nI a + nI e * nI b by rw [← nI_add, Int32.mul_add, Int32.add_assoc]]
        exact h9)
      exact ⟨f2, r1, r2, fun c hc => by rw [r3 c hc, kup_ne _ _ _ (by omega), kup_ne _ _ _ (by omega), kup_ne _ _ _ (by omega), kup_ne _ _ _ (by omega), kup_ne _ _ _ (by omega), kup_ne _ _ _ (by omega)]⟩
