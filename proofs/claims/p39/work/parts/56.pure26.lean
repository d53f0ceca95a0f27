/-! run: the pieces, the model -/
theorem m_put {Y : kMem → Int32 → Option (Int32 × kMem)} {g : kMem} {a b col q n t p e sz u : Nat} (hq : q < 6) (hn : g 1 (48 + 9 * q) = nI n) (hn3 : n ≤ 3) (ht : t < n) (hp : g 1 (49 + 9 * q + t) = nI p) (hp8 : p < 8) (he : g 1 (52 + 9 * q + t) = nI e) (hc : col < 6) (hs : g 1 (22 + p) = nI sz) (h1 : 1 ≤ sz) (h2 : sz ≤ 50) : cl_X12_doesRun_336 Y (u + 1) g (nI col) (nI b) (nI q) (nI a) (nI t) = cl_X12_doesRun_336 Y u (rw1 g (stp a b col p e (g 1))) (nI col) (nI b) (nI q) (nI a) (nI (t + 1)) := by
  have one : nI t + Int32.ofInt 1 = nI (t + 1) := nI_1 t
  have K : ∀ j, j < 313 → kin (nI j) 313 = true := fun j hj => nI_kin hj (by decide)
  have Lc : ∀ j, j < 313 → (nI j).toNatClampNeg = j := fun j hj => nI_clamp (by omega)
  have hne : ¬ nI sz = 0 := nI_ne0 (by omega) (by omega)
  have hd : (!decide (nI sz = 0)) = true := by simp [hne]
  have A30 : (30 : Int32) + nI p = nI (30 + p) := nI_add 30 p
  have A38 : (38 : Int32) + nI p = nI (38 + p) := nI_add 38 p
  have A22 : (22 : Int32) + nI p = nI (22 + p) := nI_add 22 p
  have A157 : (157 : Int32) + nI (6 * p + col) = nI (157 + (6 * p + col)) := nI_add 157 _
  have A109 : (109 : Int32) + nI (6 * p + col) = nI (109 + (6 * p + col)) := nI_add 109 _
  have m2 : cf_X12_of g (nI q) 2 = some (nI n, g) := by
    refine (m_of (w := 2) hq (by decide)).trans ?_
    rw [show 46 + 9 * q + 2 = 48 + 9 * q by omega, hn]
  have m3 : cf_X12_of g (nI q) (3 + nI t) = some (nI p, g) := by
    rw [show (3 : Int32) + nI t = nI (3 + t) from nI_add 3 t, m_of hq (by omega), show 46 + 9 * q + (3 + t) = 49 + 9 * q + t by omega, hp]
  have m6 : cf_X12_of g (nI q) (6 + nI t) = some (nI e, g) := by
    rw [show (6 : Int32) + nI t = nI (6 + t) from nI_add 6 t, m_of hq (by omega), show 46 + 9 * q + (6 + t) = 52 + 9 * q + t by omega, he]
  rw [cl_X12_doesRun_336.eq_2, m2, kbind_s, kle_f (fun q => by have := (nI_le_iff (by omega) (by omega)).mp q; omega), m3, kbind_s, m6, kbind_s]
  unfold cf_X12_place
  rw [pl2, kbind_s, one, A30, A38, A22, A157, A109, kchk_t (K (30 + p) (by omega)), kchk_t (K (30 + p) (by omega)), Lc (30 + p) (by omega), Lc (38 + p) (by omega), Lc (22 + p) (by omega), Lc (157 + (6 * p + col)) (by omega), Lc (109 + (6 * p + col)) (by omega)]
  simp only [kmem_s, klet_s, K (30 + p) (by omega), K (38 + p) (by omega), K (22 + p) (by omega), K (157 + (6 * p + col)) (by omega), K (109 + (6 * p + col)) (by omega), kchk_s]
  have n1 : ∀ x y z, kup (kup (kup g 1 (30 + p) x) 1 (38 + p) y) 1 (157 + (6 * p + col)) z 1 (22 + p) = nI sz := fun x y z => by rw [kup_nk (by omega), kup_nk (by omega), kup_nk (by omega)]; exact hs
  have n2 : ∀ x y z r, kup (kup (kup (kup g 1 (30 + p) x) 1 (38 + p) y) 1 (157 + (6 * p + col)) z) 1 (109 + (6 * p + col)) r 1 (22 + p) = nI sz := fun x y z r => by rw [kup_nk (by omega)]; exact n1 x y z
  have n3 : ∀ x, kup g 1 (30 + p) x 1 (38 + p) = g 1 (38 + p) := fun x => kup_nk (by omega)
  have n4 : ∀ x y, kup (kup g 1 (30 + p) x) 1 (38 + p) y 1 (157 + (6 * p + col)) = g 1 (157 + (6 * p + col)) := fun x y => by rw [kup_nk (by omega), kup_nk (by omega)]
  have n5 : ∀ x y z, kup (kup (kup g 1 (30 + p) x) 1 (38 + p) y) 1 (157 + (6 * p + col)) z 1 (109 + (6 * p + col)) = g 1 (109 + (6 * p + col)) := fun x y z => by rw [kup_nk (by omega), kup_nk (by omega), kup_nk (by omega)]
  have n6 : ∀ (h : kMem) z r, kup (kup h 1 (157 + (6 * p + col)) z) 1 (109 + (6 * p + col)) r 1 (157 + (6 * p + col)) = z := fun h z r => by rw [kup_nk (by omega), kup_at]
  simp only [n1, n2, n3, n4, n5, n6, kup_at, hd, kchk_s, nI_add]
  rw [rw1_up, rw1_up, rw1_up, rw1_up, rw1_up]
  simp only [rw1_rw1, rw1_1]
  unfold stp
  rw [hs]
/-- the first i parts of a family, with their pieces -/
def xm (v : Nat → Int32) (q : Nat) : Nat → Nat → Int32
  | 0 => fun _ => 0
  | t + 1 => upd (xm v q t) (v (49 + 9 * q + t)).toNatClampNeg (v (52 + 9 * q + t))
theorem xm_0 {v : Nat → Int32} {q p : Nat} : ∀ t, (∀ i, i < t → (v (49 + 9 * q + i)).toNatClampNeg ≠ p) → xm v q t p = 0
  | 0, _ => rfl
  | t + 1, h => by
    unfold xm
    rw [upd_ne (Ne.symm (h t (by omega)))]
    exact xm_0 t (fun i hi => h i (by omega))
set_option maxRecDepth 20000 in
theorem lp_putM {Y : kMem → Int32 → Option (Int32 × kMem)} {B c0 c1 c2 c3 a b col q n : Nat} {v : Nat → Int32} (hI : InvC B v c0 c1 c2 c3) (hq : q < c2) (hcol : col < 6) (hn : v (48 + 9 * q) = nI n) (hn3 : n ≤ 3) : ∀ k u t g, t + k = n → k < u → g 1 = putA a b col (xm v q t) v → cl_X12_doesRun_336 Y u g (nI col) (nI b) (nI q) (nI a) (nI t) = Y (rw1 g (putA a b col (xm v q n) v)) (nI a)
  | 0, u + 1, t, g, h1, h2, hg => by
    obtain ⟨-, -, -, -, -, -, hc2, -⟩ := id hI.1
    obtain rfl : t = n := by omega
    have m2 : cf_X12_of g (nI q) 2 = some (nI t, g) := by
      refine (m_of (w := 2) (by omega) (by decide)).trans ?_
      rw [show 46 + 9 * q + 2 = 48 + 9 * q by omega, hg, putA_lo (by omega), hn]
    rw [cl_X12_doesRun_336.eq_2, m2, kbind_s, kle_t (Int32.le_refl _), ← hg, rw1_id]
  | k + 1, u + 1, t, g, h1, h2, hg => by
    obtain ⟨-, -, -, -, -, hc1, hc2, -⟩ := id hI.1
    obtain ⟨-, -, d3, -⟩ := id hI.2.2.1
    obtain ⟨n', hn', -, hn'3, -, -, h6, h7, -⟩ := hI.2.2.2.1 q hq
    obtain rfl : n' = n := nI_inj (by omega) (by omega) (hn'.symm.trans hn)
    obtain ⟨⟨p, hp, hp1⟩, e, he, he1, he9⟩ := h6 t (by omega)
    obtain ⟨sz, hsz, hs1, hs2⟩ := d3 p hp1
    have hx0 : xm v q t p = 0 := xm_0 t (fun i hi hip => by
      obtain ⟨⟨p', hp', hp1'⟩, -⟩ := h6 i (by omega)
      rw [hp', nI_clamp (by omega)] at hip
      exact h7 t (by omega) i hi (by rw [hp, hp', hip]))
    have G : ∀ j, 46 ≤ j → j < 109 → g 1 j = v j := fun j j1 j2 => by rw [hg, putA_lo (by omega)]
    rw [m_put (a := a) (b := b) (p := p) (e := e) (sz := sz) (n := n') (by omega) ((G _ (by omega) (by omega)).trans hn') hn3 (by omega) ((G _ (by omega) (by omega)).trans hp) (by omega) ((G _ (by omega) (by omega)).trans he) hcol (by rw [hg, putA_lo (by omega)]; exact hsz) hs1 hs2]
    have ex : xm v q (t + 1) = upd (xm v q t) p (nI e) := by
      show upd (xm v q t) (v (49 + 9 * q + t)).toNatClampNeg (v (52 + 9 * q + t)) = _
      rw [hp, he, nI_clamp (by omega)]
    rw [lp_putM (Y := Y) hI hq hcol hn hn3 k u (t + 1) (rw1 g (stp a b col p e (g 1))) (by omega) (by omega) (by rw [rw1_1, hg, putA_step (by omega) hcol hx0 (nI_ne0 (by omega) (by omega)), ex]), rw1_rw1]
/-- both ways to go over the parts -/
theorem xc_xm {B c0 c1 c2 c3 q n : Nat} {v : Nat → Int32} (hI : InvC B v c0 c1 c2 c3) (hq : q < c2) (hn : v (48 + 9 * q) = nI n) (hn3 : n ≤ 3) {p : Nat} (hp : p < 8) : xc v q c1 p = xm v q n p := by
  obtain ⟨-, -, -, -, -, hc1, hc2, -⟩ := id hI.1
  obtain ⟨n', hn', h2, h3, -, -, h6, h7, -⟩ := hI.2.2.2.1 q hq
  obtain rfl : n' = n := nI_inj (by omega) (by omega) (hn'.symm.trans hn)
  have key : ∀ t, t ≤ n' → (∀ i, i < t → v (49 + 9 * q + i) ≠ nI p) ∧ xm v q t p = 0 ∨ ∃ i, i < t ∧ v (49 + 9 * q + i) = nI p ∧ xm v q t p = v (52 + 9 * q + i) := by
    intro t
    induction t with
    | zero => exact fun _ => Or.inl ⟨fun i hi => absurd hi (by omega), rfl⟩
    | succ t ih =>
      intro ht
      obtain ⟨⟨r, hr, hr1⟩, -⟩ := h6 t (by omega)
      have ex : xm v q (t + 1) = upd (xm v q t) r (v (52 + 9 * q + t)) := by
        show upd (xm v q t) (v (49 + 9 * q + t)).toNatClampNeg (v (52 + 9 * q + t)) = _
        rw [hr, nI_clamp (by omega)]
      rw [ex]
      by_cases hrp : p = r
      · exact Or.inr ⟨t, by omega, by rw [hr, hrp], by rw [hrp, upd_eq]⟩
      · rw [upd_ne hrp]
        rcases ih (by omega) with ⟨k1, k2⟩ | ⟨i, k1, k2, k3⟩
        · refine Or.inl ⟨fun i hi => ?_, k2⟩
          by_cases hit : i = t
          · rw [hit, hr]
            exact fun h => hrp (nI_inj (by omega) (by omega) h).symm
          · exact k1 i (by omega)
        · exact Or.inr ⟨i, by omega, k2, k3⟩
  have hlk : (∀ i, i < n' → v (49 + 9 * q + i) ≠ nI p) ∧ lk v q p = 0 ∨ ∃ i, i < n' ∧ v (49 + 9 * q + i) = nI p ∧ lk v q p = v (52 + 9 * q + i) := by
    rw [lk_lkf hn' h3]
    have : ∀ k i, i + k = n' → (∀ o, i ≤ o → o < n' → v (49 + 9 * q + o) ≠ nI p) ∧ lkf v q p k i = 0 ∨ ∃ o, o < n' ∧ v (49 + 9 * q + o) = nI p ∧ lkf v q p k i = v (52 + 9 * q + o) := by
      intro k
      induction k with
      | zero => exact fun i hi => Or.inl ⟨fun o h1 h2 => absurd h2 (by omega), rfl⟩
      | succ k ih =>
        intro i hi
        unfold lkf
        by_cases h : v (49 + 9 * q + i) = nI p
        · rw [if_pos h]
          exact Or.inr ⟨i, by omega, h, rfl⟩
        · rw [if_neg h]
          rcases ih (i + 1) (by omega) with ⟨k1, k2⟩ | k3
          · refine Or.inl ⟨fun o h1 h2 => ?_, k2⟩
            by_cases hio : o = i
            · rw [hio]
              exact h
            · exact k1 o (by omega) h2
          · exact Or.inr k3
    rcases this n' 0 (by omega) with ⟨k1, k2⟩ | k3
    · exact Or.inl ⟨fun i hi => k1 i (by omega) hi, k2⟩
    · exact Or.inr k3
  have hc : xc v q c1 p = lk v q p := by
    unfold xc
    by_cases hpc : p < c1
    · rw [if_pos hpc]
    · rw [if_neg hpc]
      rcases hlk with ⟨-, k2⟩ | ⟨i, k1, k2, -⟩
      · exact k2.symm
      · obtain ⟨⟨r, hr, hr1⟩, -⟩ := h6 i k1
        rw [k2] at hr
        exact absurd (nI_inj (by omega) (by omega) hr) (by omega)
  rw [hc]
  rcases hlk with ⟨k1, k2⟩ | ⟨i, k1, k2, k3⟩
  · rcases key n' (by omega) with ⟨-, k4⟩ | ⟨i, k4, k5, -⟩
    · rw [k2, k4]
    · exact absurd k5 (k1 i k4)
  · rcases key n' (by omega) with ⟨k4, -⟩ | ⟨o, k4, k5, k6⟩
    · exact absurd k2 (k4 i k1)
    · have hio : i = o := by
        rcases Nat.lt_trichotomy i o with h | h | h
        · exact absurd (k5.trans k2.symm) (h7 o k4 i h)
        · exact h
        · exact absurd (k2.trans k5.symm) (h7 i k1 o h)
      rw [k3, k6, hio]
