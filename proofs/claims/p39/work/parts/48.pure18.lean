/-! minutes of the model in which no week ends -/
theorem kup_kup {f : kMem} {a k : Nat} {x y : Int32} : kup (kup f a k x) a k y = kup f a k y := by
  funext b
  by_cases h : b = a
  · subst h
    rw [kup_eq, kup_eq, kup_eq]
    funext j
    by_cases hj : j = k
    · rw [hj, upd_eq, upd_eq]
    · rw [upd_ne hj, upd_ne hj, upd_ne hj]
  · rw [kup_ne _ _ _ h, kup_ne _ _ _ h, kup_ne _ _ _ h]
theorem kup_id {f : kMem} {a k : Nat} {x : Int32} (h : f a k = x) : kup f a k x = f := by
  funext b
  by_cases hb : b = a
  · subst hb
    rw [kup_eq]
    funext j
    by_cases hj : j = k
    · rw [hj, upd_eq, h]
    · rw [upd_ne hj]
  · rw [kup_ne _ _ _ hb]
theorem lp_idle {Y : kMem → Int32 → Int32 → Option (Int32 × kMem)} {M L : Nat} {x2 : Int32} (hM : M < 100000) (hL : L < 100000) : ∀ (t u s m : Nat) (g : kMem), g 1 8 = nI s → g 1 12 = nI L → s + t < L → m + t ≤ M → cl_X12_passes_10 Y (u + t) g (nI M) x2 (nI m) = cl_X12_passes_10 Y u (kup g 1 8 (nI (s + t))) (nI M) x2 (nI (m + t))
  | 0, u, s, m, g, h8, h12, h1, h2 => by rw [Nat.add_zero, Nat.add_zero, Nat.add_zero, kup_id h8]
  | t + 1, u, s, m, g, h8, h12, h1, h2 => by
    have e8 : kup g 1 8 (nI (s + 1)) 1 8 = nI (s + 1) := kup_at
    have e12 : kup g 1 8 (nI (s + 1)) 1 12 = nI L := by rw [kup_nk (by decide)]; exact h12
    show cl_X12_passes_10 Y ((u + t) + 1) g (nI M) x2 (nI m) = _
    rw [show s + (t + 1) = (s + 1) + t by omega, show m + (t + 1) = (m + 1) + t by omega, ← kup_kup (x := nI (s + 1)), ← lp_idle hM hL t u (s + 1) (m + 1) (kup g 1 8 (nI (s + 1))) e8 e12 (by omega) (by omega)]
    rw [cl_X12_passes_10.eq_2, kle_f (fun q => by have := (nI_le_iff (by omega) (by omega)).mp q; omega), h8, nI_1, kmem_s, e8, e12, klt_t ((nI_lt_iff (by omega) (by omega)).mpr (by omega)), klet_s, show nI m + Int32.ofInt 1 = nI (m + 1) from nI_1 m]
