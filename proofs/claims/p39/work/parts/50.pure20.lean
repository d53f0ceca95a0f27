/-! the minute of the model that ends a week -/
theorem upd_upd {v : Nat → Int32} {k : Nat} {x y : Int32} : upd (upd v k x) k y = upd v k y := by
  funext j
  by_cases hj : j = k
  · rw [hj, upd_eq, upd_eq]
  · rw [upd_ne hj, upd_ne hj, upd_ne hj]
theorem upd_self {v : Nat → Int32} {k : Nat} {x : Int32} (h : v k = x) : upd v k x = v := by
  funext j
  by_cases hj : j = k
  · rw [hj, upd_eq, h]
  · rw [upd_ne hj]
theorem lp_wk {T : (Nat → Int32) → Nat → Int32} (hT : kT T) (hT8 : ∀ v x, T (upd v 8 x) = T v) {B c0 c1 c2 c3 M L s m u : Nat} {f g : kMem} (hI : InvC B (T (g 1)) c0 c1 c2 c3) (hF : FRel f (T (g 1))) (hZ : kZ (g 1)) (h8 : g 1 8 = nI s) (hs : s ≤ 9998) (h12 : g 1 12 = nI L) (hL : L ≤ 9999) (hend : L ≤ s + 1) (hm : m < M) (hM : M < 100000) : ∃ f1 g1, cf_X6_endWeek f (g 1 7) = some (0, f1) ∧ (∀ (Y : kMem → Int32 → Int32 → Option (Int32 × kMem)) (x2 : Int32), cl_X12_passes_10 Y (u + 1) g (nI M) x2 (nI m) = cl_X12_passes_10 Y u (kup (kup g1 1 7 (g 1 7 + 1)) 1 8 0) (nI M) x2 (nI (m + 1))) ∧ InvC B (T (g1 1)) c0 c1 c2 c3 ∧ FRel f1 (T (g1 1)) ∧ kZ (g1 1) ∧ (∀ a, 25 ≤ a → f1 a = f a) ∧ (∀ a, a ≠ 1 → g1 a = g a) ∧ ∀ j, j < 109 → j ≠ 8 → g1 1 j = g 1 j := by
  have e1 : (kup g 1 8 (nI (s + 1))) 1 = upd (g 1) 8 (nI (s + 1)) := kup_eq _ _ _ _
  have hc3 := hI.1.2.2.2.2.2.2.2
  obtain ⟨f1, g1, r1, r2, r3, r4, r5, r6, r7, r8⟩ := lp_weekT hT (w := g 1 7) (B := B) (c0 := c0) (c1 := c1) (c2 := c2) (c3 := c3) c3 100 0 f (kup g 1 8 (nI (s + 1))) (by rw [e1, hT8]; exact hI) (by rw [e1, hT8]; exact hF) (by rw [e1]; exact kZ_upd hZ (by omega)) (by rw [kup_nk (by decide)]) (by omega) (by omega)
  refine ⟨f1, g1, r1, fun Y x2 => ?_, r3, r4, r5, r6, fun a ha => by rw [r7 a ha, kup_ne _ _ _ ha], fun j hj h8 => by rw [r8 j hj, kup_nk h8]⟩
  have e8 : kup g 1 8 (nI (s + 1)) 1 8 = nI (s + 1) := kup_at
  have e12 : kup g 1 8 (nI (s + 1)) 1 12 = nI L := by rw [kup_nk (by decide)]; exact h12
  rw [cl_X12_passes_10.eq_2, kle_f (fun q => by have := (nI_le_iff (by omega) (by omega)).mp q; omega), h8, nI_1, kmem_s, e8, e12, klt_f (fun q => by have := (nI_lt_iff (by omega) (by omega)).mp q; omega)]
  unfold cf_X12_weekEnds
  have r2' : ∀ Z : kMem → Option (Int32 × kMem), cl_X12_weekEnds_2 Z 100 (kup g 1 8 (nI (s + 1))) 0 = Z g1 := r2
  have e7 : g1 1 7 = g 1 7 := by rw [r8 7 (by decide), kup_nk (by decide)]
  rw [r2', kmem_s, kmem_s, kbind_s, klet_s, e7, show nI m + Int32.ofInt 1 = nI (m + 1) from nI_1 m]
