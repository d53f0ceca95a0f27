/-! lateness -/
def acL (v : Nat → Int32) : Nat → Nat → Int32 → Int32
  | 0, _, x => x
  | k + 1, i, x => acL v k (i + 1) (if v (257 + 6 * i) = 1 then x + v (258 + 6 * i) else x)
theorem lp_lateC {f : kMem} {v : Nat → Int32} {c : Nat} (hc : c ≤ 10) (hF : FRel f v) (h : f 18 0 = nI c) : ∀ (k u i : Nat) (x : Int32), i + k = c → k < u → cl_X6_lateWeeksOfDelivered_4 u f x (nI i) = some (acL v k i x, f)
  | 0, u + 1, i, x, h1, h2 => by
    unfold cl_X6_lateWeeksOfDelivered_4
    rw [h, kle_t (by rw [show i = c by omega]; exact Int32.le_refl _)]
    rfl
  | k + 1, u + 1, i, x, h1, h2 => by
    obtain ⟨-, -, -, -, q4, q5⟩ := mcs_19 i (by omega)
    unfold cl_X6_lateWeeksOfDelivered_4
    rw [h, kle_f (fun q => by have := (nI_le_iff (by omega) (by omega)).mp q; omega), kchk_t (nI_kin (by omega) (by decide)), nI_clamp (by omega), show nI i + Int32.ofInt 1 = nI (i + 1) from nI_1 i]
    unfold acL
    rw [FRel_at hF q4, FRel_at hF q5]
    by_cases hs : f 23 i = 1
    · rw [keq_t hs, if_pos hs, kchk_t (nI_kin (by omega) (by decide)), klet_s, klet_s]
      exact lp_lateC hc hF h k u (i + 1) _ (by omega) (by omega)
    · rw [keq_f hs, if_neg hs, klet_s, klet_s, Int32.add_zero]
      exact lp_lateC hc hF h k u (i + 1) _ (by omega) (by omega)
theorem lp_lateM {Y : kMem → Int32 → Int32 → Option (Value × kMem)} {g : kMem} {c : Nat} (hc : c ≤ 10) (h : g 1 3 = nI c) : ∀ (k u i n : Nat) (x : Int32), i + k = c → k < u → cl_X12_lateness_11 Y u g x (nI n) (nI i) = Y g (acL (g 1) k i x) (nI (n + cnt (fun o => g 1 (257 + 6 * o) = 1) k i))
  | 0, u + 1, i, n, x, h1, h2 => by
    unfold cl_X12_lateness_11
    rw [h, kle_t (by rw [show i = c by omega]; exact Int32.le_refl _)]
    rfl
  | k + 1, u + 1, i, n, x, h1, h2 => by
    unfold cl_X12_lateness_11
    rw [h, kle_f (fun q => by have := (nI_le_iff (by omega) (by omega)).mp q; omega), show (4 : Int32) = nI 4 from rfl, m_ordered (by omega) (by decide), kbind_s, show 253 + 6 * i + 4 = 257 + 6 * i by omega, show (5 : Int32) = nI 5 from rfl, m_ordered (by omega) (by decide), kbind_s, show 253 + 6 * i + 5 = 258 + 6 * i by omega, show nI i + Int32.ofInt 1 = nI (i + 1) from nI_1 i, show nI n + Int32.ofInt 1 = nI (n + 1) from nI_1 n]
    unfold acL cnt
    by_cases hs : g 1 (257 + 6 * i) = 1
    · rw [keq_t hs, if_pos hs, if_pos hs, klet_s, klet_s, klet_s, lp_lateM hc h k u (i + 1) (n + 1) _ (by omega) (by omega), show n + (1 + cnt (fun o => g 1 (257 + 6 * o) = 1) k (i + 1)) = n + 1 + cnt (fun o => g 1 (257 + 6 * o) = 1) k (i + 1) by omega]
    · rw [keq_f hs, if_neg hs, if_neg hs, klet_s, lp_lateM hc h k u (i + 1) n _ (by omega) (by omega), show n + (0 + cnt (fun o => g 1 (257 + 6 * o) = 1) k (i + 1)) = n + cnt (fun o => g 1 (257 + 6 * o) = 1) k (i + 1) by omega]
theorem kp_lateness : kP_lateness kR := by
  intro N f g hN hR
  obtain ⟨⟨hF, ⟨c0, c1, c2, c3, hI⟩, hZ⟩, -⟩ := id hR
  obtain ⟨-, -, -, g3, -, -, -, hc3⟩ := id hI.1
  have f3 : f 18 0 = nI c3 := (FRel_at hF (j := 3) (a := 18) (k := 0) (by decide)).symm.trans g3
  unfold cx_X11_lateness cf_X12_lateness cf_X6_countOf cf_X6_lateWeeksOfDelivered
  have e1 : cl_X6_countOf_4 100 f 1 0 0 = some (nI (0 + cnt (fun o => f 23 o = 1) c3 0), f) := lp_countOf (s := 1) hc3 f3 c3 100 0 0 (by omega) (by omega)
  have e0 : cnt (fun o => f 23 o = 1) c3 0 = cnt (fun o => g 1 (257 + 6 * o) = 1) c3 0 := cnt_congr (p := fun o => f 23 o = 1) (q := fun o => g 1 (257 + 6 * o) = 1) c3 0 (fun o h1 h2 => by rw [FRel_at hF (mcs_19 o (by omega)).2.2.2.2.1])
  have e2 : cl_X6_lateWeeksOfDelivered_4 100 f 0 0 = some (acL (g 1) c3 0 0, f) := lp_lateC hc3 hF f3 c3 100 0 0 (by omega) (by omega)
  have hle := cnt_le (p := fun o => g 1 (257 + 6 * o) = 1) c3 0
  rw [e0] at e1
  rw [e1, kbind_s, kmem_s]
  have e3 : ∀ Y : kMem → Int32 → Int32 → Option (Value × kMem), cl_X12_lateness_11 Y 100 (kup g 0 18 0) 0 0 0 = Y (kup g 0 18 0) (acL (g 1) c3 0 0) (nI (0 + cnt (fun o => g 1 (257 + 6 * o) = 1) c3 0)) := fun Y => lp_lateM (Y := Y) (g := kup g 0 18 0) hc3 g3 c3 100 0 0 0 (by omega) (by omega)
  rw [e3]
  generalize cnt (fun o => g 1 (257 + 6 * o) = 1) c3 0 = n at hle
  rw [Nat.zero_add]
  by_cases h0 : n = 0
  · subst h0
    rw [klt_f (by decide)]
    refine ⟨(6, .null, f), .double (FP.i2d 0), kup (kup g 0 18 0) 0 18 1, rfl, ?_, Or.inr rfl, rfl, ⟨_, rfl⟩, (fun h => absurd h (show ¬ (6 = 0) by decide)), kR_mono _ _ _ (kR_thr (kR_thr hR))⟩
    rw [keq_t (by decide)]
    rfl
  · have hne : ¬ nI n = 0 := nI_ne0 (by omega) (by omega)
    rw [klt_t (show (0 : Int32) < nI n from (nI_lt_iff (a := 0) (by omega) (by omega)).mpr (by omega)), e2, kbind_s, kchk_t (by simp [hne]), keq_f hne, kchk_t (by simp [hne])]
    exact ⟨(0, _, f), _, kup g 0 18 0, rfl, rfl, Or.inl rfl, rfl, ⟨_, rfl⟩, fun _ => ⟨rfl, _, rfl⟩, kR_mono _ _ _ (kR_thr hR)⟩
