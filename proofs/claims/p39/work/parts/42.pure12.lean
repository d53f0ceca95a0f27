/-! scrap -/
def acS (v : Nat → Int32) : Nat → Nat → Int32 → Int32
  | 0, _, x => x
  | k + 1, i, x => acS v k (i + 1) (x + v (38 + i))
theorem lp_s17 {f : kMem} {v : Nat → Int32} (hF : FRel f v) : ∀ (k u i : Nat) (x : Int32), i + k = 8 → k < u → cl_X9_sumOf17_11 u f x 8 (nI i) = some (acS v k i x, f)
  | 0, u + 1, i, x, h1, h2 => by
    unfold cl_X9_sumOf17_11
    rw [kle_t (by rw [show i = 8 by omega]; decide)]
    rfl
  | k + 1, u + 1, i, x, h1, h2 => by
    unfold cl_X9_sumOf17_11
    rw [kle_f (fun q => by have := (nI_le_iff (a := 8) (by omega) (by omega)).mp q; omega), kchk_t (nI_kin (by omega) (by decide)), nI_clamp (by omega), klet_s, klet_s, klet_s, show nI i + Int32.ofInt 1 = nI (i + 1) from nI_1 i]
    unfold acS
    rw [FRel_at hF (mcs_17 i (by omega))]
    exact lp_s17 hF k u (i + 1) _ (by omega) (by omega)
theorem lp_s16 {B : Nat} {f g : kMem} (hB : B ≤ 40000000) (hF : FRel f (g 1)) (hM : ∀ k, k < 8 → rg (g 1 (30 + k)) 0 B) : ∀ (k u i s : Nat) (t : Int32), i + k = 8 → k < u → s ≤ i * B → ∃ S, S ≤ 8 * B ∧ cl_X9_sumOf16_11 u f (nI s) 8 (nI i) = some (nI S, f) ∧ ∀ Y : kMem → Int32 → Int32 → Option (Value × kMem), cl_X12_scrap_11 Y u g (nI s) t (nI i) = Y g (nI S) (acS (g 1) k i t)
  | 0, u + 1, i, s, t, h1, h2, h3 => by
    have hi : i = 8 := by omega
    subst hi
    refine ⟨s, h3, ?_, fun Y => ?_⟩
    · unfold cl_X9_sumOf16_11
      rw [kle_t (by decide)]
    · unfold cl_X12_scrap_11
      rw [kle_t (by decide)]
      rfl
  | k + 1, u + 1, i, s, t, h1, h2, h3 => by
    obtain ⟨m, hm, -, hm2⟩ := hM i (by omega)
    have hs : s + m ≤ (i + 1) * B := by rw [Nat.succ_mul]; omega
    have q1 := FRel_at hF (mcs_16 i (by omega))
    obtain ⟨S, a1, a2, a3⟩ := lp_s16 hB hF hM k u (i + 1) (s + m) (t + g 1 (38 + i)) (by omega) (by omega) hs
    refine ⟨S, a1, ?_, fun Y => ?_⟩
    · unfold cl_X9_sumOf16_11
      rw [kle_f (fun q => by have := (nI_le_iff (a := 8) (by omega) (by omega)).mp q; omega), kchk_t (nI_kin (by omega) (by decide)), nI_clamp (by omega), klet_s, klet_s, klet_s, show nI i + Int32.ofInt 1 = nI (i + 1) from nI_1 i, ← q1, hm, nI_add]
      exact a2
    · unfold cl_X12_scrap_11
      rw [kle_f (fun q => by have := (nI_le_iff (a := 8) (by omega) (by omega)).mp q; omega), show (30 : Int32) + nI i = nI (30 + i) from nI_add 30 i, show (38 : Int32) + nI i = nI (38 + i) from nI_add 38 i, kchk_t (nI_kin (by omega) (by decide)), nI_clamp (by omega), klet_s, kchk_t (nI_kin (by omega) (by decide)), nI_clamp (by omega), klet_s, klet_s, show nI i + Int32.ofInt 1 = nI (i + 1) from nI_1 i, hm, nI_add, a3 Y]
      rfl
theorem kp_scrap : kP_scrap kR := by
  intro N f g hN hR
  obtain ⟨⟨hF, ⟨c0, c1, c2, c3, hI⟩, hZ⟩, -⟩ := id hR
  have hB : N * 59778 ≤ 40000000 := by omega
  obtain ⟨S, a1, a2, a3⟩ := lp_s16 (f := f) (g := kup g 0 18 0) hB hF hI.2.2.1.2.2.2 8 100 0 0 0 (by omega) (by omega) (by omega)
  have a4 := lp_s17 hF 8 100 0 0 (by omega) (by omega)
  unfold cx_X11_scrap cf_X12_scrap cf_X9_sumOf16 cf_X9_sumOf17
  have a2' : cl_X9_sumOf16_11 100 f 0 8 0 = some (nI S, f) := a2
  have a4' : cl_X9_sumOf17_11 100 f 0 8 0 = some (acS (g 1) 8 0 0, f) := a4
  have a3' : ∀ Y : kMem → Int32 → Int32 → Option (Value × kMem), cl_X12_scrap_11 Y 100 (kup g 0 18 0) 0 0 0 = Y (kup g 0 18 0) (nI S) (acS (g 1) 8 0 0) := a3
  rw [a2', kbind_s, kmem_s, a3']
  by_cases h0 : S = 0
  · subst h0
    rw [klt_f (by decide)]
    refine ⟨(6, .null, f), .float (FP.i2f 0), kup (kup g 0 18 0) 0 18 1, rfl, ?_, Or.inr rfl, rfl, ⟨_, rfl⟩, (fun h => absurd h (show ¬ (6 = 0) by decide)), kR_mono _ _ _ (kR_thr (kR_thr hR))⟩
    rw [keq_t (by decide)]
    rfl
  · have hne : ¬ nI S = 0 := nI_ne0 (by omega) (by omega)
    rw [klt_t (show (0 : Int32) < nI S from (nI_lt_iff (a := 0) (by omega) (by omega)).mpr (by omega)), a4', kbind_s, kchk_t (by simp [hne]), keq_f hne, kchk_t (by simp [hne])]
    exact ⟨(0, _, f), _, kup g 0 18 0, rfl, rfl, Or.inl rfl, rfl, ⟨_, rfl⟩, fun _ => ⟨rfl, _, _, hne, rfl⟩, kR_mono _ _ _ (kR_thr hR)⟩
