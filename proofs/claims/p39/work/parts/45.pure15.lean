/-! at the beginning -/
theorem kR0_1 : ∀ j, j < 313 → (dj j = true → g0 1 j = f0 (mc j).1 (mc j).2) := by decide +kernel
theorem kR0_2 : ∀ q, q < 6 → (g0 1 (46 + 9 * q) = f0 4 q ∧ g0 1 (47 + 9 * q) = f0 5 q ∧ ∀ p, p < 8 → f0 6 (8 * q + p) = lk (g0 1) q p) := by decide +kernel
theorem kR0_3 : (∀ k, k < 6 → g0 1 (16 + k) = nI 0) ∧ (∀ k, k < 8 → g0 1 (22 + k) = nI 0) ∧ (∀ k, k < 8 → g0 1 (30 + k) = nI 0) ∧ ∀ d, d < 3 → (g0 1 (100 + 3 * d) = -1 ∧ g0 1 (101 + 3 * d) = 0 ∧ g0 1 (102 + 3 * d) = 0) := by decide +kernel
theorem kR0_4 : g0 1 0 = nI 0 ∧ g0 1 1 = nI 0 ∧ g0 1 2 = nI 0 ∧ g0 1 3 = nI 0 ∧ g0 1 4 = -1 ∧ g0 1 5 = -1 ∧ g0 1 8 = nI 0 ∧ g0 1 12 = nI 480 ∧ g0 1 13 = nI 60 ∧ g0 1 14 = nI 2 ∧ g0 1 15 = nI 10 := by decide +kernel
theorem kR0 : kR 0 f0 g0 := by
  obtain ⟨a0, a1, a2, a3, a4, a5, a8, a12, a13, a14, a15⟩ := kR0_4
  obtain ⟨b1, b2, b3, b4⟩ := kR0_3
  refine ⟨⟨⟨fun j hj => ?_, kR0_2⟩, ⟨0, 0, 0, 0, ⟨a0, a1, a2, a3, by decide, by decide, by decide, by decide⟩, ⟨Or.inl a4, Or.inl a5, ⟨0, a8, by decide, by decide⟩, ⟨480, a12, by decide, by decide⟩, ⟨60, a13, by decide, by decide⟩, ⟨2, a14, by decide, by decide⟩, ⟨10, a15, by decide, by decide⟩⟩, ⟨fun k hk => ⟨0, b1 k hk, by decide, by decide⟩, fun k hk => ⟨0, b2 k hk, by decide, by decide⟩, fun k hk => absurd hk (by omega), fun k hk => ⟨0, b3 k hk, by decide, by decide⟩⟩, fun q hq => absurd hq (by omega), fun d hd => Or.inl (b4 d hd), fun o ho => absurd ho (by omega)⟩, fun j hj => ?_⟩, ⟨0, by decide, by decide +kernel, by decide +kernel, fun i hi => absurd hi (by omega)⟩, ⟨0, 0, by decide, by decide, by decide +kernel, by decide +kernel, by decide +kernel, fun i hi => absurd hi (by omega)⟩, ⟨fun _ _ => rfl, Or.inl ⟨by decide +kernel, by decide +kernel⟩⟩, ⟨0, by decide, by decide +kernel, by decide +kernel, fun i hi => absurd hi (by omega), by decide +kernel⟩⟩
  · have h1 : j < 313 := by
      unfold dj at hj
      simp at hj
      omega
    exact kR0_1 j h1 hj
  · show g0now j = 0
    unfold g0now
    rw [upd_ne (by omega), upd_ne (by omega), upd_ne (by omega), upd_ne (by omega), upd_ne (by omega), upd_ne (by omega), upd_ne (by omega), upd_ne (by omega), upd_ne (by omega)]
    rfl
