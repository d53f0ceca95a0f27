/-! the law's answer stands, whatever its script -/
theorem hc_f0 : HC f0 [] := ⟨0, by decide, by decide, by decide, by decide, fun i hi => absurd hi (by simp)⟩
theorem mk_f0 {m : Nat} (hm : m < 512) : Mk m f0 [] 0 0 0 := ⟨⟨⟨0, g0, by omega, kR0⟩, by decide, hc_f0⟩, by decide, by decide, by decide, fun h => absurd h (by decide), fun _ _ _ _ _ _ _ _ => rfl⟩
theorem law_true (Z : mZ) : ∃ z, lf_law Z = some z := by
  rw [e_all]
  obtain ⟨⟨r, f1⟩, e1, ⟨z1, L1, s, a, b, h1, s1, ha, s3, hb⟩⟩ := mk_makes (Z := Z) (m := 10 + 17 * 12 + 1 + 68 + 32 + 1 + 1 + 1 + 1 + 1) (mk_f0 (by decide))
  obtain ⟨f2, L2, w, e2, hw, P2, W2⟩ := wd_load h1 s1 s3
  obtain ⟨r3, f3, L3, e3, n3, P3, W3⟩ := wd_mount P2 W2 hb
  obtain ⟨r4, f4, L4, e4, n4, P4, W4⟩ := wd_pause P3 W3
  obtain ⟨f5, L5, e5, P5, W5⟩ := wd_order P4 W4
  obtain ⟨f6, L6, e6, P6, k6⟩ := wd_run P5 W5 hw (by omega) (by omega)
  dsimp only at z1 e2
  show ∃ z, lj_law_547 Z f0 = some z
  unfold lj_law_547
  rw [e1, kbind_s, keq_f (by rw [z1]; decide), e2, kbind_s, keq_t rfl, e3, kbind_s, klt_f n3, e4, kbind_s, klt_f n4, e5, kbind_s, keq_t rfl, e6, kbind_s, keq_t rfl]
  exact j610 P6 k6
