/-! best: it writes its two tables only, and sees only the floor -/
theorem mix_lo {f h : kMem} {a : Nat} (ha : a < 25) : mix f h a = f a := if_pos ha
theorem pb_best {N : Nat} {f g : kMem} (h : kMem) (hR : kR N f g) (x : Int32) : ∃ c r f1 f1', cx_X11_best f x = some (c, r, f1) ∧ cx_X11_best (mix f h) x = some (c, r, f1') ∧ (c = 0 ∨ c = 2) ∧ (∀ a, a ≠ 289 → a ≠ 290 → f1 a = f a) ∧ ∀ a, a ≠ 289 → a ≠ 290 → f1' a = mix f h a := by
  obtain ⟨⟨hF, ⟨c0, c1, c2, c3, hI⟩, hZ⟩, -⟩ := id hR
  obtain ⟨g0, -, -, -, hc0, -⟩ := id hI.1
  have hF' : FRel (mix f h) (g 1) := FRel_cells (fun c hc => mix_lo hc) hF
  have f0 : f 1 0 = nI c0 := (FRel_at hF (j := 0) (a := 1) (k := 0) (by decide)).symm.trans g0
  have f0' : mix f h 1 0 = nI c0 := f0
  unfold cx_X11_best
  by_cases hx : rl x (2 ^ c0)
  · obtain ⟨A, rfl, hA⟩ := hx
    obtain ⟨w1, w2, w3⟩ := pow_set c0 (by omega)
    obtain ⟨r0, hr0, hv⟩ := mach hI.2.1.2.1
    obtain ⟨f1, e1, e2⟩ := c_least (A := A) hI hF (by omega) (by omega) hv
    obtain ⟨f1', e1', e2'⟩ := c_least (A := A) hI hF' (by omega) (by omega) hv
    rw [c_set1 f0 hc0 hA, kxbind_s, e1, c_set1 f0' hc0 hA, kxbind_s, e1', kbind_s, kbind_s]
    exact ⟨0, _, f1, f1', rfl, rfl, Or.inl rfl, e2, e2'⟩
  · rw [c_set0 f0 hc0 hx, c_set0 f0' hc0 hx]
    exact ⟨2, 0, f, mix f h, rfl, rfl, Or.inr rfl, fun _ _ _ => rfl, fun _ _ _ => rfl⟩
