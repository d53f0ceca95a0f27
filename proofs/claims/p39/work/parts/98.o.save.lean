/-! the save, and what follows it -/
theorem j633 {Z : mZ} {f : kMem} {L : List kMem} {x3 : Int64} (hV : Vb (10 + 17 * 12 + 1) f) (ht : f 280 2 = 0) (hH : HC f L) (hA : AF f x3) (h1 : f 18 0 = 1) : ∃ z, lj_law_633 Z f x3 = some z := by
  obtain ⟨f1, e1, t1, hH1, s1, s8, s2⟩ := cs_save hH
  have hS : St (10 + 17 * 12) f1 L f := ⟨Vb_save hV e1, by rw [s2]; exact ht, hH1, s8, s1⟩
  obtain ⟨f2, e2, hS2, t2⟩ := st_asks hS hA t1
  unfold lj_law_633
  rw [e1, kbind_s, keq_t h1, e2]
  unfold mlbind mleq
  dsimp only
  rw [if_pos rfl, h1]
  exact j656 chOk hS2 hA h1
