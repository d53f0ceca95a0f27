/-! one step of the law's loop, whatever its number -/
theorem dgt1 {v : Int32} (h0 : 0 ≤ v) (h : v < 10) : (dgt v).length = 1 := by
  unfold dgt
  rw [if_pos h]
  rfl
theorem dgt_l {v : Int32} (h0 : 0 ≤ v) (h : v < 10) : ∀ x, x ∈ dgt v → ∃ c, c < 128 ∧ x = nI c := fun x hx => by
  unfold dgt at hx
  rw [if_pos h] at hx
  rw [List.mem_singleton] at hx
  rw [hx]
  exact mOnes_l _
theorem some_10 (v : Int32) (k : Nat) (h0 : 0 < k) (hk : k ≤ 10) : 0 ≤ mSome v (nI k) ∧ mSome v (nI k) < 10 ∧ mSome v (nI k) < 100 := by
  obtain ⟨a, b⟩ := mSome_rng v k h0 (by omega)
  have e : (nI k).toInt = (k : Int) := nI_toInt (by omega)
  rw [Int32.lt_iff_toInt_lt, e] at b
  refine ⟨a, Int32.lt_iff_toInt_lt.mpr ?_, Int32.lt_iff_toInt_lt.mpr ?_⟩
  · rw [show ((10 : Int32)).toInt = 10 from rfl]
    omega
  · rw [show ((100 : Int32)).toInt = 100 from rfl]
    omega
theorem app_l {t u : List Int32} (h1 : ∀ x, x ∈ t → ∃ c, c < 128 ∧ x = nI c) (h2 : ∀ x, x ∈ u → ∃ c, c < 128 ∧ x = nI c) : ∀ x, x ∈ t ++ u → ∃ c, c < 128 ∧ x = nI c := fun x hx => (List.mem_append.mp hx).elim (h1 x) (h2 x)
theorem nil_l : ∀ x : Int32, x ∈ ([] : List Int32) → ∃ c, c < 128 ∧ x = nI c := fun x hx => nomatch hx
set_option maxRecDepth 20000 in
theorem chOk : ChOk := by
  intro m f L S x h
  show Ch1 m f L S (lf_changes f x)
  have h1 : St (m + 1) f L S := St_mono h (by omega)
  unfold lf_changes
  by_cases c0 : mSome x 14 = 0
  · rw [keq_t c0]
    exact ch_colour h1 _
  rw [keq_f c0]
  by_cases c1 : mSome x 14 = 1
  · rw [keq_t c1]
    exact ch_part h1 _
  rw [keq_f c1]
  by_cases c2 : mSome x 14 = 2
  · rw [keq_t c2]
    obtain ⟨a1, a2, a3⟩ := some_10 (x >>> ((4 : Int32) &&& 31)) 6 (by decide) (by decide)
    obtain ⟨b1, b2, b3⟩ := some_10 (x >>> ((5 : Int32) &&& 31)) 6 (by decide) (by decide)
    rw [show nI 6 = 6 from rfl] at a1 a2 a3 b1 b2 b3
    have d1 := dgt1 a1 a2
    have d2 := dgt1 b1 b2
    have l1 : (mTx "3 20 ").length = 5 := by decide
    have l2 : (mTx "x2 ").length = 3 := by decide
    have l3 : (mTx "x1").length = 2 := by decide
    iterate 7 rw [kchk_t (decide_eq_true (by first | exact ⟨a1, a3⟩ | exact ⟨b1, b3⟩ | (simp only [List.length_append, List.length_nil, d1, d2, l1, l2, l3]; decide)))]
    exact ch_told h ⟨by simp only [List.length_append, List.length_nil, d1, d2, l1, l2, l3]; decide, app_l (app_l (app_l (app_l (app_l nil_l (mLit_ok "3 20 " (by decide)).2) (dgt_l a1 a2)) (mLit_ok "x2 " (by decide)).2) (dgt_l b1 b2)) (mLit_ok "x1" (by decide)).2⟩
  rw [keq_f c2]
  by_cases c3 : mSome x 14 = 3
  · rw [keq_t c3]
    exact ch_mount h1 _
  rw [keq_f c3]
  by_cases c4 : mSome x 14 = 4
  · rw [keq_t c4]
    exact ch_load h1 _ _ _
  rw [keq_f c4]
  by_cases c5 : mSome x 14 = 5
  · rw [keq_t c5]
    exact ch_load h1 _ _ _
  rw [keq_f c5]
  by_cases c6 : mSome x 14 = 6
  · rw [keq_t c6]
    exact ch_empty h1 _
  rw [keq_f c6]
  by_cases c7 : mSome x 14 = 7
  · rw [keq_t c7]
    exact ch_pause h1 _
  rw [keq_f c7]
  by_cases c8 : mSome x 14 = 8
  · rw [keq_t c8]
    exact ch_pause h1 _
  rw [keq_f c8]
  by_cases c9 : mSome x 14 = 9
  · rw [keq_t c9]
    exact ch_run h1 _ _
  rw [keq_f c9]
  by_cases c10 : mSome x 14 = 10
  · rw [keq_t c10]
    exact ch_order h1 _ _ _ _
  rw [keq_f c10]
  by_cases c11 : mSome x 14 = 11
  · rw [keq_t c11]
    exact ch_callOff h1 _
  rw [keq_f c11]
  by_cases c12 : mSome x 14 = 12
  · rw [keq_t c12]
    exact ch_set h1 _ _
  rw [keq_f c12]
  obtain ⟨r1, r2⟩ := mSome_rng x 14 (by decide) (by decide)
  rw [show nI 14 = 14 from rfl] at r1 r2
  obtain ⟨j, hj, e⟩ := vp_in_of (vp_in_lt (n := 14) r1 r2 (by decide)) (by decide)
  have ej : j = 13 := by
    rcases (show j = 0 ∨ j = 1 ∨ j = 2 ∨ j = 3 ∨ j = 4 ∨ j = 5 ∨ j = 6 ∨ j = 7 ∨ j = 8 ∨ j = 9 ∨ j = 10 ∨ j = 11 ∨ j = 12 ∨ j = 13 by omega) with rfl | rfl | rfl | rfl | rfl | rfl | rfl | rfl | rfl | rfl | rfl | rfl | rfl | rfl <;> first | rfl | exact absurd e c0 | exact absurd e c1 | exact absurd e c2 | exact absurd e c3 | exact absurd e c4 | exact absurd e c5 | exact absurd e c6 | exact absurd e c7 | exact absurd e c8 | exact absurd e c9 | exact absurd e c10 | exact absurd e c11 | exact absurd e c12
  subst ej
  rw [kchk_t (decide_eq_true (by rw [e]; decide))]
  by_cases cc : (x >>> ((6 : Int32) &&& 31)) &&& (1 : Int32) = 0
  · rw [keq_t cc]
    obtain ⟨a1, a2, a3⟩ := some_10 (x >>> ((3 : Int32) &&& 31)) 3 (by decide) (by decide)
    obtain ⟨b1, b2, b3⟩ := some_10 (x >>> ((5 : Int32) &&& 31)) 4 (by decide) (by decide)
    rw [show nI 3 = 3 from rfl] at a1 a2 a3
    rw [show nI 4 = 4 from rfl] at b1 b2 b3
    have d1 := dgt1 a1 a2
    have d2 := dgt1 b1 b2
    have l1 : (mTx "l").length = 1 := by decide
    have l2 : (mTx "g900;w90").length = 8 := by decide
    iterate 6 rw [kchk_t (decide_eq_true (by first | exact ⟨a1, a3⟩ | exact ⟨b1, b3⟩ | (simp only [List.length_append, List.length_nil, d1, d2, l1, l2]; decide)))]
    exact ch_does h ⟨by simp only [List.length_append, List.length_nil, d1, d2, l1, l2]; decide, app_l (app_l (app_l (app_l nil_l (mLit_ok "l" (by decide)).2) (dgt_l a1 a2)) (dgt_l b1 b2)) (mLit_ok "g900;w90" (by decide)).2⟩
  · rw [keq_f cc]
    obtain ⟨a1, a2, a3⟩ := some_10 (x >>> ((3 : Int32) &&& 31)) 4 (by decide) (by decide)
    rw [show nI 4 = 4 from rfl] at a1 a2 a3
    have d1 := dgt1 a1 a2
    have l1 : (mTx "w5;m").length = 4 := by decide
    iterate 3 rw [kchk_t (decide_eq_true (by first | exact ⟨a1, a3⟩ | (simp only [List.length_append, List.length_nil, d1, l1]; decide)))]
    exact ch_does h ⟨by simp only [List.length_append, List.length_nil, d1, l1]; decide, app_l (app_l nil_l (mLit_ok "w5;m" (by decide)).2) (dgt_l a1 a2)⟩
