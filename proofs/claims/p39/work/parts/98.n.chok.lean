/-! one step of the law's loop, whatever its number -/
theorem dgt1 {v : Int32} (h0 : 0 ≤ v) (h : v < 10) : (dgt v).length = 1 := by
  unfold dgt
  rw [if_pos h]
  rfl
theorem dgt_l {v : Int32} (h0 : 0 ≤ v) (h : v < 10) : ∀ x, x ∈ dgt v → ∃ c, c < 128 ∧ x = nI c := fun x hx => by
  unfold dgt at hx
  rw [if_pos h] at hx
  rw [List.mem_singleton] at hx
  rw [hx]
  exact mOnes_l _
theorem some_10 (v : Int32) (k : Nat) (h0 : 0 < k) (hk : k ≤ 10) : 0 ≤ mSome v (nI k) ∧ mSome v (nI k) < 10 ∧ mSome v (nI k) < 100 := by
  obtain ⟨a, b⟩ := mSome_rng v k h0 (by omega)
  have e : (nI k).toInt = (k : Int) := nI_toInt (by omega)
  rw [Int32.lt_iff_toInt_lt, e] at b
  refine ⟨a, Int32.lt_iff_toInt_lt.mpr ?_, Int32.lt_iff_toInt_lt.mpr ?_⟩
  · rw [show ((10 : Int32)).toInt = 10 from rfl]
    omega
  · rw [show ((100 : Int32)).toInt = 100 from rfl]
    omega
