/-! the range of some -/
theorem tdiv_mul_le (v k : Int) (hk : 0 < k) : v - k < v.tdiv k * k ∧ v.tdiv k * k < v + k := by
  have h1 := Int.mul_tdiv_add_tmod v k
  have h2 := Int.tmod_lt_of_pos v hk
  have h3 := Int.lt_tmod_of_pos v hk
  rw [Int.mul_comm] at h1
  omega
theorem some_rem (v : Int32) (k : Nat) (h0 : 0 < k) (hk : k < 2 ^ 30) : (v - v / nI k * nI k).toInt = v.toInt.tmod k := by
  have hn : (nI k).toInt = (k : Int) := nI_toInt (by omega)
  have l1 := Int32.le_toInt v
  have l2 := Int32.toInt_lt v
  have h1 := Int.mul_tdiv_add_tmod v.toInt k
  have h2 := Int.tmod_lt_of_pos v.toInt (show (0 : Int) < k by omega)
  have h3 := Int.lt_tmod_of_pos v.toInt (show (0 : Int) < k by omega)
  have h4 := tdiv_mul_le v.toInt k (by omega)
  rw [Int.mul_comm] at h1
  generalize hq : v.toInt.tdiv k = q at h1 h4
  generalize v.toInt.tmod k = r at h1 h2 h3
  have hk1 : (1 : Int) ≤ k := by omega
  have q1 : -2147483648 - k < q * k := by omega
  have q2 : q ≤ 2147483647 := by
    rcases Int.lt_or_le 2147483647 q with h | h
    · have : (2147483648 : Int) * k ≤ q * k := Int.mul_le_mul_of_nonneg_right (by omega) (by omega)
      have : (2147483648 : Int) * 1 ≤ 2147483648 * k := Int.mul_le_mul_of_nonneg_left hk1 (by decide)
      omega
    · exact h
  have q3 : -2147483648 ≤ q := by
    rcases Int.lt_or_le q (-2147483648) with h | h
    · have : q * k ≤ (-2147483649) * k := Int.mul_le_mul_of_nonneg_right (by omega) (by omega)
      have : (2147483649 : Int) * 1 ≤ 2147483649 * k := Int.mul_le_mul_of_nonneg_left hk1 (by decide)
      omega
    · exact h
  rw [Int32.toInt_sub, Int32.toInt_mul, Int32.toInt_div, hn, hq]
  rw [Int.bmod_eq_of_le (n := q) (by omega) (by omega)]
  have e : v.toInt - q * k = r := by omega
  first
    | rw [Int.sub_bmod_bmod, e, Int.bmod_eq_of_le (by omega) (by omega)]
    | (simp only [Int.sub_bmod_bmod, Int.bmod_sub_bmod_congr, e]; exact Int.bmod_eq_of_le (by omega) (by omega))
    | (simp [e]; exact Int.bmod_eq_of_le (by omega) (by omega))
theorem mSome_rng (v : Int32) (k : Nat) (h0 : 0 < k) (hk : k < 2 ^ 30) : 0 ≤ mSome v (nI k) ∧ mSome v (nI k) < nI k := by
  have hn : (nI k).toInt = (k : Int) := nI_toInt (by omega)
  have hr := some_rem v k h0 hk
  have h2 := Int.tmod_lt_of_pos v.toInt (show (0 : Int) < k by omega)
  have h3 := Int.lt_tmod_of_pos v.toInt (show (0 : Int) < k by omega)
  unfold mSome
  split
  · rename_i h
    rw [Int32.lt_iff_toInt_lt, hr] at h
    have e0 : (0 : Int32).toInt = 0 := rfl
    rw [e0] at h
    have e1 : (v - v / nI k * nI k + nI k).toInt = v.toInt.tmod k + k := by
      rw [Int32.toInt_add, hr, hn, Int.bmod_eq_of_le (by omega) (by omega)]
    exact ⟨Int32.le_iff_toInt_le.mpr (by rw [e0, e1]; omega), Int32.lt_iff_toInt_lt.mpr (by rw [hn, e1]; omega)⟩
  · rename_i h
    rw [Int32.lt_iff_toInt_lt, hr] at h
    have e0 : (0 : Int32).toInt = 0 := rfl
    rw [e0] at h
    exact ⟨Int32.le_iff_toInt_le.mpr (by rw [e0, hr]; omega), Int32.lt_iff_toInt_lt.mpr (by rw [hn, hr]; omega)⟩
