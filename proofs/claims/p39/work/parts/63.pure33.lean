/-! texts: the place of reading of both sides -/
def TX (f g : kMem) (i n : Nat) : Prop := f 280 1 = nI i ∧ f 280 2 = nI n ∧ g 0 8 = nI i ∧ g 0 7 = nI n ∧ i ≤ n ∧ n ≤ 80 ∧ ∀ j, j < n → f 281 j = g 5 j
theorem TX_fr {f g f1 g1 : kMem} {i i1 n : Nat} (h : TX f g i n) (hi : i1 ≤ n) (a1 : f1 280 1 = nI i1) (a2 : f1 280 2 = f 280 2) (a3 : f1 281 = f 281) (b1 : g1 0 8 = nI i1) (b2 : g1 0 7 = g 0 7) (b3 : g1 5 = g 5) : TX f1 g1 i1 n := by
  obtain ⟨h1, h2, h3, h4, h5, h6, h7⟩ := h
  refine ⟨a1, a2.trans h2, b1, b2.trans h4, hi, h6, fun j hj => ?_⟩
  rw [a3, b3]
  exact h7 j hj
theorem t_skip {f g : kMem} {i n : Nat} (h : TX f g i n) (ch : Int32) : ∃ r, r ≤ 1 ∧ i + r ≤ n ∧ cf_X10_skip f ch = some (nI r, kup f 280 1 (nI (i + r))) ∧ cf_X12_takes g ch = some (nI r, kup g 0 8 (nI (i + r))) := by
  obtain ⟨h1, h2, h3, h4, h5, h6, h7⟩ := h
  have n1 : kup f 280 1 (nI (i + 0)) = f := kup_id h1
  have n2 : kup g 0 8 (nI (i + 0)) = g := kup_id h3
  unfold cf_X10_skip cf_X10_isAtEnd cf_X12_takes
  rw [h1, h2, h3, h4]
  by_cases hin : i < n
  · have hne : ¬ nI i = nI n := fun e => by have := nI_inj (by omega) (by omega) e; omega
    rw [klt_t ((nI_lt_iff (by omega) (by omega)).mpr hin), kbind_s, keq00, keq_f hne, h1, kchk_t (nI_kin (by omega) (by decide)), kchk_t (nI_kin (by omega) (by decide)), nI_clamp (by omega), h7 i hin]
    by_cases hc : g 5 i = ch
    · refine ⟨1, by omega, by omega, ?_, ?_⟩
      · rw [keq_t hc, kmem_s, nI_1]
        rfl
      · rw [keq_t hc, kmem_s, nI_1]
        rfl
    · refine ⟨0, by omega, by omega, ?_, ?_⟩
      · rw [keq_f hc, n1]
        rfl
      · rw [keq_f hc, n2]
        rfl
  · have he : i = n := by omega
    refine ⟨0, by omega, by omega, ?_, ?_⟩
    · rw [klt_f (fun q => hin ((nI_lt_iff (by omega) (by omega)).mp q)), kbind_s, keq10, n1]
      rfl
    · rw [keq_t (by rw [he]), n2]
      rfl
def vC (c val : Nat) : Int32 := if c = 0 then -1 else nI val
theorem vC_max {c val : Nat} (h : c = 0 → val = 0) (hv : val < 2 ^ 30) : kmax 0 (vC c val) = nI val := by
  unfold vC
  split
  · rw [h ‹_›]
    decide
  · unfold kmax
    by_cases h0 : val = 0
    · rw [h0, if_neg (by decide)]
      rfl
    · rw [if_pos (show (0 : Int32) < nI val from (nI_lt_iff (a := 0) (by omega) (by omega)).mpr (by omega))]
theorem t_atDigit {f g : kMem} {i n : Nat} (h : TX f g i n) : (i = n ∧ cf_X10_isAtDigit f = some (0, f)) ∨ (i < n ∧ ¬ inb (g 5 i) 48 57 ∧ cf_X10_isAtDigit f = some (0, f)) ∨ (i < n ∧ inb (g 5 i) 48 57 ∧ cf_X10_isAtDigit f = some (1, f)) := by
  obtain ⟨h1, h2, h3, h4, h5, h6, h7⟩ := h
  unfold cf_X10_isAtDigit
  rw [h1, h2]
  by_cases hin : i < n
  · rw [kle_f (fun q => by have := (nI_le_iff (by omega) (by omega)).mp q; omega), kchk_t (nI_kin (by omega) (by decide)), kchk_t (nI_kin (by omega) (by decide)), nI_clamp (by omega), h7 i hin]
    by_cases ha : g 5 i < 48
    · exact Or.inr (Or.inl ⟨hin, fun q => q.1 ha, by rw [klt_t ha]⟩)
    · by_cases hb : 57 < g 5 i
      · exact Or.inr (Or.inl ⟨hin, fun q => q.2 hb, by rw [klt_f ha, klt_t hb]⟩)
      · exact Or.inr (Or.inr ⟨hin, ⟨ha, hb⟩, by rw [klt_f ha, klt_f hb]⟩)
  · exact Or.inl ⟨by omega, by rw [kle_t ((nI_le_iff (by omega) (by omega)).mpr (by omega))]⟩
theorem p10 : ∀ c, c ≤ 5 → 10 ^ c ≤ 100000 ∧ 10 ^ (c + 1) = 10 * 10 ^ c := fun c hc => ⟨by
  rcases (show c = 0 ∨ c = 1 ∨ c = 2 ∨ c = 3 ∨ c = 4 ∨ c = 5 by omega) with rfl | rfl | rfl | rfl | rfl | rfl <;> decide, by rw [Nat.pow_succ, Nat.mul_comm]⟩
theorem lp_num {n most k : Nat} (hmost : most ≤ 5) : ∀ d u u' c val i (f g : kMem), c + d = most → d < u → d < u' → TX f g i n → val < 10 ^ c → (c = 0 → val = 0) → ∃ c' val' i', cl_X10_number_4 u f (nI most) (vC c val) (nI c) = some (vC c' val', kup f 280 1 (nI i')) ∧ (∀ Y : kMem → Int32 → Int32 → Int32 → Option (Int32 × kMem), cl_X12_number_5 Y u' g (nI k) (nI most) (nI c) (nI val) = Y (kup g 0 8 (nI i')) (nI k) (nI c') (nI val')) ∧ c ≤ c' ∧ c' ≤ most ∧ val' < 10 ^ c' ∧ i' = i + (c' - c) ∧ i' ≤ n ∧ (c' = 0 → val' = 0)
  | 0, u + 1, u' + 1, c, val, i, f, g, h1, h2, h3, hT, hv, hv0 => by
    obtain rfl : c = most := by omega
    obtain ⟨t1, t2, t3, t4, t5, t6, t7⟩ := id hT
    refine ⟨c, val, i, ?_, fun Y => ?_, by omega, by omega, hv, by omega, t5, hv0⟩
    · rw [cl_X10_number_4.eq_2, kle_t (Int32.le_refl _), kup_id t1]
    · rw [cl_X12_number_5.eq_2, kle_t (Int32.le_refl _), kup_id t3]
  | d + 1, u + 1, u' + 1, c, val, i, f, g, h1, h2, h3, hT, hv, hv0 => by
    obtain ⟨t1, t2, t3, t4, t5, t6, t7⟩ := id hT
    have hlt : ¬ nI most ≤ nI c := fun q => by have := (nI_le_iff (by omega) (by omega)).mp q; omega
    obtain ⟨p1, p2⟩ := p10 c (by omega)
    rw [cl_X10_number_4.eq_2, kle_f hlt]
    have stop : cf_X10_isAtDigit f = some (0, f) → (∀ Y : kMem → Int32 → Int32 → Int32 → Option (Int32 × kMem), cl_X12_number_5 Y (u' + 1) g (nI k) (nI most) (nI c) (nI val) = Y g (nI k) (nI c) (nI val)) → ∃ c' val' i', kbind (cf_X10_isAtDigit f) (fun r1 g2 => keq r1 0 (some (vC c val, g2)) (kchk (kin (g2 280 1) 80) (klet (((kmax 0 (vC c val)) * 10) + ((g2 281 (Int32.toNatClampNeg (g2 280 1))) - 48)) (fun x2_3 => kmem (kup g2 280 1 ((g2 280 1) + 1)) (fun g4 => klet (nI c + Int32.ofInt 1) (fun x3_5 => ((cl_X10_number_4 u) g4 (nI most) x2_3 x3_5))))))) = some (vC c' val', kup f 280 1 (nI i')) ∧ (∀ Y : kMem → Int32 → Int32 → Int32 → Option (Int32 × kMem), cl_X12_number_5 Y (u' + 1) g (nI k) (nI most) (nI c) (nI val) = Y (kup g 0 8 (nI i')) (nI k) (nI c') (nI val')) ∧ c ≤ c' ∧ c' ≤ most ∧ val' < 10 ^ c' ∧ i' = i + (c' - c) ∧ i' ≤ n ∧ (c' = 0 → val' = 0) := fun e1 e2 => by
      refine ⟨c, val, i, ?_, fun Y => ?_, by omega, by omega, hv, by omega, t5, hv0⟩
      · rw [e1, kbind_s, keq00, kup_id t1]
      · rw [e2, kup_id t3]
    rcases t_atDigit hT with ⟨hin, e⟩ | ⟨hin, hb, e⟩ | ⟨hin, hb, e⟩
    · refine stop e (fun Y => ?_)
      rw [cl_X12_number_5.eq_2, kle_f hlt, t3, t4, kle_t ((nI_le_iff (by omega) (by omega)).mpr (by omega))]
    · refine stop e (fun Y => ?_)
      rw [cl_X12_number_5.eq_2, kle_f hlt, t3, t4, kle_f (fun q => by have := (nI_le_iff (by omega) (by omega)).mp q; omega), kchk_t (nI_kin (by omega) (by decide)), nI_clamp (by omega), m_in0 hb, kbind_s, keq00]
    · obtain ⟨t, ht, ht1, ht2⟩ := (inb_rg (A := 48) (B := 57) (by decide) (by decide)).mp hb
      have one : nI c + Int32.ofInt 1 = nI (c + 1) := nI_1 c
      have eC : (kmax 0 (vC c val)) * 10 + (g 5 i - 48) = vC (c + 1) (10 * val + (t - 48)) := by
        rw [vC_max hv0 (by omega), ht, show (48 : Int32) = nI 48 from rfl, nI_sub (by omega), show (10 : Int32) = nI 10 from rfl, nI_mul, nI_add, Nat.mul_comm]
        unfold vC
        rw [if_neg (by omega)]
      have eM : ((10 : Int32) * nI val) + g 5 i - 48 = nI (10 * val + (t - 48)) := by
        rw [ht, show (48 : Int32) = nI 48 from rfl, show (10 : Int32) = nI 10 from rfl, nI_mul, nI_add, nI_sub (by omega), show 10 * val + t - 48 = 10 * val + (t - 48) by omega]
      obtain ⟨c', val', i', a1, a2, a3, a4, a5, a6, a7, a8⟩ := lp_num hmost d u u' (c + 1) (10 * val + (t - 48)) (i + 1) (kup f 280 1 (nI (i + 1))) (kup g 0 8 (nI (i + 1))) (by omega) (by omega) (by omega) (TX_fr hT (by omega) kup_at (kup_nk (by decide)) (kup_ne _ _ _ (by decide)) kup_at (kup_nk (by decide)) (kup_ne _ _ _ (by decide))) (by omega) (by omega)
      refine ⟨c', val', i', ?_, fun Y => ?_, by omega, a4, a5, by omega, a7, a8⟩
      · rw [e, kbind_s, keq10, t1, kchk_t (nI_kin (by omega) (by decide)), nI_clamp (by omega), t7 i hin, eC, klet_s, nI_1, kmem_s, klet_s, one, a1, kup_kup]
      · rw [cl_X12_number_5.eq_2, kle_f hlt, t3, t4, kle_f (fun q => by have := (nI_le_iff (by omega) (by omega)).mp q; omega), kchk_t (nI_kin (by omega) (by decide)), nI_clamp (by omega), m_in1 hb, kbind_s, keq10, t3, kchk_t (nI_kin (by omega) (by decide)), nI_clamp (by omega), eM, klet_s, nI_1, kmem_s, klet_s, one, a2, kup_kup]
theorem t_number {f g : kMem} {i n k most : Nat} (h : TX f g i n) (hk : k < 400) (hmost : most ≤ 5) : ∃ r v i', r ≤ 1 ∧ i + r ≤ i' ∧ i' ≤ n ∧ v < 10 ^ most ∧ v < 2 ^ 30 ∧ cf_X10_number f (nI most) = some (vC r v, kup f 280 1 (nI i')) ∧ cf_X12_number g (nI k) (nI most) = some (nI r, kup (kup g 0 8 (nI i')) 8 k (nI v)) := by
  obtain ⟨c', v', i', a1, a2, a3, a4, a5, a6, a7, a8⟩ := lp_num (k := k) hmost most 100 100 0 0 i f g (by omega) (by omega) (by omega) h (by decide) (fun _ => rfl)
  have hp : v' < 10 ^ most := Nat.lt_of_lt_of_le a5 (Nat.pow_le_pow_right (by omega) a4)
  have hp2 := (p10 most hmost).1
  refine ⟨if c' = 0 then 0 else 1, v', i', by split <;> omega, by split <;> omega, a7, hp, by omega, ?_, ?_⟩
  · unfold cf_X10_number
    refine (show _ = cl_X10_number_4 100 f (nI most) (vC 0 0) (nI 0) from rfl).trans (a1.trans ?_)
    have : vC c' v' = vC (if c' = 0 then 0 else 1) v' := by
      unfold vC
      by_cases h0 : c' = 0
      · rw [if_pos h0, if_pos h0]
        rfl
      · rw [if_neg h0, if_neg h0]
        rfl
    rw [this]
  · unfold cf_X12_number
    have a2' := a2 (fun g9 x1_6 x3_7 x4_8 => (cj_X12_number_76 g9 x1_6 x3_7 x4_8))
    refine (show _ = cl_X12_number_5 (fun g9 x1_6 x3_7 x4_8 => (cj_X12_number_76 g9 x1_6 x3_7 x4_8)) 100 g (nI k) (nI most) (nI 0) (nI 0) from rfl).trans (a2'.trans ?_)
    unfold cj_X12_number_76
    rw [kchk_t (nI_kin hk (by decide)), nI_clamp (by omega), kmem_s]
    by_cases h0 : c' = 0
    · rw [if_pos h0, kle_t (by rw [h0]; decide)]
      rfl
    · rw [if_neg h0, kle_f (fun q => h0 (by have := (nI_le_iff (b := 0) (by omega) (by omega)).mp q; omega))]
      rfl
theorem vC_0 {v : Nat} : vC 0 v = -1 := rfl
theorem vC_1 {v : Nat} : vC 1 v = nI v := rfl
theorem t_end {f g : kMem} {i n : Nat} (h : TX f g i n) : cf_X10_isAtEnd f = some (if i < n then 0 else 1, f) := by
  obtain ⟨h1, h2, h3, h4, h5, h6, h7⟩ := h
  unfold cf_X10_isAtEnd
  rw [h1, h2]
  by_cases hin : i < n
  · rw [klt_t ((nI_lt_iff (by omega) (by omega)).mpr hin), if_pos hin]
  · rw [klt_f (fun q => hin ((nI_lt_iff (by omega) (by omega)).mp q)), if_neg hin]
/-- what reading leaves as it was -/
def FrF (f f1 : kMem) : Prop := (∀ a, a ≠ 280 → a < 282 ∨ 288 ≤ a → f1 a = f a) ∧ ∀ k, k ≠ 1 → f1 280 k = f 280 k
def FrG (g g1 : kMem) : Prop := (∀ a, a ≠ 0 → a ≠ 8 → g1 a = g a) ∧ ∀ k, k ≠ 8 → g1 0 k = g 0 k
theorem FrF_rf {f : kMem} : FrF f f := ⟨fun _ _ _ => rfl, fun _ _ => rfl⟩
theorem FrG_rf {g : kMem} : FrG g g := ⟨fun _ _ _ => rfl, fun _ _ => rfl⟩
theorem FrF_tr {f f1 f2 : kMem} (h : FrF f f1) (h1 : FrF f1 f2) : FrF f f2 := ⟨fun a b c => (h1.1 a b c).trans (h.1 a b c), fun k b => (h1.2 k b).trans (h.2 k b)⟩
theorem FrG_tr {g g1 g2 : kMem} (h : FrG g g1) (h1 : FrG g1 g2) : FrG g g2 := ⟨fun a b c => (h1.1 a b c).trans (h.1 a b c), fun k b => (h1.2 k b).trans (h.2 k b)⟩
theorem FrF_1 {f : kMem} {x : Int32} : FrF f (kup f 280 1 x) := ⟨fun a b c => kup_ne _ _ _ b, fun k b => kup_nk b⟩
theorem FrF_w {f : kMem} {a k : Nat} {x : Int32} (h : 282 ≤ a ∧ a < 288) : FrF f (kup f a k x) := ⟨fun b c d => kup_ne _ _ _ (by omega), fun k b => by rw [kup_ne _ _ _ (by omega)]⟩
theorem FrG_0 {g : kMem} {x : Int32} : FrG g (kup g 0 8 x) := ⟨fun a b c => kup_ne _ _ _ b, fun k b => kup_nk b⟩
theorem FrG_8 {g : kMem} {k : Nat} {x : Int32} : FrG g (kup g 8 k x) := ⟨fun a b c => kup_ne _ _ _ c, fun k b => by rw [kup_ne _ _ _ (by decide)]⟩
theorem TX_F {f g f1 g1 : kMem} {i i1 n : Nat} (h : TX f g i n) (hi : i1 ≤ n) (hf : FrF f f1) (hg : FrG g g1) (a1 : f1 280 1 = nI i1) (b1 : g1 0 8 = nI i1) : TX f1 g1 i1 n := TX_fr h hi a1 (hf.2 2 (by decide)) (hf.1 281 (by decide) (by decide)) b1 (hg.2 7 (by decide)) (hg.1 5 (by decide) (by decide))
