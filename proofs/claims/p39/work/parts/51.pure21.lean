/-! minutes pass: the dryers; the row of the class, which dries and counts first -/
def dr (m : Int32) : Nat → Nat → (Nat → Int32) → Nat → Int32
  | 0, _, v => v
  | k + 1, i, v => dr m k (i + 1) (if v (100 + 3 * i) < 0 then v else upd v (102 + 3 * i) (v (102 + 3 * i) + m))
theorem dr_ne {m : Int32} {j : Nat} (hj : j < 100 ∨ 109 ≤ j) : ∀ (k i : Nat) (v : Nat → Int32), i + k ≤ 3 → dr m k i v j = v j
  | 0, _, _, _ => rfl
  | k + 1, i, v, h => by
    unfold dr
    rw [dr_ne hj k (i + 1) _ (by omega)]
    split
    · rfl
    · rw [upd_ne (by omega)]
theorem dr_up {m : Int32} {j : Nat} {x : Int32} (hj : j < 100 ∨ 109 ≤ j) : ∀ (k i : Nat) (v : Nat → Int32), i + k ≤ 3 → dr m k i (upd v j x) = upd (dr m k i v) j x
  | 0, _, _, _ => rfl
  | k + 1, i, v, h => by
    unfold dr
    rw [upd_ne (j := 100 + 3 * i) (by omega), upd_ne (j := 102 + 3 * i) (by omega)]
    by_cases hn : v (100 + 3 * i) < 0
    · rw [if_pos hn, if_pos hn]
      exact dr_up hj k (i + 1) v (by omega)
    · rw [if_neg hn, if_neg hn, upd_comm (by omega)]
      exact dr_up hj k (i + 1) _ (by omega)
theorem dr_Z {m : Int32} {v : Nat → Int32} (h : kZ v) : kZ (dr m 3 0 v) := fun j hj => by rw [dr_ne (by omega) 3 0 v (by omega)]; exact h j hj
theorem InvC_dr1 {B c0 c1 c2 c3 d : Nat} {v : Nat → Int32} {z : Int32} (h : InvC B v c0 c1 c2 c3) (hd : d < 3) (hn : ¬ v (100 + 3 * d) < 0) : InvC B (upd v (102 + 3 * d) z) c0 c1 c2 c3 := by
  rcases h.2.2.2.2.1 d hd with ⟨h1, -, -⟩ | h1
  · exact absurd (by rw [h1]; decide) hn
  · have h2 := InvC_dry (z := z) h hd (Or.inr h1)
    rw [upd_self (k := 100 + 3 * d) rfl, upd_self (k := 101 + 3 * d) rfl] at h2
    exact h2
theorem dr_Inv {m : Int32} {B c0 c1 c2 c3 : Nat} : ∀ (k i : Nat) (v : Nat → Int32), i + k ≤ 3 → InvC B v c0 c1 c2 c3 → InvC B (dr m k i v) c0 c1 c2 c3
  | 0, _, _, _, h => h
  | k + 1, i, v, h1, h => by
    unfold dr
    refine dr_Inv k (i + 1) _ (by omega) ?_
    split
    · exact h
    · exact InvC_dr1 h (by omega) ‹_›
theorem lp_dryC {m : Int32} {B c0 c1 c2 c3 : Nat} : ∀ (k u i : Nat) (f : kMem) (v : Nat → Int32), InvC B v c0 c1 c2 c3 → FRel f v → i + k = 3 → k < u → ∃ f1, cl_X2_dry_2 u f m (nI i) = some (0, f1) ∧ FRel f1 (dr m k i v) ∧ ∀ a, a ≠ 11 → f1 a = f a
  | 0, u + 1, i, f, v, hI, hF, h1, h2 => by
    obtain rfl : i = 3 := by omega
    refine ⟨f, ?_, hF, fun _ _ => rfl⟩
    unfold cl_X2_dry_2
    rw [kle_t (by decide)]
  | k + 1, u + 1, i, f, v, hI, hF, h1, h2 => by
    obtain ⟨q0, -, q2⟩ := mcs_9 i (by omega)
    have hk : kin (nI i) 3 = true := nI_kin (by omega) (by decide)
    have hcl : (nI i).toNatClampNeg = i := nI_clamp (by omega)
    have one : nI i + Int32.ofInt 1 = nI (i + 1) := nI_1 i
    have hc0 := hI.1.2.2.2.2.1
    rw [cl_X2_dry_2.eq_2, kle_f (fun q => by have := (nI_le_iff (a := 3) (by omega) (by omega)).mp q; omega), kchk_t hk, kchk_t hk, hcl, one]
    unfold dr
    rcases hI.2.2.2.2.1 i (by omega) with ⟨w, -, -⟩ | ⟨⟨a, w, wa⟩, -⟩
    · have e : f 9 i = -1 := (FRel_at hF q0).symm.trans w
      rw [keq_t e, kchk_t hk, Int32.add_zero, kup_id rfl, kmem_s, klet_s, w, if_pos (by decide)]
      exact lp_dryC k u (i + 1) f v hI hF (by omega) (by omega)
    · have e : f 9 i = nI a := (FRel_at hF q0).symm.trans w
      have hn : ¬ v (100 + 3 * i) < 0 := by rw [w]; exact nI_not_neg (by omega)
      rw [e, keq_f (nI_m1 (by omega)), kchk_t hk, kmem_s, klet_s, if_neg hn, FRel_at hF q2]
      obtain ⟨f1, r1, r2, r3⟩ := lp_dryC (m := m) k u (i + 1) (kup f 11 i (f 11 i + m)) _ (InvC_dr1 (z := f 11 i + m) hI (by omega) hn) (FRel_up _ hF q2) (by omega) (by omega)
      exact ⟨f1, r1, r2, fun a ha => by rw [r3 a ha, kup_ne _ _ _ ha]⟩
/-- the model's row is v -/
def rw1 (g : kMem) (v : Nat → Int32) : kMem := fun a => if a = 1 then v else g a
theorem rw1_1 {g : kMem} {v : Nat → Int32} : rw1 g v 1 = v := rfl
theorem rw1_ne {g : kMem} {v : Nat → Int32} {a : Nat} (h : a ≠ 1) : rw1 g v a = g a := if_neg h
theorem rw1_up {g : kMem} {j : Nat} {x : Int32} : kup g 1 j x = rw1 g (upd (g 1) j x) := by
  funext a
  by_cases h : a = 1
  · subst h
    rw [kup_eq, rw1_1]
  · rw [kup_ne _ _ _ h, rw1_ne h]
theorem rw1_rw1 {g : kMem} {v w : Nat → Int32} : rw1 (rw1 g v) w = rw1 g w := by
  funext a
  by_cases h : a = 1
  · subst h
    rfl
  · rw [rw1_ne h, rw1_ne h, rw1_ne h]
theorem rw1_id {g : kMem} : rw1 g (g 1) = g := by
  funext a
  by_cases h : a = 1
  · subst h
    rfl
  · rw [rw1_ne h]
theorem lp_dryM {Y : kMem → Int32 → Option (Int32 × kMem)} {m x2 : Int32} : ∀ (k u i : Nat) (g : kMem), i + k = 3 → k < u → cl_X12_passes_66 Y u g m x2 (nI i) = Y (rw1 g (dr m k i (g 1))) x2
  | 0, u + 1, i, g, h1, h2 => by
    obtain rfl : i = 3 := by omega
    unfold cl_X12_passes_66 dr
    rw [kle_t (by decide), rw1_id]
  | k + 1, u + 1, i, g, h1, h2 => by
    have one : nI i + Int32.ofInt 1 = nI (i + 1) := nI_1 i
    have s2 : nI (100 + 3 * i) + 2 = nI (102 + 3 * i) := n100 2
    rw [cl_X12_passes_66.eq_2, kle_f (fun q => by have := (nI_le_iff (a := 3) (by omega) (by omega)).mp q; omega), a100, kchk_t (nI_kin (by omega) (by decide)), nI_clamp (by omega), one, s2, kchk_t (nI_kin (by omega) (by decide)), kchk_t (nI_kin (by omega) (by decide)), nI_clamp (by omega), kmem_s, klet_s, klet_s]
    unfold dr
    by_cases hn : g 1 (100 + 3 * i) < 0
    · rw [klt_t hn, if_pos hn]
      exact lp_dryM k u (i + 1) g (by omega) (by omega)
    · rw [klt_f hn, if_neg hn, lp_dryM k u (i + 1) _ (by omega) (by omega), rw1_up, rw1_rw1, rw1_1]
def tT (m : Int32) (v : Nat → Int32) : Nat → Int32 := dr m 3 0 (upd v 6 (v 6 + m))
theorem tT_ne {m : Int32} {v : Nat → Int32} {j : Nat} (h6 : j ≠ 6) (hj : j < 100 ∨ 109 ≤ j) : tT m v j = v j := by
  unfold tT
  rw [dr_ne hj 3 0 _ (by omega), upd_ne h6]
theorem tT_up {m : Int32} {v : Nat → Int32} {j : Nat} {x : Int32} (h6 : j ≠ 6) (hj : j < 100 ∨ 109 ≤ j) : tT m (upd v j x) = upd (tT m v) j x := by
  unfold tT
  rw [upd_ne (Ne.symm h6), upd_comm h6, dr_up hj 3 0 _ (by omega)]
def tT8 (m : Int32) (v : Nat → Int32) : Nat → Int32 := upd (tT m v) 8 0
theorem tT8_kT (m : Int32) : kT (tT8 m) := ⟨fun v j h => by
  unfold tT8
  rw [upd_ne (by omega), tT_ne (by omega) (by omega)], fun v j x h => by
  unfold tT8
  rw [tT_up (by omega) (by omega), upd_comm (by omega)]⟩
theorem tT8_8 (m : Int32) (v : Nat → Int32) (x : Int32) : tT8 m (upd v 8 x) = tT8 m v := by
  unfold tT8
  rw [tT_up (by omega) (by omega), upd_upd]
theorem nI_sub {a b : Nat} (h : b ≤ a) : nI a - nI b = nI (a - b) := by
  obtain ⟨t, rfl⟩ : ∃ t, a = t + b := ⟨a - b, by omega⟩
  rw [← nI_add, Int32.add_sub_cancel, Nat.add_sub_cancel]
theorem toInt_nsub {a b : Nat} (ha : a < 2 ^ 30) (hb : b < 2 ^ 30) : (nI a - nI b).toInt = (a : Int) - b := by
  rw [Int32.toInt_sub, nI_toInt (by omega), nI_toInt (by omega)]
  exact Int.bmod_eq_of_le (by omega) (by omega)
theorem kmax1 {L s : Nat} (hL : L < 2 ^ 30) (hs : s < 2 ^ 30) : kmax 1 (nI L - nI s) = nI (max 1 (L - s)) := by
  unfold kmax
  have e := toInt_nsub hL hs
  by_cases h : 1 < nI L - nI s
  · rw [if_pos h]
    rw [Int32.lt_iff_toInt_lt, e, show (1 : Int32).toInt = 1 from rfl] at h
    rw [nI_sub (by omega), show max 1 (L - s) = L - s by omega]
  · rw [if_neg h]
    rw [Int32.lt_iff_toInt_lt, e, show (1 : Int32).toInt = 1 from rfl] at h
    rw [show max 1 (L - s) = 1 by omega]
    rfl
