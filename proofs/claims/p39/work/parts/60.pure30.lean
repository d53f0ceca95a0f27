/-! best: the tables of the first way -/
def TabP (P : Nat → Nat → Nat) (f : kMem) : Prop := ∀ r c, r ≤ 6 → c < 6 → f 289 (6 * r + c) = nI (P r c)
def TabS (P : Nat → Nat → Nat) (f : kMem) (A T : Nat) : Prop := ∀ S, S < T → S < 64 → sub S A → ∀ r, r ≤ 6 → f 290 (7 * S + r) = nI (bS P S r)
theorem lp_fp1 {B c0 c1 c2 c3 r : Nat} {v : Nat → Int32} {Y : kMem → Int32 → Option (Int32 × kMem)} (hI : InvC B v c0 c1 c2 c3) (hr : r ≤ 6) : ∀ k u c f, c + k = 6 → k < u → FRel f v → ∃ f1, cl_X1_fillPurges_10 Y u f (nI r) (nI c) = Y f1 (nI r) ∧ (∀ a, a ≠ 289 → f1 a = f a) ∧ (∀ j, j < 6 * r + c ∨ 6 * r + 6 ≤ j → f1 289 j = f 289 j) ∧ ∀ d, c ≤ d → d < 6 → f1 289 (6 * r + d) = nI (pu v c0 r d)
  | 0, u + 1, c, f, h1, h2, hF => by
    obtain rfl : c = 6 := by omega
    refine ⟨f, ?_, fun _ _ => rfl, fun _ _ => rfl, fun d d1 d2 => by omega⟩
    rw [cl_X1_fillPurges_10.eq_2, kle_t (by decide)]
  | k + 1, u + 1, c, f, h1, h2, hF => by
    have one : nI c + Int32.ofInt 1 = nI (c + 1) := nI_1 c
    rw [cl_X1_fillPurges_10.eq_2, kle_f (fun q => by have := (nI_le_iff (a := 6) (by omega) (by omega)).mp q; omega), c_pu hF hI hr (by omega), kbind_s, pl1, kchk_t (nI_kin (by omega) (by decide)), nI_clamp (by omega), kmem_s, klet_s, one]
    obtain ⟨f1, e1, e2, e3, e4⟩ := lp_fp1 (Y := Y) hI hr k u (c + 1) (kup f 289 (6 * r + c) (nI (pu v c0 r c))) (by omega) (by omega) (FRel_cells (fun a ha => kup_ne _ _ _ (by omega)) hF)
    refine ⟨f1, e1, fun a ha => by rw [e2 a ha, kup_ne _ _ _ ha], fun j hj => by rw [e3 j (by omega), kup_nk (by omega)], fun d d1 d2 => ?_⟩
    by_cases hd : d = c
    · rw [hd, e3 _ (by omega), kup_at]
    · exact e4 d (by omega) d2
theorem lp_fp {B c0 c1 c2 c3 : Nat} {v : Nat → Int32} (hI : InvC B v c0 c1 c2 c3) : ∀ k u r f, r + k = 7 → k < u → FRel f v → ∃ f1, cl_X1_fillPurges_2 u f (nI r) = some (0, f1) ∧ (∀ a, a ≠ 289 → f1 a = f a) ∧ (∀ j, j < 6 * r → f1 289 j = f 289 j) ∧ ∀ q c, r ≤ q → q ≤ 6 → c < 6 → f1 289 (6 * q + c) = nI (pu v c0 q c)
  | 0, u + 1, r, f, h1, h2, hF => by
    obtain rfl : r = 7 := by omega
    refine ⟨f, ?_, fun _ _ => rfl, fun _ _ => rfl, fun q c q1 q2 => by omega⟩
    rw [cl_X1_fillPurges_2.eq_2, kle_t (by decide)]
  | k + 1, u + 1, r, f, h1, h2, hF => by
    have one : nI r + Int32.ofInt 1 = nI (r + 1) := nI_1 r
    obtain ⟨f1, e1, e2, e3, e4⟩ := lp_fp1 (r := r) (Y := fun g6 x2_5 => klet (x2_5 + Int32.ofInt 1) (fun x2_7 => ((cl_X1_fillPurges_2 u) g6 x2_7))) hI (by omega) 6 100 0 f (by omega) (by omega) hF
    obtain ⟨f2, d1, d2, d3, d4⟩ := lp_fp hI k u (r + 1) f1 (by omega) (by omega) (FRel_cells (fun a ha => e2 a (by omega)) hF)
    refine ⟨f2, ?_, fun a ha => by rw [d2 a ha, e2 a ha], fun j hj => by rw [d3 j (by omega), e3 j (by omega)], fun q c q1 q2 q3 => ?_⟩
    · rw [cl_X1_fillPurges_2.eq_2, kle_f (fun q => by have := (nI_le_iff (a := 7) (by omega) (by omega)).mp q; omega)]
      refine Eq.trans (show _ = cl_X1_fillPurges_10 (fun g6 x2_5 => klet (x2_5 + Int32.ofInt 1) (fun x2_7 => ((cl_X1_fillPurges_2 u) g6 x2_7))) 100 f (nI r) (nI 0) from rfl) ?_
      rw [e1, klet_s, one, d1]
    · by_cases hq : q = r
      · rw [hq, d3 _ (by omega)]
        exact e4 c (by omega) q3
      · exact d4 q c (by omega) q2 q3
theorem c_fillP {B c0 c1 c2 c3 : Nat} {v : Nat → Int32} {f : kMem} (hI : InvC B v c0 c1 c2 c3) (hF : FRel f v) : ∃ f1, cf_X1_fillPurges f = some (0, f1) ∧ (∀ a, a ≠ 289 → f1 a = f a) ∧ TabP (pu v c0) f1 := by
  obtain ⟨f1, e1, e2, -, e4⟩ := lp_fp hI 7 100 0 f (by omega) (by omega) hF
  exact ⟨f1, e1, e2, fun r c hr hc => e4 r c (by omega) hr hc⟩
section DP
variable {P : Nat → Nat → Nat} {f : kMem}
theorem c_through {S r c : Nat} (hP : TabP P f) (hS : S < 64) (hr : r ≤ 6) (hc : c < 6) (hs : f 290 (7 * del S c + (c + 1)) = nI (bS P (del S c) (c + 1))) : cf_X1_sumThrough f (nI r) (nI c) (nI S) = some (nI (bF P S r c), f) := by
  have hd := (del_lt0 S hS c hc).1
  unfold cf_X1_sumThrough
  rw [bit_del S hS c hc, pl1, kchk_t (nI_kin (by omega) (by decide)), nI_clamp (by omega), show nI (del S c) * 7 = nI (7 * del S c) by rw [show (7 : Int32) = nI 7 from rfl, nI_mul, Nat.mul_comm], nI_add, nI_1, kchk_t (nI_kin (by omega) (by decide)), nI_clamp (by omega), hP r c hr hc, show 7 * del S c + c + 1 = 7 * del S c + (c + 1) by omega, hs, nI_add]
  rfl
def pick (z : Option (Nat × Nat)) (acc ch : Nat) : Nat := match z with
  | none => ch
  | some z => if z.1 < acc then z.2 else ch
theorem lp_low {S r : Nat} (hb : ∀ r c, P r c ≤ 46) (hP : TabP P f) (hS : S < 64) (hr : r ≤ 6) (hs : ∀ c, c < 6 → mem S c = true → f 290 (7 * del S c + (c + 1)) = nI (bS P (del S c) (c + 1))) : ∀ k u i acc ch, i + k = 6 → k < u → acc ≤ 1000000 → cl_X1_lowestBest_9 u f (nI r) (nI S) (nI ch) (nI acc) (nI i) = some (nI (pick (fm (bF P S r) S k i) acc ch), f)
  | 0, u + 1, i, acc, ch, h1, h2, h3 => by
    obtain rfl : i = 6 := by omega
    rw [cl_X1_lowestBest_9.eq_2, kle_t (by decide)]
    rfl
  | k + 1, u + 1, i, acc, ch, h1, h2, h3 => by
    have one : nI i + Int32.ofInt 1 = nI (i + 1) := nI_1 i
    have hFi := bF_le hb S r i
    rw [cl_X1_lowestBest_9.eq_2, kle_f (fun q => by have := (nI_le_iff (a := 6) (by omega) (by omega)).mp q; omega), bit_mem S hS i (by omega), one]
    unfold fm
    by_cases hm : mem S i = true
    · rw [if_pos hm, keq_t rfl, c_through hP hS hr (by omega) (hs i (by omega) hm), kbind_s, c_through hP hS hr (by omega) (hs i (by omega) hm), kbind_s, klet_s, klet_s]
      by_cases ha : acc ≤ bF P S r i
      · rw [kle_t ((nI_le_iff (by omega) (by omega)).mpr ha), lp_low hb hP hS hr hs k u (i + 1) acc ch (by omega) (by omega) h3]
        rcases h : fm (bF P S r) S k (i + 1) with _ | z
        · simp only [hm, if_true]
          unfold pick
          simp only
          rw [if_neg (by omega)]
        · by_cases hz : bF P S r i ≤ z.1
          · simp only [hm, hz, true_and, if_true]
            unfold pick
            simp only
            rw [if_neg (by omega), if_neg (by omega)]
          · simp only [hz, and_false, if_false]
      · rw [kle_f (fun q => ha ((nI_le_iff (by omega) (by omega)).mp q)), lp_low hb hP hS hr hs k u (i + 1) (bF P S r i) i (by omega) (by omega) (by omega)]
        rcases h : fm (bF P S r) S k (i + 1) with _ | z
        · simp only [hm, if_true]
          unfold pick
          simp only
          rw [if_pos (by omega)]
        · by_cases hz : bF P S r i ≤ z.1
          · simp only [hm, hz, true_and, if_true]
            unfold pick
            simp only
            rw [if_neg (by omega), if_pos (by omega)]
          · simp only [hz, and_false, if_false]
            unfold pick
            simp only
            rw [if_pos (by omega), if_pos (by omega)]
    · rw [if_neg hm, keq_f (by decide), klet_s, lp_low hb hP hS hr hs k u (i + 1) acc ch (by omega) (by omega) h3]
      rcases h : fm (bF P S r) S k (i + 1) with _ | z
      · simp only [hm, if_false]
        rfl
      · simp only [hm, false_and, if_false]
        rfl
theorem c_low {S r : Nat} (hb : ∀ r c, P r c ≤ 46) (hP : TabP P f) (hS : S < 64) (hr : r ≤ 6) (hs : ∀ c, c < 6 → mem S c = true → f 290 (7 * del S c + (c + 1)) = nI (bS P (del S c) (c + 1))) : cf_X1_lowestBest f (nI r) (nI S) = some (nI (bc P S r), f) := by
  refine (lp_low hb hP hS hr hs 6 100 0 1000000 0 (by omega) (by omega) (by omega)).trans ?_
  have e : pick (fm (bF P S r) S 6 0) 1000000 0 = bc P S r := by
    show _ = snd0 (bZ P S r)
    unfold bZ
    rcases h : fm (bF P S r) S 6 0 with _ | z
    · rfl
    · obtain ⟨-, -, -, h4⟩ := fm_some 6 0 h
      have := bF_le hb S r z.2
      show (if z.1 < 1000000 then z.2 else 0) = z.2
      rw [if_pos (by omega)]
  rw [e]
end DP
theorem TabS_del {P : Nat → Nat → Nat} {f : kMem} {A T S : Nat} (h : TabS P f A T) (hS : S < 64) (hST : S ≤ T) (hA : sub S A) : ∀ c, c < 6 → mem S c = true → f 290 (7 * del S c + (c + 1)) = nI (bS P (del S c) (c + 1)) := fun c hc hm => by
  obtain ⟨d1, d2⟩ := del_lt0 S hS c hc
  have d3 := (d2 hm).1
  exact h (del S c) (by omega) d1 (sub_del hA hS hc) (c + 1) (by omega)
theorem TabS_fr {P : Nat → Nat → Nat} {f f1 : kMem} {A T : Nat} (h : TabS P f A T) (h1 : ∀ j, j < 7 * T → f1 290 j = f 290 j) : TabS P f1 A T := fun S hS hS6 hA r hr => by
  rw [h1 _ (by omega)]
  exact h S hS hS6 hA r hr
theorem TabP_fr {P : Nat → Nat → Nat} {f f1 : kMem} (h : TabP P f) (h1 : f1 289 = f 289) : TabP P f1 := fun r c hr hc => by
  rw [h1]
  exact h r c hr hc
theorem lp_fs1 {P : Nat → Nat → Nat} {A S : Nat} {Y : kMem → Int32 → Int32 → Option (Int32 × kMem)} (hb : ∀ r c, P r c ≤ 46) (hS : S < 64) (hA : A < 64) (hSA : sub S A) : ∀ k u r f, r + k = 7 → k < u → TabP P f → TabS P f A S → ∃ f1, cl_X1_fillSums_21 Y u f (nI A) (nI S) (nI r) = Y f1 (nI A) (nI S) ∧ (∀ a, a ≠ 290 → f1 a = f a) ∧ (∀ j, j < 7 * S + r → f1 290 j = f 290 j) ∧ ∀ q, r ≤ q → q ≤ 6 → f1 290 (7 * S + q) = nI (bS P S q)
  | 0, u + 1, r, f, h1, h2, hP, hT => by
    obtain rfl : r = 7 := by omega
    refine ⟨f, ?_, fun _ _ => rfl, fun _ _ => rfl, fun q q1 q2 => by omega⟩
    rw [cl_X1_fillSums_21.eq_2, kle_t (by decide)]
  | k + 1, u + 1, r, f, h1, h2, hP, hT => by
    have one : nI r + Int32.ofInt 1 = nI (r + 1) := nI_1 r
    have ix : nI S * 7 + nI r = nI (7 * S + r) := by rw [show (7 : Int32) = nI 7 from rfl, nI_mul, Nat.mul_comm, nI_add]
    have hk : kin (nI (7 * S + r)) 448 = true := nI_kin (by omega) (by decide)
    have key : ∃ f1, cl_X1_fillSums_21 Y u (kup f 290 (7 * S + r) (nI (bS P S r))) (nI A) (nI S) (nI (r + 1)) = Y f1 (nI A) (nI S) ∧ (∀ a, a ≠ 290 → f1 a = f a) ∧ (∀ j, j < 7 * S + r → f1 290 j = f 290 j) ∧ ∀ q, r ≤ q → q ≤ 6 → f1 290 (7 * S + q) = nI (bS P S q) := by
      obtain ⟨f1, e1, e2, e3, e4⟩ := lp_fs1 (Y := Y) hb hS hA hSA k u (r + 1) (kup f 290 (7 * S + r) (nI (bS P S r))) (by omega) (by omega) (TabP_fr hP (kup_ne _ _ _ (by decide))) (TabS_fr hT (fun j hj => kup_nk (by omega)))
      refine ⟨f1, e1, fun a ha => by rw [e2 a ha, kup_ne _ _ _ ha], fun j hj => by rw [e3 j (by omega), kup_nk (by omega)], fun q q1 q2 => ?_⟩
      by_cases hq : q = r
      · rw [hq, e3 _ (by omega), kup_at]
      · exact e4 q (by omega) q2
    obtain ⟨f1, e1, e2⟩ := key
    refine ⟨f1, ?_, e2⟩
    rw [cl_X1_fillSums_21.eq_2, kle_f (fun q => by have := (nI_le_iff (a := 7) (by omega) (by omega)).mp q; omega), keq_t ((bit_sub0 S hS A hA).mpr hSA), ix, one, nI_clamp (by omega)]
    by_cases h0 : S = 0
    · rw [keq_t (by rw [h0]; rfl), kchk_t hk, kmem_s, klet_s]
      have e0 : bS P S r = 0 := by rw [h0, bS_0]
      rw [e0] at e1
      exact e1
    · obtain ⟨b1, b2, b3⟩ := bc_mem (P := P) (r := r) hS h0
      have hs := TabS_del hT hS (Nat.le_refl _) hSA
      rw [keq_f (nI_ne0 (by omega) (by omega)), c_low hb hP hS (by omega) hs, kbind_s, c_through hP hS (by omega) b2 (hs _ b2 b1), kbind_s, kchk_t hk, kmem_s, klet_s, ← b3]
      exact e1
theorem lp_fs {P : Nat → Nat → Nat} {A : Nat} (hb : ∀ r c, P r c ≤ 46) (hA : A < 64) : ∀ k u S f, S + k = A + 1 → k < u → TabP P f → TabS P f A S → ∃ f1, cl_X1_fillSums_7 u f (nI A) (nI S) = some (0, f1) ∧ (∀ a, a ≠ 290 → f1 a = f a) ∧ TabS P f1 A (A + 1)
  | 0, u + 1, S, f, h1, h2, hP, hT => by
    obtain rfl : S = A + 1 := by omega
    refine ⟨f, ?_, fun _ _ => rfl, hT⟩
    rw [cl_X1_fillSums_7.eq_2, klt_t ((nI_lt_iff (by omega) (by omega)).mpr (by omega))]
  | k + 1, u + 1, S, f, h1, h2, hP, hT => by
    have one : nI S + Int32.ofInt 1 = nI (S + 1) := nI_1 S
    rw [cl_X1_fillSums_7.eq_2, klt_f (fun q => by have := (nI_lt_iff (by omega) (by omega)).mp q; omega), kle_f (fun q => by have := (nI_le_iff (a := 64) (by omega) (by omega)).mp q; omega)]
    have go : ∀ f2 : kMem, (∀ a, a ≠ 290 → f2 a = f a) → TabS P f2 A (S + 1) → ∃ f1, klet (nI S + Int32.ofInt 1) (fun x3_14 => ((cl_X1_fillSums_7 u) f2 (nI A) x3_14)) = some (0, f1) ∧ (∀ a, a ≠ 290 → f1 a = f a) ∧ TabS P f1 A (A + 1) := fun f2 g1 g2 => by
      obtain ⟨f1, e1, e2, e3⟩ := lp_fs hb hA k u (S + 1) f2 (by omega) (by omega) (TabP_fr hP (g1 289 (by decide))) g2
      exact ⟨f1, by rw [klet_s, one]; exact e1, fun a ha => by rw [e2 a ha, g1 a ha], e3⟩
    by_cases hSA : sub S A
    · obtain ⟨f1, e1, e2, e3, e4⟩ := lp_fs1 (Y := fun g13 x2_11 x3_12 => klet (x3_12 + Int32.ofInt 1) (fun x3_14 => ((cl_X1_fillSums_7 u) g13 x2_11 x3_14))) hb (by omega) hA hSA 7 100 0 f (by omega) (by omega) hP hT
      obtain ⟨f2, g1, g2⟩ := go f1 e2 (fun T hT1 hT2 hTA r hr => by
        by_cases hTS : T = S
        · rw [hTS]
          exact e4 r (by omega) hr
        · rw [e3 _ (by omega)]
          exact hT T (by omega) hT2 hTA r hr)
      exact ⟨f2, e1.trans g1, g2⟩
    · obtain ⟨f2, g1, g2⟩ := go f (fun _ _ => rfl) (fun T hT1 hT2 hTA r hr => by
        by_cases hTS : T = S
        · rw [hTS] at hTA
          exact absurd hTA hSA
        · exact hT T (by omega) hT2 hTA r hr)
      refine ⟨f2, ?_, g2⟩
      rw [cl_X1_fillSums_21.eq_2, kle_f (by decide), keq_f (fun h => hSA ((bit_sub0 S (by omega) A hA).mp h))]
      exact g1
theorem c_fillS {B c0 c1 c2 c3 A : Nat} {v : Nat → Int32} {f : kMem} (hI : InvC B v c0 c1 c2 c3) (hF : FRel f v) (hA : A < 64) : ∃ f1, cf_X1_fillSums f (nI A) = some (0, f1) ∧ (∀ a, a ≠ 289 → a ≠ 290 → f1 a = f a) ∧ TabP (pu v c0) f1 ∧ TabS (pu v c0) f1 A (A + 1) := by
  obtain ⟨f1, e1, e2, e3⟩ := c_fillP hI hF
  obtain ⟨f2, d1, d2, d3⟩ := lp_fs (P := pu v c0) (pu_le hI) hA (A + 1) 100 0 f1 (by omega) (by omega) e3 (fun S hS => absurd hS (by omega))
  refine ⟨f2, ?_, fun a a1 a2 => by rw [d2 a a2, e2 a a1], TabP_fr e3 (d2 289 (by decide)), d3⟩
  unfold cf_X1_fillSums
  rw [e1, kbind_s]
  exact d1
theorem sub_self (A : Nat) : sub A A := fun _ _ h => h
theorem c_least {B c0 c1 c2 c3 A r0 : Nat} {v : Nat → Int32} {f : kMem} (hI : InvC B v c0 c1 c2 c3) (hF : FRel f v) (hA : A < 64) (hr : r0 ≤ 6) (hv : v 5 = nI r0 - 1) : ∃ f1, cf_X1_leastSum f (nI A) = some (nI (bS (pu v c0) A r0), f1) ∧ ∀ a, a ≠ 289 → a ≠ 290 → f1 a = f a := by
  obtain ⟨f1, e1, e2, e3, e4⟩ := c_fillS hI hF hA
  have f7 : f1 0 7 = nI r0 - 1 := by
    rw [e2 0 (by decide) (by decide)]
    exact (FRel_at hF (j := 5) (a := 0) (k := 7) (by decide)).symm.trans hv
  refine ⟨f1, ?_, e2⟩
  unfold cf_X1_leastSum
  rw [e1, kbind_s, f7, Int32.add_assoc, Int32.sub_add_cancel, show nI A * 7 + nI r0 = nI (7 * A + r0) by rw [show (7 : Int32) = nI 7 from rfl, nI_mul, Nat.mul_comm, nI_add], kchk_t (nI_kin (by omega) (by decide)), nI_clamp (by omega), e4 A (by omega) hA (sub_self A) r0 hr]
theorem lp_col {P : Nat → Nat → Nat} {f : kMem} {A ix : Nat} (hb : ∀ r c, P r c ≤ 46) (hP : TabP P f) (hA : A < 64) (hT : TabS P f A (A + 1)) (hix : ix < 6) : ∀ j u p S r ch, p + j = ix → j + 1 < u → S < 64 → S ≤ A → sub S A → r ≤ 6 → j < pc S → cl_X1_colourAt_26 u f (nI ix) (nI S) (nI r) ch (nI p) = some (nI (bo P j S r), f)
  | j, u + 1, p, S, r, ch, h1, h2, hS, hSA', hSA, hr, hj => by
    have one : nI p + Int32.ofInt 1 = nI (p + 1) := nI_1 p
    have h0 : S ≠ 0 := fun h => by
      rw [h] at hj
      have : pc 0 = 0 := by decide
      omega
    obtain ⟨b1, b2, b3⟩ := bc_mem (P := P) (r := r) hS h0
    obtain ⟨d1, d2⟩ := del_lt0 S hS _ b2
    obtain ⟨d3, d4⟩ := d2 b1
    rw [cl_X1_colourAt_26.eq_2, klt_f (fun q => by have := (nI_lt_iff (by omega) (by omega)).mp q; omega), keq_f (nI_ne0 (by omega) (by omega)), c_low hb hP hS hr (TabS_del hT hS (by omega) hSA), kbind_s, bit_del S hS _ b2, klet_s, nI_1, klet_s, one, klet_s]
    cases j with
    | zero =>
      obtain ⟨w, rfl⟩ : ∃ w, u = w + 1 := ⟨u - 1, by omega⟩
      rw [cl_X1_colourAt_26.eq_2, klt_t ((nI_lt_iff (by omega) (by omega)).mpr (by omega))]
      rfl
    | succ j => exact lp_col hb hP hA hT hix j u (p + 1) (del S (bc P S r)) (bc P S r + 1) _ (by omega) (by omega) d1 (by omega) (sub_del hSA hS b2) (by omega) (by omega)
theorem c_colAt {B c0 c1 c2 c3 A r0 ix : Nat} {v : Nat → Int32} {f : kMem} (hI : InvC B v c0 c1 c2 c3) (hF : FRel f v) (hA : A < 64) (hr : r0 ≤ 6) (hv : v 5 = nI r0 - 1) (hix : ix < pc A) : ∃ f1, cf_X1_colourAt f (nI A) (nI ix) = some (nI (bo (pu v c0) ix A r0), f1) ∧ ∀ a, a ≠ 289 → a ≠ 290 → f1 a = f a := by
  obtain ⟨f1, e1, e2, e3, e4⟩ := c_fillS hI hF hA
  have f7 : f1 0 7 = nI r0 - 1 := by
    rw [e2 0 (by decide) (by decide)]
    exact (FRel_at hF (j := 5) (a := 0) (k := 7) (by decide)).symm.trans hv
  have hp := (pc_le0 A hA).1
  refine ⟨f1, ?_, e2⟩
  unfold cf_X1_colourAt
  rw [e1, kbind_s, f7, Int32.sub_add_cancel, klet_s]
  exact lp_col (pu_le hI) e3 hA e4 (by omega) ix 100 0 A r0 (-1) (by omega) (by omega) hA (Nat.le_refl _) (sub_self A) hr hix
/-! the second way -/
theorem kmin_nI {a b : Nat} (ha : a < 2 ^ 31) (hb : b < 2 ^ 31) : kmin (nI a) (nI b) = nI (min a b) := by
  unfold kmin
  by_cases h : b < a
  · rw [if_pos ((nI_lt_iff hb ha).mpr h), Nat.min_eq_right (by omega)]
  · rw [if_neg (fun q => h ((nI_lt_iff hb ha).mp q)), Nat.min_eq_left (by omega)]
