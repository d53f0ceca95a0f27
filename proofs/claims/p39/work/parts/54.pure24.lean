/-! run: the dryers -/
def fo (P : Nat → Bool) : Nat → Nat → Option Nat
  | 0, _ => none
  | k + 1, i => if P i = true then some i else fo P k (i + 1)
theorem fo_some {P : Nat → Bool} {d : Nat} : ∀ k i, fo P k i = some d → P d = true ∧ i ≤ d ∧ d < i + k
  | 0, i, h => by cases h
  | k + 1, i, h => by
    unfold fo at h
    split at h
    · cases h
      exact ⟨‹_›, by omega, by omega⟩
    · have := fo_some k (i + 1) h
      exact ⟨this.1, by omega, by omega⟩
def enC : Option Nat → Int32
  | none => -1
  | some d => nI d
def enM : Option Nat → Int32
  | none => -1
  | some d => nI (100 + 3 * d)
def isC (v : Nat → Int32) (col : Int32) (d : Nat) : Bool := decide (v (100 + 3 * d) = col)
def isU (v : Nat → Int32) (col G : Int32) (d : Nat) : Bool := decide (v (100 + 3 * d) = col) && (!decide (v (102 + 3 * d) < v 13) && !decide (v (101 + 3 * d) < G))
theorem lp_with {f : kMem} {v : Nat → Int32} {col : Int32} (hF : FRel f v) : ∀ k u i, i + k = 3 → k < u → cl_X2_lowestWith_2 u f col (nI i) = some (enC (fo (isC v col) k i), f)
  | 0, u + 1, i, h1, h2 => by
    obtain rfl : i = 3 := by omega
    unfold cl_X2_lowestWith_2
    rw [kle_t (by decide)]
    rfl
  | k + 1, u + 1, i, h1, h2 => by
    obtain ⟨q0, -, -⟩ := mcs_9 i (by omega)
    have one : nI i + Int32.ofInt 1 = nI (i + 1) := nI_1 i
    rw [cl_X2_lowestWith_2.eq_2, kle_f (fun q => by have := (nI_le_iff (a := 3) (by omega) (by omega)).mp q; omega), kchk_t (nI_kin (by omega) (by decide)), nI_clamp (by omega), one, klet_s, ← FRel_at hF q0]
    unfold fo
    by_cases hc : v (100 + 3 * i) = col
    · rw [keq_t hc, if_pos (by unfold isC; simp [hc])]
      rfl
    · rw [keq_f hc, if_neg (by unfold isC; simp [hc])]
      exact lp_with hF k u (i + 1) (by omega) (by omega)
theorem lp_usable {f : kMem} {v : Nat → Int32} {col G : Int32} (hF : FRel f v) : ∀ k u i, i + k = 3 → k < u → cl_X2_lowestUsable_3 u f col G (v 13) (nI i) = some (enC (fo (isU v col G) k i), f)
  | 0, u + 1, i, h1, h2 => by
    obtain rfl : i = 3 := by omega
    unfold cl_X2_lowestUsable_3
    rw [kle_t (by decide)]
    rfl
  | k + 1, u + 1, i, h1, h2 => by
    obtain ⟨q0, q1, q2⟩ := mcs_9 i (by omega)
    have hk : kin (nI i) 3 = true := nI_kin (by omega) (by decide)
    have one : nI i + Int32.ofInt 1 = nI (i + 1) := nI_1 i
    rw [cl_X2_lowestUsable_3.eq_2, kle_f (fun q => by have := (nI_le_iff (a := 3) (by omega) (by omega)).mp q; omega), kchk_t hk, nI_clamp (by omega), one, klet_s, ← FRel_at hF q0, ← FRel_at hF q1, ← FRel_at hF q2, kchk_t hk, kchk_t hk]
    unfold fo
    by_cases hc : v (100 + 3 * i) = col
    · rw [keq_t hc]
      by_cases ht : v (102 + 3 * i) < v 13
      · rw [klt_t ht, if_neg (by unfold isU; simp [ht])]
        exact lp_usable hF k u (i + 1) (by omega) (by omega)
      · rw [klt_f ht]
        by_cases hg : v (101 + 3 * i) < G
        · rw [klt_t hg, if_neg (by unfold isU; simp [hg])]
          exact lp_usable hF k u (i + 1) (by omega) (by omega)
        · rw [klt_f hg, if_pos (by unfold isU; simp only [hc, ht, hg]; rfl)]
          rfl
    · rw [keq_f hc, if_neg (by unfold isU; simp [hc])]
      exact lp_usable hF k u (i + 1) (by omega) (by omega)
theorem ofm1 : Int32.ofInt (-1) = -1 := by decide
theorem lp_down {Y : kMem → Int32 → Int32 → Int32 → Int32 → Int32 → Int32 → Int32 → Option (Int32 × kMem)} {g : kMem} {col x2 x3 x4 G : Int32} : ∀ i k u, i + k = 3 → i < u → cl_X12_doesRun_86 Y u g col x2 x3 x4 G (enM (fo (isU (g 1) col G) k i)) (enM (fo (isC (g 1) col) k i)) (nI i - 1) = Y g col x2 x3 x4 G (enM (fo (isU (g 1) col G) 3 0)) (enM (fo (isC (g 1) col) 3 0))
  | 0, k, u + 1, h1, h2 => by
    obtain rfl : k = 3 := by omega
    rw [cl_X12_doesRun_86.eq_2, klt_t (by decide)]
  | i + 1, k, u + 1, h1, h2 => by
    have one : nI i + Int32.ofInt (-1) = nI i - 1 := by rw [ofm1, Int32.sub_eq_add_neg]
    have s1 : nI (100 + 3 * i) + 1 = nI (101 + 3 * i) := n100 1
    have s2 : nI (100 + 3 * i) + 2 = nI (102 + 3 * i) := n100 2
    have ih := lp_down (Y := Y) (g := g) (col := col) (x2 := x2) (x3 := x3) (x4 := x4) (G := G) i (k + 1) u (by omega) (by omega)
    have eC : fo (isC (g 1) col) (k + 1) i = if isC (g 1) col i = true then some i else fo (isC (g 1) col) k (i + 1) := rfl
    have eU : fo (isU (g 1) col G) (k + 1) i = if isU (g 1) col G i = true then some i else fo (isU (g 1) col G) k (i + 1) := rfl
    rw [eC, eU] at ih
    rw [cl_X12_doesRun_86.eq_2, nI_pred, klt_f (nI_not_neg (by omega)), klet_s, a100, kchk_t (nI_kin (by omega) (by decide)), nI_clamp (by omega), one, s1, s2, kchk_t (nI_kin (by omega) (by decide)), kchk_t (nI_kin (by omega) (by decide)), nI_clamp (by omega), nI_clamp (by omega)]
    simp only [klet_s]
    by_cases hc : g 1 (100 + 3 * i) = col
    · rw [keq_t hc]
      rw [if_pos (show isC (g 1) col i = true by unfold isC; simp [hc])] at ih
      by_cases ht : g 1 (102 + 3 * i) < g 1 13
      · rw [klt_t ht]
        rw [if_neg (show ¬ isU (g 1) col G i = true by unfold isU; simp [ht])] at ih
        exact ih
      · rw [klt_f ht]
        by_cases hg : g 1 (101 + 3 * i) < G
        · rw [klt_t hg]
          rw [if_neg (show ¬ isU (g 1) col G i = true by unfold isU; simp [hg])] at ih
          exact ih
        · rw [klt_f hg]
          rw [if_pos (show isU (g 1) col G i = true by unfold isU; simp only [hc, ht, hg]; rfl)] at ih
          exact ih
    · rw [keq_f hc]
      rw [if_neg (show ¬ isC (g 1) col i = true by unfold isC; simp [hc]), if_neg (show ¬ isU (g 1) col G i = true by unfold isU; simp [hc])] at ih
      exact ih
/-- the second reason -/
theorem Reas_rf2 {f g : kMem} {a d b e : Int32} : Reas (kup (kup (kup (rfC f a d) 278 1 b) 279 1 e) 277 2 2) (kup (kup (kup (rfM g a d) 6 1 b) 7 1 e) 0 10 2) := ⟨2, by decide, rfl, rfl, fun i hi => by
  rcases (show i = 0 ∨ i = 1 by omega) with rfl | rfl
  · exact ⟨rfl, rfl⟩
  · exact ⟨rfl, rfl⟩⟩
set_option maxRecDepth 20000 in
theorem run_no {B : Nat} {f g : kMem} {c0 c1 c2 c3 col : Nat} {G : Int32} (hN : Now B f g) (hI : InvC B (g 1) c0 c1 c2 c3) (hcol : col < c0) : ∃ f1 g1, cf_X4_refuseForDryers f (nI col) G = some (-1, f1) ∧ (kbind (cf_X12_refuses g 10 0) (fun r53 g54 => kle 0 (enM (fo (isC (g 1) (nI col)) 3 0)) (kchk (kin (enM (fo (isC (g 1) (nI col)) 3 0) + 2) 313) (klet ((g54 1 13) - (g54 1 (Int32.toNatClampNeg (enM (fo (isC (g 1) (nI col)) 3 0) + 2)))) (fun x9_55 => kle x9_55 0 (kchk (kin (enM (fo (isC (g 1) (nI col)) 3 0) + 1) 313) (kbind (cf_X12_behind g54 12 (G - (g54 1 (Int32.toNatClampNeg (enM (fo (isC (g 1) (nI col)) 3 0) + 1))))) (fun r56 g57 => kchk (kbool r53) (some (r53, g57))))) (kbind (cf_X12_behind g54 11 x9_55) (fun r58 g59 => kchk (kbool r53) (some (r53, g59))))))) (kchk (kbool r53) (some (r53, g54))))) = some (0, g1) ∧ Fr1 f f1 ∧ Fr2 g g1 ∧ Reas f1 g1 ∧ Now B f1 g1 ∧ Rs2 f f1 := by
  obtain ⟨hF, -, hZ⟩ := id hN
  have hF2 : FRel (rfC f 10 0) (g 1) := FRel_cells (fun c hc => rfC_lo hc) hF
  have hc0 := hI.1.2.2.2.2.1
  have w : cl_X2_lowestWith_2 100 (rfC f 10 0) (nI col) 0 = some (enC (fo (isC (g 1) (nI col)) 3 0), rfC f 10 0) := lp_with hF2 3 100 0 (by omega) (by omega)
  unfold cf_X4_refuseForDryers cf_X2_lowestWith
  rw [c_refuse, kbind_s, w, kbind_s, m_refuse, kbind_s]
  have e13 : rfM g 10 0 1 13 = g 1 13 := rfl
  rcases hd : fo (isC (g 1) (nI col)) 3 0 with _ | d
  · exact ⟨rfC f 10 0, rfM g 10 0, rfl, rfl, Fr1_rfC, Fr2_rfM, Reas_rf, Now_rf hN, Or.inl rfl, fun c hc => rfC_lo hc⟩
  · obtain ⟨hd1, -, hd3⟩ := fo_some _ _ hd
    have hd3 : d < 3 := by omega
    obtain ⟨q0, q1, q2⟩ := mcs_9 d hd3
    have hk : kin (nI d) 3 = true := nI_kin hd3 (by decide)
    have hcl : (nI d).toNatClampNeg = d := nI_clamp (by omega)
    have s1 : nI (100 + 3 * d) + 1 = nI (101 + 3 * d) := n100 1
    have s2 : nI (100 + 3 * d) + 2 = nI (102 + 3 * d) := n100 2
    have e9 : rfC f 10 0 9 d = nI col := (FRel_at hF2 q0).symm.trans (of_decide_eq_true hd1)
    rw [show enC (some d) = nI d from rfl, show enM (some d) = nI (100 + 3 * d) from rfl]
    rw [keq_f (nI_m1 (by omega)), kle_t (nI_pos' (by omega)), s1, s2, kchk_t (nI_kin (i := 102 + 3 * d) (by omega) (by decide)), nI_clamp (n := 102 + 3 * d) (by omega), klet_s, kchk_t (nI_kin (i := 101 + 3 * d) (by omega) (by decide)), nI_clamp (n := 101 + 3 * d) (by omega)]
    unfold cf_X2_lackingMinutes
    have m2 : rfM g 10 0 1 (102 + 3 * d) = rfC f 10 0 11 d := FRel_at hF2 q2
    have m1 : rfM g 10 0 1 (101 + 3 * d) = rfC f 10 0 10 d := FRel_at hF2 q1
    have m13 : rfM g 10 0 1 13 = rfC f 10 0 7 1 := FRel_at hF2 (j := 13) (a := 7) (k := 1) (by decide)
    rw [kchk_t hk, hcl, e9, keq_f (nI_m1 (by omega)), kchk_t hk, kbind_s, m1, m2, m13]
    by_cases h0 : rfC f 10 0 7 1 - rfC f 10 0 11 d ≤ 0
    · have hm : kmax 0 (rfC f 10 0 7 1 - rfC f 10 0 11 d) = 0 := if_neg (Int32.not_lt.mpr h0)
      rw [hm, kle_t (Int32.le_refl _), kle_t h0, kchk_t hk]
      refine ⟨kup (kup (kup (rfC f 10 0) 278 1 12) 279 1 (G - rfC f 10 0 10 d)) 277 2 2, kup (kup (kup (rfM g 10 0) 6 1 12) 7 1 (G - rfC f 10 0 10 d)) 0 10 2, rfl, rfl, Fr1_tr Fr1_rfC (Fr1_tr (Fr1_tr (Fr1_k (by omega)) (Fr1_k (by omega))) (Fr1_k (by omega))), Fr2_tr Fr2_rfM (Fr2_tr (Fr2_tr (Fr2_k (by omega)) (Fr2_k (by omega))) (Fr2_0 (by omega))), Reas_rf2, Now_fr hN (fun c hc => by rw [kup_ne _ _ _ (by omega), kup_ne _ _ _ (by omega), kup_ne _ _ _ (by omega), rfC_lo hc]) rfl, Or.inr rfl, fun c hc => by rw [kup_ne _ _ _ (by omega), kup_ne _ _ _ (by omega), kup_ne _ _ _ (by omega), rfC_lo hc]⟩
    · have hm : kmax 0 (rfC f 10 0 7 1 - rfC f 10 0 11 d) = rfC f 10 0 7 1 - rfC f 10 0 11 d := if_pos (Int32.not_le.mp h0)
      rw [hm, kle_f h0, kle_f h0]
      refine ⟨kup (kup (kup (rfC f 10 0) 278 1 11) 279 1 (rfC f 10 0 7 1 - rfC f 10 0 11 d)) 277 2 2, kup (kup (kup (rfM g 10 0) 6 1 11) 7 1 (rfC f 10 0 7 1 - rfC f 10 0 11 d)) 0 10 2, rfl, rfl, Fr1_tr Fr1_rfC (Fr1_tr (Fr1_tr (Fr1_k (by omega)) (Fr1_k (by omega))) (Fr1_k (by omega))), Fr2_tr Fr2_rfM (Fr2_tr (Fr2_tr (Fr2_k (by omega)) (Fr2_k (by omega))) (Fr2_0 (by omega))), Reas_rf2, Now_fr hN (fun c hc => by rw [kup_ne _ _ _ (by omega), kup_ne _ _ _ (by omega), kup_ne _ _ _ (by omega), rfC_lo hc]) rfl, Or.inr rfl, fun c hc => by rw [kup_ne _ _ _ (by omega), kup_ne _ _ _ (by omega), kup_ne _ _ _ (by omega), rfC_lo hc]⟩
