/-! a week ends; T: what the class has done to the row already and the model has not. A row's places 109 .. 312 are T's -/
def kT (T : (Nat → Int32) → Nat → Int32) : Prop := (∀ (v : Nat → Int32) (j : Nat), j = 0 ∨ j = 1 ∨ j = 2 ∨ j = 3 ∨ 109 ≤ j → T v j = v j) ∧ ∀ (v : Nat → Int32) (j : Nat) (x : Int32), 109 ≤ j → T (upd v j x) = upd (T v) j x
theorem FRel_atT {T : (Nat → Int32) → Nat → Int32} (hT : kT T) {F : Nat → Nat → Int32} {v : Nat → Int32} {j a k : Nat} (h : FRel F (T v)) (hm : mc j = (a, k) ∧ dj j = true) (hj : j = 0 ∨ j = 1 ∨ j = 2 ∨ j = 3 ∨ 109 ≤ j) : v j = F a k := by
  have := FRel_at h hm
  rw [hT.1 v j hj] at this
  exact this
theorem FRel_upT {T : (Nat → Int32) → Nat → Int32} (hT : kT T) {F : kMem} {v : Nat → Int32} {j a k : Nat} (x : Int32) (h : FRel F (T v)) (hm : mc j = (a, k) ∧ dj j = true) (hj : 109 ≤ j) : FRel (kup F a k x) (T (upd v j x)) := by
  rw [hT.2 v j x hj]
  exact FRel_up x h hm
theorem InvC_setT {T : (Nat → Int32) → Nat → Int32} (hT : kT T) {B c0 c1 c2 c3 j : Nat} {v : Nat → Int32} {x : Int32} (h : InvC B (T v) c0 c1 c2 c3) (hx : PL B c0 c1 c2 c3 j x) (hj : 109 ≤ j) : InvC B (T (upd v j x)) c0 c1 c2 c3 := by
  rw [hT.2 v j x hj]
  exact InvC_set h hx
theorem PL_hi {B c0 c1 c2 c3 j : Nat} {x : Int32} (h : 109 ≤ j) (h2 : j < 253) : PL B c0 c1 c2 c3 j x := ⟨by omega, by omega, by omega, by omega, by omega, by omega, by omega, by omega, by omega, by omega, by omega, by omega, fun o ho => ⟨by omega, by omega, by omega, by omega⟩⟩
theorem k253 {o : Nat} (i : Nat) : nI (253 + 6 * o) + nI i = nI (253 + i + 6 * o) := by rw [nI_add, show 253 + 6 * o + i = 253 + i + 6 * o by omega]
set_option maxRecDepth 20000 in
theorem lp_weekT {T : (Nat → Int32) → Nat → Int32} (hT : kT T) {B c0 c1 c2 c3 : Nat} {w : Int32} : ∀ (k u i : Nat) (f g : kMem), InvC B (T (g 1)) c0 c1 c2 c3 → FRel f (T (g 1)) → kZ (g 1) → g 1 7 = w → i + k = c3 → k < u → ∃ f1 g1, cl_X6_endWeek_2 u f w (nI i) = some (0, f1) ∧ (∀ Y : kMem → Option (Int32 × kMem), cl_X12_weekEnds_2 Y u g (nI i) = Y g1) ∧ InvC B (T (g1 1)) c0 c1 c2 c3 ∧ FRel f1 (T (g1 1)) ∧ kZ (g1 1) ∧ (∀ a, 25 ≤ a → f1 a = f a) ∧ (∀ a, a ≠ 1 → g1 a = g a) ∧ ∀ j, j < 109 → g1 1 j = g 1 j
  | 0, u + 1, i, f, g, hI, hF, hZ, hw, h1, h2 => by
    obtain ⟨-, -, -, g3, -⟩ := id hI.1
    have g3 : g 1 3 = nI c3 := (hT.1 (g 1) 3 (by omega)).symm.trans g3
    have f3 : f 18 0 = nI c3 := (FRel_atT hT hF (j := 3) (a := 18) (k := 0) (by decide) (by omega)).symm.trans g3
    refine ⟨f, g, ?_, fun Y => ?_, hI, hF, hZ, fun _ _ => rfl, fun _ _ => rfl, fun _ _ => rfl⟩
    · unfold cl_X6_endWeek_2
      rw [f3, kle_t (by rw [show i = c3 by omega]; exact Int32.le_refl _)]
    · unfold cl_X12_weekEnds_2
      rw [g3, kle_t (by rw [show i = c3 by omega]; exact Int32.le_refl _)]
  | k + 1, u + 1, i, f, g, hI, hF, hZ, hw, h1, h2 => by
    obtain ⟨-, -, -, g3, -, hc1, -, hc3⟩ := id hI.1
    have hc0 := hI.1.2.2.2.2.1
    have g3 : g 1 3 = nI c3 := (hT.1 (g 1) 3 (by omega)).symm.trans g3
    have f3 : f 18 0 = nI c3 := (FRel_atT hT hF (j := 3) (a := 18) (k := 0) (by decide) (by omega)).symm.trans g3
    have hO := hI.2.2.2.2.2 i (by omega)
    rw [hT.1 _ _ (by omega), hT.1 _ _ (by omega), hT.1 _ _ (by omega), hT.1 _ _ (by omega)] at hO
    obtain ⟨⟨p, hp, hp1⟩, ⟨b, hb, hb0⟩, -, -⟩ := hO
    obtain ⟨q0, q1, q2, q3, q4, q5⟩ := mcs_19 i (by omega)
    obtain ⟨s1, -, s3⟩ := mcs_13 (6 * p + b) (by omega)
    have hk : kin (nI i) 10 = true := nI_kin (by omega) (by decide)
    have hcl : (nI i).toNatClampNeg = i := nI_clamp (by omega)
    have K : ∀ j, j < 313 → kin (nI j) 313 = true := fun j hj => nI_kin hj (by decide)
    have Lc : ∀ j, j < 313 → (nI j).toNatClampNeg = j := fun j hj => nI_clamp (by omega)
    have one : nI i + Int32.ofInt 1 = nI (i + 1) := nI_1 i
    unfold cl_X6_endWeek_2 cl_X12_weekEnds_2 cf_X6_isOpen cf_X9_isDelivered cf_X12_place
    rw [f3, g3, kle_f (fun q => by have := (nI_le_iff (by omega) (by omega)).mp q; omega), a253, kchk_t hk, hcl, one]
    simp only [kle_f (show ¬ nI c3 ≤ nI i from fun q => by have := (nI_le_iff (by omega) (by omega)).mp q; omega), klet_s, show nI (253 + 6 * i) + 1 = nI (254 + 6 * i) from k253 1, show nI (253 + 6 * i) + 2 = nI (255 + 6 * i) from k253 2, show nI (253 + 6 * i) + 3 = nI (256 + 6 * i) from k253 3, show nI (253 + 6 * i) + 4 = nI (257 + 6 * i) from k253 4, show nI (253 + 6 * i) + 5 = nI (258 + 6 * i) from k253 5, K (253 + 6 * i) (by omega), K (254 + 6 * i) (by omega), K (255 + 6 * i) (by omega), K (256 + 6 * i) (by omega), K (257 + 6 * i) (by omega), K (258 + 6 * i) (by omega), Lc (253 + 6 * i) (by omega), Lc (254 + 6 * i) (by omega), Lc (255 + 6 * i) (by omega), Lc (256 + 6 * i) (by omega), Lc (257 + 6 * i) (by omega), Lc (258 + 6 * i) (by omega), kchk_s, kbind_s, hw]
    rw [FRel_atT hT hF q4 (by omega)]
    by_cases h0 : f 23 i = 0
    rotate_left
    · obtain ⟨f1, g1, e1, e2, e3⟩ := lp_weekT hT k u (i + 1) f g hI hF hZ hw (by omega) (by omega)
      exact ⟨f1, g1, by rw [keq_f h0, kbind_s, keq00]; exact e1, fun Y => by rw [keq_f h0]; exact e2 Y, e3⟩
    rw [FRel_atT hT hF q3 (by omega)]
    by_cases hwk : f 22 i ≤ w
    rotate_left
    · obtain ⟨f1, g1, e1, e2, e3⟩ := lp_weekT hT k u (i + 1) f g hI hF hZ hw (by omega) (by omega)
      exact ⟨f1, g1, by rw [keq_t h0, kbind_s, keq10, kchk_t hk, kle_f hwk]; exact e1, fun Y => by rw [keq_t h0, kle_f hwk]; exact e2 Y, e3⟩
    have e0 : f 19 i = nI p := (FRel_atT hT hF q0 (by omega)).symm.trans hp
    have e1 : f 20 i = nI b := (FRel_atT hT hF q1 (by omega)).symm.trans hb
    have kp : kin (nI (6 * p + b)) 48 = true := nI_kin (by omega) (by decide)
    have lp : (nI (6 * p + b)).toNatClampNeg = 6 * p + b := nI_clamp (by omega)
    have A1 : (109 : Int32) + nI (6 * p + b) = nI (109 + (6 * p + b)) := nI_add 109 _
    have A3 : (205 : Int32) + nI (6 * p + b) = nI (205 + (6 * p + b)) := nI_add 205 _
    by_cases hd : f 21 i ≤ f 13 (6 * p + b)
    · obtain ⟨f1, g1, r1, r2, r3, r4, r5, r6, r7, r8⟩ := lp_weekT hT (w := w) k u (i + 1) (kup (kup (kup f 13 (6 * p + b) (f 13 (6 * p + b) - f 21 i)) 15 (6 * p + b) (f 15 (6 * p + b) + f 21 i)) 23 i 1) (kup (kup (kup g 1 (109 + (6 * p + b)) (f 13 (6 * p + b) - f 21 i)) 1 (205 + (6 * p + b)) (f 15 (6 * p + b) + f 21 i)) 1 (257 + 6 * i) 1) (InvC_setT hT (InvC_setT hT (InvC_setT hT hI (j := 109 + (6 * p + b)) (x := f 13 (6 * p + b) - f 21 i) (PL_hi (by omega) (by omega)) (by omega)) (j := 205 + (6 * p + b)) (x := f 15 (6 * p + b) + f 21 i) (PL_hi (by omega) (by omega)) (by omega)) (j := 257 + 6 * i) (x := 1) ⟨by omega, by omega, by omega, by omega, by omega, by omega, by omega, by omega, by omega, by omega, by omega, by omega, fun o ho => ⟨by omega, by omega, by omega, fun _ => ⟨1, rfl, by omega, by omega⟩⟩⟩ (by omega)) (FRel_upT hT _ (FRel_upT hT _ (FRel_upT hT _ hF s1 (by omega)) s3 (by omega)) q4 (by omega)) (kZ_upd (kZ_upd (kZ_upd hZ (by omega)) (by omega)) (by omega)) (by rw [kup_nk (by omega), kup_nk (by omega), kup_nk (by omega)]; exact hw) (by omega) (by omega)
      refine ⟨f1, g1, ?_, fun Y => ?_, r3, r4, r5, fun a ha => by rw [r6 a ha, kup_ne _ _ _ (by omega), kup_ne _ _ _ (by omega), kup_ne _ _ _ (by omega)], fun a ha => by rw [r7 a ha, kup_ne _ _ _ ha, kup_ne _ _ _ ha, kup_ne _ _ _ ha], fun j hj => by rw [r8 j hj, kup_nk (by omega), kup_nk (by omega), kup_nk (by omega)]⟩
      · rw [keq_t h0, kbind_s, keq10, kchk_t hk, kle_t hwk, kchk_t hk, kchk_t hk, kchk_t hk, e0, e1, pl1, kchk_t kp, lp, kle_t hd, kchk_t kp, kchk_t kp, kmem_s, kchk_t kp, kchk_t kp, kmem_s, kbind_s, keq10, kchk_t hk, kmem_s]
        exact r1
      · rw [keq_t h0, kle_t hwk, hp, hb, pl2, A1, A3, kchk_t (K (109 + (6 * p + b)) (by omega)), Lc (109 + (6 * p + b)) (by omega), Lc (205 + (6 * p + b)) (by omega), FRel_atT hT hF s1 (by omega), FRel_atT hT hF q2 (by omega), klt_f (Int32.not_lt.mpr hd), kchk_t (K (109 + (6 * p + b)) (by omega)), kchk_t (K (109 + (6 * p + b)) (by omega)), kmem_s, kchk_t (K (205 + (6 * p + b)) (by omega)), kchk_t (K (205 + (6 * p + b)) (by omega)), kup_nk (j := 205 + (6 * p + b)) (by omega), kup_nk (j := 255 + 6 * i) (by omega), FRel_atT hT hF s3 (by omega), FRel_atT hT hF q2 (by omega), kmem_s, kmem_s]
        exact r2 Y
    · obtain ⟨f1, g1, r1, r2, r3, r4, r5, r6, r7, r8⟩ := lp_weekT hT (w := w) k u (i + 1) (kup f 24 i (f 24 i + 1)) (kup g 1 (258 + 6 * i) (f 24 i + 1)) (InvC_setT hT hI (j := 258 + 6 * i) (x := f 24 i + 1) ⟨by omega, by omega, by omega, by omega, by omega, by omega, by omega, by omega, by omega, by omega, by omega, by omega, fun o ho => ⟨by omega, by omega, by omega, by omega⟩⟩ (by omega)) (FRel_upT hT _ hF q5 (by omega)) (kZ_upd hZ (by omega)) (by rw [kup_nk (by omega)]; exact hw) (by omega) (by omega)
      refine ⟨f1, g1, ?_, fun Y => ?_, r3, r4, r5, fun a ha => by rw [r6 a ha, kup_ne _ _ _ (by omega)], fun a ha => by rw [r7 a ha, kup_ne _ _ _ ha], fun j hj => by rw [r8 j hj, kup_nk (by omega)]⟩
      · rw [keq_t h0, kbind_s, keq10, kchk_t hk, kle_t hwk, kchk_t hk, kchk_t hk, kchk_t hk, e0, e1, pl1, kchk_t kp, lp, kle_f hd, kbind_s, keq00, kchk_t hk, kchk_t hk, kmem_s]
        exact r1
      · rw [keq_t h0, kle_t hwk, hp, hb, pl2, A1, kchk_t (K (109 + (6 * p + b)) (by omega)), Lc (109 + (6 * p + b)) (by omega), FRel_atT hT hF s1 (by omega), FRel_atT hT hF q2 (by omega), klt_t (Int32.not_le.mp hd), FRel_atT hT hF q5 (by omega), kmem_s]
        exact r2 Y
