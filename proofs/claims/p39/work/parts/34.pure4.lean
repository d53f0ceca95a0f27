/-! the counts grow
-/
theorem InvC_c0 {B c0 c1 c2 c3 : Nat} {v : Nat → Int32} (h : InvC B v c0 c1 c2 c3) (hc : c0 + 1 ≤ 6) : InvC B (upd v 0 (nI (c0 + 1))) (c0 + 1) c1 c2 c3 := by
  obtain ⟨⟨a0, a1, a2, a3, a4, a5, a6, a7⟩, ⟨b4, b5, b8, b12, b13, b14, b15⟩, ⟨d1, d2, d3, d4⟩, e, m, n⟩ := h
  refine ⟨⟨upd_eq, by rw [upd_ne (by omega)]; exact a1, by rw [upd_ne (by omega)]; exact a2, by rw [upd_ne (by omega)]; exact a3, hc, a5, a6, a7⟩, ⟨by rw [upd_ne (by omega)]; exact b4, ?_, by rw [upd_ne (by omega)]; exact b8, by rw [upd_ne (by omega)]; exact b12, by rw [upd_ne (by omega)]; exact b13, by rw [upd_ne (by omega)]; exact b14, by rw [upd_ne (by omega)]; exact b15⟩, ⟨fun k hk => by rw [upd_ne (by omega)]; exact d1 k hk, fun k hk => by rw [upd_ne (by omega)]; exact d2 k hk, fun k hk => by rw [upd_ne (by omega)]; exact d3 k hk, fun k hk => by rw [upd_ne (by omega)]; exact d4 k hk⟩, fun q hq => fam_upd (e q hq) (by omega), fun d hd => ?_, fun o ho => ?_⟩
  · rw [upd_ne (by omega)]
    exact b5.imp id (fun h => rl_mono h (by omega))
  · rw [upd_ne (by omega), upd_ne (by omega), upd_ne (by omega)]
    exact (m d hd).imp id (fun h => ⟨rl_mono h.1 (by omega), h.2⟩)
  · rw [upd_ne (by omega), upd_ne (by omega), upd_ne (by omega), upd_ne (by omega)]
    exact ⟨(n o ho).1, rl_mono (n o ho).2.1 (by omega), (n o ho).2.2⟩
theorem fam_mono {v : Nat → Int32} {c1 c q : Nat} (h : fam v c1 q) (hc : c1 ≤ c) : fam v c q := by
  obtain ⟨n, h1, h2, h3, h4, h5, h6, h7⟩ := h
  exact ⟨n, h1, h2, h3, h4, h5, fun i hi => ⟨rl_mono (h6 i hi).1 hc, (h6 i hi).2⟩, h7⟩
theorem InvC_c1 {B c0 c1 c2 c3 : Nat} {v : Nat → Int32} (h : InvC B v c0 c1 c2 c3) (hc : c1 + 1 ≤ 8) (hs : rg (v (22 + c1)) 1 50) : InvC B (upd v 1 (nI (c1 + 1))) c0 (c1 + 1) c2 c3 := by
  obtain ⟨⟨a0, a1, a2, a3, a4, a5, a6, a7⟩, ⟨b4, b5, b8, b12, b13, b14, b15⟩, ⟨d1, d2, d3, d4⟩, e, m, n⟩ := h
  refine ⟨⟨by rw [upd_ne (by omega)]; exact a0, upd_eq, by rw [upd_ne (by omega)]; exact a2, by rw [upd_ne (by omega)]; exact a3, a4, hc, a6, a7⟩, ⟨by rw [upd_ne (by omega)]; exact b4, by rw [upd_ne (by omega)]; exact b5, by rw [upd_ne (by omega)]; exact b8, by rw [upd_ne (by omega)]; exact b12, by rw [upd_ne (by omega)]; exact b13, by rw [upd_ne (by omega)]; exact b14, by rw [upd_ne (by omega)]; exact b15⟩, ⟨fun k hk => by rw [upd_ne (by omega)]; exact d1 k hk, fun k hk => by rw [upd_ne (by omega)]; exact d2 k hk, fun k hk => ?_, fun k hk => by rw [upd_ne (by omega)]; exact d4 k hk⟩, fun q hq => fam_upd (fam_mono (e q hq) (by omega)) (by omega), fun d hd => ?_, fun o ho => ?_⟩
  · rw [upd_ne (by omega)]
    by_cases hk1 : k = c1
    · rw [hk1]
      exact hs
    · exact d3 k (by omega)
  · rw [upd_ne (by omega), upd_ne (by omega), upd_ne (by omega)]
    exact m d hd
  · rw [upd_ne (by omega), upd_ne (by omega), upd_ne (by omega), upd_ne (by omega)]
    exact ⟨rl_mono (n o ho).1 (by omega), (n o ho).2⟩
theorem InvC_c3 {B c0 c1 c2 c3 : Nat} {v : Nat → Int32} (h : InvC B v c0 c1 c2 c3) (hc : c3 + 1 ≤ 10) (hs : rl (v (253 + 6 * c3)) c1 ∧ rl (v (254 + 6 * c3)) c0 ∧ rg (v (255 + 6 * c3)) 1 20 ∧ rg (v (257 + 6 * c3)) 0 2) : InvC B (upd v 3 (nI (c3 + 1))) c0 c1 c2 (c3 + 1) := by
  obtain ⟨⟨a0, a1, a2, a3, a4, a5, a6, a7⟩, ⟨b4, b5, b8, b12, b13, b14, b15⟩, ⟨d1, d2, d3, d4⟩, e, m, n⟩ := h
  refine ⟨⟨by rw [upd_ne (by omega)]; exact a0, by rw [upd_ne (by omega)]; exact a1, by rw [upd_ne (by omega)]; exact a2, upd_eq, a4, a5, a6, hc⟩, ⟨by rw [upd_ne (by omega)]; exact b4, by rw [upd_ne (by omega)]; exact b5, by rw [upd_ne (by omega)]; exact b8, by rw [upd_ne (by omega)]; exact b12, by rw [upd_ne (by omega)]; exact b13, by rw [upd_ne (by omega)]; exact b14, by rw [upd_ne (by omega)]; exact b15⟩, ⟨fun k hk => by rw [upd_ne (by omega)]; exact d1 k hk, fun k hk => by rw [upd_ne (by omega)]; exact d2 k hk, fun k hk => by rw [upd_ne (by omega)]; exact d3 k hk, fun k hk => by rw [upd_ne (by omega)]; exact d4 k hk⟩, fun q hq => fam_upd (e q hq) (by omega), fun d hd => ?_, fun o ho => ?_⟩
  · rw [upd_ne (by omega), upd_ne (by omega), upd_ne (by omega)]
    exact m d hd
  · rw [upd_ne (by omega), upd_ne (by omega), upd_ne (by omega), upd_ne (by omega)]
    by_cases h : o = c3
    · rw [h]
      exact hs
    · exact n o (by omega)
theorem mcs_2 : ∀ k, k < 6 → mc (16 + k) = (2, k) ∧ dj (16 + k) = true := by decide
theorem mcs_3 : ∀ k, k < 8 → mc (22 + k) = (3, k) ∧ dj (22 + k) = true := by decide
theorem mcs_7 : ∀ k, k < 4 → mc (12 + k) = (7, k) ∧ dj (12 + k) = true := by decide
theorem mcs_16 : ∀ k, k < 8 → mc (30 + k) = (16, k) ∧ dj (30 + k) = true := by decide
theorem mcs_17 : ∀ k, k < 8 → mc (38 + k) = (17, k) ∧ dj (38 + k) = true := by decide
theorem mcs_9 : ∀ d, d < 3 → (mc (100 + 3 * d) = (9, d) ∧ dj (100 + 3 * d) = true) ∧ (mc (101 + 3 * d) = (10, d) ∧ dj (101 + 3 * d) = true) ∧ (mc (102 + 3 * d) = (11, d) ∧ dj (102 + 3 * d) = true) := by decide
theorem mcs_13 : ∀ k, k < 48 → (mc (109 + k) = (13, k) ∧ dj (109 + k) = true) ∧ (mc (157 + k) = (14, k) ∧ dj (157 + k) = true) ∧ (mc (205 + k) = (15, k) ∧ dj (205 + k) = true) := by decide +kernel
theorem mcs_19 : ∀ o, o < 10 → (mc (253 + 6 * o) = (19, o) ∧ dj (253 + 6 * o) = true) ∧ (mc (254 + 6 * o) = (20, o) ∧ dj (254 + 6 * o) = true) ∧ (mc (255 + 6 * o) = (21, o) ∧ dj (255 + 6 * o) = true) ∧ (mc (256 + 6 * o) = (22, o) ∧ dj (256 + 6 * o) = true) ∧ (mc (257 + 6 * o) = (23, o) ∧ dj (257 + 6 * o) = true) ∧ (mc (258 + 6 * o) = (24, o) ∧ dj (258 + 6 * o) = true) := by decide +kernel
theorem FRel_at {F : Nat → Nat → Int32} {v : Nat → Int32} {j a k : Nat} (h : FRel F v) (hm : mc j = (a, k) ∧ dj j = true) : v j = F a k := by
  rw [h.1 j hm.2, hm.1]
theorem FRel_up {F : kMem} {v : Nat → Int32} {j a k : Nat} (x : Int32) (h : FRel F v) (hm : mc j = (a, k) ∧ dj j = true) : FRel (kup F a k x) (upd v j x) := FRel_set h hm.2 hm.1
/-! the cores -/
section KS
variable {ρ : Type} {x y : Int32} {X X1 X2 : Option ρ} {h : kMem}
theorem kchk_s : kchk true X = X := rfl
theorem kmem_s {Y : kMem → Option ρ} : kmem h Y = Y h := rfl
theorem klet_s {Y : Int32 → Option ρ} : klet x Y = Y x := rfl
theorem klt_t (h : x < y) : klt x y X1 X2 = X1 := if_pos h
theorem klt_f (h : ¬ x < y) : klt x y X1 X2 = X2 := if_neg h
theorem kle_t (h : x ≤ y) : kle x y X1 X2 = X1 := if_pos h
theorem kle_f (h : ¬ x ≤ y) : kle x y X1 X2 = X2 := if_neg h
theorem keq_t (h : x = y) : keq x y X1 X2 = X1 := if_pos h
theorem keq_f (h : ¬ x = y) : keq x y X1 X2 = X2 := if_neg h
theorem kchk_t {b : Bool} (h : b = true) : kchk b X = X := by rw [h]; rfl
end KS
set_option maxRecDepth 20000 in
theorem s_colour (x : Int32) : kSim 0 (fun _ _ => True) (fun f => cf_X0_addColour f x) (fun g => cf_X12_doesColour g x) := by
  intro B f g hB hN hR _
  dsimp only
  obtain ⟨hF, ⟨c0, c1, c2, c3, hI⟩, hZ⟩ := id hN
  have g0 : g 1 0 = nI c0 := hI.1.1
  have f0 : f 1 0 = nI c0 := (FRel_at hF (j := 0) (a := 1) (k := 0) (by decide)).symm.trans g0
  have hc : c0 ≤ 6 := hI.1.2.2.2.2.1
  by_cases h : inb x 0 9
  · by_cases h6 : c0 = 6
    · refine sim_no (a := 3) (d := 0) hN ?_ ?_
      · unfold cf_X0_addColour
        rw [c_in1 h, kbind_s]
        unfold keq klt
        rw [if_neg (by decide), f0, if_neg (by rw [h6]; decide), c_refuse]
        rfl
      · unfold cf_X12_doesColour
        rw [m_in1 h, kbind_s]
        unfold keq
        rw [if_neg (by decide), g0, if_pos (by rw [h6]; rfl), m_refuse]
        rfl
    · have e6 : c0 < 6 := by omega
      have hx : rg x 0 9 := (inb_rg (A := 0) (B := 9) (by decide) (by decide)).mp h
      refine sim_yes (r := nI c0) (f1 := kup (kup f 2 c0 x) 1 0 (nI (c0 + 1))) (g1 := kup (kup g 1 (16 + c0) x) 1 0 (nI (c0 + 1))) ?_ ?_ (Fr1_tr (Fr1_k (by omega)) (Fr1_k (by omega))) (Fr2_tr (Fr2_k (by omega)) (Fr2_k (by omega))) (Reas_fr hR rfl rfl rfl rfl rfl rfl) ⟨FRel_up _ (FRel_up _ hF (mcs_2 c0 e6)) (j := 0) (by decide), ⟨c0 + 1, c1, c2, c3, InvC_c0 (InvC_set hI (j := 16 + c0) (x := x) ?_) (by omega)⟩, kZ_upd (kZ_upd hZ (by omega)) (by omega)⟩ (nI_not_neg (by omega))
      · unfold cf_X0_addColour
        rw [c_in1 h, kbind_s]
        unfold keq klt
        rw [if_neg (by decide), f0, if_pos (show nI c0 < 6 from (nI_lt_iff (b := 6) (by omega) (by omega)).mpr e6), nI_kin e6 (by decide), nI_clamp (by omega)]
        refine (show _ = some ((f 1 0 + 1) - 1, kup (kup f 2 c0 x) 1 0 (f 1 0 + 1)) from rfl).trans ?_
        rw [f0, nI_1, nI_pred]
      · unfold cf_X12_doesColour
        rw [m_in1 h, kbind_s]
        unfold keq
        rw [if_neg (by decide), g0, if_neg (show ¬ nI c0 = 6 from fun e => h6 (nI_inj (b := 6) (by omega) (by decide) e)), show (16 : Int32) + nI c0 = nI (16 + c0) from nI_add 16 c0, nI_kin (by omega) (by decide), nI_clamp (by omega)]
        have e9 : (kup g 1 (16 + c0) x) 1 0 = nI c0 := by rw [kup_nk (by omega)]; exact g0
        rw [kchk_s, kmem_s, e9, nI_1]
        rfl
      · exact ⟨by omega, by omega, by omega, by omega, by omega, by omega, by omega, by omega, fun _ _ => hx, by omega, by omega, by omega, fun o ho => ⟨by omega, by omega, by omega, by omega⟩⟩
  · refine sim_no (a := 2) (d := 0) hN ?_ ?_
    · unfold cf_X0_addColour
      rw [c_in0 h, kbind_s]
      unfold keq
      rw [if_pos rfl, c_refuse]
      rfl
    · unfold cf_X12_doesColour
      rw [m_in0 h, kbind_s]
      unfold keq
      rw [if_pos rfl, m_refuse]
      rfl
theorem kp_colour : kP_colour kR := fun N f g x hN hR => kchange (s_colour x) (by decide) hN hR (fun _ _ _ _ => trivial)
set_option maxRecDepth 20000 in
theorem s_part (x : Int32) : kSim 0 (fun _ _ => True) (fun f => cf_X0_addPart f x) (fun g => cf_X12_doesPart g x) := by
  intro B f g hB hN hR _
  dsimp only
  obtain ⟨hF, ⟨c0, c1, c2, c3, hI⟩, hZ⟩ := id hN
  have g0 : g 1 1 = nI c1 := hI.1.2.1
  have f0 : f 1 1 = nI c1 := (FRel_at hF (j := 1) (a := 1) (k := 1) (by decide)).symm.trans g0
  have hc : c1 ≤ 8 := hI.1.2.2.2.2.2.1
  by_cases h : inb x 1 50
  · by_cases h6 : c1 = 8
    · refine sim_no (a := 3) (d := 0) hN ?_ ?_
      · unfold cf_X0_addPart
        rw [c_in1 h, kbind_s, keq_f (by decide), f0, klt_f (by rw [h6]; decide), c_refuse]
        rfl
      · unfold cf_X12_doesPart
        rw [m_in1 h, kbind_s, keq_f (by decide), g0, keq_t (by rw [h6]; rfl), m_refuse]
        rfl
    · have e6 : c1 < 8 := by omega
      have hx : rg x 1 50 := (inb_rg (A := 1) (B := 50) (by decide) (by decide)).mp h
      refine sim_yes (r := nI c1) (f1 := kup (kup f 3 c1 x) 1 1 (nI (c1 + 1))) (g1 := kup (kup g 1 (22 + c1) x) 1 1 (nI (c1 + 1))) ?_ ?_ (Fr1_tr (Fr1_k (by omega)) (Fr1_k (by omega))) (Fr2_tr (Fr2_k (by omega)) (Fr2_k (by omega))) (Reas_fr hR rfl rfl rfl rfl rfl rfl) ⟨FRel_up _ (FRel_up _ hF (mcs_3 c1 e6)) (j := 1) (by decide), ⟨c0, c1 + 1, c2, c3, InvC_c1 (InvC_set hI (j := 22 + c1) (x := x) ?_) (by omega) ?_⟩, kZ_upd (kZ_upd hZ (by omega)) (by omega)⟩ (nI_not_neg (by omega))
      · unfold cf_X0_addPart
        rw [c_in1 h, kbind_s, keq_f (by decide), f0, klt_t (show nI c1 < 8 from (nI_lt_iff (b := 8) (by omega) (by omega)).mpr e6), kchk_t (nI_kin e6 (by decide)), nI_clamp (by omega)]
        refine (show _ = some ((f 1 1 + 1) - 1, kup (kup f 3 c1 x) 1 1 (f 1 1 + 1)) from rfl).trans ?_
        rw [f0, nI_1, nI_pred]
      · unfold cf_X12_doesPart
        rw [m_in1 h, kbind_s, keq_f (by decide), g0, keq_f (show ¬ nI c1 = 8 from fun e => h6 (nI_inj (b := 8) (by omega) (by decide) e)), show (22 : Int32) + nI c1 = nI (22 + c1) from nI_add 22 c1, kchk_t (nI_kin (by omega) (by decide)), nI_clamp (by omega)]
        have e9 : (kup g 1 (22 + c1) x) 1 1 = nI c1 := by rw [kup_nk (by omega)]; exact g0
        rw [kmem_s, e9, nI_1]
        rfl
      · exact ⟨by omega, by omega, by omega, by omega, by omega, by omega, by omega, by omega, by omega, fun _ _ => ⟨rg_mono hx (by omega) (by omega), by omega⟩, by omega, by omega, fun o ho => ⟨by omega, by omega, by omega, by omega⟩⟩
      · rw [kup_at]
        exact hx
  · refine sim_no (a := 2) (d := 0) hN ?_ ?_
    · unfold cf_X0_addPart
      rw [c_in0 h, kbind_s, keq_t rfl, c_refuse]
      rfl
    · unfold cf_X12_doesPart
      rw [m_in0 h, kbind_s, keq_t rfl, m_refuse]
      rfl
theorem kp_part : kP_part kR := fun N f g x hN hR => kchange (s_part x) (by decide) hN hR (fun _ _ _ _ => trivial)
/-! the least and the most of a setting -/
theorem set_lo {k : Nat} (hk : k < 4) : kst 1 k = (if nI k = 0 then 60 else 0) := by
  rcases (show k = 0 ∨ k = 1 ∨ k = 2 ∨ k = 3 by omega) with rfl | rfl | rfl | rfl <;> rfl
theorem set_eq {g : kMem} {x v : Int32} : cf_X12_doesSet g x v = cj_X12_doesSet_43 g x v (if x = 0 then 60 else 0) (if x = 0 then 9999 else if x = 1 then 999 else if x = 2 then 5 else 99) := by
  unfold cf_X12_doesSet cj_X12_doesSet_10 keq
  by_cases h0 : x = 0
  · simp only [if_pos h0]
  · by_cases h1 : x = 1
    · simp only [if_neg h0, if_pos h1]
    · by_cases h2 : x = 2
      · simp only [if_neg h0, if_neg h1, if_pos h2]
      · simp only [if_neg h0, if_neg h1, if_neg h2]
set_option maxRecDepth 20000 in
theorem s_set (x v : Int32) : kSim 0 (fun _ _ => True) (fun f => cf_X0_changeSetting f x v) (fun g => cf_X12_doesSet g x v) := by
  intro B f g hB hN hR _
  dsimp only
  obtain ⟨hF, ⟨c0, c1, c2, c3, hI⟩, hZ⟩ := id hN
  rw [set_eq]
  by_cases h : inb x 0 3
  · obtain ⟨k, rfl, -, hk3⟩ := (inb_rg (A := 0) (B := 3) (by decide) (by decide)).mp h
    have hk : k < 4 := by omega
    have lo : kst 1 k = (if nI k = 0 then 60 else 0) := by rcases (show k = 0 ∨ k = 1 ∨ k = 2 ∨ k = 3 by omega) with rfl | rfl | rfl | rfl <;> rfl
    have hi : kst 2 k = (if nI k = 0 then 9999 else if nI k = 1 then 999 else if nI k = 2 then 5 else 99) := by rcases (show k = 0 ∨ k = 1 ∨ k = 2 ∨ k = 3 by omega) with rfl | rfl | rfl | rfl <;> rfl
    rw [← lo, ← hi]
    have e7 : g 1 (12 + k) = f 7 k := FRel_at hF (mcs_7 k hk)
    by_cases hv : inb v (kst 1 k) (kst 2 k)
    · have hr : rg (f 7 k) 0 9999 := by
        rw [← e7]
        obtain ⟨-, ⟨-, -, -, b12, b13, b14, b15⟩, -⟩ := hI
        rcases (show k = 0 ∨ k = 1 ∨ k = 2 ∨ k = 3 by omega) with rfl | rfl | rfl | rfl
        · exact rg_mono b12 (by omega) (by omega)
        · exact rg_mono b13 (by omega) (by omega)
        · exact rg_mono b14 (by omega) (by omega)
        · exact rg_mono b15 (by omega) (by omega)
      refine sim_yes (r := f 7 k) (f1 := kup f 7 k v) (g1 := kup g 1 (12 + k) v) ?_ ?_ (Fr1_k (by omega)) (Fr2_k (by omega)) (Reas_fr hR rfl rfl rfl rfl rfl rfl) ⟨FRel_up _ hF (mcs_7 k hk), ⟨c0, c1, c2, c3, InvC_set hI (j := 12 + k) (x := v) ?_⟩, kZ_upd hZ (by omega)⟩ ?_
      · unfold cf_X0_changeSetting
        rw [c_in1 h, kbind_s, keq_f (by decide), kchk_t (nI_kin hk (by decide)), kchk_t (nI_kin hk (by decide)), nI_clamp (by omega), c_in1 hv, kbind_s, keq_f (by decide), kchk_t (nI_kin hk (by decide))]
        rw [klet_s, kchk_t (nI_kin hk (by decide)), kmem_s]
      · unfold cj_X12_doesSet_43
        rw [m_in1 h, kbind_s, keq_f (by decide), m_in1 hv, kbind_s, keq_f (by decide), show (12 : Int32) + nI k = nI (12 + k) from nI_add 12 k, kchk_t (nI_kin (by omega) (by decide)), nI_clamp (by omega), klet_s, kchk_t (nI_kin (by omega) (by decide)), kmem_s, e7]
        rfl
      · rcases (show k = 0 ∨ k = 1 ∨ k = 2 ∨ k = 3 by omega) with rfl | rfl | rfl | rfl
        · exact ⟨by omega, by omega, by omega, by omega, fun _ => (inb_rg (A := 60) (B := 9999) (by decide) (by decide)).mp hv, by omega, by omega, by omega, by omega, by omega, by omega, by omega, fun o ho => ⟨by omega, by omega, by omega, by omega⟩⟩
        · exact ⟨by omega, by omega, by omega, by omega, by omega, fun _ => (inb_rg (A := 0) (B := 999) (by decide) (by decide)).mp hv, by omega, by omega, by omega, by omega, by omega, by omega, fun o ho => ⟨by omega, by omega, by omega, by omega⟩⟩
        · exact ⟨by omega, by omega, by omega, by omega, by omega, by omega, fun _ => (inb_rg (A := 0) (B := 5) (by decide) (by decide)).mp hv, by omega, by omega, by omega, by omega, by omega, fun o ho => ⟨by omega, by omega, by omega, by omega⟩⟩
        · exact ⟨by omega, by omega, by omega, by omega, by omega, by omega, by omega, fun _ => (inb_rg (A := 0) (B := 99) (by decide) (by decide)).mp hv, by omega, by omega, by omega, by omega, fun o ho => ⟨by omega, by omega, by omega, by omega⟩⟩
      · obtain ⟨n, h1, -, h2⟩ := hr
        rw [h1]
        exact nI_not_neg (by omega)
    · refine sim_no (a := 2) (d := 0) hN ?_ ?_
      · unfold cf_X0_changeSetting
        rw [c_in1 h, kbind_s, keq_f (by decide), kchk_t (nI_kin hk (by decide)), kchk_t (nI_kin hk (by decide)), nI_clamp (by omega), c_in0 hv, kbind_s, keq_t rfl]
        unfold cj_X0_changeSetting_26
        rw [c_refuse]
        rfl
      · unfold cj_X12_doesSet_43
        rw [m_in1 h, kbind_s, keq_f (by decide), m_in0 hv, kbind_s, keq_t rfl]
        rfl
  · refine sim_no (a := 2) (d := 0) hN ?_ ?_
    · unfold cf_X0_changeSetting
      rw [c_in0 h, kbind_s, keq_t rfl]
      unfold cj_X0_changeSetting_26
      rw [c_refuse]
      rfl
    · unfold cj_X12_doesSet_43
      rw [m_in0 h, kbind_s, keq_t rfl]
      rfl
theorem kp_set : kP_set kR := fun N f g x v hN hR => kchange (s_set x v) (by decide) hN hR (fun _ _ _ _ => trivial)
