/-! family: the call as a whole -/
theorem p_begin2 {B : Nat} {f g : kMem} (hN : Now B f g) (hR : Reas f g) (hH : Hist B f g) (hS : Snap B f g) (hT : Txt f g) (h2 : cut (g 2) = cut (g 1)) : ∃ f1, cf_X5_begin f = some (0, f1) ∧ Now B f1 g ∧ Reas f1 g ∧ (∃ o c, Pend B f1 g o c) ∧ ∀ a, 275 ≤ a → f1 a = f a := by
  obtain ⟨o, c, h1, h2', h3, h4, h5, h6⟩ := hH
  have h9 : (o + c) % 9 < 9 := Nat.mod_lt _ (by decide)
  refine ⟨_, c_begin h1 h2' h3 h4, ⟨FRel_cells (fun c hc => kfc_fl h9 hc) hN.1, hN.2.1, hN.2.2⟩, ?_, ⟨o, c, ⟨h1, h2', ?_, ?_, h5, fun i hi => ?_⟩, ⟨?_, ?_⟩, ?_, ?_⟩, fun a h => kfc_hi h9 h⟩
  · obtain ⟨r, hr1, hr2, hr3, hr4⟩ := hR
    refine ⟨r, hr1, by rw [kfc_hi h9 (by decide)]; exact hr2, hr3, fun i hi => ?_⟩
    rw [kfc_hi h9 (by decide), kfc_hi h9 (by decide)]
    exact hr4 i hi
  · rw [kfc_hi h9 (by decide)]; exact h3
  · rw [kfc_hi h9 (by decide)]; exact h4
  · exact ⟨FRel_cells (fun q hq => kfc_rn (mod_ne hi h2') hq) (h6 i hi).1, (h6 i hi).2⟩
  · rw [h2, cut_Z hN.2.2]
    exact FRel_cells (fun q hq => kfc_rm hq) hN.1
  · rw [h2, cut_Z hN.2.2]
    exact hN.2.1
  · exact Snap_fr hS (fun a a1 a2 => kfc_sn a2) (by rw [kfc_hi h9 (by decide)]) rfl rfl
  · exact Txt_fr hT (kfc_hi h9 (by decide)) (kfc_hi h9 (by decide)) rfl rfl rfl
def kR5 (B : Nat) (f g : kMem) : Prop := Now B f g ∧ Reas f g ∧ Hist B f g ∧ Snap B f g ∧ Txt f g
theorem tx_at {B : Nat} {f g fb gd : kMem} (h : kR5 B f g) (hf : ∀ a, a ≠ 280 → a < 282 ∨ 288 ≤ a → fb a = f a) (hg : ∀ a, a ≠ 0 → a ≠ 2 → a ≠ 8 → gd a = g a) (h0 : ∀ k, k ≠ 18 → k ≠ 8 → k ≠ 7 → k ≠ 9 → gd 0 k = g 0 k) (hl : fb 280 2 = 0) (hl' : gd 0 7 = 0) (hx : fb 280 3 = gd 0 9) : kR5 B fb gd := by
  obtain ⟨h1, h2, ⟨o, c, h3⟩, h4, h5⟩ := h
  exact ⟨Now_fr h1 (fun a ha => hf a (by omega) (by omega)) (hg 1 (by decide) (by decide) (by decide)), Reas_fr h2 (hf 277 (by decide) (by decide)) (hf 278 (by decide) (by decide)) (hf 279 (by decide) (by decide)) (h0 10 (by decide) (by decide) (by decide) (by decide)) (hg 6 (by decide) (by decide) (by decide)) (hg 7 (by decide) (by decide) (by decide)), ⟨o, c, HistC_fr h3 (fun a a1 a2 => hf a (by omega) (by omega)) (hf 275 (by decide) (by decide)) (h0 3 (by decide) (by decide) (by decide) (by decide)) (hg 3 (by decide) (by decide) (by decide))⟩, Snap_fr h4 (fun a a1 a2 => hf a (by omega) (by omega)) (by rw [hf 291 (by decide) (by decide)]) (h0 5 (by decide) (by decide) (by decide) (by decide)) (hg 4 (by decide) (by decide) (by decide)), ⟨0, by omega, hl, hl', fun i hi => absurd hi (by omega), hx⟩⟩
theorem kR5_up {N : Nat} {f g : kMem} (h : kR5 (N * 59778) f g) : kR (N + 1) f g := kR_mono _ _ _ h
theorem kR5_thr {B : Nat} {f g : kMem} {t : Int32} (h : kR5 B f g) : kR5 B f (kup g 0 18 t) := by
  obtain ⟨h1, h2, ⟨o, c, h3⟩, h4, h5⟩ := h
  exact ⟨Now_fr h1 (fun _ _ => rfl) rfl, Reas_fr h2 rfl rfl rfl rfl rfl rfl, ⟨o, c, HistC_fr h3 (fun _ _ _ => rfl) rfl rfl rfl⟩, Snap_fr h4 (fun _ _ _ => rfl) rfl rfl rfl, Txt_fr h5 rfl rfl rfl rfl rfl⟩
/-- both keep what was done -/
theorem p_keep2 {N B1 : Nat} {f g : kMem} {o c : Nat} (hP : Pend (N * 59778) f g o c) (hN : Now B1 f g) (hR : Reas f g) (hB : B1 ≤ (N + 1) * 59778) : ∃ f1 g1 r r2, cf_X5_keep f = some (r, f1) ∧ cf_X12_keeps g = some (r2, g1) ∧ (∀ a, a ≠ 275 → f1 a = f a) ∧ (∀ k, k ≠ 3 → g1 0 k = g 0 k) ∧ kR (N + 1) f1 g1 := by
  obtain ⟨⟨r5, f3⟩, e5, ⟨r6, g3⟩, e6, k1, k2, k3, k4, k5, k6⟩ := p_keep (B1 := (N + 1) * 59778) hP (by omega)
  dsimp only at k1 k2 k3 k4 k5 k6
  refine ⟨f3, g3, r5, r6, e5, e6, k1, k3, ⟨?_, ?_, ?_⟩, ?_, k4, k5, k6⟩
  · show FRel f3 (g3 1)
    rw [k2 1 (by decide) (by decide)]
    exact FRel_cells (fun c hc => k1 c (by omega)) hN.1
  · show Inv _ (g3 1)
    rw [k2 1 (by decide) (by decide)]
    exact Inv_mono hN.2.1 hB
  · show kZ (g3 1)
    rw [k2 1 (by decide) (by decide)]
    exact hN.2.2
  · exact Reas_fr hR (k1 277 (by decide)) (k1 278 (by decide)) (k1 279 (by decide)) (k3 10 (by decide)) (k2 6 (by decide) (by decide)) (k2 7 (by decide) (by decide))
theorem kend {M : Nat} {E : kMem → kMem → Prop} {cC cM : kMem → Option (Int32 × kMem)} (hs : kSim M E cC cM) (hM : M ≤ 59778) {N : Nat} {f g : kMem} (hN : N < 512) (h5 : kR5 (N * 59778) f g) (h2 : cut (g 2) = cut (g 1)) (h18 : g 0 18 = 0) (hE : ∀ f1 : kMem, (∀ a, 275 ≤ a → f1 a = f a) → E f1 g) :
    kOk [2, 4] (kbind (cf_X5_begin f) (fun _ g6 => kbind (cC g6) (fun r7 g8 => kxbind (cx_X11_settled g8 r7) (fun r9 g10 => some (0, r9, g10))))) (kbind (cM g) (fun r11 g12 => keq r11 0 (kbind (cf_X12_raises g12 2) (fun r15 g16 => some (r15, g16))) (kbind (cf_X12_keeps g12) (fun r13 g14 => some ((g14 0 13), g14))))) (kR (N + 1)) := by
  obtain ⟨hNw, hRe, hH, hS, hT⟩ := h5
  obtain ⟨f1, e1, b1, b2, ⟨o, c, bP⟩, bf⟩ := p_begin2 hNw hRe hH hS hT h2
  obtain ⟨⟨r3, f2⟩, e3, ⟨r4, g2⟩, e4, d1, d2, d3, d4, d5⟩ := hs (N * 59778) f1 g (by omega) b1 b2 (hE f1 bf)
  dsimp only at d1 d2 d3 d4 d5
  have bP2 := Pend_fr bP d1 d2
  have h18' : g2 0 18 = 0 := by rw [d2.2 18 (by decide) (by decide)]; exact h18
  rw [e1, kbind_s, e3, e4, kbind_s, kbind_s]
  rcases d5 with ⟨h1, h2, -⟩ | ⟨h1, h2, h3⟩
  · subst h1
    subst h2
    refine ⟨(4, 0, f2), 0, kup g2 0 18 2, rfl, rfl, Or.inr (show 4 ∈ [2, 4] by decide), kup_at, (fun h => absurd h (show ¬ (4 = 0) by decide)), ?_⟩
    obtain ⟨q1, -, q2, q3⟩ := bP2
    exact ⟨⟨d4.1, Inv_mono d4.2.1 (by omega), d4.2.2⟩, Reas_fr d3 rfl rfl rfl rfl rfl rfl, Hist_mono ⟨o, c, q1⟩ (by omega), Snap_mono q2 (by omega), q3⟩
  · subst h2
    obtain ⟨f3, g3, r5, r6, e5, e6, k1, k3, k4⟩ := p_keep2 bP2 d4 d3 (by omega)
    refine ⟨(0, r3, f3), r3, g3, ?_, ?_, Or.inl rfl, ?_, fun _ => rfl, k4⟩
    · have e : cx_X11_settled f2 r3 = some (0, r3, f3) := by
        unfold cx_X11_settled keq
        rw [if_neg (fun e => h1 (by rw [e]; decide)), e5]
        rfl
      rw [e]
      rfl
    · rw [keq_f (by decide), e6, kbind_s, k3 13 (by decide), h3]
    · show g3 0 18 = 0
      rw [k3 18 (by decide)]
      exact h18'
theorem m_zero {Y : kMem → Option (Int32 × kMem)} : ∀ k u i (g : kMem), i + k = 9 → k < u → ∃ g1, cl_X12_family_11 Y u g (nI i) = Y g1 ∧ (∀ a, a ≠ 8 → g1 a = g a) ∧ (∀ j, j < i → g1 8 j = g 8 j) ∧ ∀ j, i ≤ j → j < 9 → g1 8 j = 0
  | 0, u + 1, i, g, h1, h2 => by
    obtain rfl : i = 9 := by omega
    refine ⟨g, ?_, fun _ _ => rfl, fun _ _ => rfl, fun j j1 j2 => by omega⟩
    rw [cl_X12_family_11.eq_2, kle_t (by decide)]
  | k + 1, u + 1, i, g, h1, h2 => by
    have one : nI i + Int32.ofInt 1 = nI (i + 1) := nI_1 i
    obtain ⟨g1, e1, e2, e3, e4⟩ := m_zero (Y := Y) k u (i + 1) (kup g 8 i 0) (by omega) (by omega)
    refine ⟨g1, ?_, fun a ha => by rw [e2 a ha, kup_ne _ _ _ ha], fun j hj => by rw [e3 j (by omega), kup_nk (by omega)], fun j j1 j2 => ?_⟩
    · rw [cl_X12_family_11.eq_2, kle_f (fun q => by have := (nI_le_iff (a := 9) (by omega) (by omega)).mp q; omega), kchk_t (nI_kin (by omega) (by decide)), nI_clamp (by omega), kmem_s, klet_s, one]
      exact e1
    · by_cases hj : j = i
      · rw [hj, e3 _ (by omega), kup_at]
      · exact e4 j (by omega) j2
theorem kp_family : kP_family kR := by
  intro N f g hN hR
  have h5 : kR5 (N * 59778) f g := hR
  obtain ⟨n, t1, t2, t3, t4, t5⟩ := hR.2.2.2.2
  obtain ⟨⟨r0, ga⟩, e0, -, ta, t0, tc⟩ := m_tries (g := g)
  dsimp only at ta t0 tc
  unfold cx_X11_family cf_X12_family
  rw [e0, kbind_s, kmem_s]
  obtain ⟨gb, z1, z2, z3, z4⟩ := m_zero (Y := fun g6 => kbind (cf_X12_isFamilyText g6) (fun r7 g8 => kmem (kup g8 0 7 0) (fun g9 => keq r7 0 ((cj_X12_family_53 g9 r7 (g9 0 8))) ((cj_X12_family_53 g9 r7 (-1)))))) 9 100 0 (kup ga 0 8 0) (by omega) (by omega)
  have z1' : cl_X12_family_11 (fun g6 => kbind (cf_X12_isFamilyText g6) (fun r7 g8 => kmem (kup g8 0 7 0) (fun g9 => keq r7 0 ((cj_X12_family_53 g9 r7 (g9 0 8))) ((cj_X12_family_53 g9 r7 (-1)))))) 100 (kup ga 0 8 0) 0 = _ := z1
  rw [z1']
  have gb0 : ∀ k, k ≠ 8 → k ≠ 18 → gb 0 k = g 0 k := fun k h8 h18 => by rw [z2 0 (by decide), kup_nk h8, t0, upd_ne h18]
  have gba : ∀ a, a ≠ 0 → a ≠ 2 → a ≠ 8 → gb a = g a := fun a h0 h2 h8 => by rw [z2 a h8, kup_ne _ _ _ h0, ta a h0 h2]
  obtain ⟨r, f1, gc, i1, l1, r1, r2, hF, hG, r3, r4, r5⟩ := tx_family (f := f) (g := gb) (n := n) t2 (by rw [z2 0 (by decide), kup_at]; rfl) (by rw [gb0 7 (by decide) (by decide)]; exact t3) t1 (fun j hj => by rw [gba 5 (by decide) (by decide) (by decide)]; exact t4 j hj) (fun j hj => z4 j (by omega) hj)
  rw [r1, r2, kbind_s, kbind_s]
  unfold cf_X10_clear cj_X12_family_53
  rw [kmem_s, kbind_s, kmem_s]
  have gca : ∀ a, a ≠ 0 → a ≠ 2 → a ≠ 8 → gc a = g a := fun a h0 h2 h8 => by rw [hG.1 a h0 h8, gba a h0 h2 h8]
  have gc0 : ∀ k, k ≠ 18 → k ≠ 8 → gc 0 k = g 0 k := fun k h18 h8 => by rw [hG.2 k h8, gb0 k h8 h18]
  have gc2 : gc 2 = ga 2 := by rw [hG.1 2 (by decide) (by decide), z2 2 (by decide), kup_ne _ _ _ (by decide)]
  have gc18 : gc 0 18 = 0 := by rw [hG.2 18 (by decide), z2 0 (by decide), kup_nk (by decide), t0, upd_eq]
  have at0 : ∀ x, f1 280 3 = x → kR5 (N * 59778) (kup f1 280 2 0) (kup (kup gc 0 7 0) 0 9 x) := fun x hx => tx_at h5 (fun a a1 a2 => by rw [kup_ne _ _ _ a1, hF.1 a a1 a2]) (fun a a0 a2 a8 => by rw [kup_ne _ _ _ a0, kup_ne _ _ _ a0, gca a a0 a2 a8]) (fun k k18 k8 k7 k9 => by rw [kup_nk k9, kup_nk k7, gc0 k k18 k8]) kup_at (by rw [kup_nk (by decide), kup_at]) (by rw [kup_nk (by decide), kup_at]; exact hx)
  rcases (show r = 0 ∨ r = 1 by omega) with rfl | rfl
  · rw [keq_t (show nI 0 = 0 from rfl), keq_t (show nI 0 = 0 from rfl), show kup gc 0 7 0 0 8 = nI i1 from r4, kmem_s, keq_t (show nI 0 = 0 from rfl)]
    exact kOk_mk (n := 2) (f1 := kup f1 280 2 0) (g1 := kup (kup (kup gc 0 7 0) 0 9 (nI i1)) 0 18 1) rfl rfl (Or.inr (by decide)) kup_at (fun h => absurd h (by decide)) (kR5_up (kR5_thr (at0 _ (by rw [r3, if_neg (by omega)]))))
  · rw [keq_f (show ¬ nI 1 = 0 by decide), keq_f (show ¬ nI 1 = 0 by decide), kmem_s, keq_f (show ¬ nI 1 = 0 by decide)]
    have hE := r5 rfl
    refine kend s_family (by decide) hN (at0 (-1) (by rw [r3, if_pos rfl])) ?_ ?_ (fun fx hfx => ?_)
    · rw [kup_ne _ _ _ (by decide), kup_ne _ _ _ (by decide), kup_ne _ _ _ (by decide), kup_ne _ _ _ (by decide), gc2, tc, gca 1 (by decide) (by decide) (by decide)]
    · rw [kup_nk (by decide), kup_nk (by decide)]
      exact gc18
    · obtain ⟨n, cyc, wt, k1, k2, k3, k4, k5, k6, k7, k8, k9, k10, k11, k12⟩ := hE
      have q : ∀ a, 282 ≤ a → fx a = f1 a := fun a ha => by rw [hfx a (by omega), kup_ne _ _ _ (by omega)]
      exact ⟨n, cyc, wt, k1, k2, k3, k4, by rw [q 282 (by decide)]; exact k5, by rw [q 282 (by decide)]; exact k6, by rw [q 282 (by decide)]; exact k7, k8, k9, k10, Parts_fr k11 (q 283 (by decide)) (q 284 (by decide)) rfl, k12⟩
