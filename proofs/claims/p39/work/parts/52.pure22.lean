/-! minutes pass -/
def passY : kMem → Int32 → Int32 → Option (Int32 × kMem) := fun g13 x2_11 x3_12 => kmem (kup g13 0 6 ((g13 0 6) + x3_12)) (fun g14 => some (x2_11, g14))
theorem PL_7 {B c0 c1 c2 c3 : Nat} {x : Int32} : PL B c0 c1 c2 c3 7 x := ⟨by omega, by omega, by omega, by omega, by omega, by omega, by omega, by omega, by omega, by omega, by omega, by omega, fun o ho => ⟨by omega, by omega, by omega, by omega⟩⟩
theorem PL_6 {B c0 c1 c2 c3 : Nat} {x : Int32} : PL B c0 c1 c2 c3 6 x := ⟨by omega, by omega, by omega, by omega, by omega, by omega, by omega, by omega, by omega, by omega, by omega, by omega, fun o ho => ⟨by omega, by omega, by omega, by omega⟩⟩
theorem PL_8 {B c0 c1 c2 c3 : Nat} {x : Int32} (h : rg x 0 9998) : PL B c0 c1 c2 c3 8 x := ⟨by omega, by omega, by omega, fun _ => h, by omega, by omega, by omega, by omega, by omega, by omega, by omega, by omega, fun o ho => ⟨by omega, by omega, by omega, by omega⟩⟩
set_option maxRecDepth 20000 in
theorem lp_pass {mm : Int32} {B c0 c1 c2 c3 M L : Nat} (hM : M < 100000) (hL : L ≤ 9999) : ∀ (left u u' m s e : Nat) (f g : kMem), m + left = M → left < u → left < u' → InvC B (tT mm (g 1)) c0 c1 c2 c3 → FRel f (tT mm (g 1)) → kZ (g 1) → g 1 8 = nI s → s ≤ 9998 → g 1 12 = nI L → ∃ e' f1 g1, cl_X4_pass_22 passY u f (nI e) (nI left) = some (nI (e + e'), f1) ∧ (∀ (Y : kMem → Int32 → Int32 → Option (Int32 × kMem)) (x2 : Int32), cl_X12_passes_10 Y u' g (nI M) x2 (nI m) = Y g1 (nI M) x2) ∧ g1 1 7 = g 1 7 + nI e' ∧ e' ≤ left ∧ InvC B (tT mm (g1 1)) c0 c1 c2 c3 ∧ FRel f1 (tT mm (g1 1)) ∧ kZ (g1 1) ∧ (∀ a, 25 ≤ a → f1 a = f a) ∧ (∀ a, a ≠ 1 → g1 a = g a) ∧ ∀ j, j < 109 → j ≠ 7 → j ≠ 8 → g1 1 j = g 1 j := by
  intro left
  induction left using Nat.strongRecOn with
  | ind left ih =>
  intro u u' m s e f g hm hu hu' hI hF hZ h8 hs h12
  obtain ⟨u0, rfl⟩ : ∃ u0, u = u0 + 1 := ⟨u - 1, by omega⟩
  by_cases h0 : left = 0
  · subst h0
    obtain ⟨v0, rfl⟩ : ∃ v0, u' = v0 + 1 := ⟨u' - 1, by omega⟩
    refine ⟨0, f, g, ?_, fun Y x2 => ?_, ?_, by omega, hI, hF, hZ, fun _ _ => rfl, fun _ _ => rfl, fun _ _ _ _ => rfl⟩
    · rw [cl_X4_pass_22.eq_2, kle_t (by decide)]
      rfl
    · rw [cl_X12_passes_10.eq_2, kle_t ((nI_le_iff (by omega) (by omega)).mpr (by omega))]
    · exact (Int32.add_zero _).symm
  have f70 : f 7 0 = nI L := (FRel_at hF (j := 12) (a := 7) (k := 0) (by decide)).symm.trans ((tT_ne (by omega) (by omega)).trans h12)
  have f06 : f 0 6 = nI s := (FRel_at hF (j := 8) (a := 0) (k := 6) (by decide)).symm.trans ((tT_ne (by omega) (by omega)).trans h8)
  have f05 : f 0 5 = g 1 7 := (FRel_at hF (j := 7) (a := 0) (k := 5) (by decide)).symm.trans (tT_ne (by omega) (by omega))
  have hl0 : ¬ nI left ≤ 0 := fun q => by have := (nI_le_iff (b := 0) (by omega) (by omega)).mp q; omega
  rw [cl_X4_pass_22.eq_2, kle_f hl0, f70, f06, kmax1 (by omega) (by omega), klet_s]
  by_cases hd : max 1 (L - s) ≤ left
  · rw [kle_t ((nI_le_iff (by omega) (by omega)).mpr hd), klet_s, nI_sub hd, kmem_s]
    have e05 : kup f 0 6 0 0 5 = g 1 7 := f05
    rw [e05]
    obtain ⟨t, ht⟩ : ∃ t, max 1 (L - s) = t + 1 := ⟨max 1 (L - s) - 1, by omega⟩
    obtain ⟨v0, rfl⟩ : ∃ v0, u' = (v0 + 1) + t := ⟨u' - 1 - t, by omega⟩
    rw [ht] at hd ⊢
    have hidle : ∀ (Y : kMem → Int32 → Int32 → Option (Int32 × kMem)) (x2 : Int32), cl_X12_passes_10 Y ((v0 + 1) + t) g (nI M) x2 (nI m) = cl_X12_passes_10 Y (v0 + 1) (kup g 1 8 (nI (s + t))) (nI M) x2 (nI (m + t)) := fun Y x2 => by
      by_cases t0 : t = 0
      · subst t0
        simp only [Nat.add_zero, kup_id h8]
      · exact lp_idle hM (by omega) t (v0 + 1) s m g h8 h12 (by omega) (by omega)
    have e1 : kup g 1 8 (nI (s + t)) 1 = upd (g 1) 8 (nI (s + t)) := kup_eq _ _ _ _
    have e17 : kup g 1 8 (nI (s + t)) 1 7 = g 1 7 := kup_nk (by decide)
    obtain ⟨f1, g1, r1, r2, r3, r4, r5, r6, r7, r8⟩ := lp_wk (u := v0) (tT8_kT mm) (tT8_8 mm) (B := B) (c0 := c0) (c1 := c1) (c2 := c2) (c3 := c3) (M := M) (L := L) (s := s + t) (m := m + t) (f := kup f 0 6 0) (g := kup g 1 8 (nI (s + t))) (by rw [e1, tT8_8]; exact InvC_set hI (PL_8 ⟨0, rfl, by omega, by omega⟩)) (by rw [e1, tT8_8]; exact FRel_up 0 hF (j := 8) (a := 0) (k := 6) (by decide)) (by rw [e1]; exact kZ_upd hZ (by omega)) kup_at (by omega) (by rw [kup_nk (by decide)]; exact h12) hL (by omega) (by omega) hM
    rw [e17] at r1 r2
    have q7 : f1 0 5 = g 1 7 := (FRel_at r4 (j := 7) (a := 0) (k := 5) (by decide)).symm.trans ((upd_ne (by decide)).trans ((tT_ne (by omega) (by omega)).trans ((r8 7 (by decide) (by decide)).trans e17)))
    have eg : kup (kup g1 1 7 (g 1 7 + 1)) 1 8 0 1 = upd (upd (g1 1) 7 (g 1 7 + 1)) 8 0 := by rw [kup_eq, kup_eq]
    have eT : tT mm (upd (upd (g1 1) 7 (g 1 7 + 1)) 8 0) = upd (tT8 mm (g1 1)) 7 (g 1 7 + 1) := by
      unfold tT8
      rw [tT_up (by omega) (by omega), tT_up (by omega) (by omega), upd_comm (by omega)]
    obtain ⟨e', f3, g3, a1, a2, a3, a4, a5, a6, a7, a8, a9, a10⟩ := ih (left - (t + 1)) (by omega) u0 v0 (m + t + 1) 0 (e + 1) (kup f1 0 5 (g 1 7 + 1)) (kup (kup g1 1 7 (g 1 7 + 1)) 1 8 0) (by omega) (by omega) (by omega) (by rw [eg, eT]; exact InvC_set r3 PL_7) (by rw [eg, eT]; exact FRel_up _ r4 (j := 7) (a := 0) (k := 5) (by decide)) (by rw [eg]; exact kZ_upd (kZ_upd r5 (by omega)) (by omega)) kup_at (by omega) (by rw [kup_nk (by decide), kup_nk (by decide), r8 12 (by decide) (by decide), kup_nk (by decide)]; exact h12)
    refine ⟨e' + 1, f3, g3, ?_, fun Y x2 => ?_, ?_, by omega, a5, a6, a7, fun a ha => by rw [a8 a ha, kup_ne _ _ _ (by omega), r6 a ha, kup_ne _ _ _ (by omega)], fun a ha => by rw [a9 a ha, kup_ne _ _ _ ha, kup_ne _ _ _ ha, r7 a ha, kup_ne _ _ _ ha], fun j hj h7 h8 => by rw [a10 j hj h7 h8, kup_nk h8, kup_nk h7, r8 j hj h8, kup_nk h8]⟩
    · rw [r1, kbind_s, q7, kmem_s, klet_s, show nI e + Int32.ofInt 1 = nI (e + 1) from nI_1 e, a1, show e + 1 + e' = e + (e' + 1) by omega]
    · rw [hidle, r2, a2]
    · rw [a3, kup_nk (by decide), kup_at, Int32.add_assoc, show (1 : Int32) = nI 1 from rfl, nI_add, Nat.add_comm 1 e']
  · have hd1 : max 1 (L - s) = L - s := by omega
    obtain ⟨v0, rfl⟩ : ∃ v0, u' = (v0 + 1) + left := ⟨u' - 1 - left, by omega⟩
    have e1 : kup g 1 8 (nI (s + left)) 1 = upd (g 1) 8 (nI (s + left)) := kup_eq _ _ _ _
    refine ⟨0, kup f 0 6 (nI (s + left)), kup g 1 8 (nI (s + left)), ?_, fun Y x2 => ?_, ?_, by omega, ?_, ?_, ?_, fun a ha => kup_ne _ _ _ (by omega), fun a ha => kup_ne _ _ _ ha, fun j _ _ h => kup_nk h⟩
    · rw [kle_f (fun q => hd ((nI_le_iff (by omega) (by omega)).mp q))]
      unfold passY
      rw [f06, nI_add]
      rfl
    · rw [lp_idle hM (by omega) left (v0 + 1) s m g h8 h12 (by omega) (by omega), cl_X12_passes_10.eq_2, kle_t ((nI_le_iff (by omega) (by omega)).mpr (by omega))]
    · rw [kup_nk (by decide)]
      exact (Int32.add_zero _).symm
    · rw [e1, tT_up (by omega) (by omega)]
      exact InvC_set hI (PL_8 ⟨s + left, rfl, by omega, by omega⟩)
    · rw [e1, tT_up (by omega) (by omega)]
      exact FRel_up _ hF (j := 8) (a := 0) (k := 6) (by decide)
    · rw [e1]
      exact kZ_upd hZ (by omega)
