/-! minutes pass: both sides; mount, pause -/
theorem p_pass {B c0 c1 c2 c3 M : Nat} {f g : kMem} (hM : M < 100000) (hI : InvC B (g 1) c0 c1 c2 c3) (hF : FRel f (g 1)) (hZ : kZ (g 1)) : ∃ e f1 g1, cf_X4_pass f (nI M) = some (nI e, f1) ∧ cf_X12_passes g (nI M) = some (nI e, g1) ∧ e ≤ M ∧ InvC B (g1 1) c0 c1 c2 c3 ∧ FRel f1 (g1 1) ∧ kZ (g1 1) ∧ (∀ a, 25 ≤ a → f1 a = f a) ∧ (∀ a, a ≠ 1 → g1 a = g a) ∧ ∀ j, j < 100 → j ≠ 6 → j ≠ 7 → j ≠ 8 → g1 1 j = g 1 j := by
  obtain ⟨-, -, ⟨s, hs, -, hs2⟩, ⟨L, hL, -, hL2⟩, -⟩ := id hI.2.1
  obtain ⟨fd, d1, d2, d3⟩ := lp_dryC (m := nI M) 3 100 0 f (g 1) hI hF (by omega) (by omega)
  have f04 : fd 0 4 = g 1 6 := by
    rw [d3 0 (by decide)]
    exact (FRel_at hF (j := 6) (a := 0) (k := 4) (by decide)).symm
  have eT : tT (nI M) (g 1) = upd (dr (nI M) 3 0 (g 1)) 6 (g 1 6 + nI M) := dr_up (by omega) 3 0 _ (by omega)
  obtain ⟨e, f1, g1, r1, r2, r3, r4, r5, r6, r7, r8, r9, r10⟩ := lp_pass (mm := nI M) (M := M) hM hL2 M 100000 100000 0 s 0 (kup fd 0 4 (g 1 6 + nI M)) g (by omega) hM hM (by rw [eT]; exact InvC_set (dr_Inv 3 0 _ (by omega) hI) PL_6) (by rw [eT]; exact FRel_up _ d2 (j := 6) (a := 0) (k := 4) (by decide)) hZ hs hs2 hL
  have e6 : kup g1 1 6 (g1 1 6 + nI M) 1 = upd (g1 1) 6 (g1 1 6 + nI M) := kup_eq _ _ _ _
  refine ⟨e, f1, rw1 (kup g1 1 6 (g1 1 6 + nI M)) (tT (nI M) (g1 1)), ?_, ?_, r4, r5, r6, ?_, fun a ha => by rw [r8 a ha, kup_ne _ _ _ (by omega), d3 a (by omega)], fun a ha => by rw [rw1_ne ha, kup_ne _ _ _ ha, r9 a ha], fun j hj h6 h7 h8 => ?_⟩
  · unfold cf_X4_pass cf_X2_dry
    have d1' : cl_X2_dry_2 100 f (nI M) 0 = some (0, fd) := d1
    rw [d1', kbind_s, f04, kmem_s]
    have r1' : cl_X4_pass_22 passY 100000 (kup fd 0 4 (g 1 6 + nI M)) 0 (nI M) = some (nI (0 + e), f1) := r1
    unfold passY at r1'
    rw [r1', Nat.zero_add]
  · unfold cf_X12_passes
    rw [klet_s]
    have r2' : ∀ (Y : kMem → Int32 → Int32 → Option (Int32 × kMem)) (x2 : Int32), cl_X12_passes_10 Y 100000 g (nI M) x2 0 = Y g1 (nI M) x2 := r2
    rw [r2', kmem_s]
    have r3' : ∀ (Y : kMem → Int32 → Option (Int32 × kMem)) (x2 : Int32) (h : kMem), cl_X12_passes_66 Y 100000 h (nI M) x2 0 = Y (rw1 h (dr (nI M) 3 0 (h 1))) x2 := fun Y x2 h => lp_dryM 3 100000 0 h (by omega) (by omega)
    rw [r3', e6]
    show some (tT (nI M) (g1 1) 7 - g 1 7, rw1 (kup g1 1 6 (g1 1 6 + nI M)) (tT (nI M) (g1 1))) = _
    rw [tT_ne (by omega) (by omega), r3, Int32.add_comm, Int32.add_sub_cancel]
  · show kZ (tT (nI M) (g1 1))
    exact dr_Z (kZ_upd r7 (by omega))
  · show tT (nI M) (g1 1) j = _
    rw [tT_ne h6 (by omega), r10 j (by omega) h7 h8]
theorem sim_no2 {B M : Nat} {f g f1 g1 : kMem} {X Y : Option (Int32 × kMem)} (hX : X = some (-1, f1)) (hY : Y = some (0, g1)) (h1 : Fr1 f f1) (h2 : Fr2 g g1) (hR : Reas f1 g1) (hN : Now B f1 g1) (h2' : Rs2 f f1) : kO X (fun z => kO Y (fun y => Fr1 f z.2 ∧ Fr2 g y.2 ∧ Reas z.2 y.2 ∧ Now (B + M) z.2 y.2 ∧ ((z.1 = -1 ∧ y.1 = 0 ∧ Rs2 f z.2) ∨ (¬ z.1 < 0 ∧ y.1 = 1 ∧ y.2 0 13 = z.1)))) :=
  kO_E hX (kO_E hY ⟨h1, h2, hR, ⟨hN.1, Inv_mono hN.2.1 (by omega), hN.2.2⟩, Or.inl ⟨rfl, rfl, h2'⟩⟩)
theorem Fr1_lo {f f1 : kMem} (h : ∀ a, 25 ≤ a → f1 a = f a) : Fr1 f f1 := fun a h1 _ _ _ => h a h1
theorem Fr2_row {g g1 : kMem} (h : ∀ a, a ≠ 1 → g1 a = g a) : Fr2 g g1 := ⟨fun a _ h1 _ _ => h a h1, fun k _ _ => by rw [h 0 (by decide)]⟩
theorem Reas_lo {f f1 g g1 : kMem} (hR : Reas f g) (h : ∀ a, 25 ≤ a → f1 a = f a) (h1 : ∀ a, a ≠ 1 → g1 a = g a) : Reas f1 g1 := Reas_fr hR (h 277 (by decide)) (h 278 (by decide)) (h 279 (by decide)) (by rw [h1 0 (by decide)]) (h1 6 (by decide)) (h1 7 (by decide))
set_option maxRecDepth 20000 in
theorem s_mount (x : Int32) : kSim 0 (fun _ _ => True) (fun f => cf_X4_mountFamily f x) (fun g => cf_X12_doesMount g x) := by
  intro B f g hB hN hR _
  dsimp only
  obtain ⟨hF, ⟨c0, c1, c2, c3, hI⟩, hZ⟩ := id hN
  obtain ⟨-, -, g2, -, -, -, hc2, -⟩ := id hI.1
  have f2 : f 1 2 = nI c2 := (FRel_at hF (j := 2) (a := 1) (k := 2) (by decide)).symm.trans g2
  have f4 : g 1 4 = f 0 8 := FRel_at hF (j := 4) (a := 0) (k := 8) (by decide)
  unfold cf_X4_mountFamily cf_X12_doesMount
  by_cases hx : rl x c2
  rotate_left
  · exact sim_no (a := 1) (d := 0) hN (by rw [c_isF0 (by omega) f2 hx, kbind_s, keq00, c_refuse]; rfl) (by rw [m_isF0 (by omega) g2 hx, kbind_s, keq00]; rfl)
  rw [c_isF1 (by omega) f2 hx, kbind_s, keq10, m_isF1 (by omega) g2 hx, kbind_s, keq10, f4]
  by_cases h4 : f 0 8 = x
  · exact sim_no (a := 4) (d := 0) hN (by rw [keq_t h4, c_refuse]; rfl) (by rw [keq_t h4]; rfl)
  rw [keq_f h4, keq_f h4, kmem_s, kmem_s]
  obtain ⟨-, -, -, -, -, -, M, hM, -, hM2⟩ := id hI.2.1
  have e1 : kup f 0 8 x 7 3 = nI M := (FRel_at hF (j := 15) (a := 7) (k := 3) (by decide)).symm.trans hM
  have e2 : kup g 1 4 x 1 15 = nI M := hM
  obtain ⟨e, f1, g1, r1, r2, r3, r4, r5, r6, r7, r8, -⟩ := p_pass (B := B) (c0 := c0) (c1 := c1) (c2 := c2) (c3 := c3) (M := M) (f := kup f 0 8 x) (g := kup g 1 4 x) (by omega) (InvC_set hI (j := 4) (x := x) ⟨by omega, fun _ => Or.inr hx, by omega, by omega, by omega, by omega, by omega, by omega, by omega, by omega, by omega, by omega, fun o ho => ⟨by omega, by omega, by omega, by omega⟩⟩) (FRel_up x hF (j := 4) (a := 0) (k := 8) (by decide)) (kZ_upd hZ (by omega))
  have k1 : ∀ a, 25 ≤ a → f1 a = f a := fun a ha => by rw [r7 a ha, kup_ne _ _ _ (by omega)]
  have k2 : ∀ a, a ≠ 1 → g1 a = g a := fun a ha => by rw [r8 a ha, kup_ne _ _ _ ha]
  rw [e1, e2, r1, r2, kbind_s, kbind_s]
  exact sim_yes (r := nI e) (f1 := f1) (g1 := g1) rfl rfl (Fr1_lo k1) (Fr2_row k2) (Reas_lo hR k1 k2) ⟨r5, ⟨c0, c1, c2, c3, r4⟩, r6⟩ (nI_not_neg (by omega))
theorem kp_mount : kP_mount kR := fun N f g a hN hR => kchange (s_mount a) (by decide) hN hR (fun _ _ _ _ => trivial)
set_option maxRecDepth 20000 in
theorem s_pause (x : Int32) : kSim 0 (fun _ _ => True) (fun f => cf_X4_waitMinutes f x) (fun g => cf_X12_doesPause g x) := by
  intro B f g hB hN hR _
  dsimp only
  obtain ⟨hF, ⟨c0, c1, c2, c3, hI⟩, hZ⟩ := id hN
  unfold cf_X4_waitMinutes cf_X12_doesPause
  by_cases hx : inb x 1 999
  rotate_left
  · exact sim_no (a := 2) (d := 0) hN (by rw [c_in0 hx, kbind_s, keq00, c_refuse]; rfl) (by rw [m_in0 hx, kbind_s, keq00]; rfl)
  rw [c_in1 hx, kbind_s, keq10, m_in1 hx, kbind_s, keq10]
  obtain ⟨M, rfl, -, hM2⟩ := (inb_rg (A := 1) (B := 999) (by decide) (by decide)).mp hx
  obtain ⟨e, f1, g1, r1, r2, r3, r4, r5, r6, r7, r8, -⟩ := p_pass (M := M) (by omega) hI hF hZ
  rw [r1, r2, kbind_s, kbind_s]
  exact sim_yes (r := nI e) (f1 := f1) (g1 := g1) rfl rfl (Fr1_lo r7) (Fr2_row r8) (Reas_lo hR r7 r8) ⟨r5, ⟨c0, c1, c2, c3, r4⟩, r6⟩ (nI_not_neg (by omega))
theorem kp_pause : kP_pause kR := fun N f g a hN hR => kchange (s_pause a) (by decide) hN hR (fun _ _ _ _ => trivial)
