/-! reading a program, as a whole -/
def Cmds (f g : kMem) (m : Nat) : Prop := ∀ j, j < m → Cmd f g j
theorem Cmds_next {f f1 g g1 : kMem} {c : Nat} (h : Cmds f g c) (hC : CF f f1 g g1 c) (hn : Cmd f1 g1 c) : Cmds f1 g1 (c + 1) := fun j hj => by
  obtain ⟨-, -, -, h4, h5, h6⟩ := hC
  by_cases hjc : j = c
  · rw [hjc]
    exact hn
  · exact Cmd_fr (h j (by omega)) (h4 j hjc) (fun k hk => h5 k (by omega)) (fun k hk => h6 k (by omega))
theorem CF_skip {f g : kMem} {x y : Int32} {c : Nat} : CF f (kup f 280 1 x) g (kup g 0 8 y) c := ⟨FrF_1, FrG_0, rfl, fun _ _ => rfl, fun _ _ => rfl, fun _ _ => rfl⟩
theorem Cmds_skip {f g : kMem} {x y : Int32} {m : Nat} (h : Cmds f g m) : Cmds (kup f 280 1 x) (kup g 0 8 y) m := h
theorem Cmds_cnt {f g : kMem} {x : Int32} {m : Nat} (h : Cmds f g m) : Cmds (kup f 285 2 x) g m := h
theorem a4 (c : Nat) : (4 : Int32) * nI c = nI (4 * c) := by rw [show (4 : Int32) = nI 4 from rfl, nI_mul]
set_option maxRecDepth 20000 in
theorem lp_cmds {n : Nat} : ∀ d u u' c i (f g : kMem), n - i ≤ d → d < u → d < u' → TX f g i n → 3 * (c + 1) ≤ i + 1 → f 285 2 = nI (c + 1) → Cmds f g (c + 1) → ∃ r f1 g1 i1 m, r ≤ 1 ∧ kbind (cf_X10_isAtEnd f) (fun r4 g5 => keq r4 0 (klet (nI c + Int32.ofInt 1) (fun x2_6 => (cl_X7_areCommandsRead_2 u g5 x2_6))) (some (1, g5))) = some (nI r, f1) ∧ (∀ Y : kMem → Int32 → Int32 → Option (Int32 × kMem), cl_X12_program_17 Y u' g (nI c) 1 = Y g1 (nI m) (nI r)) ∧ TX f1 g1 i1 n ∧ FrF f f1 ∧ FrG g g1 ∧ m ≤ 26 ∧ (r = 1 → f1 285 2 = nI (m + 1) ∧ Cmds f1 g1 (m + 1)) := by
  intro d
  induction d with
  | zero =>
    intro u u' c i f g h1 h2 h3 hT h4 h5 hC
    obtain ⟨t1, t2, t3, t4, t5, t6, t7⟩ := id hT
    obtain ⟨u', rfl⟩ : ∃ w, u' = w + 1 := ⟨u' - 1, by omega⟩
    refine ⟨1, f, g, i, c, by omega, ?_, fun Y => ?_, hT, FrF_rf, FrG_rf, by omega, fun _ => ⟨h5, hC⟩⟩
    · rw [t_end hT, kbind_s, if_neg (by omega), keq10]
      rfl
    · rw [cl_X12_program_17.eq_2, keq10, t3, t4, kle_t ((nI_le_iff (by omega) (by omega)).mpr (by omega))]
      rfl
  | succ d ih =>
    intro u u' c i f g h1 h2 h3 hT h4 h5 hC
    obtain ⟨t1, t2, t3, t4, t5, t6, t7⟩ := id hT
    obtain ⟨u, rfl⟩ : ∃ w, u = w + 1 := ⟨u - 1, by omega⟩
    obtain ⟨u', rfl⟩ : ∃ w, u' = w + 2 := ⟨u' - 2, by omega⟩
    have one : nI c + Int32.ofInt 1 = nI (c + 1) := nI_1 c
    by_cases hin : i < n
    rotate_left
    · refine ⟨1, f, g, i, c, by omega, ?_, fun Y => ?_, hT, FrF_rf, FrG_rf, by omega, fun _ => ⟨h5, hC⟩⟩
      · rw [t_end hT, kbind_s, if_neg hin, keq10]
        rfl
      · rw [cl_X12_program_17.eq_2, keq10, t3, t4, kle_t ((nI_le_iff (by omega) (by omega)).mpr (by omega))]
        rfl
    obtain ⟨r1, l1, b1, s1, s2⟩ := t_skip hT 59
    have T1 : TX (kup f 280 1 (nI (i + r1))) (kup g 0 8 (nI (i + r1))) (i + r1) n := TX_F hT b1 FrF_1 FrG_0 kup_at kup_at
    have m0 : ∀ (Y : kMem → Int32 → Int32 → Option (Int32 × kMem)) (h : kMem) (x : Int32), cl_X12_program_17 Y (u' + 1) h x 0 = Y h x 0 := fun Y h x => by rw [cl_X12_program_17.eq_2, keq00]
    have eM : ∀ Y : kMem → Int32 → Int32 → Option (Int32 × kMem), cl_X12_program_17 Y (u' + 1 + 1) g (nI c) 1 = keq (nI r1) 0 (Y (kup g 0 8 (nI (i + r1))) (nI (c + 1)) 0) (kbind (cf_X12_isCommand (kup g 0 8 (nI (i + r1))) (nI (4 * (c + 1)))) (fun r9 g10 => keq r9 0 (Y g10 (nI (c + 1)) 0) (((cl_X12_program_17 Y (u' + 1)) g10 (nI (c + 1)) 1)))) := fun Y => by
      rw [cl_X12_program_17.eq_2, keq10, t3, t4, kle_f (fun q => by have := (nI_le_iff (by omega) (by omega)).mp q; omega), one, klet_s, s2, kbind_s, m0, a4]
      simp only [m0]
    have eC : kbind (cf_X10_isAtEnd f) (fun r4 g5 => keq r4 0 (klet (nI c + Int32.ofInt 1) (fun x2_6 => (cl_X7_areCommandsRead_2 (u + 1) g5 x2_6))) (some (1, g5))) = keq (nI r1) 0 (some (0, kup f 280 1 (nI (i + r1)))) (cj_X7_areCommandsRead_21 (cl_X7_areCommandsRead_2 u) (kup f 280 1 (nI (i + r1))) (nI (c + 1))) := by
      rw [t_end hT, kbind_s, if_pos hin, keq00, klet_s, one, cl_X7_areCommandsRead_2.eq_2, kle_f (fun q => by have := (nI_le_iff (a := 40) (by omega) (by omega)).mp q; omega), kle_f (fun q => by have := (nI_le_iff (b := 0) (by omega) (by omega)).mp q; omega), s1, kbind_s]
    rw [eC]
    rcases (show r1 = 0 ∨ r1 = 1 by omega) with rfl | rfl
    · exact ⟨0, _, _, i + 0, c + 1, by omega, by rw [keq_t (show nI 0 = 0 from rfl)]; rfl, fun Y => by rw [eM Y, keq_t (show nI 0 = 0 from rfl)]; rfl, T1, FrF_1, FrG_0, by omega, fun h => absurd h (by omega)⟩
    rw [keq_f (show ¬ nI 1 = 0 by decide)]
    unfold cj_X7_areCommandsRead_21
    obtain ⟨r2, f2, g2, i2, l2, e1, e2, T2, C2, Q2⟩ := bo_command (c := c + 1) T1 (by omega)
    rw [e1, kbind_s]
    rcases (show r2 = 0 ∨ r2 = 1 by omega) with rfl | rfl
    · exact ⟨0, f2, g2, i2, c + 1, by omega, by rw [keq_t (show nI 0 = 0 from rfl)]; rfl, fun Y => by rw [eM Y, keq_f (show ¬ nI 1 = 0 by decide), e2, kbind_s, keq_t (show nI 0 = 0 from rfl)]; rfl, T2, FrF_tr FrF_1 C2.1, FrG_tr FrG_0 C2.2.1, by omega, fun h => absurd h (by omega)⟩
    obtain ⟨q1, q2⟩ := Q2 rfl
    rw [keq_f (show ¬ nI 1 = 0 by decide), nI_1, kmem_s]
    have T3 : TX (kup f2 285 2 (nI (c + 1 + 1))) g2 i2 n := TX_F T2 T2.2.2.2.2.1 (FrF_w (by omega)) FrG_rf T2.1 T2.2.2.1
    have H3 : Cmds (kup f2 285 2 (nI (c + 1 + 1))) g2 (c + 1 + 1) := Cmds_cnt (Cmds_next (Cmds_skip hC) C2 q2)
    obtain ⟨r3, f3, g3, i3, m3, l3, x1, x2, x3, x4, x5, x6, x7⟩ := ih u (u' + 1) (c + 1) i2 (kup f2 285 2 (nI (c + 1 + 1))) g2 (by omega) (by omega) (by omega) T3 (by omega) kup_at H3
    refine ⟨r3, f3, g3, i3, m3, l3, x1, fun Y => ?_, x3, FrF_tr FrF_1 (FrF_tr C2.1 (FrF_tr (FrF_w (by omega)) x4)), FrG_tr FrG_0 (FrG_tr C2.2.1 x5), x6, x7⟩
    rw [eM Y, keq_f (show ¬ nI 1 = 0 by decide), e2, kbind_s, keq_f (show ¬ nI 1 = 0 by decide)]
    exact x2 Y
theorem tx_program {f g : kMem} {n : Nat} (h2 : f 280 2 = nI n) (h3 : g 0 8 = nI 0) (h4 : g 0 7 = nI n) (h6 : n ≤ 80) (h7 : ∀ j, j < n → f 281 j = g 5 j) : ∃ r f1 g1 i1 m, r ≤ 1 ∧ cf_X7_isReadFrom f = some (nI r, f1) ∧ (∀ Y : kMem → Int32 → Int32 → Option (Int32 × kMem), kbind (cf_X12_isCommand g 0) (fun r4 g5 => (cl_X12_program_17 Y 100 g5 0 r4)) = Y g1 (nI m) (nI r)) ∧ FrT f f1 ∧ FrG g g1 ∧ f1 280 3 = (if r = 1 then -1 else nI i1) ∧ g1 0 8 = nI i1 ∧ m ≤ 26 ∧ (r = 1 → f1 285 2 = nI (m + 1) ∧ Cmds f1 g1 (m + 1)) := by
  have T0 : TX (kup (kup f 280 1 0) 285 2 0) g 0 n := ⟨by rw [kup_ne _ _ _ (by decide), kup_at]; rfl, h2, h3, h4, by omega, h6, h7⟩
  have F0 : FrF f (kup (kup f 280 1 0) 285 2 0) := FrF_tr FrF_1 (FrF_w (by omega))
  unfold cf_X7_isReadFrom cf_X10_start cf_X7_areCommandsRead
  rw [kmem_s, kbind_s, kmem_s]
  obtain ⟨r1, f1, g1, i1, l1, e1, e2, T1, C1, Q1⟩ := bo_command (c := 0) T0 (by omega)
  have e1' : cf_X7_isCommandRead (kup (kup f 280 1 0) 285 2 0) 0 = some (nI r1, f1) := e1
  have e2' : cf_X12_isCommand g 0 = some (nI r1, g1) := e2
  rw [cl_X7_areCommandsRead_2.eq_2, kle_f (by decide), kle_t (by decide)]
  unfold cj_X7_areCommandsRead_21
  rw [e1', kbind_s, e2']
  have fend : ∀ (r : Nat) (fx : kMem) (gx : kMem) (ix : Nat), r ≤ 1 → TX fx gx ix n → kbind (cf_X10_end fx (nI r)) (fun r6 g7 => kchk (kbool r6) (some (r6, g7))) = some (nI r, kup fx 280 3 (if r = 1 then -1 else nI ix)) := fun r fx gx ix hr hT => by
    rw [t_endF hT hr, kbind_s]
    rcases (show r = 0 ∨ r = 1 by omega) with rfl | rfl <;> rfl
  rcases (show r1 = 0 ∨ r1 = 1 by omega) with rfl | rfl
  · refine ⟨0, kup f1 280 3 (if 0 = 1 then -1 else nI i1), g1, i1, 0, by omega, ?_, fun Y => ?_, FrT_e (FrF_tr F0 C1.1), C1.2.1, kup_at, T1.2.2.1, by omega, fun h => absurd h (by omega)⟩
    · rw [keq_t (show nI 0 = 0 from rfl), kbind_s]
      exact fend 0 f1 g1 i1 (by omega) T1
    · rw [kbind_s, cl_X12_program_17.eq_2, keq_t (show nI 0 = 0 from rfl)]
      rfl
  obtain ⟨q1, q2⟩ := Q1 rfl
  have T2 : TX (kup f1 285 2 1) g1 i1 n := TX_F T1 T1.2.2.2.2.1 (FrF_w (by omega)) FrG_rf T1.1 T1.2.2.1
  obtain ⟨r3, f3, g3, i3, m3, l3, x1, x2, x3, x4, x5, x6, x7⟩ := lp_cmds 80 99 100 0 i1 (kup f1 285 2 1) g1 (by omega) (by omega) (by omega) T2 (by omega) kup_at (Cmds_cnt (Cmds_next (c := 0) (f := kup (kup f 280 1 0) 285 2 0) (g := g) (fun j hj => absurd hj (by omega)) C1 q2))
  refine ⟨r3, kup f3 280 3 (if r3 = 1 then -1 else nI i3), g3, i3, m3, l3, ?_, fun Y => ?_, FrT_e (FrF_tr F0 (FrF_tr C1.1 (FrF_tr (FrF_w (by omega)) x4))), FrG_tr C1.2.1 x5, kup_at, x3.2.2.1, x6, x7⟩
  · rw [keq_f (show ¬ nI 1 = 0 by decide), kmem_s]
    have x1' : kbind (cf_X10_isAtEnd (kup f1 285 2 (0 + 1))) (fun r4 g5 => keq r4 0 (klet ((0 : Int32) + Int32.ofInt 1) (fun x2_6 => (cl_X7_areCommandsRead_2 99 g5 x2_6))) (some (1, g5))) = some (nI r3, f3) := x1
    rw [x1', kbind_s]
    exact fend r3 f3 g3 i3 l3 x3
  · rw [kbind_s]
    exact x2 Y
