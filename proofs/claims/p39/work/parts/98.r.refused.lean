/-! the refused calls of the law -/
theorem rd_w0 {f : kMem} (h2 : f 280 2 = 2) (h0 : f 281 0 = 119) (h1 : f 281 1 = 48) : ∃ g, cf_X7_isReadFrom f = some (1, g) ∧ g 285 2 = 1 ∧ g 286 0 = 2 ∧ g 287 0 = 0 ∧ g 275 = f 275 := by
  simp [cf_X7_isReadFrom, cf_X7_areCommandsRead, cl_X7_areCommandsRead_2, cj_X7_areCommandsRead_21, cf_X7_isCommandRead, cf_X7_isNumberRead, cf_X10_start, cf_X10_skip, cf_X10_isAtEnd, cf_X10_end, cf_X10_number, cl_X10_number_4, cf_X10_isAtDigit, kbind, kchk, klet, kmem, klt, kle, keq, kbool, kin, kmax, kup, upd, h0, h1, h2]
theorem rd_q {f : kMem} (h2 : f 280 2 = 1) (h0 : f 281 0 = 113) : ∃ g, cf_X7_isReadFrom f = some (0, g) := by
  simp [cf_X7_isReadFrom, cf_X7_areCommandsRead, cl_X7_areCommandsRead_2, cj_X7_areCommandsRead_21, cf_X7_isCommandRead, cf_X7_isNumberRead, cf_X10_start, cf_X10_skip, cf_X10_isAtEnd, cf_X10_end, cf_X10_number, cl_X10_number_4, cf_X10_isAtDigit, kbind, kchk, klet, kmem, klt, kle, keq, kbool, kin, kmax, kup, upd, h0, h2]
theorem rf_q {f : kMem} (h2 : f 280 2 = 1) (h0 : f 281 0 = 113) : ∃ g, cf_X3_isReadFrom f = some (0, g) := by
  simp [cf_X3_isReadFrom, cj_X3_isReadFrom_33, cj_X3_isReadFrom_34, cf_X3_isHeadRead, cf_X3_isPartRead, cf_X3_isTailRead, cl_X3_isTailRead_2, cj_X3_isTailRead_30, cf_X10_start, cf_X10_skip, cf_X10_isAtEnd, cf_X10_end, cf_X10_number, cl_X10_number_4, cf_X10_isAtDigit, kbind, kchk, klet, kmem, klt, kle, keq, kbool, kin, kmax, kup, upd, h0, h2]
theorem rf_0 {f : kMem} (h2 : f 280 2 = 7) (h0 : f 281 0 = 48) (h1 : f 281 1 = 32) (h2' : f 281 2 = 48) (h3 : f 281 3 = 32) (h4 : f 281 4 = 48) (h5 : f 281 5 = 120) (h6 : f 281 6 = 48) : ∃ g, cf_X3_isReadFrom f = some (1, g) ∧ g 282 2 = 1 ∧ g 284 0 = 0 ∧ g 275 = f 275 := by
  simp [cf_X3_isReadFrom, cj_X3_isReadFrom_33, cj_X3_isReadFrom_34, cf_X3_isHeadRead, cf_X3_isPartRead, cf_X3_isTailRead, cl_X3_isTailRead_2, cj_X3_isTailRead_30, cf_X10_start, cf_X10_skip, cf_X10_isAtEnd, cf_X10_end, cf_X10_number, cl_X10_number_4, cf_X10_isAtDigit, kbind, kchk, klet, kmem, klt, kle, keq, kbool, kin, kmax, kup, upd, h0, h1, h2, h2', h3, h4, h5, h6]
theorem cz_0 {f : kMem} (h1 : f 282 2 = 1) (h2 : f 284 0 = 0) : cf_X0_addFamily f = some (-1, rfC f 2 0) := by
  simp [cf_X0_addFamily, cf_X3_hasZero, cl_X3_hasZero_2, kbind, kchk, klet, kmem, klt, kle, keq, kbool, kin, kmax, c_refuse, h1, h2]
theorem cw_0 {f : kMem} (h1 : f 285 2 = 1) (h2 : f 286 0 = 2) (h3 : f 287 0 = 0) : ∃ g, cf_X11_commandCarriedOut f 0 = some (-1, g) := by
  simp [cf_X11_commandCarriedOut, cf_X7_numberOf, cf_X7_kindOf, cf_X11_isWithin, cf_X4_waitMinutes, kbind, kchk, klet, kmem, klt, kle, keq, kbool, kin, kmax, c_refuse, h1, h2, h3]
theorem kbind_iv {X : Option (Int32 × kMem)} {ρ : Type} {Y : Int32 → kMem → Option ρ} {z : ρ} (h : kbind X Y = some z) : ∃ r g, X = some (r, g) ∧ Y r g = some z := by
  cases X with
  | none => cases h
  | some q => exact ⟨q.1, q.2, rfl, h⟩
theorem mlbind_s {r : Int64} {g : kMem} {ρ : Type} {Y : Int64 → kMem → Option ρ} : mlbind (some (r, g)) Y = Y r g := rfl
theorem mleq_t {x y : Int64} (h : x = y) {ρ : Type} {A : Option ρ} : mleq x y A = A := if_pos h
theorem bg_hi {f : kMem} {L : List kMem} (h : HC f L) {fT : kMem} (h5 : fT 275 = f 275) : ∃ g, cf_X5_begin fT = some (0, g) ∧ (∀ a, 275 ≤ a → g a = fT a) ∧ ∀ q, q < 25 → g q = fT q := by
  obtain ⟨o, a1, a2, a3, a4, -⟩ := h
  have h9 : (o + L.length) % 9 < 9 := Nat.mod_lt _ (by decide)
  exact ⟨_, c_begin a1 a2 (by rw [h5]; exact a3) (by rw [h5]; exact a4), fun a ha => kfc_hi h9 ha, fun q hq => kfc_fl h9 hq⟩
theorem pg_q {f : kMem} (h2 : f 280 2 = 1) (h0 : f 281 0 = 113) (z : kXr) (h : cx_X11_program f = some z) : z.1 = 2 := by
  obtain ⟨g, e⟩ := rd_q h2 h0
  unfold cx_X11_program cf_X10_clear at h
  rw [e, kbind_s, kmem_s, kbind_s, keq_t rfl] at h
  obtain rfl := Option.some.inj h
  rfl
theorem fm_q {f : kMem} (h2 : f 280 2 = 1) (h0 : f 281 0 = 113) (z : kXr) (h : cx_X11_family f = some z) : z.1 = 2 := by
  obtain ⟨g, e⟩ := rf_q h2 h0
  unfold cx_X11_family cf_X10_clear at h
  rw [e, kbind_s, kmem_s, kbind_s, keq_t rfl] at h
  obtain rfl := Option.some.inj h
  rfl
theorem pg_w0 {f fT : kMem} {L : List kMem} (hL : HC f L) (h5 : fT 275 = f 275) (h2 : fT 280 2 = 2) (h0 : fT 281 0 = 119) (h1 : fT 281 1 = 48) (z : kXr) (h : cx_X11_program fT = some z) : z.1 = 4 := by
  obtain ⟨g, e, b1, b2, b3, b4⟩ := rd_w0 h2 h0 h1
  unfold cx_X11_program cf_X10_clear at h
  rw [e, kbind_s, kmem_s, kbind_s, keq_f (by decide)] at h
  obtain ⟨g6, e6, c6, -⟩ := bg_hi hL (fT := kup g 280 2 0) (by rw [kup_ne _ _ _ (by decide), b4]; exact h5)
  have c5 : g6 285 2 = 1 := by rw [c6 285 (by decide), kup_ne _ _ _ (by decide)]; exact b1
  have c4 : g6 286 0 = 2 := by rw [c6 286 (by decide), kup_ne _ _ _ (by decide)]; exact b2
  have c3 : g6 287 0 = 0 := by rw [c6 287 (by decide), kup_ne _ _ _ (by decide)]; exact b3
  obtain ⟨g8, e8⟩ := cw_0 c5 c4 c3
  rw [e6, kbind_s, show (100 : Nat) = 99 + 1 from rfl, cl_X11_program_46.eq_2, c5, kle_f (by decide), e8, kbind_s, keq_t rfl] at h
  obtain ⟨r1, g1, -, h⟩ := kbind_iv h
  obtain ⟨r2, g2, -, h⟩ := kbind_iv h
  obtain rfl := Option.some.inj h
  rfl
theorem fm_0 {f fT : kMem} {L : List kMem} (hL : HC f L) (h5 : fT 275 = f 275) (h2 : fT 280 2 = 7) (h0 : fT 281 0 = 48) (h1 : fT 281 1 = 32) (h2' : fT 281 2 = 48) (h3 : fT 281 3 = 32) (h4 : fT 281 4 = 48) (h5' : fT 281 5 = 120) (h6 : fT 281 6 = 48) (z : kXr) (h : cx_X11_family fT = some z) : z.1 = 4 := by
  obtain ⟨g, e, b1, b2, b4⟩ := rf_0 h2 h0 h1 h2' h3 h4 h5' h6
  unfold cx_X11_family cf_X10_clear at h
  rw [e, kbind_s, kmem_s, kbind_s, keq_f (by decide)] at h
  obtain ⟨g6, e6, c6, -⟩ := bg_hi hL (fT := kup g 280 2 0) (by rw [kup_ne _ _ _ (by decide), b4]; exact h5)
  have c5 : g6 282 2 = 1 := by rw [c6 282 (by decide), kup_ne _ _ _ (by decide)]; exact b1
  have c4 : g6 284 0 = 0 := by rw [c6 284 (by decide), kup_ne _ _ _ (by decide)]; exact b2
  rw [e6, kbind_s, cz_0 c5 c4, kbind_s] at h
  obtain rfl := Option.some.inj h
  rfl
theorem dn_of {m n : Nat} {f F : kMem} {L : List kMem} (hn : n = 2 ∨ n = 4) (h : Pv m f L) (hF : ∀ q, q < 25 → f q = F q) {m' : Nat} {X : Option kXr} {z : kXr} (e : X = some z) (hz : z.1 = n) (hC : Chg f z) (hV : Vb m' z.2.2) : ∃ f1, wvx [2, 4] X = some (if n = 2 then -1001 else -1002, f1) ∧ Pv m' f1 L ∧ ∀ q, q < 25 → f1 q = F q := by
  obtain ⟨h1, h2, h3⟩ := h
  obtain ⟨c1, c2, c3, c4⟩ := hC
  have t0 : z.2.2 280 2 = 0 := c3.elim (fun e => e.trans h2) id
  rw [e]
  unfold wvx
  dsimp only
  rcases c4 with ⟨d1, d2, d3⟩ | ⟨d1, -⟩
  · refine ⟨z.2.2, ?_, ⟨hV, t0, d3 L h3⟩, fun q hq => (d2 q hq).trans (hF q hq)⟩
    rw [if_neg d1, hz]
    rcases hn with rfl | rfl
    · rw [if_pos (show (2 : Nat) ∈ [2, 4] by decide), if_pos rfl]
      exact congrArg (fun q => some (q, z.2.2)) (show (-1001 - Int32.ofNat (List.idxOf 2 [2, 4]) : Int32) = -1001 by decide)
    · rw [if_pos (show (4 : Nat) ∈ [2, 4] by decide), if_neg (show ¬ (4 : Nat) = 2 by decide)]
      exact congrArg (fun q => some (q, z.2.2)) (show (-1001 - Int32.ofNat (List.idxOf 4 [2, 4]) : Int32) = -1002 by decide)
  · rw [hz] at d1
    omega
theorem dn_does {m n : Nat} {f F : kMem} {L : List kMem} (hn : n = 2 ∨ n = 4) (h : Pv (m + 17) f L) (hF : ∀ q, q < 25 → f q = F q) {t : List Int32} (ht : t.length ≤ 16 ∧ ∀ x, x ∈ t → ∃ c, c < 128 ∧ x = nI c) (hc : ∀ fT : kMem, fT 275 = f 275 → fT 280 2 = nI t.length → (∀ j, j < t.length → fT 281 j = t.getD j 0) → ∀ z, cx_X11_program fT = some z → z.1 = n) : ∃ f1, lf_does t f = some (if n = 2 then -1001 else -1002, f1) ∧ Pv m f1 L ∧ ∀ q, q < 25 → f1 q = F q := by
  obtain ⟨N, g, hN, hR⟩ := id h.1
  obtain ⟨fT, gT, e1, ⟨b1, b2, b3, b4, b5⟩, hT⟩ := cf_fed t 0 N f g (by omega) ht.2 h.2.1 (by omega) hR
  obtain ⟨z, e, hz, hC, h0⟩ := cg_program (by omega) hT
  obtain ⟨z', bb, g', z1, -, -, -, -, z6⟩ := kp_program (N + t.length) fT gT (by omega) hT
  obtain rfl := Option.some.inj (z1.symm.trans e)
  unfold lf_does lf_feeds
  rw [e1, kbind_s, keq_f (by decide)]
  obtain ⟨f1, q1, q2, q3⟩ := dn_of (n := n) hn h hF e (hc fT (b1 275 (by decide) (by decide)) (by rw [b3, Nat.zero_add]) (fun j hj => by have := b4 j hj; rwa [Nat.zero_add] at this) z' e) (chg_tr2 (fun a ha => b1 a (by omega) (by omega)) (b1 291 (by decide) (by decide)) h0 hC) (m' := m) ⟨N + t.length + 1, g', by omega, z6⟩
  refine ⟨f1, ?_, q2, q3⟩
  unfold lf_program
  rw [q1]
  rfl
theorem dn_told {m n : Nat} {f F : kMem} {L : List kMem} (hn : n = 2 ∨ n = 4) (h : Pv (m + 17) f L) (hF : ∀ q, q < 25 → f q = F q) {t : List Int32} (ht : t.length ≤ 16 ∧ ∀ x, x ∈ t → ∃ c, c < 128 ∧ x = nI c) (hc : ∀ fT : kMem, fT 275 = f 275 → fT 280 2 = nI t.length → (∀ j, j < t.length → fT 281 j = t.getD j 0) → ∀ z, cx_X11_family fT = some z → z.1 = n) : ∃ f1, lf_told t f = some (if n = 2 then -1001 else -1002, f1) ∧ Pv m f1 L ∧ ∀ q, q < 25 → f1 q = F q := by
  obtain ⟨N, g, hN, hR⟩ := id h.1
  obtain ⟨fT, gT, e1, ⟨b1, b2, b3, b4, b5⟩, hT⟩ := cf_fed t 0 N f g (by omega) ht.2 h.2.1 (by omega) hR
  obtain ⟨z, e, hz, hC, h0⟩ := cg_family (by omega) hT
  obtain ⟨z', bb, g', z1, -, -, -, -, z6⟩ := kp_family (N + t.length) fT gT (by omega) hT
  obtain rfl := Option.some.inj (z1.symm.trans e)
  unfold lf_told lf_feeds
  rw [e1, kbind_s, keq_f (by decide)]
  obtain ⟨f1, q1, q2, q3⟩ := dn_of (n := n) hn h hF e (hc fT (b1 275 (by decide) (by decide)) (by rw [b3, Nat.zero_add]) (fun j hj => by have := b4 j hj; rwa [Nat.zero_add] at this) z' e) (chg_tr2 (fun a ha => b1 a (by omega) (by omega)) (b1 291 (by decide) (by decide)) h0 hC) (m' := m) ⟨N + t.length + 1, g', by omega, z6⟩
  refine ⟨f1, ?_, q2, q3⟩
  unfold lf_family
  rw [q1]
  rfl
theorem pv_asks {m : Nat} {f F : kMem} {L : List kMem} {a : Int64} (h : Pv m f L) (hA : AF F a) (hF : ∀ q, q < 25 → f q = F q) : ∃ f1, lf_asks f = some (a, f1) ∧ Pv m f1 L ∧ ∀ q, q < 25 → f1 q = F q := by
  obtain ⟨h1, h2, h3⟩ := h
  obtain ⟨f1, e1, o1⟩ := hA f (Vb_va h1) hF h2
  exact ⟨f1, e1, ⟨Vb_off o1 h1, by rw [o1 280 (by decide) (by decide)]; exact h2, hc_off o1 h3⟩, fun q hq => (o1 q (by omega) (by omega)).trans (hF q hq)⟩
theorem xc_no4 {m : Nat} {f F : kMem} {L : List kMem} {core : kMem → Option (Int32 × kMem)} {Q : Option (Int32 × kMem)} (h : Xc m f L core Q) (hF : ∀ q, q < 25 → f q = F q) (hk : F 1 0 = 4 ∧ F 1 1 = 4 ∧ F 1 2 = 3 ∧ F 18 0 = 1) {a d : Int32} (hc : ∀ f1 : kMem, f1 1 0 = 4 → f1 1 1 = 4 → f1 1 2 = 3 → f1 18 0 = 1 → core f1 = some (-1, rfC f1 a d)) : ∃ f1, Q = some (-1001, f1) ∧ Pv m f1 L ∧ (∀ q, q < 25 → f1 q = F q) ∧ lf_is f1 0 a d = some (1, f1) ∧ f1 277 2 = 1 :=
  xc_no h hF (fun f1 h1 => hc f1 ((congrFun (h1 1 (by decide)) 0).trans hk.1) ((congrFun (h1 1 (by decide)) 1).trans hk.2.1) ((congrFun (h1 1 (by decide)) 2).trans hk.2.2.1) ((congrFun (h1 18 (by decide)) 0).trans hk.2.2.2))
theorem hk_at {f F : kMem} (hF : ∀ q, q < 25 → f q = F q) (hk : F 1 0 = 4 ∧ F 1 1 = 4 ∧ F 1 2 = 3 ∧ F 18 0 = 1) : f 1 0 = 4 ∧ f 1 1 = 4 ∧ f 1 2 = 3 ∧ f 18 0 = 1 := ⟨(congrFun (hF 1 (by decide)) 0).trans hk.1, (congrFun (hF 1 (by decide)) 1).trans hk.2.1, (congrFun (hF 1 (by decide)) 2).trans hk.2.2.1, (congrFun (hF 18 (by decide)) 0).trans hk.2.2.2⟩
theorem ac4 {f : kMem} (hk : f 1 0 = 4 ∧ f 1 1 = 4 ∧ f 1 2 = 3 ∧ f 18 0 = 1) : lf_account f 0 = some (4, f) ∧ lf_account f 1 = some (4, f) ∧ lf_account f 2 = some (3, f) ∧ lf_account f 3 = some (1, f) :=
  ⟨congrArg (fun q => some (q, f)) hk.1, congrArg (fun q => some (q, f)) hk.2.1, congrArg (fun q => some (q, f)) hk.2.2.1, congrArg (fun q => some (q, f)) hk.2.2.2⟩
set_option maxRecDepth 20000 in
theorem rf_all {m : Nat} {f F : kMem} {L : List kMem} {a : Int64} (hP : Pv (m + 68 + 32) f L) (hF : ∀ q, q < 25 → f q = F q) (hk : F 1 0 = 4 ∧ F 1 1 = 4 ∧ F 1 2 = 3 ∧ F 18 0 = 1) (hA : AF F a) : ∃ f1, lf_refused f = some (1, f1) ∧ Pv m f1 L ∧ ∀ q, q < 25 → f1 q = F q := by
  unfold lf_refused
  obtain ⟨f, e, hP, hF⟩ := pv_asks hP hA hF
  rw [e, mlbind_s]
  obtain ⟨e0, e1, e2, e3⟩ := ac4 (hk_at hF hk)
  rw [e0, kbind_s, e1, kbind_s, e2, kbind_s, e3, kbind_s]
  obtain ⟨f, e, hP, hF, is1, hr⟩ := xc_no4 (xc_colour (m := m + 68 + 31) hP (-1)) hF hk (fun f1 c0 c1 c2 c3 => co_colour_m1 c0 c1 c2 c3)
  rw [e, kbind_s, keq_t rfl]
  rw [is1, kbind_s, keq_f (by decide)]
  obtain ⟨f, e, hP, hF, is1, hr⟩ := xc_no4 (xc_colour (m := m + 68 + 30) hP 10) hF hk (fun f1 c0 c1 c2 c3 => co_colour_10 c0 c1 c2 c3)
  rw [e, kbind_s, keq_t rfl]
  obtain ⟨f, e, hP, hF, is1, hr⟩ := xc_no4 (xc_part (m := m + 68 + 29) hP 0) hF hk (fun f1 c0 c1 c2 c3 => co_part_0 c0 c1 c2 c3)
  rw [e, kbind_s, keq_t rfl]
  obtain ⟨f, e, hP, hF, is1, hr⟩ := xc_no4 (xc_part (m := m + 68 + 28) hP 51) hF hk (fun f1 c0 c1 c2 c3 => co_part_51 c0 c1 c2 c3)
  rw [e, kbind_s, keq_t rfl]
  obtain ⟨f, e, hP, hF, is1, hr⟩ := xc_no4 (xc_mount (m := m + 68 + 27) hP 3) hF hk (fun f1 c0 c1 c2 c3 => co_mount_3 c0 c1 c2 c3)
  rw [e, kbind_s, keq_t rfl]
  rw [is1, kbind_s, keq_f (by decide)]
  obtain ⟨f, e, hP, hF, is1, hr⟩ := xc_no4 (xc_mount (m := m + 68 + 26) hP (-1)) hF hk (fun f1 c0 c1 c2 c3 => co_mount_m1 c0 c1 c2 c3)
  rw [e, kbind_s, keq_t rfl]
  unfold lj_refused_121
  obtain ⟨f, e, hP, hF, is1, hr⟩ := xc_no4 (xc_load (m := m + 68 + 25) hP 3 0 0) hF hk (fun f1 c0 c1 c2 c3 => co_load_3_0_0 c0 c1 c2 c3)
  rw [e, kbind_s, keq_t rfl]
  rw [is1, kbind_s, keq_f (by decide)]
  obtain ⟨f, e, hP, hF, is1, hr⟩ := xc_no4 (xc_load (m := m + 68 + 24) hP 0 4 0) hF hk (fun f1 c0 c1 c2 c3 => co_load_0_4_0 c0 c1 c2 c3)
  rw [e, kbind_s, keq_t rfl]
  rw [is1, kbind_s, keq_f (by decide)]
  obtain ⟨f, e, hP, hF, is1, hr⟩ := xc_no4 (xc_load (m := m + 68 + 23) hP 0 0 0) hF hk (fun f1 c0 c1 c2 c3 => co_load_0_0_0 c0 c1 c2 c3)
  rw [e, kbind_s, keq_t rfl]
  rw [is1, kbind_s, keq_f (by decide)]
  unfold lj_refused_190
  obtain ⟨f, e, hP, hF, is1, hr⟩ := xc_no4 (xc_load (m := m + 68 + 22) hP 0 0 100000) hF hk (fun f1 c0 c1 c2 c3 => co_load_0_0_100000 c0 c1 c2 c3)
  rw [e, kbind_s, keq_t rfl]
  obtain ⟨f, e, hP, hF, is1, hr⟩ := xc_no4 (xc_empty (m := m + 68 + 21) hP 3) hF hk (fun f1 c0 c1 c2 c3 => co_empty_3 c0 c1 c2 c3)
  rw [e, kbind_s, keq_t rfl]
  rw [is1, kbind_s, keq_f (by decide)]
  obtain ⟨f, e, hP, hF, is1, hr⟩ := xc_no4 (xc_empty (m := m + 68 + 20) hP (-1)) hF hk (fun f1 c0 c1 c2 c3 => co_empty_m1 c0 c1 c2 c3)
  rw [e, kbind_s, keq_t rfl]
  unfold lj_refused_237
  obtain ⟨f, e, hP, hF, is1, hr⟩ := xc_no4 (xc_pause (m := m + 68 + 19) hP 0) hF hk (fun f1 c0 c1 c2 c3 => co_pause_0 c0 c1 c2 c3)
  rw [e, kbind_s, keq_t rfl]
  rw [is1, kbind_s, keq_f (by decide)]
  obtain ⟨f, e, hP, hF, is1, hr⟩ := xc_no4 (xc_pause (m := m + 68 + 18) hP 1000) hF hk (fun f1 c0 c1 c2 c3 => co_pause_1000 c0 c1 c2 c3)
  rw [e, kbind_s, keq_t rfl]
  unfold lj_refused_278
  rw [keq_f (by decide)]
  obtain ⟨f, e, hP, hF, is1, hr⟩ := xc_no4 (xc_run (m := m + 68 + 17) hP 4 0) hF hk (fun f1 c0 c1 c2 c3 => co_run_4_0 c0 c1 c2 c3)
  rw [e, kbind_s, keq_t rfl]
  rw [is1, kbind_s, keq_f (by decide)]
  obtain ⟨f, e, hP, hF, is1, hr⟩ := xc_no4 (xc_run (m := m + 68 + 16) hP 0 0) hF hk (fun f1 c0 c1 c2 c3 => co_run_0_0 c0 c1 c2 c3)
  rw [e, kbind_s, keq_t rfl]
  rw [is1, kbind_s, keq_f (by decide)]
  obtain ⟨f, e, hP, hF, is1, hr⟩ := xc_no4 (xc_run (m := m + 68 + 15) hP 0 201) hF hk (fun f1 c0 c1 c2 c3 => co_run_0_201 c0 c1 c2 c3)
  rw [e, kbind_s, keq_t rfl]
  rw [is1, kbind_s, keq_f (by decide)]
  unfold lj_refused_351
  obtain ⟨f, e, hP, hF, is1, hr⟩ := xc_no4 (xc_order (m := m + 68 + 14) hP 4 0 0 0) hF hk (fun f1 c0 c1 c2 c3 => co_order_4_0_0_0 c0 c1 c2 c3)
  rw [e, kbind_s, keq_t rfl]
  rw [is1, kbind_s, keq_f (by decide)]
  obtain ⟨f, e, hP, hF, is1, hr⟩ := xc_no4 (xc_order (m := m + 68 + 13) hP 0 4 0 0) hF hk (fun f1 c0 c1 c2 c3 => co_order_0_4_0_0 c0 c1 c2 c3)
  rw [e, kbind_s, keq_t rfl]
  rw [is1, kbind_s, keq_f (by decide)]
  obtain ⟨f, e, hP, hF, is1, hr⟩ := xc_no4 (xc_order (m := m + 68 + 12) hP 0 0 0 0) hF hk (fun f1 c0 c1 c2 c3 => co_order_0_0_0_0 c0 c1 c2 c3)
  rw [e, kbind_s, keq_t rfl]
  rw [is1, kbind_s, keq_f (by decide)]
  unfold lj_refused_424
  obtain ⟨f, e, hP, hF, is1, hr⟩ := xc_no4 (xc_order (m := m + 68 + 11) hP 0 0 21 0) hF hk (fun f1 c0 c1 c2 c3 => co_order_0_0_21_0 c0 c1 c2 c3)
  rw [e, kbind_s, keq_t rfl]
  obtain ⟨f, e, hP, hF, is1, hr⟩ := xc_no4 (xc_order (m := m + 68 + 10) hP 0 0 1 (-1)) hF hk (fun f1 c0 c1 c2 c3 => co_order_0_0_1_m1 c0 c1 c2 c3)
  rw [e, kbind_s, keq_t rfl]
  obtain ⟨f, e, hP, hF, is1, hr⟩ := xc_no4 (xc_order (m := m + 68 + 9) hP 0 0 1 100) hF hk (fun f1 c0 c1 c2 c3 => co_order_0_0_1_100 c0 c1 c2 c3)
  rw [e, kbind_s, keq_t rfl]
  obtain ⟨f, e, hP, hF, is1, hr⟩ := xc_no4 (xc_callOff (m := m + 68 + 8) hP 1) hF hk (fun f1 c0 c1 c2 c3 => co_callOff_1 c0 c1 c2 c3)
  rw [e, kbind_s, keq_t rfl]
  rw [is1, kbind_s, keq_f (by decide)]
  unfold lj_refused_490
  obtain ⟨f, e, hP, hF, is1, hr⟩ := xc_no4 (xc_set (m := m + 68 + 7) hP 4 0) hF hk (fun f1 c0 c1 c2 c3 => co_set_4_0 c0 c1 c2 c3)
  rw [e, kbind_s, keq_t rfl]
  rw [is1, kbind_s, keq_f (by decide)]
  obtain ⟨f, e, hP, hF, is1, hr⟩ := xc_no4 (xc_set (m := m + 68 + 6) hP (-1) 0) hF hk (fun f1 c0 c1 c2 c3 => co_set_m1_0 c0 c1 c2 c3)
  rw [e, kbind_s, keq_t rfl]
  obtain ⟨f, e, hP, hF, is1, hr⟩ := xc_no4 (xc_set (m := m + 68 + 5) hP 0 59) hF hk (fun f1 c0 c1 c2 c3 => co_set_0_59 c0 c1 c2 c3)
  rw [e, kbind_s, keq_t rfl]
  obtain ⟨f, e, hP, hF, is1, hr⟩ := xc_no4 (xc_set (m := m + 68 + 4) hP 0 10000) hF hk (fun f1 c0 c1 c2 c3 => co_set_0_10000 c0 c1 c2 c3)
  rw [e, kbind_s, keq_t rfl]
  unfold lj_refused_551
  obtain ⟨f, e, hP, hF, is1, hr⟩ := xc_no4 (xc_set (m := m + 68 + 3) hP 1 1000) hF hk (fun f1 c0 c1 c2 c3 => co_set_1_1000 c0 c1 c2 c3)
  rw [e, kbind_s, keq_t rfl]
  obtain ⟨f, e, hP, hF, is1, hr⟩ := xc_no4 (xc_set (m := m + 68 + 2) hP 2 6) hF hk (fun f1 c0 c1 c2 c3 => co_set_2_6 c0 c1 c2 c3)
  rw [e, kbind_s, keq_t rfl]
  obtain ⟨f, e, hP, hF, is1, hr⟩ := xc_no4 (xc_set (m := m + 68 + 1) hP 3 100) hF hk (fun f1 c0 c1 c2 c3 => co_set_3_100 c0 c1 c2 c3)
  rw [e, kbind_s, keq_t rfl]
  obtain ⟨f, e, hP, hF, is1, hr⟩ := xc_no4 (xc_set (m := m + 68 + 0) hP 3 (-1)) hF hk (fun f1 c0 c1 c2 c3 => co_set_3_m1 c0 c1 c2 c3)
  rw [e, kbind_s, keq_t rfl]
  unfold lj_refused_610
  rw [keq_f (by decide)]
  obtain ⟨c0, c1, c2, c3⟩ := hk_at hF hk
  rw [cq_purge_4_0 c0 c1 c2 c3, kbind_s, keq_t rfl]
  rw [cq_purge_0_m1 c0 c1 c2 c3, kbind_s, keq_t rfl]
  rw [cq_minutes_4_0 c0 c1 c2 c3, kbind_s, keq_t rfl]
  rw [cq_minutes_0_0 c0 c1 c2 c3, kbind_s, keq_t rfl]
  unfold lj_refused_663
  rw [cq_minutes_0_201 c0 c1 c2 c3, kbind_s, keq_t rfl]
  rw [cq_best_m1 c0 c1 c2 c3, kbind_s, keq_t rfl]
  rw [show (1 : Int32) <<< ((4 : Int32) &&& 31) = 16 from by decide, cq_best_16 c0 c1 c2 c3, kbind_s, keq_t rfl]
  rw [cq_familyOf_3_9 c0 c1 c2 c3, kbind_s, keq_t rfl]
  rw [cq_familyOf_0_5 c0 c1 c2 c3, kbind_s, keq_t rfl]
  unfold lj_refused_727
  rw [cq_pieces_0_4 c0 c1 c2 c3, kbind_s, keq_t rfl]
  rw [cq_pieces_3_0 c0 c1 c2 c3, kbind_s, keq_t rfl]
  rw [cq_families_4 c0 c1 c2 c3, kbind_s, keq_t rfl]
  rw [cq_dryer_3_9 c0 c1 c2 c3, kbind_s, keq_t rfl]
  rw [cq_dryer_0_4 c0 c1 c2 c3, kbind_s, keq_t rfl]
  rw [cq_dryer_0_m1 c0 c1 c2 c3, kbind_s, keq_t rfl]
  unfold lj_refused_802
  rw [cq_stock_4_0_0 c0 c1 c2 c3, kbind_s, keq_t rfl]
  rw [cq_stock_0_4_9 c0 c1 c2 c3, kbind_s, keq_t rfl]
  rw [cq_stock_0_0_3 c0 c1 c2 c3, kbind_s, keq_t rfl]
  rw [cq_made_4_0 c0 c1 c2 c3, kbind_s, keq_t rfl]
  rw [cq_made_0_4 c0 c1 c2 c3, kbind_s, keq_t rfl]
  unfold lj_refused_868
  rw [cq_orderOf_1_9 c0 c1 c2 c3, kbind_s, keq_t rfl]
  rw [cq_shots_1 c0 c1 c2 c3, kbind_s, keq_t rfl]
  rw [cq_letter_1 c0 c1 c2 c3, kbind_s, keq_t rfl]
  rw [cq_due_m1 c0 c1 c2 c3, kbind_s, keq_t rfl]
  unfold lj_refused_917
  rw [cq_reason_m1_1 c0 c1 c2 c3 hr, kbind_s, keq_t rfl]
  rw [cq_reason_9_1 c0 c1 c2 c3 hr, kbind_s, keq_t rfl]
  rw [cq_account_19 c0 c1 c2 c3, kbind_s, keq_t rfl]
  rw [cq_account_m1 c0 c1 c2 c3, kbind_s, keq_t rfl]
  unfold lj_refused_972
  rw [keq_f (by decide)]
  obtain ⟨f, e, hP, hF⟩ := dn_does (m := m + 51) (n := 4) (Or.inr rfl) hP hF (mLit_ok "w0" (by decide)) (fun fT h5 h2 hj z => pg_w0 hP.2.2 h5 h2 (hj 0 (by decide)) (hj 1 (by decide)) z)
  rw [e, kbind_s, keq_t (if_neg (by decide))]
  obtain ⟨f, e, hP, hF⟩ := dn_does (m := m + 34) (n := 2) (Or.inl rfl) hP hF (mLit_ok "q" (by decide)) (fun fT h5 h2 hj z => pg_q h2 (hj 0 (by decide)) z)
  rw [e, kbind_s, keq_t (if_pos rfl)]
  obtain ⟨f, e, hP, hF⟩ := dn_told (m := m + 17) (n := 4) (Or.inr rfl) hP hF (mLit_ok "0 0 0x0" (by decide)) (fun fT h5 h2 hj z => fm_0 hP.2.2 h5 h2 (hj 0 (by decide)) (hj 1 (by decide)) (hj 2 (by decide)) (hj 3 (by decide)) (hj 4 (by decide)) (hj 5 (by decide)) (hj 6 (by decide)) z)
  rw [e, kbind_s, keq_t (if_neg (by decide))]
  obtain ⟨f, e, hP, hF⟩ := dn_told (m := m) (n := 2) (Or.inl rfl) hP hF (mLit_ok "q" (by decide)) (fun fT h5 h2 hj z => fm_q h2 (hj 0 (by decide)) z)
  rw [e, kbind_s, keq_t (if_pos rfl)]
  obtain ⟨f, e, hP, hF⟩ := pv_asks hP hA hF
  rw [e, mlbind_s, mleq_t rfl]
  exact ⟨f, rfl, hP, hF⟩
theorem j610 {Z : mZ} {f : kMem} {L : List kMem} (hP : Pv (10 + 17 * 12 + 1 + 68 + 32) f L) (hk : f 1 0 = 4 ∧ f 1 1 = 4 ∧ f 1 2 = 3 ∧ f 18 0 = 1) : ∃ z, lj_law_610 Z f = some z := by
  obtain ⟨a, hA⟩ := af_of (Vb_va hP.1) hP.2.1
  unfold lj_law_610
  obtain ⟨f1, e, hP1, hF1⟩ := pv_asks hP hA (fun _ _ => rfl)
  rw [e, mlbind_s]
  obtain ⟨f2, e, hP2, hF2⟩ := pv_asks hP1 hA hF1
  rw [e, mlbind_s, mleq_t rfl]
  obtain ⟨f3, e, hP3, hF3⟩ := rf_all hP2 hF2 hk hA
  rw [e, kbind_s, keq_f (by decide)]
  exact j633 hP3.1 hP3.2.1 hP3.2.2 (af_fl hA hF3) (hk_at hF3 hk).2.2.2
