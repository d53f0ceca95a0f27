/-! load, mount, pause, order -/
theorem kmx_1 (x : Int32) : (1 : Int32) ≤ kmax 1 x := by
  unfold kmax
  split
  · first | exact Int32.le_refl _ | (rename_i h; first | exact h | exact Int32.le_of_lt h)
  · first | exact Int32.le_refl _ | (rename_i h; exact Int32.le_of_lt (Int32.not_le.mp h)) | (rename_i h; exact Int32.not_lt.mp h)
theorem ps_loop : ∀ (b n a : Nat) (f : kMem), b < n → a + b < 5000 → f 18 0 = 0 → ∃ c g, cl_X4_pass_22 passY n f (nI a) (nI b) = some (nI c, g) ∧ c < 5000 ∧ (∀ q, q ≠ 0 → g q = f q) ∧ ∀ k, k ≠ 5 → k ≠ 6 → g 0 k = f 0 k := by
  intro b
  induction b using Nat.strongRecOn with
  | ind b ih =>
  intro n a f hn ha h18
  obtain ⟨n, rfl⟩ : ∃ n', n = n' + 1 := ⟨n - 1, by omega⟩
  rw [cl_X4_pass_22.eq_2]
  by_cases h0 : b = 0
  · subst h0
    exact ⟨a, f, by rw [kle_t (show nI 0 ≤ 0 by decide)], by omega, fun _ _ => rfl, fun _ _ _ => rfl⟩
  rw [kle_f (show ¬ nI b ≤ 0 from fun k => by have := (nI_le_iff (b := 0) (by omega) (by omega)).mp k; omega), klet_s]
  by_cases hu : kmax 1 (f 7 0 - f 0 6) ≤ nI b
  · have h1 := kmx_1 (f 7 0 - f 0 6)
    rw [kle_t hu]
    generalize kmax 1 (f 7 0 - f 0 6) = u at hu h1
    obtain ⟨u', hu', rfl⟩ := nI_rng (x := u) (k := b + 1) (by omega) (Int32.le_trans (show (0 : Int32) ≤ 1 by decide) h1) (Int32.lt_of_le_of_lt hu ((nI_lt_iff (by omega) (by omega)).mpr (by omega)))
    have h1' : 1 ≤ u' := (nI_le_iff (a := 1) (by omega) (by omega)).mp h1
    have ew : cf_X6_endWeek (kup f 0 6 0) (kup f 0 6 0 0 5) = some (0, kup f 0 6 0) := by
      unfold cf_X6_endWeek
      rw [show (100 : Nat) = 99 + 1 from rfl, cl_X6_endWeek_2.eq_2, kup_ne (b := 18) _ _ _ (by decide), h18, kle_t (by decide)]
    rw [klet_s, nI_sub (by omega), kmem_s, ew, kbind_s, kmem_s, klet_s, show nI a + Int32.ofInt 1 = nI (a + 1) from nI_1 _]
    obtain ⟨c, g, e, c1, c2, c3⟩ := ih (b - u') (by omega) n (a + 1) (kup (kup f 0 6 0) 0 5 (kup f 0 6 0 0 5 + 1)) (by omega) (by omega) (by rw [kup_ne _ _ _ (by decide), kup_ne _ _ _ (by decide)]; exact h18)
    exact ⟨c, g, e, c1, fun q hq => (c2 q hq).trans (by rw [kup_ne _ _ _ hq, kup_ne _ _ _ hq]), fun k k5 k6 => (c3 k k5 k6).trans (by rw [kup_nk k5, kup_nk k6])⟩
  · rw [kle_f hu]
    exact ⟨a, kup f 0 6 (f 0 6 + nI b), rfl, by omega, fun q hq => kup_ne _ _ _ hq, fun k _ k6 => kup_nk k6⟩
theorem dr_one {f : kMem} {x : Int32} (h0 : f 9 0 = 0) (h1 : f 9 1 = -1) (h2 : f 9 2 = -1) : ∃ g, cf_X2_dry f x = some (0, g) ∧ g 11 0 = f 11 0 + x ∧ ∀ a, a ≠ 11 → g a = f a := by
  have a0 : Int32.toNatClampNeg 0 = 0 := by decide
  have a1 : Int32.toNatClampNeg 1 = 1 := by decide
  have a2 : Int32.toNatClampNeg 2 = 2 := by decide
  have b0 : (0 : Int32) + Int32.ofInt 1 = 1 := by decide
  have b1 : (1 : Int32) + Int32.ofInt 1 = 2 := by decide
  have b2 : (2 : Int32) + Int32.ofInt 1 = 3 := by decide
  refine ⟨kup (kup (kup f 11 0 (f 11 0 + x)) 11 1 (f 11 1 + 0)) 11 2 (f 11 2 + 0), ?_, ?_, fun a ha => by rw [kup_ne _ _ _ ha, kup_ne _ _ _ ha, kup_ne _ _ _ ha]⟩
  · unfold cf_X2_dry
    rw [show (100 : Nat) = 96 + 1 + 1 + 1 + 1 from rfl, cl_X2_dry_2.eq_2, kle_f (by decide), kchk_t (by decide), kchk_t (by decide), a0, keq_f (by rw [h0]; decide), kchk_t (by decide), kmem_s, klet_s, b0]
    rw [cl_X2_dry_2.eq_2, kle_f (by decide), kchk_t (by decide), kchk_t (by decide), a1, keq_t (by rw [kup_ne _ _ _ (by decide)]; exact h1), kchk_t (by decide), kmem_s, klet_s, b1, kup_nk (j := 1) (by decide)]
    rw [cl_X2_dry_2.eq_2, kle_f (by decide), kchk_t (by decide), kchk_t (by decide), a2, keq_t (by rw [kup_ne _ _ _ (by decide), kup_ne _ _ _ (by decide)]; exact h2), kchk_t (by decide), kmem_s, klet_s, b2, kup_nk (j := 2) (by decide), kup_nk (j := 2) (by decide)]
    rw [cl_X2_dry_2.eq_2, kle_t (by decide)]
  · rw [kup_nk (by decide), kup_nk (by decide), kup_at]
theorem ps_pass {f : kMem} {M : Nat} (hM : M < 1000) (h18 : f 18 0 = 0) (h0 : f 9 0 = 0) (h1 : f 9 1 = -1) (h2 : f 9 2 = -1) : ∃ e g, cf_X4_pass f (nI M) = some (nI e, g) ∧ e < 5000 ∧ g 11 0 = f 11 0 + nI M ∧ (∀ q, q ≠ 0 → q ≠ 11 → g q = f q) ∧ ∀ k, k ≠ 4 → k ≠ 5 → k ≠ 6 → g 0 k = f 0 k := by
  obtain ⟨g1, e1, d1, d2⟩ := dr_one (x := nI M) h0 h1 h2
  obtain ⟨e, g, e2, c1, c2, c3⟩ := ps_loop M 100000 0 (kup g1 0 4 (g1 0 4 + nI M)) (by omega) (by omega) (by rw [kup_ne _ _ _ (by decide), d2 18 (by decide)]; exact h18)
  refine ⟨e, g, ?_, c1, ?_, fun q q0 q1 => (c2 q q0).trans ((kup_ne _ _ _ q0).trans (d2 q q1)), fun k k4 k5 k6 => (c3 k k5 k6).trans ((kup_nk k4).trans (congrFun (d2 0 (by decide)) k))⟩
  · unfold cf_X4_pass
    rw [e1, kbind_s, kmem_s]
    exact e2
  · rw [c2 11 (by decide), kup_ne _ _ _ (by decide)]
    exact d1
def Wf (f : kMem) (s1 s3 w M : Nat) (mt o : Int32) : Prop := f 1 0 = 4 ∧ f 1 1 = 4 ∧ f 1 2 = 3 ∧ f 5 0 = nI w ∧ f 7 1 = nI s1 ∧ f 7 3 = nI s3 ∧ f 9 0 = 0 ∧ f 9 1 = -1 ∧ f 9 2 = -1 ∧ f 10 0 = 50000 ∧ f 11 0 = nI M ∧ f 0 7 = -1 ∧ f 0 8 = mt ∧ f 18 0 = o
theorem wf_fr {f g : kMem} {s1 s3 w M M' : Nat} {mt mt' o : Int32} (h : Wf f s1 s3 w M mt o) (hq : ∀ q, q < 25 → q ≠ 0 → q ≠ 11 → g q = f q) (h7 : g 0 7 = f 0 7) (h8 : g 0 8 = mt') (h11 : g 11 0 = nI M') : Wf g s1 s3 w M' mt' o := by
  obtain ⟨a1, a2, a3, a4, a5, a6, a7, a8, a9, a10, a11, a12, a13, a14⟩ := h
  have k : ∀ q, q < 25 → q ≠ 0 → q ≠ 11 → ∀ j, g q j = f q j := fun q x y z j => congrFun (hq q x y z) j
  exact ⟨(k 1 (by decide) (by decide) (by decide) 0).trans a1, (k 1 (by decide) (by decide) (by decide) 1).trans a2, (k 1 (by decide) (by decide) (by decide) 2).trans a3, (k 5 (by decide) (by decide) (by decide) 0).trans a4, (k 7 (by decide) (by decide) (by decide) 1).trans a5, (k 7 (by decide) (by decide) (by decide) 3).trans a6, (k 9 (by decide) (by decide) (by decide) 0).trans a7, (k 9 (by decide) (by decide) (by decide) 1).trans a8, (k 9 (by decide) (by decide) (by decide) 2).trans a9, (k 10 (by decide) (by decide) (by decide) 0).trans a10, h11, h7.trans a12, h8, (k 18 (by decide) (by decide) (by decide) 0).trans a14⟩
theorem cn_load {f : kMem} (c0 : f 1 0 = 4) (h9 : f 9 0 = -1) (h10 : f 10 0 = 0) : cf_X4_loadDryer f 0 0 50000 = some (50000, kup (kup (kup f 9 0 0) 10 0 50000) 11 0 0) := by
  have a0 : Int32.toNatClampNeg 0 = 0 := by decide
  have e1 : cf_X0_isColour f 0 = some (1, f) := by
    simp [cf_X0_isColour, cf_X11_isWithin, kbind, kchk, klt, kbool, c0]
  have e2 : cf_X2_fill f 0 0 50000 = some (50000, kup (kup (kup f 9 0 0) 10 0 50000) 11 0 0) := by
    unfold cf_X2_fill cf_X11_isWithin cj_X2_fill_52
    rw [klt_f (by decide), klt_f (by decide), kbind_s, keq_f (by decide), kchk_t (by decide), a0, keq_t h9, kchk_t (by decide), h10, kle_t (by decide), kchk_t (by decide), kmem_s, kchk_t (by decide), kchk_t (by decide), kup_ne (b := 10) _ _ _ (by decide), h10, show (0 : Int32) + 50000 = 50000 by decide, kmem_s, kchk_t (by decide), kmem_s, kchk_t (by decide), kup_ne (b := 10) _ _ _ (by decide), kup_at]
  unfold cf_X4_loadDryer cf_X11_isWithin
  rw [klt_f (by decide), klt_f (by decide), kbind_s, keq_f (by decide), e1, kbind_s, keq_f (by decide), e2, kbind_s]
theorem wd_load {m a b : Nat} {f : kMem} {L : List kMem} {s : Nat → Int32} (h : Mt (m + 1) f L s) (h1 : s 1 = nI a) (h3 : s 3 = nI b) : ∃ f1 L1 w, lf_load f 0 0 50000 = some (50000, f1) ∧ w < 100 ∧ Pv m f1 L1 ∧ Wf f1 a b w 0 (-1) 0 := by
  obtain ⟨hP, c0, c1, c2, ⟨w, hw, c5⟩, c7, hf⟩ := h
  have x9 : f 9 = f0 9 := hf 9 (by decide) (by decide) (by decide) (by decide) (by decide) (by decide) (by decide) (by decide)
  have x10 : f 10 = f0 10 := hf 10 (by decide) (by decide) (by decide) (by decide) (by decide) (by decide) (by decide) (by decide)
  have x0 : f 0 = f0 0 := hf 0 (by decide) (by decide) (by decide) (by decide) (by decide) (by decide) (by decide) (by decide)
  have x18 : f 18 = f0 18 := hf 18 (by decide) (by decide) (by decide) (by decide) (by decide) (by decide) (by decide) (by decide)
  obtain ⟨r, f1, f2, e, -, hP1, ⟨rfl, q0⟩, hk⟩ := xc_yes (xc_load hP 0 0 50000) (P := fun r f2 => r = 50000 ∧ ∀ q, q < 25 → f2 q = kup (kup (kup f 9 0 0) 10 0 50000) 11 0 0 q) (fun f1 b1 _ => by
    refine ⟨_, _, cn_load (f := f1) (by rw [b1 1 (by decide)]; exact c0) (by rw [b1 9 (by decide), x9]; decide) (by rw [b1 10 (by decide), x10]; decide), by decide, rfl, fun q hq => ?_⟩
    unfold kup
    rw [b1 q hq])
  have k : ∀ q, q < 25 → q ≠ 9 → q ≠ 10 → q ≠ 11 → f1 q = f q := fun q hq h9 h10 h11 => (hk q (by omega)).trans ((q0 q hq).trans (by rw [kup_ne _ _ _ h11, kup_ne _ _ _ h10, kup_ne _ _ _ h9]))
  have k9 : f1 9 = upd (f0 9) 0 0 := (hk 9 (by decide)).trans ((q0 9 (by decide)).trans (by rw [kup_ne _ _ _ (by decide), kup_ne _ _ _ (by decide), kup_eq, x9]))
  have k10 : f1 10 0 = 50000 := (congrFun ((hk 10 (by decide)).trans (q0 10 (by decide))) 0).trans (by rw [kup_ne _ _ _ (by decide), kup_at])
  have k11 : f1 11 0 = 0 := (congrFun ((hk 11 (by decide)).trans (q0 11 (by decide))) 0).trans kup_at
  have k1 := k 1 (by decide) (by decide) (by decide) (by decide)
  have k5 := k 5 (by decide) (by decide) (by decide) (by decide)
  have k7 := k 7 (by decide) (by decide) (by decide) (by decide)
  have k0 := k 0 (by decide) (by decide) (by decide) (by decide)
  have k18 := k 18 (by decide) (by decide) (by decide) (by decide)
  exact ⟨f1, _, w, e, hw, hP1, by rw [k1]; exact c0, by rw [k1]; exact c1, by rw [k1]; exact c2, by rw [k5]; exact c5, by rw [k7, c7]; exact h1, by rw [k7, c7]; exact h3, by rw [k9]; exact upd_eq, by rw [k9, upd_ne (by decide)]; decide, by rw [k9, upd_ne (by decide)]; decide, k10, k11, by rw [k0, x0]; decide, by rw [k0, x0]; decide, by rw [k18, x18]; decide⟩
theorem wd_mount {m a b w : Nat} {f : kMem} {L : List kMem} (hP : Pv (m + 1) f L) (hW : Wf f a b w 0 (-1) 0) (hb : b < 40) : ∃ r f1 L1, lf_mount f 0 = some (r, f1) ∧ ¬ r < 0 ∧ Pv m f1 L1 ∧ Wf f1 a b w b 0 0 := by
  obtain ⟨a1, a2, a3, a4, a5, a6, a7, a8, a9, a10, a11, a12, a13, a14⟩ := id hW
  obtain ⟨r, f1, f2, e, hr, hP1, q0, hk⟩ := xc_yes (xc_mount hP 0) (P := fun r f2 => Wf f2 a b w b 0 0) (fun f1 b1 _ => by
    have e1 : cf_X0_isFamily f1 0 = some (1, f1) := by
      have c2 : f1 1 2 = 3 := by rw [b1 1 (by decide)]; exact a3
      simp [cf_X0_isFamily, cf_X11_isWithin, kbind, kchk, klt, kbool, c2]
    have n : ∀ q, q ≠ 0 → q < 25 → kup f1 0 8 0 q = f q := fun q h0 hq => (kup_ne _ _ _ h0).trans (b1 q hq)
    obtain ⟨e', g, e2, l, d1, d2, d3⟩ := ps_pass (f := kup f1 0 8 0) (M := b) (by omega) (by rw [n 18 (by decide) (by decide)]; exact a14) (by rw [n 9 (by decide) (by decide)]; exact a7) (by rw [n 9 (by decide) (by decide)]; exact a8) (by rw [n 9 (by decide) (by decide)]; exact a9)
    refine ⟨nI e', g, ?_, nI_km (by omega), wf_fr hW (fun q hq q0 q1 => (d2 q q0 q1).trans (n q q0 hq)) ?_ ?_ ?_⟩
    · unfold cf_X4_mountFamily
      rw [e1, kbind_s, keq_f (by decide), keq_f (by rw [b1 0 (by decide), a13]; decide), kmem_s, show kup f1 0 8 0 7 3 = nI b by rw [n 7 (by decide) (by decide)]; exact a6, e2, kbind_s]
    · rw [d3 7 (by decide) (by decide) (by decide), kup_nk (by decide), b1 0 (by decide)]
    · rw [d3 8 (by decide) (by decide) (by decide), kup_at]
    · rw [d1, n 11 (by decide) (by decide), a11, nI_add, Nat.zero_add])
  exact ⟨r, f1, _, e, hr, hP1, wf_fr q0 (fun q hq _ _ => hk q (by omega)) (congrFun (hk 0 (by decide)) 7) ((congrFun (hk 0 (by decide)) 8).trans q0.2.2.2.2.2.2.2.2.2.2.2.2.1) ((congrFun (hk 11 (by decide)) 0).trans q0.2.2.2.2.2.2.2.2.2.2.1)⟩
theorem wd_pause {m a b w M : Nat} {f : kMem} {L : List kMem} (hP : Pv (m + 1) f L) (hW : Wf f a b w M 0 0) : ∃ r f1 L1, lf_pause f 99 = some (r, f1) ∧ ¬ r < 0 ∧ Pv m f1 L1 ∧ Wf f1 a b w (M + 99) 0 0 := by
  obtain ⟨a1, a2, a3, a4, a5, a6, a7, a8, a9, a10, a11, a12, a13, a14⟩ := id hW
  obtain ⟨r, f1, f2, e, hr, hP1, q0, hk⟩ := xc_yes (xc_pause hP 99) (P := fun r f2 => Wf f2 a b w (M + 99) 0 0) (fun f1 b1 _ => by
    obtain ⟨e', g, e2, l, d1, d2, d3⟩ := ps_pass (f := f1) (M := 99) (by omega) (by rw [b1 18 (by decide)]; exact a14) (by rw [b1 9 (by decide)]; exact a7) (by rw [b1 9 (by decide)]; exact a8) (by rw [b1 9 (by decide)]; exact a9)
    refine ⟨nI e', g, ?_, nI_km (by omega), wf_fr hW (fun q hq q0 q1 => (d2 q q0 q1).trans (b1 q hq)) ?_ ?_ ?_⟩
    · unfold cf_X4_waitMinutes cf_X11_isWithin
      have e2' : cf_X4_pass f1 99 = some (nI e', g) := e2
      rw [klt_f (by decide), klt_f (by decide), kbind_s, keq_f (by decide), e2', kbind_s]
    · rw [d3 7 (by decide) (by decide) (by decide), b1 0 (by decide)]
    · rw [d3 8 (by decide) (by decide) (by decide), b1 0 (by decide)]
      exact a13
    · rw [d1, b1 11 (by decide), a11, nI_add])
  exact ⟨r, f1, _, e, hr, hP1, wf_fr q0 (fun q hq _ _ => hk q (by omega)) (congrFun (hk 0 (by decide)) 7) ((congrFun (hk 0 (by decide)) 8).trans q0.2.2.2.2.2.2.2.2.2.2.2.2.1) ((congrFun (hk 11 (by decide)) 0).trans q0.2.2.2.2.2.2.2.2.2.2.1)⟩
theorem cn_order {f : kMem} (c0 : f 1 0 = 4) (c1 : f 1 1 = 4) (h : f 18 0 = 0) : ∃ g, cf_X4_addOrder f 0 0 2 1 = some (0, g) ∧ g 18 0 = 1 ∧ ∀ a, a < 18 → g a = f a := by
  have a0 : Int32.toNatClampNeg 0 = 0 := by decide
  have e1 : cf_X0_isColour f 0 = some (1, f) := by
    simp [cf_X0_isColour, cf_X11_isWithin, kbind, kchk, klt, kbool, c0]
  have e2 : cf_X0_isPart f 0 = some (1, f) := by
    simp [cf_X0_isPart, cf_X11_isWithin, kbind, kchk, klt, kbool, c1]
  have e3 : cf_X6_add f 0 0 2 1 = some (0, kup (kup (kup (kup (kup (kup (kup f 19 0 0) 20 0 0) 21 0 2) 22 0 1) 23 0 0) 24 0 0) 18 0 1) := by
    unfold cf_X6_add cf_X11_isWithin
    rw [klt_f (by decide), klt_f (by decide), kbind_s, keq_f (by decide), klt_f (by decide), klt_f (by decide), kbind_s, keq_f (by decide), h, klt_t (by decide), kchk_t (by decide), a0, kmem_s]
    rw [kup_ne (b := 18) _ _ _ (by decide), h, kchk_t (by decide), a0, kmem_s]
    rw [kup_ne (b := 18) _ _ _ (by decide), kup_ne (b := 18) _ _ _ (by decide), h, kchk_t (by decide), a0, kmem_s]
    rw [kup_ne (b := 18) _ _ _ (by decide), kup_ne (b := 18) _ _ _ (by decide), kup_ne (b := 18) _ _ _ (by decide), h, kchk_t (by decide), a0, kmem_s]
    rw [kup_ne (b := 18) _ _ _ (by decide), kup_ne (b := 18) _ _ _ (by decide), kup_ne (b := 18) _ _ _ (by decide), kup_ne (b := 18) _ _ _ (by decide), h, kchk_t (by decide), a0, kmem_s]
    rw [kup_ne (b := 18) _ _ _ (by decide), kup_ne (b := 18) _ _ _ (by decide), kup_ne (b := 18) _ _ _ (by decide), kup_ne (b := 18) _ _ _ (by decide), kup_ne (b := 18) _ _ _ (by decide), h, kchk_t (by decide), a0, kmem_s]
    rw [kup_ne (b := 18) _ _ _ (by decide), kup_ne (b := 18) _ _ _ (by decide), kup_ne (b := 18) _ _ _ (by decide), kup_ne (b := 18) _ _ _ (by decide), kup_ne (b := 18) _ _ _ (by decide), kup_ne (b := 18) _ _ _ (by decide), h, show (0 : Int32) + 1 = 1 by decide, kmem_s, kup_at, show (1 : Int32) - 1 = 0 by decide]
  refine ⟨kup (kup (kup (kup (kup (kup (kup f 19 0 0) 20 0 0) 21 0 2) 22 0 1) 23 0 0) 24 0 0) 18 0 1, ?_, kup_at, fun a ha => by rw [kup_ne _ _ _ (by omega), kup_ne _ _ _ (by omega), kup_ne _ _ _ (by omega), kup_ne _ _ _ (by omega), kup_ne _ _ _ (by omega), kup_ne _ _ _ (by omega), kup_ne _ _ _ (by omega)]⟩
  unfold cf_X4_addOrder
  rw [e2, kbind_s, keq_f (by decide), e1, kbind_s, keq_f (by decide), e3, kbind_s]
theorem wd_order {m a b w M : Nat} {f : kMem} {L : List kMem} (hP : Pv (m + 1) f L) (hW : Wf f a b w M 0 0) : ∃ f1 L1, lf_order f 0 0 2 1 = some (0, f1) ∧ Pv m f1 L1 ∧ Wf f1 a b w M 0 1 := by
  obtain ⟨a1, a2, a3, a4, a5, a6, a7, a8, a9, a10, a11, a12, a13, a14⟩ := id hW
  obtain ⟨r, f1, f2, e, hr, hP1, ⟨rfl, q0, q1⟩, hk⟩ := xc_yes (xc_order hP 0 0 2 1) (P := fun r f2 => r = 0 ∧ f2 18 0 = 1 ∧ ∀ q, q < 18 → f2 q = f q) (fun f1 b1 _ => by
    obtain ⟨g, e, g1, g2⟩ := cn_order (f := f1) (by rw [b1 1 (by decide)]; exact a1) (by rw [b1 1 (by decide)]; exact a2) (by rw [b1 18 (by decide)]; exact a14)
    exact ⟨_, g, e, by decide, rfl, g1, fun q hq => (g2 q hq).trans (b1 q (by omega))⟩)
  have k : ∀ q, q < 18 → ∀ j, f1 q j = f q j := fun q hq j => congrFun ((hk q (by omega)).trans (q1 q hq)) j
  exact ⟨f1, _, e, hP1, (k 1 (by decide) 0).trans a1, (k 1 (by decide) 1).trans a2, (k 1 (by decide) 2).trans a3, (k 5 (by decide) 0).trans a4, (k 7 (by decide) 1).trans a5, (k 7 (by decide) 3).trans a6, (k 9 (by decide) 0).trans a7, (k 9 (by decide) 1).trans a8, (k 9 (by decide) 2).trans a9, (k 10 (by decide) 0).trans a10, (k 11 (by decide) 0).trans a11, (k 0 (by decide) 7).trans a12, (k 0 (by decide) 8).trans a13, (congrFun (hk 18 (by decide)) 0).trans q0⟩
