/-! a family that is taken: the core's exact answer, and told -/
theorem fz_zero {Y : kMem → Option (Int32 × kMem)} {f : kMem} {q : Nat} (h2 : f 282 2 = nI q) (hq : q ≤ 3) (h4 : ∀ j, j < q → f 284 j ≠ 0) : ∀ (k i n : Nat), i + k = q → k < n → cl_X3_hasZero_2 Y n f (nI i) = Y f := by
  intro k
  induction k with
  | zero =>
    intro i n hi hn
    obtain ⟨n, rfl⟩ : ∃ n', n = n' + 1 := ⟨n - 1, by omega⟩
    rw [cl_X3_hasZero_2.eq_2, h2, kle_t (le_nI (by omega) (by omega) (by omega))]
  | succ k ih =>
    intro i n hi hn
    obtain ⟨n, rfl⟩ : ∃ n', n = n' + 1 := ⟨n - 1, by omega⟩
    rw [cl_X3_hasZero_2.eq_2, h2, kle_f (nle_nI (by omega) (by omega) (by omega)), kchk_t (nI_kin (by omega) (by decide)), nI_clamp (by omega), keq_f (h4 i (by omega)), klet_s, show nI i + Int32.ofInt 1 = nI (i + 1) from nI_1 _]
    exact ih (i + 1) n (by omega) (by omega)
theorem fz_high {f : kMem} {q : Nat} (h2 : f 282 2 = nI q) (hq : q ≤ 3) (h3 : ∀ j, j < q → ∃ a, a < 4 ∧ f 283 j = nI a) : ∀ (k i n m : Nat), i + k = q → k < n → m < 4 → ∃ m', m' < 4 ∧ cl_X3_highestPart_4 n f (nI m) (nI i) = some (nI m', f) := by
  intro k
  induction k with
  | zero =>
    intro i n m hi hn hm
    obtain ⟨n, rfl⟩ : ∃ n', n = n' + 1 := ⟨n - 1, by omega⟩
    refine ⟨m, hm, ?_⟩
    rw [cl_X3_highestPart_4.eq_2, h2, kle_t (le_nI (by omega) (by omega) (by omega))]
  | succ k ih =>
    intro i n m hi hn hm
    obtain ⟨n, rfl⟩ : ∃ n', n = n' + 1 := ⟨n - 1, by omega⟩
    obtain ⟨a, ha, e⟩ := h3 i (by omega)
    rw [cl_X3_highestPart_4.eq_2, h2, kle_f (nle_nI (by omega) (by omega) (by omega)), kchk_t (nI_kin (by omega) (by decide)), nI_clamp (by omega), e, kmax_nI (by omega) (by omega), klet_s, klet_s, show nI i + Int32.ofInt 1 = nI (i + 1) from nI_1 _]
    exact ih (i + 1) n (max m a) (by omega) (by omega) (by omega)
theorem fz_in {Y : kMem → Int32 → Option (Int32 × kMem)} {f : kMem} {i : Nat} (hi : i < 3) (h3 : ∀ j, j < i → f 283 j ≠ f 283 i) : ∀ (k j n : Nat), j + k = i → k < n → cl_X3_partTwice_12 Y n f (nI i) (nI j) = Y f (nI i) := by
  intro k
  induction k with
  | zero =>
    intro j n hj hn
    obtain ⟨n, rfl⟩ : ∃ n', n = n' + 1 := ⟨n - 1, by omega⟩
    rw [cl_X3_partTwice_12.eq_2, kle_t (le_nI (by omega) (by omega) (by omega))]
  | succ k ih =>
    intro j n hj hn
    obtain ⟨n, rfl⟩ : ∃ n', n = n' + 1 := ⟨n - 1, by omega⟩
    rw [cl_X3_partTwice_12.eq_2, kle_f (nle_nI (by omega) (by omega) (by omega)), kchk_t (nI_kin (by omega) (by decide)), kchk_t (nI_kin (by omega) (by decide)), nI_clamp (by omega), nI_clamp (by omega), keq_f (h3 j (by omega)), klet_s, show nI j + Int32.ofInt 1 = nI (j + 1) from nI_1 _]
    exact ih (j + 1) n (by omega) (by omega)
theorem fz_out {f : kMem} {q : Nat} (h2 : f 282 2 = nI q) (hq : q ≤ 3) (h3 : ∀ i j, j < i → i < q → f 283 j ≠ f 283 i) : ∀ (k i n : Nat), i + k = q → k < n → cl_X3_partTwice_2 n f (nI i) = some (-1, f) := by
  intro k
  induction k with
  | zero =>
    intro i n hi hn
    obtain ⟨n, rfl⟩ : ∃ n', n = n' + 1 := ⟨n - 1, by omega⟩
    rw [cl_X3_partTwice_2.eq_2, h2, kle_t (le_nI (by omega) (by omega) (by omega))]
  | succ k ih =>
    intro i n hi hn
    obtain ⟨n, rfl⟩ : ∃ n', n = n' + 1 := ⟨n - 1, by omega⟩
    have e := fz_in (Y := fun g3 x1_2 => klet (x1_2 + Int32.ofInt 1) (fun x1_4 => ((cl_X3_partTwice_2 n) g3 x1_4))) (f := f) (i := i) (by omega) (fun j hj => h3 i j hj (by omega)) i 0 100 (by omega) (by omega)
    rw [cl_X3_partTwice_2.eq_2, h2, kle_f (nle_nI (by omega) (by omega) (by omega))]
    refine e.trans ?_
    rw [klet_s, show nI i + Int32.ofInt 1 = nI (i + 1) from nI_1 _]
    exact ih (i + 1) n (by omega) (by omega)
theorem fz_pf {f : kMem} {q : Nat} (h2 : f 282 2 = nI q) (hq : q ≤ 3) (x : Int32) : ∀ (k i n : Nat), i + k = q → k < n → ∃ r, cl_X3_piecesFor_2 n f x (nI i) = some (r, f) := by
  intro k
  induction k with
  | zero =>
    intro i n hi hn
    obtain ⟨n, rfl⟩ : ∃ n', n = n' + 1 := ⟨n - 1, by omega⟩
    exact ⟨0, by rw [cl_X3_piecesFor_2.eq_2, h2, kle_t (le_nI (by omega) (by omega) (by omega))]⟩
  | succ k ih =>
    intro i n hi hn
    obtain ⟨n, rfl⟩ : ∃ n', n = n' + 1 := ⟨n - 1, by omega⟩
    rw [cl_X3_piecesFor_2.eq_2, h2, kle_f (nle_nI (by omega) (by omega) (by omega)), kchk_t (nI_kin (by omega) (by decide)), nI_clamp (by omega)]
    by_cases e : f 283 i = x
    · exact ⟨_, by rw [keq_t e, kchk_t (nI_kin (by omega) (by decide))]⟩
    · rw [keq_f e, klet_s, show nI i + Int32.ofInt 1 = nI (i + 1) from nI_1 _]
      exact ih (i + 1) n (by omega) (by omega)
theorem fz_mul {K i : Nat} : nI K * 8 + nI i = nI (K * 8 + i) := by
  rw [show (8 : Int32) = nI 8 from rfl, nI_mul, nI_add]
theorem fz_rows {Y : kMem → Option (Int32 × kMem)} {q K : Nat} (hq : q ≤ 3) (hK : K < 6) : ∀ (k i n : Nat) (f : kMem), f 282 2 = nI q → f 1 2 = nI K → i + k = 8 → k < n → ∃ g, cl_X0_addFamily_95 Y n f (nI i) = Y g ∧ ∀ a, a ≠ 6 → g a = f a := by
  intro k
  induction k with
  | zero =>
    intro i n f h2 h1 hi hn
    obtain ⟨n, rfl⟩ : ∃ n', n = n' + 1 := ⟨n - 1, by omega⟩
    refine ⟨f, ?_, fun _ _ => rfl⟩
    rw [cl_X0_addFamily_95.eq_2, kle_t (show (8 : Int32) ≤ nI i from (nI_le_iff (a := 8) (b := i) (by omega) (by omega)).mpr (by omega))]
  | succ k ih =>
    intro i n f h2 h1 hi hn
    obtain ⟨n, rfl⟩ : ∃ n', n = n' + 1 := ⟨n - 1, by omega⟩
    obtain ⟨r, e⟩ := fz_pf h2 hq (nI i) q 0 100 (by omega) (by omega)
    have e' : cf_X3_piecesFor f (nI i) = some (r, f) := e
    obtain ⟨g, e2, l2⟩ := ih (i + 1) n (kup f 6 (K * 8 + i) r) (by rw [kup_ne _ _ _ (by decide)]; exact h2) (by rw [kup_ne _ _ _ (by decide)]; exact h1) (by omega) (by omega)
    refine ⟨g, ?_, fun a ha => (l2 a ha).trans (kup_ne _ _ _ ha)⟩
    rw [cl_X0_addFamily_95.eq_2, kle_f (fun k => by have := (nI_le_iff (a := 8) (by omega) (by omega)).mp k; omega), e', kbind_s, h1, fz_mul, kchk_t (nI_kin (by omega) (by decide)), nI_clamp (by omega), kmem_s, klet_s, show nI i + Int32.ofInt 1 = nI (i + 1) from nI_1 _]
    exact e2
theorem fz_add {f : kMem} {C w K : Nat} {ps : List (Nat × Nat)} (hF : Fm f C w ps) (hC : 1 ≤ C ∧ C < 10) (hw : 1 ≤ w ∧ w < 100) (hl : ps.length ≤ 3) (hp : ∀ i, i < ps.length → (ps.getD i (0, 0)).1 < 4 ∧ 1 ≤ (ps.getD i (0, 0)).2 ∧ (ps.getD i (0, 0)).2 < 10) (hd : ∀ i j, j < i → i < ps.length → (ps.getD j (0, 0)).1 ≠ (ps.getD i (0, 0)).1) (h1 : f 1 1 = 4) (h2 : f 1 2 = nI K) (hK : K < 6) : ∃ g, cf_X0_addFamily f = some (nI K, g) ∧ g 1 0 = f 1 0 ∧ g 1 1 = f 1 1 ∧ g 1 2 = nI (K + 1) ∧ g 5 = upd (f 5) K (nI w) ∧ ∀ a, a ≠ 1 → a ≠ 4 → a ≠ 5 → a ≠ 6 → g a = f a := by
  obtain ⟨m1, m2, m3, m4⟩ := hF
  have n0 : ∀ {n : Nat}, 1 ≤ n → n < 100 → nI n ≠ 0 := fun h h' e => by have := nI_inj (a := _) (b := 0) (by omega) (by omega) e; omega
  have e1 : cf_X3_hasZero f = some (0, f) := by
    have := fz_zero (Y := fun g2 => keq (g2 282 3) 0 (some (1, g2)) (keq (g2 282 4) 0 (some (1, g2)) (some (0, g2)))) m1 hl (fun j hj => by rw [(m4 j hj).2]; exact n0 (hp j hj).2.1 (by have := (hp j hj).2.2; omega)) ps.length 0 100 (by omega) (by omega)
    refine Eq.trans this ?_
    rw [m2, m3, keq_f (n0 hC.1 (by omega)), keq_f (n0 hw.1 hw.2)]
  obtain ⟨hi, hh, e2⟩ := fz_high m1 hl (fun j hj => ⟨_, (hp j hj).1, (m4 j hj).1⟩) ps.length 0 100 0 (by omega) (by omega) (by decide)
  have e2' : cf_X3_highestPart f = some (nI hi, f) := e2
  have e3 : cf_X0_isPart f (nI hi) = some (1, f) := by
    unfold cf_X0_isPart cf_X11_isWithin
    rw [h1, klt_f (nI_not_neg (by omega)), klt_f (fun k => by have := (nI_lt_iff (a := 3) (by omega) (by omega)).mp k; omega), kbind_s, kchk_t (by decide)]
  have e4 : cf_X3_partTwice f = some (-1, f) := fz_out m1 hl (fun i j hj hi => by
    rw [(m4 j (by omega)).1, (m4 i hi).1]
    intro e
    exact hd i j hj hi (nI_inj (by have := (hp j (by omega)).1; omega) (by have := (hp i hi).1; omega) e)) ps.length 0 100 (by omega) (by omega)
  obtain ⟨g, e5, l5⟩ := fz_rows (Y := fun g15 => kmem (kup g15 1 2 ((g15 1 2) + 1)) (fun g16 => some (((g16 1 2) - 1), g16))) (K := K) hl hK 8 0 100 (kup (kup f 4 K (f 282 3)) 5 K (f 282 4)) (by rw [kup_ne _ _ _ (by decide), kup_ne _ _ _ (by decide)]; exact m1) (by rw [kup_ne _ _ _ (by decide), kup_ne _ _ _ (by decide)]; exact h2) (by omega) (by omega)
  have g1 : g 1 = f 1 := by rw [l5 1 (by decide), kup_ne _ _ _ (by decide), kup_ne _ _ _ (by decide)]
  refine ⟨kup g 1 2 (nI (K + 1)), ?_, by rw [kup_nk (by decide), g1], by rw [kup_nk (by decide), g1], kup_at, ?_, fun a a1 a4 a5 a6 => by rw [kup_ne _ _ _ a1, l5 a a6, kup_ne _ _ _ a5, kup_ne _ _ _ a4]⟩
  · unfold cf_X0_addFamily
    rw [e1, kbind_s, keq_t rfl, e2', kbind_s, e3, kbind_s, keq_f (by decide), e4, kbind_s, keq_t rfl, h2, klt_t (show nI K < 6 from (nI_lt_iff (b := 6) (by omega) (by omega)).mpr hK), kchk_t (nI_kin hK (by decide)), nI_clamp (by omega), kmem_s]
    rw [kup_ne (b := 1) _ _ _ (by decide), h2, kchk_t (nI_kin hK (by decide)), nI_clamp (by omega), kup_ne (b := 282) _ _ _ (by decide), kmem_s]
    have e5' := e5
    rw [g1, h2] at e5'
    refine Eq.trans e5' ?_
    rw [nI_1, kmem_s, kup_at, nI_pred]
  · rw [kup_ne _ _ _ (by decide), l5 5 (by decide), kup_eq, kup_ne _ _ _ (by decide), m3]
theorem dgN_l {w : Nat} (hw : w < 100) : (dgN w).length ≤ 2 ∧ ∀ x, x ∈ dgN w → ∃ c, c < 128 ∧ x = nI c := by
  unfold dgN
  split
  · exact ⟨by simp, fun x hx => ⟨48 + w, by omega, List.mem_singleton.mp hx⟩⟩
  · refine ⟨by simp, fun x hx => ?_⟩
    rcases List.mem_cons.mp hx with e | hx
    · exact ⟨48 + w / 10, by omega, e⟩
    · exact ⟨48 + w % 10, by omega, List.mem_singleton.mp hx⟩
theorem prs_l : ∀ ps : List (Nat × Nat), (∀ q, q ∈ ps → q.1 < 10 ∧ q.2 < 10) → (prs ps).length = 4 * ps.length ∧ ∀ x, x ∈ prs ps → ∃ c, c < 128 ∧ x = nI c := by
  intro ps
  induction ps with
  | nil => exact fun _ => ⟨rfl, fun x hx => absurd hx (by simp [prs])⟩
  | cons q ps ih =>
    intro h
    obtain ⟨q1, q2⟩ := h q List.mem_cons_self
    obtain ⟨l, m⟩ := ih (fun x hx => h x (List.mem_cons_of_mem _ hx))
    refine ⟨by unfold prs; simp only [List.length_cons, l]; omega, fun x hx => ?_⟩
    unfold prs at hx
    rcases List.mem_cons.mp hx with e | hx
    · exact ⟨32, by decide, e⟩
    rcases List.mem_cons.mp hx with e | hx
    · exact ⟨48 + q.1, by omega, e⟩
    rcases List.mem_cons.mp hx with e | hx
    · exact ⟨120, by decide, e⟩
    rcases List.mem_cons.mp hx with e | hx
    · exact ⟨48 + q.2, by omega, e⟩
    · exact m x hx
theorem xf_told {m C w K : Nat} {f : kMem} {L : List kMem} {q : Nat × Nat} {ps : List (Nat × Nat)} {t : List Int32} (h : Pv (m + 17) f L) (ht : t = dgN C ++ (32 :: (dgN w ++ prs (q :: ps)))) (hC : 1 ≤ C ∧ C < 10) (hw : 1 ≤ w ∧ w < 100) (hl : ps.length ≤ 2) (hp : ∀ x, x ∈ q :: ps → x.1 < 4 ∧ 1 ≤ x.2 ∧ x.2 < 10) (hd : ∀ i j, j < i → i < (q :: ps).length → ((q :: ps).getD j (0, 0)).1 ≠ ((q :: ps).getD i (0, 0)).1) (h1 : f 1 1 = 4) (h2 : f 1 2 = nI K) (hK : K < 6) : ∃ f1, lf_told t f = some (nI K, f1) ∧ Pv m f1 (psh L f) ∧ f1 1 0 = f 1 0 ∧ f1 1 1 = f 1 1 ∧ f1 1 2 = nI (K + 1) ∧ f1 5 = upd (f 5) K (nI w) ∧ ∀ a, a < 25 → a ≠ 1 → a ≠ 4 → a ≠ 5 → a ≠ 6 → f1 a = f a := by
  have hq10 : ∀ x, x ∈ q :: ps → x.1 < 10 ∧ x.2 < 10 := fun x hx => ⟨by have := (hp x hx).1; omega, (hp x hx).2.2⟩
  obtain ⟨lC, cC⟩ := dgN_l (w := C) (by omega)
  obtain ⟨lw, cw⟩ := dgN_l hw.2
  obtain ⟨lp, cp⟩ := prs_l (q :: ps) hq10
  have lC1 : (dgN C).length = 1 := by
    unfold dgN
    rw [if_pos hC.2]
    rfl
  have hlen : t.length ≤ 16 := by
    rw [ht, List.length_append, List.length_cons, List.length_append, lp, List.length_cons]
    omega
  have hlet : ∀ x, x ∈ t → ∃ c, c < 128 ∧ x = nI c := by
    intro x hx
    rw [ht] at hx
    rcases List.mem_append.mp hx with hx | hx
    · exact cC x hx
    rcases List.mem_cons.mp hx with e | hx
    · exact ⟨32, by decide, e⟩
    rcases List.mem_append.mp hx with hx | hx
    · exact cw x hx
    · exact cp x hx
  obtain ⟨N, g0, hN, hR⟩ := id h.1
  obtain ⟨fT, gT, e1, ⟨b1, b2, b3, b4, b5⟩, hT⟩ := cf_fed t 0 N f g0 (by omega) hlet h.2.1 (by omega) hR
  obtain ⟨z, e, hz, hC', h0⟩ := cg_family (by omega) hT
  obtain ⟨z', bb, g', z1, -, -, -, -, z6⟩ := kp_family (N + t.length) fT gT (by omega) hT
  obtain rfl := Option.some.inj (z1.symm.trans e)
  have hTt : Tt (kup fT 280 1 0) 0 t := by
    refine ⟨kup_at, ?_, by omega, fun j hj => ?_⟩
    · rw [kup_nk (by decide), b3]
    · rw [kup_ne _ _ _ (by decide)]
      exact b4 j hj
  obtain ⟨g, er, hFm, hLo⟩ := tt_fam (by rw [← ht]; exact hTt) (by omega) hw.2 hq10 hl
  have gl : ∀ a, a < 280 → g a = f a := fun a ha => (hLo a ha).trans (b1 a (by omega) (by omega))
  obtain ⟨o, a1, a2, a3, a4, -⟩ := id h.2.2
  have h9 : (o + L.length) % 9 < 9 := Nat.mod_lt _ (by decide)
  have k5 : kup g 280 2 0 275 = f 275 := by rw [kup_ne _ _ _ (by decide)]; exact gl 275 (by decide)
  have eb := c_begin (f := kup g 280 2 0) a1 a2 (by rw [k5]; exact a3) (by rw [k5]; exact a4)
  have chi : ∀ a, 275 ≤ a → kfc (kup g 280 2 0) ((o + L.length) % 9 + 2) 0 0 25 a = kup g 280 2 0 a := fun a ha => kfc_hi h9 ha
  have clo : ∀ a, a < 25 → kfc (kup g 280 2 0) ((o + L.length) % 9 + 2) 0 0 25 a = f a := fun a ha => (kfc_fl h9 ha).trans ((kup_ne _ _ _ (by omega)).trans (gl a (by omega)))
  generalize hg6 : kfc (kup g 280 2 0) ((o + L.length) % 9 + 2) 0 0 25 = g6 at eb chi clo
  have hF6 : Fm g6 C w (q :: ps) := by
    obtain ⟨m1, m2, m3, m4⟩ := hFm
    have k2 : g6 282 = g 282 := by rw [chi 282 (by decide), kup_ne _ _ _ (by decide)]
    have k3 : g6 283 = g 283 := by rw [chi 283 (by decide), kup_ne _ _ _ (by decide)]
    have k4 : g6 284 = g 284 := by rw [chi 284 (by decide), kup_ne _ _ _ (by decide)]
    exact ⟨by rw [k2]; exact m1, by rw [k2]; exact m2, by rw [k2]; exact m3, fun i hi => by rw [k3, k4]; exact m4 i hi⟩
  have hgd : ∀ i, i < (q :: ps).length → (q :: ps).getD i (0, 0) ∈ q :: ps := fun i hi => by
    rw [List.getD_eq_getElem?_getD, List.getElem?_eq_getElem hi]
    exact List.getElem_mem hi
  obtain ⟨g8, ea, r0, r1, r2, r5, rl⟩ := fz_add hF6 hC hw (by rw [List.length_cons]; omega) (fun i hi => hp _ (hgd i hi)) hd (by rw [clo 1 (by decide)]; exact h1) (by rw [clo 1 (by decide)]; exact h2) hK
  have k8 : g8 275 = f 275 := (rl 275 (by decide) (by decide) (by decide) (by decide)).trans ((chi 275 (by decide)).trans k5)
  have es : cx_X11_settled g8 (nI K) = some (0, nI K, if L.length = 8 then kup g8 275 1 (nI ((o + 1) % 9)) else kup g8 275 2 (nI (L.length + 1))) := by
    unfold cx_X11_settled
    rw [keq_f (nI_km (by omega)), c_keep a1 a2 (by rw [k8]; exact a3) (by rw [k8]; exact a4)]
    rfl
  have ez : cx_X11_family fT = some (0, nI K, if L.length = 8 then kup g8 275 1 (nI ((o + 1) % 9)) else kup g8 275 2 (nI (L.length + 1))) := by
    unfold cx_X11_family cf_X10_clear
    rw [er, kbind_s, kmem_s, kbind_s, keq_f (by decide), eb, kbind_s, ea, kbind_s, es]
    rfl
  obtain rfl := Option.some.inj (e.symm.trans ez)
  have kk : ∀ a, a ≠ 275 → (if L.length = 8 then kup g8 275 1 (nI ((o + 1) % 9)) else kup g8 275 2 (nI (L.length + 1))) a = g8 a := fun a ha => by
    split
    · exact kup_ne _ _ _ ha
    · exact kup_ne _ _ _ ha
  obtain ⟨-, -, -, c4⟩ := chg_tr2 (fun a ha => b1 a (by omega) (by omega)) (b1 291 (by decide) (by decide)) h0 hC'
  rcases c4 with ⟨d1, -⟩ | ⟨-, -, d3⟩
  · exact absurd rfl d1
  refine ⟨_, ?_, ⟨⟨N + t.length + 1, g', by omega, z6⟩, h0, d3 L h.2.2⟩, ?_, ?_, ?_, ?_, fun a a0 a1 a4 a5 a6 => ?_⟩
  · unfold lf_told lf_feeds
    rw [e1, kbind_s, keq_f (by decide)]
    unfold lf_family
    rw [ez]
    rfl
  · exact (congrFun (kk 1 (by decide)) 0).trans (r0.trans (congrFun (clo 1 (by decide)) 0))
  · exact (congrFun (kk 1 (by decide)) 1).trans (r1.trans (congrFun (clo 1 (by decide)) 1))
  · exact (congrFun (kk 1 (by decide)) 2).trans r2
  · exact (kk 5 (by decide)).trans (r5.trans (by rw [clo 5 (by decide)]))
  · exact (kk a (by omega)).trans ((rl a a1 a4 a5 a6).trans (clo a a0))
