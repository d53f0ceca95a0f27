/-! colours, parts and families are made -/
theorem nI_rng {x : Int32} {k : Nat} (hk : k < 2 ^ 31) (h0 : 0 ≤ x) (h1 : x < nI k) : ∃ a, a < k ∧ x = nI a := by
  have e : (nI k).toInt = (k : Int) := nI_toInt hk
  rw [Int32.lt_iff_toInt_lt, e] at h1
  rw [Int32.le_iff_toInt_le, show (0 : Int32).toInt = 0 from rfl] at h0
  refine ⟨x.toInt.toNat, by omega, Int32.toInt_inj.mp ?_⟩
  rw [nI_toInt (by omega)]
  omega
theorem some_nI (v : Int32) (k : Nat) (h0 : 0 < k) (hk : k < 2 ^ 30) : ∃ a, a < k ∧ mSome v (nI k) = nI a := by
  obtain ⟨a, b⟩ := mSome_rng v k h0 hk
  exact nI_rng (by omega) a b
theorem one_nI (a : Nat) : (1 : Int32) + nI a = nI (a + 1) := by
  rw [show (1 : Int32) = nI 1 from rfl, nI_add, Nat.add_comm]
theorem ge0 {a : Nat} (h : a < 2 ^ 31) : decide ((0 : Int32) ≤ nI a) = true := decide_eq_true (show (nI 0 : Int32) ≤ nI a from (nI_le_iff (by omega) h).mpr (by omega))
def Mk (m : Nat) (f : kMem) (L : List kMem) (c p k : Nat) : Prop := Pv m f L ∧ f 1 0 = nI c ∧ f 1 1 = nI p ∧ f 1 2 = nI k ∧ (0 < k → ∃ w, w < 100 ∧ f 5 0 = nI w) ∧ ∀ q, q < 25 → q ≠ 1 → q ≠ 2 → q ≠ 3 → q ≠ 4 → q ≠ 5 → q ≠ 6 → f q = f0 q
theorem cn_colour {f : kMem} {c a : Nat} (hc : f 1 0 = nI c) (h6 : c < 6) (ha : a < 10) : ∃ g, cf_X0_addColour f (nI a) = some (nI c, g) ∧ g 1 0 = nI (c + 1) ∧ (∀ k, k ≠ 0 → g 1 k = f 1 k) ∧ ∀ q, q ≠ 1 → q ≠ 2 → g q = f q := by
  refine ⟨kup (kup f 2 c (nI a)) 1 0 (nI (c + 1)), ?_, kup_at, fun k hk => by rw [kup_nk hk, kup_ne _ _ _ (by decide)], fun q q1 q2 => by rw [kup_ne _ _ _ q1, kup_ne _ _ _ q2]⟩
  unfold cf_X0_addColour cf_X11_isWithin
  rw [klt_f (nI_not_neg (by omega)), klt_f (show ¬ (9 : Int32) < nI a from fun k => by have := (nI_lt_iff (a := 9) (by omega) (by omega)).mp k; omega), kbind_s, keq_f (by decide), hc, klt_t (show nI c < 6 from (nI_lt_iff (b := 6) (by omega) (by omega)).mpr h6), kchk_t (nI_kin h6 (by decide)), nI_clamp (by omega), kmem_s, kup_ne (b := 1) _ _ _ (by decide), hc, nI_1, kmem_s, kup_at, nI_pred]
theorem cn_part {f : kMem} {c a : Nat} (hc : f 1 1 = nI c) (h6 : c < 8) (h1 : 1 ≤ a) (ha : a ≤ 50) : ∃ g, cf_X0_addPart f (nI a) = some (nI c, g) ∧ g 1 1 = nI (c + 1) ∧ (∀ k, k ≠ 1 → g 1 k = f 1 k) ∧ ∀ q, q ≠ 1 → q ≠ 3 → g q = f q := by
  refine ⟨kup (kup f 3 c (nI a)) 1 1 (nI (c + 1)), ?_, kup_at, fun k hk => by rw [kup_nk hk, kup_ne _ _ _ (by decide)], fun q q1 q2 => by rw [kup_ne _ _ _ q1, kup_ne _ _ _ q2]⟩
  unfold cf_X0_addPart cf_X11_isWithin
  rw [klt_f (show ¬ nI a < 1 from fun k => by have := (nI_lt_iff (b := 1) (by omega) (by omega)).mp k; omega), klt_f (show ¬ (50 : Int32) < nI a from fun k => by have := (nI_lt_iff (a := 50) (by omega) (by omega)).mp k; omega), kbind_s, keq_f (by decide), hc, klt_t (show nI c < 8 from (nI_lt_iff (b := 8) (by omega) (by omega)).mpr h6), kchk_t (nI_kin h6 (by decide)), nI_clamp (by omega), kmem_s, kup_ne (b := 1) _ _ _ (by decide), hc, nI_1, kmem_s, kup_at, nI_pred]
theorem mk_colour {m c p k a : Nat} {f : kMem} {L : List kMem} (h : Mk (m + 1) f L c p k) (h6 : c < 6) (ha : a < 10) : ∃ f1 L1, lf_colour f (nI a) = some (nI c, f1) ∧ Mk m f1 L1 (c + 1) p k := by
  obtain ⟨hP, h0, h1, h2, h5, hf⟩ := h
  obtain ⟨r, f1, f2, e, -, hP1, ⟨rfl, q0, q1, q2⟩, hk⟩ := xc_yes (xc_colour hP (nI a)) (P := fun r f2 => r = nI c ∧ f2 1 0 = nI (c + 1) ∧ (∀ k, k ≠ 0 → f2 1 k = f 1 k) ∧ ∀ q, q < 25 → q ≠ 1 → q ≠ 2 → f2 q = f q) (fun f1 b1 _ => by
    obtain ⟨g, e, g1, g2, g3⟩ := cn_colour (f := f1) (by rw [b1 1 (by decide)]; exact h0) h6 ha
    exact ⟨_, g, e, nI_km (by omega), rfl, g1, fun k hk => (g2 k hk).trans (congrFun (b1 1 (by decide)) k), fun q q0 q1 q2 => (g3 q q1 q2).trans (b1 q q0)⟩)
  have k1 : f1 1 = f2 1 := hk 1 (by decide)
  have k5 : f1 5 = f 5 := (hk 5 (by decide)).trans (q2 5 (by decide) (by decide) (by decide))
  exact ⟨f1, _, e, hP1, by rw [k1]; exact q0, by rw [k1, q1 1 (by decide)]; exact h1, by rw [k1, q1 2 (by decide)]; exact h2, by rw [k5]; exact h5, fun q a0 a1 a2 a3 a4 a5 a6 => (hk q (by omega)).trans ((q2 q a0 a1 a2).trans (hf q a0 a1 a2 a3 a4 a5 a6))⟩
theorem mk_part {m c p k a : Nat} {f : kMem} {L : List kMem} (h : Mk (m + 1) f L c p k) (h6 : p < 8) (ha1 : 1 ≤ a) (ha : a ≤ 50) : ∃ f1 L1, lf_part f (nI a) = some (nI p, f1) ∧ Mk m f1 L1 c (p + 1) k := by
  obtain ⟨hP, h0, h1, h2, h5, hf⟩ := h
  obtain ⟨r, f1, f2, e, -, hP1, ⟨rfl, q0, q1, q2⟩, hk⟩ := xc_yes (xc_part hP (nI a)) (P := fun r f2 => r = nI p ∧ f2 1 1 = nI (p + 1) ∧ (∀ k, k ≠ 1 → f2 1 k = f 1 k) ∧ ∀ q, q < 25 → q ≠ 1 → q ≠ 3 → f2 q = f q) (fun f1 b1 _ => by
    obtain ⟨g, e, g1, g2, g3⟩ := cn_part (f := f1) (by rw [b1 1 (by decide)]; exact h1) h6 ha1 ha
    exact ⟨_, g, e, nI_km (by omega), rfl, g1, fun k hk => (g2 k hk).trans (congrFun (b1 1 (by decide)) k), fun q q0 q1 q2 => (g3 q q1 q2).trans (b1 q q0)⟩)
  have k1 : f1 1 = f2 1 := hk 1 (by decide)
  have k5 : f1 5 = f 5 := (hk 5 (by decide)).trans (q2 5 (by decide) (by decide) (by decide))
  exact ⟨f1, _, e, hP1, by rw [k1, q1 0 (by decide)]; exact h0, by rw [k1]; exact q0, by rw [k1, q1 2 (by decide)]; exact h2, by rw [k5]; exact h5, fun q a0 a1 a2 a3 a4 a5 a6 => (hk q (by omega)).trans ((q2 q a0 a1 a3).trans (hf q a0 a1 a2 a3 a4 a5 a6))⟩
theorem mk_l2 {ρ : Type} {P : ρ → Prop} {Z : mZ} {Y : kMem → Int32 → Option ρ} {m : Nat} (hY : ∀ f1 L1, Mk m f1 L1 4 0 0 → ∃ z, Y f1 (nI 4) = some z ∧ P z) : ∀ (k c n : Nat) (f : kMem) (L : List kMem), c + k = 4 → k < n → Mk (m + k) f L c 0 0 → ∃ z, ll_makes_2 Z Y n f (nI c) = some z ∧ P z := by
  intro k
  induction k with
  | zero =>
    intro c n f L hc hn h
    obtain ⟨n, rfl⟩ : ∃ n', n = n' + 1 := ⟨n - 1, by omega⟩
    obtain rfl : c = 4 := by omega
    rw [ll_makes_2.eq_2, kle_t (show (4 : Int32) ≤ nI 4 by decide)]
    exact hY f L h
  | succ k ih =>
    intro c n f L hc hn h
    obtain ⟨n, rfl⟩ : ∃ n', n = n' + 1 := ⟨n - 1, by omega⟩
    obtain ⟨a, ha, e⟩ := some_nI (mAt Z (nI c)) 10 (by decide) (by decide)
    have e' : mSome (mAt Z (nI c)) 10 = nI a := e
    obtain ⟨f1, L1, e1, h1⟩ := mk_colour (m := m + k) h (by omega) ha
    rw [ll_makes_2.eq_2, kle_f (show ¬ (4 : Int32) ≤ nI c from fun k => by have := (nI_le_iff (a := 4) (by omega) (by omega)).mp k; omega), kchk_t (ge0 (by omega)), e', e1, kbind_s, keq_t rfl, nI_1]
    exact ih (c + 1) n f1 L1 (by omega) (by omega) h1
theorem mk_l35 {ρ : Type} {P : ρ → Prop} {Z : mZ} {Y : kMem → Int32 → Option ρ} {m : Nat} (hY : ∀ f1 L1, Mk m f1 L1 4 4 0 → ∃ z, Y f1 (nI 4) = some z ∧ P z) : ∀ (k c n : Nat) (f : kMem) (L : List kMem), c + k = 4 → k < n → Mk (m + k) f L 4 c 0 → ∃ z, ll_makes_35 Z Y n f (nI c) = some z ∧ P z := by
  intro k
  induction k with
  | zero =>
    intro c n f L hc hn h
    obtain ⟨n, rfl⟩ : ∃ n', n = n' + 1 := ⟨n - 1, by omega⟩
    obtain rfl : c = 4 := by omega
    rw [ll_makes_35.eq_2, kle_t (show (4 : Int32) ≤ nI 4 by decide)]
    exact hY f L h
  | succ k ih =>
    intro c n f L hc hn h
    obtain ⟨n, rfl⟩ : ∃ n', n = n' + 1 := ⟨n - 1, by omega⟩
    obtain ⟨a, ha, e⟩ := some_nI (mAt Z (4 + nI c)) 30 (by decide) (by decide)
    have e' : mSome (mAt Z (4 + nI c)) 30 = nI a := e
    obtain ⟨f1, L1, e1, h1⟩ := mk_part (m := m + k) (a := a + 1) h (by omega) (by omega) (by omega)
    have e4 : (4 : Int32) + nI c = nI (4 + c) := nI_add 4 c
    rw [ll_makes_35.eq_2, kle_f (show ¬ (4 : Int32) ≤ nI c from fun k => by have := (nI_le_iff (a := 4) (by omega) (by omega)).mp k; omega), e', one_nI, e4, kchk_t (ge0 (by omega)), e1, kbind_s, keq_t rfl, nI_1]
    exact ih (c + 1) n f1 L1 (by omega) (by omega) h1
/-! the text of a family -/
def okP (S : Nat) (ps : List (Nat × Nat)) : Prop := ∀ j, j < ps.length → (ps.getD j (0, 0)).1 = (S + j) % 4 ∧ 1 ≤ (ps.getD j (0, 0)).2 ∧ (ps.getD j (0, 0)).2 < 10
theorem prs_app (ps : List (Nat × Nat)) (P n : Nat) : prs (ps ++ [(P, n)]) = prs ps ++ [32, nI (48 + P), 120, nI (48 + n)] := by
  induction ps with
  | nil => rfl
  | cons q ps ih =>
    show 32 :: nI (48 + q.1) :: 120 :: nI (48 + q.2) :: prs (ps ++ [(P, n)]) = 32 :: nI (48 + q.1) :: 120 :: nI (48 + q.2) :: (prs ps ++ _)
    rw [ih]
theorem okP_app {S n : Nat} {ps : List (Nat × Nat)} (h : okP S ps) (h1 : 1 ≤ n) (h9 : n < 10) : okP S (ps ++ [((S + ps.length) % 4, n)]) := by
  intro j hj
  rw [List.length_append, List.length_singleton] at hj
  by_cases hl : j < ps.length
  · rw [List.getD_eq_getElem?_getD, List.getElem?_append_left hl, ← List.getD_eq_getElem?_getD]
    exact h j hl
  · obtain rfl : j = ps.length := by omega
    rw [List.getD_eq_getElem?_getD, List.getElem?_append_right (Nat.le_refl _), Nat.sub_self]
    exact ⟨rfl, h1, h9⟩
theorem md4 : ∀ n, n < 10 → nI n - nI n / 4 * 4 = nI (n % 4) := by decide +kernel
theorem dgN1 {a : Nat} (h : a < 10) : dgt (nI a) = [nI (48 + a)] := by
  rw [dgt_nI a (by omega)]
  exact if_pos h
theorem prs_len (ps : List (Nat × Nat)) : (prs ps).length = 4 * ps.length := by
  induction ps with
  | nil => rfl
  | cons q ps ih =>
    unfold prs
    simp only [List.length_cons, ih]
    omega
theorem in100 {a : Nat} (h : a < 100) : decide ((0 : Int32) ≤ nI a ∧ nI a < 100) = true := decide_eq_true ⟨(nI_le_iff (a := 0) (by omega) (by omega)).mpr (by omega), (nI_lt_iff (b := 100) (by omega) (by omega)).mpr h⟩
theorem l141 {ρ : Type} {x2 x3 : Int32} {Y : kMem → Int32 → List Int32 → Option ρ} {t0 : List Int32} (ht : t0.length ≤ 4) {S q : Nat} (hS : mSome (x3 >>> ((4 : Int32) &&& 31)) 4 = nI S) (hS4 : S < 4) (hq : q ≤ 3) {f : kMem} : ∀ (k n : Nat) (ps : List (Nat × Nat)), ps.length + k = q → k < n → okP S ps → ∃ ps', ps'.length = q ∧ okP S ps' ∧ ll_makes_141 x2 x3 (nI q) Y n f (nI ps.length) (t0 ++ prs ps) = Y f (nI q) (t0 ++ prs ps') := by
  intro k
  induction k with
  | zero =>
    intro n ps hl hn ho
    obtain ⟨n, rfl⟩ : ∃ n', n = n' + 1 := ⟨n - 1, by omega⟩
    obtain rfl : ps.length = q := by omega
    refine ⟨ps, rfl, ho, ?_⟩
    rw [ll_makes_141.eq_2, kle_t (Int32.le_refl _)]
  | succ k ih =>
    intro n ps hl hn ho
    obtain ⟨n, rfl⟩ : ∃ n', n = n' + 1 := ⟨n - 1, by omega⟩
    obtain ⟨a, ha, e⟩ := some_nI (x3 >>> ((5 + nI ps.length) &&& 31)) 9 (by decide) (by decide)
    have e' : mSome (x3 >>> ((5 + nI ps.length) &&& 31)) 9 = nI a := e
    obtain ⟨ps', p1, p2, p3⟩ := ih n (ps ++ [((S + ps.length) % 4, a + 1)]) (by rw [List.length_append, List.length_singleton]; omega) (by omega) (okP_app ho (by omega) (by omega))
    refine ⟨ps', p1, p2, Eq.trans ?_ p3⟩
    have hP : (S + ps.length) % 4 < 4 := Nat.mod_lt _ (by decide)
    have l1 := prs_len ps
    have hlt : (t0 ++ prs ps).length ≤ 12 := by rw [List.length_append, l1]; omega
    rw [ll_makes_141.eq_2, kle_f (nle_nI (by omega) (by omega) (by omega)), hS, nI_add, md4 _ (by omega), e', one_nI, dgN1 (show (S + ps.length) % 4 < 10 by omega), dgN1 (show a + 1 < 10 by omega)]
    rw [kchk_t (decide_eq_true (by omega)), kchk_t (decide_eq_true (by simp only [List.length_append, List.length_cons, List.length_nil] at hlt ⊢; omega)), kchk_t (in100 (by omega)), kchk_t (decide_eq_true (by simp only [List.length_append, List.length_cons, List.length_nil] at hlt ⊢; omega)), kchk_t (decide_eq_true (by simp only [List.length_append, List.length_cons, List.length_nil] at hlt ⊢; omega)), kchk_t (in100 (by omega)), nI_1, prs_app, List.length_append, List.length_singleton]
    congr 1
    simp only [List.append_assoc, List.cons_append, List.nil_append]
    rfl
