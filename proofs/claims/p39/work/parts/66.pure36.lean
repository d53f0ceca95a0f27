/-! family: what both sides ask of the family that was read -/
def bI (b : Bool) : Int32 := if b = true then 1 else 0
theorem bI_and (a b : Bool) : bI a &&& bI b = bI (a && b) := by cases a <;> cases b <;> decide
def al (P : Nat → Bool) : Nat → Nat → Bool
  | 0, _ => true
  | k + 1, i => P i && al P k (i + 1)
theorem al_s {P : Nat → Bool} {k i : Nat} : al P (k + 1) i = (P i && al P k (i + 1)) := rfl
theorem al_iff {P : Nat → Bool} : ∀ k i, al P k i = true ↔ ∀ j, i ≤ j → j < i + k → P j = true
  | 0, i => ⟨fun _ j h1 h2 => by omega, fun _ => rfl⟩
  | k + 1, i => by
    rw [al_s]
    rw [Bool.and_eq_true, al_iff k (i + 1)]
    constructor
    · rintro ⟨h1, h2⟩ j h3 h4
      by_cases hj : j = i
      · rw [hj]
        exact h1
      · exact h2 j (by omega) (by omega)
    · intro h
      exact ⟨h i (by omega) (by omega), fun j h1 h2 => h j (by omega) (by omega)⟩
def fP (f : kMem) (j : Nat) : Nat := (f 283 j).toNatClampNeg
def fE (f : kMem) (j : Nat) : Nat := (f 284 j).toNatClampNeg
theorem Parts_at {f g : kMem} {c j : Nat} (h : Parts f g c) (hj : j < c) : fP f j ≤ 9 ∧ fE f j ≤ 9 ∧ f 283 j = nI (fP f j) ∧ g 8 (3 + j) = nI (fP f j) ∧ f 284 j = nI (fE f j) ∧ g 8 (6 + j) = nI (fE f j) := by
  obtain ⟨p, e, h1, h2, h3, h4, h5, h6⟩ := h j hj
  have hp : fP f j = p := by
    unfold fP
    rw [h3, nI_clamp (by omega)]
  have he : fE f j = e := by
    unfold fE
    rw [h5, nI_clamp (by omega)]
  rw [hp, he]
  exact ⟨h1, h2, h3, h4, h5, h6⟩
section FAM
variable {f g : kMem} {n : Nat}
theorem lp_zero {Y : kMem → Option (Int32 × kMem)} (hn : n ≤ 3) (h2 : f 282 2 = nI n) (hP : Parts f g n) : ∀ k u i, i + k = n → k < u → cl_X3_hasZero_2 Y u f (nI i) = if al (fun j => decide (1 ≤ fE f j)) k i = true then Y f else some (1, f)
  | 0, u + 1, i, h1, h3 => by
    rw [cl_X3_hasZero_2.eq_2, h2, kle_t (by rw [show i = n by omega]; exact Int32.le_refl _)]
    rfl
  | k + 1, u + 1, i, h1, h3 => by
    have one : nI i + Int32.ofInt 1 = nI (i + 1) := nI_1 i
    obtain ⟨-, -, -, -, p5, -⟩ := Parts_at hP (j := i) (by omega)
    rw [cl_X3_hasZero_2.eq_2, h2, kle_f (fun q => by have := (nI_le_iff (by omega) (by omega)).mp q; omega), kchk_t (nI_kin (by omega) (by decide)), nI_clamp (by omega), p5, klet_s, one]
    rw [al_s]
    by_cases h0 : fE f i = 0
    · rw [h0, keq_t (show nI 0 = 0 from rfl), if_neg (by simp)]
    · have hl := (Parts_at hP (j := i) (by omega)).2.1
      rw [keq_f (nI_ne0 (by omega) (by omega)), lp_zero hn h2 hP k u (i + 1) (by omega) (by omega)]
      have e : decide (1 ≤ fE f i) = true := decide_eq_true (by omega)
      simp only [e, Bool.true_and]
theorem m_46 {Y : kMem → Int32 → Int32 → Option (Int32 × kMem)} (hn : n ≤ 3) (hP : Parts f g n) : ∀ k u i b, i + k = n → k < u → cl_X12_doesFamily_46 Y u g (nI n) (bI b) (nI i) = Y g (nI n) (bI (b && al (fun j => decide (1 ≤ fE f j)) k i))
  | 0, u + 1, i, b, h1, h3 => by
    rw [cl_X12_doesFamily_46.eq_2, kle_t (by rw [show i = n by omega]; exact Int32.le_refl _)]
    unfold al
    rw [Bool.and_true]
  | k + 1, u + 1, i, b, h1, h3 => by
    have one : nI i + Int32.ofInt 1 = nI (i + 1) := nI_1 i
    obtain ⟨-, p2, -, -, -, p6⟩ := Parts_at hP (j := i) (by omega)
    have hin : cf_X12_in g (nI (fE f i)) 1 9 = some (bI (decide (1 ≤ fE f i)), g) := by
      by_cases h0 : 1 ≤ fE f i
      · rw [m_in1 (show inb (nI (fE f i)) 1 9 from (inb_rg (A := 1) (B := 9) (by decide) (by decide)).mpr ⟨_, rfl, h0, p2⟩), decide_eq_true h0]
        rfl
      · rw [m_in0 (fun (q : inb (nI (fE f i)) 1 9) => h0 (by
          obtain ⟨m, e, m1, m2⟩ := (inb_rg (A := 1) (B := 9) (by decide) (by decide)).mp q
          have := nI_inj (by omega) (by omega) e
          omega)), decide_eq_false h0]
        rfl
    rw [cl_X12_doesFamily_46.eq_2, kle_f (fun q => by have := (nI_le_iff (by omega) (by omega)).mp q; omega), show (6 : Int32) + nI i = nI (6 + i) from nI_add 6 i, kchk_t (nI_kin (by omega) (by decide)), nI_clamp (by omega), p6, hin, kbind_s, klet_s, klet_s, one, bI_and, m_46 hn hP k u (i + 1) _ (by omega) (by omega)]
    rw [al_s]
    rw [Bool.and_assoc]
theorem m_88 {Y : kMem → Int32 → Int32 → Option (Int32 × kMem)} {c1 : Nat} (hn : n ≤ 3) (hP : Parts f g n) (g1 : g 1 1 = nI c1) (hc1 : c1 ≤ 8) : ∀ k u i b, i + k = n → k < u → cl_X12_doesFamily_88 Y u g (nI n) (bI b) (nI i) = Y g (nI n) (bI (b && al (fun j => decide (fP f j < c1)) k i))
  | 0, u + 1, i, b, h1, h3 => by
    rw [cl_X12_doesFamily_88.eq_2, kle_t (by rw [show i = n by omega]; exact Int32.le_refl _)]
    unfold al
    rw [Bool.and_true]
  | k + 1, u + 1, i, b, h1, h3 => by
    have one : nI i + Int32.ofInt 1 = nI (i + 1) := nI_1 i
    obtain ⟨p1, -, -, p4, -, -⟩ := Parts_at hP (j := i) (by omega)
    have hin : cf_X12_isPart g (nI (fP f i)) = some (bI (decide (fP f i < c1)), g) := by
      by_cases h0 : fP f i < c1
      · rw [m_isP1 (by omega) g1 ⟨_, rfl, h0⟩, decide_eq_true h0]
        rfl
      · rw [m_isP0 (by omega) g1 (fun ⟨m, e, hm⟩ => h0 (by
          have := nI_inj (by omega) (by omega) e
          omega)), decide_eq_false h0]
        rfl
    rw [cl_X12_doesFamily_88.eq_2, kle_f (fun q => by have := (nI_le_iff (by omega) (by omega)).mp q; omega), show (3 : Int32) + nI i = nI (3 + i) from nI_add 3 i, kchk_t (nI_kin (by omega) (by decide)), nI_clamp (by omega), p4, hin, kbind_s, klet_s, klet_s, one, bI_and, m_88 hn hP g1 hc1 k u (i + 1) _ (by omega) (by omega)]
    rw [al_s]
    rw [Bool.and_assoc]
theorem kmax_nI {a b : Nat} (ha : a < 2 ^ 31) (hb : b < 2 ^ 31) : kmax (nI a) (nI b) = nI (max a b) := by
  unfold kmax
  by_cases h : a < b
  · rw [if_pos ((nI_lt_iff ha hb).mpr h), Nat.max_eq_right (by omega)]
  · rw [if_neg (fun q => h ((nI_lt_iff ha hb).mp q)), Nat.max_eq_left (by omega)]
theorem lp_high (hn : n ≤ 3) (h2 : f 282 2 = nI n) (hP : Parts f g n) : ∀ k u i acc, i + k = n → k < u → acc ≤ 9 → ∃ m, m ≤ 9 ∧ cl_X3_highestPart_4 u f (nI acc) (nI i) = some (nI m, f) ∧ ∀ c, m < c ↔ acc < c ∧ al (fun j => decide (fP f j < c)) k i = true
  | 0, u + 1, i, acc, h1, h3, ha => by
    refine ⟨acc, ha, ?_, fun c => ⟨fun h => ⟨h, rfl⟩, fun h => h.1⟩⟩
    rw [cl_X3_highestPart_4.eq_2, h2, kle_t (by rw [show i = n by omega]; exact Int32.le_refl _)]
  | k + 1, u + 1, i, acc, h1, h3, ha => by
    have one : nI i + Int32.ofInt 1 = nI (i + 1) := nI_1 i
    obtain ⟨p1, -, p3, -, -, -⟩ := Parts_at hP (j := i) (by omega)
    obtain ⟨m, m1, m2, m3⟩ := lp_high hn h2 hP k u (i + 1) (max acc (fP f i)) (by omega) (by omega) (by omega)
    refine ⟨m, m1, ?_, fun c => ?_⟩
    · rw [cl_X3_highestPart_4.eq_2, h2, kle_f (fun q => by have := (nI_le_iff (by omega) (by omega)).mp q; omega), kchk_t (nI_kin (by omega) (by decide)), nI_clamp (by omega), p3, kmax_nI (by omega) (by omega), klet_s, klet_s, one]
      exact m2
    · rw [m3 c]
      rw [al_s]
      rw [Bool.and_eq_true, decide_eq_true_eq]
      constructor
      · rintro ⟨q1, q2⟩
        exact ⟨by omega, by omega, q2⟩
      · rintro ⟨q1, q2, q3⟩
        exact ⟨by omega, q3⟩
/-- whether the part of x stands at one of the places i .. i+k-1 -/
def sm (f : kMem) (x : Nat) : Nat → Nat → Bool
  | 0, _ => false
  | k + 1, i => decide (fP f i = fP f x) || sm f x k (i + 1)
theorem sm_s {f : kMem} {x k i : Nat} : sm f x (k + 1) i = (decide (fP f i = fP f x) || sm f x k (i + 1)) := rfl
theorem sm_iff {x : Nat} : ∀ k i, sm f x k i = true ↔ ∃ j, i ≤ j ∧ j < i + k ∧ fP f j = fP f x
  | 0, i => ⟨fun h => absurd h (by unfold sm; decide), fun ⟨j, h1, h2, _⟩ => by omega⟩
  | k + 1, i => by
    rw [sm_s]
    rw [Bool.or_eq_true, decide_eq_true_eq, sm_iff k (i + 1)]
    constructor
    · rintro (h | ⟨j, h1, h2, h3⟩)
      · exact ⟨i, by omega, by omega, h⟩
      · exact ⟨j, by omega, by omega, h3⟩
    · rintro ⟨j, h1, h2, h3⟩
      by_cases hj : j = i
      · rw [hj] at h3
        exact Or.inl h3
      · exact Or.inr ⟨j, by omega, by omega, h3⟩
theorem lp_tw1 {Y : kMem → Int32 → Option (Int32 × kMem)} {x : Nat} (hn : n ≤ 3) (hx : x < n) (hP : Parts f g n) : ∀ k u i, i + k = x → k < u → cl_X3_partTwice_12 Y u f (nI x) (nI i) = if sm f x k i = true then some (nI (fP f x), f) else Y f (nI x)
  | 0, u + 1, i, h1, h3 => by
    rw [cl_X3_partTwice_12.eq_2, kle_t (by rw [show i = x by omega]; exact Int32.le_refl _)]
    rfl
  | k + 1, u + 1, i, h1, h3 => by
    have one : nI i + Int32.ofInt 1 = nI (i + 1) := nI_1 i
    obtain ⟨p1, -, p3, -, -, -⟩ := Parts_at hP (j := i) (by omega)
    obtain ⟨x1, -, x3, -, -, -⟩ := Parts_at hP (j := x) (by omega)
    rw [cl_X3_partTwice_12.eq_2, kle_f (fun q => by have := (nI_le_iff (by omega) (by omega)).mp q; omega), kchk_t (nI_kin (i := i) (by omega) (by decide)), kchk_t (nI_kin (i := x) (by omega) (by decide)), nI_clamp (n := i) (by omega), nI_clamp (n := x) (by omega), p3, x3, kchk_t (nI_kin (i := x) (by omega) (by decide)), klet_s, one]
    rw [sm_s]
    by_cases he : fP f i = fP f x
    · rw [keq_t (by rw [he]), if_pos (by simp [he])]
    · rw [keq_f (fun q => he (nI_inj (by omega) (by omega) q)), lp_tw1 hn hx hP k u (i + 1) (by omega) (by omega)]
      simp only [he, decide_false, Bool.false_or]
theorem m_135 {Y161 : kMem → Int32 → Option (Int32 × kMem)} {Y : kMem → Int32 → Int32 → Option (Int32 × kMem)} {x : Nat} (hn : n ≤ 3) (hx : x < n) (hP : Parts f g n) : ∀ k u i, i + k = x → k < u → cl_X12_doesFamily_135 Y161 Y u g (nI n) (nI x) (nI i) = if sm f x k i = true then Y161 g (nI x) else Y g (nI n) (nI x)
  | 0, u + 1, i, h1, h3 => by
    rw [cl_X12_doesFamily_135.eq_2, kle_t (by rw [show i = x by omega]; exact Int32.le_refl _)]
    rfl
  | k + 1, u + 1, i, h1, h3 => by
    have one : nI i + Int32.ofInt 1 = nI (i + 1) := nI_1 i
    obtain ⟨p1, -, -, p4, -, -⟩ := Parts_at hP (j := i) (by omega)
    obtain ⟨x1, -, -, x4, -, -⟩ := Parts_at hP (j := x) (by omega)
    rw [cl_X12_doesFamily_135.eq_2, kle_f (fun q => by have := (nI_le_iff (by omega) (by omega)).mp q; omega), show (3 : Int32) + nI x = nI (3 + x) from nI_add 3 x, show (3 : Int32) + nI i = nI (3 + i) from nI_add 3 i, kchk_t (nI_kin (i := 3 + x) (by omega) (by decide)), kchk_t (nI_kin (i := 3 + i) (by omega) (by decide)), nI_clamp (n := 3 + x) (by omega), nI_clamp (n := 3 + i) (by omega), p4, x4, klet_s, one]
    rw [sm_s]
    by_cases he : fP f i = fP f x
    · rw [keq_t (by rw [he]), if_pos (by simp [he])]
    · rw [keq_f (fun q => he (nI_inj (by omega) (by omega) q.symm)), m_135 hn hx hP k u (i + 1) (by omega) (by omega)]
      simp only [he, decide_false, Bool.false_or]
/-- the first place whose part stood before -/
def tw (f : kMem) : Nat → Nat → Option Nat
  | 0, _ => none
  | k + 1, x => if sm f x x 0 = true then some x else tw f k (x + 1)
theorem tw_s {f : kMem} {k x : Nat} : tw f (k + 1) x = if sm f x x 0 = true then some x else tw f k (x + 1) := rfl
theorem tw_some {x : Nat} : ∀ k i, tw f k i = some x → i ≤ x ∧ x < i + k
  | 0, i, h => by cases h
  | k + 1, i, h => by
    rw [tw_s] at h
    split at h
    · cases h
      omega
    · have := tw_some k (i + 1) h
      omega
theorem tw_none : ∀ k i, tw f k i = none → ∀ x, i ≤ x → x < i + k → ∀ j, j < x → fP f j ≠ fP f x
  | 0, i, _, x, h1, h2 => by omega
  | k + 1, i, h, x, h1, h2 => by
    rw [tw_s] at h
    split at h
    · cases h
    · rename_i hs
      by_cases hx : x = i
      · subst hx
        intro j hj he
        exact hs ((sm_iff x 0).mpr ⟨j, by omega, by omega, he⟩)
      · exact tw_none k (i + 1) h x (by omega) (by omega)
def twC (f : kMem) (z : Option Nat) : Int32 := match z with
  | none => -1
  | some x => nI (fP f x)
theorem lp_tw (hn : n ≤ 3) (h2 : f 282 2 = nI n) (hP : Parts f g n) : ∀ k u x, x + k = n → k < u → cl_X3_partTwice_2 u f (nI x) = some (twC f (tw f k x), f)
  | 0, u + 1, x, h1, h3 => by
    rw [cl_X3_partTwice_2.eq_2, h2, kle_t (by rw [show x = n by omega]; exact Int32.le_refl _)]
    rfl
  | k + 1, u + 1, x, h1, h3 => by
    have one : nI x + Int32.ofInt 1 = nI (x + 1) := nI_1 x
    rw [cl_X3_partTwice_2.eq_2, h2, kle_f (fun q => by have := (nI_le_iff (by omega) (by omega)).mp q; omega)]
    refine (lp_tw1 (Y := fun g3 x1_2 => klet (x1_2 + Int32.ofInt 1) (fun x1_4 => ((cl_X3_partTwice_2 u) g3 x1_4))) hn (by omega) hP x 100 0 (by omega) (by omega)).trans ?_
    rw [tw_s]
    by_cases hs : sm f x x 0 = true
    · rw [if_pos hs, if_pos hs]
      rfl
    · rw [if_neg hs, if_neg hs, klet_s, one]
      exact lp_tw hn h2 hP k u (x + 1) (by omega) (by omega)
theorem m_127 {Y161 : kMem → Int32 → Option (Int32 × kMem)} {Y188 : kMem → Option (Int32 × kMem)} (hn : n ≤ 3) (hP : Parts f g n) : ∀ k u x, x + k = n → k < u → cl_X12_doesFamily_127 Y161 Y188 u g (nI n) (nI x) = match tw f k x with
    | none => Y188 g
    | some y => Y161 g (nI y)
  | 0, u + 1, x, h1, h3 => by
    rw [cl_X12_doesFamily_127.eq_2, kle_t (by rw [show x = n by omega]; exact Int32.le_refl _)]
    rfl
  | k + 1, u + 1, x, h1, h3 => by
    have one : nI x + Int32.ofInt 1 = nI (x + 1) := nI_1 x
    rw [cl_X12_doesFamily_127.eq_2, kle_f (fun q => by have := (nI_le_iff (by omega) (by omega)).mp q; omega)]
    refine (m_135 (Y161 := Y161) (Y := fun g21 x1_19 x3_20 => klet (x3_20 + Int32.ofInt 1) (fun x3_22 => ((cl_X12_doesFamily_127 Y161 Y188 u) g21 x1_19 x3_22))) hn (by omega) hP x 100 0 (by omega) (by omega)).trans ?_
    rw [tw_s]
    by_cases hs : sm f x x 0 = true
    · rw [if_pos hs, if_pos hs]
    · rw [if_neg hs, if_neg hs, klet_s, one]
      exact m_127 hn hP k u (x + 1) (by omega) (by omega)
theorem lp_for {p : Nat} (hn : n ≤ 3) (h2 : f 282 2 = nI n) (hP : Parts f g n) : ∀ k u i, i + k = n → k < u → ∃ y, cl_X3_piecesFor_2 u f (nI p) (nI i) = some (y, f) ∧ ((∃ j, i ≤ j ∧ j < n ∧ f 283 j = nI p ∧ y = f 284 j ∧ ∀ o, i ≤ o → o < j → f 283 o ≠ nI p) ∨ ((∀ j, i ≤ j → j < n → f 283 j ≠ nI p) ∧ y = 0))
  | 0, u + 1, i, h1, h3 => by
    refine ⟨0, ?_, Or.inr ⟨fun j h1 h2 => by omega, rfl⟩⟩
    rw [cl_X3_piecesFor_2.eq_2, h2, kle_t (by rw [show i = n by omega]; exact Int32.le_refl _)]
  | k + 1, u + 1, i, h1, h3 => by
    have one : nI i + Int32.ofInt 1 = nI (i + 1) := nI_1 i
    rw [cl_X3_piecesFor_2.eq_2, h2, kle_f (fun q => by have := (nI_le_iff (by omega) (by omega)).mp q; omega), kchk_t (nI_kin (by omega) (by decide)), kchk_t (nI_kin (by omega) (by decide)), nI_clamp (by omega), klet_s, one]
    by_cases he : f 283 i = nI p
    · exact ⟨f 284 i, by rw [keq_t he], Or.inl ⟨i, by omega, by omega, he, rfl, fun o o1 o2 => by omega⟩⟩
    · obtain ⟨y, y1, y2⟩ := lp_for (p := p) hn h2 hP k u (i + 1) (by omega) (by omega)
      refine ⟨y, by rw [keq_f he]; exact y1, ?_⟩
      rcases y2 with ⟨j, j1, j2, j3, j4, j5⟩ | ⟨j1, j2⟩
      · refine Or.inl ⟨j, by omega, j2, j3, j4, fun o o1 o2 => ?_⟩
        by_cases ho : o = i
        · rw [ho]
          exact he
        · exact j5 o (by omega) o2
      · refine Or.inr ⟨fun j k1 k2 => ?_, j2⟩
        by_cases ho : j = i
        · rw [ho]
          exact he
        · exact j1 j (by omega) k2
end FAM
