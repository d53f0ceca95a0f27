/-! asks: it answers, and the answer is the floor's (and the text's length) -/
def Off (f f1 : kMem) : Prop := ∀ a, a ≠ 289 → a ≠ 290 → f1 a = f a
def Va (f : kMem) : Prop := ∃ N g, N < 512 ∧ kR N f g
def AS (f h : kMem) (X X' : Option (Int64 × kMem)) : Prop := ∃ a f1 f1', X = some (a, f1) ∧ X' = some (a, f1') ∧ Off f f1 ∧ Off (mix f h) f1'
section AS
variable {f h : kMem}
theorem wq {ks : List Nat} {X X' : Option kXr} (hr : relX f h X X') (hz : ∃ z, X = some z ∧ (z.1 = 0 ∨ z.1 ∈ ks)) : ∃ r, wvx ks X = some (r, f) ∧ wvx ks X' = some (r, mix f h) := by
  obtain ⟨z, hz1, hz2⟩ := hz
  rcases hr with ⟨e, -⟩ | ⟨c, v, e1, e2⟩
  · rw [e] at hz1
    cases hz1
  · rw [e1] at hz1
    obtain rfl := Option.some.inj hz1
    rw [e1, e2]
    unfold wvx
    dsimp only
    by_cases h0 : c = 0
    · rw [if_pos h0, if_pos h0]
      exact ⟨_, rfl, rfl⟩
    · have h2 : c ∈ ks := hz2.resolve_left h0
      rw [if_neg h0, if_neg h0, if_pos h2, if_pos h2]
      exact ⟨_, rfl, rfl⟩
theorem as_bind {Z Z' : Option (Int32 × kMem)} {Y Y' : Int32 → kMem → Option (Int64 × kMem)} (hZ : ∃ r, Z = some (r, f) ∧ Z' = some (r, mix f h)) (k : ∀ r, AS f h (Y r f) (Y' r (mix f h))) : AS f h (kbind Z Y) (kbind Z' Y') := by
  obtain ⟨r, e1, e2⟩ := hZ
  rw [e1, e2]
  exact k r
theorem le_nI {a i : Nat} (ha : a < 1000) (hi : i < 1000) (h1 : a ≤ i) : nI a ≤ nI i := (nI_le_iff (by omega) (by omega)).mpr h1
theorem nle_nI {a i : Nat} (ha : a < 1000) (hi : i < 1000) (h1 : i < a) : ¬ nI a ≤ nI i := fun q => by have := (nI_le_iff (a := a) (b := i) (by omega) (by omega)).mp q; omega
theorem eq_purge (V : Va f) (x1 x2 : Int32) : ∃ r, lf_purge f x1 x2 = some (r, f) ∧ lf_purge (mix f h) x1 x2 = some (r, mix f h) := by
  obtain ⟨N, g, hN, hR⟩ := V
  obtain ⟨z, bb, g', z1, -, z3, -⟩ := kp_purge N f g x1 x2 hN hR
  exact wq (pe_cx_X11_purge rfl rfl) ⟨z, z1, z3⟩
theorem eq_minutes (V : Va f) (x1 x2 : Int32) : ∃ r, lf_minutes f x1 x2 = some (r, f) ∧ lf_minutes (mix f h) x1 x2 = some (r, mix f h) := by
  obtain ⟨N, g, hN, hR⟩ := V
  obtain ⟨z, bb, g', z1, -, z3, -⟩ := kp_minutes N f g x1 x2 hN hR
  exact wq (pe_cx_X11_minutes rfl rfl) ⟨z, z1, z3⟩
theorem eq_familyOf (V : Va f) (x1 x2 : Int32) : ∃ r, lf_familyOf f x1 x2 = some (r, f) ∧ lf_familyOf (mix f h) x1 x2 = some (r, mix f h) := by
  obtain ⟨N, g, hN, hR⟩ := V
  obtain ⟨z, bb, g', z1, -, z3, -⟩ := kp_familyOf N f g x1 x2 hN hR
  exact wq (pe_cx_X11_familyOf rfl rfl) ⟨z, z1, z3⟩
theorem eq_families (V : Va f) (x1 : Int32) : ∃ r, lf_families f x1 = some (r, f) ∧ lf_families (mix f h) x1 = some (r, mix f h) := by
  obtain ⟨N, g, hN, hR⟩ := V
  obtain ⟨z, bb, g', z1, -, z3, -⟩ := kp_families N f g x1 hN hR
  exact wq (pe_cx_X11_families rfl) ⟨z, z1, z3⟩
theorem eq_dryer (V : Va f) (x1 x2 : Int32) : ∃ r, lf_dryer f x1 x2 = some (r, f) ∧ lf_dryer (mix f h) x1 x2 = some (r, mix f h) := by
  obtain ⟨N, g, hN, hR⟩ := V
  obtain ⟨z, bb, g', z1, -, z3, -⟩ := kp_dryer N f g x1 x2 hN hR
  exact wq (pe_cx_X11_dryer rfl rfl) ⟨z, z1, z3⟩
theorem eq_made (V : Va f) (x1 x2 : Int32) : ∃ r, lf_made f x1 x2 = some (r, f) ∧ lf_made (mix f h) x1 x2 = some (r, mix f h) := by
  obtain ⟨N, g, hN, hR⟩ := V
  obtain ⟨z, bb, g', z1, -, z3, -⟩ := kp_made N f g x1 x2 hN hR
  exact wq (pe_cx_X11_made rfl rfl) ⟨z, z1, z3⟩
theorem eq_stock (V : Va f) (x1 x2 x3 : Int32) : ∃ r, lf_stock f x1 x2 x3 = some (r, f) ∧ lf_stock (mix f h) x1 x2 x3 = some (r, mix f h) := by
  obtain ⟨N, g, hN, hR⟩ := V
  obtain ⟨z, bb, g', z1, -, z3, -⟩ := kp_stock N f g x1 x2 x3 hN hR
  exact wq (pe_cx_X11_stock rfl rfl rfl) ⟨z, z1, z3⟩
theorem eq_orderOf (V : Va f) (x1 x2 : Int32) : ∃ r, lf_orderOf f x1 x2 = some (r, f) ∧ lf_orderOf (mix f h) x1 x2 = some (r, mix f h) := by
  obtain ⟨N, g, hN, hR⟩ := V
  obtain ⟨z, bb, g', z1, -, z3, -⟩ := kp_orderOf N f g x1 x2 hN hR
  exact wq (pe_cx_X11_orderOf rfl rfl) ⟨z, z1, z3⟩
theorem eq_shots (V : Va f) (x1 : Int32) : ∃ r, lf_shots f x1 = some (r, f) ∧ lf_shots (mix f h) x1 = some (r, mix f h) := by
  obtain ⟨N, g, hN, hR⟩ := V
  obtain ⟨z, bb, g', z1, -, z3, -⟩ := kp_shots N f g x1 hN hR
  exact wq (pe_cx_X11_shots rfl) ⟨z, z1, z3⟩
theorem eq_letter (V : Va f) (x1 : Int32) : ∃ r, lf_letter f x1 = some (r, f) ∧ lf_letter (mix f h) x1 = some (r, mix f h) := by
  obtain ⟨N, g, hN, hR⟩ := V
  obtain ⟨z, bb, g', z1, -, z3, -⟩ := kp_letter N f g x1 hN hR
  exact wq (pe_cx_X11_letter rfl) ⟨z, z1, z3⟩
theorem eq_due (V : Va f) (x1 : Int32) : ∃ r, lf_due f x1 = some (r, f) ∧ lf_due (mix f h) x1 = some (r, mix f h) := by
  obtain ⟨N, g, hN, hR⟩ := V
  obtain ⟨z, bb, g', z1, -, z3, -⟩ := kp_due N f g x1 hN hR
  exact wq (pe_cx_X11_due rfl) ⟨z, z1, z3⟩
theorem eq_pieces (V : Va f) (x1 x2 : Int32) : ∃ r, lf_pieces f x1 x2 = some (r, f) ∧ lf_pieces (mix f h) x1 x2 = some (r, mix f h) := by
  obtain ⟨N, g, hN, hR⟩ := V
  obtain ⟨z, bb, g', z1, -, z3, -⟩ := kp_pieces N f g x1 x2 hN hR
  exact wq (pe_cx_X11_pieces rfl rfl) ⟨z, z1, z3⟩
theorem eq_account (V : Va f) (x1 : Int32) (h13 : ¬ x1 = 13) : ∃ r, lf_account f x1 = some (r, f) ∧ lf_account (mix f h) x1 = some (r, mix f h) := by
  obtain ⟨N, g, hN, hR⟩ := V
  obtain ⟨z, bb, g', z1, -, z3, -⟩ := kp_account N f g x1 hN hR
  exact wq (pe_cx_X11_account rfl h13) ⟨z, z1, z3⟩
theorem ac_0 : lf_account f 0 = some (f 1 0, f) := rfl
theorem ac_1 : lf_account f 1 = some (f 1 1, f) := rfl
theorem ac_2 : lf_account f 2 = some (f 1 2, f) := rfl
theorem ac_3 : lf_account f 3 = some (f 18 0, f) := rfl
theorem va_counts (V : Va f) : ∃ c0 c1 c2 c3, f 1 0 = nI c0 ∧ f 1 1 = nI c1 ∧ f 1 2 = nI c2 ∧ f 18 0 = nI c3 ∧ c0 ≤ 6 ∧ c1 ≤ 8 ∧ c2 ≤ 6 ∧ c3 ≤ 10 := by
  obtain ⟨N, g, hN, hR⟩ := V
  obtain ⟨⟨hF, ⟨c0, c1, c2, c3, hI⟩, hZ⟩, -⟩ := id hR
  obtain ⟨g0, g1, g2, g3, b0, b1, b2, b3⟩ := id hI.1
  exact ⟨c0, c1, c2, c3, (FRel_at hF (j := 0) (a := 1) (k := 0) (by decide)).symm.trans g0, (FRel_at hF (j := 1) (a := 1) (k := 1) (by decide)).symm.trans g1, (FRel_at hF (j := 2) (a := 1) (k := 2) (by decide)).symm.trans g2, (FRel_at hF (j := 3) (a := 18) (k := 0) (by decide)).symm.trans g3, b0, b1, b2, b3⟩
theorem as_64 (V : Va f) {Y Y' : kMem → Int64 → Int32 → Option (Int64 × kMem)} (hY : ∀ l x, AS f h (Y f l x) (Y' (mix f h) l x)) (x3 : Int32) : ∀ (n i : Nat) (l : Int64), i ≤ 5 → 5 < i + n → AS f h (ll_asks_64 x3 Y n f l (nI i)) (ll_asks_64 x3 Y' n (mix f h) l (nI i)) := by
  intro n
  induction n with
  | zero => exact fun i l h1 h2 => absurd h2 (by omega)
  | succ n ih =>
    intro i l h1 h2
    unfold ll_asks_64
    by_cases hi : i = 5
    · rw [kle_t (show (5 : Int32) ≤ nI i from le_nI (a := 5) (i := i) (by omega) (by omega) (by omega)), kle_t (show (5 : Int32) ≤ nI i from le_nI (a := 5) (i := i) (by omega) (by omega) (by omega))]
      exact hY _ _
    · rw [kle_f (show ¬ (5 : Int32) ≤ nI i from nle_nI (a := 5) (i := i) (by omega) (by omega) (by omega)), kle_f (show ¬ (5 : Int32) ≤ nI i from nle_nI (a := 5) (i := i) (by omega) (by omega) (by omega))]
      refine as_bind (eq_familyOf V x3 (nI i)) (fun r => ?_)
      rw [nI_1]
      exact ih (i + 1) _ (by omega) (by omega)
theorem as_107 (V : Va f) {Y Y' : kMem → Int64 → Int32 → Option (Int64 × kMem)} (hY : ∀ l x, AS f h (Y f l x) (Y' (mix f h) l x)) (x3 : Int32) : ∀ (n i : Nat) (l : Int64), i ≤ 4 → 4 < i + n → AS f h (ll_asks_107 x3 Y n f l (nI i)) (ll_asks_107 x3 Y' n (mix f h) l (nI i)) := by
  intro n
  induction n with
  | zero => exact fun i l h1 h2 => absurd h2 (by omega)
  | succ n ih =>
    intro i l h1 h2
    unfold ll_asks_107
    by_cases hi : i = 4
    · rw [kle_t (show (4 : Int32) ≤ nI i from le_nI (a := 4) (i := i) (by omega) (by omega) (by omega)), kle_t (show (4 : Int32) ≤ nI i from le_nI (a := 4) (i := i) (by omega) (by omega) (by omega))]
      exact hY _ _
    · rw [kle_f (show ¬ (4 : Int32) ≤ nI i from nle_nI (a := 4) (i := i) (by omega) (by omega) (by omega)), kle_f (show ¬ (4 : Int32) ≤ nI i from nle_nI (a := 4) (i := i) (by omega) (by omega) (by omega))]
      refine as_bind (eq_dryer V x3 (nI i)) (fun r => ?_)
      rw [nI_1]
      exact ih (i + 1) _ (by omega) (by omega)
theorem as_167 (V : Va f) {Y Y' : kMem → Int64 → Int32 → Option (Int64 × kMem)} (hY : ∀ l x, AS f h (Y f l x) (Y' (mix f h) l x)) (x3 : Int32) : ∀ (n i : Nat) (l : Int64), i ≤ 4 → 4 < i + n → AS f h (ll_asks_167 x3 Y n f l (nI i)) (ll_asks_167 x3 Y' n (mix f h) l (nI i)) := by
  intro n
  induction n with
  | zero => exact fun i l h1 h2 => absurd h2 (by omega)
  | succ n ih =>
    intro i l h1 h2
    unfold ll_asks_167
    by_cases hi : i = 4
    · rw [kle_t (show (4 : Int32) ≤ nI i from le_nI (a := 4) (i := i) (by omega) (by omega) (by omega)), kle_t (show (4 : Int32) ≤ nI i from le_nI (a := 4) (i := i) (by omega) (by omega) (by omega))]
      exact hY _ _
    · rw [kle_f (show ¬ (4 : Int32) ≤ nI i from nle_nI (a := 4) (i := i) (by omega) (by omega) (by omega)), kle_f (show ¬ (4 : Int32) ≤ nI i from nle_nI (a := 4) (i := i) (by omega) (by omega) (by omega))]
      refine as_bind (eq_made V x3 (nI i)) (fun r => ?_)
      rw [nI_1]
      exact ih (i + 1) _ (by omega) (by omega)
theorem as_210 (V : Va f) {Y Y' : kMem → Int64 → Int32 → Option (Int64 × kMem)} (hY : ∀ l x, AS f h (Y f l x) (Y' (mix f h) l x)) (x3 : Int32) (x4 : Int32) : ∀ (n i : Nat) (l : Int64), i ≤ 3 → 3 < i + n → AS f h (ll_asks_210 x3 x4 Y n f l (nI i)) (ll_asks_210 x3 x4 Y' n (mix f h) l (nI i)) := by
  intro n
  induction n with
  | zero => exact fun i l h1 h2 => absurd h2 (by omega)
  | succ n ih =>
    intro i l h1 h2
    unfold ll_asks_210
    by_cases hi : i = 3
    · rw [kle_t (show (3 : Int32) ≤ nI i from le_nI (a := 3) (i := i) (by omega) (by omega) (by omega)), kle_t (show (3 : Int32) ≤ nI i from le_nI (a := 3) (i := i) (by omega) (by omega) (by omega))]
      exact hY _ _
    · rw [kle_f (show ¬ (3 : Int32) ≤ nI i from nle_nI (a := 3) (i := i) (by omega) (by omega) (by omega)), kle_f (show ¬ (3 : Int32) ≤ nI i from nle_nI (a := 3) (i := i) (by omega) (by omega) (by omega))]
      refine as_bind (eq_stock V x3 x4 (nI i)) (fun r => ?_)
      rw [nI_1]
      exact ih (i + 1) _ (by omega) (by omega)
theorem as_265 (V : Va f) {Y Y' : kMem → Int64 → Int32 → Option (Int64 × kMem)} (hY : ∀ l x, AS f h (Y f l x) (Y' (mix f h) l x)) (x3 : Int32) : ∀ (n i : Nat) (l : Int64), i ≤ 6 → 6 < i + n → AS f h (ll_asks_265 x3 Y n f l (nI i)) (ll_asks_265 x3 Y' n (mix f h) l (nI i)) := by
  intro n
  induction n with
  | zero => exact fun i l h1 h2 => absurd h2 (by omega)
  | succ n ih =>
    intro i l h1 h2
    unfold ll_asks_265
    by_cases hi : i = 6
    · rw [kle_t (show (6 : Int32) ≤ nI i from le_nI (a := 6) (i := i) (by omega) (by omega) (by omega)), kle_t (show (6 : Int32) ≤ nI i from le_nI (a := 6) (i := i) (by omega) (by omega) (by omega))]
      exact hY _ _
    · rw [kle_f (show ¬ (6 : Int32) ≤ nI i from nle_nI (a := 6) (i := i) (by omega) (by omega) (by omega)), kle_f (show ¬ (6 : Int32) ≤ nI i from nle_nI (a := 6) (i := i) (by omega) (by omega) (by omega))]
      refine as_bind (eq_orderOf V x3 (nI i)) (fun r => ?_)
      rw [nI_1]
      exact ih (i + 1) _ (by omega) (by omega)
theorem as_19 (V : Va f) {Y Y' : kMem → Int64 → Int32 → Option (Int64 × kMem)} (hY : ∀ l x, AS f h (Y f l x) (Y' (mix f h) l x)) : ∀ (n i : Nat) (l : Int64), i ≤ 19 → 19 < i + n → AS f h (ll_asks_19 Y n f l (nI i)) (ll_asks_19 Y' n (mix f h) l (nI i)) := by
  intro n
  induction n with
  | zero => exact fun i l h1 h2 => absurd h2 (by omega)
  | succ n ih =>
    intro i l h1 h2
    unfold ll_asks_19
    by_cases hi : i = 19
    · rw [kle_t (show (19 : Int32) ≤ nI i from le_nI (a := 19) (i := i) (by omega) (by omega) (by omega)), kle_t (show (19 : Int32) ≤ nI i from le_nI (a := 19) (i := i) (by omega) (by omega) (by omega))]
      exact hY _ _
    · rw [kle_f (show ¬ (19 : Int32) ≤ nI i from nle_nI (a := 19) (i := i) (by omega) (by omega) (by omega)), kle_f (show ¬ (19 : Int32) ≤ nI i from nle_nI (a := 19) (i := i) (by omega) (by omega) (by omega)), nI_1]
      by_cases h13 : i = 13
      · rw [keq_t (show nI i = 13 by rw [h13]; rfl), keq_t (show nI i = 13 by rw [h13]; rfl)]
        exact ih (i + 1) _ (by omega) (by omega)
      · have hn : ¬ nI i = 13 := fun q => h13 (nI_inj (b := 13) (by omega) (by decide) q)
        rw [keq_f hn, keq_f hn]
        refine as_bind (eq_account V (nI i) hn) (fun r => ?_)
        exact ih (i + 1) _ (by omega) (by omega)
theorem as_99 (V : Va f) {Y Y' : kMem → Int64 → Int32 → Option (Int64 × kMem)} (hY : ∀ l x, AS f h (Y f l x) (Y' (mix f h) l x)) : ∀ (n i : Nat) (l : Int64), i ≤ 3 → 3 < i + n → AS f h (ll_asks_99 Y n f l (nI i)) (ll_asks_99 Y' n (mix f h) l (nI i)) := by
  intro n
  induction n with
  | zero => exact fun i l h1 h2 => absurd h2 (by omega)
  | succ n ih =>
    intro i l h1 h2
    unfold ll_asks_99
    by_cases hi : i = 3
    · rw [kle_t (show (3 : Int32) ≤ nI i from le_nI (a := 3) (i := i) (by omega) (by omega) (by omega)), kle_t (show (3 : Int32) ≤ nI i from le_nI (a := 3) (i := i) (by omega) (by omega) (by omega))]
      exact hY _ _
    · rw [kle_f (show ¬ (3 : Int32) ≤ nI i from nle_nI (a := 3) (i := i) (by omega) (by omega) (by omega)), kle_f (show ¬ (3 : Int32) ≤ nI i from nle_nI (a := 3) (i := i) (by omega) (by omega) (by omega))]
      refine as_107 V (fun l x => ?_) (nI i) 5 0 _ (by omega) (by omega)
      rw [nI_1]
      exact ih (i + 1) _ (by omega) (by omega)
theorem as_52 (V : Va f) {c : Nat} (hc : c ≤ 10) (e1 : f 1 2 = nI c) {Y Y' : kMem → Int64 → Int32 → Option (Int64 × kMem)} (hY : ∀ l x, AS f h (Y f l x) (Y' (mix f h) l x)) : ∀ (n i : Nat) (l : Int64), i ≤ c → c < i + n → AS f h (ll_asks_52 Y n f l (nI i)) (ll_asks_52 Y' n (mix f h) l (nI i)) := by
  have e2 : mix f h 1 2 = nI c := e1
  intro n
  induction n with
  | zero => exact fun i l h1 h2 => absurd h2 (by omega)
  | succ n ih =>
    intro i l h1 h2
    unfold ll_asks_52
    rw [ac_2, ac_2, kbind_s, kbind_s, e1, e2]
    by_cases hi : i = c
    · rw [kle_t (le_nI (a := c) (i := i) (by omega) (by omega) (by omega)), kle_t (le_nI (a := c) (i := i) (by omega) (by omega) (by omega))]
      exact hY _ _
    · rw [kle_f (nle_nI (a := c) (i := i) (by omega) (by omega) (by omega)), kle_f (nle_nI (a := c) (i := i) (by omega) (by omega) (by omega))]
      refine as_64 V (fun l x => ?_) (nI i) 6 0 _ (by omega) (by omega)
      rw [nI_1]
      exact ih (i + 1) _ (by omega) (by omega)
theorem as_197 (V : Va f) {c : Nat} (hc : c ≤ 10) (e1 : f 1 0 = nI c) {Y Y' : kMem → Int64 → Int32 → Option (Int64 × kMem)} (hY : ∀ l x, AS f h (Y f l x) (Y' (mix f h) l x)) (x3 : Int32) : ∀ (n i : Nat) (l : Int64), i ≤ c → c < i + n → AS f h (ll_asks_197 x3 Y n f l (nI i)) (ll_asks_197 x3 Y' n (mix f h) l (nI i)) := by
  have e2 : mix f h 1 0 = nI c := e1
  intro n
  induction n with
  | zero => exact fun i l h1 h2 => absurd h2 (by omega)
  | succ n ih =>
    intro i l h1 h2
    unfold ll_asks_197
    rw [ac_0, ac_0, kbind_s, kbind_s, e1, e2]
    by_cases hi : i = c
    · rw [kle_t (le_nI (a := c) (i := i) (by omega) (by omega) (by omega)), kle_t (le_nI (a := c) (i := i) (by omega) (by omega) (by omega))]
      exact hY _ _
    · rw [kle_f (nle_nI (a := c) (i := i) (by omega) (by omega) (by omega)), kle_f (nle_nI (a := c) (i := i) (by omega) (by omega) (by omega))]
      refine as_210 V (fun l x => ?_) x3 (nI i) 4 0 _ (by omega) (by omega)
      rw [nI_1]
      exact ih (i + 1) _ (by omega) (by omega)
theorem as_142h (V : Va f) {c : Nat} (hc : c ≤ 10) (e1 : f 1 1 = nI c) {Y Y' : kMem → Int64 → Int32 → Option (Int64 × kMem)} : True := trivial
theorem as_142 (V : Va f) {c : Nat} (hc : c ≤ 10) (e1 : f 1 1 = nI c) {Y Y' : kMem → Int64 → Int32 → Option (Int64 × kMem)} (hY : ∀ l x, AS f h (Y f l x) (Y' (mix f h) l x)) : ∀ (n i : Nat) (l : Int64), i ≤ c → c < i + n → AS f h (ll_asks_142 Y n f l (nI i)) (ll_asks_142 Y' n (mix f h) l (nI i)) := by
  have e2 : mix f h 1 1 = nI c := e1
  intro n
  induction n with
  | zero => exact fun i l h1 h2 => absurd h2 (by omega)
  | succ n ih =>
    intro i l h1 h2
    unfold ll_asks_142
    rw [ac_1, ac_1, kbind_s, kbind_s, e1, e2]
    by_cases hi : i = c
    · rw [kle_t (le_nI (a := c) (i := i) (by omega) (by omega) (by omega)), kle_t (le_nI (a := c) (i := i) (by omega) (by omega) (by omega))]
      exact hY _ _
    · rw [kle_f (nle_nI (a := c) (i := i) (by omega) (by omega) (by omega)), kle_f (nle_nI (a := c) (i := i) (by omega) (by omega) (by omega))]
      obtain ⟨c0, -, -, -, w0, -, -, -, b0, -⟩ := va_counts V
      refine as_bind (eq_families V (nI i)) (fun r => ?_)
      refine as_167 V (fun l x => ?_) (nI i) 5 0 _ (by omega) (by omega)
      refine as_197 V (c := c0) (by omega) w0 (fun l x => ?_) (nI i) 7 0 _ (by omega) (by omega)
      rw [nI_1]
      exact ih (i + 1) _ (by omega) (by omega)
theorem as_253 (V : Va f) {c : Nat} (hc : c ≤ 10) (e1 : f 18 0 = nI c) {Y Y' : kMem → Int64 → Int32 → Option (Int64 × kMem)} (hY : ∀ l x, AS f h (Y f l x) (Y' (mix f h) l x)) : ∀ (n i : Nat) (l : Int64), i ≤ c → c < i + n → AS f h (ll_asks_253 Y n f l (nI i)) (ll_asks_253 Y' n (mix f h) l (nI i)) := by
  have e2 : mix f h 18 0 = nI c := e1
  intro n
  induction n with
  | zero => exact fun i l h1 h2 => absurd h2 (by omega)
  | succ n ih =>
    intro i l h1 h2
    unfold ll_asks_253
    rw [ac_3, ac_3, kbind_s, kbind_s, e1, e2]
    by_cases hi : i = c
    · rw [kle_t (le_nI (a := c) (i := i) (by omega) (by omega) (by omega)), kle_t (le_nI (a := c) (i := i) (by omega) (by omega) (by omega))]
      exact hY _ _
    · rw [kle_f (nle_nI (a := c) (i := i) (by omega) (by omega) (by omega)), kle_f (nle_nI (a := c) (i := i) (by omega) (by omega) (by omega))]
      refine as_265 V (fun l x => ?_) (nI i) 7 0 _ (by omega) (by omega)
      refine as_bind (eq_shots V (nI i)) (fun r => ?_)
      refine as_bind (eq_letter V (nI i)) (fun r => ?_)
      rw [nI_1]
      exact ih (i + 1) _ (by omega) (by omega)
theorem as_325 (V : Va f) {c : Nat} (hc : c ≤ 10) (e1 : f 1 0 = nI c) {Y Y' : kMem → Int64 → Int32 → Option (Int64 × kMem)} (hY : ∀ l x, AS f h (Y f l x) (Y' (mix f h) l x)) : ∀ (n i : Nat) (l : Int64), i ≤ c → c < i + n → AS f h (ll_asks_325 Y n f l (nI i)) (ll_asks_325 Y' n (mix f h) l (nI i)) := by
  have e2 : mix f h 1 0 = nI c := e1
  intro n
  induction n with
  | zero => exact fun i l h1 h2 => absurd h2 (by omega)
  | succ n ih =>
    intro i l h1 h2
    unfold ll_asks_325
    rw [ac_0, ac_0, kbind_s, kbind_s, e1, e2]
    by_cases hi : i = c
    · rw [kle_t (le_nI (a := c) (i := i) (by omega) (by omega) (by omega)), kle_t (le_nI (a := c) (i := i) (by omega) (by omega) (by omega))]
      exact hY _ _
    · rw [kle_f (nle_nI (a := c) (i := i) (by omega) (by omega) (by omega)), kle_f (nle_nI (a := c) (i := i) (by omega) (by omega) (by omega))]
      refine as_bind (eq_purge V (nI i) 0) (fun r => ?_)
      refine as_bind (eq_minutes V (nI i) 3) (fun r => ?_)
      rw [nI_1]
      exact ih (i + 1) _ (by omega) (by omega)
theorem lat_nan {z : Nat × Value × kMem} {x : UInt64} (h1 : cx_X11_lateness f = some z) (h2 : z.1 = 0) (h3 : z.2.1 = .double x) : FP.Core.dIsNaN x = false := by
  unfold cx_X11_lateness at h1
  obtain ⟨r1, g1, -, h1⟩ := kbind_some h1
  unfold klt at h1
  split at h1
  · obtain ⟨r3, g3, -, h1⟩ := kbind_some h1
    obtain ⟨hb, h1⟩ := kchk_some h1
    obtain rfl := Option.some.inj h1
    obtain rfl := Value.double.inj h3
    exact ddivN (by simpa using hb)
  · obtain rfl := Option.some.inj h1
    exact absurd h2 (show ¬ (6 : Nat) = 0 by decide)
theorem scr_nan {z : Nat × Value × kMem} {x : UInt32} (h1 : cx_X11_scrap f = some z) (h2 : z.1 = 0) (h3 : z.2.1 = .float x) : FP.Core.fIsNaN x = false := by
  unfold cx_X11_scrap at h1
  obtain ⟨r1, g1, -, h1⟩ := kbind_some h1
  unfold klt at h1
  split at h1
  · obtain ⟨r3, g3, -, h1⟩ := kbind_some h1
    obtain ⟨hb, h1⟩ := kchk_some h1
    obtain rfl := Option.some.inj h1
    obtain rfl := Value.float.inj h3
    exact fdivN (by simpa using hb)
  · obtain rfl := Option.some.inj h1
    exact absurd h2 (show ¬ (6 : Nat) = 0 by decide)
theorem eq_lateness (V : Va f) : ∃ r, lf_lateness f = some (r, f) ∧ lf_lateness (mix f h) = some (r, mix f h) ∧ FP.Core.dIsNaN r = false := by
  obtain ⟨N, g, hN, hR⟩ := V
  obtain ⟨z, bb, g1, z1, -, z3, -, ⟨x, rfl⟩, z5, -⟩ := kp_lateness N f g hN hR
  rcases (pe_cx_X11_lateness : relX f h _ _) with ⟨e, -⟩ | ⟨c, v, e1, e2⟩
  · rw [e] at z1; cases z1
  · obtain rfl := Option.some.inj (e1.symm.trans z1)
    unfold lf_lateness
    rw [e1, e2]
    rcases z3 with rfl | rfl
    · obtain ⟨hv, -⟩ := z5 rfl
      dsimp only at hv
      subst hv
      exact ⟨x, rfl, rfl, lat_nan e1 rfl rfl⟩
    · exact ⟨_, rfl, rfl, by decide +kernel⟩
theorem eq_scrap (V : Va f) : ∃ r, lf_scrap f = some (r, f) ∧ lf_scrap (mix f h) = some (r, mix f h) ∧ FP.Core.fIsNaN r = false := by
  obtain ⟨N, g, hN, hR⟩ := V
  obtain ⟨z, bb, g1, z1, -, z3, -, ⟨x, rfl⟩, z5, -⟩ := kp_scrap N f g hN hR
  rcases (pe_cx_X11_scrap : relX f h _ _) with ⟨e, -⟩ | ⟨c, v, e1, e2⟩
  · rw [e] at z1; cases z1
  · obtain rfl := Option.some.inj (e1.symm.trans z1)
    unfold lf_scrap
    rw [e1, e2]
    rcases z3 with rfl | rfl
    · obtain ⟨hv, -⟩ := z5 rfl
      dsimp only at hv
      subst hv
      exact ⟨x, rfl, rfl, scr_nan e1 rfl rfl⟩
    · exact ⟨_, rfl, rfl, by decide +kernel⟩
theorem mix_off {f1 : kMem} (ho : Off f f1) : mix f f1 = f1 := mix_of (fun a ha => ho a (by omega) (by omega)) (by rw [ho 280 (by decide) (by decide)])
theorem mix_off2 {f1 : kMem} (ho : Off (mix f h) f1) : mix f f1 = f1 := mix_of (fun a ha => (ho a (by omega) (by omega)).trans (mix_lo ha)) (by rw [ho 280 (by decide) (by decide)]; show upd (h 280) 2 (f 280 2) 2 = _; exact upd_eq)
theorem as_tail (V : Va f) (x : Int32) (K : Int32 → Int32 → Int64) : AS f h (kbind (lf_best f x) (fun r g => kbind (lf_due g 3) (fun r1 g1 => some (K r r1, g1)))) (kbind (lf_best (mix f h) x) (fun r g => kbind (lf_due g 3) (fun r1 g1 => some (K r r1, g1)))) := by
  obtain ⟨N, g, hN, hR⟩ := id V
  obtain ⟨c, r, f1, f1', e1, e2, hc, o1, o2⟩ := pb_best h hR x
  obtain ⟨r9, d1, d2⟩ := eq_due (h := f1) V 3
  obtain ⟨r8, d3, d4⟩ := eq_due (h := f1') V 3
  rw [mix_off o1] at d2
  rw [mix_off2 o2] at d4
  obtain rfl : r9 = r8 := (Prod.mk.inj (Option.some.inj (d1.symm.trans d3))).1
  have b : ∃ r7, lf_best f x = some (r7, f1) ∧ lf_best (mix f h) x = some (r7, f1') := by
    unfold lf_best
    rw [e1, e2]
    rcases hc with rfl | rfl
    · exact ⟨_, rfl, rfl⟩
    · exact ⟨_, rfl, rfl⟩
  obtain ⟨r7, b1, b2⟩ := b
  rw [b1, b2, kbind_s, kbind_s, d2, d4, kbind_s, kbind_s]
  exact ⟨_, f1, f1', rfl, rfl, o1, o2⟩
set_option maxRecDepth 20000 in
theorem as_all (V : Va f) : AS f h (lf_asks f) (lf_asks (mix f h)) := by
  obtain ⟨c0, c1, c2, c3, w0, w1, w2, w3, b0, b1, b2, b3⟩ := va_counts V
  obtain ⟨r1, l1, l2, l3⟩ := eq_lateness (h := h) V
  obtain ⟨r4, s1, s2, s3⟩ := eq_scrap (h := h) V
  unfold lf_asks
  rw [l1, l2]
  unfold mdbind
  dsimp only
  rw [kchk_t (by rw [l3]; rfl), kchk_t (by rw [l3]; rfl), s1, s2]
  unfold mfbind
  dsimp only
  rw [kchk_t (by rw [s3]; rfl), kchk_t (by rw [s3]; rfl)]
  refine as_19 V (fun l x => ?_) 20 0 _ (by omega) (by omega)
  refine as_52 V (c := c2) (by omega) w2 (fun l x => ?_) 8 0 _ (by omega) (by omega)
  refine as_99 V (fun l x => ?_) 4 0 _ (by omega) (by omega)
  refine as_142 V (c := c1) (by omega) w1 (fun l x => ?_) 9 0 _ (by omega) (by omega)
  refine as_253 V (c := c3) (by omega) w3 (fun l x => ?_) 11 0 _ (by omega) (by omega)
  refine as_325 V (c := c0) (by omega) w0 (fun l x => ?_) 7 0 _ (by omega) (by omega)
  rw [ac_0, ac_0, kbind_s, kbind_s]
  exact as_tail V _ (fun r r1 => (31 * ((31 * l) + r.toInt64)) + r1.toInt64)
end AS
