/-! best: the model tries all orders -/
def encO : Option Nat → Int32
  | none => -1
  | some t => nI t
def bet (o : Option Nat) (m : Nat) : Bool := match o with
  | none => true
  | some t => decide (m < t)
theorem bet_none (m : Nat) : bet none m = true := rfl
def obd (o : Option Nat) : Prop := ∀ t, o = some t → t ≤ 100000
theorem lp_copyRow {rc : kMem → Int32 → Int32 → Int32 → Option (Int32 × kMem)} {n : Nat} (hn : n ≤ 6) : ∀ k u i g, i + k = n → k < u → ∃ g1, cl_X12_orders_28 rc u g (nI n) (nI i) = some (0, g1) ∧ (∀ a, a ≠ 9 → g1 a = g a) ∧ (∀ j, j < i ∨ n ≤ j → g1 9 j = g 9 j) ∧ ∀ j, i ≤ j → j < n → g1 9 j = g 10 j
  | 0, u + 1, i, g, h1, h2 => by
    obtain rfl : i = n := by omega
    refine ⟨g, ?_, fun _ _ => rfl, fun _ _ => rfl, fun j j1 j2 => by omega⟩
    rw [cl_X12_orders_28.eq_2, kle_t (Int32.le_refl _)]
  | k + 1, u + 1, i, g, h1, h2 => by
    have one : nI i + Int32.ofInt 1 = nI (i + 1) := nI_1 i
    obtain ⟨g1, e1, e2, e3, e4⟩ := lp_copyRow (rc := rc) hn k u (i + 1) (kup g 9 i (g 10 i)) (by omega) (by omega)
    refine ⟨g1, ?_, fun a ha => by rw [e2 a ha, kup_ne _ _ _ ha], fun j hj => by rw [e3 j (by omega), kup_nk (by omega)], fun j j1 j2 => ?_⟩
    · rw [cl_X12_orders_28.eq_2, kle_f (fun q => by have := (nI_le_iff (by omega) (by omega)).mp q; omega), kchk_t (nI_kin (by omega) (by decide)), kchk_t (nI_kin (by omega) (by decide)), nI_clamp (by omega), kmem_s, klet_s, one]
      exact e1
    · by_cases hj : j = i
      · rw [hj, e3 _ (by omega), kup_at]
      · rw [e4 j (by omega) j2, kup_ne _ _ _ (by decide)]
/-- what a call of orders does: m the least sum, the order from the place n on is w 0, w 1 .. w (l - 1) -/
def OR (g g1 : kMem) (n m l : Nat) (w : Nat → Nat) (o : Option Nat) : Prop := (∀ a, a ≠ 0 → a ≠ 9 → a ≠ 10 → g1 a = g a) ∧ (∀ k, k ≠ 15 → g1 0 k = g 0 k) ∧ (∀ k, k < n → g1 10 k = g 10 k) ∧ if bet o m = true then g1 0 15 = nI m ∧ (∀ k, k < n → g1 9 k = g 10 k) ∧ ∀ j, j < l → g1 9 (n + j) = nI (w j) else g1 0 15 = encO o ∧ ∀ k, g1 9 k = g 9 k
/-- and the loop over the colours: z the first least -/
def OZ (P : Nat → Nat → Nat) (g g1 : kMem) (n S s : Nat) (z : Option (Nat × Nat)) (o : Option Nat) : Prop := (∀ a, a ≠ 0 → a ≠ 9 → a ≠ 10 → g1 a = g a) ∧ (∀ k, k ≠ 15 → g1 0 k = g 0 k) ∧ (∀ k, k < n → g1 10 k = g 10 k) ∧ match z with
  | none => g1 0 15 = encO o ∧ ∀ k, g1 9 k = g 9 k
  | some z => if bet o (s + z.1) = true then g1 0 15 = nI (s + z.1) ∧ (∀ k, k < n → g1 9 k = g 10 k) ∧ g1 9 n = nI z.2 ∧ ∀ j, j < pc (del S z.2) → g1 9 (n + 1 + j) = nI (bo P j (del S z.2) (z.2 + 1)) else g1 0 15 = encO o ∧ ∀ k, g1 9 k = g 9 k
def ORs (P : Nat → Nat → Nat) (c0 u : Nat) : Prop := ∀ S n s r (g : kMem) (o : Option Nat), S < 64 → pc S < u → n + pc S ≤ 6 → (∀ c, mem S c = true → c < c0) → g 0 15 = encO o → obd o → s ≤ 46 * n → (n = 0 → g 1 5 = nI r - 1) → (0 < n → g 10 (n - 1) = nI r - 1) → r ≤ c0 → (∀ (h : kMem) (r c : Nat), h 1 = g 1 → r ≤ c0 → c < c0 → cf_X12_purgeOf h (nI r - 1) (nI c) = some (nI (P r c), h)) → ∃ g1, cf_X12_orders u g (nI n) (nI S) (nI s) = some (0, g1) ∧ OR g g1 n (s + bS P S r) (pc S) (fun j => bo P j S r) o
set_option maxRecDepth 20000 in
theorem lp_ord {P : Nat → Nat → Nat} {c0 u n S s r : Nat} (hb : ∀ r c, P r c ≤ 46) (hc0 : c0 ≤ 6) (ih : ORs P c0 u) (hS : S < 64) (hu : pc S ≤ u) (hn : n + pc S ≤ 6) (hn6 : n < 6) (hm : ∀ c, mem S c = true → c < c0) (hs : s ≤ 46 * n) (hr : r ≤ c0) : ∀ k w i (g : kMem) (o : Option Nat), i + k = 6 → k < w → g 0 15 = encO o → obd o → (n = 0 → g 1 5 = nI r - 1) → (0 < n → g 10 (n - 1) = nI r - 1) → (∀ (h : kMem) (r c : Nat), h 1 = g 1 → r ≤ c0 → c < c0 → cf_X12_purgeOf h (nI r - 1) (nI c) = some (nI (P r c), h)) → ∃ g1, cl_X12_orders_58 (cf_X12_orders u) w g (nI n) (nI S) (nI s) (nI i) = some (0, g1) ∧ OZ P g g1 n S s (fm (bF P S r) S k i) o
  | 0, w + 1, i, g, o, h1, h2, ho, hob, hr0, hr1, hpu => by
    obtain rfl : i = 6 := by omega
    refine ⟨g, ?_, fun _ _ _ _ => rfl, fun _ _ => rfl, fun _ _ => rfl, ho, fun _ => rfl⟩
    rw [cl_X12_orders_58.eq_2, kle_t (by decide)]
  | k + 1, w + 1, i, g, o, h1, h2, ho, hob, hr0, hr1, hpu => by
    have one : nI i + Int32.ofInt 1 = nI (i + 1) := nI_1 i
    rw [cl_X12_orders_58.eq_2, kle_f (fun q => by have := (nI_le_iff (a := 6) (by omega) (by omega)).mp q; omega), bit_mem S hS i (by omega), one]
    by_cases hmi : mem S i = true
    rotate_left
    · obtain ⟨g1, e1, e2⟩ := lp_ord hb hc0 ih hS hu hn hn6 hm hs hr k w (i + 1) g o (by omega) (by omega) ho hob hr0 hr1 hpu
      refine ⟨g1, ?_, ?_⟩
      · rw [if_neg hmi, keq_t rfl, klet_s]
        exact e1
      · have e : fm (bF P S r) S (k + 1) i = fm (bF P S r) S k (i + 1) := by
          show (match fm (bF P S r) S k (i + 1) with | none => _ | some z => _) = _
          rcases fm (bF P S r) S k (i + 1) with _ | z
          · simp only [hmi]
            rfl
          · simp only [hmi, false_and, if_false]
            rfl
        rw [e]
        exact e2
    · have hic := hm i hmi
      obtain ⟨d1, d2⟩ := del_lt0 S hS i (by omega)
      obtain ⟨d3, d4⟩ := d2 hmi
      have hFi := bF_le hb S r i
      have hPi := hb r i
      obtain ⟨g1, e1, e2, e3, e4, e5⟩ := ih (del S i) (n + 1) (s + P r i) (i + 1) (kup g 10 n (nI i)) o d1 (by omega) (by omega) (fun c hc => by
        by_cases hc6 : c < 6
        · rw [del_mem0 S hS i (by omega) c hc6] at hc
          simp at hc
          exact hm c hc.1
        · exfalso
          have : del S i < 2 ^ c := Nat.lt_of_lt_of_le d1 (Nat.pow_le_pow_right (n := 2) (by omega) (show 6 ≤ c by omega))
          unfold mem at hc
          rw [Nat.testBit_lt_two_pow this] at hc
          cases hc) ho hob (by omega) (by omega) (fun _ => by rw [show n + 1 - 1 = n by omega, kup_at, nI_pred]) (by omega) (fun h r c h1 h2 h3 => hpu h r c (h1.trans (kup_ne _ _ _ (by decide))) h2 h3)
      have eF : s + P r i + bS P (del S i) (i + 1) = s + bF P S r i := by
        show _ = s + (P r i + bS P (del S i) (i + 1))
        omega
      rw [eF] at e5
      have hfrom : ∀ Y : Int32 → Option (Int32 × kMem), keq (nI n) 0 (Y ((kup g 10 n (nI i)) 1 5)) (kchk (kin (nI n - 1) 6) (Y ((kup g 10 n (nI i)) 10 (Int32.toNatClampNeg (nI n - 1))))) = Y (nI r - 1) := fun Y => by
        by_cases hn0 : n = 0
        · rw [keq_t (by rw [hn0]; rfl), kup_ne _ _ _ (by decide), hr0 hn0]
        · rw [keq_f (nI_ne0 (by omega) (by omega)), nI_sub1 (by omega), kchk_t (nI_kin (by omega) (by decide)), nI_clamp (by omega), kup_nk (by omega), hr1 (by omega)]
      have estep : keq (if mem S i = true then 1 else 0) 0 (klet (nI (i + 1)) (fun x4_7 => ((cl_X12_orders_58 (cf_X12_orders u) w) g (nI n) (nI S) (nI s) x4_7))) (kchk (kin (nI n) 6) (kmem (kup g 10 (Int32.toNatClampNeg (nI n)) (nI i)) (fun g1 => keq (nI n) 0 ((cj_X12_orders_120 (cf_X12_orders u) (cl_X12_orders_58 (cf_X12_orders u) w) g1 (nI n) (nI S) (nI s) (nI i) (g1 1 5) (nI s) (nI S &&& ((1 <<< (nI i &&& 31)) ^^^ (-1))) (nI n + 1))) (kchk (kin (nI n - 1) 6) ((cj_X12_orders_120 (cf_X12_orders u) (cl_X12_orders_58 (cf_X12_orders u) w) g1 (nI n) (nI S) (nI s) (nI i) (g1 10 (Int32.toNatClampNeg (nI n - 1))) (nI s) (nI S &&& ((1 <<< (nI i &&& 31)) ^^^ (-1))) (nI n + 1))))))) = cl_X12_orders_58 (cf_X12_orders u) w g1 (nI n) (nI S) (nI s) (nI (i + 1)) := by
        rw [if_pos hmi, keq_f (by decide), kchk_t (nI_kin (by omega) (by decide)), nI_clamp (n := n) (by omega), kmem_s, hfrom (fun t => cj_X12_orders_120 (cf_X12_orders u) (cl_X12_orders_58 (cf_X12_orders u) w) (kup g 10 n (nI i)) (nI n) (nI S) (nI s) (nI i) t (nI s) (nI S &&& ((1 <<< (nI i &&& 31)) ^^^ (-1))) (nI n + 1))]
        unfold cj_X12_orders_120
        rw [hpu (kup g 10 n (nI i)) r i (kup_ne _ _ _ (by decide)) hr hic, kbind_s, bit_del S hS i (by omega), nI_1, nI_add, e1, kbind_s, one, klet_s]
      rw [estep]
      obtain ⟨g2, a1, a2, a3, a4, a5⟩ := lp_ord hb hc0 ih hS hu hn hn6 hm hs hr k w (i + 1) g1 (if bet o (s + bF P S r i) = true then some (s + bF P S r i) else o) (by omega) (by omega) (by
        by_cases hbt : bet o (s + bF P S r i) = true
        · rw [if_pos hbt] at e5 ⊢
          exact e5.1
        · rw [if_neg hbt] at e5 ⊢
          exact e5.1) (by
        split
        · intro t ht
          cases ht
          omega
        · exact hob) (fun h => by rw [e2 1 (by decide) (by decide) (by decide), kup_ne _ _ _ (by decide)]; exact hr0 h) (fun h => by rw [e4 _ (by omega), kup_nk (by omega)]; exact hr1 h) (fun h r c h1 h2 h3 => hpu h r c (h1.trans ((e2 1 (by decide) (by decide) (by decide)).trans (kup_ne _ _ _ (by decide)))) h2 h3)
      have f2 : ∀ a, a ≠ 0 → a ≠ 9 → a ≠ 10 → g2 a = g a := fun a b1 b2 b3 => by rw [a2 a b1 b2 b3, e2 a b1 b2 b3, kup_ne _ _ _ b3]
      have f3 : ∀ k, k ≠ 15 → g2 0 k = g 0 k := fun k hk => by rw [a3 k hk, e3 k hk, kup_ne _ _ _ (by decide)]
      have f4 : ∀ k, k < n → g2 10 k = g 10 k := fun k hk => by rw [a4 k hk, e4 k (by omega), kup_nk (by omega)]
      have f9 : ∀ k, k < n → g1 10 k = g 10 k := fun k hk => by rw [e4 k (by omega), kup_nk (by omega)]
      have f10 : ∀ k, (kup g 10 n (nI i)) 9 k = g 9 k := fun k => by rw [kup_ne _ _ _ (by decide)]
      refine ⟨g2, a1, f2, f3, f4, ?_⟩
      have efm : fm (bF P S r) S (k + 1) i = match fm (bF P S r) S k (i + 1) with
        | none => some (bF P S r i, i)
        | some z => if bF P S r i ≤ z.1 then some (bF P S r i, i) else some z := by
        show (match fm (bF P S r) S k (i + 1) with | none => _ | some z => _) = _
        rcases fm (bF P S r) S k (i + 1) with _ | z
        · simp only [hmi, if_true]
        · simp only [hmi, true_and]
      rw [efm]
      -- the winner is i
      have win : bet o (s + bF P S r i) = true → g2 0 15 = nI (s + bF P S r i) → (∀ k, g2 9 k = g1 9 k) → (g2 0 15 = nI (s + bF P S r i) ∧ (∀ k, k < n → g2 9 k = g 10 k) ∧ g2 9 n = nI i ∧ ∀ j, j < pc (del S i) → g2 9 (n + 1 + j) = nI (bo P j (del S i) (i + 1))) := fun hbt b1 b2 => by
        rw [if_pos hbt] at e5
        obtain ⟨-, k2, k3⟩ := e5
        refine ⟨b1, fun k hk => ?_, ?_, fun j hj => ?_⟩
        · rw [b2, k2 k (by omega), kup_nk (by omega)]
        · rw [b2, k2 n (by omega), kup_at]
        · rw [b2, k3 j hj]
      rcases hz : fm (bF P S r) S k (i + 1) with _ | z
      · rw [hz] at a5
        obtain ⟨b1, b2⟩ := a5
        by_cases hbt : bet o (s + bF P S r i) = true
        · rw [if_pos hbt] at b1
          show (if bet o (s + bF P S r i) = true then _ else _)
          rw [if_pos hbt]
          exact win hbt b1 b2
        · rw [if_neg hbt] at b1 e5
          show (if bet o (s + bF P S r i) = true then _ else _)
          rw [if_neg hbt]
          exact ⟨b1, fun k => by rw [b2, e5.2 k, f10]⟩
      · rw [hz] at a5
        obtain ⟨z1, z2, z3, z4⟩ := fm_some k (i + 1) hz
        have a5 : if bet (if bet o (s + bF P S r i) = true then some (s + bF P S r i) else o) (s + z.1) = true then g2 0 15 = nI (s + z.1) ∧ (∀ k, k < n → g2 9 k = g1 10 k) ∧ g2 9 n = nI z.2 ∧ ∀ j, j < pc (del S z.2) → g2 9 (n + 1 + j) = nI (bo P j (del S z.2) (z.2 + 1)) else g2 0 15 = encO (if bet o (s + bF P S r i) = true then some (s + bF P S r i) else o) ∧ ∀ k, g2 9 k = g1 9 k := a5
        by_cases hbt : bet o (s + bF P S r i) = true
        · rw [if_pos hbt] at a5
          by_cases hle : bF P S r i ≤ z.1
          · simp only [hle, if_true]
            rw [if_neg (by unfold bet; simp; omega)] at a5
            rw [if_pos hbt]
            exact win hbt a5.1 a5.2
          · simp only [hle, if_false]
            rw [if_pos (by unfold bet; simp; omega)] at a5
            have hbz : bet o (s + z.1) = true := by
              unfold bet at hbt ⊢
              rcases o with _ | t
              · rfl
              · simp only [decide_eq_true_eq] at hbt ⊢
                omega
            rw [if_pos hbz]
            obtain ⟨k1, k2, k3⟩ := a5
            exact ⟨k1, fun k hk => by rw [k2 k hk, f9 k hk], k3⟩
        · rw [if_neg hbt] at a5 e5
          obtain ⟨k1, k2⟩ := e5
          by_cases hle : bF P S r i ≤ z.1
          · simp only [hle, if_true]
            have hbz : ¬ bet o (s + z.1) = true := by
              unfold bet at hbt ⊢
              rcases o with _ | t
              · exact absurd rfl hbt
              · simp only [decide_eq_true_eq] at hbt ⊢
                omega
            rw [if_neg hbz] at a5
            rw [if_neg hbt]
            exact ⟨a5.1, fun k => by rw [a5.2, k2, f10]⟩
          · simp only [hle, if_false]
            by_cases hbz : bet o (s + z.1) = true
            · rw [if_pos hbz] at a5 ⊢
              obtain ⟨q1, q2, q3⟩ := a5
              exact ⟨q1, fun k hk => by rw [q2 k hk, f9 k hk], q3⟩
            · rw [if_neg hbz] at a5 ⊢
              exact ⟨a5.1, fun k => by rw [a5.2, k2, f10]⟩
set_option maxRecDepth 20000 in
theorem m_orders {P : Nat → Nat → Nat} {c0 : Nat} (hb : ∀ r c, P r c ≤ 46) (hc0 : c0 ≤ 6) : ∀ u, ORs P c0 u
  | 0 => fun S n s r g o hS hu => absurd hu (by omega)
  | u + 1 => fun S n s r g o hS hu hn hm ho hob hs hr0 hr1 hr hpu => by
    rw [cf_X12_orders.eq_2]
    by_cases h0 : S = 0
    · subst h0
      have hp0 : pc 0 = 0 := by decide
      rw [keq_t (show nI 0 = 0 from rfl), ho, bS_0, hp0, Nat.add_zero]
      have go : ∃ g1, kmem (kup g 0 15 (nI s)) (fun g8 => (cl_X12_orders_28 (cf_X12_orders u) 100 g8 (nI n) 0)) = some (0, g1) ∧ (∀ a, a ≠ 0 → a ≠ 9 → a ≠ 10 → g1 a = g a) ∧ (∀ k, k ≠ 15 → g1 0 k = g 0 k) ∧ (∀ k, k < n → g1 10 k = g 10 k) ∧ g1 0 15 = nI s ∧ (∀ k, k < n → g1 9 k = g 10 k) ∧ ∀ j, j < 0 → g1 9 (n + j) = nI (bo P j 0 r) := by
        obtain ⟨g1, e1, e2, e3, e4⟩ := lp_copyRow (rc := cf_X12_orders u) (n := n) (by omega) n 100 0 (kup g 0 15 (nI s)) (by omega) (by omega)
        exact ⟨g1, e1, fun a b1 b2 b3 => by rw [e2 a b2, kup_ne _ _ _ b1], fun k hk => by rw [e2 0 (by decide), kup_nk hk], fun k hk => by rw [e2 10 (by decide), kup_ne _ _ _ (by decide)], by rw [e2 0 (by decide), kup_at], fun k hk => by rw [e4 k (by omega) hk, kup_ne _ _ _ (by decide)], fun j hj => by omega⟩
      rcases o with _ | t
      · obtain ⟨g1, e1, e2, e3, e4, e5⟩ := go
        refine ⟨g1, ?_, e2, e3, e4, ?_⟩
        · rw [klt_t (show encO none < 0 by decide)]
          exact e1
        · rw [if_pos (bet_none s)]
          exact e5
      · have ht := hob t rfl
        have hnl : ¬ encO (some t) < 0 := nI_not_neg (by omega)
        by_cases hst : s < t
        · obtain ⟨g1, e1, e2, e3, e4, e5⟩ := go
          refine ⟨g1, ?_, e2, e3, e4, ?_⟩
          · rw [klt_f hnl, klt_t (show nI s < encO (some t) from (nI_lt_iff (by omega) (by omega)).mpr hst)]
            exact e1
          · rw [if_pos (by unfold bet; simp [hst])]
            exact e5
        · refine ⟨g, ?_, fun _ _ _ _ => rfl, fun _ _ => rfl, fun _ _ => rfl, ?_⟩
          · rw [klt_f hnl, klt_f (show ¬ nI s < encO (some t) from fun q => hst ((nI_lt_iff (by omega) (by omega)).mp q))]
          · rw [if_neg (by unfold bet; simp [hst])]
            exact ⟨ho, fun _ => rfl⟩
    · obtain ⟨z, hz, z1, z2, z3⟩ := bZ_some (P := P) (r := r) hS h0
      obtain ⟨d1, d2⟩ := del_lt0 S hS z.2 z2
      obtain ⟨d3, d4⟩ := d2 z1
      obtain ⟨g1, e1, e2, e3, e4, e5⟩ := lp_ord hb hc0 (m_orders hb hc0 u) hS (by omega) hn (by omega) hm hs hr 6 100 0 g o (by omega) (by omega) ho hob hr0 hr1 hpu
      have ebs : bS P S r = z.1 := by rw [bS_eq hS, hz]; rfl
      have ebc : bc P S r = z.2 := by
        unfold bc
        rw [hz]
        rfl
      refine ⟨g1, ?_, e2, e3, e4, ?_⟩
      · rw [keq_f (nI_ne0 (by omega) (by omega))]
        exact e1
      · rw [ebs]
        rw [show fm (bF P S r) S 6 0 = some z from hz] at e5
        have e5 : if bet o (s + z.1) = true then g1 0 15 = nI (s + z.1) ∧ (∀ k, k < n → g1 9 k = g 10 k) ∧ g1 9 n = nI z.2 ∧ ∀ j, j < pc (del S z.2) → g1 9 (n + 1 + j) = nI (bo P j (del S z.2) (z.2 + 1)) else g1 0 15 = encO o ∧ ∀ k, g1 9 k = g 9 k := e5
        by_cases hbt : bet o (s + z.1) = true
        · rw [if_pos hbt] at e5 ⊢
          obtain ⟨k1, k2, k3, k4⟩ := e5
          refine ⟨k1, k2, fun j hj => ?_⟩
          cases j with
          | zero =>
            show g1 9 n = nI (bc P S r)
            rw [ebc]
            exact k3
          | succ j =>
            show _ = nI (bo P j (del S (bc P S r)) (bc P S r + 1))
            rw [ebc, show n + (j + 1) = n + 1 + j by omega]
            exact k4 j (by omega)
        · rw [if_neg hbt] at e5 ⊢
          exact e5
