/-! best, bestAgain, bestColour -/
theorem sar_toInt : ∀ c, c < 7 → ((nI c &&& 31).toBitVec.smod 32).toNat = c := by decide +kernel
theorem pow_set : ∀ c, c < 7 → (1 <<< (nI c &&& 31)) - 1 = nI (2 ^ c - 1) ∧ 2 ^ c ≤ 64 ∧ 0 < 2 ^ c := by decide +kernel
theorem set_sar {A c : Nat} (hA : A < 2 ^ 31) (hc : c < 7) : nI A >>> (nI c &&& 31) = 0 ↔ A < 2 ^ c := by
  have e : (nI A >>> (nI c &&& 31)).toInt = ((A / 2 ^ c : Nat) : Int) := by
    have e1 : (nI A >>> (nI c &&& 31)).toInt = ((nI A).toBitVec.sshiftRight ((nI c &&& 31).toBitVec.smod 32).toNat).toInt := rfl
    rw [e1, sar_toInt c hc, BitVec.toInt_sshiftRight]
    show (nI A).toInt >>> c = _
    rw [nI_toInt hA, Int.shiftRight_eq_div_pow]
    omega
  have h2 : 0 < 2 ^ c := Nat.two_pow_pos c
  constructor
  · intro h
    rw [h] at e
    have e0 : (A / 2 ^ c : Nat) = 0 := by
      have : ((A / 2 ^ c : Nat) : Int) = 0 := e.symm
      omega
    exact Nat.lt_of_div_eq_zero h2 e0
  · intro h
    rw [Nat.div_eq_of_lt h] at e
    exact Int32.toInt_inj.mp e
def bq1 (x : Int32) : Int32 := x - ((Int32.toUInt32 x >>> (Int32.toUInt32 1 &&& Int32.toUInt32 31)).toInt32 &&& 1431655765)
def bq2 (x : Int32) : Int32 := (x &&& 858993459) + ((Int32.toUInt32 x >>> (Int32.toUInt32 2 &&& Int32.toUInt32 31)).toInt32 &&& 858993459)
def bq3 (x : Int32) : Int32 := (x + (Int32.toUInt32 x >>> (Int32.toUInt32 4 &&& Int32.toUInt32 31)).toInt32) &&& 252645135
def bq4 (x : Int32) : Int32 := x + (Int32.toUInt32 x >>> (Int32.toUInt32 8 &&& Int32.toUInt32 31)).toInt32
def bq5 (x : Int32) : Int32 := x + (Int32.toUInt32 x >>> (Int32.toUInt32 16 &&& Int32.toUInt32 31)).toInt32
def bcv (x : Int32) : Int32 := bq5 (bq4 (bq3 (bq2 (bq1 x)))) &&& 63
theorem bcv_eq : ∀ S, S < 64 → bcv (nI S) = nI (pc S) := by decide +kernel
theorem c_bits {f : kMem} {S : Nat} (hS : S < 64) : cf_J6_bitCount_0f7a4 f (nI S) = some (nI (pc S), f) := by
  have e : ∀ x, cf_J6_bitCount_0f7a4 f x = some (bcv x, f) := fun x => rfl
  rw [e, bcv_eq S hS]
theorem kR_fr {N : Nat} {f f1 g g1 : kMem} (h : kR N f g) (hf : ∀ a, a ≠ 289 → a ≠ 290 → f1 a = f a) (hg : ∀ a, a ≠ 0 → a ≠ 9 → a ≠ 10 → g1 a = g a) (h0 : ∀ k, k ≠ 15 → k ≠ 18 → g1 0 k = g 0 k) : kR (N + 1) f1 g1 := by
  obtain ⟨h1, h2, ⟨o, c, h3⟩, h4, h5⟩ := h
  exact kR_mono _ _ _ ⟨Now_fr h1 (fun a ha => hf a (by omega) (by omega)) (hg 1 (by decide) (by decide) (by decide)), Reas_fr h2 (hf 277 (by decide) (by decide)) (hf 278 (by decide) (by decide)) (hf 279 (by decide) (by decide)) (h0 10 (by decide) (by decide)) (hg 6 (by decide) (by decide) (by decide)) (hg 7 (by decide) (by decide) (by decide)), ⟨o, c, HistC_fr h3 (fun a a1 a2 => hf a (by omega) (by omega)) (hf 275 (by decide) (by decide)) (h0 3 (by decide) (by decide)) (hg 3 (by decide) (by decide) (by decide))⟩, Snap_fr h4 (fun a a1 a2 => hf a (by omega) (by omega)) (by rw [hf 291 (by decide) (by decide)]) (h0 5 (by decide) (by decide)) (hg 4 (by decide) (by decide) (by decide)), Txt_fr h5 (hf 280 (by decide) (by decide)) (hf 281 (by decide) (by decide)) (h0 7 (by decide) (by decide)) (h0 9 (by decide) (by decide)) (hg 5 (by decide) (by decide) (by decide))⟩
/-- the colour of the machine -/
theorem mach {x : Int32} {c0 : Nat} (h : x = -1 ∨ rl x c0) : ∃ r, r ≤ c0 ∧ x = nI r - 1 := by
  rcases h with h | ⟨m, h, hm⟩
  · exact ⟨0, by omega, h.trans (by decide)⟩
  · exact ⟨m + 1, by omega, h.trans (nI_pred m).symm⟩
theorem mem_lt {A c0 c : Nat} (hA : A < 2 ^ c0) (h : mem A c = true) : c < c0 := by
  refine Nat.lt_of_not_le (fun q => ?_)
  unfold mem at h
  rw [Nat.testBit_lt_two_pow (Nat.lt_of_lt_of_le hA (Nat.pow_le_pow_right (by omega) q))] at h
  cases h
theorem m_isSet1 {B c0 c1 c2 c3 A r0 : Nat} {g : kMem} (hI : InvC B (g 1) c0 c1 c2 c3) (hA : A < 2 ^ c0) (hr : r0 ≤ c0) (hv : g 1 5 = nI r0 - 1) : ∃ g1, cf_X12_isSet g (nI A) = some (1, g1) ∧ (∀ a, a ≠ 0 → a ≠ 9 → a ≠ 10 → g1 a = g a) ∧ (∀ k, k ≠ 15 → k ≠ 18 → g1 0 k = g 0 k) ∧ g1 0 18 = 0 ∧ g1 0 15 = nI (bS (pu (g 1) c0) A r0) ∧ ∀ j, j < pc A → g1 9 j = nI (bo (pu (g 1) c0) j A r0) := by
  obtain ⟨g0, -, -, -, hc0, -⟩ := id hI.1
  obtain ⟨w1, w2, w3⟩ := pow_set c0 (by omega)
  have hp := (pc_le0 A (by omega)).1
  obtain ⟨g1, e1, e2, e3, -, e5⟩ := m_orders (P := pu (g 1) c0) (c0 := c0) (pu_le hI) hc0 8 A 0 0 r0 (kup (kup g 0 18 0) 0 15 (-1)) none (by omega) (by omega) (by omega) (fun c hc => mem_lt hA hc) kup_at (fun t ht => by cases ht) (by omega) (fun _ => hv) (fun h => absurd h (by omega)) hr (fun h r c h1 h2 h3 => by
    have h1' : h 1 = g 1 := h1
    have := m_pu (g := h) (r := r) (c := c) (by rw [h1']; exact hI) h2 h3
    rw [h1'] at this
    exact this)
  rw [if_pos (bet_none _)] at e5
  obtain ⟨k1, -, k3⟩ := e5
  refine ⟨g1, ?_, fun a b1 b2 b3 => by rw [e2 a b1 b2 b3, kup_ne _ _ _ b1, kup_ne _ _ _ b1], fun k hk hk2 => by rw [e3 k hk, kup_nk hk, kup_nk hk2], by rw [e3 18 (by decide), kup_nk (by decide), kup_at], by rw [k1, Nat.zero_add], fun j hj => by rw [← k3 j hj, Nat.zero_add]⟩
  unfold cf_X12_isSet
  have G0 : kup g 0 18 0 1 0 = nI c0 := g0
  rw [kmem_s, G0, w1, m_in1 (show inb (nI A) 0 (nI (2 ^ c0 - 1)) from (inb_rg (A := 0) (B := 2 ^ c0 - 1) (by decide) (by omega)).mpr ⟨A, rfl, by omega, by omega⟩), kbind_s, keq10, kmem_s]
  have e1' : cf_X12_orders 8 (kup (kup g 0 18 0) 0 15 (-1)) 0 (nI A) 0 = some (0, g1) := e1
  rw [e1', kbind_s]
theorem m_isSet0 {c0 : Nat} {g : kMem} {x : Int32} (g0 : g 1 0 = nI c0) (hc0 : c0 ≤ 6) (hx : ¬ rl x (2 ^ c0)) : cf_X12_isSet g x = some (0, kup g 0 18 0) := by
  obtain ⟨w1, w2, w3⟩ := pow_set c0 (by omega)
  unfold cf_X12_isSet
  have G0 : kup g 0 18 0 1 0 = nI c0 := g0
  rw [kmem_s, G0, w1, m_in0 (fun (h : inb x 0 (nI (2 ^ c0 - 1))) => hx (by
    obtain ⟨m, h1, -, h2⟩ := (inb_rg (A := 0) (B := 2 ^ c0 - 1) (by decide) (by omega)).mp h
    exact ⟨m, h1, by omega⟩)), kbind_s, keq00]
theorem c_set1 {c0 A : Nat} {f : kMem} (f0 : f 1 0 = nI c0) (hc0 : c0 ≤ 6) (hA : A < 2 ^ c0) : cx_X11_checkColours f (nI A) = some (0, 0, f) := by
  obtain ⟨w1, w2, w3⟩ := pow_set c0 (by omega)
  unfold cx_X11_checkColours
  rw [klt_f (nI_not_neg (by omega)), f0, keq_t ((set_sar (by omega) (by omega)).mpr hA)]
theorem c_set0 {c0 : Nat} {f : kMem} {x : Int32} (f0 : f 1 0 = nI c0) (hc0 : c0 ≤ 6) (hx : ¬ rl x (2 ^ c0)) : cx_X11_checkColours f x = some (2, 0, f) := by
  unfold cx_X11_checkColours cj_X11_checkColours_19
  by_cases h : x < 0
  · rw [klt_t h]
  · rw [klt_f h, f0]
    rw [Int32.lt_iff_toInt_lt, show (0 : Int32).toInt = 0 from rfl] at h
    have hx1 := of_toInt (x := x) (by omega)
    have hx2 := Int32.toInt_lt x
    rw [hx1, keq_f (fun q => hx (by
      rw [set_sar (by omega) (by omega)] at q
      exact ⟨_, hx1, q⟩))]
theorem kp_best : kP_best kR := by
  intro N f g x hN hR
  obtain ⟨⟨hF, ⟨c0, c1, c2, c3, hI⟩, hZ⟩, -⟩ := id hR
  obtain ⟨g0, -, -, -, hc0, -⟩ := id hI.1
  have f0 : f 1 0 = nI c0 := (FRel_at hF (j := 0) (a := 1) (k := 0) (by decide)).symm.trans g0
  unfold cx_X11_best cf_X12_best
  by_cases hx : rl x (2 ^ c0)
  · obtain ⟨A, rfl, hA⟩ := hx
    obtain ⟨w1, w2, w3⟩ := pow_set c0 (by omega)
    obtain ⟨r0, hr0, hv⟩ := mach hI.2.1.2.1
    obtain ⟨f1, e1, e2⟩ := c_least (A := A) hI hF (by omega) (by omega) hv
    obtain ⟨g1, m1, m2, m3, m4, m5, m6⟩ := m_isSet1 hI hA hr0 hv
    rw [c_set1 f0 hc0 hA, kxbind_s, e1, m1, kbind_s, kbind_s, keq10, m5]
    exact kOk_mk (n := 0) rfl rfl (Or.inl rfl) m4 (fun _ => rfl) (kR_fr hR e2 m2 m3)
  · exact q_no hR (n := 2) (by decide) (by decide) (by rw [c_set0 f0 hc0 hx]; rfl) (by rw [m_isSet0 g0 hc0 hx, kbind_s, keq00]; rfl)
theorem kp_bestColour : kP_bestColour kR := by
  intro N f g x y hN hR
  obtain ⟨⟨hF, ⟨c0, c1, c2, c3, hI⟩, hZ⟩, -⟩ := id hR
  obtain ⟨g0, -, -, -, hc0, -⟩ := id hI.1
  have f0 : f 1 0 = nI c0 := (FRel_at hF (j := 0) (a := 1) (k := 0) (by decide)).symm.trans g0
  unfold cx_X11_bestColour cf_X12_bestColour
  by_cases hx : rl x (2 ^ c0)
  rotate_left
  · exact q_no hR (n := 2) (by decide) (by decide) (by rw [c_set0 f0 hc0 hx]; rfl) (by rw [m_isSet0 g0 hc0 hx, kbind_s, keq00]; rfl)
  obtain ⟨A, rfl, hA⟩ := hx
  obtain ⟨w1, w2, w3⟩ := pow_set c0 (by omega)
  obtain ⟨r0, hr0, hv⟩ := mach hI.2.1.2.1
  obtain ⟨g1, m1, m2, m3, m4, m5, m6⟩ := m_isSet1 hI hA hr0 hv
  have hp := (pc_le0 A (by omega)).1
  rw [c_set1 f0 hc0 hA, kxbind_s, c_bits (by omega), kbind_s, m1, kbind_s, keq10, c_bits (by omega), kbind_s]
  by_cases hy : rl y (pc A)
  · rw [c_in1 ((inb_rl (by omega)).mpr hy), kbind_s, keq10, m_in1 ((inb_rl (by omega)).mpr hy), kbind_s, keq10]
    obtain ⟨j, rfl, hj⟩ := hy
    obtain ⟨f1, e1, e2⟩ := c_colAt (A := A) hI hF (by omega) (by omega) hv hj
    rw [e1, kbind_s, kchk_t (nI_kin (by omega) (by decide)), nI_clamp (by omega), m6 j hj]
    exact kOk_mk (n := 0) rfl rfl (Or.inl rfl) m4 (fun _ => rfl) (kR_fr hR e2 m2 m3)
  · rw [c_in0 (fun q => hy ((inb_rl (by omega)).mp q)), kbind_s, keq00, m_in0 (fun q => hy ((inb_rl (by omega)).mp q)), kbind_s, keq00]
    exact kOk_mk (n := 5) (f1 := f) (g1 := kup g1 0 18 2) rfl rfl (Or.inr (by decide)) rfl (fun h => absurd h (by decide)) (kR_fr hR (fun _ _ _ => rfl) (fun a b1 b2 b3 => by rw [kup_ne _ _ _ b1, m2 a b1 b2 b3]) (fun k hk hk2 => by rw [kup_nk hk2, m3 k hk hk2]))
