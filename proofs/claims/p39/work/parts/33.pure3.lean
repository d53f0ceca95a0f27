/-! small steps that both sides share
-/
def inb (x a b : Int32) : Prop := ¬ x < a ∧ ¬ b < x
theorem c_in1 {f : kMem} {x a b : Int32} (h : inb x a b) : cf_X11_isWithin f x a b = some (1, f) := by
  unfold cf_X11_isWithin klt
  rw [if_neg h.1, if_neg h.2]
theorem c_in0 {f : kMem} {x a b : Int32} (h : ¬ inb x a b) : cf_X11_isWithin f x a b = some (0, f) := by
  unfold cf_X11_isWithin klt
  by_cases h1 : x < a
  · rw [if_pos h1]
  · rw [if_neg h1]
    by_cases h2 : b < x
    · rw [if_pos h2]
    · exact absurd ⟨h1, h2⟩ h
theorem m_in1 {g : kMem} {x a b : Int32} (h : inb x a b) : cf_X12_in g x a b = some (1, g) := c_in1 h
theorem m_in0 {g : kMem} {x a b : Int32} (h : ¬ inb x a b) : cf_X12_in g x a b = some (0, g) := c_in0 h
theorem of_toInt {x : Int32} (h : 0 ≤ x.toInt) : x = nI x.toInt.toNat := by
  have h1 := Int32.toInt_lt x
  exact Int32.toInt_inj.mp (by rw [nI_toInt (by omega)]; omega)
theorem inb_rg {x : Int32} {A B : Nat} (hA : A < 2 ^ 31) (hB : B < 2 ^ 31) : inb x (nI A) (nI B) ↔ rg x A B := by
  unfold inb
  constructor
  · rintro ⟨h1, h2⟩
    rw [Int32.lt_iff_toInt_lt, nI_toInt hA] at h1
    rw [Int32.lt_iff_toInt_lt, nI_toInt hB] at h2
    exact ⟨x.toInt.toNat, of_toInt (by omega), by omega, by omega⟩
  · rintro ⟨n, rfl, h1, h2⟩
    exact ⟨fun h => by have := (nI_lt_iff (by omega) hA).mp h; omega, fun h => by have := (nI_lt_iff hB (by omega)).mp h; omega⟩
theorem inb_rl {x : Int32} {c : Nat} (hc : c < 1000) : inb x 0 (nI c - 1) ↔ rl x c := by
  by_cases h0 : c = 0
  · subst h0
    unfold inb
    rw [show nI 0 - 1 = -1 by decide, Int32.lt_iff_toInt_lt, Int32.lt_iff_toInt_lt, show (0 : Int32).toInt = 0 from rfl, show (-1 : Int32).toInt = -1 by decide]
    constructor
    · omega
    · rintro ⟨m, -, h⟩
      omega
  · rw [nI_sub1 (by omega)]
    refine (inb_rg (A := 0) (by decide) (by omega)).trans ⟨?_, ?_⟩
    · rintro ⟨n, h1, -, h2⟩
      exact ⟨n, h1, by omega⟩
    · rintro ⟨n, h1, h2⟩
      exact ⟨n, h1, by omega, by omega⟩
theorem nI_m1 {n : Nat} (h : n < 2 ^ 31) : nI n ≠ -1 := fun e => by
  have h1 := congrArg Int32.toInt e
  rw [nI_toInt h, show (-1 : Int32).toInt = -1 by decide] at h1
  omega
theorem nI_not_neg {n : Nat} (h : n < 2 ^ 31) : ¬ nI n < 0 := nI_pos h
section ISX
variable {f g : kMem} {x : Int32} {c : Nat}
theorem c_isC1 (hc : c < 1000) (h0 : f 1 0 = nI c) (h : rl x c) : cf_X0_isColour f x = some (1, f) := by
  unfold cf_X0_isColour
  rw [h0, c_in1 ((inb_rl hc).mpr h)]
  rfl
theorem c_isC0 (hc : c < 1000) (h0 : f 1 0 = nI c) (h : ¬ rl x c) : cf_X0_isColour f x = some (0, f) := by
  unfold cf_X0_isColour
  rw [h0, c_in0 (fun q => h ((inb_rl hc).mp q))]
  rfl
theorem c_isP1 (hc : c < 1000) (h0 : f 1 1 = nI c) (h : rl x c) : cf_X0_isPart f x = some (1, f) := by
  unfold cf_X0_isPart
  rw [h0, c_in1 ((inb_rl hc).mpr h)]
  rfl
theorem c_isP0 (hc : c < 1000) (h0 : f 1 1 = nI c) (h : ¬ rl x c) : cf_X0_isPart f x = some (0, f) := by
  unfold cf_X0_isPart
  rw [h0, c_in0 (fun q => h ((inb_rl hc).mp q))]
  rfl
theorem c_isF1 (hc : c < 1000) (h0 : f 1 2 = nI c) (h : rl x c) : cf_X0_isFamily f x = some (1, f) := by
  unfold cf_X0_isFamily
  rw [h0, c_in1 ((inb_rl hc).mpr h)]
  rfl
theorem c_isF0 (hc : c < 1000) (h0 : f 1 2 = nI c) (h : ¬ rl x c) : cf_X0_isFamily f x = some (0, f) := by
  unfold cf_X0_isFamily
  rw [h0, c_in0 (fun q => h ((inb_rl hc).mp q))]
  rfl
theorem c_isO1 (hc : c < 1000) (h0 : f 18 0 = nI c) (h : rl x c) : cf_X6_isOrder f x = some (1, f) := by
  unfold cf_X6_isOrder
  rw [h0, c_in1 ((inb_rl hc).mpr h)]
  rfl
theorem c_isO0 (hc : c < 1000) (h0 : f 18 0 = nI c) (h : ¬ rl x c) : cf_X6_isOrder f x = some (0, f) := by
  unfold cf_X6_isOrder
  rw [h0, c_in0 (fun q => h ((inb_rl hc).mp q))]
  rfl
theorem m_isC1 (hc : c < 1000) (h0 : g 1 0 = nI c) (h : rl x c) : cf_X12_isColour g x = some (1, g) := by
  unfold cf_X12_isColour
  rw [h0, m_in1 ((inb_rl hc).mpr h)]
  rfl
theorem m_isC0 (hc : c < 1000) (h0 : g 1 0 = nI c) (h : ¬ rl x c) : cf_X12_isColour g x = some (0, g) := by
  unfold cf_X12_isColour
  rw [h0, m_in0 (fun q => h ((inb_rl hc).mp q))]
  rfl
theorem m_isP1 (hc : c < 1000) (h0 : g 1 1 = nI c) (h : rl x c) : cf_X12_isPart g x = some (1, g) := by
  unfold cf_X12_isPart
  rw [h0, m_in1 ((inb_rl hc).mpr h)]
  rfl
theorem m_isP0 (hc : c < 1000) (h0 : g 1 1 = nI c) (h : ¬ rl x c) : cf_X12_isPart g x = some (0, g) := by
  unfold cf_X12_isPart
  rw [h0, m_in0 (fun q => h ((inb_rl hc).mp q))]
  rfl
theorem m_isF1 (hc : c < 1000) (h0 : g 1 2 = nI c) (h : rl x c) : cf_X12_isFamily g x = some (1, g) := by
  unfold cf_X12_isFamily
  rw [h0, m_in1 ((inb_rl hc).mpr h)]
  rfl
theorem m_isF0 (hc : c < 1000) (h0 : g 1 2 = nI c) (h : ¬ rl x c) : cf_X12_isFamily g x = some (0, g) := by
  unfold cf_X12_isFamily
  rw [h0, m_in0 (fun q => h ((inb_rl hc).mp q))]
  rfl
theorem m_isO1 (hc : c < 1000) (h0 : g 1 3 = nI c) (h : rl x c) : cf_X12_isOrder g x = some (1, g) := by
  unfold cf_X12_isOrder
  rw [h0, m_in1 ((inb_rl hc).mpr h)]
  rfl
theorem m_isO0 (hc : c < 1000) (h0 : g 1 3 = nI c) (h : ¬ rl x c) : cf_X12_isOrder g x = some (0, g) := by
  unfold cf_X12_isOrder
  rw [h0, m_in0 (fun q => h ((inb_rl hc).mp q))]
  rfl
theorem inb_3 : inb x 0 2 ↔ rl x 3 := (inb_rg (A := 0) (B := 2) (by decide) (by decide)).trans ⟨fun ⟨n, h1, _, h2⟩ => ⟨n, h1, by omega⟩, fun ⟨n, h1, h2⟩ => ⟨n, h1, by omega, by omega⟩⟩
theorem m_isD1 (h : rl x 3) : cf_X12_isDryer g x = some (1, g) := by
  unfold cf_X12_isDryer
  rw [m_in1 (inb_3.mpr h)]
  rfl
theorem m_isD0 (h : ¬ rl x 3) : cf_X12_isDryer g x = some (0, g) := by
  unfold cf_X12_isDryer
  rw [m_in0 (fun q => h (inb_3.mp q))]
  rfl
end ISX
/-- a refusal -/
def rfC (f : kMem) (a d : Int32) : kMem := kup (kup (kup (kup f 277 2 0) 278 0 a) 279 0 d) 277 2 1
def rfM (g : kMem) (a d : Int32) : kMem := kup (kup (kup g 0 10 1) 6 0 a) 7 0 d
theorem c_refuse {f : kMem} {a d : Int32} : cf_X8_refuse f a d = some (-1, rfC f a d) := by
  unfold cf_X8_refuse cf_X8_putBehind
  rfl
theorem m_refuse {g : kMem} {a d : Int32} : cf_X12_refuses g a d = some (0, rfM g a d) := rfl
theorem Fr1_k {f : kMem} {a k : Nat} {x : Int32} (h : a < 25 ∨ a = 277 ∨ a = 278 ∨ a = 279) : Fr1 f (kup f a k x) := fun b h1 h2 h3 h4 => kup_ne _ _ _ (by omega)
theorem Fr2_k {g : kMem} {a k : Nat} {x : Int32} (h : a = 1 ∨ a = 6 ∨ a = 7) : Fr2 g (kup g a k x) := ⟨fun b h1 h2 h3 h4 => kup_ne _ _ _ (by omega), fun j h1 h2 => by rw [kup_ne _ _ _ (by omega)]⟩
theorem Fr2_0 {g : kMem} {k : Nat} {x : Int32} (h : k = 10 ∨ k = 13) : Fr2 g (kup g 0 k x) := ⟨fun b h1 h2 h3 h4 => kup_ne _ _ _ h1, fun j h1 h2 => kup_nk (by omega)⟩
theorem Fr1_rfC {f : kMem} {a d : Int32} : Fr1 f (rfC f a d) := Fr1_tr (Fr1_tr (Fr1_tr (Fr1_k (by omega)) (Fr1_k (by omega))) (Fr1_k (by omega))) (Fr1_k (by omega))
theorem Fr2_rfM {g : kMem} {a d : Int32} : Fr2 g (rfM g a d) := Fr2_tr (Fr2_tr (Fr2_0 (by omega)) (Fr2_k (by omega))) (Fr2_k (by omega))
theorem Reas_rf {f g : kMem} {a d : Int32} : Reas (rfC f a d) (rfM g a d) := ⟨1, by decide, rfl, rfl, fun i hi => by
  obtain rfl : i = 0 := by omega
  exact ⟨rfl, rfl⟩⟩
theorem rfC_lo {f : kMem} {a d : Int32} {c : Nat} (hc : c < 25) : rfC f a d c = f c := by
  unfold rfC
  rw [kup_ne _ _ _ (by omega), kup_ne _ _ _ (by omega), kup_ne _ _ _ (by omega), kup_ne _ _ _ (by omega)]
theorem Now_rf {B : Nat} {f g : kMem} {a d : Int32} (h : Now B f g) : Now B (rfC f a d) (rfM g a d) := Now_fr h (fun c hc => rfC_lo hc) rfl
/-- both refuse -/
theorem sim_no {B M : Nat} {f g : kMem} {a d : Int32} {X Y : Option (Int32 × kMem)} (hN : Now B f g) (hX : X = some (-1, rfC f a d)) (hY : Y = some (0, rfM g a d)) : kO X (fun z => kO Y (fun y => Fr1 f z.2 ∧ Fr2 g y.2 ∧ Reas z.2 y.2 ∧ Now (B + M) z.2 y.2 ∧ ((z.1 = -1 ∧ y.1 = 0 ∧ Rs2 f z.2) ∨ (¬ z.1 < 0 ∧ y.1 = 1 ∧ y.2 0 13 = z.1)))) :=
  kO_E hX (kO_E hY ⟨Fr1_rfC, Fr2_rfM, Reas_rf, ⟨(Now_rf hN).1, Inv_mono (Now_rf (a := a) (d := d) hN).2.1 (by omega), (Now_rf (a := a) (d := d) hN).2.2⟩, Or.inl ⟨rfl, rfl, Or.inl rfl, fun c hc => rfC_lo hc⟩⟩)
/-- both do -/
theorem sim_yes {B M : Nat} {f g f1 g1 : kMem} {r : Int32} {X Y : Option (Int32 × kMem)} (hX : X = some (r, f1)) (hY : Y = some (1, kup g1 0 13 r)) (h1 : Fr1 f f1) (h2 : Fr2 g g1) (hR : Reas f1 g1) (hN : Now (B + M) f1 g1) (hr : ¬ r < 0) : kO X (fun z => kO Y (fun y => Fr1 f z.2 ∧ Fr2 g y.2 ∧ Reas z.2 y.2 ∧ Now (B + M) z.2 y.2 ∧ ((z.1 = -1 ∧ y.1 = 0 ∧ Rs2 f z.2) ∨ (¬ z.1 < 0 ∧ y.1 = 1 ∧ y.2 0 13 = z.1)))) :=
  kO_E hX (kO_E hY ⟨h1, Fr2_tr h2 (Fr2_0 (by omega)), Reas_fr hR rfl rfl rfl rfl rfl rfl, Now_fr hN (fun _ _ => rfl) rfl, Or.inr ⟨hr, rfl, rfl⟩⟩)
theorem kZ_upd {v : Nat → Int32} {j : Nat} {x : Int32} (h : kZ v) (hj : j < 313) : kZ (upd v j x) := fun i hi => by rw [upd_ne (by omega)]; exact h i hi
/-- one place of a row is set, apart from families and dryers -/
def PL (B c0 c1 c2 c3 j : Nat) (x : Int32) : Prop :=
  (j ≠ 0 ∧ j ≠ 1 ∧ j ≠ 2 ∧ j ≠ 3) ∧ (j = 4 → x = -1 ∨ rl x c2) ∧ (j = 5 → x = -1 ∨ rl x c0) ∧ (j = 8 → rg x 0 9998) ∧ (j = 12 → rg x 60 9999) ∧ (j = 13 → rg x 0 999) ∧ (j = 14 → rg x 0 5) ∧ (j = 15 → rg x 0 99) ∧
  (16 ≤ j → j < 22 → rg x 0 9) ∧ (22 ≤ j → j < 30 → rg x 0 50 ∧ (j < 22 + c1 → rg x 1 50)) ∧ (30 ≤ j → j < 38 → rg x 0 B) ∧ (j < 46 ∨ 109 ≤ j) ∧
  ∀ o, o < c3 → (j = 253 + 6 * o → rl x c1) ∧ (j = 254 + 6 * o → rl x c0) ∧ (j = 255 + 6 * o → rg x 1 20) ∧ (j = 257 + 6 * o → rg x 0 2)
theorem upd_or {v : Nat → Int32} {j i : Nat} {x : Int32} {p : Int32 → Prop} (h : p (v i)) (hx : j = i → p x) : p (upd v j x i) := by
  by_cases e : i = j
  · rw [e, upd_eq]
    exact hx e.symm
  · rw [upd_ne e]
    exact h
theorem fam_upd {v : Nat → Int32} {c1 q j : Nat} {x : Int32} (h : fam v c1 q) (hj : j < 46 + 9 * q ∨ 55 + 9 * q ≤ j) : fam (upd v j x) c1 q := by
  obtain ⟨n, h1, h2, h3, h4, h5, h6, h7, h8⟩ := h
  refine ⟨n, by rw [upd_ne (by omega)]; exact h1, h2, h3, by rw [upd_ne (by omega)]; exact h4, by rw [upd_ne (by omega)]; exact h5, fun i hi => ?_, fun i hi k hk => ?_, fun i hi hi3 => ?_⟩
  · rw [upd_ne (by omega), upd_ne (by omega)]
    exact h6 i hi
  · rw [upd_ne (by omega), upd_ne (by omega)]
    exact h7 i hi k hk
  · rw [upd_ne (by omega)]
    exact h8 i hi hi3
theorem InvC_set {B c0 c1 c2 c3 j : Nat} {v : Nat → Int32} {x : Int32} (h : InvC B v c0 c1 c2 c3) (hx : PL B c0 c1 c2 c3 j x) : InvC B (upd v j x) c0 c1 c2 c3 := by
  obtain ⟨⟨a0, a1, a2, a3, a4⟩, ⟨b4, b5, b8, b12, b13, b14, b15⟩, ⟨d1, d2, d3, d4⟩, e, m, n⟩ := h
  obtain ⟨p0, p4, p5, p8, p12, p13, p14, p15, p16, p22, p30, p46, p253⟩ := hx
  refine ⟨⟨by rw [upd_ne (by omega)]; exact a0, by rw [upd_ne (by omega)]; exact a1, by rw [upd_ne (by omega)]; exact a2, by rw [upd_ne (by omega)]; exact a3, a4⟩, ⟨upd_or (p := fun x => x = -1 ∨ rl x c2) b4 p4, upd_or (p := fun x => x = -1 ∨ rl x c0) b5 p5, upd_or (p := fun x => rg x 0 9998) b8 p8, upd_or (p := fun x => rg x 60 9999) b12 p12, upd_or (p := fun x => rg x 0 999) b13 p13, upd_or (p := fun x => rg x 0 5) b14 p14, upd_or (p := fun x => rg x 0 99) b15 p15⟩, ⟨fun k hk => upd_or (p := fun x => rg x 0 9) (d1 k hk) (fun e => p16 (by omega) (by omega)), fun k hk => upd_or (p := fun x => rg x 0 50) (d2 k hk) (fun e => (p22 (by omega) (by omega)).1), fun k hk => upd_or (p := fun x => rg x 1 50) (d3 k hk) (fun e => (p22 (by omega) (by omega)).2 (by omega)), fun k hk => upd_or (p := fun x => rg x 0 B) (d4 k hk) (fun e => p30 (by omega) (by omega))⟩, fun q hq => fam_upd (e q hq) (by omega), fun d hd => ?_, fun o ho => ⟨upd_or (p := fun x => rl x c1) (n o ho).1 (fun e => (p253 o ho).1 e), upd_or (p := fun x => rl x c0) (n o ho).2.1 (fun e => (p253 o ho).2.1 e), upd_or (p := fun x => rg x 1 20) (n o ho).2.2.1 (fun e => (p253 o ho).2.2.1 e), upd_or (p := fun x => rg x 0 2) (n o ho).2.2.2 (fun e => (p253 o ho).2.2.2 e)⟩⟩
  rw [upd_ne (by omega), upd_ne (by omega), upd_ne (by omega)]
  exact m d hd
