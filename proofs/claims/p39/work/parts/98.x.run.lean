/-! the run: its answer, and that the counts stay -/
def Iv (a b : Nat → Int32) (g : kMem) : Prop := g 1 = a ∧ g 18 = b
def Fa (a b : Nat → Int32) (X : Option (Int32 × kMem)) : Prop := ∀ z, X = some z → Iv a b z.2
section FA
variable {a b : Nat → Int32} {X X' : Option (Int32 × kMem)} {x y : Int32} {f : kMem}
theorem fa_some {r : Int32} {g : kMem} (h : Iv a b g) : Fa a b (some (r, g)) := fun z e => by
  obtain rfl := Option.some.inj e
  exact h
theorem fa_none : Fa a b none := fun z e => by cases e
theorem fa_chk {c : Bool} (h : Fa a b X) : Fa a b (kchk c X) := fun z e => by
  cases c with
  | true => exact h z e
  | false => cases e
theorem fa_if {p : Prop} [Decidable p] (h : Fa a b X) (h' : Fa a b X') : Fa a b (if p then X else X') := by
  split
  · exact h
  · exact h'
theorem fa_eq (h : Fa a b X) (h' : Fa a b X') : Fa a b (keq x y X X') := fa_if h h'
theorem fa_le (h : Fa a b X) (h' : Fa a b X') : Fa a b (kle x y X X') := fa_if h h'
theorem fa_lt (h : Fa a b X) (h' : Fa a b X') : Fa a b (klt x y X X') := fa_if h h'
theorem fa_let {Y : Int32 → Option (Int32 × kMem)} (h : ∀ v, Fa a b (Y v)) : Fa a b (klet x Y) := h x
theorem fa_mem {g : kMem} {Y : kMem → Option (Int32 × kMem)} (h : Iv a b g) (hY : ∀ g, Iv a b g → Fa a b (Y g)) : Fa a b (kmem g Y) := hY g h
theorem fa_bind {Y : Int32 → kMem → Option (Int32 × kMem)} (h : Fa a b X) (hY : ∀ r g, Iv a b g → Fa a b (Y r g)) : Fa a b (kbind X Y) := fun z e => by
  obtain ⟨r, g, e1, e2⟩ := kbind_iv e
  exact hY r g (h _ e1) z e2
theorem iv_kup {c k : Nat} {v : Int32} (h1 : 1 ≠ c) (h2 : 18 ≠ c) (h : Iv a b f) : Iv a b (kup f c k v) := ⟨(kup_ne _ _ _ h1).trans h.1, (kup_ne _ _ _ h2).trans h.2⟩
theorem fv_X11_isWithin (h : Iv a b f) (x1 x2 x3 : Int32) : Fa a b (cf_X11_isWithin f x1 x2 x3) := by
  unfold cf_X11_isWithin
  repeat' first
    | with_reducible exact fa_some ‹Iv a b _›
    | with_reducible exact fa_none
    | with_reducible refine fa_chk ?_
    | with_reducible refine fa_eq ?_ ?_
    | with_reducible refine fa_le ?_ ?_
    | with_reducible refine fa_lt ?_ ?_
    | with_reducible refine fa_let (fun v => ?_)
    | with_reducible refine fa_mem (iv_kup (by decide) (by decide) ‹Iv a b _›) (fun g hg => ?_)

theorem fv_X0_isFamily (h : Iv a b f) (x1 : Int32) : Fa a b (cf_X0_isFamily f x1) := by
  unfold cf_X0_isFamily
  repeat' first
    | with_reducible exact fa_some ‹Iv a b _›
    | with_reducible exact fa_none
    | with_reducible refine fa_chk ?_
    | with_reducible refine fa_eq ?_ ?_
    | with_reducible refine fa_le ?_ ?_
    | with_reducible refine fa_lt ?_ ?_
    | with_reducible refine fa_let (fun v => ?_)
    | with_reducible refine fa_mem (iv_kup (by decide) (by decide) ‹Iv a b _›) (fun g hg => ?_)
    | with_reducible refine fa_bind (fv_X11_isWithin ‹Iv a b _› _ _ _) (fun r g hg => ?_)
theorem fv_X0_isPart (h : Iv a b f) (x1 : Int32) : Fa a b (cf_X0_isPart f x1) := by
  unfold cf_X0_isPart
  repeat' first
    | with_reducible exact fa_some ‹Iv a b _›
    | with_reducible exact fa_none
    | with_reducible refine fa_chk ?_
    | with_reducible refine fa_eq ?_ ?_
    | with_reducible refine fa_le ?_ ?_
    | with_reducible refine fa_lt ?_ ?_
    | with_reducible refine fa_let (fun v => ?_)
    | with_reducible refine fa_mem (iv_kup (by decide) (by decide) ‹Iv a b _›) (fun g hg => ?_)
    | with_reducible refine fa_bind (fv_X11_isWithin ‹Iv a b _› _ _ _) (fun r g hg => ?_)
theorem fv_X0_piecesOf (h : Iv a b f) (x1 x2 : Int32) : Fa a b (cf_X0_piecesOf f x1 x2) := by
  unfold cf_X0_piecesOf
  repeat' first
    | with_reducible exact fa_some ‹Iv a b _›
    | with_reducible exact fa_none
    | with_reducible refine fa_chk ?_
    | with_reducible refine fa_eq ?_ ?_
    | with_reducible refine fa_le ?_ ?_
    | with_reducible refine fa_lt ?_ ?_
    | with_reducible refine fa_let (fun v => ?_)
    | with_reducible refine fa_mem (iv_kup (by decide) (by decide) ‹Iv a b _›) (fun g hg => ?_)
    | with_reducible refine fa_bind (fv_X0_isFamily ‹Iv a b _› _) (fun r g hg => ?_)
    | with_reducible refine fa_bind (fv_X0_isPart ‹Iv a b _› _) (fun r g hg => ?_)
theorem fv_X2_take (h : Iv a b f) (x1 x2 : Int32) : Fa a b (cf_X2_take f x1 x2) := by
  unfold cf_X2_take
  repeat' first
    | with_reducible exact fa_some ‹Iv a b _›
    | with_reducible exact fa_none
    | with_reducible refine fa_chk ?_
    | with_reducible refine fa_eq ?_ ?_
    | with_reducible refine fa_le ?_ ?_
    | with_reducible refine fa_lt ?_ ?_
    | with_reducible refine fa_let (fun v => ?_)
    | with_reducible refine fa_mem (iv_kup (by decide) (by decide) ‹Iv a b _›) (fun g hg => ?_)

theorem fv_X2_dry_2 : ∀ (n : Nat) (f : kMem) (x1 x2 : Int32), Iv a b f → Fa a b (cl_X2_dry_2 n f x1 x2) := by
  intro n
  induction n with
  | zero => exact fun f x1 x2 h => fa_none
  | succ n ih =>
  intro f x1 x2 h
  rw [cl_X2_dry_2.eq_2]
  repeat' first
    | with_reducible exact ih _ _ _ ‹Iv a b _›
    | with_reducible exact fa_some ‹Iv a b _›
    | with_reducible exact fa_none
    | with_reducible refine fa_chk ?_
    | with_reducible refine fa_eq ?_ ?_
    | with_reducible refine fa_le ?_ ?_
    | with_reducible refine fa_lt ?_ ?_
    | with_reducible refine fa_let (fun v => ?_)
    | with_reducible refine fa_mem (iv_kup (by decide) (by decide) ‹Iv a b _›) (fun g hg => ?_)

theorem fv_X2_dry (h : Iv a b f) (x1 : Int32) : Fa a b (cf_X2_dry f x1) := fv_X2_dry_2 _ _ _ _ h
theorem fv_X6_isOpen (h : Iv a b f) (x1 : Int32) : Fa a b (cf_X6_isOpen f x1) := by
  unfold cf_X6_isOpen
  repeat' first
    | with_reducible exact fa_some ‹Iv a b _›
    | with_reducible exact fa_none
    | with_reducible refine fa_chk ?_
    | with_reducible refine fa_eq ?_ ?_
    | with_reducible refine fa_le ?_ ?_
    | with_reducible refine fa_lt ?_ ?_
    | with_reducible refine fa_let (fun v => ?_)
    | with_reducible refine fa_mem (iv_kup (by decide) (by decide) ‹Iv a b _›) (fun g hg => ?_)

theorem fv_X9_isDelivered (h : Iv a b f) (x1 x2 x3 : Int32) : Fa a b (cf_X9_isDelivered f x1 x2 x3) := by
  unfold cf_X9_isDelivered
  repeat' first
    | with_reducible exact fa_some ‹Iv a b _›
    | with_reducible exact fa_none
    | with_reducible refine fa_chk ?_
    | with_reducible refine fa_eq ?_ ?_
    | with_reducible refine fa_le ?_ ?_
    | with_reducible refine fa_lt ?_ ?_
    | with_reducible refine fa_let (fun v => ?_)
    | with_reducible refine fa_mem (iv_kup (by decide) (by decide) ‹Iv a b _›) (fun g hg => ?_)

theorem fv_X6_endWeek_2 : ∀ (n : Nat) (f : kMem) (x1 x3 : Int32), Iv a b f → Fa a b (cl_X6_endWeek_2 n f x1 x3) := by
  intro n
  induction n with
  | zero => exact fun f x1 x3 h => fa_none
  | succ n ih =>
  intro f x1 x3 h
  rw [cl_X6_endWeek_2.eq_2]
  repeat' first
    | with_reducible exact ih _ _ _ ‹Iv a b _›
    | with_reducible exact fa_some ‹Iv a b _›
    | with_reducible exact fa_none
    | with_reducible refine fa_chk ?_
    | with_reducible refine fa_eq ?_ ?_
    | with_reducible refine fa_le ?_ ?_
    | with_reducible refine fa_lt ?_ ?_
    | with_reducible refine fa_let (fun v => ?_)
    | with_reducible refine fa_mem (iv_kup (by decide) (by decide) ‹Iv a b _›) (fun g hg => ?_)
    | with_reducible refine fa_bind (fv_X6_isOpen ‹Iv a b _› _) (fun r g hg => ?_)
    | with_reducible refine fa_bind (fv_X9_isDelivered ‹Iv a b _› _ _ _) (fun r g hg => ?_)
theorem fv_X6_endWeek (h : Iv a b f) (x1 : Int32) : Fa a b (cf_X6_endWeek f x1) := fv_X6_endWeek_2 _ _ _ _ h
theorem fv_X4_pass_22 {Y : kMem → Int32 → Int32 → Option (Int32 × kMem)} (hY : ∀ f x y, Iv a b f → Fa a b (Y f x y)) : ∀ (n : Nat) (f : kMem) (x2 x3 : Int32), Iv a b f → Fa a b (cl_X4_pass_22 Y n f x2 x3) := by
  intro n
  induction n with
  | zero => exact fun f x2 x3 h => fa_none
  | succ n ih =>
  intro f x2 x3 h
  rw [cl_X4_pass_22.eq_2]
  repeat' first
    | with_reducible exact ih _ _ _ ‹Iv a b _›
    | with_reducible exact hY _ _ _ ‹Iv a b _›
    | with_reducible exact fa_some ‹Iv a b _›
    | with_reducible exact fa_none
    | with_reducible refine fa_chk ?_
    | with_reducible refine fa_eq ?_ ?_
    | with_reducible refine fa_le ?_ ?_
    | with_reducible refine fa_lt ?_ ?_
    | with_reducible refine fa_let (fun v => ?_)
    | with_reducible refine fa_mem (iv_kup (by decide) (by decide) ‹Iv a b _›) (fun g hg => ?_)
    | with_reducible refine fa_bind (fv_X6_endWeek ‹Iv a b _› _) (fun r g hg => ?_)
theorem fv_X4_pass (h : Iv a b f) (x1 : Int32) : Fa a b (cf_X4_pass f x1) := by
  unfold cf_X4_pass
  refine fa_bind (fv_X2_dry h _) (fun r g hg => ?_)
  refine fa_mem (iv_kup (by decide) (by decide) hg) (fun g hg => ?_)
  refine fv_X4_pass_22 (fun f x y h => ?_) _ _ _ _ hg
  exact fa_mem (iv_kup (by decide) (by decide) h) (fun g hg => fa_some hg)
theorem fv_X9_addScrap (h : Iv a b f) (x1 x2 : Int32) : Fa a b (cf_X9_addScrap f x1 x2) := by
  unfold cf_X9_addScrap
  repeat' first
    | with_reducible exact fa_some ‹Iv a b _›
    | with_reducible exact fa_none
    | with_reducible refine fa_chk ?_
    | with_reducible refine fa_eq ?_ ?_
    | with_reducible refine fa_le ?_ ?_
    | with_reducible refine fa_lt ?_ ?_
    | with_reducible refine fa_let (fun v => ?_)
    | with_reducible refine fa_mem (iv_kup (by decide) (by decide) ‹Iv a b _›) (fun g hg => ?_)

theorem fv_X9_addPieces (h : Iv a b f) (x1 x2 x3 x4 : Int32) : Fa a b (cf_X9_addPieces f x1 x2 x3 x4) := by
  unfold cf_X9_addPieces
  repeat' first
    | with_reducible exact fa_some ‹Iv a b _›
    | with_reducible exact fa_none
    | with_reducible refine fa_chk ?_
    | with_reducible refine fa_eq ?_ ?_
    | with_reducible refine fa_le ?_ ?_
    | with_reducible refine fa_lt ?_ ?_
    | with_reducible refine fa_let (fun v => ?_)
    | with_reducible refine fa_mem (iv_kup (by decide) (by decide) ‹Iv a b _›) (fun g hg => ?_)

theorem fv_X4_putPieces_2 : ∀ (n : Nat) (f : kMem) (x1 x2 x3 : Int32), Iv a b f → Fa a b (cl_X4_putPieces_2 n f x1 x2 x3) := by
  intro n
  induction n with
  | zero => exact fun f x1 x2 x3 h => fa_none
  | succ n ih =>
  intro f x1 x2 x3 h
  rw [cl_X4_putPieces_2.eq_2]
  repeat' first
    | with_reducible exact ih _ _ _ _ ‹Iv a b _›
    | with_reducible exact fa_some ‹Iv a b _›
    | with_reducible exact fa_none
    | with_reducible refine fa_chk ?_
    | with_reducible refine fa_eq ?_ ?_
    | with_reducible refine fa_le ?_ ?_
    | with_reducible refine fa_lt ?_ ?_
    | with_reducible refine fa_let (fun v => ?_)
    | with_reducible refine fa_mem (iv_kup (by decide) (by decide) ‹Iv a b _›) (fun g hg => ?_)
    | with_reducible refine fa_bind (fv_X0_piecesOf ‹Iv a b _› _ _) (fun r g hg => ?_)
    | with_reducible refine fa_bind (fv_X9_addScrap ‹Iv a b _› _ _) (fun r g hg => ?_)
    | with_reducible refine fa_bind (fv_X9_addPieces ‹Iv a b _› _ _ _ _) (fun r g hg => ?_)
theorem fv_X4_putPieces (h : Iv a b f) (x1 x2 : Int32) : Fa a b (cf_X4_putPieces f x1 x2) := fv_X4_putPieces_2 _ _ _ _ _ h
end FA
theorem rn_core {f g : kMem} {s1 s3 w M : Nat} {r : Int32} (W : Wf f s1 s3 w M 0 1) (hw : w < 100) (hM : s1 ≤ M) (hM2 : M < 10000) (e : cf_X4_runShots f 0 9 = some (r, g)) : r = 0 ∧ g 1 = f 1 ∧ g 18 = f 18 := by
  obtain ⟨a1, a2, a3, a4, a5, a6, a7, a8, a9, a10, a11, a12, a13, a14⟩ := id W
  have z0 : Int32.toNatClampNeg 0 = 0 := by decide
  have e1 : cf_X0_isColour f 0 = some (1, f) := by
    simp [cf_X0_isColour, cf_X11_isWithin, kbind, kchk, klt, kbool, a1]
  have e2 : cf_X0_isFamily f 0 = some (1, f) := by
    simp [cf_X0_isFamily, cf_X11_isWithin, kbind, kchk, klt, kbool, a3]
  have e3 : cf_X0_purgeShots f (-1) 0 = some (0, f) := by
    simp [cf_X0_purgeShots, cf_X0_isColour, cf_X11_isWithin, kbind, kchk, klt, keq, kbool, a1]
  have e5 : ((0 : Int32) + 9) * nI w = nI (9 * w) := by
    rw [show (0 : Int32) + 9 = nI 9 by decide, nI_mul]
  have e4 : cf_X2_lowestUsable f 0 (nI (9 * w)) (nI s1) = some (0, f) := by
    unfold cf_X2_lowestUsable
    rw [show (100 : Nat) = 99 + 1 from rfl, cl_X2_lowestUsable_3.eq_2, kle_f (by decide), kchk_t (by decide), z0, keq_t a7, kchk_t (by decide), a11, klt_f (fun k => by have := (nI_lt_iff (by omega) (by omega)).mp k; omega), kchk_t (by decide), a10, klt_f (show ¬ (50000 : Int32) < nI (9 * w) from fun k => by have := (nI_lt_iff (a := 50000) (by omega) (by omega)).mp k; omega)]
  unfold cf_X4_runShots cf_X11_isWithin at e
  rw [e1, kbind_s, keq_f (by decide), klt_f (by decide), klt_f (by decide), kbind_s, keq_f (by decide), a13, e2, kbind_s, keq_f (by decide), a12, e3, kbind_s, a13, kchk_t (by decide), z0, a4, e5, klet_s, a5, e4, kbind_s, keq_f (by decide)] at e
  obtain ⟨r1, g1, t1, e⟩ := kbind_iv e
  have i1 : Iv (f 1) (f 18) g1 := fv_X2_take (a := f 1) (b := f 18) ⟨rfl, rfl⟩ _ _ _ t1
  rw [kmem_s, kmem_s, kmem_s, kmem_s] at e
  have i2 : Iv (f 1) (f 18) (kup (kup (kup (kup g1 0 9 (g1 0 9 + nI (9 * w))) 0 10 (kup g1 0 9 (g1 0 9 + nI (9 * w)) 0 10 + (0 + 9))) 0 11 (kup (kup g1 0 9 (g1 0 9 + nI (9 * w))) 0 10 (kup g1 0 9 (g1 0 9 + nI (9 * w)) 0 10 + (0 + 9)) 0 11 + 0)) 0 7 0) := iv_kup (by decide) (by decide) (iv_kup (by decide) (by decide) (iv_kup (by decide) (by decide) (iv_kup (by decide) (by decide) i1)))
  generalize (kup (kup (kup (kup g1 0 9 (g1 0 9 + nI (9 * w))) 0 10 (kup g1 0 9 (g1 0 9 + nI (9 * w)) 0 10 + (0 + 9))) 0 11 (kup (kup g1 0 9 (g1 0 9 + nI (9 * w))) 0 10 (kup g1 0 9 (g1 0 9 + nI (9 * w)) 0 10 + (0 + 9)) 0 11 + 0)) 0 7 0) = g2 at e i2
  cases hc : kin (g2 0 8) 6 with
  | false =>
    rw [hc] at e
    cases e
  | true =>
    rw [kchk_t hc] at e
    obtain ⟨r3, g3, t3, e⟩ := kbind_iv e
    have i3 : Iv (f 1) (f 18) g3 := fv_X4_pass i2 _ _ t3
    obtain ⟨r4, g4, t4, e⟩ := kbind_iv e
    have i4 : Iv (f 1) (f 18) g4 := fv_X4_putPieces i3 _ _ _ t4
    obtain ⟨rfl, rfl⟩ := Prod.mk.inj (Option.some.inj e)
    exact ⟨rfl, i4.1, i4.2⟩
theorem kexi {M : Nat} {E : kMem → kMem → Prop} {cC cM : kMem → Option (Int32 × kMem)} (hs : kSim M E cC cM) {N : Nat} {f g : kMem} (hN : N < 512) (hR : kR N f g) (hE : ∀ f1 g1 : kMem, (∀ a, 275 ≤ a → f1 a = f a) → (∀ a, a ≠ 0 → a ≠ 2 → g1 a = g a) → E f1 g1) {P : Int32 → kMem → Prop} (hP : ∀ f1 : kMem, (∀ q, q < 25 → f1 q = f q) → (∀ a, 275 ≤ a → f1 a = f a) → ∀ r f2, cC f1 = some (r, f2) → P r f2) : ∃ z r f2, kbind (cf_X5_begin f) (fun _ g2 => kbind (cC g2) (fun r3 g4 => kxbind (cx_X11_settled g4 r3) (fun r5 g6 => some (0, r5, g6)))) = some z ∧ P r f2 ∧ ((r = -1 ∧ z = (4, 0, f2)) ∨ (¬ r < 0 ∧ z.1 = 0 ∧ z.2.1 = r ∧ ∀ a, a ≠ 275 → z.2.2 a = f2 a)) := by
  obtain ⟨hNw, hRe, hH, hS, hT⟩ := hR
  obtain ⟨⟨r1, f1⟩, e1, ⟨r2, g1⟩, e2, b1, b2, -, -, bf, bg⟩ := p_begin hNw hRe hH hS hT
  obtain ⟨⟨r3, f2⟩, e3, ⟨r4, g2⟩, e4, d1, d2, d3, d4, d5⟩ := hs (N * 59778) f1 g1 (by omega) b1 b2 (hE f1 g1 bf bg)
  obtain ⟨o, c, ho, hc, h1, h2, -⟩ := hH
  dsimp only at d1 d2 d3 d4 d5
  have e0 := c_begin ho hc h1 h2
  have ef : f1 = kfc f ((o + c) % 9 + 2) 0 0 25 := congrArg Prod.snd (Option.some.inj (e1.symm.trans e0))
  subst ef
  have h9 : (o + c) % 9 < 9 := Nat.mod_lt _ (by decide)
  have p2 := hP _ (fun q hq => kfc_fl h9 hq) bf r3 f2 e3
  rw [e1, kbind_s, e3, kbind_s]
  rcases d5 with ⟨q1, -, q2⟩ | ⟨q1, -, -⟩
  · subst q1
    exact ⟨(4, 0, f2), -1, f2, rfl, p2, Or.inl ⟨rfl, rfl⟩⟩
  · have k1 : f2 275 1 = nI o := by rw [d1 275 (by decide) (by decide) (by decide) (by decide), kfc_hi h9 (by decide)]; exact h1
    have k2 : f2 275 2 = nI c := by rw [d1 275 (by decide) (by decide) (by decide) (by decide), kfc_hi h9 (by decide)]; exact h2
    refine ⟨(0, r3, if c = 8 then kup f2 275 1 (nI ((o + 1) % 9)) else kup f2 275 2 (nI (c + 1))), r3, f2, ?_, p2, Or.inr ⟨q1, rfl, rfl, ?_⟩⟩
    · have e : cx_X11_settled f2 r3 = some (0, r3, if c = 8 then kup f2 275 1 (nI ((o + 1) % 9)) else kup f2 275 2 (nI (c + 1))) := by
        unfold cx_X11_settled keq
        rw [if_neg (fun e => q1 (by rw [e]; decide)), c_keep ho hc k1 k2]
        rfl
      rw [e]
      rfl
    · intro a ha
      show (if c = 8 then kup f2 275 1 (nI ((o + 1) % 9)) else kup f2 275 2 (nI (c + 1))) a = f2 a
      split
      · exact kup_ne _ _ _ ha
      · exact kup_ne _ _ _ ha
theorem wd_run {m a b w M : Nat} {f : kMem} {L : List kMem} (hP : Pv (m + 1) f L) (hW : Wf f a b w M 0 1) (hw : w < 100) (hM : a ≤ M) (hM2 : M < 10000) : ∃ f1 L1, lf_run f 0 9 = some (0, f1) ∧ Pv m f1 L1 ∧ (f1 1 0 = 4 ∧ f1 1 1 = 4 ∧ f1 1 2 = 3 ∧ f1 18 0 = 1) := by
  obtain ⟨N, g, hN, hR⟩ := id hP.1
  obtain ⟨z, e, hz, hC⟩ := cg_run (by omega) hR 0 9
  obtain ⟨z', bb, g', z1, -, -, -, -, z6⟩ := kp_run N f g 0 9 (by omega) hR
  obtain rfl := Option.some.inj (z1.symm.trans e)
  obtain ⟨z2, r, f2, e2, ⟨p0, p1, p18⟩, hz2⟩ := kexi (s_run 0 9) (by omega) hR (fun _ _ _ _ => trivial) (P := fun r f2 => r = 0 ∧ f2 1 = f 1 ∧ f2 18 = f 18) (fun f1 b1 _ r f2 e => by
    have W1 : Wf f1 a b w M 0 1 := wf_fr hW (fun q hq _ _ => b1 q hq) (congrFun (b1 0 (by decide)) 7) ((congrFun (b1 0 (by decide)) 8).trans hW.2.2.2.2.2.2.2.2.2.2.2.2.1) ((congrFun (b1 11 (by decide)) 0).trans hW.2.2.2.2.2.2.2.2.2.2.1)
    obtain ⟨q0, q1, q2⟩ := rn_core W1 hw hM hM2 e
    exact ⟨q0, q1.trans (b1 1 (by decide)), q2.trans (b1 18 (by decide))⟩)
  obtain rfl := Option.some.inj (e.symm.trans e2)
  obtain ⟨h1, h2, h3⟩ := hP
  obtain ⟨c1, c2, c3, c4⟩ := hC
  rcases hz2 with ⟨q1, -⟩ | ⟨-, q1, q2, q3⟩
  · exact absurd (p0.symm.trans q1) (by decide)
  rcases c4 with ⟨d1, -⟩ | ⟨-, -, d3⟩
  · exact absurd q1 d1
  refine ⟨z'.2.2, _, ?_, ⟨⟨N + 1, g', by omega, z6⟩, c3.elim (fun e => e.trans h2) id, d3 L h3⟩, ?_, ?_, ?_, ?_⟩
  · unfold lf_run
    rw [e]
    unfold wvx
    dsimp only
    rw [if_pos q1, q2, p0]
  · rw [q3 1 (by decide), p1]
    exact hW.1
  · rw [q3 1 (by decide), p1]
    exact hW.2.1
  · rw [q3 1 (by decide), p1]
    exact hW.2.2.1
  · rw [q3 18 (by decide), p18]
    exact hW.2.2.2.2.2.2.2.2.2.2.2.2.2
