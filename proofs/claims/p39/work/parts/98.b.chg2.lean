/-! every change at the class's own memory -/
theorem cg_colour {N : Nat} {f g : kMem} (hN : N < 512) (hR : kR N f g) (x1 : Int32) : ∃ z, cx_X11_colour f x1 = some z ∧ (z.1 = 0 ∨ z.1 = 4) ∧ Chg f z := by
  unfold cx_X11_colour
  exact kchange2 (s_colour x1) hN hR (fun _ _ _ _ => trivial)
theorem cg_part {N : Nat} {f g : kMem} (hN : N < 512) (hR : kR N f g) (x1 : Int32) : ∃ z, cx_X11_part f x1 = some z ∧ (z.1 = 0 ∨ z.1 = 4) ∧ Chg f z := by
  unfold cx_X11_part
  exact kchange2 (s_part x1) hN hR (fun _ _ _ _ => trivial)
theorem cg_mount {N : Nat} {f g : kMem} (hN : N < 512) (hR : kR N f g) (x1 : Int32) : ∃ z, cx_X11_mount f x1 = some z ∧ (z.1 = 0 ∨ z.1 = 4) ∧ Chg f z := by
  unfold cx_X11_mount
  exact kchange2 (s_mount x1) hN hR (fun _ _ _ _ => trivial)
theorem cg_load {N : Nat} {f g : kMem} (hN : N < 512) (hR : kR N f g) (x1 x2 x3 : Int32) : ∃ z, cx_X11_load f x1 x2 x3 = some z ∧ (z.1 = 0 ∨ z.1 = 4) ∧ Chg f z := by
  unfold cx_X11_load
  exact kchange2 (s_load x1 x2 x3) hN hR (fun _ _ _ _ => trivial)
theorem cg_empty {N : Nat} {f g : kMem} (hN : N < 512) (hR : kR N f g) (x1 : Int32) : ∃ z, cx_X11_empty f x1 = some z ∧ (z.1 = 0 ∨ z.1 = 4) ∧ Chg f z := by
  unfold cx_X11_empty
  exact kchange2 (s_empty x1) hN hR (fun _ _ _ _ => trivial)
theorem cg_pause {N : Nat} {f g : kMem} (hN : N < 512) (hR : kR N f g) (x1 : Int32) : ∃ z, cx_X11_pause f x1 = some z ∧ (z.1 = 0 ∨ z.1 = 4) ∧ Chg f z := by
  unfold cx_X11_pause
  exact kchange2 (s_pause x1) hN hR (fun _ _ _ _ => trivial)
theorem cg_run {N : Nat} {f g : kMem} (hN : N < 512) (hR : kR N f g) (x1 x2 : Int32) : ∃ z, cx_X11_run f x1 x2 = some z ∧ (z.1 = 0 ∨ z.1 = 4) ∧ Chg f z := by
  unfold cx_X11_run
  exact kchange2 (s_run x1 x2) hN hR (fun _ _ _ _ => trivial)
theorem cg_order {N : Nat} {f g : kMem} (hN : N < 512) (hR : kR N f g) (x1 x2 x3 x4 : Int32) : ∃ z, cx_X11_order f x1 x2 x3 x4 = some z ∧ (z.1 = 0 ∨ z.1 = 4) ∧ Chg f z := by
  unfold cx_X11_order
  exact kchange2 (s_order x1 x2 x3 x4) hN hR (fun _ _ _ _ => trivial)
theorem cg_callOff {N : Nat} {f g : kMem} (hN : N < 512) (hR : kR N f g) (x1 : Int32) : ∃ z, cx_X11_callOff f x1 = some z ∧ (z.1 = 0 ∨ z.1 = 4) ∧ Chg f z := by
  unfold cx_X11_callOff
  exact kchange2 (s_callOff x1) hN hR (fun _ _ _ _ => trivial)
theorem cg_set {N : Nat} {f g : kMem} (hN : N < 512) (hR : kR N f g) (x1 x2 : Int32) : ∃ z, cx_X11_set f x1 x2 = some z ∧ (z.1 = 0 ∨ z.1 = 4) ∧ Chg f z := by
  unfold cx_X11_set
  exact kchange2 (s_set x1 x2) hN hR (fun _ _ _ _ => trivial)
theorem hc_fr {f fb : kMem} (h : ∀ a, a < 280 → fb a = f a) {L : List kMem} (hL : HC f L) : HC fb L := by
  obtain ⟨o, a1, a2, a3, a4, a5⟩ := hL
  refine ⟨o, a1, a2, by rw [h 275 (by decide)]; exact a3, by rw [h 275 (by decide)]; exact a4, fun i hi q hq => ?_⟩
  have h9 : (o + i) % 9 < 9 := Nat.mod_lt _ (by decide)
  exact (h _ (by omega)).trans (a5 i hi q hq)
theorem psh_len (L : List kMem) (f : kMem) : (psh L f).length = if L.length = 8 then 8 else L.length + 1 := by
  unfold psh
  split
  · rw [List.length_append, List.length_tail, List.length_singleton]
    omega
  · rw [List.length_append, List.length_singleton]
theorem hc_psh {f fb z : kMem} (h : ∀ a, a < 25 → fb a = f a) {L : List kMem} (hL : HC z (psh L fb)) : HC z (psh L f) := by
  obtain ⟨o, a1, a2, a3, a4, a5⟩ := hL
  have el : (psh L f).length = (psh L fb).length := by rw [psh_len, psh_len]
  refine ⟨o, a1, by rw [el]; exact a2, a3, by rw [el]; exact a4, fun i hi q hq => ?_⟩
  rw [el] at hi
  rw [a5 i hi q hq]
  unfold psh
  split
  · rw [List.getD_eq_getElem?_getD, List.getD_eq_getElem?_getD]
    by_cases hj : i < L.tail.length
    · rw [List.getElem?_append_left hj, List.getElem?_append_left hj]
    · rw [List.getElem?_append_right (by omega), List.getElem?_append_right (by omega)]
      rcases Nat.eq_zero_or_pos (i - L.tail.length) with e | e
      · rw [e]
        exact h q hq
      · rw [List.getElem?_eq_none (by simp only [List.length_singleton]; omega), List.getElem?_eq_none (by simp only [List.length_singleton]; omega)]
  · rw [List.getD_eq_getElem?_getD, List.getD_eq_getElem?_getD]
    by_cases hj : i < L.length
    · rw [List.getElem?_append_left hj, List.getElem?_append_left hj]
    · rw [List.getElem?_append_right (by omega), List.getElem?_append_right (by omega)]
      rcases Nat.eq_zero_or_pos (i - L.length) with e | e
      · rw [e]
        exact h q hq
      · rw [List.getElem?_eq_none (by simp only [List.length_singleton]; omega), List.getElem?_eq_none (by simp only [List.length_singleton]; omega)]
theorem chg_tr {f fb : kMem} {z : kXr} (h : ∀ a, a < 280 → fb a = f a) (h1 : fb 291 = f 291) (h0 : fb 280 2 = 0) (hC : Chg fb z) : Chg f z ∧ z.2.2 280 2 = 0 := by
  obtain ⟨c1, c2, c3, c4⟩ := hC
  have e0 : z.2.2 280 2 = 0 := c3.elim (fun e => e.trans h0) id
  refine ⟨⟨fun q q1 q2 => (c1 q q1 q2).trans (h q (by omega)), c2.trans h1, Or.inr e0, ?_⟩, e0⟩
  rcases c4 with ⟨d1, d2, d3⟩ | ⟨d1, d2, d3⟩
  · exact Or.inl ⟨d1, fun q hq => (d2 q hq).trans (h q (by omega)), fun L hL => d3 L (hc_fr h hL)⟩
  · exact Or.inr ⟨d1, d2, fun L hL => hc_psh (fun a ha => h a (by omega)) (d3 L (hc_fr h hL))⟩
theorem kend2 {M : Nat} {E : kMem → kMem → Prop} {cC cM : kMem → Option (Int32 × kMem)} (hs : kSim M E cC cM) {N : Nat} {f g : kMem} (hN : N < 512) (h5 : kR5 (N * 59778) f g) (h2 : cut (g 2) = cut (g 1)) (hE : ∀ f1 : kMem, (∀ a, 275 ≤ a → f1 a = f a) → E f1 g) : ∃ z, kbind (cf_X5_begin f) (fun _ g6 => kbind (cC g6) (fun r7 g8 => kxbind (cx_X11_settled g8 r7) (fun r9 g10 => some (0, r9, g10)))) = some z ∧ (z.1 = 0 ∨ z.1 = 4) ∧ Chg f z := by
  obtain ⟨hNw, hRe, hH, hS, hT⟩ := h5
  obtain ⟨f1, e1, b1, b2, -, bf⟩ := p_begin2 hNw hRe hH hS hT h2
  obtain ⟨⟨r3, f2⟩, e3, ⟨r4, g2⟩, e4, d1, d2, d3, d4, d5⟩ := hs (N * 59778) f1 g (by omega) b1 b2 (hE f1 bf)
  obtain ⟨o, c, ho, hc, h1, h2, -⟩ := hH
  dsimp only at d1 d2 d3 d4 d5
  have e0 := c_begin ho hc h1 h2
  have ef : f1 = kfc f ((o + c) % 9 + 2) 0 0 25 := congrArg Prod.snd (Option.some.inj (e1.symm.trans e0))
  subst ef
  have h9 : (o + c) % 9 < 9 := Nat.mod_lt _ (by decide)
  rw [e1, kbind_s, e3, kbind_s]
  rcases d5 with ⟨q1, -, q2⟩ | ⟨q1, -, -⟩
  · subst q1
    exact ⟨(4, 0, f2), rfl, Or.inr rfl, chg_no (by decide) ho hc h1 h2 d1 (fun q hq => (q2.2 q hq).trans (kfc_fl h9 hq))⟩
  · have k1 : f2 275 1 = nI o := by rw [d1 275 (by decide) (by decide) (by decide) (by decide), kfc_hi h9 (by decide)]; exact h1
    have k2 : f2 275 2 = nI c := by rw [d1 275 (by decide) (by decide) (by decide) (by decide), kfc_hi h9 (by decide)]; exact h2
    refine ⟨(0, r3, _), ?_, Or.inl rfl, chg_yes q1 ho hc h1 h2 d1⟩
    have e : cx_X11_settled f2 r3 = some (0, r3, if c = 8 then kup f2 275 1 (nI ((o + 1) % 9)) else kup f2 275 2 (nI (c + 1))) := by
      unfold cx_X11_settled keq
      rw [if_neg (fun e => q1 (by rw [e]; decide)), c_keep ho hc k1 k2]
      rfl
    rw [e]
    rfl
theorem chg_2 {f fb : kMem} (h : ∀ a, a < 280 → fb a = f a) (h1 : fb 291 = f 291) (h0 : fb 280 2 = 0) : Chg f (2, 0, fb) ∧ fb 280 2 = 0 := ⟨⟨fun q q1 q2 => h q (by omega), h1, Or.inr h0, Or.inl ⟨(show (2 : Nat) ≠ 0 by decide), fun q hq => h q (by omega), fun L hL => hc_fr h hL⟩⟩, h0⟩
theorem cg_family {N : Nat} {f g : kMem} (hN : N < 512) (hR : kR N f g) : ∃ z, cx_X11_family f = some z ∧ (z.1 = 0 ∨ z.1 = 2 ∨ z.1 = 4) ∧ Chg f z ∧ z.2.2 280 2 = 0 := by
  have h5 : kR5 (N * 59778) f g := hR
  obtain ⟨n, t1, t2, t3, t4, t5⟩ := hR.2.2.2.2
  obtain ⟨⟨r0, ga⟩, e0, -, ta, t0, tc⟩ := m_tries (g := g)
  dsimp only at ta t0 tc
  unfold cx_X11_family
  obtain ⟨gb, z1, z2, z3, z4⟩ := m_zero (Y := fun g6 => kbind (cf_X12_isFamilyText g6) (fun r7 g8 => kmem (kup g8 0 7 0) (fun g9 => keq r7 0 ((cj_X12_family_53 g9 r7 (g9 0 8))) ((cj_X12_family_53 g9 r7 (-1)))))) 9 100 0 (kup ga 0 8 0) (by omega) (by omega)
  have gb0 : ∀ k, k ≠ 8 → k ≠ 18 → gb 0 k = g 0 k := fun k h8 h18 => by rw [z2 0 (by decide), kup_nk h8, t0, upd_ne h18]
  have gba : ∀ a, a ≠ 0 → a ≠ 2 → a ≠ 8 → gb a = g a := fun a h0 h2 h8 => by rw [z2 a h8, kup_ne _ _ _ h0, ta a h0 h2]
  obtain ⟨r, f1, gc, i1, l1, r1, r2, hF, hG, r3, r4, r5⟩ := tx_family (f := f) (g := gb) (n := n) t2 (by rw [z2 0 (by decide), kup_at]; rfl) (by rw [gb0 7 (by decide) (by decide)]; exact t3) t1 (fun j hj => by rw [gba 5 (by decide) (by decide) (by decide)]; exact t4 j hj) (fun j hj => z4 j (by omega) hj)
  rw [r1, kbind_s]
  unfold cf_X10_clear
  rw [kmem_s, kbind_s]
  have fb0 : ∀ a, a < 280 → kup f1 280 2 0 a = f a := fun a ha => by rw [kup_ne _ _ _ (by omega), hF.1 a (by omega) (Or.inl (by omega))]
  have fb1 : kup f1 280 2 0 291 = f 291 := by rw [kup_ne _ _ _ (by decide), hF.1 291 (by decide) (Or.inr (by decide))]
  have gca : ∀ a, a ≠ 0 → a ≠ 2 → a ≠ 8 → gc a = g a := fun a h0 h2 h8 => by rw [hG.1 a h0 h8, gba a h0 h2 h8]
  have gc0 : ∀ k, k ≠ 18 → k ≠ 8 → gc 0 k = g 0 k := fun k h18 h8 => by rw [hG.2 k h8, gb0 k h8 h18]
  have gc2 : gc 2 = ga 2 := by rw [hG.1 2 (by decide) (by decide), z2 2 (by decide), kup_ne _ _ _ (by decide)]
  have gc18 : gc 0 18 = 0 := by rw [hG.2 18 (by decide), z2 0 (by decide), kup_nk (by decide), t0, upd_eq]
  have at0 : ∀ x, f1 280 3 = x → kR5 (N * 59778) (kup f1 280 2 0) (kup (kup gc 0 7 0) 0 9 x) := fun x hx => tx_at h5 (fun a a1 a2 => by rw [kup_ne _ _ _ a1, hF.1 a a1 a2]) (fun a a0 a2 a8 => by rw [kup_ne _ _ _ a0, kup_ne _ _ _ a0, gca a a0 a2 a8]) (fun k k18 k8 k7 k9 => by rw [kup_nk k9, kup_nk k7, gc0 k k18 k8]) kup_at (by rw [kup_nk (by decide), kup_at]) (by rw [kup_nk (by decide), kup_at]; exact hx)
  rcases (show r = 0 ∨ r = 1 by omega) with rfl | rfl
  · rw [keq_t (show nI 0 = 0 from rfl)]
    exact ⟨_, rfl, Or.inr (Or.inl rfl), chg_2 fb0 fb1 kup_at⟩
  · rw [keq_f (show ¬ nI 1 = 0 by decide)]
    have hE := r5 rfl
    have key := kend2 s_family hN (at0 (-1) (by rw [r3, if_pos rfl])) ?_ (fun fx hfx => ?_)
    · obtain ⟨z, q1, q2, q3⟩ := key
      exact ⟨z, q1, q2.elim Or.inl (fun h => Or.inr (Or.inr h)), chg_tr fb0 fb1 kup_at q3⟩
    · rw [kup_ne _ _ _ (by decide), kup_ne _ _ _ (by decide), kup_ne _ _ _ (by decide), kup_ne _ _ _ (by decide), gc2, tc, gca 1 (by decide) (by decide) (by decide)]
    · obtain ⟨n, cyc, wt, k1, k2, k3, k4, k5, k6, k7, k8, k9, k10, k11, k12⟩ := hE
      have q : ∀ a, 282 ≤ a → fx a = f1 a := fun a ha => by rw [hfx a (by omega), kup_ne _ _ _ (by omega)]
      exact ⟨n, cyc, wt, k1, k2, k3, k4, by rw [q 282 (by decide)]; exact k5, by rw [q 282 (by decide)]; exact k6, by rw [q 282 (by decide)]; exact k7, k8, k9, k10, Parts_fr k11 (q 283 (by decide)) (q 284 (by decide)) rfl, k12⟩
theorem p_refuse2 {o c t : Nat} {f : kMem} (ho : o < 9) (hc : c ≤ 8) (h1 : f 275 1 = nI o) (h2 : f 275 2 = nI c) {r : Nat} (hr2 : f 277 2 = nI r) (hr : 1 ≤ r ∧ r ≤ 2) : ∃ f1, kbind (cf_X8_putAhead f 13 (nI t)) (fun r12 g13 => kbind (cf_X5_rollBack g13) (fun r14 g15 => some ((4, 0, g15) : kXr))) = some (4, 0, f1) ∧ (∀ q, q < 25 → f1 q = rm f ((o + c) % 9) q) ∧ ∀ a, 25 ≤ a → a ≠ 277 → a ≠ 278 → a ≠ 279 → f1 a = f a := by
  have h9 : (o + c) % 9 < 9 := Nat.mod_lt _ (by decide)
  obtain ⟨fa, a1, a2, a3, a4', a5, a6⟩ := c_ahead (x := 13) (y := nI t) hr2 hr.1 hr.2
  refine ⟨kfc fa 0 ((o + c) % 9 + 2) 0 25, ?_, fun q hq => ?_, fun a ha a7 a8 a9 => ?_⟩
  · rw [a1, kbind_s]
    unfold cf_X5_rollBack
    rw [c_room (f := fa) ho hc (by rw [a2 275 (by decide) (by decide) (by decide)]; exact h1) (by rw [a2 275 (by decide) (by decide) (by decide)]; exact h2), kbind_s, kchk_t (nI_kin h9 (by decide)), kchk_t (nI_kin h9 (by decide)), nI_clamp (by omega), kbind_s, kbind_s]
  · unfold kfc
    rw [if_pos ⟨by omega, by omega⟩, show 25 * ((o + c) % 9 + 2) + (q - 25 * 0) = 25 * ((o + c) % 9 + 2) + q by omega, a2 _ (by omega) (by omega) (by omega)]
    rfl
  · unfold kfc
    rw [if_neg (by omega), a2 a a7 a8 a9]
set_option maxRecDepth 20000 in
theorem cg_program {N : Nat} {f g : kMem} (hN : N < 512) (hR : kR N f g) : ∃ z, cx_X11_program f = some z ∧ (z.1 = 0 ∨ z.1 = 2 ∨ z.1 = 4) ∧ Chg f z ∧ z.2.2 280 2 = 0 := by
  have h5 : kR5 (N * 59778) f g := hR
  obtain ⟨n, t1, t2, t3, t4, t5⟩ := hR.2.2.2.2
  obtain ⟨⟨r0, ga⟩, e0, -, ta, t0, tc⟩ := m_tries (g := g)
  dsimp only at ta t0 tc
  unfold cx_X11_program
  have gb0 : ∀ k, k ≠ 8 → k ≠ 18 → kup ga 0 8 0 0 k = g 0 k := fun k h8 h18 => by rw [kup_nk h8, t0, upd_ne h18]
  have gba : ∀ a, a ≠ 0 → a ≠ 2 → kup ga 0 8 0 a = g a := fun a h0 h2 => by rw [kup_ne _ _ _ h0, ta a h0 h2]
  obtain ⟨r, f1, gc, i1, m, l1, r1, r2, hF, hG, r3, r4, r6, r5⟩ := tx_program (f := f) (g := kup ga 0 8 0) (n := n) t2 kup_at (by rw [gb0 7 (by decide) (by decide)]; exact t3) t1 (fun j hj => by rw [gba 5 (by decide) (by decide)]; exact t4 j hj)
  rw [r1, kbind_s]
  unfold cf_X10_clear
  rw [kmem_s, kbind_s]
  have fb0 : ∀ a, a < 280 → kup f1 280 2 0 a = f a := fun a ha => by rw [kup_ne _ _ _ (by omega), hF.1 a (by omega) (Or.inl (by omega))]
  have fb1 : kup f1 280 2 0 291 = f 291 := by rw [kup_ne _ _ _ (by decide), hF.1 291 (by decide) (Or.inr (by decide))]
  have gca : ∀ a, a ≠ 0 → a ≠ 2 → a ≠ 8 → gc a = g a := fun a h0 h2 h8 => by rw [hG.1 a h0 h8, gba a h0 h2]
  have gc0 : ∀ k, k ≠ 18 → k ≠ 8 → gc 0 k = g 0 k := fun k h18 h8 => by rw [hG.2 k h8, gb0 k h8 h18]
  have gc2 : gc 2 = ga 2 := by rw [hG.1 2 (by decide) (by decide), kup_ne _ _ _ (by decide)]
  have gc18 : gc 0 18 = 0 := by rw [hG.2 18 (by decide), kup_nk (by decide), t0, upd_eq]
  have at0 : ∀ x, f1 280 3 = x → kR5 (N * 59778) (kup f1 280 2 0) (kup (kup gc 0 7 0) 0 9 x) := fun x hx => tx_at h5 (fun a a1 a2 => by rw [kup_ne _ _ _ a1, hF.1 a a1 a2]) (fun a a0 a2 a8 => by rw [kup_ne _ _ _ a0, kup_ne _ _ _ a0, gca a a0 a2 a8]) (fun k k18 k8 k7 k9 => by rw [kup_nk k9, kup_nk k7, gc0 k k18 k8]) kup_at (by rw [kup_nk (by decide), kup_at]) (by rw [kup_nk (by decide), kup_at]; exact hx)
  rcases (show r = 0 ∨ r = 1 by omega) with rfl | rfl
  · rw [keq_t (show nI 0 = 0 from rfl)]
    exact ⟨_, rfl, Or.inr (Or.inl rfl), chg_2 fb0 fb1 kup_at⟩
  rw [keq_f (show ¬ nI 1 = 0 by decide)]
  obtain ⟨q1, q2⟩ := r5 rfl
  obtain ⟨hNw, hRe, hH, hS, hT⟩ := at0 (-1) (by rw [r3, if_pos rfl])
  obtain ⟨fc, e1, b1, b2, ⟨o, c, bP⟩, bf⟩ := p_begin2 hNw hRe hH hS hT (by rw [kup_ne _ _ _ (by decide), kup_ne _ _ _ (by decide), kup_ne _ _ _ (by decide), kup_ne _ _ _ (by decide), gc2, tc, gca 1 (by decide) (by decide) (by decide)])
  have q : ∀ a, 282 ≤ a → fc a = f1 a := fun a ha => by rw [bf a (by omega), kup_ne _ _ _ (by omega)]
  have hC : Cmds fc (kup (kup gc 0 7 0) 0 9 (-1)) (m + 1) := fun j hj => Cmd_fr (q2 j hj) (by rw [q 286 (by decide)]) (fun k _ => by rw [q 287 (by decide)]) (fun k _ => rfl)
  rw [e1, kbind_s]
  obtain ⟨o', c', ho, hc, k1, k2, -⟩ := hH
  have h9 : (o' + c') % 9 < 9 := Nat.mod_lt _ (by decide)
  have ef : fc = kfc (kup f1 280 2 0) ((o' + c') % 9 + 2) 0 0 25 := congrArg Prod.snd (Option.some.inj (e1.symm.trans (c_begin ho hc k1 k2)))
  rcases lp_exec (m := m + 1) (by omega) (Y66 := fun g11 x2_10 => kbind (cf_X8_putAhead g11 13 x2_10) (fun r12 g13 => kbind (cf_X5_rollBack g13) (fun r14 g15 => some (4, 0, g15)))) (Y103 := fun g16 => kxbind (cx_X11_settled g16 (g16 285 2)) (fun r17 g18 => some (0, r17, g18))) (Y117 := fun _ _ => none) (Y207 := fun _ _ => none) (m + 1) 0 100 100 (N * 59778) fc (kup (kup gc 0 7 0) 0 9 (-1)) (by omega) (by omega) (by omega) (by omega) b1 b2 (by rw [q 285 (by decide)]; exact q1) hC with ⟨f2, g2, w1, w2, w3, w4, w5, w6⟩ | ⟨t, f2, g2, w0, w1, w2, w3, w4, w5, w6, w7⟩
  · have e285 : f2 285 2 = nI (m + 1) := by
      rw [w3 285 (by decide) (by decide) (by decide) (by decide), q 285 (by decide)]
      exact q1
    subst ef
    have k1' : f2 275 1 = nI o' := by rw [w3 275 (by decide) (by decide) (by decide) (by decide), kfc_hi h9 (by decide)]; exact k1
    have k2' : f2 275 2 = nI c' := by rw [w3 275 (by decide) (by decide) (by decide) (by decide), kfc_hi h9 (by decide)]; exact k2
    refine ⟨_, w1.trans ?_, Or.inl rfl, chg_tr fb0 fb1 kup_at (chg_yes (v := nI (m + 1)) (nI_not_neg (by omega)) ho hc k1 k2 w3)⟩
    have e : cx_X11_settled f2 (nI (m + 1)) = some (0, nI (m + 1), if c' = 8 then kup f2 275 1 (nI ((o' + 1) % 9)) else kup f2 275 2 (nI (c' + 1))) := by
      unfold cx_X11_settled keq
      rw [if_neg (nI_m1 (by omega)), c_keep ho hc k1' k2']
      rfl
    rw [e285, e]
    rfl
  · subst ef
    have k1' : f2 275 1 = nI o' := by rw [w3 275 (by decide) (by decide) (by decide) (by decide), kfc_hi h9 (by decide)]; exact k1
    have k2' : f2 275 2 = nI c' := by rw [w3 275 (by decide) (by decide) (by decide) (by decide), kfc_hi h9 (by decide)]; exact k2
    obtain ⟨r9, hr9, hr⟩ : ∃ r9, f2 277 2 = nI r9 ∧ 1 ≤ r9 ∧ r9 ≤ 2 := w6.elim (fun h => ⟨1, h, by omega, by omega⟩) (fun h => ⟨2, h, by omega, by omega⟩)
    obtain ⟨f3, x1, x2, x3⟩ := p_refuse2 (t := t) ho hc k1' k2' hr9 hr
    refine ⟨_, w1.trans x1, Or.inr (Or.inr rfl), chg_tr fb0 fb1 kup_at (chg_no (by decide) ho hc k1 k2 (fun a a0 a7 a8 a9 => (x3 a a0 a7 a8 a9).trans (w3 a a0 a7 a8 a9)) (fun q9 hq9 => ?_))⟩
    rw [x2 q9 hq9]
    exact (w3 (25 * ((o' + c') % 9 + 2) + q9) (by omega) (by omega) (by omega) (by omega)).trans (kfc_rm hq9)
