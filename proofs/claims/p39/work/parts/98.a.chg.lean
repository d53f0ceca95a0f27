/-! what a change does to the class's own memory: floor, history, snapshot, text -/
def HC (f : kMem) (L : List kMem) : Prop := ∃ o, o < 9 ∧ L.length ≤ 8 ∧ f 275 1 = nI o ∧ f 275 2 = nI L.length ∧ ∀ i, i < L.length → ∀ q, q < 25 → rm f ((o + i) % 9) q = (L.getD i f0) q
def psh (L : List kMem) (f : kMem) : List kMem := if L.length = 8 then L.tail ++ [f] else L ++ [f]
def Chg (f : kMem) (z : kXr) : Prop := (∀ q, 25 ≤ q → q < 50 → z.2.2 q = f q) ∧ z.2.2 291 = f 291 ∧ (z.2.2 280 2 = f 280 2 ∨ z.2.2 280 2 = 0) ∧ ((z.1 ≠ 0 ∧ (∀ q, q < 25 → z.2.2 q = f q) ∧ ∀ L, HC f L → HC z.2.2 L) ∨ (z.1 = 0 ∧ ¬ z.2.1 < 0 ∧ ∀ L, HC f L → HC z.2.2 (psh L f)))
theorem hc_o {f : kMem} {L : List kMem} {o c : Nat} (h : HC f L) (ho : o < 9) (hc : c ≤ 8) (h1 : f 275 1 = nI o) (h2 : f 275 2 = nI c) : L.length = c ∧ ∀ i, i < c → ∀ q, q < 25 → rm f ((o + i) % 9) q = (L.getD i f0) q := by
  obtain ⟨o', a1, a2, a3, a4, a5⟩ := h
  have e1 : o' = o := nI_inj (by omega) (by omega) (a3.symm.trans h1)
  have e2 : L.length = c := nI_inj (by omega) (by omega) (a4.symm.trans h2)
  subst e1
  exact ⟨e2, fun i hi => a5 i (by omega)⟩
/-- rooms behind a begin and a body that leaves them -/
theorem hc_rm {f f2 : kMem} {o c : Nat} (hc : c ≤ 8) (hF : ∀ a, 50 ≤ a → a < 275 → f2 a = kfc f ((o + c) % 9 + 2) 0 0 25 a) : (∀ i, i < c → ∀ q, q < 25 → rm f2 ((o + i) % 9) q = rm f ((o + i) % 9) q) ∧ ∀ q, q < 25 → rm f2 ((o + c) % 9) q = f q := by
  have h9 : ∀ r q, r < 9 → q < 25 → rm f2 r q = rm (kfc f ((o + c) % 9 + 2) 0 0 25) r q := fun r q hr hq => hF _ (by omega) (by omega)
  exact ⟨fun i hi q hq => (h9 _ q (Nat.mod_lt _ (by decide)) hq).trans (kfc_rn (mod_ne hi hc) hq), fun q hq => (h9 _ q (Nat.mod_lt _ (by decide)) hq).trans (kfc_rm hq)⟩
theorem hc_no {f f2 : kMem} {o c : Nat} (ho : o < 9) (hc : c ≤ 8) (h1 : f 275 1 = nI o) (h2 : f 275 2 = nI c) (hF : ∀ a, 50 ≤ a → a < 275 → f2 a = kfc f ((o + c) % 9 + 2) 0 0 25 a) (h5 : f2 275 = f 275) {L : List kMem} (h : HC f L) : HC f2 L := by
  obtain ⟨e1, e2⟩ := hc_o h ho hc h1 h2
  refine ⟨o, ho, by omega, by rw [h5]; exact h1, by rw [h5, e1]; exact h2, fun i hi q hq => ?_⟩
  rw [(hc_rm hc hF).1 i (by omega) q hq]
  exact e2 i (by omega) q hq
theorem hc_yes {f f2 : kMem} {o c : Nat} (ho : o < 9) (hc : c ≤ 8) (h1 : f 275 1 = nI o) (h2 : f 275 2 = nI c) (hF : ∀ a, 50 ≤ a → a < 275 → f2 a = kfc f ((o + c) % 9 + 2) 0 0 25 a) (h5 : f2 275 = f 275) {L : List kMem} (h : HC f L) : HC (if c = 8 then kup f2 275 1 (nI ((o + 1) % 9)) else kup f2 275 2 (nI (c + 1))) (psh L f) := by
  obtain ⟨e1, e2⟩ := hc_o h ho hc h1 h2
  obtain ⟨r1, r2⟩ := hc_rm hc hF
  have hz : ∀ r q, r < 9 → q < 25 → rm (if c = 8 then kup f2 275 1 (nI ((o + 1) % 9)) else kup f2 275 2 (nI (c + 1))) r q = rm f2 r q := fun r q hr hq => by
    show (if c = 8 then kup f2 275 1 (nI ((o + 1) % 9)) else kup f2 275 2 (nI (c + 1))) (25 * (r + 2) + q) = f2 (25 * (r + 2) + q)
    split
    · exact kup_ne _ _ _ (by omega)
    · exact kup_ne _ _ _ (by omega)
  by_cases h8 : c = 8
  · subst h8
    have el : (psh L f).length = 8 := by
      unfold psh
      rw [if_pos e1, List.length_append, List.length_tail, e1]
      rfl
    refine ⟨(o + 1) % 9, Nat.mod_lt _ (by decide), by omega, ?_, ?_, fun i hi q hq => ?_⟩
    · rw [if_pos rfl, kup_at]
    · rw [if_pos rfl, kup_nk (by decide), h5, el]
      exact h2
    · rw [hz _ q (Nat.mod_lt _ (by decide)) hq]
      unfold psh
      rw [if_pos e1, List.getD_eq_getElem?_getD]
      by_cases hi7 : i = 7
      · subst hi7
        rw [List.getElem?_append_right (by rw [List.length_tail, e1]; exact Nat.le_refl _), List.length_tail, e1, show ((o + 1) % 9 + 7) % 9 = (o + 8) % 9 by omega]
        exact r2 q hq
      · have hi6 : i < 7 := by omega
        rw [List.getElem?_append_left (by rw [List.length_tail, e1]; exact hi6), List.getElem?_tail, ← List.getD_eq_getElem?_getD, show ((o + 1) % 9 + i) % 9 = (o + (i + 1)) % 9 by omega, r1 (i + 1) (by omega) q hq]
        exact e2 (i + 1) (by omega) q hq
  · have el : (psh L f).length = c + 1 := by
      unfold psh
      rw [if_neg (by omega), List.length_append, e1]
      rfl
    refine ⟨o, ho, by omega, ?_, ?_, fun i hi q hq => ?_⟩
    · rw [if_neg h8, kup_nk (by decide), h5]
      exact h1
    · rw [if_neg h8, kup_at, el]
    · rw [hz _ q (Nat.mod_lt _ (by decide)) hq]
      unfold psh
      rw [if_neg (by omega), List.getD_eq_getElem?_getD]
      by_cases hi7 : i = c
      · subst hi7
        rw [List.getElem?_append_right (by omega), e1, Nat.sub_self]
        exact r2 q hq
      · rw [List.getElem?_append_left (by omega), ← List.getD_eq_getElem?_getD, r1 i (by omega) q hq]
        exact e2 i (by omega) q hq
theorem chg_no {f f2 : kMem} {o c n : Nat} {v : Int32} (hn : n ≠ 0) (ho : o < 9) (hc : c ≤ 8) (h1 : f 275 1 = nI o) (h2 : f 275 2 = nI c) (hF : Fr1 (kfc f ((o + c) % 9 + 2) 0 0 25) f2) (hfl : ∀ q, q < 25 → f2 q = f q) : Chg f (n, v, f2) := by
  have h9 : (o + c) % 9 < 9 := Nat.mod_lt _ (by decide)
  have hi : ∀ a, 275 ≤ a → a ≠ 277 → a ≠ 278 → a ≠ 279 → f2 a = f a := fun a h h7 h8 h9' => (hF a (by omega) h7 h8 h9').trans (kfc_hi h9 h)
  refine ⟨fun q q1 q2 => (hF q q1 (by omega) (by omega) (by omega)).trans (kfc_sn q2), hi 291 (by decide) (by decide) (by decide) (by decide), Or.inl (congrFun (hi 280 (by decide) (by decide) (by decide) (by decide)) 2), Or.inl ⟨hn, hfl, fun L h => ?_⟩⟩
  exact hc_no ho hc h1 h2 (fun a a1 a2 => hF a (by omega) (by omega) (by omega) (by omega)) (hi 275 (by decide) (by decide) (by decide) (by decide)) h
theorem chg_yes {f f2 : kMem} {o c : Nat} {v : Int32} (hv : ¬ v < 0) (ho : o < 9) (hc : c ≤ 8) (h1 : f 275 1 = nI o) (h2 : f 275 2 = nI c) (hF : Fr1 (kfc f ((o + c) % 9 + 2) 0 0 25) f2) : Chg f (0, v, if c = 8 then kup f2 275 1 (nI ((o + 1) % 9)) else kup f2 275 2 (nI (c + 1))) := by
  have h9 : (o + c) % 9 < 9 := Nat.mod_lt _ (by decide)
  have hi : ∀ a, 275 ≤ a → a ≠ 277 → a ≠ 278 → a ≠ 279 → f2 a = f a := fun a h h7 h8 h9' => (hF a (by omega) h7 h8 h9').trans (kfc_hi h9 h)
  have hz : ∀ a, a ≠ 275 → (if c = 8 then kup f2 275 1 (nI ((o + 1) % 9)) else kup f2 275 2 (nI (c + 1))) a = f2 a := fun a ha => by
    split
    · exact kup_ne _ _ _ ha
    · exact kup_ne _ _ _ ha
  refine ⟨fun q q1 q2 => (hz q (by omega)).trans ((hF q q1 (by omega) (by omega) (by omega)).trans (kfc_sn q2)), (hz 291 (by decide)).trans (hi 291 (by decide) (by decide) (by decide) (by decide)), Or.inl (congrFun ((hz 280 (by decide)).trans (hi 280 (by decide) (by decide) (by decide) (by decide))) 2), Or.inr ⟨rfl, hv, fun L h => ?_⟩⟩
  exact hc_yes ho hc h1 h2 (fun a a1 a2 => hF a (by omega) (by omega) (by omega) (by omega)) (hi 275 (by decide) (by decide) (by decide) (by decide)) h
theorem kchange2 {M : Nat} {E : kMem → kMem → Prop} {cC cM : kMem → Option (Int32 × kMem)} (hs : kSim M E cC cM) {N : Nat} {f g : kMem} (hN : N < 512) (hR : kR N f g) (hE : ∀ f1 g1 : kMem, (∀ a, 275 ≤ a → f1 a = f a) → (∀ a, a ≠ 0 → a ≠ 2 → g1 a = g a) → E f1 g1) : ∃ z, kbind (cf_X5_begin f) (fun _ g2 => kbind (cC g2) (fun r3 g4 => kxbind (cx_X11_settled g4 r3) (fun r5 g6 => some (0, r5, g6)))) = some z ∧ (z.1 = 0 ∨ z.1 = 4) ∧ Chg f z := by
  obtain ⟨hNw, hRe, hH, hS, hT⟩ := hR
  obtain ⟨⟨r1, f1⟩, e1, ⟨r2, g1⟩, e2, b1, b2, -, -, bf, bg⟩ := p_begin hNw hRe hH hS hT
  obtain ⟨⟨r3, f2⟩, e3, ⟨r4, g2⟩, e4, d1, d2, d3, d4, d5⟩ := hs (N * 59778) f1 g1 (by omega) b1 b2 (hE f1 g1 bf bg)
  obtain ⟨o, c, ho, hc, h1, h2, -⟩ := hH
  dsimp only at d1 d2 d3 d4 d5
  have e0 := c_begin ho hc h1 h2
  have ef : f1 = kfc f ((o + c) % 9 + 2) 0 0 25 := congrArg Prod.snd (Option.some.inj (e1.symm.trans e0))
  subst ef
  have h9 : (o + c) % 9 < 9 := Nat.mod_lt _ (by decide)
  rw [e1, kbind_s, e3, kbind_s]
  rcases d5 with ⟨q1, -, q2⟩ | ⟨q1, -, -⟩
  · subst q1
    exact ⟨(4, 0, f2), rfl, Or.inr rfl, chg_no (by decide) ho hc h1 h2 d1 (fun q hq => (q2.2 q hq).trans (kfc_fl h9 hq))⟩
  · have k1 : f2 275 1 = nI o := by rw [d1 275 (by decide) (by decide) (by decide) (by decide), kfc_hi h9 (by decide)]; exact h1
    have k2 : f2 275 2 = nI c := by rw [d1 275 (by decide) (by decide) (by decide) (by decide), kfc_hi h9 (by decide)]; exact h2
    refine ⟨(0, r3, _), ?_, Or.inl rfl, chg_yes q1 ho hc h1 h2 d1⟩
    have e : cx_X11_settled f2 r3 = some (0, r3, if c = 8 then kup f2 275 1 (nI ((o + 1) % 9)) else kup f2 275 2 (nI (c + 1))) := by
      unfold cx_X11_settled keq
      rw [if_neg (fun e => q1 (by rw [e]; decide)), c_keep ho hc k1 k2]
      rfl
    rw [e]
    rfl
