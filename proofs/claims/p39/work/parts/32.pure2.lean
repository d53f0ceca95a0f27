/-! a change: begin and tries, then the cores, then keep and keeps (or nothing, where it is refused) -/
def Pend (B : Nat) (f g : kMem) (o c : Nat) : Prop := HistC B f g o c ∧ (FRel (rm f ((o + c) % 9)) (cut (g 2)) ∧ Inv B (cut (g 2))) ∧ Snap B f g ∧ Txt f g
theorem rm_fr {f f1 : kMem} (h : ∀ a, 50 ≤ a → a < 275 → f1 a = f a) {r c : Nat} (hr : r < 9) (hc : c < 25) : rm f1 r c = rm f r c := h _ (by omega) (by omega)
theorem FRel_rm {f f1 : kMem} {r : Nat} {v : Nat → Int32} (h : ∀ a, 50 ≤ a → a < 275 → f1 a = f a) (hr : r < 9) (hF : FRel (rm f r) v) : FRel (rm f1 r) v := FRel_cells (fun c hc => rm_fr h hr hc) hF
theorem row_fr {g g1 : kMem} (h : g1 3 = g 3) (i : Nat) : row g1 i = row g i := by
  unfold row
  rw [h]
theorem Snap_fr {B : Nat} {f f1 g g1 : kMem} (h : Snap B f g) (hf : ∀ a, 25 ≤ a → a < 50 → f1 a = f a) (h8 : f1 291 8 = f 291 8) (h5 : g1 0 5 = g 0 5) (h4 : g1 4 = g 4) : Snap B f1 g1 := by
  unfold Snap at h ⊢
  rw [h8, h5, h4]
  refine ⟨h.1, ?_⟩
  rcases h.2 with h | ⟨h1, h2, h3, h4⟩
  · exact Or.inl h
  · exact Or.inr ⟨h1, h2, FRel_cells (fun c hc => hf _ (by omega) (by omega)) h3, h4⟩
theorem Txt_fr {f f1 g g1 : kMem} (h : Txt f g) (h0 : f1 280 = f 280) (h1 : f1 281 = f 281) (h7 : g1 0 7 = g 0 7) (h9 : g1 0 9 = g 0 9) (h5 : g1 5 = g 5) : Txt f1 g1 := by
  unfold Txt at h ⊢
  rw [h0, h1, h7, h9, h5]
  exact h
theorem HistC_fr {B o c : Nat} {f f1 g g1 : kMem} (h : HistC B f g o c) (hf : ∀ a, 50 ≤ a → a < 275 → f1 a = f a) (h0 : f1 275 = f 275) (h3 : g1 0 3 = g 0 3) (hg : g1 3 = g 3) : HistC B f1 g1 o c := by
  obtain ⟨a1, a2, a3, a4, a5, a6⟩ := h
  refine ⟨a1, a2, by rw [h0]; exact a3, by rw [h0]; exact a4, by rw [h3]; exact a5, fun i hi => ?_⟩
  rw [row_fr hg]
  exact ⟨FRel_rm hf (Nat.mod_lt _ (by decide)) (a6 i hi).1, (a6 i hi).2⟩
theorem Pend_fr {B o c : Nat} {f f1 g g1 : kMem} (h : Pend B f g o c) (hf : Fr1 f f1) (hg : Fr2 g g1) : Pend B f1 g1 o c := by
  obtain ⟨h1, ⟨h2, h3⟩, h4, h5⟩ := h
  have hr : ∀ a, 50 ≤ a → a < 275 → f1 a = f a := fun a a1 a2 => hf a (by omega) (by omega) (by omega) (by omega)
  have e2 : g1 2 = g 2 := hg.1 2 (by decide) (by decide) (by decide) (by decide)
  refine ⟨HistC_fr h1 hr (hf 275 (by decide) (by decide) (by decide) (by decide)) (hg.2 3 (by decide) (by decide)) (hg.1 3 (by decide) (by decide) (by decide) (by decide)), ⟨?_, ?_⟩, Snap_fr h4 (fun a a1 a2 => hf a (by omega) (by omega) (by omega) (by omega)) (by rw [hf 291 (by decide) (by decide) (by decide) (by decide)]) (hg.2 5 (by decide) (by decide)) (hg.1 4 (by decide) (by decide) (by decide) (by decide)), Txt_fr h5 (hf 280 (by decide) (by decide) (by decide) (by decide)) (hf 281 (by decide) (by decide) (by decide) (by decide)) (hg.2 7 (by decide) (by decide)) (hg.2 9 (by decide) (by decide)) (hg.1 5 (by decide) (by decide) (by decide) (by decide))⟩
  · rw [e2]
    exact FRel_rm hr (Nat.mod_lt _ (by decide)) h2
  · rw [e2]
    exact h3
theorem mod9 : ∀ n, n < 30 → nI n - nI n / 9 * 9 = nI (n % 9) := by decide +kernel
theorem c_room {f : kMem} {o c : Nat} (ho : o < 9) (hc : c ≤ 8) (h1 : f 275 1 = nI o) (h2 : f 275 2 = nI c) : cf_X5_roomBehind f = some (nI ((o + c) % 9), f) := by
  unfold cf_X5_roomBehind
  rw [h1, h2, nI_add, mod9 _ (by omega)]
  rfl
theorem c_begin {f : kMem} {o c : Nat} (ho : o < 9) (hc : c ≤ 8) (h1 : f 275 1 = nI o) (h2 : f 275 2 = nI c) : cf_X5_begin f = some (0, kfc f ((o + c) % 9 + 2) 0 0 25) := by
  have h9 : (o + c) % 9 < 9 := Nat.mod_lt _ (by decide)
  unfold cf_X5_begin
  rw [c_room ho hc h1 h2]
  show kchk (kin (nI ((o + c) % 9)) 9) (kchk (kin (nI ((o + c) % 9)) 9) (some (0, kfc f (Int32.toNatClampNeg (nI ((o + c) % 9)) + 2) 0 0 25))) = _
  rw [nI_kin h9 (by decide), nI_clamp (by omega)]
  rfl
theorem kfc_fl {f : kMem} {r c : Nat} (hr : r < 9) (hc : c < 25) : kfc f (r + 2) 0 0 25 c = f c := if_neg (by omega)
theorem kfc_hi {f : kMem} {r a : Nat} (hr : r < 9) (ha : 275 ≤ a) : kfc f (r + 2) 0 0 25 a = f a := if_neg (by omega)
theorem kfc_sn {f : kMem} {r a : Nat} (ha : a < 50) : kfc f (r + 2) 0 0 25 a = f a := if_neg (by omega)
theorem kfc_rm {f : kMem} {r c : Nat} (hc : c < 25) : rm (kfc f (r + 2) 0 0 25) r c = f c := by
  show kfc f (r + 2) 0 0 25 (25 * (r + 2) + c) = f c
  unfold kfc
  rw [if_pos ⟨by omega, by omega⟩, show 25 * 0 + (25 * (r + 2) + c - 25 * (r + 2)) = c by omega]
theorem kfc_rn {f : kMem} {r r' c : Nat} (hne : r' ≠ r) (hc : c < 25) : rm (kfc f (r + 2) 0 0 25) r' c = rm f r' c := by
  show kfc f (r + 2) 0 0 25 (25 * (r' + 2) + c) = f (25 * (r' + 2) + c)
  unfold kfc
  rw [if_neg]
  omega
theorem mod_ne {o i c : Nat} (hi : i < c) (hc : c ≤ 8) : (o + i) % 9 ≠ (o + c) % 9 := by omega
theorem p_begin {B : Nat} {f g : kMem} (hN : Now B f g) (hR : Reas f g) (hH : Hist B f g) (hS : Snap B f g) (hT : Txt f g) : kO (cf_X5_begin f) (fun z => kO (cf_X12_tries g) (fun y => Now B z.2 y.2 ∧ Reas z.2 y.2 ∧ (∃ o c, Pend B z.2 y.2 o c) ∧ y.2 0 18 = 0 ∧ (∀ a, 275 ≤ a → z.2 a = f a) ∧ ∀ a, a ≠ 0 → a ≠ 2 → y.2 a = g a)) := by
  obtain ⟨o, c, h1, h2, h3, h4, h5, h6⟩ := hH
  refine kO_E (c_begin h1 h2 h3 h4) (kO_mono m_tries (fun y hy => ?_))
  obtain ⟨-, ha, h0, hc⟩ := hy
  have h9 : (o + c) % 9 < 9 := Nat.mod_lt _ (by decide)
  have hk : ∀ k, k ≠ 18 → y.2 0 k = g 0 k := fun k hk => by rw [h0, upd_ne hk]
  dsimp only
  refine ⟨⟨?_, ?_, ?_⟩, ?_, ⟨o, c, ⟨h1, h2, ?_, ?_, ?_, fun i hi => ?_⟩, ⟨?_, ?_⟩, ?_, ?_⟩, ?_, fun a h => kfc_hi h9 h, ha⟩
  · rw [ha 1 (by decide) (by decide)]
    exact FRel_cells (fun c hc => kfc_fl h9 hc) hN.1
  · rw [ha 1 (by decide) (by decide)]
    exact hN.2.1
  · rw [ha 1 (by decide) (by decide)]
    exact hN.2.2
  · obtain ⟨r, hr1, hr2, hr3, hr4⟩ := hR
    refine ⟨r, hr1, by rw [kfc_hi h9 (by decide)]; exact hr2, by rw [hk 10 (by decide)]; exact hr3, fun i hi => ?_⟩
    rw [kfc_hi h9 (by decide), kfc_hi h9 (by decide), ha 6 (by decide) (by decide), ha 7 (by decide) (by decide)]
    exact hr4 i hi
  · rw [kfc_hi h9 (by decide)]; exact h3
  · rw [kfc_hi h9 (by decide)]; exact h4
  · rw [hk 3 (by decide)]; exact h5
  · rw [row_fr (ha 3 (by decide) (by decide))]
    exact ⟨FRel_cells (fun q hq => kfc_rn (mod_ne hi h2) hq) (h6 i hi).1, (h6 i hi).2⟩
  · rw [hc, cut_Z hN.2.2]
    exact FRel_cells (fun q hq => kfc_rm hq) hN.1
  · rw [hc, cut_Z hN.2.2]
    exact hN.2.1
  · exact Snap_fr hS (fun a a1 a2 => kfc_sn a2) (by rw [kfc_hi h9 (by decide)]) (hk 5 (by decide)) (ha 4 (by decide) (by decide))
  · exact Txt_fr hT (kfc_hi h9 (by decide)) (kfc_hi h9 (by decide)) (hk 7 (by decide)) (hk 9 (by decide)) (ha 5 (by decide) (by decide))
  · rw [h0, upd_eq]
/-- what the model keeps -/
theorem m_keeps {g : kMem} {c : Nat} (hc : c ≤ 8) (h : g 0 3 = nI c) : kO (cf_X12_keeps g) (fun y => (∀ a, a ≠ 0 → a ≠ 3 → y.2 a = g a) ∧ (∀ k, k ≠ 3 → y.2 0 k = g 0 k) ∧ y.2 0 3 = nI (if c = 8 then 8 else c + 1) ∧ (∀ i, i < (if c = 8 then 7 else c) → row y.2 i = row g (if c = 8 then i + 1 else i)) ∧ row y.2 (if c = 8 then 7 else c) = cut (g 2)) := by
  unfold cf_X12_keeps
  refine kO_eq (fun h8 => ?_) (fun h8 => ?_)
  · have e : c = 8 := nI_inj (b := 8) (by omega) (by decide) (h.symm.trans h8)
    subst e
    simp only [if_true]
    refine lp_keep1 3000 0 g (by omega) (by omega) (fun f1 h1 h2 h3 => kO_mem ?_)
    have e7 : kup f1 0 3 (f1 0 3 - 1) 0 3 = nI 7 := by rw [kup_at, h1 0 (by decide), h]; rfl
    refine lp_keep2 (c := 7) (by decide) 3000 0 _ (by omega) (by omega) e7 (fun f2 h4 h5 h6 => kO_mem (kO_some ⟨fun a a0 a3 => ?_, fun k hk => ?_, ?_, fun i hi => ?_, ?_⟩))
    · show kup f2 0 3 (f2 0 3 + 1) a = _
      rw [kup_ne _ _ _ a0, h4 a a3, kup_ne _ _ _ a0, h1 a a3]
    · show kup f2 0 3 (f2 0 3 + 1) 0 k = _
      rw [kup_nk hk, h4 0 (by decide), kup_nk hk, h1 0 (by decide)]
    · show kup f2 0 3 (f2 0 3 + 1) 0 3 = _
      rw [kup_at, h4 0 (by decide), e7]
      rfl
    · refine cut_eq fun j hj => ?_
      show kup f2 0 3 (f2 0 3 + 1) 3 (313 * i + j) = g 3 (313 * (i + 1) + j)
      rw [kup_ne _ _ _ (by decide), h5 _ (by omega), kup_ne _ _ _ (by decide), h3 _ (by omega) (by omega), show 313 + (313 * i + j) = 313 * (i + 1) + j by omega]
    · refine cut_eq fun j hj => ?_
      show kup f2 0 3 (f2 0 3 + 1) 3 (313 * 7 + j) = g 2 j
      rw [kup_ne _ _ _ (by decide), h6 _ (by omega) hj, kup_ne _ _ _ (by decide), h1 2 (by decide)]
  · have e : c ≠ 8 := fun e => h8 (by rw [h, e]; rfl)
    rw [if_neg e, if_neg e]
    refine lp_keep2 (c := c) (by omega) 3000 0 _ (by omega) (by omega) h (fun f2 h4 h5 h6 => kO_mem (kO_some ⟨fun a a0 a3 => ?_, fun k hk => ?_, ?_, fun i hi => ?_, ?_⟩))
    · show kup f2 0 3 (f2 0 3 + 1) a = _
      rw [kup_ne _ _ _ a0, h4 a a3]
    · show kup f2 0 3 (f2 0 3 + 1) 0 k = _
      rw [kup_nk hk, h4 0 (by decide)]
    · show kup f2 0 3 (f2 0 3 + 1) 0 3 = _
      rw [kup_at, h4 0 (by decide), h, nI_1]
    · rw [if_neg e]
      refine cut_eq fun j hj => ?_
      show kup f2 0 3 (f2 0 3 + 1) 3 (313 * i + j) = g 3 (313 * i + j)
      rw [kup_ne _ _ _ (by decide), h5 _ (by omega)]
    · refine cut_eq fun j hj => ?_
      show kup f2 0 3 (f2 0 3 + 1) 3 (313 * c + j) = g 2 j
      rw [kup_ne _ _ _ (by decide), h6 _ (by omega) hj]
theorem c_keep {f : kMem} {o c : Nat} (ho : o < 9) (hc : c ≤ 8) (h1 : f 275 1 = nI o) (h2 : f 275 2 = nI c) : cf_X5_keep f = some (0, if c = 8 then kup f 275 1 (nI ((o + 1) % 9)) else kup f 275 2 (nI (c + 1))) := by
  unfold cf_X5_keep kle
  rw [h1, h2, nI_1, nI_1, mod9 _ (by omega)]
  by_cases h : c = 8
  · rw [if_pos h, if_pos (by rw [h]; decide)]
    rfl
  · rw [if_neg h, if_neg (fun q => h (by have := (nI_le_iff (a := 8) (b := c) (by omega) (by omega)).mp q; omega))]
    rfl
theorem p_keep {B B1 : Nat} {f g : kMem} {o c : Nat} (hP : Pend B f g o c) (hB : B ≤ B1) : kO (cf_X5_keep f) (fun z => kO (cf_X12_keeps g) (fun y => (∀ a, a ≠ 275 → z.2 a = f a) ∧ (∀ a, a ≠ 0 → a ≠ 3 → y.2 a = g a) ∧ (∀ k, k ≠ 3 → y.2 0 k = g 0 k) ∧ Hist B1 z.2 y.2 ∧ Snap B1 z.2 y.2 ∧ Txt z.2 y.2)) := by
  obtain ⟨⟨h1, h2, h3, h4, h5, h6⟩, ⟨p1, p2⟩, hS, hT⟩ := hP
  refine kO_E (c_keep h1 h2 h3 h4) (kO_mono (m_keeps h2 h5) (fun y hy => ?_))
  obtain ⟨a1, a2, a3, a4, a5⟩ := hy
  have hz : ∀ a, a ≠ 275 → (if c = 8 then kup f 275 1 (nI ((o + 1) % 9)) else kup f 275 2 (nI (c + 1))) a = f a := fun a ha => by
    split
    · exact kup_ne _ _ _ ha
    · exact kup_ne _ _ _ ha
  dsimp only
  refine ⟨hz, a1, a2, ?_, Snap_mono (Snap_fr hS (fun a b1 b2 => hz a (by omega)) (by rw [hz 291 (by decide)]) (a2 5 (by decide)) (a1 4 (by decide) (by decide))) hB, Txt_fr hT (hz 280 (by decide)) (hz 281 (by decide)) (a2 7 (by decide)) (a2 9 (by decide)) (a1 5 (by decide) (by decide))⟩
  have hr : ∀ a, 50 ≤ a → a < 275 → (if c = 8 then kup f 275 1 (nI ((o + 1) % 9)) else kup f 275 2 (nI (c + 1))) a = f a := fun a b1 b2 => hz a (by omega)
  by_cases h8 : c = 8
  · subst h8
    simp only [if_true] at a3 a4 a5 hr ⊢
    refine ⟨(o + 1) % 9, 8, Nat.mod_lt _ (by decide), by decide, kup_at, by rw [kup_nk (by decide)]; exact h4, a3, fun i hi => ?_⟩
    by_cases hi7 : i = 7
    · subst hi7
      rw [a5, show ((o + 1) % 9 + 7) % 9 = (o + 8) % 9 by omega]
      exact ⟨FRel_rm hr (Nat.mod_lt _ (by decide)) p1, Inv_mono p2 hB⟩
    · rw [a4 i (by omega), show ((o + 1) % 9 + i) % 9 = (o + (i + 1)) % 9 by omega]
      exact ⟨FRel_rm hr (Nat.mod_lt _ (by decide)) (h6 (i + 1) (by omega)).1, Inv_mono (h6 (i + 1) (by omega)).2 hB⟩
  · simp only [if_neg h8] at a3 a4 a5 hr ⊢
    refine ⟨o, c + 1, h1, by omega, by rw [kup_nk (by decide)]; exact h3, kup_at, a3, fun i hi => ?_⟩
    by_cases hi7 : i = c
    · subst hi7
      rw [a5]
      exact ⟨FRel_rm hr (Nat.mod_lt _ (by decide)) p1, Inv_mono p2 hB⟩
    · rw [a4 i (by omega)]
      exact ⟨FRel_rm hr (Nat.mod_lt _ (by decide)) (h6 i (by omega)).1, Inv_mono (h6 i (by omega)).2 hB⟩
theorem Reas_fr {f f1 g g1 : kMem} (h : Reas f g) (h7 : f1 277 = f 277) (h8 : f1 278 = f 278) (h9 : f1 279 = f 279) (k1 : g1 0 10 = g 0 10) (k6 : g1 6 = g 6) (k7 : g1 7 = g 7) : Reas f1 g1 := by
  unfold Reas at h ⊢
  rw [h7, h8, h9, k1, k6, k7]
  exact h
theorem Now_fr {B : Nat} {f f1 g g1 : kMem} (h : Now B f g) (hf : ∀ a, a < 25 → f1 a = f a) (k1 : g1 1 = g 1) : Now B f1 g1 := by
  unfold Now at h ⊢
  rw [k1]
  exact ⟨FRel_cells hf h.1, h.2⟩
theorem kbind_s {ρ : Type} {r : Int32} {f1 : kMem} {Y : Int32 → kMem → Option ρ} : kbind (some (r, f1)) Y = Y r f1 := rfl
/-- a change as a whole -/
theorem kchange {M : Nat} {E : kMem → kMem → Prop} {cC cM : kMem → Option (Int32 × kMem)} (hs : kSim M E cC cM) (hM : M ≤ 59778) {N : Nat} {f g : kMem} (hN : N < 512) (hR : kR N f g) (hE : ∀ f1 g1 : kMem, (∀ a, 275 ≤ a → f1 a = f a) → (∀ a, a ≠ 0 → a ≠ 2 → g1 a = g a) → E f1 g1) :
    kOk [4] (kbind (cf_X5_begin f) (fun _ g2 => kbind (cC g2) (fun r3 g4 => kxbind (cx_X11_settled g4 r3) (fun r5 g6 => some (0, r5, g6))))) (kbind (cf_X12_tries g) (fun _ g2 => kbind (cM g2) (fun r3 g4 => kbind (cf_X12_ends g4 r3) (fun r5 g6 => some (r5, g6))))) (kR (N + 1)) := by
  obtain ⟨hNw, hRe, hH, hS, hT⟩ := hR
  obtain ⟨⟨r1, f1⟩, e1, ⟨r2, g1⟩, e2, b1, b2, ⟨o, c, bP⟩, b18, bf, bg⟩ := p_begin hNw hRe hH hS hT
  obtain ⟨⟨r3, f2⟩, e3, ⟨r4, g2⟩, e4, d1, d2, d3, d4, d5⟩ := hs (N * 59778) f1 g1 (by omega) b1 b2 (hE f1 g1 bf bg)
  dsimp only at b1 b2 bP b18 bf bg d1 d2 d3 d4 d5
  have bP2 := Pend_fr bP d1 d2
  have h18 : g2 0 18 = 0 := by rw [d2.2 18 (by decide) (by decide)]; exact b18
  rw [e1, e2, kbind_s, kbind_s, e3, e4, kbind_s, kbind_s]
  rcases d5 with ⟨h1, h2, -⟩ | ⟨h1, h2, h3⟩
  · subst h1
    subst h2
    refine ⟨(4, 0, f2), 0, kup g2 0 18 1, rfl, rfl, Or.inr List.mem_cons_self, kup_at, (fun h => absurd h (show ¬ (4 = 0) by decide)), ?_⟩
    obtain ⟨q1, -, q2, q3⟩ := bP2
    exact ⟨⟨d4.1, Inv_mono d4.2.1 (by omega), d4.2.2⟩, Reas_fr d3 rfl rfl rfl rfl rfl rfl, Hist_mono ⟨o, c, q1⟩ (by omega), Snap_mono q2 (by omega), q3⟩
  · subst h2
    obtain ⟨⟨r5, f3⟩, e5, ⟨r6, g3⟩, e6, k1, k2, k3, k4, k5, k6⟩ := p_keep (B1 := (N + 1) * 59778) bP2 (by omega)
    dsimp only at k1 k2 k3 k4 k5 k6
    refine ⟨(0, r3, f3), r3, g3, ?_, ?_, Or.inl rfl, ?_, fun _ => rfl, ⟨?_, ?_, ?_⟩, ?_, k4, k5, k6⟩
    · have e : cx_X11_settled f2 r3 = some (0, r3, f3) := by
        unfold cx_X11_settled keq
        rw [if_neg (fun e => h1 (by rw [e]; decide)), e5]
        rfl
      rw [e]
      rfl
    · have e : cf_X12_ends g2 1 = some (g3 0 13, g3) := by
        unfold cf_X12_ends keq
        rw [if_neg (by decide), e6]
        rfl
      rw [e]
      show some (g3 0 13, g3) = _
      rw [k3 13 (by decide), h3]
    · show g3 0 18 = 0
      rw [k3 18 (by decide)]
      exact h18
    · show FRel f3 (g3 1)
      rw [k2 1 (by decide) (by decide)]
      exact FRel_cells (fun c hc => k1 c (by omega)) d4.1
    · show Inv _ (g3 1)
      rw [k2 1 (by decide) (by decide)]
      exact Inv_mono d4.2.1 (by omega)
    · show kZ (g3 1)
      rw [k2 1 (by decide) (by decide)]
      exact d4.2.2
    · exact Reas_fr d3 (k1 277 (by decide)) (k1 278 (by decide)) (k1 279 (by decide)) (k3 10 (by decide)) (k2 6 (by decide) (by decide)) (k2 7 (by decide) (by decide))
