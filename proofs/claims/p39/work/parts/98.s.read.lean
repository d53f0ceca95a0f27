/-! the reading of a family's text, letter by letter -/
def Tt (f : kMem) (p : Nat) (l : List Int32) : Prop := f 280 1 = nI p ∧ f 280 2 = nI (p + l.length) ∧ p + l.length ≤ 80 ∧ ∀ j, j < l.length → f 281 (p + j) = l.getD j 0
theorem tt_hd {f : kMem} {p : Nat} {x : Int32} {l : List Int32} (h : Tt f p (x :: l)) : f 281 p = x := h.2.2.2 0 (by simp)
theorem tt_fr {f g : kMem} {p : Nat} {l : List Int32} (h : Tt f p l) (h0 : g 280 = f 280) (h1 : g 281 = f 281) : Tt g p l := by
  unfold Tt at h ⊢
  rw [h0, h1]
  exact h
theorem tt_nx {f : kMem} {p : Nat} {x : Int32} {l : List Int32} (h : Tt f p (x :: l)) : Tt (kup f 280 1 (nI (p + 1))) (p + 1) l := by
  obtain ⟨h1, h2, h3, h4⟩ := h
  rw [List.length_cons] at h2 h3 h4
  refine ⟨kup_at, ?_, by omega, fun j hj => ?_⟩
  · rw [kup_nk (by decide), h2]
    congr 1
    omega
  · rw [kup_ne _ _ _ (by decide), show p + 1 + j = p + (j + 1) by omega, h4 (j + 1) (by omega)]
    rfl
theorem tt_end {f : kMem} {p : Nat} (h : Tt f p []) : cf_X10_isAtEnd f = some (1, f) := by
  obtain ⟨h1, h2, -⟩ := h
  unfold cf_X10_isAtEnd
  rw [h1, h2, klt_f (by rw [List.length_nil, Nat.add_zero]; exact Int32.lt_irrefl)]
theorem tt_more {f : kMem} {p : Nat} {x : Int32} {l : List Int32} (h : Tt f p (x :: l)) : cf_X10_isAtEnd f = some (0, f) := by
  obtain ⟨h1, h2, h3, -⟩ := h
  rw [List.length_cons] at h2 h3
  unfold cf_X10_isAtEnd
  rw [h1, h2, klt_t ((nI_lt_iff (by omega) (by omega)).mpr (by omega))]
theorem tt_skip {f : kMem} {p : Nat} {x : Int32} {l : List Int32} (h : Tt f p (x :: l)) : cf_X10_skip f x = some (1, kup f 280 1 (nI (p + 1))) := by
  have h3 := h.2.2.1
  rw [List.length_cons] at h3
  unfold cf_X10_skip
  rw [tt_more h, kbind_s, keq_t rfl, h.1, kchk_t (nI_kin (by omega) (by decide)), nI_clamp (by omega), tt_hd h, keq_t rfl, kmem_s, nI_1]
theorem tt_dig {f : kMem} {p : Nat} {x : Int32} {l : List Int32} (h : Tt f p (x :: l)) (a : ¬ x < 48) (b : ¬ 57 < x) : cf_X10_isAtDigit f = some (1, f) := by
  have h3 := h.2.2.1
  have h2 := h.2.1
  rw [List.length_cons] at h3 h2
  unfold cf_X10_isAtDigit
  rw [h.1, h2, kle_f (fun q => by have := (nI_le_iff (by omega) (by omega)).mp q; omega), kchk_t (nI_kin (by omega) (by decide)), nI_clamp (by omega), tt_hd h, klt_f a, kchk_t (nI_kin (by omega) (by decide)), klt_f b]
def nodig (l : List Int32) : Prop := ∀ x l', l = x :: l' → x < 48 ∨ 57 < x
theorem tt_ndig {f : kMem} {p : Nat} {l : List Int32} (h : Tt f p l) (hl : nodig l) : cf_X10_isAtDigit f = some (0, f) := by
  have h3 := h.2.2.1
  unfold cf_X10_isAtDigit
  cases l with
  | nil => rw [h.1, h.2.1, kle_t (by rw [List.length_nil, Nat.add_zero]; exact Int32.le_refl _)]
  | cons x l =>
    have h2 := h.2.1
    rw [List.length_cons] at h3 h2
    rw [h.1, h2, kle_f (fun q => by have := (nI_le_iff (by omega) (by omega)).mp q; omega), kchk_t (nI_kin (by omega) (by decide)), nI_clamp (by omega), tt_hd h]
    rcases hl x l rfl with a | a
    · rw [klt_t a]
    · by_cases b : x < 48
      · rw [klt_t b]
      · rw [klt_f b, kchk_t (nI_kin (by omega) (by decide)), klt_t a]
theorem dv1 : ∀ a, a < 10 → kmax 0 (-1) * 10 + (nI (48 + a) - 48) = nI a := by decide +kernel
theorem dv2 : ∀ a, a < 10 → ∀ b, b < 10 → kmax 0 (nI a) * 10 + (nI (48 + b) - 48) = nI (10 * a + b) := by decide +kernel
theorem dd : ∀ a, a < 10 → ¬ nI (48 + a) < 48 ∧ ¬ 57 < nI (48 + a) := by decide +kernel
theorem ofi : (0 : Int32) + Int32.ofInt 1 = 1 ∧ (1 : Int32) + Int32.ofInt 1 = 2 := by decide
theorem tt_step {f : kMem} {p a n : Nat} {k d v : Int32} {l : List Int32} (h : Tt f p (nI (48 + a) :: l)) (ha : a < 10) (hk : ¬ k ≤ d) : cl_X10_number_4 (n + 1) f k v d = cl_X10_number_4 n (kup f 280 1 (nI (p + 1))) k (kmax 0 v * 10 + (nI (48 + a) - 48)) (d + Int32.ofInt 1) := by
  have h3 := h.2.2.1
  rw [List.length_cons] at h3
  rw [cl_X10_number_4.eq_2, kle_f hk, tt_dig h (dd a ha).1 (dd a ha).2, kbind_s, keq_f (by decide), h.1, kchk_t (nI_kin (by omega) (by decide)), nI_clamp (by omega), tt_hd h, klet_s, kmem_s, klet_s, nI_1]
theorem tt_stop {f : kMem} {p n : Nat} {k d v : Int32} {l : List Int32} (h : Tt f p l) (hl : nodig l ∨ k ≤ d) : cl_X10_number_4 (n + 1) f k v d = some (v, f) := by
  rw [cl_X10_number_4.eq_2]
  by_cases hk : k ≤ d
  · rw [kle_t hk]
  · rw [kle_f hk, tt_ndig h (hl.resolve_right hk), kbind_s, keq_t rfl]
theorem nI_km {n : Nat} (h : n < 2 ^ 31) : ¬ nI n = -1 := fun e => nI_not_neg h (by rw [e]; decide)
theorem tt_num1 {f : kMem} {p a : Nat} {k : Int32} {l : List Int32} (h : Tt f p (nI (48 + a) :: l)) (ha : a < 10) (hk : ¬ k ≤ 0) (hl : nodig l ∨ k ≤ 1) : cf_X10_number f k = some (nI a, kup f 280 1 (nI (p + 1))) := by
  unfold cf_X10_number
  rw [show (100 : Nat) = 98 + 1 + 1 from rfl, tt_step h ha hk, dv1 a ha, ofi.1]
  exact tt_stop (tt_nx h) hl
theorem tt_num2 {f : kMem} {p a b : Nat} {k : Int32} {l : List Int32} (h : Tt f p (nI (48 + a) :: nI (48 + b) :: l)) (ha : a < 10) (hb : b < 10) (hk : ¬ k ≤ 0 ∧ ¬ k ≤ 1) (hl : nodig l ∨ k ≤ 2) : cf_X10_number f k = some (nI (10 * a + b), kup f 280 1 (nI (p + 2))) := by
  unfold cf_X10_number
  rw [show (100 : Nat) = 97 + 1 + 1 + 1 from rfl, tt_step h ha hk.1, dv1 a ha, ofi.1, tt_step (tt_nx h) hb hk.2, dv2 a ha b hb, ofi.2, kup_kup]
  have h2 := tt_nx (tt_nx h)
  rw [kup_kup] at h2
  exact tt_stop h2 hl
def dgN (w : Nat) : List Int32 := if w < 10 then [nI (48 + w)] else [nI (48 + w / 10), nI (48 + w % 10)]
theorem dgt_nI : ∀ w, w < 100 → dgt (nI w) = dgN w := by decide +kernel
theorem tt_num {f : kMem} {p w : Nat} {k : Int32} {l : List Int32} (h : Tt f p (dgN w ++ l)) (hw : w < 100) (hk : ¬ k ≤ 0 ∧ ¬ k ≤ 1) (hl : nodig l) : cf_X10_number f k = some (nI w, kup f 280 1 (nI (p + (dgN w).length))) ∧ Tt (kup f 280 1 (nI (p + (dgN w).length))) (p + (dgN w).length) l := by
  unfold dgN at h ⊢
  by_cases h1 : w < 10
  · rw [if_pos h1] at h ⊢
    exact ⟨tt_num1 h h1 hk.1 (Or.inl hl), tt_nx h⟩
  · rw [if_neg h1] at h ⊢
    have h2 := tt_nx (tt_nx h)
    rw [kup_kup] at h2
    have e := tt_num2 h (by omega) (by omega) hk (Or.inl hl)
    rw [show 10 * (w / 10) + w % 10 = w by omega] at e
    exact ⟨e, h2⟩
/-- what a read text has left -/
def Fm (g : kMem) (C w : Nat) (ps : List (Nat × Nat)) : Prop := g 282 2 = nI ps.length ∧ g 282 3 = nI C ∧ g 282 4 = nI w ∧ ∀ i, i < ps.length → g 283 i = nI (ps.getD i (0, 0)).1 ∧ g 284 i = nI (ps.getD i (0, 0)).2
def prs : List (Nat × Nat) → List Int32
  | [] => []
  | q :: ps => 32 :: nI (48 + q.1) :: 120 :: nI (48 + q.2) :: prs ps
theorem nd_prs (ps : List (Nat × Nat)) : nodig (prs ps) := by
  intro x l' e
  cases ps with
  | nil => cases e
  | cons q ps =>
    obtain ⟨rfl, -⟩ := List.cons.inj e
    exact Or.inl (by decide)
theorem nd_c {x : Int32} {l : List Int32} (h : x < 48 ∨ 57 < x) : nodig (x :: l) := by
  intro y l' e
  obtain ⟨rfl, -⟩ := List.cons.inj e
  exact h
def Lo (g f : kMem) : Prop := ∀ a, a < 280 → g a = f a
theorem tt_head {f : kMem} {p C w : Nat} {ps : List (Nat × Nat)} (h : Tt f p (dgN C ++ (32 :: (dgN w ++ prs ps)))) (hC : C < 100) (hw : w < 100) : ∃ g p', cf_X3_isHeadRead f = some (1, g) ∧ Tt g p' (prs ps) ∧ Fm g C w [] ∧ Lo g f := by
  have h0 : Tt (kup f 282 2 0) p (dgN C ++ (32 :: (dgN w ++ prs ps))) := tt_fr h (kup_ne _ _ _ (by decide)) (kup_ne _ _ _ (by decide))
  obtain ⟨e1, t1⟩ := tt_num (k := 2) h0 hC (by decide) (nd_c (by decide))
  have t2 := tt_fr (g := kup (kup (kup f 282 2 0) 280 1 (nI (p + (dgN C).length))) 282 3 (nI C)) t1 (kup_ne _ _ _ (by decide)) (kup_ne _ _ _ (by decide))
  have e2 := tt_skip t2
  obtain ⟨e3, t3⟩ := tt_num (k := 3) (tt_nx t2) hw (by decide) (nd_prs ps)
  refine ⟨_, _, ?_, tt_fr t3 (kup_ne _ 4 (nI w) (show (280 : Nat) ≠ 282 by decide)) (kup_ne _ _ _ (by decide)), ⟨?_, ?_, kup_at, fun i hi => absurd hi (by simp)⟩, fun a ha => ?_⟩
  · unfold cf_X3_isHeadRead
    rw [kmem_s, e1, kbind_s, kmem_s, kup_at, keq_f (nI_km (by omega)), e2, kbind_s, keq_f (by decide), e3, kbind_s, kmem_s, kup_at, keq_f (nI_km (by omega))]
  · rw [kup_nk (by decide), kup_ne _ _ _ (by decide), kup_ne _ _ _ (by decide), kup_nk (by decide), kup_ne _ _ _ (by decide), kup_at]
    rfl
  · rw [kup_nk (by decide), kup_ne _ _ _ (by decide), kup_ne _ _ _ (by decide), kup_at]
  · rw [kup_ne _ _ _ (by omega), kup_ne _ _ _ (by omega), kup_ne _ _ _ (by omega), kup_ne _ _ _ (by omega), kup_ne _ _ _ (by omega), kup_ne _ _ _ (by omega)]
theorem tt_part {f : kMem} {p C w P n : Nat} {ps : List (Nat × Nat)} {l : List Int32} (h : Tt f p (32 :: nI (48 + P) :: 120 :: nI (48 + n) :: l)) (hP : P < 10) (hn : n < 10) (hF : Fm f C w ps) (hl : ps.length < 3) : ∃ g, cf_X3_isPartRead f = some (1, g) ∧ Tt g (p + 4) l ∧ Fm g C w (ps ++ [(P, n)]) ∧ Lo g f := by
  obtain ⟨a1, a2, a3, a4⟩ := hF
  have t1 := tt_nx h
  have e1 := tt_skip h
  have e2 := tt_num1 (k := 1) t1 hP (by decide) (Or.inr (by decide))
  have t2 := tt_nx t1
  rw [kup_kup] at e2 t2
  have t3 := tt_fr (g := kup (kup f 280 1 (nI (p + 1 + 1))) 283 ps.length (nI P)) t2 (kup_ne _ _ _ (by decide)) (kup_ne _ _ _ (by decide))
  have e3 := tt_skip t3
  have t4 := tt_nx t3
  have e4 := tt_num1 (k := 1) t4 hn (by decide) (Or.inr (by decide))
  have t5 := tt_nx t4
  rw [kup_kup] at e4 t5
  have c0 : f 282 2 = nI ps.length := a1
  have k1 : ∀ x, kup f 280 1 x 282 2 = nI ps.length := fun x => by rw [kup_ne _ _ _ (by decide)]; exact c0
  refine ⟨_, ?_, tt_fr t5 ((kup_ne _ 2 (nI (ps.length + 1)) (show (280 : Nat) ≠ 282 by decide)).trans (kup_ne _ ps.length (nI n) (show (280 : Nat) ≠ 284 by decide))) ((kup_ne _ _ _ (by decide)).trans (kup_ne _ _ _ (by decide))), ⟨?_, ?_, ?_, fun i hi => ?_⟩, fun a ha => ?_⟩
  · unfold cf_X3_isPartRead
    rw [c0, kle_f (fun q => by have := (nI_le_iff (a := 3) (by omega) (by omega)).mp q; omega), e1, kbind_s, keq_f (by decide), e2, kbind_s, k1, kchk_t (nI_kin hl (by decide)), nI_clamp (by omega), kmem_s]
    rw [kup_ne (b := 282) _ _ _ (by decide), k1, kchk_t (nI_kin hl (by decide)), nI_clamp (by omega), kup_at, keq_f (nI_km (by omega)), e3, kbind_s, keq_f (by decide), e4, kbind_s]
    rw [kup_ne (b := 282) _ _ _ (by decide), kup_ne (b := 282) _ _ _ (by decide), k1, kchk_t (nI_kin hl (by decide)), nI_clamp (by omega), kmem_s]
    rw [kup_ne (b := 282) _ _ _ (by decide), kup_ne (b := 282) _ _ _ (by decide), kup_ne (b := 282) _ _ _ (by decide), k1, nI_1, kmem_s, kup_at, show nI (ps.length + 1) - 1 = nI ps.length from nI_pred _, kchk_t (nI_kin hl (by decide)), nI_clamp (by omega), kup_ne (b := 284) _ _ _ (by decide), kup_at, keq_f (nI_km (by omega))]
  · rw [kup_at, List.length_append, List.length_singleton]
  · rw [kup_nk (by decide), kup_ne _ _ _ (by decide), kup_ne _ _ _ (by decide), kup_ne _ _ _ (by decide), kup_ne _ _ _ (by decide)]
    exact a2
  · rw [kup_nk (by decide), kup_ne _ _ _ (by decide), kup_ne _ _ _ (by decide), kup_ne _ _ _ (by decide), kup_ne _ _ _ (by decide)]
    exact a3
  · rw [List.length_append, List.length_singleton] at hi
    have hd : i < ps.length → (ps ++ [(P, n)]).getD i (0, 0) = ps.getD i (0, 0) := fun h => by rw [List.getD_eq_getElem?_getD, List.getElem?_append_left h, ← List.getD_eq_getElem?_getD]
    have hl' : (ps ++ [(P, n)]).getD ps.length (0, 0) = (P, n) := by
      rw [List.getD_eq_getElem?_getD, List.getElem?_append_right (Nat.le_refl _), Nat.sub_self]
      rfl
    refine ⟨?_, ?_⟩
    · rw [kup_ne (b := 283) _ _ _ (by decide), kup_ne (b := 283) _ _ _ (by decide), kup_ne (b := 283) _ _ _ (by decide)]
      by_cases h9 : i = ps.length
      · rw [h9, kup_at, hl']
      · rw [kup_nk h9, kup_ne (b := 283) _ _ _ (by decide), hd (by omega)]
        exact (a4 i (by omega)).1
    · rw [kup_ne (b := 284) _ _ _ (by decide)]
      by_cases h9 : i = ps.length
      · rw [h9, kup_at, hl']
      · rw [kup_nk h9, kup_ne (b := 284) _ _ _ (by decide), kup_ne (b := 284) _ _ _ (by decide), kup_ne (b := 284) _ _ _ (by decide), hd (by omega)]
        exact (a4 i (by omega)).2
  · rw [kup_ne _ _ _ (by omega), kup_ne _ _ _ (by omega), kup_ne _ _ _ (by omega), kup_ne _ _ _ (by omega), kup_ne _ _ _ (by omega)]
def tailY : kMem → Option (Int32 × kMem) := fun g6 => cj_X3_isTailRead_30 g6
theorem tt_tail {C w : Nat} : ∀ (qs ps : List (Nat × Nat)) (f : kMem) (p n : Nat), (∀ q, q ∈ qs → q.1 < 10 ∧ q.2 < 10) → Tt f p (prs qs) → Fm f C w ps → 1 ≤ ps.length → ps.length + qs.length ≤ 3 → 4 ≤ n + ps.length → ∃ g p', cl_X3_isTailRead_2 tailY n f (nI ps.length) = some (1, g) ∧ Tt g p' [] ∧ Fm g C w (ps ++ qs) ∧ Lo g f := by
  intro qs
  induction qs with
  | nil =>
    intro ps f p n hq hT hF h1 h2 h3
    obtain ⟨n', rfl⟩ : ∃ n', n = n' + 1 := ⟨n - 1, by simp only [List.length_nil] at h2; omega⟩
    have eY : tailY f = some (1, f) := by
      unfold tailY cj_X3_isTailRead_30
      rw [tt_end hT, kbind_s, kchk_t (by decide)]
    refine ⟨f, p, ?_, hT, by rw [List.append_nil]; exact hF, fun _ _ => rfl⟩
    rw [cl_X3_isTailRead_2.eq_2]
    by_cases hk : (3 : Int32) ≤ nI ps.length
    · rw [kle_t hk, eY]
    · rw [kle_f hk, tt_end hT, kbind_s, keq_f (by decide), eY]
  | cons q qs ih =>
    intro ps f p n hq hT hF h1 h2 h3
    rw [List.length_cons] at h2
    obtain ⟨n', rfl⟩ : ∃ n', n = n' + 1 := ⟨n - 1, by omega⟩
    obtain ⟨q1, q2⟩ := hq q List.mem_cons_self
    obtain ⟨g, e1, t1, m1, l1⟩ := tt_part (P := q.1) (n := q.2) hT q1 q2 hF (by omega)
    have hlen : (ps ++ [(q.1, q.2)]).length = ps.length + 1 := by rw [List.length_append, List.length_singleton]
    obtain ⟨g2, p2, e2, t2, m2, l2⟩ := ih (ps ++ [(q.1, q.2)]) g (p + 4) n' (fun x hx => hq x (List.mem_cons_of_mem _ hx)) t1 m1 (by omega) (by omega) (by omega)
    refine ⟨g2, p2, ?_, t2, by rw [List.append_assoc] at m2; exact m2, fun a ha => (l2 a ha).trans (l1 a ha)⟩
    have hk : ¬ (3 : Int32) ≤ nI ps.length := fun k => by have := (nI_le_iff (a := 3) (by omega) (by omega)).mp k; omega
    rw [cl_X3_isTailRead_2.eq_2, kle_f hk, tt_more hT, kbind_s, keq_t rfl, e1, kbind_s, keq_f (by decide), klet_s, show nI ps.length + Int32.ofInt 1 = nI (ps.length + 1) from nI_1 _, ← hlen]
    exact e2
/-- a family's text is read -/
theorem tt_fam {f : kMem} {C w : Nat} {q : Nat × Nat} {ps : List (Nat × Nat)} (h : Tt (kup f 280 1 0) 0 (dgN C ++ (32 :: (dgN w ++ prs (q :: ps))))) (hC : C < 100) (hw : w < 100) (hq : ∀ x, x ∈ q :: ps → x.1 < 10 ∧ x.2 < 10) (hl : ps.length ≤ 2) : ∃ g, cf_X3_isReadFrom f = some (1, g) ∧ Fm g C w (q :: ps) ∧ Lo g f := by
  obtain ⟨g1, p1, e1, t1, m1, l1⟩ := tt_head h hC hw
  obtain ⟨q1, q2⟩ := hq q List.mem_cons_self
  obtain ⟨g2, e2, t2, m2, l2⟩ := tt_part (P := q.1) (n := q.2) t1 q1 q2 m1 (by simp)
  obtain ⟨g3, p3, e3, t3, m3, l3⟩ := tt_tail ps [(q.1, q.2)] g2 _ 100 (fun x hx => hq x (List.mem_cons_of_mem _ hx)) t2 m2 (by simp) (by simp only [List.length_singleton]; omega) (by omega)
  refine ⟨kup g3 280 3 (-1), ?_, ?_, fun a ha => ?_⟩
  · unfold cf_X3_isReadFrom cf_X10_start
    rw [kmem_s, kbind_s, e1, kbind_s, keq_f (by decide), e2, kbind_s, keq_f (by decide)]
    unfold cf_X3_isTailRead
    have e3' : cl_X3_isTailRead_2 (fun g6 => cj_X3_isTailRead_30 g6) 100 g2 1 = some (1, g3) := e3
    rw [e3', kbind_s, keq_f (by decide)]
    unfold cj_X3_isReadFrom_34 cf_X10_end
    rw [keq_f (by decide), kmem_s, kchk_t (by decide), kbind_s, kchk_t (by decide)]
  · obtain ⟨m31, m32, m33, m34⟩ := m3
    exact ⟨by rw [kup_ne _ _ _ (by decide)]; exact m31, by rw [kup_ne _ _ _ (by decide)]; exact m32, by rw [kup_ne _ _ _ (by decide)]; exact m33, fun i hi => by rw [kup_ne _ _ _ (by decide), kup_ne _ _ _ (by decide)]; exact m34 i hi⟩
  · rw [kup_ne _ _ _ (by omega), l3 a ha, l2 a ha, l1 a ha, kup_ne _ _ _ (by omega)]
