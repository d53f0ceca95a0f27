/-! the three families, the settings -/
theorem okP_mem {S : Nat} {ps : List (Nat × Nat)} (h : okP S ps) : ∀ x, x ∈ ps → x.1 < 4 ∧ 1 ≤ x.2 ∧ x.2 < 10 := by
  intro x hx
  obtain ⟨j, hj, rfl⟩ := List.getElem_of_mem hx
  have h9 := h j hj
  rw [List.getD_eq_getElem?_getD, List.getElem?_eq_getElem hj, Option.getD_some] at h9
  exact ⟨by have := h9.1; omega, h9.2⟩
theorem okP_ne {S : Nat} {ps : List (Nat × Nat)} (h : okP S ps) (hl : ps.length ≤ 3) : ∀ i j, j < i → i < ps.length → (ps.getD j (0, 0)).1 ≠ (ps.getD i (0, 0)).1 := by
  intro i j hj hi
  rw [(h j (by omega)).1, (h i hi).1]
  omega
theorem mk_told {m C w K S : Nat} {f : kMem} {L : List kMem} {ps : List (Nat × Nat)} (h : Mk (m + 17) f L 4 4 K) (hC : 1 ≤ C ∧ C < 10) (hw : 1 ≤ w ∧ w < 100) (hl : 1 ≤ ps.length ∧ ps.length ≤ 3) (ho : okP S ps) (hK : K < 6) : ∃ f1 L1, lf_told ((([] ++ dgN C) ++ [nI 32]) ++ dgN w ++ prs ps) f = some (nI K, f1) ∧ Mk m f1 L1 4 4 (K + 1) := by
  obtain ⟨hP, h0, h1, h2, h5, hf⟩ := h
  cases ps with
  | nil => exact absurd hl.1 (by simp)
  | cons q ps =>
    have h3 : (q :: ps).length ≤ 3 := hl.2
    rw [List.length_cons] at hl
    obtain ⟨f1, e, p1, p2, p3, p4, p5, p6⟩ := xf_told (q := q) (ps := ps) (t := (([] ++ dgN C) ++ [nI 32]) ++ dgN w ++ prs (q :: ps)) hP (by simp only [List.append_assoc, List.cons_append, List.nil_append]; rfl) hC hw (by omega) (okP_mem ho) (okP_ne ho h3) h1 h2 hK
    refine ⟨f1, _, e, p1, p2.trans h0, p3.trans h1, p4, fun _ => ?_, fun a a0 a1 a2 a3 a4 a5 a6 => (p6 a a0 a1 a4 a5 a6).trans (hf a a0 a1 a2 a3 a4 a5 a6)⟩
    rw [p5]
    by_cases hk : K = 0
    · subst hk
      exact ⟨w, hw.2, upd_eq⟩
    · rw [upd_ne (fun e => hk e.symm)]
      exact h5 (by omega)
theorem mk_l72 {ρ : Type} {P : ρ → Prop} {Z : mZ} {Y : kMem → Int32 → Option ρ} {m : Nat} (hY : ∀ f1 L1, Mk m f1 L1 4 4 3 → ∃ z, Y f1 (nI 3) = some z ∧ P z) : ∀ (k K n : Nat) (f : kMem) (L : List kMem), K + k = 3 → k < n → Mk (m + 17 * k) f L 4 4 K → ∃ z, ll_makes_72 Z Y n f (nI K) = some z ∧ P z := by
  intro k
  induction k with
  | zero =>
    intro K n f L hc hn h
    obtain ⟨n, rfl⟩ : ∃ n', n = n' + 1 := ⟨n - 1, by omega⟩
    obtain rfl : K = 3 := by omega
    rw [ll_makes_72.eq_2, kle_t (show (3 : Int32) ≤ nI 3 by decide)]
    exact hY f L h
  | succ k ih =>
    intro K n f L hc hn h
    obtain ⟨n, rfl⟩ : ∃ n', n = n' + 1 := ⟨n - 1, by omega⟩
    obtain ⟨a, ha, ea⟩ := some_nI (mAt Z (8 + nI K)) 9 (by decide) (by decide)
    obtain ⟨b, hb, eb⟩ := some_nI (mAt Z (8 + nI K) >>> ((2 : Int32) &&& 31)) 99 (by decide) (by decide)
    obtain ⟨d, hd, ed⟩ := some_nI (mAt Z (8 + nI K) >>> ((3 : Int32) &&& 31)) 3 (by decide) (by decide)
    obtain ⟨S, hS, eS⟩ := some_nI (mAt Z (8 + nI K) >>> ((4 : Int32) &&& 31)) 4 (by decide) (by decide)
    have ea' : mSome (mAt Z (8 + nI K)) 9 = nI a := ea
    have eb' : mSome (mAt Z (8 + nI K) >>> ((2 : Int32) &&& 31)) 99 = nI b := eb
    have ed' : mSome (mAt Z (8 + nI K) >>> ((3 : Int32) &&& 31)) 3 = nI d := ed
    have l1 : (dgN (a + 1)).length = 1 := by
      unfold dgN
      rw [if_pos (by omega)]
      rfl
    have l2 := (dgN_l (w := b + 1) (by omega)).1
    rw [ll_makes_72.eq_2, kle_f (show ¬ (3 : Int32) ≤ nI K from fun k => by have := (nI_le_iff (a := 3) (by omega) (by omega)).mp k; omega), kchk_t (show decide ((0 : Int32) ≤ 8 + nI K) = true by rw [show (8 : Int32) + nI K = nI (8 + K) from nI_add 8 K]; exact ge0 (by omega)), ea', eb', ed', one_nI, one_nI, one_nI, dgt_nI _ (by omega), dgt_nI _ (by omega)]
    rw [kchk_t (decide_eq_true (by simp only [List.length_nil]; omega)), kchk_t (in100 (by omega)), kchk_t (decide_eq_true (by simp only [List.length_append, List.length_nil]; omega)), kchk_t (decide_eq_true (by simp only [List.length_append, List.length_cons, List.length_nil]; omega)), kchk_t (in100 (by omega))]
    obtain ⟨ps, q1, q2, q3⟩ := l141 (x2 := nI K) (x3 := mAt Z (8 + nI K)) (Y := fun g45 x6_48 t51 => kbind (lf_told t51 g45) (fun r58 g59 => keq r58 (nI K) (ll_makes_72 Z Y n g59 (nI K + 1)) none)) (t0 := (([] ++ dgN (a + 1)) ++ [nI 32]) ++ dgN (b + 1)) (by simp only [List.length_append, List.length_cons, List.length_nil]; omega) (S := S) (q := d + 1) eS hS (by omega) (f := f) (d + 1) 4 [] (by simp) (by omega) (fun j hj => absurd hj (by simp))
    have e9 : (([] ++ dgN (a + 1)) ++ [nI 32]) ++ dgN (b + 1) ++ prs [] = (([] ++ dgN (a + 1)) ++ [nI 32]) ++ dgN (b + 1) := List.append_nil _
    rw [e9] at q3
    obtain ⟨f1, L1, e1, h1⟩ := mk_told (m := m + 17 * k) (C := a + 1) (w := b + 1) (S := S) h (by omega) (by omega) (by omega) q2 (by omega)
    obtain ⟨z, z1, z2⟩ := ih (K + 1) n f1 L1 (by omega) (by omega) h1
    refine ⟨z, Eq.trans q3 ?_, z2⟩
    show kbind (lf_told ((([] ++ dgN (a + 1)) ++ [nI 32]) ++ dgN (b + 1) ++ prs ps) f) (fun r58 g59 => keq r58 (nI K) (ll_makes_72 Z Y n g59 (nI K + 1)) none) = some z
    rw [e1, kbind_s, keq_t rfl, nI_1]
    exact z1
theorem mk_z2 {ρ : Type} {P : ρ → Prop} {Z : mZ} {Y : kMem → Int32 → Option ρ} {m : Nat} {f : kMem} {L : List kMem} (h : Mk (m + 4) f L 0 0 0) (hY : ∀ f1 L1, Mk m f1 L1 4 0 0 → ∃ z, Y f1 (nI 4) = some z ∧ P z) : ∃ z, ll_makes_2 Z Y 5 f 0 = some z ∧ P z := by
  obtain ⟨z, e, p⟩ := mk_l2 (Z := Z) hY 4 0 5 f L (by decide) (by decide) h
  exact ⟨z, e, p⟩
theorem mk_z35 {ρ : Type} {P : ρ → Prop} {Z : mZ} {Y : kMem → Int32 → Option ρ} {m : Nat} {f : kMem} {L : List kMem} (h : Mk (m + 4) f L 4 0 0) (hY : ∀ f1 L1, Mk m f1 L1 4 4 0 → ∃ z, Y f1 (nI 4) = some z ∧ P z) : ∃ z, ll_makes_35 Z Y 5 f 0 = some z ∧ P z := by
  obtain ⟨z, e, p⟩ := mk_l35 (Z := Z) hY 4 0 5 f L (by decide) (by decide) h
  exact ⟨z, e, p⟩
theorem mk_z72 {ρ : Type} {P : ρ → Prop} {Z : mZ} {Y : kMem → Int32 → Option ρ} {m : Nat} {f : kMem} {L : List kMem} (h : Mk (m + 17 * 3) f L 4 4 0) (hY : ∀ f1 L1, Mk m f1 L1 4 4 3 → ∃ z, Y f1 (nI 3) = some z ∧ P z) : ∃ z, ll_makes_72 Z Y 4 f 0 = some z ∧ P z := by
  obtain ⟨z, e, p⟩ := mk_l72 (Z := Z) hY 3 0 4 f L (by decide) (by decide) h
  exact ⟨z, e, p⟩
/-- counts made, settings s, the rest as at the start -/
def Mt (m : Nat) (f : kMem) (L : List kMem) (s : Nat → Int32) : Prop := Pv m f L ∧ f 1 0 = 4 ∧ f 1 1 = 4 ∧ f 1 2 = 3 ∧ (∃ w, w < 100 ∧ f 5 0 = nI w) ∧ f 7 = s ∧ ∀ q, q < 25 → q ≠ 1 → q ≠ 2 → q ≠ 3 → q ≠ 4 → q ≠ 5 → q ≠ 6 → q ≠ 7 → f q = f0 q
theorem mt_of {m : Nat} {f : kMem} {L : List kMem} (h : Mk m f L 4 4 3) : Mt m f L (f0 7) := by
  obtain ⟨hP, h0, h1, h2, h5, hf⟩ := h
  exact ⟨hP, h0, h1, h2, h5 (by omega), hf 7 (by decide) (by decide) (by decide) (by decide) (by decide) (by decide) (by decide), fun q a0 a1 a2 a3 a4 a5 a6 _ => hf q a0 a1 a2 a3 a4 a5 a6⟩
theorem cn_set {f : kMem} {i : Nat} (hi : i < 4) {v : Int32} (h1 : ¬ v < kst 1 i) (h2 : ¬ kst 2 i < v) : cf_X0_changeSetting f (nI i) v = some (f 7 i, kup f 7 i v) := by
  unfold cf_X0_changeSetting cf_X11_isWithin
  rw [klt_f (nI_not_neg (by omega)), klt_f (show ¬ (3 : Int32) < nI i from fun k => by have := (nI_lt_iff (a := 3) (by omega) (by omega)).mp k; omega), kbind_s, keq_f (by decide), kchk_t (nI_kin hi (by decide)), kchk_t (nI_kin hi (by decide)), nI_clamp (by omega), klt_f h1, klt_f h2, kbind_s, keq_f (by decide), kchk_t (nI_kin hi (by decide)), klet_s, kchk_t (nI_kin hi (by decide)), kmem_s]
theorem mt_set {m i : Nat} {f : kMem} {L : List kMem} {s : Nat → Int32} (h : Mt (m + 1) f L s) (hi : i < 4) {v : Int32} (h1 : ¬ v < kst 1 i) (h2 : ¬ kst 2 i < v) (hs : s i ≠ -1) : ∃ f1 L1, lf_set f (nI i) v = some (s i, f1) ∧ Mt m f1 L1 (upd s i v) := by
  obtain ⟨hP, c0, c1, c2, c5, c7, hf⟩ := h
  obtain ⟨r, f1, f2, e, -, hP1, ⟨rfl, q0⟩, hk⟩ := xc_yes (xc_set hP (nI i) v) (P := fun r f2 => r = s i ∧ ∀ q, q < 25 → f2 q = kup f 7 i v q) (fun f1 b1 _ => by
    have e7 : f1 7 = s := (b1 7 (by decide)).trans c7
    refine ⟨_, _, cn_set hi h1 h2, by rw [e7]; exact hs, by rw [e7], fun q hq => ?_⟩
    by_cases h7 : q = 7
    · subst h7
      rw [kup_eq, kup_eq, b1 7 (by decide)]
    · rw [kup_ne _ _ _ h7, kup_ne _ _ _ h7, b1 q hq])
  have k : ∀ q, q < 25 → q ≠ 7 → f1 q = f q := fun q hq h7 => (hk q (by omega)).trans ((q0 q hq).trans (kup_ne _ _ _ h7))
  refine ⟨f1, _, e, hP1, by rw [k 1 (by decide) (by decide)]; exact c0, by rw [k 1 (by decide) (by decide)]; exact c1, by rw [k 1 (by decide) (by decide)]; exact c2, by rw [k 5 (by decide) (by decide)]; exact c5, ?_, fun q a0 a1 a2 a3 a4 a5 a6 a7 => (k q a0 a7).trans (hf q a0 a1 a2 a3 a4 a5 a6 a7)⟩
  rw [hk 7 (by decide), q0 7 (by decide), kup_eq, c7]
theorem mt_4 {Z : mZ} {m : Nat} {f : kMem} {L : List kMem} (h : Mt (m + 4) f L (f0 7)) : ∃ z, (kbind (lf_set f 0 (60 + (mSome (mAt Z 12) 300))) (fun r64 g65 => keq r64 480 (kbind (lf_set g65 1 (mSome (mAt Z 13) 90)) (fun r66 g67 => keq r66 60 (kbind (lf_set g67 2 (mSome (mAt Z 14) 6)) (fun r68 g69 => keq r68 2 (kbind (lf_set g69 3 (mSome (mAt Z 15) 40)) (fun r70 g71 => keq r70 10 (some ((1 : Int32), g71)) none)) none)) none)) none)) = some z ∧ z.1 = 1 ∧ ∃ L1 s a b, Mt m z.2 L1 s ∧ s 1 = nI a ∧ a < 90 ∧ s 3 = nI b ∧ b < 40 := by
  obtain ⟨a0, h0, e0⟩ := some_nI (mAt Z 12) 300 (by decide) (by decide)
  obtain ⟨a1, h1, e1⟩ := some_nI (mAt Z 13) 90 (by decide) (by decide)
  obtain ⟨a2, h2, e2⟩ := some_nI (mAt Z 14) 6 (by decide) (by decide)
  obtain ⟨a3, h3, e3⟩ := some_nI (mAt Z 15) 40 (by decide) (by decide)
  have e0' : (60 : Int32) + mSome (mAt Z 12) 300 = nI (60 + a0) := by
    rw [show mSome (mAt Z 12) 300 = nI a0 from e0]
    exact nI_add 60 a0
  have e1' : mSome (mAt Z 13) 90 = nI a1 := e1
  have e2' : mSome (mAt Z 14) 6 = nI a2 := e2
  have e3' : mSome (mAt Z 15) 40 = nI a3 := e3
  have gt : ∀ {x k : Nat}, x < 10000 → k < 10000 → k ≤ x → ¬ nI x < nI k := fun h1 h2 h3 k => by have := (nI_lt_iff (by omega) (by omega)).mp k; omega
  obtain ⟨f1, L1, q1, t1⟩ := mt_set (m := m + 3) (i := 0) h (by decide) (v := nI (60 + a0)) (gt (k := 60) (by omega) (by omega) (by omega)) (gt (x := 9999) (by omega) (by omega) (by omega)) (by decide)
  obtain ⟨f2, L2, q2, t2⟩ := mt_set (m := m + 2) (i := 1) t1 (by decide) (v := nI a1) (gt (k := 0) (by omega) (by omega) (by omega)) (gt (x := 999) (by omega) (by omega) (by omega)) (by rw [upd_ne (by decide)]; decide)
  obtain ⟨f3, L3, q3, t3⟩ := mt_set (m := m + 1) (i := 2) t2 (by decide) (v := nI a2) (gt (k := 0) (by omega) (by omega) (by omega)) (gt (x := 5) (by omega) (by omega) (by omega)) (by rw [upd_ne (by decide), upd_ne (by decide)]; decide)
  obtain ⟨f4, L4, q4, t4⟩ := mt_set (m := m) (i := 3) t3 (by decide) (v := nI a3) (gt (k := 0) (by omega) (by omega) (by omega)) (gt (x := 99) (by omega) (by omega) (by omega)) (by rw [upd_ne (by decide), upd_ne (by decide), upd_ne (by decide)]; decide)
  have q1' : lf_set f 0 (nI (60 + a0)) = some (f0 7 0, f1) := q1
  have q2' : lf_set f1 1 (nI a1) = some (upd (f0 7) 0 (nI (60 + a0)) 1, f2) := q2
  have q3' : lf_set f2 2 (nI a2) = some (upd (upd (f0 7) 0 (nI (60 + a0))) 1 (nI a1) 2, f3) := q3
  have q4' : lf_set f3 3 (nI a3) = some (upd (upd (upd (f0 7) 0 (nI (60 + a0))) 1 (nI a1)) 2 (nI a2) 3, f4) := q4
  refine ⟨(1, f4), ?_, rfl, L4, _, a1, a3, t4, ?_, h1, upd_eq, h3⟩
  · rw [e0', q1', kbind_s, keq_t (by decide), e1', q2', kbind_s, keq_t (by rw [upd_ne (by decide)]; decide), e2', q3', kbind_s, keq_t (by rw [upd_ne (by decide), upd_ne (by decide)]; decide), e3', q4', kbind_s, keq_t (by rw [upd_ne (by decide), upd_ne (by decide), upd_ne (by decide)]; decide)]
  · rw [upd_ne (by decide), upd_ne (by decide), upd_eq]
def MP (m : Nat) (z : Int32 × kMem) : Prop := z.1 = 1 ∧ ∃ L1 s a b, Mt m z.2 L1 s ∧ s 1 = nI a ∧ a < 90 ∧ s 3 = nI b ∧ b < 40
theorem mk_makes {Z : mZ} {m : Nat} {f : kMem} {L : List kMem} (h : Mk (m + 4 + 17 * 3 + 4 + 4) f L 0 0 0) : ∃ z, lf_makes Z f = some z ∧ MP m z := by
  unfold lf_makes
  refine mk_z2 h (fun f1 L1 h1 => ?_)
  refine mk_z35 h1 (fun f2 L2 h2 => ?_)
  refine mk_z72 h2 (fun f3 L3 h3 => ?_)
  exact mt_4 (mt_of h3)
