/-! undo, save, restore, append at the class's own memory -/
theorem cu_no {f : kMem} (h : HC f []) : cx_X11_undo f = some (1, 0, f) := by
  obtain ⟨o, a1, a2, a3, a4, a5⟩ := h
  unfold cx_X11_undo
  rw [a4, klt_f (by decide)]
theorem cu_yes {f F : kMem} {L : List kMem} (h : HC f (L ++ [F])) : ∃ f1, cx_X11_undo f = some (0, nI L.length, f1) ∧ (∀ q, q < 25 → f1 q = F q) ∧ HC f1 L ∧ (∀ q, 25 ≤ q → q < 50 → f1 q = f q) ∧ f1 291 = f 291 ∧ f1 280 = f 280 := by
  obtain ⟨o, a1, a2, a3, a4, a5⟩ := h
  rw [List.length_append, List.length_singleton] at a2 a4 a5
  have h9 : (o + L.length) % 9 < 9 := Nat.mod_lt _ (by decide)
  have e7 : cf_X5_takeBack f = some (0, kfc (kup f 275 2 (nI L.length)) 0 ((o + L.length) % 9 + 2) 0 25) := by
    unfold cf_X5_takeBack
    rw [a4, kle_f (show ¬ nI (L.length + 1) ≤ 0 from fun q => by have := (nI_le_iff (b := 0) (by omega) (by omega)).mp q; omega), kmem_s, nI_pred, c_room (f := kup f 275 2 (nI L.length)) a1 (by omega) (by rw [kup_nk (by decide)]; exact a3) kup_at, kbind_s, kchk_t (nI_kin h9 (by decide)), kchk_t (nI_kin h9 (by decide)), kbind_s, nI_clamp (by omega)]
  have k0 : ∀ q, q < 25 → kfc (kup f 275 2 (nI L.length)) 0 ((o + L.length) % 9 + 2) 0 25 q = rm f ((o + L.length) % 9) q := fun q hq => by
    unfold kfc
    rw [if_pos ⟨by omega, by omega⟩, show 25 * ((o + L.length) % 9 + 2) + (q - 25 * 0) = 25 * ((o + L.length) % 9 + 2) + q by omega, kup_ne _ _ _ (by omega)]
    rfl
  have k2 : ∀ a, 25 ≤ a → a ≠ 275 → kfc (kup f 275 2 (nI L.length)) 0 ((o + L.length) % 9 + 2) 0 25 a = f a := fun a ha hb => by
    unfold kfc
    rw [if_neg (by omega), kup_ne _ _ _ hb]
  have k3 : kfc (kup f 275 2 (nI L.length)) 0 ((o + L.length) % 9 + 2) 0 25 275 = upd (f 275) 2 (nI L.length) := by
    unfold kfc
    rw [if_neg (by omega), kup_eq]
  refine ⟨kfc (kup f 275 2 (nI L.length)) 0 ((o + L.length) % 9 + 2) 0 25, ?_, fun q hq => ?_, ⟨o, a1, by omega, ?_, ?_, fun i hi q hq => ?_⟩, fun q q1 q2 => k2 q q1 (by omega), k2 291 (by decide) (by decide), k2 280 (by decide) (by decide)⟩
  · unfold cx_X11_undo
    rw [a4, klt_t (show (0 : Int32) < nI (L.length + 1) from (nI_lt_iff (a := 0) (by omega) (by omega)).mpr (by omega)), e7, kbind_s, k3, upd_eq]
  · rw [k0 q hq, a5 L.length (by omega) q hq, List.getD_eq_getElem?_getD, List.getElem?_append_right (Nat.le_refl _), Nat.sub_self]
    rfl
  · exact (congrFun k3 1).trans ((upd_ne (by decide)).trans a3)
  · exact (congrFun k3 2).trans upd_eq
  · have hi9 : (o + i) % 9 < 9 := Nat.mod_lt _ (by decide)
    refine (k2 _ (by omega) (by omega)).trans ((a5 i (by omega) q hq).trans ?_)
    rw [List.getD_eq_getElem?_getD, List.getElem?_append_left hi, ← List.getD_eq_getElem?_getD]
theorem cs_save {f : kMem} {L : List kMem} (h : HC f L) : ∃ f1, cf_X11_save f = some (f 18 0, f1) ∧ (∀ q, q < 25 → f1 q = f q) ∧ HC f1 L ∧ (∀ q, q < 25 → f1 (25 + q) = f q) ∧ f1 291 8 = 1 ∧ f1 280 = f 280 := by
  obtain ⟨o, a1, a2, a3, a4, a5⟩ := h
  have k0 : ∀ c, c < 25 → kfc f 1 0 0 25 c = f c := fun c hc => if_neg (by omega)
  have k2 : ∀ a, 50 ≤ a → kfc f 1 0 0 25 a = f a := fun a ha => if_neg (by omega)
  have k1 : ∀ c, c < 25 → kfc f 1 0 0 25 (25 + c) = f c := fun c hc => by
    unfold kfc
    rw [if_pos ⟨by omega, by omega⟩, show 25 * 0 + (25 + c - 25 * 1) = c by omega]
  have kk : ∀ a, a ≠ 291 → kup (kfc f 1 0 0 25) 291 8 1 a = kfc f 1 0 0 25 a := fun a ha => kup_ne _ _ _ ha
  refine ⟨kup (kfc f 1 0 0 25) 291 8 1, ?_, fun q hq => (kk q (by omega)).trans (k0 q hq), ⟨o, a1, a2, by rw [kk 275 (by decide), k2 275 (by decide)]; exact a3, by rw [kk 275 (by decide), k2 275 (by decide)]; exact a4, fun i hi q hq => ?_⟩, fun q hq => (kk (25 + q) (by omega)).trans (k1 q hq), kup_at, by rw [kk 280 (by decide), k2 280 (by decide)]⟩
  · unfold cf_X11_save
    rw [kbind_s, kmem_s, kk 18 (by decide), k0 18 (by decide)]
  · have hi9 : (o + i) % 9 < 9 := Nat.mod_lt _ (by decide)
    exact ((kk _ (by omega)).trans (k2 _ (by omega))).trans (a5 i hi q hq)
theorem cs_restore {f : kMem} {L : List kMem} (h : HC f L) (hs : f 291 8 = 1) : ∃ f1, cx_X11_restore f = some (0, f 43 0, f1) ∧ (∀ q, q < 25 → f1 q = f (25 + q)) ∧ HC f1 [] ∧ (∀ q, 25 ≤ q → q < 50 → f1 q = f q) ∧ f1 291 = f 291 ∧ f1 280 = f 280 := by
  obtain ⟨o, a1, a2, a3, a4, a5⟩ := h
  have k0 : ∀ q, q < 25 → kup (kfc f 0 1 0 25) 275 2 0 q = f (25 + q) := fun q hq => by
    rw [kup_ne _ _ _ (by omega)]
    unfold kfc
    rw [if_pos ⟨by omega, by omega⟩, show 25 * 1 + (q - 25 * 0) = 25 + q by omega]
  have k2 : ∀ a, 25 ≤ a → a ≠ 275 → kup (kfc f 0 1 0 25) 275 2 0 a = f a := fun a ha hb => by
    rw [kup_ne _ _ _ hb]
    unfold kfc
    rw [if_neg (by omega)]
  have k3 : kup (kfc f 0 1 0 25) 275 2 0 275 = upd (f 275) 2 0 := by
    rw [kup_eq]
    unfold kfc
    rw [if_neg (by omega)]
  refine ⟨kup (kfc f 0 1 0 25) 275 2 0, ?_, k0, ⟨o, a1, by decide, (congrFun k3 1).trans ((upd_ne (by decide)).trans a3), (congrFun k3 2).trans upd_eq, fun i hi => absurd hi (by simp)⟩, fun q q1 q2 => k2 q q1 (by omega), k2 291 (by decide) (by decide), k2 280 (by decide) (by decide)⟩
  unfold cx_X11_restore
  rw [keq_f (by rw [hs]; decide), kbind_s]
  unfold cf_X5_forget
  rw [kmem_s, kbind_s, k0 18 (by decide)]
theorem ca_app {f : kMem} {n : Nat} {c : Int32} (hn : n < 80) (h : f 280 2 = nI n) : cx_X11_append f c = some (0, nI (n + 1), kup (kup f 281 n (vp_nar .char c)) 280 2 (nI (n + 1))) := by
  unfold cx_X11_append cf_X10_add
  rw [h, klt_t (show nI n < 80 from (nI_lt_iff (b := 80) (by omega) (by omega)).mpr hn), kchk_t (nI_kin hn (by decide)), nI_clamp (by omega), kmem_s, kmem_s, kbind_s, keq_f (by decide)]
  have e8 : kup f 281 n (vp_nar .char c) 280 2 = nI n := h
  rw [e8, nI_1, kup_at]
/-- what feeding a text does -/
def Fed (t : List Int32) (n : Nat) (f f1 : kMem) : Prop := (∀ a, a ≠ 280 → a ≠ 281 → f1 a = f a) ∧ (∀ k, k ≠ 2 → f1 280 k = f 280 k) ∧ f1 280 2 = nI (n + t.length) ∧ (∀ j, j < t.length → f1 281 (n + j) = t.getD j 0) ∧ ∀ j, j < n → f1 281 j = f 281 j
theorem charV : ∀ c, c < 128 → vp_nar .char (nI c) = nI c := by decide +kernel
theorem charK : ∀ c, c < 128 → kchr (nI c) = nI c := by decide +kernel
theorem cf_fed : ∀ (t : List Int32) (n N : Nat) (f g : kMem), n + t.length ≤ 80 → (∀ x, x ∈ t → ∃ c, c < 128 ∧ x = nI c) → f 280 2 = nI n → N + t.length < 512 → kR N f g → ∃ f1 g1, lf_fd t n f = some (1, f1) ∧ Fed t n f f1 ∧ kR (N + t.length) f1 g1 := by
  intro t
  induction t with
  | nil => exact fun n N f g h1 h2 h3 h4 hR => ⟨f, g, rfl, ⟨fun _ _ _ => rfl, fun _ _ => rfl, h3, fun j hj => absurd hj (by simp), fun _ _ => rfl⟩, hR⟩
  | cons x t ih =>
    intro n N f g h1 h2 h3 h4 hR
    rw [List.length_cons] at h1 h4
    obtain ⟨c, hc, rfl⟩ := h2 x List.mem_cons_self
    have e1 := ca_app (c := nI c) (show n < 80 by omega) h3
    obtain ⟨z, bb, g', z1, -, -, -, -, z6⟩ := kp_append N f g (nI c) (by omega) hR
    rw [charK c hc, e1] at z1
    obtain rfl := Option.some.inj z1
    rw [charV c hc] at e1
    dsimp only at z6
    rw [charV c hc] at z6
    obtain ⟨f1, g1, q1, ⟨b1, b2, b3, b4, b5⟩, q3⟩ := ih (n + 1) (N + 1) (kup (kup f 281 n (nI c)) 280 2 (nI (n + 1))) g' (by omega) (fun x hx => h2 x (List.mem_cons_of_mem _ hx)) kup_at (by omega) z6
    refine ⟨f1, g1, ?_, ⟨fun a a0 a1 => by rw [b1 a a0 a1, kup_ne _ _ _ a0, kup_ne _ _ _ a1], fun k hk => by rw [b2 k hk, kup_nk hk, kup_ne _ _ _ (by decide)], by rw [b3, List.length_cons]; congr 1; omega, fun j hj => ?_, fun j hj => ?_⟩, by rw [List.length_cons, show N + (t.length + 1) = N + 1 + t.length by omega]; exact q3⟩
    · unfold lf_fd lf_append
      rw [e1]
      show kbind (some (nI (n + 1), kup (kup f 281 n (nI c)) 280 2 (nI (n + 1)))) _ = _
      rw [kbind_s, keq_t (nI_1 n).symm]
      exact q1
    · cases j with
      | zero =>
        rw [Nat.add_zero, b5 n (by omega), kup_ne _ _ _ (by decide), kup_at]
        rfl
      | succ j =>
        rw [List.length_cons] at hj
        rw [show n + (j + 1) = n + 1 + j by omega, b4 j (by omega)]
        rfl
    · rw [b5 j (by omega), kup_ne _ _ _ (by decide), kup_nk (by omega)]
