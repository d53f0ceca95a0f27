/-! the loop of twelve changes -/
def Hs (L Ls P T D : List kMem) : Prop := Ls = P ++ T ∧ L = D ++ T ∧ (P = [] ∨ T.length = 8) ∧ L.length ≤ 8
theorem hs_push {L Ls P T D : List kMem} {f : kMem} (h : Hs L Ls P T D) : ∃ P' T' D', Hs (psh L f) (Ls ++ [f]) P' T' D' := by
  obtain ⟨h1, h2, h3, h4⟩ := h
  subst h1
  subst h2
  by_cases h8 : (D ++ T).length = 8
  · cases D with
    | nil =>
      have hT : T.length = 8 := h8
      cases T with
      | nil => cases hT
      | cons t T =>
        refine ⟨P ++ [t], T ++ [f], [], by simp, ?_, Or.inr (by simpa using hT), by rw [psh_len]; split <;> omega⟩
        unfold psh
        rw [if_pos h8]
        rfl
    | cons d D =>
      have hP : P = [] := h3.resolve_right (fun q => by rw [List.length_append, List.length_cons] at h8; omega)
      subst hP
      refine ⟨[], T ++ [f], D, by simp, ?_, Or.inl rfl, by rw [psh_len]; split <;> omega⟩
      unfold psh
      rw [if_pos h8]
      simp
  · have hP : P = [] := h3.resolve_right (fun q => by rw [List.length_append] at h8 h4; omega)
    subst hP
    refine ⟨[], T ++ [f], D, by simp, ?_, Or.inl rfl, by rw [psh_len]; split <;> omega⟩
    unfold psh
    rw [if_neg h8]
    simp
def ChOk : Prop := ∀ (m : Nat) (f : kMem) (L : List kMem) (S : kMem) (x : Int32), St (m + 17) f L S → ∃ r f1, lf_changes f x = some (r, f1) ∧ ((r = 0 ∧ St m f1 L S ∧ ∀ q, q < 25 → f1 q = f q) ∨ (r = 1 ∧ St m f1 (psh L f) S))
theorem lp_ok (hch : ChOk) {mE : Nat} {Z : mZ} {x3 : Int64} {x5 : Int32} {S : kMem} {Y : kMem → Int32 → Int32 → (Nat → Int64) → Option (Int32 × kMem)} (hY : ∀ (f : kMem) (L Ls P T D : List kMem) (w : Nat → Int64) (x : Int32), Hs L Ls P T D → Ls.length ≤ 12 → (∀ j, j < Ls.length → AF (Ls.getD j f0) (w j)) → St mE f L S → ∃ z, Y f (nI Ls.length) x w = some z) : ∀ (k i : Nat) (f : kMem) (L Ls P T D : List kMem) (w : Nat → Int64), i ≤ 12 → 12 < i + k → Ls.length ≤ i → Hs L Ls P T D → (∀ j, j < Ls.length → AF (Ls.getD j f0) (w j)) → St (mE + 17 * (12 - i)) f L S → ∃ z, ll_law_668 Z x3 x5 Y k f (nI Ls.length) (nI i) w = some z := by
  intro k
  induction k with
  | zero => exact fun i f L Ls P T D w h1 h2 => absurd h2 (by omega)
  | succ k ih =>
    intro i f L Ls P T D w h1 h2 h3 hH hw hS
    unfold ll_law_668
    by_cases hi : i = 12
    · subst hi
      rw [kle_t (show (12 : Int32) ≤ nI 12 from le_nI (a := 12) (i := 12) (by omega) (by omega) (by omega))]
      exact hY f L Ls P T D w _ hH h3 hw hS
    · rw [kle_f (show ¬ (12 : Int32) ≤ nI i from nle_nI (a := 12) (i := i) (by omega) (by omega) (by omega))]
      obtain ⟨a, hA⟩ := af_of (Vb_va hS.1) hS.2.1
      obtain ⟨f1, e1, s1, t1⟩ := st_asks hS hA (fun _ _ => rfl)
      have e20 : (20 : Int32) + nI i = nI (20 + i) := nI_add 20 i
      rw [show mE + 17 * (12 - i) = (mE + 17 * (12 - (i + 1))) + 17 by omega] at s1
      obtain ⟨r, f2, e2, hc⟩ := hch _ f1 L S ((mAt Z (20 + nI i)) ^^^ (nI i * 977)) s1
      have hA1 : AF f1 a := af_fl hA t1
      rw [e1]
      unfold mlbind
      dsimp only
      rw [kchk_t (decide_eq_true (by rw [e20]; exact le_nI (a := 0) (by omega) (by omega) (by omega))), e2, kbind_s, nI_1]
      rcases hc with ⟨rfl, s2, t2⟩ | ⟨rfl, s2⟩
      · obtain ⟨f3, e3, s3, t3⟩ := st_asks s2 hA1 t2
        rw [keq_t rfl, e3]
        unfold mleq
        dsimp only
        rw [if_pos rfl]
        exact ih (i + 1) f3 L Ls P T D w (by omega) (by omega) (by omega) hH hw s3
      · obtain ⟨P', T', D', hH'⟩ := hs_push (f := f1) hH
        rw [keq_f (by decide), kchk_t (nI_kin (by omega) (by decide)), nI_clamp (by omega), nI_1]
        have h9 := ih (i + 1) f2 (psh L f1) (Ls ++ [f1]) P' T' D' (vp_updL w Ls.length a) (by omega) (by omega) (by rw [List.length_append, List.length_singleton]; omega) hH' (fun j hj => ?_) s2
        · rw [List.length_append, List.length_singleton] at h9
          exact h9
        · rw [List.length_append, List.length_singleton] at hj
          rw [List.getD_eq_getElem?_getD]
          by_cases hjn : j = Ls.length
          · subst hjn
            rw [List.getElem?_append_right (Nat.le_refl _), Nat.sub_self]
            unfold vp_updL
            rw [if_pos rfl]
            exact hA1
          · rw [List.getElem?_append_left (by omega), ← List.getD_eq_getElem?_getD]
            unfold vp_updL
            rw [if_neg hjn]
            exact hw j (by omega)
