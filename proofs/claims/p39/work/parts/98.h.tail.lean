/-! the law's end: the undos, and twice back to the snapshot -/
theorem tail_ok {m : Nat} {f : kMem} {L : List kMem} {S : kMem} {a : Int64} {x5 : Int32} (h : St (m + 2) f L S) (hA : AF S a) (h5 : S 18 0 = x5) : ∃ z, (kbind (lf_restore f) (fun r48 g49 => keq r48 x5 (kbind (lf_undo g49) (fun r50 g51 => keq r50 (-1001) (mlbind (lf_asks g51) (fun r52 g53 => mleq r52 a (kbind (lf_restore g53) (fun r54 g55 => keq r54 x5 (mlbind (lf_asks g55) (fun r56 g57 => mleq r56 a (some ((1 : Int32), g57)))) none)))) none)) none)) = some z := by
  obtain ⟨f1, e1, s1, t1⟩ := st_restore h
  obtain ⟨f2, e2, s2, t2⟩ := st_asks s1 hA t1
  obtain ⟨f3, e3, s3, t3⟩ := st_restore s2
  obtain ⟨f4, e4, s4, t4⟩ := st_asks s3 hA t3
  rw [e1, kbind_s, keq_t h5, st_undo0 s1, kbind_s, keq_t rfl, e2]
  unfold mlbind mleq
  dsimp only
  rw [if_pos rfl, e3, kbind_s, keq_t h5, e4]
  dsimp only
  rw [if_pos rfl]
  exact ⟨_, rfl⟩
theorem ul_ok {m n t0 : Nat} {S : kMem} {D T0 : List kMem} {x3 : Int64} {x5 : Int32} {w : Nat → Int64} {Y : kMem → Int32 → (Nat → Int64) → Option (Int32 × kMem)} (hY : ∀ f x, St m f D S → ∃ z, Y f x w = some z) (ht0 : T0.length = t0) (hD : D.length + t0 ≤ 8) (hn : t0 ≤ n ∧ n ≤ 12) (hw : ∀ j, j < t0 → AF (T0.getD j f0) (w (n - t0 + j))) : ∀ k t f, t ≤ t0 → t < k → St (m + t) f (D ++ T0.take t) S → ∃ z, ll_law_747 x3 x5 (nI n) (nI t0) Y k f (nI (t0 - t + 1)) w = some z := by
  intro k
  induction k with
  | zero => exact fun t f h1 h2 => absurd h2 (by omega)
  | succ k ih =>
    intro t f h1 h2 hS
    unfold ll_law_747
    cases t with
    | zero =>
      rw [klt_t ((nI_lt_iff (by omega) (by omega)).mpr (by omega))]
      rw [List.take_zero, List.append_nil] at hS
      exact hY f _ hS
    | succ u =>
      have hu : u < T0.length := by omega
      have eT : T0.take (u + 1) = T0.take u ++ [T0.getD u f0] := by
        rw [List.take_succ, List.getD_eq_getElem?_getD, List.getElem?_eq_getElem hu]
        rfl
      rw [eT, ← List.append_assoc, show m + (u + 1) = (m + u) + 1 by omega] at hS
      obtain ⟨f1, e1, s1, t1⟩ := st_undo hS
      obtain ⟨f2, e2, s2, t2⟩ := st_asks s1 (hw u (by omega)) t1
      have el : (D ++ T0.take u).length = D.length + u := by rw [List.length_append, List.length_take]; omega
      have x1 : t0 - (u + 1) + 1 = t0 - u := by omega
      rw [x1, klt_f (fun q => by have := (nI_lt_iff (by omega) (by omega)).mp q; omega), e1, kbind_s, el, nI_sub (show t0 - u ≤ t0 by omega), show (8 : Int32) = nI 8 from rfl, nI_sub (show t0 - u ≤ 8 by omega), nI_sub (show t0 - u ≤ n by omega), klt_f (fun q => by have := (nI_lt_iff (by omega) (by omega)).mp q; omega), klt_f (fun q => by have := (nI_lt_iff (by omega) (by omega)).mp q; omega), e2]
      unfold mlbind mleq
      dsimp only
      rw [kchk_t (nI_kin (by omega) (by decide)), nI_clamp (by omega), show n - (t0 - u) = n - t0 + u by omega, if_pos rfl, nI_1]
      exact ih u f2 (by omega) (by omega) s2
