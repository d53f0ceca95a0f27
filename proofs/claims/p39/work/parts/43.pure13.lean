/-! account -/
theorem lp_grams {f g : kMem} (hF : FRel f (g 1)) : ∀ (k u i : Nat) (x : Int32), i + k = 3 → k < u → ∃ r, cl_X2_allGrams_4 u f x (nI i) = some (r, f) ∧ cl_X12_account_165 u g x (nI i) = some (r, g)
  | 0, u + 1, i, x, h1, h2 => by
    have hi : i = 3 := by omega
    subst hi
    unfold cl_X2_allGrams_4 cl_X12_account_165
    rw [kle_t (by decide), kle_t (by decide)]
    exact ⟨x, rfl, rfl⟩
  | k + 1, u + 1, i, x, h1, h2 => by
    unfold cl_X2_allGrams_4 cl_X12_account_165
    rw [kle_f (fun q => by have := (nI_le_iff (a := 3) (by omega) (by omega)).mp q; omega), kle_f (fun q => by have := (nI_le_iff (a := 3) (by omega) (by omega)).mp q; omega), a100, show nI (100 + 3 * i) + 1 = nI (101 + 3 * i) from n100 1, kchk_t (nI_kin (i := i) (by omega) (by decide)), nI_clamp (n := i) (by omega), kchk_t (nI_kin (i := 101 + 3 * i) (by omega) (by decide)), nI_clamp (n := 101 + 3 * i) (by omega), klet_s, klet_s, klet_s, klet_s, show nI i + Int32.ofInt 1 = nI (i + 1) from nI_1 i, FRel_at hF (mcs_9 i (by omega)).2.1]
    exact lp_grams hF k u (i + 1) _ (by omega) (by omega)
theorem kp_account : kP_account kR := by
  intro N f g x hN hR
  obtain ⟨⟨hF, ⟨c0, c1, c2, c3, hI⟩, hZ⟩, -, ⟨o, c, h1, h2, h3, h4, h5, -⟩, -, n, t1, t2, t3, -⟩ := id hR
  obtain ⟨-, -, -, g3, -, -, -, hc3⟩ := id hI.1
  unfold cx_X11_account cf_X12_account
  rw [kmem_s]
  by_cases h20 : x = 0
  · exact q_yes hR (r := f 1 0) (by rw [keq_t h20]) (by rw [keq_t h20]; exact congrArg (fun q => some (q, kup g 0 18 0)) (FRel_at hF (j := 0) (a := 1) (k := 0) (by decide)))
  rw [keq_f h20, keq_f h20]
  by_cases h21 : x = 1
  · exact q_yes hR (r := f 1 1) (by rw [keq_t h21]) (by rw [keq_t h21]; exact congrArg (fun q => some (q, kup g 0 18 0)) (FRel_at hF (j := 1) (a := 1) (k := 1) (by decide)))
  rw [keq_f h21, keq_f h21]
  by_cases h22 : x = 2
  · exact q_yes hR (r := f 1 2) (by rw [keq_t h22]) (by rw [keq_t h22]; exact congrArg (fun q => some (q, kup g 0 18 0)) (FRel_at hF (j := 2) (a := 1) (k := 2) (by decide)))
  rw [keq_f h22, keq_f h22]
  by_cases h23 : x = 3
  · exact q_yes hR (r := f 18 0) (by rw [keq_t h23]) (by rw [keq_t h23]; exact congrArg (fun q => some (q, kup g 0 18 0)) (FRel_at hF (j := 3) (a := 18) (k := 0) (by decide)))
  rw [keq_f h23, keq_f h23]
  by_cases h24 : x = 4
  · obtain ⟨m, -, e1, e2⟩ := c_opens (f := f) (g := kup g 0 18 0) hc3 hF g3
    exact q_yes hR (r := nI m) (by rw [keq_t h24, e1]; rfl) (by rw [keq_t h24, e2]; rfl)
  rw [keq_f h24, keq_f h24]
  by_cases h25 : x = 5
  · exact q_yes hR (r := f 0 4) (by rw [keq_t h25]) (by rw [keq_t h25]; exact congrArg (fun q => some (q, kup g 0 18 0)) (FRel_at hF (j := 6) (a := 0) (k := 4) (by decide)))
  rw [keq_f h25, keq_f h25]
  by_cases h26 : x = 6
  · exact q_yes hR (r := f 0 5) (by rw [keq_t h26]) (by rw [keq_t h26]; exact congrArg (fun q => some (q, kup g 0 18 0)) (FRel_at hF (j := 7) (a := 0) (k := 5) (by decide)))
  rw [keq_f h26, keq_f h26]
  by_cases h27 : x = 7
  · exact q_yes hR (r := f 0 7) (by rw [keq_t h27]) (by rw [keq_t h27]; exact congrArg (fun q => some (q, kup g 0 18 0)) (FRel_at hF (j := 5) (a := 0) (k := 7) (by decide)))
  rw [keq_f h27, keq_f h27]
  by_cases h28 : x = 8
  · exact q_yes hR (r := f 0 8) (by rw [keq_t h28]) (by rw [keq_t h28]; exact congrArg (fun q => some (q, kup g 0 18 0)) (FRel_at hF (j := 4) (a := 0) (k := 8) (by decide)))
  rw [keq_f h28, keq_f h28]
  by_cases h29 : x = 9
  · obtain ⟨r, e1, e2⟩ := lp_grams (f := f) (g := kup g 0 18 0) hF 3 100 0 0 (by omega) (by omega)
    unfold cf_X2_allGrams
    exact q_yes hR (r := r) (by rw [keq_t h29, show cl_X2_allGrams_4 100 f 0 0 = some (r, f) from e1]; rfl) (by rw [keq_t h29]; exact e2)
  rw [keq_f h29, keq_f h29]
  by_cases h30 : x = 10
  · exact q_yes hR (r := f 0 9) (by rw [keq_t h30]) (by rw [keq_t h30]; exact congrArg (fun q => some (q, kup g 0 18 0)) (FRel_at hF (j := 9) (a := 0) (k := 9) (by decide)))
  rw [keq_f h30, keq_f h30]
  by_cases h31 : x = 11
  · exact q_yes hR (r := f 0 10) (by rw [keq_t h31]) (by rw [keq_t h31]; exact congrArg (fun q => some (q, kup g 0 18 0)) (FRel_at hF (j := 10) (a := 0) (k := 10) (by decide)))
  rw [keq_f h31, keq_f h31]
  by_cases h32 : x = 12
  · exact q_yes hR (r := f 0 11) (by rw [keq_t h32]) (by rw [keq_t h32]; exact congrArg (fun q => some (q, kup g 0 18 0)) (FRel_at hF (j := 11) (a := 0) (k := 11) (by decide)))
  rw [keq_f h32, keq_f h32]
  by_cases h33 : x = 13
  · exact q_yes hR (r := f 275 2) (by rw [keq_t h33]) (by rw [keq_t h33, h4, ← h5]; rfl)
  rw [keq_f h33, keq_f h33]
  by_cases h34 : x = 14
  · exact q_yes hR (r := f 280 2) (by rw [keq_t h34]) (by rw [keq_t h34, t2, ← t3]; rfl)
  rw [keq_f h34, keq_f h34]
  by_cases h35 : x = 15
  · exact q_yes hR (r := f 7 0) (by rw [keq_t h35]) (by rw [keq_t h35, h35]; exact congrArg (fun q => some (q, kup g 0 18 0)) (FRel_at hF (j := 12) (a := 7) (k := 0) (by decide)))
  rw [keq_f h35, keq_f h35]
  by_cases h36 : x = 16
  · exact q_yes hR (r := f 7 1) (by rw [keq_t h36]) (by rw [keq_t h36, h36]; exact congrArg (fun q => some (q, kup g 0 18 0)) (FRel_at hF (j := 13) (a := 7) (k := 1) (by decide)))
  rw [keq_f h36, keq_f h36]
  by_cases h37 : x = 17
  · exact q_yes hR (r := f 7 2) (by rw [keq_t h37]) (by rw [keq_t h37, h37]; exact congrArg (fun q => some (q, kup g 0 18 0)) (FRel_at hF (j := 14) (a := 7) (k := 2) (by decide)))
  rw [keq_f h37, keq_f h37]
  by_cases h38 : x = 18
  · exact q_yes hR (r := f 7 3) (by rw [keq_t h38]) (by rw [keq_t h38, h38]; exact congrArg (fun q => some (q, kup g 0 18 0)) (FRel_at hF (j := 15) (a := 7) (k := 3) (by decide)))
  rw [keq_f h38, keq_f h38]
  exact q_no hR (n := 2) (by decide) (by decide) rfl rfl
