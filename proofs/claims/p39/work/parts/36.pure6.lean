/-! queries: the memory of the class stays, that of the model but for what was thrown
-/
theorem kR_thr {N : Nat} {f g : kMem} {t : Int32} (h : kR N f g) : kR N f (kup g 0 18 t) := by
  obtain ⟨h1, h2, ⟨o, c, h3⟩, h4, h5⟩ := h
  exact ⟨Now_fr h1 (fun _ _ => rfl) rfl, Reas_fr h2 rfl rfl rfl rfl rfl rfl, ⟨o, c, HistC_fr h3 (fun _ _ _ => rfl) rfl rfl rfl⟩, Snap_fr h4 (fun _ _ _ => rfl) rfl rfl rfl, Txt_fr h5 rfl rfl rfl rfl rfl⟩
theorem q_yes {N : Nat} {f g : kMem} {r : Int32} {ks : List Nat} {X : Option kXr} {Y : Option (Int32 × kMem)} (hR : kR N f g) (hX : X = some (0, r, f)) (hY : Y = some (r, kup g 0 18 0)) : kOk ks X Y (kR (N + 1)) :=
  ⟨(0, r, f), r, kup g 0 18 0, hX, hY, Or.inl rfl, rfl, fun _ => rfl, kR_mono _ _ _ (kR_thr hR)⟩
theorem q_no {N n : Nat} {f g : kMem} {ks : List Nat} {X : Option kXr} {Y : Option (Int32 × kMem)} (hR : kR N f g) (hk : n ∈ ks) (hn : n ≠ 0) (hX : X = some (n, 0, f)) (hY : Y = some (0, kup (kup g 0 18 0) 0 18 (kcd ks n))) : kOk ks X Y (kR (N + 1)) :=
  ⟨(n, 0, f), 0, _, hX, hY, Or.inr hk, kup_at, fun h => absurd h hn, kR_mono _ _ _ (kR_thr (kR_thr hR))⟩
theorem kOk_mk {ks : List Nat} {X : Option kXr} {Y : Option (Int32 × kMem)} {P : kMem → kMem → Prop} {n : Nat} {r bb : Int32} {f1 g1 : kMem} (hX : X = some (n, r, f1)) (hY : Y = some (bb, g1)) (hk : n = 0 ∨ n ∈ ks) (ht : g1 0 18 = kcd ks n) (hv : n = 0 → r = bb) (hP : P f1 g1) : kOk ks X Y P := ⟨(n, r, f1), bb, g1, hX, hY, hk, ht, hv, hP⟩
theorem kp_faultPosition : kP_faultPosition kR := fun N f g hN hR => ⟨f 280 3, f, kup g 0 18 0, rfl, by
  obtain ⟨-, -, -, -, n, -, -, -, -, h⟩ := id hR
  rw [h]
  rfl, kR_mono _ _ _ (kR_thr hR)⟩
theorem kp_append : kP_append kR := by
  intro N f g x hN hR
  obtain ⟨h1, h2, ⟨o, c, h3⟩, h4, n, t1, t2, t3, t4, t5⟩ := id hR
  unfold cx_X11_append cf_X10_add cf_X12_append
  rw [kmem_s (h := kup g 0 18 0)]
  by_cases h : n = 80
  · refine q_no hR (n := 1) List.mem_cons_self (by decide) ?_ ?_
    · rw [t2, klt_f (by rw [h]; decide), kbind_s, keq_t rfl]
    · rw [keq_t (show kup g 0 18 0 0 7 = 80 by rw [kup_nk (by decide), t3, h]; rfl)]
      rfl
  · have e6 : n < 80 := by omega
    rw [t2, klt_t (show nI n < 80 from (nI_lt_iff (b := 80) (by omega) (by omega)).mpr e6), kchk_t (nI_kin e6 (by decide)), nI_clamp (by omega), keq_f (show ¬ kup g 0 18 0 0 7 = 80 from fun e => h (by rw [kup_nk (by decide), t3] at e; exact nI_inj (b := 80) (by omega) (by decide) e))]
    have e7 : kup g 0 18 0 0 7 = nI n := t3
    rw [e7, nI_1, kmem_s (h := kup (kup g 0 18 0) 0 7 (nI (n + 1))), kchk_t (nI_kin e6 (by decide)), nI_clamp (by omega)]
    refine kOk_mk (n := 0) (r := nI (n + 1)) (f1 := kup (kup f 281 n (vp_nar .char (kchr x))) 280 2 (nI (n + 1))) (bb := nI (n + 1)) (g1 := kup (kup (kup g 0 18 0) 0 7 (nI (n + 1))) 5 n (vp_nar .char (kchr x))) ?_ rfl (Or.inl rfl) rfl (fun _ => rfl) (kR_mono _ _ _ ⟨Now_fr h1 (fun a ha => by rw [kup_ne _ _ _ (by omega), kup_ne _ _ _ (by omega)]) rfl, Reas_fr h2 rfl rfl rfl rfl rfl rfl, ⟨o, c, HistC_fr h3 (fun a ha1 ha2 => by rw [kup_ne _ _ _ (by omega), kup_ne _ _ _ (by omega)]) rfl rfl rfl⟩, Snap_fr h4 (fun a ha1 ha2 => by rw [kup_ne _ _ _ (by omega), kup_ne _ _ _ (by omega)]) rfl rfl rfl, n + 1, by omega, kup_at, rfl, fun i hi => ?_, t5⟩)
    · rw [kmem_s, kmem_s, kbind_s, keq_f (by decide)]
      have e8 : kup f 281 n (vp_nar .char (kchr x)) 280 2 = nI n := t2
      rw [e8, nI_1, kup_at]
    · show kup f 281 n (vp_nar .char (kchr x)) 281 i = kup (kup (kup g 0 18 0) 0 7 (nI (n + 1))) 5 n (vp_nar .char (kchr x)) 5 i
      by_cases hi9 : i = n
      · rw [hi9, kup_at, kup_at]
      · rw [kup_nk hi9, kup_nk hi9]
        exact t4 i (by omega)
theorem kp_save : kP_save kR := by
  intro N f g hN hR
  obtain ⟨h1, h2, ⟨o, c, h3⟩, h4, h5⟩ := id hR
  obtain ⟨⟨r, g1⟩, e1, e2, e3, e4, e5⟩ := m_save h1.2.2 h4.1
  dsimp only at e2 e3 e4 e5
  have g3 : g 1 3 = f 18 0 := FRel_at h1.1 (j := 3) (a := 18) (k := 0) (by decide)
  have k0 : ∀ c, c < 25 → kfc f 1 0 0 25 c = f c := fun c hc => if_neg (by omega)
  have k2 : ∀ a, 50 ≤ a → kfc f 1 0 0 25 a = f a := fun a ha => if_neg (by omega)
  have k1 : ∀ c, c < 25 → kfc f 1 0 0 25 (25 + c) = f c := fun c hc => by
    unfold kfc
    rw [if_pos ⟨by omega, by omega⟩, show 25 * 0 + (25 + c - 25 * 1) = c by omega]
  have u0 : ∀ k, k ≠ 5 → k ≠ 18 → g1 0 k = g 0 k := fun k a b => by rw [e4, upd_ne a, upd_ne b]
  have kk : ∀ a, a ≠ 291 → kup (kfc f 1 0 0 25) 291 8 1 a = kfc f 1 0 0 25 a := fun a ha => kup_ne _ _ _ ha
  refine ⟨r, kup (kfc f 1 0 0 25) 291 8 1, g1, ?_, e1, kR_mono _ _ _ ⟨Now_fr h1 (fun a ha => by rw [kk a (by omega), k0 a ha]) (e3 1 (by decide) (by decide)), Reas_fr h2 (by rw [kk 277 (by decide), k2 277 (by decide)]) (by rw [kk 278 (by decide), k2 278 (by decide)]) (by rw [kk 279 (by decide), k2 279 (by decide)]) (u0 10 (by decide) (by decide)) (e3 6 (by decide) (by decide)) (e3 7 (by decide) (by decide)), ⟨o, c, HistC_fr h3 (fun a a1 a2 => by rw [kk a (by omega), k2 a (by omega)]) (by rw [kk 275 (by decide), k2 275 (by decide)]) (u0 3 (by decide) (by decide)) (e3 3 (by decide) (by decide))⟩, ⟨by rw [e5]; exact h1.2.2, Or.inr ⟨kup_at, by rw [e4, upd_eq], ?_, by rw [e5]; exact h1.2.1⟩⟩, Txt_fr h5 (by rw [kk 280 (by decide), k2 280 (by decide)]) (by rw [kk 281 (by decide), k2 281 (by decide)]) (u0 7 (by decide) (by decide)) (u0 9 (by decide) (by decide)) (e3 5 (by decide) (by decide))⟩⟩
  · unfold cf_X11_save
    rw [kbind_s, kmem_s, kk 18 (by decide), k0 18 (by decide), ← g3, ← e2]
  · rw [e5]
    refine FRel_cells (fun c hc => ?_) h1.1
    show kup (kfc f 1 0 0 25) 291 8 1 (25 + c) = f c
    rw [kk _ (by omega), k1 c hc]
theorem kp_undo : kP_undo kR := by
  intro N f g hN hR
  obtain ⟨h1, h2, ⟨o, c, h3⟩, h4, h5⟩ := id hR
  obtain ⟨a1, a2, a3, a4, a5, a6⟩ := id h3
  unfold cx_X11_undo cf_X12_undo
  rw [kmem_s, a4]
  have e5 : kup g 0 18 0 0 3 = nI c := a5
  rw [e5]
  by_cases h : c = 0
  · subst h
    refine q_no hR (n := 1) List.mem_cons_self (by decide) ?_ ?_
    · rw [klt_f (by decide)]
    · rw [keq_t (by decide)]
      rfl
  · obtain ⟨d, rfl⟩ : ∃ d, c = d + 1 := ⟨c - 1, by omega⟩
    rw [klt_t (show (0 : Int32) < nI (d + 1) from (nI_lt_iff (a := 0) (by omega) (by omega)).mpr (by omega)), keq_f (show ¬ nI (d + 1) = 0 from fun e => h (nI_inj (b := 0) (by omega) (by decide) e)), kmem_s, nI_pred]
    have e6 : kup (kup g 0 18 0) 0 3 (nI d) 0 3 = nI d := kup_at
    obtain ⟨⟨r, g1⟩, u1, u2, u3, u4, u5⟩ := lp_undo (c := d) (by omega) 3000 0 (kup (kup g 0 18 0) 0 3 (nI d)) (by omega) (by omega) e6
    dsimp only at u2 u3 u4 u5
    have h9 : (o + d) % 9 < 9 := Nat.mod_lt _ (by decide)
    have e7 : cf_X5_takeBack f = some (0, kfc (kup f 275 2 (nI d)) 0 ((o + d) % 9 + 2) 0 25) := by
      unfold cf_X5_takeBack
      rw [a4, kle_f (show ¬ nI (d + 1) ≤ 0 from fun q => h (by have := (nI_le_iff (b := 0) (by omega) (by omega)).mp q; omega)), kmem_s, nI_pred, c_room (f := kup f 275 2 (nI d)) a1 (by omega) (by rw [kup_nk (by decide)]; exact a3) kup_at, kbind_s, kchk_t (nI_kin h9 (by decide)), kchk_t (nI_kin h9 (by decide)), kbind_s, nI_clamp (by omega)]
    have k0 : ∀ q, q < 25 → kfc (kup f 275 2 (nI d)) 0 ((o + d) % 9 + 2) 0 25 q = rm f ((o + d) % 9) q := fun q hq => by
      unfold kfc
      rw [if_pos ⟨by omega, by omega⟩, show 25 * ((o + d) % 9 + 2) + (q - 25 * 0) = 25 * ((o + d) % 9 + 2) + q by omega, kup_ne _ _ _ (by omega)]
      rfl
    have k2 : ∀ a, 25 ≤ a → a ≠ 275 → kfc (kup f 275 2 (nI d)) 0 ((o + d) % 9 + 2) 0 25 a = f a := fun a ha hb => by
      unfold kfc
      rw [if_neg (by omega), kup_ne _ _ _ hb]
    have k3 : kfc (kup f 275 2 (nI d)) 0 ((o + d) % 9 + 2) 0 25 275 = upd (f 275) 2 (nI d) := by
      unfold kfc
      rw [if_neg (by omega), kup_eq]
    have er : g1 1 = row g d := by
      funext j
      unfold row cut
      split
      · rw [u5 j (by omega) ‹_›]
        rfl
      · rw [u4 j (by omega)]
        exact h1.2.2 j (by omega)
    have v0 : ∀ k, k ≠ 3 → k ≠ 18 → g1 0 k = g 0 k := fun k x y => by rw [u3 0 (by decide), kup_nk x, kup_nk y]
    have va : ∀ a, a ≠ 0 → a ≠ 1 → g1 a = g a := fun a x y => by rw [u3 a y, kup_ne _ _ _ x, kup_ne _ _ _ x]
    rw [e7, kbind_s]
    refine kOk_mk (n := 0) (r := nI d) (f1 := kfc (kup f 275 2 (nI d)) 0 ((o + d) % 9 + 2) 0 25) (bb := r) (g1 := g1) ?_ u1 (Or.inl rfl) ?_ (fun _ => u2.symm) (kR_mono _ _ _ ⟨⟨?_, ?_, ?_⟩, Reas_fr h2 (k2 277 (by decide) (by decide)) (k2 278 (by decide) (by decide)) (k2 279 (by decide) (by decide)) (v0 10 (by decide) (by decide)) (va 6 (by decide) (by decide)) (va 7 (by decide) (by decide)), ⟨o, d, a1, by omega, ?_, ?_, ?_, fun i hi => ?_⟩, Snap_fr h4 (fun a x y => k2 a x (by omega)) (congrFun (k2 291 (by decide) (by decide)) 8) (v0 5 (by decide) (by decide)) (va 4 (by decide) (by decide)), Txt_fr h5 (k2 280 (by decide) (by decide)) (k2 281 (by decide) (by decide)) (v0 7 (by decide) (by decide)) (v0 9 (by decide) (by decide)) (va 5 (by decide) (by decide))⟩)
    · rw [k3, upd_eq]
    · show g1 0 18 = 0
      rw [u3 0 (by decide), kup_nk (by decide), kup_at]
    · rw [er]
      exact FRel_cells (fun q hq => k0 q hq) (a6 d (by omega)).1
    · rw [er]
      exact (a6 d (by omega)).2
    · rw [er]
      exact kZ_cut
    · exact (congrFun k3 1).trans ((upd_ne (by decide)).trans a3)
    · exact (congrFun k3 2).trans upd_eq
    · rw [u3 0 (by decide)]
      exact e6
    · rw [row_fr (va 3 (by decide) (by decide))]
      exact ⟨FRel_rm (fun a x y => k2 a (by omega) (by omega)) (Nat.mod_lt _ (by decide)) (a6 i (by omega)).1, (a6 i (by omega)).2⟩
theorem kp_restore : kP_restore kR := by
  intro N f g hN hR
  obtain ⟨h1, h2, ⟨o, c, h3⟩, h4, h5⟩ := id hR
  obtain ⟨a1, a2, a3, a4, a5, a6⟩ := id h3
  unfold cx_X11_restore cf_X12_restore
  rw [kmem_s]
  have e5 : kup g 0 18 0 0 5 = g 0 5 := rfl
  rw [e5]
  rcases h4.2 with ⟨s1, s2⟩ | ⟨s1, s2, s3, s4⟩
  · refine q_no hR (n := 1) List.mem_cons_self (by decide) ?_ ?_
    · rw [keq_t s1]
    · rw [keq_t s2]
      rfl
  · rw [keq_f (by rw [s1]; decide), keq_f (by rw [s2]; decide), kbind_s]
    have k0 : ∀ q, q < 25 → kup (kfc f 0 1 0 25) 275 2 0 q = sn f q := fun q hq => by
      rw [kup_ne _ _ _ (by omega)]
      unfold kfc
      rw [if_pos ⟨by omega, by omega⟩, show 25 * 1 + (q - 25 * 0) = 25 + q by omega]
      rfl
    have k2 : ∀ a, 25 ≤ a → a ≠ 275 → kup (kfc f 0 1 0 25) 275 2 0 a = f a := fun a ha hb => by
      rw [kup_ne _ _ _ hb]
      unfold kfc
      rw [if_neg (by omega)]
    have k3 : kup (kfc f 0 1 0 25) 275 2 0 275 = upd (f 275) 2 0 := by
      rw [kup_eq]
      unfold kfc
      rw [if_neg (by omega)]
    have key : kO (cl_X12_restore_20 (fun g4 => kmem (kup g4 0 3 0) (fun g5 => some ((g5 1 3), g5))) 3000 (kup g 0 18 0) (nI 0)) (fun z => z.1 = g 4 3 ∧ z.2 1 = g 4 ∧ (∀ a, a ≠ 0 → a ≠ 1 → z.2 a = g a) ∧ z.2 0 = upd (upd (g 0) 18 0) 3 0) := by
      refine lp_restore 3000 0 _ (by omega) (by omega) (fun f1 u3 u4 u5 => kO_mem (kO_some ⟨?_, ?_, fun a x y => ?_, ?_⟩))
      · show kup f1 0 3 0 1 3 = _
        rw [kup_ne _ _ _ (by decide), u5 3 (by omega) (by omega), kup_ne _ _ _ (by decide)]
      · show kup f1 0 3 0 1 = _
        rw [kup_ne _ _ _ (by decide)]
        funext j
        by_cases hj : j < 313
        · rw [u5 j (by omega) hj, kup_ne _ _ _ (by decide)]
        · rw [u4 j (by omega), kup_ne _ _ _ (by decide), h1.2.2 j (by omega), h4.1 j (by omega)]
      · show kup f1 0 3 0 a = _
        rw [kup_ne _ _ _ x, u3 a y, kup_ne _ _ _ x]
      · show kup f1 0 3 0 0 = _
        rw [kup_eq, u3 0 (by decide), kup_eq]
    obtain ⟨⟨r, g1⟩, u1, u2, er, va, u0⟩ := key
    dsimp only at u2 er va u0
    have v0 : ∀ k, k ≠ 3 → k ≠ 18 → g1 0 k = g 0 k := fun k x y => by rw [u0, upd_ne x, upd_ne y]
    have g3 : g 4 3 = sn f 18 0 := FRel_at s3 (j := 3) (a := 18) (k := 0) (by decide)
    refine kOk_mk (n := 0) (r := r) (f1 := kup (kfc f 0 1 0 25) 275 2 0) (bb := r) (g1 := g1) ?_ u1 (Or.inl rfl) ?_ (fun _ => rfl) (kR_mono _ _ _ ⟨⟨?_, ?_, ?_⟩, Reas_fr h2 (k2 277 (by decide) (by decide)) (k2 278 (by decide) (by decide)) (k2 279 (by decide) (by decide)) (v0 10 (by decide) (by decide)) (va 6 (by decide) (by decide)) (va 7 (by decide) (by decide)), ⟨o, 0, a1, by omega, ?_, ?_, ?_, fun i hi => by omega⟩, Snap_fr h4 (fun a x y => k2 a x (by omega)) (congrFun (k2 291 (by decide) (by decide)) 8) (v0 5 (by decide) (by decide)) (va 4 (by decide) (by decide)), Txt_fr h5 (k2 280 (by decide) (by decide)) (k2 281 (by decide) (by decide)) (v0 7 (by decide) (by decide)) (v0 9 (by decide) (by decide)) (va 5 (by decide) (by decide))⟩)
    · unfold cf_X5_forget
      rw [kmem_s, kbind_s, k0 18 (by decide), ← g3, ← u2]
    · show g1 0 18 = 0
      rw [u0, upd_ne (by decide), upd_eq]
    · rw [er]
      exact FRel_cells (fun q hq => k0 q hq) s3
    · rw [er]
      exact s4
    · rw [er]
      exact h4.1
    · exact (congrFun k3 1).trans ((upd_ne (by decide)).trans a3)
    · exact (congrFun k3 2).trans upd_eq
    · rw [u0, upd_eq]
      rfl
