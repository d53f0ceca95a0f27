/-! reading a family, as a whole -/
set_option maxRecDepth 20000 in
theorem tx_head {f g : kMem} {n : Nat} (h : TX f g 0 n) : ∃ r f1 g1 i1, r ≤ 1 ∧ cf_X3_isHeadRead f = some (nI r, f1) ∧ (∀ Z : kMem → Option (Int32 × kMem), kbind (cf_X12_number g 0 2) (fun r1 g2 => keq r1 0 (some (0, g2)) (kbind (cf_X12_takes g2 32) (fun r3 g4 => keq r3 0 (some (0, g4)) (kbind (cf_X12_number g4 1 3) (fun r5 g6 => keq r5 0 (some (0, g6)) (Z g6)))))) = if r = 0 then some (0, g1) else Z g1) ∧ TX f1 g1 i1 n ∧ FrF f f1 ∧ FrG g g1 ∧ (∀ j, j ≠ 0 → j ≠ 1 → g1 8 j = g 8 j) ∧ (r = 1 → f1 282 2 = nI 0 ∧ ∃ cyc wt, cyc ≤ 99 ∧ wt ≤ 999 ∧ f1 282 3 = nI cyc ∧ f1 282 4 = nI wt ∧ g1 8 0 = nI cyc ∧ g1 8 1 = nI wt) := by
  obtain ⟨t1, t2, t3, t4, t5, t6, t7⟩ := id h
  have T0 : TX (kup f 282 2 0) g 0 n := TX_F h t5 (FrF_w (by omega)) FrG_rf t1 t3
  obtain ⟨r1, v1, i1, l1, b1, b1', hv1, hv1', n1, n2⟩ := t_number (k := 0) (most := 2) T0 (by omega) (by omega)
  have n1' : cf_X10_number (kup f 282 2 0) 2 = _ := n1
  have n2' : cf_X12_number g 0 2 = _ := n2
  have T1 : TX (kup (kup (kup f 282 2 0) 280 1 (nI i1)) 282 3 (vC r1 v1)) (kup (kup g 0 8 (nI i1)) 8 0 (nI v1)) i1 n := TX_F T0 b1' (FrF_tr FrF_1 (FrF_w (by omega))) (FrG_tr FrG_0 FrG_8) (by rw [kup_ne _ _ _ (by decide), kup_at]) (by rw [kup_ne _ _ _ (by decide), kup_at])
  unfold cf_X3_isHeadRead
  rw [kmem_s, n1', kbind_s, kmem_s, kup_at]
  simp only [n2', kbind_s]
  rcases (show r1 = 0 ∨ r1 = 1 by omega) with rfl | rfl
  · exact ⟨0, _, _, i1, by omega, by rw [keq_t vC_0]; rfl, fun Z => by rw [keq_t (show nI 0 = 0 from rfl), if_pos rfl], T1, FrF_tr (FrF_w (by omega)) (FrF_tr FrF_1 (FrF_w (by omega))), FrG_tr FrG_0 FrG_8, fun j j1 j2 => by simp [kup, upd, j1], fun h => absurd h (by omega)⟩
  obtain ⟨r2, l2, b2, s1, s2⟩ := t_skip T1 32
  have T2 := TX_F T1 b2 (FrF_1 (x := nI (i1 + r2))) (FrG_0 (x := nI (i1 + r2))) kup_at kup_at
  rw [keq_f (show ¬ vC 1 v1 = -1 from nI_m1 (by omega)), s1, kbind_s]
  simp only [keq_f (show ¬ nI 1 = 0 by decide), s2, kbind_s]
  rcases (show r2 = 0 ∨ r2 = 1 by omega) with rfl | rfl
  · exact ⟨0, _, _, i1 + 0, by omega, by rw [keq_t (show nI 0 = 0 from rfl)]; rfl, fun Z => by rw [keq_t (show nI 0 = 0 from rfl), if_pos rfl], T2, FrF_tr (FrF_w (by omega)) (FrF_tr FrF_1 (FrF_tr (FrF_w (by omega)) FrF_1)), FrG_tr FrG_0 (FrG_tr FrG_8 FrG_0), fun j j1 j2 => by simp [kup, upd, j1], fun h => absurd h (by omega)⟩
  obtain ⟨r3, v3, i3, l3, b3, b3', hv3, hv3', n3, n4⟩ := t_number (k := 1) (most := 3) T2 (by omega) (by omega)
  have n3' : cf_X10_number (kup (kup (kup (kup f 282 2 0) 280 1 (nI i1)) 282 3 (vC 1 v1)) 280 1 (nI (i1 + 1))) 3 = _ := n3
  have n4' : cf_X12_number (kup (kup (kup g 0 8 (nI i1)) 8 0 (nI v1)) 0 8 (nI (i1 + 1))) 1 3 = _ := n4
  have T3 : TX (kup (kup (kup (kup (kup (kup f 282 2 0) 280 1 (nI i1)) 282 3 (vC 1 v1)) 280 1 (nI (i1 + 1))) 280 1 (nI i3)) 282 4 (vC r3 v3)) (kup (kup (kup (kup (kup g 0 8 (nI i1)) 8 0 (nI v1)) 0 8 (nI (i1 + 1))) 0 8 (nI i3)) 8 1 (nI v3)) i3 n := TX_F T2 b3' (FrF_tr FrF_1 (FrF_w (by omega))) (FrG_tr FrG_0 FrG_8) (by rw [kup_ne _ _ _ (by decide), kup_at]) (by rw [kup_ne _ _ _ (by decide), kup_at])
  rw [keq_f (show ¬ nI 1 = 0 by decide), n3', kbind_s, kmem_s, kup_at]
  simp only [keq_f (show ¬ nI 1 = 0 by decide), n4', kbind_s]
  have hF : FrF f (kup (kup (kup (kup (kup (kup f 282 2 0) 280 1 (nI i1)) 282 3 (vC 1 v1)) 280 1 (nI (i1 + 1))) 280 1 (nI i3)) 282 4 (vC r3 v3)) := FrF_tr (FrF_w (by omega)) (FrF_tr FrF_1 (FrF_tr (FrF_w (by omega)) (FrF_tr FrF_1 (FrF_tr FrF_1 (FrF_w (by omega))))))
  have hG : FrG g (kup (kup (kup (kup (kup g 0 8 (nI i1)) 8 0 (nI v1)) 0 8 (nI (i1 + 1))) 0 8 (nI i3)) 8 1 (nI v3)) := FrG_tr FrG_0 (FrG_tr FrG_8 (FrG_tr FrG_0 (FrG_tr FrG_0 FrG_8)))
  rcases (show r3 = 0 ∨ r3 = 1 by omega) with rfl | rfl
  · exact ⟨0, _, _, i3, by omega, by rw [keq_t vC_0]; rfl, fun Z => by rw [keq_t (show nI 0 = 0 from rfl), if_pos rfl], T3, hF, hG, fun j j1 j2 => by simp [kup, upd, j1, j2], fun h => absurd h (by omega)⟩
  · exact ⟨1, _, _, i3, by omega, by rw [keq_f (show ¬ vC 1 v3 = -1 from nI_m1 (by omega))]; rfl, fun Z => by rw [keq_f (show ¬ nI 1 = 0 by decide), if_neg (by omega)], T3, hF, hG, fun j j1 j2 => by simp [kup, upd, j1, j2], fun _ => ⟨by simp [kup, upd]; rfl, v1, v3, by omega, by omega, by simp [kup, upd, vC_1], by simp [kup, upd, vC_1], by simp [kup, upd], by simp [kup, upd]⟩⟩
def FamT (f g : kMem) : Prop := ∃ n cyc wt, 1 ≤ n ∧ n ≤ 3 ∧ cyc ≤ 99 ∧ wt ≤ 999 ∧ f 282 2 = nI n ∧ f 282 3 = nI cyc ∧ f 282 4 = nI wt ∧ g 8 0 = nI cyc ∧ g 8 1 = nI wt ∧ g 8 2 = nI n ∧ Parts f g n ∧ ∀ j, n ≤ j → j < 3 → g 8 (6 + j) = 0
/-- reading, with the fault's place written -/
def FrT (f f1 : kMem) : Prop := (∀ a, a ≠ 280 → a < 282 ∨ 288 ≤ a → f1 a = f a) ∧ ∀ k, k ≠ 1 → k ≠ 3 → f1 280 k = f 280 k
theorem t_endF {f g : kMem} {i n r : Nat} (h : TX f g i n) (hr : r ≤ 1) : cf_X10_end f (nI r) = some (nI r, kup f 280 3 (if r = 1 then -1 else nI i)) := by
  unfold cf_X10_end
  rcases (show r = 0 ∨ r = 1 by omega) with rfl | rfl
  · rw [keq_t (show nI 0 = 0 from rfl), if_neg (by omega), h.1]
    rfl
  · rw [keq_f (show ¬ nI 1 = 0 by decide), if_pos rfl]
    rfl
theorem FrT_e {f f1 : kMem} {x : Int32} (h : FrF f f1) : FrT f (kup f1 280 3 x) := ⟨fun a b c => by rw [kup_ne _ _ _ b, h.1 a b c], fun k b c => by rw [kup_nk c, h.2 k b]⟩
theorem FamT_e {f g : kMem} {x : Int32} (h : FamT f g) : FamT (kup f 280 3 x) g := h
theorem tx_family {f g : kMem} {n : Nat} (h2 : f 280 2 = nI n) (h3 : g 0 8 = nI 0) (h4 : g 0 7 = nI n) (h6 : n ≤ 80) (h7 : ∀ j, j < n → f 281 j = g 5 j) (hz : ∀ j, j < 9 → g 8 j = 0) : ∃ r f1 g1 i1, r ≤ 1 ∧ cf_X3_isReadFrom f = some (nI r, f1) ∧ cf_X12_isFamilyText g = some (nI r, g1) ∧ FrT f f1 ∧ FrG g g1 ∧ f1 280 3 = (if r = 1 then -1 else nI i1) ∧ g1 0 8 = nI i1 ∧ (r = 1 → FamT f1 g1) := by
  have T0 : TX (kup f 280 1 0) g 0 n := ⟨kup_at, h2, h3, h4, by omega, h6, h7⟩
  obtain ⟨r1, f1, g1, i1, l1, e1, e2, T1, F1, G1, z1, k1⟩ := tx_head T0
  unfold cf_X3_isReadFrom cf_X10_start cf_X12_isFamilyText
  rw [kmem_s, kbind_s, e1, kbind_s, e2]
  rcases (show r1 = 0 ∨ r1 = 1 by omega) with rfl | rfl
  · refine ⟨0, kup f1 280 3 (nI i1), g1, i1, by omega, ?_, by rw [if_pos rfl]; rfl, FrT_e (FrF_tr FrF_1 F1), G1, kup_at, T1.2.2.1, fun h => absurd h (by omega)⟩
    rw [keq_t (show nI 0 = 0 from rfl)]
    unfold cj_X3_isReadFrom_33 cj_X3_isReadFrom_34
    have := t_endF T1 (r := 0) (by omega)
    rw [show cf_X10_end f1 0 = _ from this]
    rfl
  obtain ⟨c1, cyc, wt, c2, c3, c4, c5, c6, c7⟩ := k1 rfl
  obtain ⟨r2, f2, g2, i2, l2, p1, p2, T2, P2, k2⟩ := t_part (c := 0) T1 (by omega) c1
  obtain ⟨q1, q2, q3, q4, q5, q6⟩ := id P2
  have p2' : ∀ Y : kMem → Int32 → Option (Int32 × kMem), cj_X12_isFamilyText_51 Y g1 0 = if r2 = 0 then some (0, g2) else Y g2 (nI 1) := p2
  rw [keq_f (show ¬ nI 1 = 0 by decide), p1, kbind_s, if_neg (by omega), cl_X12_isFamilyText_31.eq_2, keq_t rfl, p2']
  rcases (show r2 = 0 ∨ r2 = 1 by omega) with rfl | rfl
  · refine ⟨0, kup f2 280 3 (nI i2), g2, i2, by omega, ?_, by rw [if_pos rfl]; rfl, FrT_e (FrF_tr FrF_1 (FrF_tr F1 q1)), FrG_tr G1 q2, kup_at, T2.2.2.1, fun h => absurd h (by omega)⟩
    rw [keq_t (show nI 0 = 0 from rfl)]
    unfold cj_X3_isReadFrom_33 cj_X3_isReadFrom_34
    have := t_endF T2 (r := 0) (by omega)
    rw [show cf_X10_end f2 0 = _ from this]
    rfl
  obtain ⟨d1, d2⟩ := k2 rfl
  have hP1 : Parts f2 g2 1 := Parts_next (c := 0) (f := f1) (g := g1) (fun j hj => absurd hj (by omega)) (by omega) P2 d2
  obtain ⟨r3, f3, g3, i3, m, l3, w1, w2, T3, w4, w5, w6, w7, w8, w9, w10⟩ := lp_tail 2 100 99 1 i2 f2 g2 (by omega) (by omega) (by omega) (by omega) T2 d1 hP1 (fun j j1 j2 => by rw [q6 _ (by omega) (by omega), z1 _ (by omega) (by omega)]; exact hz _ (by omega))
  have w1' : cf_X3_isTailRead f2 = some (nI r3, f3) := w1
  rw [keq_f (show ¬ nI 1 = 0 by decide), w1', kbind_s, if_neg (by omega), w2]
  refine ⟨r3, kup f3 280 3 (if r3 = 1 then -1 else nI i3), g3, i3, l3, ?_, rfl, FrT_e (FrF_tr FrF_1 (FrF_tr F1 (FrF_tr q1 w4))), FrG_tr G1 (FrG_tr q2 w5), kup_at, T3.2.2.1, fun hr => ?_⟩
  · unfold cj_X3_isReadFrom_33 cj_X3_isReadFrom_34
    rcases (show r3 = 0 ∨ r3 = 1 by omega) with rfl | rfl
    · rw [keq_t (show nI 0 = 0 from rfl), show cf_X10_end f3 0 = _ from t_endF T3 (r := 0) (by omega)]
      rfl
    · rw [keq_f (show ¬ nI 1 = 0 by decide), show cf_X10_end f3 1 = _ from t_endF T3 (r := 1) (by omega)]
      rfl
  · obtain ⟨x1, x2, x3, x4, x5, x6⟩ := w10 hr
    exact FamT_e ⟨m, cyc, wt, x2, x3, c2, c3, x1, by rw [w6, q3]; exact c4, by rw [w7, q4]; exact c5, by rw [w8, q6 _ (by omega) (by omega)]; exact c6, by rw [w9, q6 _ (by omega) (by omega)]; exact c7, x4, x5, x6⟩
