/-! reading a family -/
def PF (f f1 g g1 : kMem) (c : Nat) : Prop := FrF f f1 ∧ FrG g g1 ∧ f1 282 3 = f 282 3 ∧ f1 282 4 = f 282 4 ∧ (∀ j, j ≠ c → f1 283 j = f 283 j ∧ f1 284 j = f 284 j) ∧ ∀ j, j ≠ 3 + c → j ≠ 6 + c → g1 8 j = g 8 j
set_option maxRecDepth 20000 in
theorem t_part {f g : kMem} {i n c : Nat} (h : TX f g i n) (hc : c < 3) (hcnt : f 282 2 = nI c) : ∃ r f1 g1 i1, r ≤ 1 ∧ cf_X3_isPartRead f = some (nI r, f1) ∧ (∀ Y : kMem → Int32 → Option (Int32 × kMem), cj_X12_isFamilyText_51 Y g (nI c) = if r = 0 then some (0, g1) else Y g1 (nI (c + 1))) ∧ TX f1 g1 i1 n ∧ PF f f1 g g1 c ∧ (r = 1 → f1 282 2 = nI (c + 1) ∧ ∃ p e, p ≤ 9 ∧ e ≤ 9 ∧ f1 283 c = nI p ∧ g1 8 (3 + c) = nI p ∧ f1 284 c = nI e ∧ g1 8 (6 + c) = nI e) := by
  have hk : kin (nI c) 3 = true := nI_kin hc (by decide)
  have hcl : (nI c).toNatClampNeg = c := nI_clamp (by omega)
  have a3 : (3 : Int32) + nI c = nI (3 + c) := nI_add 3 c
  have a6 : (6 : Int32) + nI c = nI (6 + c) := nI_add 6 c
  have hle : ¬ (3 : Int32) ≤ nI c := fun q => by have := (nI_le_iff (a := 3) (by omega) (by omega)).mp q; omega
  obtain ⟨r1, l1, b1, s1, s2⟩ := t_skip h 32
  have T1 : TX (kup f 280 1 (nI (i + r1))) (kup g 0 8 (nI (i + r1))) (i + r1) n := TX_F h b1 FrF_1 FrG_0 kup_at kup_at
  unfold cf_X3_isPartRead cj_X12_isFamilyText_51
  rw [hcnt, kle_f hle, s1, s2, kbind_s]
  rcases (show r1 = 0 ∨ r1 = 1 by omega) with rfl | rfl
  · refine ⟨0, kup f 280 1 (nI (i + 0)), kup g 0 8 (nI (i + 0)), i + 0, by omega, by rw [keq_t (show nI 0 = 0 from rfl)]; rfl, fun Y => by rw [kbind_s, keq_t (show nI 0 = 0 from rfl), if_pos rfl], T1, ⟨FrF_1, FrG_0, rfl, rfl, fun j hj => ⟨rfl, rfl⟩, fun j _ _ => rfl⟩, fun h => absurd h (by omega)⟩
  obtain ⟨r2, v2, i2, l2, b2, b2', hv2, hv2', n1, n2⟩ := t_number (k := 3 + c) (most := 1) T1 (by omega) (by omega)
  have n1' : cf_X10_number (kup f 280 1 (nI (i + 1))) 1 = _ := n1
  have n2' : cf_X12_number (kup g 0 8 (nI (i + 1))) (nI (3 + c)) 1 = _ := n2
  have q1 : ∀ A, kup f 280 1 A 282 2 = nI c := fun _ => hcnt
  have q3 : ∀ A B C, kup (kup (kup f 280 1 A) 280 1 B) 283 c C 282 2 = nI c := fun _ _ _ => hcnt
  have T3 : TX (kup (kup (kup f 280 1 (nI (i + 1))) 280 1 (nI i2)) 283 c (vC r2 v2)) (kup (kup (kup g 0 8 (nI (i + 1))) 0 8 (nI i2)) 8 (3 + c) (nI v2)) i2 n := TX_F T1 b2' (FrF_tr FrF_1 (FrF_w (by omega))) (FrG_tr FrG_0 FrG_8) (by rw [kup_ne _ _ _ (by decide), kup_at]) (by rw [kup_ne _ _ _ (by decide), kup_at])
  rw [keq_f (show ¬ nI 1 = 0 by decide), n1', kbind_s, q1, kchk_t hk, hcl, kmem_s, q3, kchk_t hk, hcl, kup_at, a3]
  simp only [kbind_s, keq_f (show ¬ nI 1 = 0 by decide), n2']
  rcases (show r2 = 0 ∨ r2 = 1 by omega) with rfl | rfl
  · refine ⟨0, _, _, i2, by omega, by rw [keq_t vC_0]; rfl, fun Y => by rw [keq_t (show nI 0 = 0 from rfl), if_pos rfl], T3, ⟨FrF_tr FrF_1 (FrF_tr FrF_1 (FrF_w (by omega))), FrG_tr FrG_0 (FrG_tr FrG_0 FrG_8), rfl, rfl, fun j hj => ⟨by simp [kup, upd, hj], rfl⟩, fun j hj _ => by rw [kup_nk hj]; rfl⟩, fun h => absurd h (by omega)⟩
  obtain ⟨r4, l4, b4, s3, s4⟩ := t_skip T3 120
  have T4 := TX_F T3 b4 (FrF_1 (x := nI (i2 + r4))) (FrG_0 (x := nI (i2 + r4))) kup_at kup_at
  rw [keq_f (show ¬ vC 1 v2 = -1 from nI_m1 (by omega)), s3, kbind_s]
  simp only [keq_f (show ¬ nI 1 = 0 by decide), s4, kbind_s, a6]
  rcases (show r4 = 0 ∨ r4 = 1 by omega) with rfl | rfl
  · refine ⟨0, _, _, i2 + 0, by omega, by rw [keq_t (show nI 0 = 0 from rfl)]; rfl, fun Y => by rw [keq_t (show nI 0 = 0 from rfl), if_pos rfl], T4, ⟨FrF_tr FrF_1 (FrF_tr FrF_1 (FrF_tr (FrF_w (by omega)) FrF_1)), FrG_tr FrG_0 (FrG_tr FrG_0 (FrG_tr FrG_8 FrG_0)), rfl, rfl, fun j hj => ⟨by simp [kup, upd, hj], rfl⟩, fun j hj _ => by simp [kup, upd, hj]⟩, fun h => absurd h (by omega)⟩
  obtain ⟨r5, v5, i5, l5, b5, b5', hv5, hv5', n3, n4⟩ := t_number (k := 6 + c) (most := 1) T4 (by omega) (by omega)
  have n3' : cf_X10_number (kup (kup (kup (kup f 280 1 (nI (i + 1))) 280 1 (nI i2)) 283 c (vC 1 v2)) 280 1 (nI (i2 + 1))) 1 = _ := n3
  have n4' : cf_X12_number (kup (kup (kup (kup g 0 8 (nI (i + 1))) 0 8 (nI i2)) 8 (3 + c) (nI v2)) 0 8 (nI (i2 + 1))) (nI (6 + c)) 1 = _ := n4
  have q4 : ∀ A B C D, kup (kup (kup (kup f 280 1 A) 280 1 B) 283 c C) 280 1 D 282 2 = nI c := fun _ _ _ _ => hcnt
  have q6 : ∀ A B C D E F, kup (kup (kup (kup (kup (kup f 280 1 A) 280 1 B) 283 c C) 280 1 D) 280 1 E) 284 c F 282 2 = nI c := fun _ _ _ _ _ _ => hcnt
  rw [keq_f (show ¬ nI 1 = 0 by decide), n3', kbind_s, q4, kchk_t hk, hcl, kmem_s, q6, nI_1, kmem_s, kup_at, nI_pred, kchk_t hk, hcl]
  simp only [keq_f (show ¬ nI 1 = 0 by decide), n4', kbind_s, nI_1]
  have T7 : TX (kup (kup (kup (kup (kup (kup (kup f 280 1 (nI (i + 1))) 280 1 (nI i2)) 283 c (vC 1 v2)) 280 1 (nI (i2 + 1))) 280 1 (nI i5)) 284 c (vC r5 v5)) 282 2 (nI (c + 1))) (kup (kup (kup (kup (kup (kup g 0 8 (nI (i + 1))) 0 8 (nI i2)) 8 (3 + c) (nI v2)) 0 8 (nI (i2 + 1))) 0 8 (nI i5)) 8 (6 + c) (nI v5)) i5 n := TX_F T4 b5' (FrF_tr FrF_1 (FrF_tr (FrF_w (by omega)) (FrF_w (by omega)))) (FrG_tr FrG_0 FrG_8) (by rw [kup_ne _ _ _ (by decide), kup_ne _ _ _ (by decide), kup_at]) (by rw [kup_ne _ _ _ (by decide), kup_at])
  have P7 : PF f (kup (kup (kup (kup (kup (kup (kup f 280 1 (nI (i + 1))) 280 1 (nI i2)) 283 c (vC 1 v2)) 280 1 (nI (i2 + 1))) 280 1 (nI i5)) 284 c (vC r5 v5)) 282 2 (nI (c + 1))) g (kup (kup (kup (kup (kup (kup g 0 8 (nI (i + 1))) 0 8 (nI i2)) 8 (3 + c) (nI v2)) 0 8 (nI (i2 + 1))) 0 8 (nI i5)) 8 (6 + c) (nI v5)) c := ⟨FrF_tr FrF_1 (FrF_tr FrF_1 (FrF_tr (FrF_w (by omega)) (FrF_tr FrF_1 (FrF_tr FrF_1 (FrF_tr (FrF_w (by omega)) (FrF_w (by omega))))))), FrG_tr FrG_0 (FrG_tr FrG_0 (FrG_tr FrG_8 (FrG_tr FrG_0 (FrG_tr FrG_0 FrG_8)))), rfl, rfl, fun j hj => ⟨by simp [kup, upd, hj], by simp [kup, upd, hj]⟩, fun j hj hj2 => by simp [kup, upd, hj, hj2]⟩
  have e284 : ∀ A, kup (kup A 284 c (vC r5 v5)) 282 2 (nI (c + 1)) 284 c = vC r5 v5 := fun A => by rw [kup_ne _ _ _ (by decide), kup_at]
  rw [e284]
  rcases (show r5 = 0 ∨ r5 = 1 by omega) with rfl | rfl
  · exact ⟨0, _, _, i5, by omega, by rw [keq_t vC_0]; rfl, fun Y => by rw [keq_t (show nI 0 = 0 from rfl), if_pos rfl], T7, P7, fun h => absurd h (by omega)⟩
  · refine ⟨1, _, _, i5, by omega, by rw [keq_f (show ¬ vC 1 v5 = -1 from nI_m1 (by omega))]; rfl, fun Y => by rw [klet_s, if_neg (by omega)]; exact congrArg (Y _) (nI_1 c), T7, P7, fun _ => ⟨kup_at, v2, v5, by omega, by omega, by simp [kup, upd, vC_1], by simp [kup, upd], by simp [kup, upd, vC_1], by simp [kup, upd]⟩⟩
def Parts (f g : kMem) (c : Nat) : Prop := ∀ j, j < c → ∃ p e, p ≤ 9 ∧ e ≤ 9 ∧ f 283 j = nI p ∧ g 8 (3 + j) = nI p ∧ f 284 j = nI e ∧ g 8 (6 + j) = nI e
theorem Parts_next {f f1 g g1 : kMem} {c : Nat} (h : Parts f g c) (hc : c < 3) (hP : PF f f1 g g1 c) (hn : ∃ p e, p ≤ 9 ∧ e ≤ 9 ∧ f1 283 c = nI p ∧ g1 8 (3 + c) = nI p ∧ f1 284 c = nI e ∧ g1 8 (6 + c) = nI e) : Parts f1 g1 (c + 1) := fun j hj => by
  by_cases hjc : j = c
  · rw [hjc]
    exact hn
  · obtain ⟨p, e, h1, h2, h3, h4, h5, h6⟩ := h j (by omega)
    obtain ⟨-, -, -, -, k1, k2⟩ := hP
    exact ⟨p, e, h1, h2, by rw [(k1 j hjc).1]; exact h3, by rw [k2 _ (by omega) (by omega)]; exact h4, by rw [(k1 j hjc).2]; exact h5, by rw [k2 _ (by omega) (by omega)]; exact h6⟩
theorem lp_tail {n : Nat} : ∀ d u u' c i (f g : kMem), c + d = 3 → 1 ≤ c → d < u → d < u' → TX f g i n → f 282 2 = nI c → Parts f g c → (∀ j, c ≤ j → j < 3 → g 8 (6 + j) = 0) → ∃ r f1 g1 i1 c1, r ≤ 1 ∧ cl_X3_isTailRead_2 (fun g6 => (cj_X3_isTailRead_30 g6)) u f (nI c) = some (nI r, f1) ∧ cl_X12_isFamilyText_31 (fun g17 x1_16 => (cj_X12_isFamilyText_100 g17 x1_16)) u' g (nI c) = some (nI r, g1) ∧ TX f1 g1 i1 n ∧ FrF f f1 ∧ FrG g g1 ∧ f1 282 3 = f 282 3 ∧ f1 282 4 = f 282 4 ∧ g1 8 0 = g 8 0 ∧ g1 8 1 = g 8 1 ∧ (r = 1 → f1 282 2 = nI c1 ∧ 1 ≤ c1 ∧ c1 ≤ 3 ∧ g1 8 2 = nI c1 ∧ Parts f1 g1 c1 ∧ ∀ j, c1 ≤ j → j < 3 → g1 8 (6 + j) = 0) := by
  intro d
  induction d with
  | zero =>
    intro u u' c i f g h1 h2 h3 h4 hT hcnt hP hz
    obtain rfl : c = 3 := by omega
    obtain ⟨u, rfl⟩ : ∃ w, u = w + 1 := ⟨u - 1, by omega⟩
    obtain ⟨u', rfl⟩ : ∃ w, u' = w + 1 := ⟨u' - 1, by omega⟩
    obtain ⟨t1, t2, t3, t4, t5, t6, t7⟩ := id hT
    have T2 : TX f (kup g 8 2 (nI 3)) i n := TX_F hT t5 FrF_rf FrG_8 t1 t3
    rw [cl_X3_isTailRead_2.eq_2, kle_t (by decide), cl_X12_isFamilyText_31.eq_2, keq_f (by decide), kle_t (by decide)]
    unfold cj_X3_isTailRead_30 cj_X12_isFamilyText_100
    rw [t_end hT, kbind_s, kmem_s, show kup g 8 2 (nI 3) 0 8 = nI i from t3, show kup g 8 2 (nI 3) 0 7 = nI n from t4]
    refine ⟨if i < n then 0 else 1, f, kup g 8 2 (nI 3), i, 3, by split <;> omega, ?_, ?_, T2, FrF_rf, FrG_8, rfl, rfl, rfl, rfl, fun _ => ⟨hcnt, by omega, by omega, kup_at, fun j hj => ?_, fun j j1 j2 => by omega⟩⟩
    · by_cases hin : i < n
      · rw [if_pos hin, if_pos hin]
        rfl
      · rw [if_neg hin, if_neg hin]
        rfl
    · by_cases hin : i < n
      · rw [if_pos hin, keq_f (fun e => by have := nI_inj (by omega) (by omega) e; omega)]
        rfl
      · rw [if_neg hin, keq_t (by rw [show i = n by omega])]
        rfl
    · obtain ⟨p, e, k1, k2, k3, k4, k5, k6⟩ := hP j hj
      exact ⟨p, e, k1, k2, k3, by rw [kup_nk (by omega)]; exact k4, k5, by rw [kup_nk (by omega)]; exact k6⟩
  | succ d ih =>
    intro u u' c i f g h1 h2 h3 h4 hT hcnt hP hz
    obtain ⟨u, rfl⟩ : ∃ w, u = w + 1 := ⟨u - 1, by omega⟩
    obtain ⟨u', rfl⟩ : ∃ w, u' = w + 1 := ⟨u' - 1, by omega⟩
    obtain ⟨t1, t2, t3, t4, t5, t6, t7⟩ := id hT
    have hle : ¬ (3 : Int32) ≤ nI c := fun q => by have := (nI_le_iff (a := 3) (by omega) (by omega)).mp q; omega
    have one : nI c + Int32.ofInt 1 = nI (c + 1) := nI_1 c
    rw [cl_X3_isTailRead_2.eq_2, kle_f hle, t_end hT, kbind_s, cl_X12_isFamilyText_31.eq_2, keq_f (nI_ne0 (by omega) (by omega)), kle_f hle, t3, t4]
    by_cases hin : i < n
    · rw [if_pos hin, keq00, kle_f (fun q => by have := (nI_le_iff (by omega) (by omega)).mp q; omega)]
      obtain ⟨r, f1, g1, i1, k1, k2, k3, k4, k5, k6⟩ := t_part hT (by omega) hcnt
      rw [k2, k3, kbind_s]
      obtain ⟨p1, p2, p3, p4, p5, p6⟩ := id k5
      rcases (show r = 0 ∨ r = 1 by omega) with rfl | rfl
      · exact ⟨0, f1, g1, i1, 0, by omega, by rw [keq_t (show nI 0 = 0 from rfl)]; rfl, by rw [if_pos rfl]; rfl, k4, p1, p2, p3, p4, p6 0 (by omega) (by omega), p6 1 (by omega) (by omega), fun h => absurd h (by omega)⟩
      · obtain ⟨k7, k8⟩ := k6 rfl
        obtain ⟨r, f2, g2, i2, c2, m1, m2, m3, m4, m5, m6, m7, m8, m9, m10, m11⟩ := ih u u' (c + 1) i1 f1 g1 (by omega) (by omega) (by omega) (by omega) k4 k7 (Parts_next hP (by omega) k5 k8) (fun j j1 j2 => by rw [p6 _ (by omega) (by omega)]; exact hz j (by omega) j2)
        refine ⟨r, f2, g2, i2, c2, m1, ?_, ?_, m4, FrF_tr p1 m5, FrG_tr p2 m6, m7.trans p3, m8.trans p4, m9.trans (p6 0 (by omega) (by omega)), m10.trans (p6 1 (by omega) (by omega)), m11⟩
        · rw [keq_f (by decide), klet_s, one]
          exact m2
        · rw [if_neg (by omega)]
          exact m3
    · have T2 : TX f (kup g 8 2 (nI c)) i n := TX_F hT t5 FrF_rf FrG_8 t1 t3
      rw [if_neg hin, keq10, kle_t ((nI_le_iff (by omega) (by omega)).mpr (by omega))]
      unfold cj_X3_isTailRead_30 cj_X12_isFamilyText_100
      rw [t_end hT, kbind_s, kmem_s, show kup g 8 2 (nI c) 0 8 = nI i from t3, show kup g 8 2 (nI c) 0 7 = nI n from t4, if_neg hin, keq_t (by rw [show i = n by omega])]
      refine ⟨1, f, kup g 8 2 (nI c), i, c, by omega, rfl, rfl, T2, FrF_rf, FrG_8, rfl, rfl, rfl, rfl, fun _ => ⟨hcnt, by omega, by omega, kup_at, fun j hj => ?_, fun j j1 j2 => by rw [kup_nk (by omega)]; exact hz j j1 j2⟩⟩
      obtain ⟨p, e, k1, k2, k3, k4, k5, k6⟩ := hP j hj
      exact ⟨p, e, k1, k2, k3, by rw [kup_nk (by omega)]; exact k4, k5, by rw [kup_nk (by omega)]; exact k6⟩
