/-! reading a program -/
def CF (f f1 g g1 : kMem) (c : Nat) : Prop := FrF f f1 ∧ FrG g g1 ∧ f1 285 = f 285 ∧ (∀ j, j ≠ c → f1 286 j = f 286 j) ∧ (∀ j, j < 3 * c ∨ 3 * c + 3 ≤ j → f1 287 j = f 287 j) ∧ ∀ j, j < 4 * c ∨ 4 * c + 4 ≤ j → g1 8 j = g 8 j
theorem CF_rf {f g : kMem} {c : Nat} : CF f f g g c := ⟨FrF_rf, FrG_rf, rfl, fun _ _ => rfl, fun _ _ => rfl, fun _ _ => rfl⟩
theorem CF_tr {f f1 f2 g g1 g2 : kMem} {c : Nat} (h : CF f f1 g g1 c) (k : CF f1 f2 g1 g2 c) : CF f f2 g g2 c := by
  obtain ⟨a1, a2, a3, a4, a5, a6⟩ := h
  obtain ⟨b1, b2, b3, b4, b5, b6⟩ := k
  exact ⟨FrF_tr a1 b1, FrG_tr a2 b2, b3.trans a3, fun j hj => (b4 j hj).trans (a4 j hj), fun j hj => (b5 j hj).trans (a5 j hj), fun j hj => (b6 j hj).trans (a6 j hj)⟩
def Bo (n : Nat) (X Y : Option (Int32 × kMem)) (f g : kMem) (c : Nat) (Q : kMem → kMem → Nat → Prop) : Prop := ∃ r f1 g1 i1, r ≤ 1 ∧ X = some (nI r, f1) ∧ Y = some (nI r, g1) ∧ TX f1 g1 i1 n ∧ CF f f1 g g1 c ∧ (r = 1 → Q f1 g1 i1)
theorem Bo_bind {n c : Nat} {X Y : Option (Int32 × kMem)} {X1 Y1 : kMem → Option (Int32 × kMem)} {f g : kMem} {Q Q1 : kMem → kMem → Nat → Prop} (h : Bo n X Y f g c Q) (k : ∀ f1 g1 i1, TX f1 g1 i1 n → CF f f1 g g1 c → Q f1 g1 i1 → Bo n (X1 f1) (Y1 g1) f1 g1 c Q1) : Bo n (kbind X (fun r g2 => keq r 0 (some (0, g2)) (X1 g2))) (kbind Y (fun r g2 => keq r 0 (some (0, g2)) (Y1 g2))) f g c Q1 := by
  obtain ⟨r, f1, g1, i1, hr, e1, e2, hT, hC, hQ⟩ := h
  rw [e1, e2, kbind_s, kbind_s]
  rcases (show r = 0 ∨ r = 1 by omega) with rfl | rfl
  · rw [keq_t (show nI 0 = 0 from rfl), keq_t (show nI 0 = 0 from rfl)]
    exact ⟨0, f1, g1, i1, by omega, rfl, rfl, hT, hC, fun h => absurd h (by omega)⟩
  · rw [keq_f (show ¬ nI 1 = 0 by decide), keq_f (show ¬ nI 1 = 0 by decide)]
    obtain ⟨r2, f2, g2, i2, hr2, d1, d2, hT2, hC2, hQ2⟩ := k f1 g1 i1 hT hC (hQ rfl)
    exact ⟨r2, f2, g2, i2, hr2, d1, d2, hT2, CF_tr hC hC2, hQ2⟩
theorem Bo_mono {n c : Nat} {X Y : Option (Int32 × kMem)} {f g : kMem} {Q Q1 : kMem → kMem → Nat → Prop} (h : Bo n X Y f g c Q) (k : ∀ f1 g1 i1, Q f1 g1 i1 → Q1 f1 g1 i1) : Bo n X Y f g c Q1 := by
  obtain ⟨r, f1, g1, i1, hr, e1, e2, hT, hC, hQ⟩ := h
  exact ⟨r, f1, g1, i1, hr, e1, e2, hT, hC, fun h => k _ _ _ (hQ h)⟩
theorem Bo_chk {n c : Nat} {X Y : Option (Int32 × kMem)} {f g : kMem} {Q : kMem → kMem → Nat → Prop} (h : Bo n X Y f g c Q) : Bo n (kbind X (fun r g2 => kchk (kbool r) (some (r, g2)))) (kbind Y (fun r g2 => kchk (kbool r) (some (r, g2)))) f g c Q := by
  obtain ⟨r, f1, g1, i1, hr, e1, e2, hT, hC, hQ⟩ := h
  refine ⟨r, f1, g1, i1, hr, ?_, ?_, hT, hC, hQ⟩
  · rw [e1, kbind_s]
    rcases (show r = 0 ∨ r = 1 by omega) with rfl | rfl <;> rfl
  · rw [e2, kbind_s]
    rcases (show r = 0 ∨ r = 1 by omega) with rfl | rfl <;> rfl
theorem Bo_1 {n c i : Nat} {f g : kMem} {Q : kMem → kMem → Nat → Prop} (hT : TX f g i n) (hQ : Q f g i) : Bo n (some (1, f)) (some (1, g)) f g c Q := ⟨1, f, g, i, by omega, rfl, rfl, hT, CF_rf, fun _ => hQ⟩
theorem bo_skip {f g : kMem} {i n c : Nat} (h : TX f g i n) (ch : Int32) : Bo n (cf_X10_skip f ch) (cf_X12_takes g ch) f g c (fun f1 g1 i1 => i + 1 ≤ i1 ∧ f1 286 = f 286 ∧ f1 287 = f 287 ∧ g1 8 = g 8) := by
  obtain ⟨r, l, b, s1, s2⟩ := t_skip h ch
  exact ⟨r, _, _, i + r, l, s1, s2, TX_F h b FrF_1 FrG_0 kup_at kup_at, ⟨FrF_1, FrG_0, rfl, fun _ _ => rfl, fun _ _ => rfl, fun _ _ => rfl⟩, fun hr => ⟨by omega, rfl, rfl, rfl⟩⟩
theorem bo_num {f g : kMem} {i n c p most : Nat} (h : TX f g i n) (hc : c ≤ 26) (hp : p ≤ 2) (hmost : most ≤ 5) : Bo n (cf_X7_isNumberRead f (nI c) (nI p) (nI most)) (cf_X12_number g (nI (4 * c + 1 + p)) (nI most)) f g c (fun f1 g1 i1 => i + 1 ≤ i1 ∧ f1 286 = f 286 ∧ f1 287 (3 * c + p) = g1 8 (4 * c + 1 + p) ∧ (∀ j, j ≠ 3 * c + p → f1 287 j = f 287 j) ∧ ∀ j, j ≠ 4 * c + 1 + p → g1 8 j = g 8 j) := by
  obtain ⟨r, v, i1, l, b, b', hv, hv', n1, n2⟩ := t_number (k := 4 * c + 1 + p) h (by omega) hmost
  refine ⟨r, kup (kup f 280 1 (nI i1)) 287 (3 * c + p) (vC r v), kup (kup g 0 8 (nI i1)) 8 (4 * c + 1 + p) (nI v), i1, l, ?_, n2, TX_F h b' (FrF_tr FrF_1 (FrF_w (by omega))) (FrG_tr FrG_0 FrG_8) (by rw [kup_ne _ _ _ (by decide), kup_at]) (by rw [kup_ne _ _ _ (by decide), kup_at]), ⟨FrF_tr FrF_1 (FrF_w (by omega)), FrG_tr FrG_0 FrG_8, rfl, fun _ _ => rfl, fun j hj => by rw [kup_nk (by omega)]; rfl, fun j hj => by rw [kup_nk (by omega)]; rfl⟩, fun hr => ⟨by omega, rfl, ?_, fun j hj => by rw [kup_nk hj]; rfl, fun j hj => by rw [kup_nk hj]; rfl⟩⟩
  · unfold cf_X7_isNumberRead
    rw [n1, kbind_s, show nI c * 3 + nI p = nI (3 * c + p) by rw [show (3 : Int32) = nI 3 from rfl, nI_mul, nI_add, Nat.mul_comm], kchk_t (nI_kin (by omega) (by decide)), nI_clamp (by omega), kmem_s]
    rcases (show r = 0 ∨ r = 1 by omega) with rfl | rfl
    · rw [keq_t vC_0]
      rfl
    · rw [keq_f (show ¬ vC 1 v = -1 from nI_m1 (by omega))]
      rfl
  · rw [kup_at, kup_at, hr, vC_1]
def kch (kd : Nat) : Int32 := if kd = 0 then 109 else if kd = 1 then 114 else if kd = 2 then 119 else 108
def Cmd (f g : kMem) (j : Nat) : Prop := ∃ kd, kd ≤ 3 ∧ f 286 j = nI kd ∧ g 8 (4 * j) = kch kd ∧ f 287 (3 * j) = g 8 (4 * j + 1) ∧ (kd = 1 ∨ kd = 3 → f 287 (3 * j + 1) = g 8 (4 * j + 2)) ∧ (kd = 3 → f 287 (3 * j + 2) = g 8 (4 * j + 3))
theorem Cmd_fr {f f1 g g1 : kMem} {j : Nat} (h : Cmd f g j) (h6 : f1 286 j = f 286 j) (h7 : ∀ k, k < 3 * j + 3 → f1 287 k = f 287 k) (h8 : ∀ k, k < 4 * j + 4 → g1 8 k = g 8 k) : Cmd f1 g1 j := by
  obtain ⟨kd, k1, k2, k3, k4, k5, k6⟩ := h
  exact ⟨kd, k1, h6.trans k2, (h8 _ (by omega)).trans k3, by rw [h7 _ (by omega), h8 _ (by omega)]; exact k4, fun h => by rw [h7 _ (by omega), h8 _ (by omega)]; exact k5 h, fun h => by rw [h7 _ (by omega), h8 _ (by omega)]; exact k6 h⟩
theorem c_skip0 {f g : kMem} {i n : Nat} {ch : Int32} (h : TX f g i n) (hn : ¬ (i < n ∧ g 5 i = ch)) : cf_X10_skip f ch = some (0, f) := by
  obtain ⟨h1, h2, h3, h4, h5, h6, h7⟩ := id h
  unfold cf_X10_skip
  rw [t_end h, kbind_s]
  by_cases hin : i < n
  · rw [if_pos hin, keq00, h1, kchk_t (nI_kin (by omega) (by decide)), nI_clamp (by omega), h7 i hin, keq_f (fun e => hn ⟨hin, e⟩)]
  · rw [if_neg hin, keq10]
theorem c_skip1 {f g : kMem} {i n : Nat} {ch : Int32} (h : TX f g i n) (hin : i < n) (hch : g 5 i = ch) : cf_X10_skip f ch = some (1, kup f 280 1 (nI (i + 1))) := by
  obtain ⟨h1, h2, h3, h4, h5, h6, h7⟩ := id h
  unfold cf_X10_skip
  rw [t_end h, kbind_s, if_pos hin, keq00, h1, kchk_t (nI_kin (by omega) (by decide)), nI_clamp (by omega), h7 i hin, keq_t hch, nI_1, kmem_s]
/-- behind the letter of a command -/
theorem TX_cmd {f g : kMem} {i n c : Nat} {x y : Int32} (h : TX f g i n) (hin : i < n) : TX (kup (kup f 280 1 (nI (i + 1))) 286 c x) (kup (kup g 0 8 (nI (i + 1))) 8 (4 * c) y) (i + 1) n ∧ CF f (kup (kup f 280 1 (nI (i + 1))) 286 c x) g (kup (kup g 0 8 (nI (i + 1))) 8 (4 * c) y) c :=
  ⟨TX_F h (by omega) (FrF_tr FrF_1 (FrF_w (by omega))) (FrG_tr FrG_0 FrG_8) (by rw [kup_ne _ _ _ (by decide), kup_at]) (by rw [kup_ne _ _ _ (by decide), kup_at]), FrF_tr FrF_1 (FrF_w (by omega)), FrG_tr FrG_0 FrG_8, rfl, fun j hj => by rw [kup_nk hj]; rfl, fun _ _ => rfl, fun j hj => by rw [kup_nk (by omega)]; rfl⟩
theorem Bo_cf {n c : Nat} {X Y : Option (Int32 × kMem)} {f f1 g g1 : kMem} {Q : kMem → kMem → Nat → Prop} (hC : CF f f1 g g1 c) (h : Bo n X Y f1 g1 c Q) : Bo n X Y f g c Q := by
  obtain ⟨r, f2, g2, i1, hr, e1, e2, hT, hC2, hQ⟩ := h
  exact ⟨r, f2, g2, i1, hr, e1, e2, hT, CF_tr hC hC2, hQ⟩
theorem e145 {f : kMem} {x : Int32} : cj_X7_isCommandRead_145 f x = some (0, f) := by
  unfold cj_X7_isCommandRead_145 cj_X7_isCommandRead_146
  rw [keq_t rfl]
theorem e146 {f : kMem} {x : Int32} : cj_X7_isCommandRead_146 f x 1 = kbind (cf_X10_skip f 103) (fun r12 g13 => keq r12 0 (some (0, g13)) (kbind (cf_X7_isNumberRead g13 x 2 5) (fun r14 g15 => keq r14 0 (some (0, g15)) (some (1, g15))))) := by
  unfold cj_X7_isCommandRead_146
  rw [keq_f (by decide)]
set_option maxRecDepth 20000 in
theorem bo_command {f g : kMem} {i n c : Nat} (h : TX f g i n) (hc : c ≤ 26) : Bo n (cf_X7_isCommandRead f (nI c)) (cf_X12_isCommand g (nI (4 * c))) f g c (fun f1 g1 i1 => i + 2 ≤ i1 ∧ Cmd f1 g1 c) := by
  obtain ⟨h1, h2, h3, h4, h5, h6, h7⟩ := id h
  have hk : kin (nI c) 40 = true := nI_kin (by omega) (by decide)
  have hcl : (nI c).toNatClampNeg = c := nI_clamp (by omega)
  have hk4 : kin (nI (4 * c)) 400 = true := nI_kin (by omega) (by decide)
  have hcl4 : (nI (4 * c)).toNatClampNeg = 4 * c := nI_clamp (by omega)
  have p1 : nI (4 * c) + 1 = nI (4 * c + 1 + 0) := nI_1 (4 * c)
  have p2 : nI (4 * c) + 2 = nI (4 * c + 1 + 1) := nI_add (4 * c) 2
  have p3 : nI (4 * c) + 3 = nI (4 * c + 1 + 2) := nI_add (4 * c) 3
  unfold cf_X7_isCommandRead cf_X12_isCommand
  rw [h3, h4]
  have none : ¬ (i < n ∧ (g 5 i = 109 ∨ g 5 i = 114 ∨ g 5 i = 119 ∨ g 5 i = 108)) → cf_X10_skip f 109 = some (0, f) ∧ cf_X10_skip f 114 = some (0, f) ∧ cf_X10_skip f 119 = some (0, f) ∧ cf_X10_skip f 108 = some (0, f) := fun hn => ⟨c_skip0 h (fun q => hn ⟨q.1, Or.inl q.2⟩), c_skip0 h (fun q => hn ⟨q.1, Or.inr (Or.inl q.2)⟩), c_skip0 h (fun q => hn ⟨q.1, Or.inr (Or.inr (Or.inl q.2))⟩), c_skip0 h (fun q => hn ⟨q.1, Or.inr (Or.inr (Or.inr q.2))⟩)⟩
  by_cases hin : i < n
  rotate_left
  · obtain ⟨s1, s2, s3, s4⟩ := none (fun q => hin q.1)
    refine ⟨0, f, g, i, by omega, ?_, ?_, h, CF_rf, fun h => absurd h (by omega)⟩
    · rw [s1, kbind_s, keq00, s2, kbind_s, keq00, s3, kbind_s, keq00, s4, kbind_s, keq00]
      rfl
    · rw [keq_t (by rw [show i = n by omega])]
      rfl
  rw [keq_f (fun e => by have := nI_inj (by omega) (by omega) e; omega), kchk_t (nI_kin (i := i) (by omega) (by decide)), nI_clamp (n := i) (by omega), klet_s]
  have fin : ∀ (kd : Nat) (x y : Int32) (f1 g1 : kMem) (P : Prop), kd ≤ 3 → x = nI kd → y = kch kd → f1 286 = (kup (kup f 280 1 (nI (i + 1))) 286 c x) 286 → g1 8 (4 * c) = (kup (kup g 0 8 (nI (i + 1))) 8 (4 * c) y) 8 (4 * c) → f1 286 c = nI kd ∧ g1 8 (4 * c) = kch kd := fun kd x y f1 g1 P h1 h2 h3 h4 h5 => ⟨by rw [h4, kup_at, h2], by rw [h5, kup_at, h3]⟩
  by_cases k1 : g 5 i = 109
  · obtain ⟨T, C⟩ := TX_cmd (c := c) (x := 0) (y := 109) h hin
    rw [c_skip1 h hin k1, kbind_s, keq10, kchk_t hk, hcl, kmem_s (h := kup (kup f 280 1 (nI (i + 1))) 286 c 0), k1, keq_t rfl]
    unfold cj_X12_isCommand_49
    rw [h3, nI_1, kmem_s (h := kup g 0 8 (nI (i + 1))), kchk_t hk4, hcl4, kmem_s (h := kup (kup g 0 8 (nI (i + 1))) 8 (4 * c) 109), keq_t rfl, p1]
    refine Bo_cf C (Bo_chk (Bo_mono (bo_num (p := 0) (most := 1) T hc (by omega) (by omega)) (fun f1 g1 i1 hq => ?_)))
    obtain ⟨q1, q2, q3, q4, q5⟩ := hq
    obtain ⟨w1, w2⟩ := fin 0 0 109 f1 g1 True (by omega) rfl rfl q2 (q5 _ (by omega))
    exact ⟨by omega, 0, by omega, w1, w2, q3, fun h => absurd h (by omega), fun h => absurd h (by omega)⟩
  by_cases k2 : g 5 i = 114
  · obtain ⟨T, C⟩ := TX_cmd (c := c) (x := 1) (y := 114) h hin
    rw [c_skip0 h (fun q => k1 q.2), kbind_s, keq00, c_skip1 h hin k2, kbind_s, keq10, kchk_t hk, hcl, kmem_s (h := kup (kup f 280 1 (nI (i + 1))) 286 c 1), k2, keq_f (by decide), keq_t rfl]
    unfold cj_X12_isCommand_49
    rw [h3, nI_1, kmem_s (h := kup g 0 8 (nI (i + 1))), kchk_t hk4, hcl4, kmem_s (h := kup (kup g 0 8 (nI (i + 1))) 8 (4 * c) 114), keq_f (by decide), keq_t rfl, p1, p2]
    refine Bo_cf C (Bo_bind (bo_num (p := 0) (most := 1) T hc (by omega) (by omega)) (fun f1 g1 i1 T1 C1 hq => Bo_bind (bo_skip T1 120) (fun f2 g2 i2 T2 C2 hq2 => Bo_bind (bo_num (p := 1) (most := 3) T2 hc (by omega) (by omega)) (fun f3 g3 i3 T3 C3 hq3 => Bo_1 T3 ?_))))
    obtain ⟨q1, q2, q3, q4, q5⟩ := hq
    obtain ⟨a1, a2, a3, a4⟩ := hq2
    obtain ⟨b1, b2, b3, b4, b5⟩ := hq3
    obtain ⟨w1, w2⟩ := fin 1 1 114 f3 g3 True (by omega) rfl rfl (by rw [b2, a2, q2]) (by rw [b5 _ (by omega), a4, q5 _ (by omega)])
    exact ⟨by omega, 1, by omega, w1, w2, by rw [b4 _ (by omega), b5 _ (by omega), a3, a4]; exact q3, fun _ => b3, fun h => absurd h (by omega)⟩
  by_cases k3 : g 5 i = 119
  · obtain ⟨T, C⟩ := TX_cmd (c := c) (x := 2) (y := 119) h hin
    rw [c_skip0 h (fun q => k1 q.2), kbind_s, keq00, c_skip0 h (fun q => k2 q.2), kbind_s, keq00, c_skip1 h hin k3, kbind_s, keq10, kchk_t hk, hcl, kmem_s (h := kup (kup f 280 1 (nI (i + 1))) 286 c 2), k3, keq_f (by decide), keq_f (by decide), keq_t rfl]
    unfold cj_X12_isCommand_49
    rw [h3, nI_1, kmem_s (h := kup g 0 8 (nI (i + 1))), kchk_t hk4, hcl4, kmem_s (h := kup (kup g 0 8 (nI (i + 1))) 8 (4 * c) 119), keq_f (by decide), keq_f (by decide), keq_t rfl, p1]
    refine Bo_cf C (Bo_chk (Bo_mono (bo_num (p := 0) (most := 3) T hc (by omega) (by omega)) (fun f1 g1 i1 hq => ?_)))
    obtain ⟨q1, q2, q3, q4, q5⟩ := hq
    obtain ⟨w1, w2⟩ := fin 2 2 119 f1 g1 True (by omega) rfl rfl q2 (q5 _ (by omega))
    exact ⟨by omega, 2, by omega, w1, w2, q3, fun h => absurd h (by omega), fun h => absurd h (by omega)⟩
  by_cases k4 : g 5 i = 108
  · obtain ⟨T, C⟩ := TX_cmd (c := c) (x := 3) (y := 108) h hin
    rw [c_skip0 h (fun q => k1 q.2), kbind_s, keq00, c_skip0 h (fun q => k2 q.2), kbind_s, keq00, c_skip0 h (fun q => k3 q.2), kbind_s, keq00, c_skip1 h hin k4, kbind_s, keq10, kchk_t hk, hcl, kmem_s (h := kup (kup f 280 1 (nI (i + 1))) 286 c 3), k4, keq_f (by decide), keq_f (by decide), keq_f (by decide), keq_t rfl]
    unfold cj_X12_isCommand_49
    rw [h3, nI_1, kmem_s (h := kup g 0 8 (nI (i + 1))), kchk_t hk4, hcl4, kmem_s (h := kup (kup g 0 8 (nI (i + 1))) 8 (4 * c) 108), keq_f (by decide), keq_f (by decide), keq_f (by decide), p1, p2, p3]
    simp only [e145, e146]
    refine Bo_cf C (Bo_bind (bo_num (p := 0) (most := 1) T hc (by omega) (by omega)) (fun f1 g1 i1 T1 C1 hq => Bo_bind (bo_num (p := 1) (most := 1) T1 hc (by omega) (by omega)) (fun f2 g2 i2 T2 C2 hq2 => Bo_bind (bo_skip T2 103) (fun f3 g3 i3 T3 C3 hq3 => Bo_bind (bo_num (p := 2) (most := 5) T3 hc (by omega) (by omega)) (fun f4 g4 i4 T4 C4 hq4 => Bo_1 T4 ?_)))))
    obtain ⟨q1, q2, q3, q4, q5⟩ := hq
    obtain ⟨a1, a2, a3, a4, a5⟩ := hq2
    obtain ⟨b1, b2, b3, b4⟩ := hq3
    obtain ⟨d1, d2, d3, d4, d5⟩ := hq4
    obtain ⟨w1, w2⟩ := fin 3 3 108 f4 g4 True (by omega) rfl rfl (by rw [d2, b2, a2, q2]) (by rw [d5 _ (by omega), b4, a5 _ (by omega), q5 _ (by omega)])
    refine ⟨by omega, 3, by omega, w1, w2, ?_, fun _ => ?_, fun _ => d3⟩
    · rw [d4 _ (by omega), d5 _ (by omega), b3, b4, a4 _ (by omega), a5 _ (by omega)]
      exact q3
    · rw [d4 _ (by omega), d5 _ (by omega), b3, b4]
      exact a3
  · obtain ⟨s1, s2, s3, s4⟩ := none (fun q => by
      rcases q.2 with h | h | h | h
      · exact k1 h
      · exact k2 h
      · exact k3 h
      · exact k4 h)
    refine ⟨0, f, g, i, by omega, ?_, ?_, h, CF_rf, fun h => absurd h (by omega)⟩
    · rw [s1, kbind_s, keq00, s2, kbind_s, keq00, s3, kbind_s, keq00, s4, kbind_s, keq00]
      rfl
    · rw [keq_f k1, keq_f k2, keq_f k3, keq_f k4]
      rfl
