/-! the relation of a floor (cells F) with a row v of the model, and what holds of such a row -/
def mc (j : Nat) : Nat × Nat := if j < 12 then (match j with | 0 => (1, 0) | 1 => (1, 1) | 2 => (1, 2) | 3 => (18, 0) | 4 => (0, 8) | 5 => (0, 7) | 6 => (0, 4) | 7 => (0, 5) | 8 => (0, 6) | _ => (0, j)) else if j < 16 then (7, j - 12) else if j < 22 then (2, j - 16) else if j < 30 then (3, j - 22) else if j < 38 then (16, j - 30) else if j < 46 then (17, j - 38) else if j < 109 then (9 + (j - 100) % 3, (j - 100) / 3) else if j < 157 then (13, j - 109) else if j < 205 then (14, j - 157) else if j < 253 then (15, j - 205) else (19 + (j - 253) % 6, (j - 253) / 6)
def mi (c k : Nat) : Nat := match c with
  | 0 => if k = 8 then 4 else if k = 7 then 5 else if k < 7 then k + (if k = 4 then 2 else 2) else k
  | 1 => k
  | 2 => 16 + k
  | 3 => 22 + k
  | 7 => 12 + k
  | 9 => 100 + 3 * k
  | 10 => 101 + 3 * k
  | 11 => 102 + 3 * k
  | 13 => 109 + k
  | 14 => 157 + k
  | 15 => 205 + k
  | 16 => 30 + k
  | 17 => 38 + k
  | 18 => 3
  | _ => 253 + 6 * k + (c - 19)
def dj (j : Nat) : Bool := decide (j < 313) && !(decide (46 ≤ j) && decide (j < 100))
theorem mi_mc0 : ∀ j, j < 313 → (dj j = true → mi (mc j).1 (mc j).2 = j) := by decide +kernel
theorem mi_mc {j : Nat} (h : dj j = true) : mi (mc j).1 (mc j).2 = j := by
  have h1 : j < 313 := by
    unfold dj at h
    simp at h
    omega
  exact mi_mc0 j h1 h
theorem mc_cell0 : ∀ j, j < 313 → (mc j).1 < 25 ∧ (dj j = true → (mc j).1 ≠ 4 ∧ (mc j).1 ≠ 5 ∧ (mc j).1 ≠ 6) := by decide +kernel
def lk (v : Nat → Int32) (q p : Nat) : Int32 := if 0 < v (48 + 9 * q) ∧ v (49 + 9 * q) = nI p then v (52 + 9 * q) else if 1 < v (48 + 9 * q) ∧ v (50 + 9 * q) = nI p then v (53 + 9 * q) else if 2 < v (48 + 9 * q) ∧ v (51 + 9 * q) = nI p then v (54 + 9 * q) else 0
def FRel (F : Nat → Nat → Int32) (v : Nat → Int32) : Prop := (∀ j, dj j = true → v j = F (mc j).1 (mc j).2) ∧ ∀ q, q < 6 → v (46 + 9 * q) = F 4 q ∧ v (47 + 9 * q) = F 5 q ∧ ∀ p, p < 8 → F 6 (8 * q + p) = lk v q p
theorem FRel_cells {F F' : Nat → Nat → Int32} {v : Nat → Int32} (hF : ∀ c, c < 25 → F' c = F c) (h : FRel F v) : FRel F' v := by
  refine ⟨fun j hj => ?_, fun q hq => ?_⟩
  · have h1 : j < 313 := by
      unfold dj at hj
      simp at hj
      omega
    rw [hF _ (mc_cell0 j h1).1]
    exact h.1 j hj
  · obtain ⟨h1, h2, h3⟩ := h.2 q hq
    rw [hF 4 (by decide), hF 5 (by decide), hF 6 (by decide)]
    exact ⟨h1, h2, h3⟩
theorem FRel_set {F : kMem} {v : Nat → Int32} {j a k : Nat} {x : Int32} (h : FRel F v) (hj : dj j = true) (hm : mc j = (a, k)) : FRel (kup F a k x) (upd v j x) := by
  have hj1 : j < 313 := by
    unfold dj at hj
    simp at hj
    omega
  have hj2 : j < 46 ∨ 100 ≤ j := by
    unfold dj at hj
    simp at hj
    omega
  have h4 := (mc_cell0 j hj1).2 hj
  rw [hm] at h4
  refine ⟨fun i hi => ?_, fun q hq => ?_⟩
  · by_cases e : i = j
    · rw [e, hm, upd_eq, kup_at]
    · rw [upd_ne e, h.1 i hi]
      by_cases e1 : (mc i).1 = a
      · have e2 : (mc i).2 ≠ k := fun e2 => e (by
          have h5 := mi_mc hi
          have h6 := mi_mc hj
          rw [e1, e2] at h5
          rw [hm] at h6
          exact h5.symm.trans h6)
        rw [e1, kup_nk e2]
      · rw [kup_ne _ _ _ e1]
  · obtain ⟨h1, h2, h3⟩ := h.2 q hq
    rw [upd_ne (by omega), upd_ne (by omega), kup_ne _ _ _ (Ne.symm h4.1), kup_ne _ _ _ (Ne.symm h4.2.1), kup_ne _ _ _ (Ne.symm h4.2.2)]
    refine ⟨h1, h2, fun p hp => ?_⟩
    rw [h3 p hp]
    unfold lk
    rw [upd_ne (j := 48 + 9 * q) (by omega), upd_ne (j := 49 + 9 * q) (by omega), upd_ne (j := 50 + 9 * q) (by omega), upd_ne (j := 51 + 9 * q) (by omega), upd_ne (j := 52 + 9 * q) (by omega), upd_ne (j := 53 + 9 * q) (by omega), upd_ne (j := 54 + 9 * q) (by omega)]
/-- a number in a range; a number below another -/
def rg (x : Int32) (a b : Nat) : Prop := ∃ n : Nat, x = nI n ∧ a ≤ n ∧ n ≤ b
def rl (x : Int32) (n : Nat) : Prop := ∃ m : Nat, x = nI m ∧ m < n
def fam (v : Nat → Int32) (c1 q : Nat) : Prop := ∃ n : Nat, v (48 + 9 * q) = nI n ∧ 1 ≤ n ∧ n ≤ 3 ∧ rg (v (46 + 9 * q)) 1 99 ∧ rg (v (47 + 9 * q)) 1 999 ∧ (∀ i, i < n → rl (v (49 + 9 * q + i)) c1 ∧ rg (v (52 + 9 * q + i)) 1 9) ∧ (∀ i, i < n → ∀ k, k < i → v (49 + 9 * q + i) ≠ v (49 + 9 * q + k)) ∧ ∀ i, n ≤ i → i < 3 → v (52 + 9 * q + i) = 0
def InvC (B : Nat) (v : Nat → Int32) (c0 c1 c2 c3 : Nat) : Prop :=
  (v 0 = nI c0 ∧ v 1 = nI c1 ∧ v 2 = nI c2 ∧ v 3 = nI c3 ∧ c0 ≤ 6 ∧ c1 ≤ 8 ∧ c2 ≤ 6 ∧ c3 ≤ 10) ∧
  ((v 4 = -1 ∨ rl (v 4) c2) ∧ (v 5 = -1 ∨ rl (v 5) c0) ∧ rg (v 8) 0 9998 ∧ rg (v 12) 60 9999 ∧ rg (v 13) 0 999 ∧ rg (v 14) 0 5 ∧ rg (v 15) 0 99) ∧
  ((∀ k, k < 6 → rg (v (16 + k)) 0 9) ∧ (∀ k, k < 8 → rg (v (22 + k)) 0 50) ∧ (∀ k, k < c1 → rg (v (22 + k)) 1 50) ∧ ∀ k, k < 8 → rg (v (30 + k)) 0 B) ∧
  (∀ q, q < c2 → fam v c1 q) ∧
  (∀ d, d < 3 → (v (100 + 3 * d) = -1 ∧ v (101 + 3 * d) = 0 ∧ v (102 + 3 * d) = 0) ∨ (rl (v (100 + 3 * d)) c0 ∧ rg (v (101 + 3 * d)) 1 99999)) ∧
  ∀ o, o < c3 → rl (v (253 + 6 * o)) c1 ∧ rl (v (254 + 6 * o)) c0 ∧ rg (v (255 + 6 * o)) 1 20 ∧ rg (v (257 + 6 * o)) 0 2
def Inv (B : Nat) (v : Nat → Int32) : Prop := ∃ c0 c1 c2 c3, InvC B v c0 c1 c2 c3
theorem rg_mono {x : Int32} {a b a' b' : Nat} (h : rg x a b) (h1 : a' ≤ a) (h2 : b ≤ b') : rg x a' b' := by
  obtain ⟨n, h3, h4, h5⟩ := h
  exact ⟨n, h3, by omega, by omega⟩
theorem rl_mono {x : Int32} {a b : Nat} (h : rl x a) (h2 : a ≤ b) : rl x b := by
  obtain ⟨n, h3, h4⟩ := h
  exact ⟨n, h3, by omega⟩
theorem Inv_mono {B B' : Nat} {v : Nat → Int32} (h : Inv B v) (hB : B ≤ B') : Inv B' v := by
  obtain ⟨c0, c1, c2, c3, h1, h2, ⟨h3, h4, h5, h6⟩, h7⟩ := h
  exact ⟨c0, c1, c2, c3, h1, h2, ⟨h3, h4, h5, fun k hk => rg_mono (h6 k hk) (by omega) hB⟩, h7⟩
/-! the reasons, the history, the snapshot, the text -/
def Reas (f g : kMem) : Prop := ∃ r : Nat, r ≤ 3 ∧ f 277 2 = nI r ∧ g 0 10 = nI r ∧ ∀ i, i < r → f 278 i = g 6 i ∧ f 279 i = g 7 i
def rm (f : kMem) (r : Nat) : kMem := fun q => f (25 * (r + 2) + q)
def HistC (B : Nat) (f g : kMem) (o c : Nat) : Prop := o < 9 ∧ c ≤ 8 ∧ f 275 1 = nI o ∧ f 275 2 = nI c ∧ g 0 3 = nI c ∧ ∀ i, i < c → FRel (rm f ((o + i) % 9)) (row g i) ∧ Inv B (row g i)
def Hist (B : Nat) (f g : kMem) : Prop := ∃ o c, HistC B f g o c
def sn (f : kMem) : kMem := fun q => f (25 + q)
def Snap (B : Nat) (f g : kMem) : Prop := kZ (g 4) ∧ ((f 291 8 = 0 ∧ g 0 5 = 0) ∨ (f 291 8 = 1 ∧ g 0 5 = 1 ∧ FRel (sn f) (g 4) ∧ Inv B (g 4)))
def Txt (f g : kMem) : Prop := ∃ n : Nat, n ≤ 80 ∧ f 280 2 = nI n ∧ g 0 7 = nI n ∧ (∀ i, i < n → f 281 i = g 5 i) ∧ f 280 3 = g 0 9
def Now (B : Nat) (f g : kMem) : Prop := FRel f (g 1) ∧ Inv B (g 1) ∧ kZ (g 1)
def kR (N : Nat) (f g : kMem) : Prop := Now (N * 59778) f g ∧ Reas f g ∧ Hist (N * 59778) f g ∧ Snap (N * 59778) f g ∧ Txt f g
theorem Hist_mono {B B' : Nat} {f g : kMem} (h : Hist B f g) (hB : B ≤ B') : Hist B' f g := by
  obtain ⟨o, c, h1, h2, h3, h4, h5, h6⟩ := h
  exact ⟨o, c, h1, h2, h3, h4, h5, fun i hi => ⟨(h6 i hi).1, Inv_mono (h6 i hi).2 hB⟩⟩
theorem Snap_mono {B B' : Nat} {f g : kMem} (h : Snap B f g) (hB : B ≤ B') : Snap B' f g := by
  refine ⟨h.1, ?_⟩
  rcases h.2 with h | h
  · exact Or.inl h
  · exact Or.inr ⟨h.1, h.2.1, h.2.2.1, Inv_mono h.2.2.2 hB⟩
theorem kR_mono (N : Nat) (f g : kMem) (h : kR N f g) : kR (N + 1) f g := ⟨⟨h.1.1, Inv_mono h.1.2.1 (by omega), h.1.2.2⟩, h.2.1, Hist_mono h.2.2.1 (by omega), Snap_mono h.2.2.2.1 (by omega), h.2.2.2.2⟩
/-- a change of the floor and of the reasons only -/
def Fr1 (f f1 : kMem) : Prop := ∀ a, 25 ≤ a → a ≠ 277 → a ≠ 278 → a ≠ 279 → f1 a = f a
def Fr2 (g g1 : kMem) : Prop := (∀ a, a ≠ 0 → a ≠ 1 → a ≠ 6 → a ≠ 7 → g1 a = g a) ∧ ∀ k, k ≠ 10 → k ≠ 13 → g1 0 k = g 0 k
theorem Fr1_rf {f : kMem} : Fr1 f f := fun _ _ _ _ _ => rfl
theorem Fr2_rf {g : kMem} : Fr2 g g := ⟨fun _ _ _ _ _ => rfl, fun _ _ _ => rfl⟩
theorem Fr1_tr {f f1 f2 : kMem} (h : Fr1 f f1) (h1 : Fr1 f1 f2) : Fr1 f f2 := fun a b c d e => (h1 a b c d e).trans (h a b c d e)
theorem Fr2_tr {f f1 f2 : kMem} (h : Fr2 f f1) (h1 : Fr2 f1 f2) : Fr2 f f2 := ⟨fun a b c d e => (h1.1 a b c d e).trans (h.1 a b c d e), fun k a b => (h1.2 k a b).trans (h.2 k a b)⟩
/-- one reason or two -/
def Rs2 (f0 f : kMem) : Prop := (f 277 2 = 1 ∨ f 277 2 = 2) ∧ ∀ c, c < 25 → f c = f0 c
/-- the two cores of a change agree -/
def kSim (M : Nat) (E : kMem → kMem → Prop) (cC cM : kMem → Option (Int32 × kMem)) : Prop := ∀ (B : Nat) (f g : kMem), B ≤ 40000000 → Now B f g → Reas f g → E f g → kO (cC f) (fun z => kO (cM g) (fun y => Fr1 f z.2 ∧ Fr2 g y.2 ∧ Reas z.2 y.2 ∧ Now (B + M) z.2 y.2 ∧ ((z.1 = -1 ∧ y.1 = 0 ∧ Rs2 f z.2) ∨ (¬ z.1 < 0 ∧ y.1 = 1 ∧ y.2 0 13 = z.1))))
