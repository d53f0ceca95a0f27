/-! PURE: the class's memory f and the model's memory g. kO X P: X answers, and P of its answer -/
def kO {ρ : Type} (X : Option ρ) (P : ρ → Prop) : Prop := ∃ z, X = some z ∧ P z
section KO
variable {ρ : Type} {P : ρ → Prop}
theorem kO_some {z : ρ} (h : P z) : kO (some z) P := ⟨z, rfl, h⟩
theorem kO_let {x : Int32} {Y : Int32 → Option ρ} (h : kO (Y x) P) : kO (klet x Y) P := h
theorem kO_mem {g : kMem} {Y : kMem → Option ρ} (h : kO (Y g) P) : kO (kmem g Y) P := h
theorem kO_lt {x y : Int32} {X1 X2 : Option ρ} (h1 : x < y → kO X1 P) (h2 : ¬ x < y → kO X2 P) : kO (klt x y X1 X2) P := by
  unfold klt
  split
  · exact h1 ‹_›
  · exact h2 ‹_›
theorem kO_le {x y : Int32} {X1 X2 : Option ρ} (h1 : x ≤ y → kO X1 P) (h2 : ¬ x ≤ y → kO X2 P) : kO (kle x y X1 X2) P := by
  unfold kle
  split
  · exact h1 ‹_›
  · exact h2 ‹_›
theorem kO_eq {x y : Int32} {X1 X2 : Option ρ} (h1 : x = y → kO X1 P) (h2 : ¬ x = y → kO X2 P) : kO (keq x y X1 X2) P := by
  unfold keq
  split
  · exact h1 ‹_›
  · exact h2 ‹_›
theorem kO_chk {b : Bool} {X : Option ρ} (h : b = true) (k : kO X P) : kO (kchk b X) P := by
  subst h
  exact k
theorem kO_bind {Z : Option (Int32 × kMem)} {Y : Int32 → kMem → Option ρ} (h : kO Z (fun r => kO (Y r.1 r.2) P)) : kO (kbind Z Y) P := by
  obtain ⟨⟨r, f1⟩, h1, h2⟩ := h
  subst h1
  exact h2
theorem kO_bindE {Z : Option (Int32 × kMem)} {Y : Int32 → kMem → Option ρ} {r : Int32} {f1 : kMem} (h : Z = some (r, f1)) (k : kO (Y r f1) P) : kO (kbind Z Y) P := by
  subst h
  exact k
theorem kO_xbindE {Z : Option kXr} {Y : Int32 → kMem → Option kXr} {P : kXr → Prop} {r : Int32} {f1 : kMem} (h : Z = some (0, r, f1)) (k : kO (Y r f1) P) : kO (kxbind Z Y) P := by
  subst h
  exact k
theorem kO_xbindT {Z : Option kXr} {Y : Int32 → kMem → Option kXr} {P : kXr → Prop} {n : Nat} {r : Int32} {f1 : kMem} (hn : n ≠ 0) (h : Z = some (n, r, f1)) (k : P (n, 0, f1)) : kO (kxbind Z Y) P := by
  subst h
  refine ⟨(n, 0, f1), ?_, k⟩
  show (if n = 0 then _ else _) = _
  rw [if_neg hn]
theorem kO_E {X : Option ρ} {z : ρ} (h : X = some z) (k : P z) : kO X P := ⟨z, h, k⟩
theorem kO_mono {Q : ρ → Prop} {X : Option ρ} (h : kO X P) (hPQ : ∀ z, P z → Q z) : kO X Q := h.elim fun z hz => ⟨z, hz.1, hPQ z hz.2⟩
end KO
theorem nI_kin {i n : Nat} (h : i < n) (hn : n < 2 ^ 31) : kin (nI i) n = true := by
  unfold kin
  rw [nI_toInt (by omega)]
  simp
  omega
theorem nI_inj {a b : Nat} (ha : a < 2 ^ 31) (hb : b < 2 ^ 31) (h : nI a = nI b) : a = b := by
  have h1 := nI_clamp ha
  rw [h, nI_clamp hb] at h1
  exact h1.symm
theorem nI_lt_iff {a b : Nat} (ha : a < 2 ^ 31) (hb : b < 2 ^ 31) : nI a < nI b ↔ a < b := by
  rw [Int32.lt_iff_toInt_lt, nI_toInt ha, nI_toInt hb]
  omega
theorem nI_le_iff {a b : Nat} (ha : a < 2 ^ 31) (hb : b < 2 ^ 31) : nI a ≤ nI b ↔ a ≤ b := by
  rw [Int32.le_iff_toInt_le, nI_toInt ha, nI_toInt hb]
  omega
theorem nI_sub1 {n : Nat} (h : 0 < n) : nI n - 1 = nI (n - 1) := by
  obtain ⟨k, rfl⟩ : ∃ k, n = k + 1 := ⟨n - 1, by omega⟩
  rw [nI_pred]
  rfl
theorem nI_mul (a b : Nat) : nI a * nI b = nI (a * b) := (Int32.ofNat_mul a b).symm
theorem upd_eq {f : Nat → Int32} {k : Nat} {x : Int32} : upd f k x k = x := by simp [upd]
theorem upd_ne {f : Nat → Int32} {k j : Nat} {x : Int32} (h : j ≠ k) : upd f k x j = f j := by simp [upd, h]
theorem kup_at {f : kMem} {a k : Nat} {v : Int32} : kup f a k v a k = v := by simp [kup, upd]
theorem kup_nk {f : kMem} {a k j : Nat} {v : Int32} (h : j ≠ k) : kup f a k v a j = f a j := by simp [kup, upd, h]
/-- a row of the model, its other places nothing -/
def cut (v : Nat → Int32) : Nat → Int32 := fun j => if j < 313 then v j else 0
def row (g : kMem) (i : Nat) : Nat → Int32 := cut (fun j => g 3 (313 * i + j))
def kZ (v : Nat → Int32) : Prop := ∀ j, 313 ≤ j → v j = 0
theorem cut_Z {v : Nat → Int32} (h : kZ v) : cut v = v := by
  funext j
  unfold cut
  split
  · rfl
  · exact (h j (by omega)).symm
theorem kZ_cut {v : Nat → Int32} : kZ (cut v) := fun j h => if_neg (by omega)
theorem cut_eq {v w : Nat → Int32} (h : ∀ j, j < 313 → v j = w j) : cut v = cut w := by
  funext j
  unfold cut
  split
  · exact h j ‹_›
  · rfl
/-! the model's copying -/
theorem lp_tries : ∀ (u i : Nat) (f : kMem), i ≤ 313 → 313 < i + u → kO (cl_X12_tries_7 u f (nI i)) (fun z => z.1 = 0 ∧ (∀ a, a ≠ 2 → z.2 a = f a) ∧ (∀ k, k < i → z.2 2 k = f 2 k) ∧ ∀ k, i ≤ k → k < 313 → z.2 2 k = f 1 k)
  | 0, i, f, h1, h2 => by omega
  | u + 1, i, f, h1, h2 => by
    unfold cl_X12_tries_7
    refine kO_le (fun h => ?_) (fun h => ?_)
    · have h3 : 313 ≤ i := (nI_le_iff (a := 313) (b := i) (by omega) (by omega)).mp h
      exact kO_some ⟨rfl, fun a _ => rfl, fun k _ => rfl, fun k h4 h5 => by omega⟩
    · have h3 : ¬ 313 ≤ i := fun q => h ((nI_le_iff (a := 313) (b := i) (by omega) (by omega)).mpr q)
      refine kO_chk (nI_kin (by omega) (by omega)) (kO_chk (nI_kin (by omega) (by omega)) (kO_mem (kO_let ?_)))
      rw [nI_clamp (by omega)]
      have := lp_tries u (i + 1) (kup f 2 i (f 1 i)) (by omega) (by omega)
      refine kO_mono (show kO (cl_X12_tries_7 u (kup f 2 i (f 1 i)) (nI i + 1)) _ by rw [nI_1]; exact this) (fun z hz => ?_)
      obtain ⟨h4, h5, h6, h7⟩ := hz
      refine ⟨h4, fun a ha => by rw [h5 a ha, kup_ne _ _ _ ha], fun k hk => by rw [h6 k (by omega), kup_nk (by omega)], fun k h8 h9 => ?_⟩
      by_cases hk : k = i
      · rw [hk, h6 i (by omega), kup_at]
      · rw [h7 k (by omega) h9, kup_ne _ _ _ (by decide)]
theorem m_tries {g : kMem} : kO (cf_X12_tries g) (fun z => z.1 = 0 ∧ (∀ a, a ≠ 0 → a ≠ 2 → z.2 a = g a) ∧ z.2 0 = upd (g 0) 18 0 ∧ cut (z.2 2) = cut (g 1)) := by
  unfold cf_X12_tries
  refine kO_mem (kO_mono (lp_tries 3000 0 _ (by omega) (by omega)) (fun z hz => ?_))
  obtain ⟨h4, h5, -, h7⟩ := hz
  refine ⟨h4, fun a h0 h2 => by rw [h5 a h2, kup_ne _ _ _ h0], by rw [h5 0 (by decide), kup_eq], cut_eq fun j hj => by rw [h7 j (by omega) hj, kup_ne _ _ _ (by decide)]⟩
theorem lp_comes : ∀ (u i : Nat) (f : kMem), i ≤ 313 → 313 < i + u → kO (cl_X12_comesBack_2 u f (nI i)) (fun z => z.1 = 0 ∧ (∀ a, a ≠ 1 → z.2 a = f a) ∧ (∀ k, k < i ∨ 313 ≤ k → z.2 1 k = f 1 k) ∧ ∀ k, i ≤ k → k < 313 → z.2 1 k = f 2 k)
  | 0, i, f, h1, h2 => by omega
  | u + 1, i, f, h1, h2 => by
    unfold cl_X12_comesBack_2
    refine kO_le (fun h => ?_) (fun h => ?_)
    · have h3 : 313 ≤ i := (nI_le_iff (a := 313) (b := i) (by omega) (by omega)).mp h
      exact kO_some ⟨rfl, fun a _ => rfl, fun k _ => rfl, fun k h4 h5 => by omega⟩
    · have h3 : ¬ 313 ≤ i := fun q => h ((nI_le_iff (a := 313) (b := i) (by omega) (by omega)).mpr q)
      refine kO_chk (nI_kin (by omega) (by omega)) (kO_chk (nI_kin (by omega) (by omega)) (kO_mem (kO_let ?_)))
      rw [nI_clamp (by omega)]
      have := lp_comes u (i + 1) (kup f 1 i (f 2 i)) (by omega) (by omega)
      refine kO_mono (show kO (cl_X12_comesBack_2 u (kup f 1 i (f 2 i)) (nI i + 1)) _ by rw [nI_1]; exact this) (fun z hz => ?_)
      obtain ⟨h4, h5, h6, h7⟩ := hz
      refine ⟨h4, fun a ha => by rw [h5 a ha, kup_ne _ _ _ ha], fun k hk => by rw [h6 k (by omega), kup_nk (by omega)], fun k h8 h9 => ?_⟩
      by_cases hk : k = i
      · rw [hk, h6 i (by omega), kup_at]
      · rw [h7 k (by omega) h9, kup_ne _ _ _ (by decide)]
theorem m_comes {g : kMem} (hz : kZ (g 1)) : kO (cf_X12_comesBack g) (fun z => z.1 = 0 ∧ (∀ a, a ≠ 1 → z.2 a = g a) ∧ z.2 1 = cut (g 2)) := by
  unfold cf_X12_comesBack
  refine kO_mono (lp_comes 3000 0 g (by omega) (by omega)) (fun z h => ?_)
  obtain ⟨h4, h5, h6, h7⟩ := h
  refine ⟨h4, h5, ?_⟩
  funext j
  unfold cut
  split
  · exact h7 j (by omega) ‹_›
  · rw [h6 j (by omega)]
    exact hz j (by omega)
theorem lp_save : ∀ (u i : Nat) (f : kMem), i ≤ 313 → 313 < i + u → kO (cl_X12_save_12 u f (nI i)) (fun z => z.1 = f 1 3 ∧ (∀ a, a ≠ 4 → z.2 a = f a) ∧ (∀ k, k < i ∨ 313 ≤ k → z.2 4 k = f 4 k) ∧ ∀ k, i ≤ k → k < 313 → z.2 4 k = f 1 k)
  | 0, i, f, h1, h2 => by omega
  | u + 1, i, f, h1, h2 => by
    unfold cl_X12_save_12
    refine kO_le (fun h => ?_) (fun h => ?_)
    · have h3 : 313 ≤ i := (nI_le_iff (a := 313) (b := i) (by omega) (by omega)).mp h
      exact kO_some ⟨rfl, fun a _ => rfl, fun k _ => rfl, fun k h4 h5 => by omega⟩
    · have h3 : ¬ 313 ≤ i := fun q => h ((nI_le_iff (a := 313) (b := i) (by omega) (by omega)).mpr q)
      refine kO_chk (nI_kin (by omega) (by omega)) (kO_chk (nI_kin (by omega) (by omega)) (kO_mem (kO_let ?_)))
      rw [nI_clamp (by omega)]
      have := lp_save u (i + 1) (kup f 4 i (f 1 i)) (by omega) (by omega)
      refine kO_mono (show kO (cl_X12_save_12 u (kup f 4 i (f 1 i)) (nI i + 1)) _ by rw [nI_1]; exact this) (fun z hz => ?_)
      obtain ⟨h4, h5, h6, h7⟩ := hz
      refine ⟨by rw [h4, kup_ne _ _ _ (by decide)], fun a ha => by rw [h5 a ha, kup_ne _ _ _ ha], fun k hk => by rw [h6 k (by omega), kup_nk (by omega)], fun k h8 h9 => ?_⟩
      by_cases hk : k = i
      · rw [hk, h6 i (by omega), kup_at]
      · rw [h7 k (by omega) h9, kup_ne _ _ _ (by decide)]
theorem m_save {g : kMem} (hz : kZ (g 1)) (hz4 : kZ (g 4)) : kO (cf_X12_save g) (fun z => z.1 = g 1 3 ∧ (∀ a, a ≠ 0 → a ≠ 4 → z.2 a = g a) ∧ z.2 0 = upd (upd (g 0) 18 0) 5 1 ∧ z.2 4 = g 1) := by
  unfold cf_X12_save
  refine kO_mem (kO_mem (kO_mono (lp_save 3000 0 _ (by omega) (by omega)) (fun z h => ?_)))
  obtain ⟨h4, h5, h6, h7⟩ := h
  refine ⟨by rw [h4]; rfl, fun a h0 h1 => by rw [h5 a h1, kup_ne _ _ _ h0, kup_ne _ _ _ h0], by rw [h5 0 (by decide), kup_eq, kup_eq], ?_⟩
  funext j
  by_cases hj : j < 313
  · rw [h7 j (by omega) hj]
    rfl
  · rw [h6 j (by omega), hz j (by omega)]
    exact hz4 j (by omega)
theorem lp_undo {c : Nat} (hc : c < 8) : ∀ (u i : Nat) (f : kMem), i ≤ 313 → 313 < i + u → f 0 3 = nI c → kO (cl_X12_undo_30 u f (nI i)) (fun z => z.1 = nI c ∧ (∀ a, a ≠ 1 → z.2 a = f a) ∧ (∀ k, k < i ∨ 313 ≤ k → z.2 1 k = f 1 k) ∧ ∀ k, i ≤ k → k < 313 → z.2 1 k = f 3 (313 * c + k))
  | 0, i, f, h1, h2, h0 => by omega
  | u + 1, i, f, h1, h2, h0 => by
    unfold cl_X12_undo_30
    refine kO_le (fun h => ?_) (fun h => ?_)
    · have h3 : 313 ≤ i := (nI_le_iff (a := 313) (b := i) (by omega) (by omega)).mp h
      exact kO_some ⟨h0, fun a _ => rfl, fun k _ => rfl, fun k h4 h5 => by omega⟩
    · have h3 : ¬ 313 ≤ i := fun q => h ((nI_le_iff (a := 313) (b := i) (by omega) (by omega)).mpr q)
      have e : (313 : Int32) * f 0 3 + nI i = nI (313 * c + i) := by rw [h0, show (313 : Int32) = nI 313 from rfl, nI_mul, nI_add]
      rw [e]
      refine kO_chk (nI_kin (by omega) (by omega)) (kO_chk (nI_kin (by omega) (by omega)) (kO_mem (kO_let ?_)))
      rw [nI_clamp (by omega), nI_clamp (by omega)]
      have := lp_undo hc u (i + 1) (kup f 1 i (f 3 (313 * c + i))) (by omega) (by omega) (by rw [kup_ne _ _ _ (by decide)]; exact h0)
      refine kO_mono (show kO (cl_X12_undo_30 u (kup f 1 i (f 3 (313 * c + i))) (nI i + 1)) _ by rw [nI_1]; exact this) (fun z hz => ?_)
      obtain ⟨h4, h5, h6, h7⟩ := hz
      refine ⟨h4, fun a ha => by rw [h5 a ha, kup_ne _ _ _ ha], fun k hk => by rw [h6 k (by omega), kup_nk (by omega)], fun k h8 h9 => ?_⟩
      by_cases hk : k = i
      · rw [hk, h6 i (by omega), kup_at]
      · rw [h7 k (by omega) h9, kup_ne _ _ _ (by decide)]
theorem lp_restore {Y : kMem → Option (Int32 × kMem)} {P : Int32 × kMem → Prop} : ∀ (u i : Nat) (f : kMem), i ≤ 313 → 313 < i + u → (∀ f1 : kMem, (∀ a, a ≠ 1 → f1 a = f a) → (∀ k, k < i ∨ 313 ≤ k → f1 1 k = f 1 k) → (∀ k, i ≤ k → k < 313 → f1 1 k = f 4 k) → kO (Y f1) P) → kO (cl_X12_restore_20 Y u f (nI i)) P
  | 0, i, f, h1, h2, h0 => by omega
  | u + 1, i, f, h1, h2, h0 => by
    unfold cl_X12_restore_20
    refine kO_le (fun h => ?_) (fun h => ?_)
    · have h3 : 313 ≤ i := (nI_le_iff (a := 313) (b := i) (by omega) (by omega)).mp h
      exact h0 f (fun a _ => rfl) (fun k _ => rfl) (fun k h4 h5 => by omega)
    · have h3 : ¬ 313 ≤ i := fun q => h ((nI_le_iff (a := 313) (b := i) (by omega) (by omega)).mpr q)
      refine kO_chk (nI_kin (by omega) (by omega)) (kO_chk (nI_kin (by omega) (by omega)) (kO_mem (kO_let ?_)))
      rw [nI_clamp (by omega)]
      refine show kO (cl_X12_restore_20 Y u (kup f 1 i (f 4 i)) (nI i + 1)) _ from ?_
      rw [nI_1]
      refine lp_restore u (i + 1) (kup f 1 i (f 4 i)) (by omega) (by omega) (fun f1 h5 h6 h7 => h0 f1 (fun a ha => by rw [h5 a ha, kup_ne _ _ _ ha]) (fun k hk => by rw [h6 k (by omega), kup_nk (by omega)]) (fun k h8 h9 => ?_))
      by_cases hk : k = i
      · rw [hk, h6 i (by omega), kup_at]
      · rw [h7 k (by omega) h9, kup_ne _ _ _ (by decide)]
theorem lp_keep1 {Y : kMem → Option (Int32 × kMem)} {P : Int32 × kMem → Prop} : ∀ (u i : Nat) (f : kMem), i ≤ 2191 → 2191 < i + u → (∀ f1 : kMem, (∀ a, a ≠ 3 → f1 a = f a) → (∀ k, k < i → f1 3 k = f 3 k) → (∀ k, i ≤ k → k < 2191 → f1 3 k = f 3 (313 + k)) → kO (Y f1) P) → kO (cl_X12_keeps_11 Y u f (nI i)) P
  | 0, i, f, h1, h2, h0 => by omega
  | u + 1, i, f, h1, h2, h0 => by
    unfold cl_X12_keeps_11
    refine kO_le (fun h => ?_) (fun h => ?_)
    · have h3 : 2191 ≤ i := (nI_le_iff (a := 2191) (b := i) (by omega) (by omega)).mp h
      exact h0 f (fun a _ => rfl) (fun k _ => rfl) (fun k h4 h5 => by omega)
    · have h3 : ¬ 2191 ≤ i := fun q => h ((nI_le_iff (a := 2191) (b := i) (by omega) (by omega)).mpr q)
      have e : (313 : Int32) + nI i = nI (313 + i) := nI_add 313 i
      rw [e]
      refine kO_chk (nI_kin (by omega) (by omega)) (kO_chk (nI_kin (by omega) (by omega)) (kO_mem (kO_let ?_)))
      rw [nI_clamp (by omega), nI_clamp (by omega)]
      refine show kO (cl_X12_keeps_11 Y u (kup f 3 i (f 3 (313 + i))) (nI i + 1)) _ from ?_
      rw [nI_1]
      refine lp_keep1 u (i + 1) (kup f 3 i (f 3 (313 + i))) (by omega) (by omega) (fun f1 h5 h6 h7 => h0 f1 (fun a ha => by rw [h5 a ha, kup_ne _ _ _ ha]) (fun k hk => by rw [h6 k (by omega), kup_nk (by omega)]) (fun k h8 h9 => ?_))
      by_cases hk : k = i
      · rw [hk, h6 i (by omega), kup_at]
      · rw [h7 k (by omega) h9, kup_nk (by omega)]
theorem lp_keep2 {Y : kMem → Option (Int32 × kMem)} {P : Int32 × kMem → Prop} {c : Nat} (hc : c < 8) : ∀ (u i : Nat) (f : kMem), i ≤ 313 → 313 < i + u → f 0 3 = nI c → (∀ f1 : kMem, (∀ a, a ≠ 3 → f1 a = f a) → (∀ k, k < 313 * c + i ∨ 313 * c + 313 ≤ k → f1 3 k = f 3 k) → (∀ k, i ≤ k → k < 313 → f1 3 (313 * c + k) = f 2 k) → kO (Y f1) P) → kO (cl_X12_keeps_52 Y u f (nI i)) P
  | 0, i, f, h1, h2, h9, h0 => by omega
  | u + 1, i, f, h1, h2, h9, h0 => by
    unfold cl_X12_keeps_52
    refine kO_le (fun h => ?_) (fun h => ?_)
    · have h3 : 313 ≤ i := (nI_le_iff (a := 313) (b := i) (by omega) (by omega)).mp h
      exact h0 f (fun a _ => rfl) (fun k _ => rfl) (fun k h4 h5 => by omega)
    · have h3 : ¬ 313 ≤ i := fun q => h ((nI_le_iff (a := 313) (b := i) (by omega) (by omega)).mpr q)
      have e : (313 : Int32) * f 0 3 + nI i = nI (313 * c + i) := by rw [h9, show (313 : Int32) = nI 313 from rfl, nI_mul, nI_add]
      rw [e]
      refine kO_chk (nI_kin (by omega) (by omega)) (kO_chk (nI_kin (by omega) (by omega)) (kO_mem (kO_let ?_)))
      rw [nI_clamp (by omega), nI_clamp (by omega)]
      refine show kO (cl_X12_keeps_52 Y u (kup f 3 (313 * c + i) (f 2 i)) (nI i + 1)) _ from ?_
      rw [nI_1]
      refine lp_keep2 hc u (i + 1) (kup f 3 (313 * c + i) (f 2 i)) (by omega) (by omega) (by rw [kup_ne _ _ _ (by decide)]; exact h9) (fun f1 h5 h6 h7 => h0 f1 (fun a ha => by rw [h5 a ha, kup_ne _ _ _ ha]) (fun k hk => by rw [h6 k (by omega), kup_nk (by omega)]) (fun k h8 h9 => ?_))
      by_cases hk : k = i
      · rw [hk, h6 (313 * c + i) (by omega), kup_at]
      · rw [h7 k (by omega) h9, kup_ne _ _ _ (by decide)]
