/-! sets of colours, the least sum and the first best order -/
def mem (S c : Nat) : Bool := S.testBit c
def del (S c : Nat) : Nat := if S.testBit c = true then S - 2 ^ c else S
def pc (S : Nat) : Nat := (if mem S 0 = true then 1 else 0) + (if mem S 1 = true then 1 else 0) + (if mem S 2 = true then 1 else 0) + (if mem S 3 = true then 1 else 0) + (if mem S 4 = true then 1 else 0) + (if mem S 5 = true then 1 else 0)
theorem bit_mem : ∀ S, S < 64 → ∀ c, c < 6 → ((nI S >>> (nI c &&& 31)) &&& 1) = (if mem S c = true then 1 else 0) := by decide +kernel
theorem bit_del : ∀ S, S < 64 → ∀ c, c < 6 → nI S &&& ((1 <<< (nI c &&& 31)) ^^^ (-1)) = nI (del S c) := by decide +kernel
theorem del_mem0 : ∀ S, S < 64 → ∀ c, c < 6 → ∀ i, i < 6 → mem (del S c) i = (mem S i && !decide (i = c)) := by decide +kernel
theorem del_lt0 : ∀ S, S < 64 → ∀ c, c < 6 → del S c < 64 ∧ (mem S c = true → del S c < S ∧ pc (del S c) + 1 = pc S) := by decide +kernel
theorem pc_le0 : ∀ S, S < 64 → pc S ≤ 6 ∧ (pc S = 0 → S = 0) ∧ (S ≠ 0 → ∃ c, c < 6 ∧ mem S c = true) := by decide +kernel
theorem mem_0 (c : Nat) : mem 0 c = false := Nat.zero_testBit c
def sub (S A : Nat) : Prop := ∀ c, c < 6 → mem S c = true → mem A c = true
theorem bit_sub0 : ∀ S, S < 64 → ∀ A, A < 64 → ((nI S &&& (nI A ^^^ (-1)) = 0) ↔ ∀ c, c < 6 → mem S c = true → mem A c = true) := by decide +kernel
theorem sub_del {S A c : Nat} (h : sub S A) (hS : S < 64) (hc : c < 6) : sub (del S c) A := fun i hi hm => by
  rw [del_mem0 S hS c hc i hi] at hm
  simp at hm
  exact h i hi hm.1
/-- the first least of F over the colours i .. i+k-1 that are in S, with its F -/
def fm (F : Nat → Nat) (S : Nat) : Nat → Nat → Option (Nat × Nat)
  | 0, _ => none
  | k + 1, i => match fm F S k (i + 1) with
    | none => if mem S i = true then some (F i, i) else none
    | some z => if mem S i = true ∧ F i ≤ z.1 then some (F i, i) else some z
theorem fm_congr {F G : Nat → Nat} {S : Nat} : ∀ k i, (∀ c, i ≤ c → c < i + k → mem S c = true → F c = G c) → fm F S k i = fm G S k i
  | 0, _, _ => rfl
  | k + 1, i, h => by
    unfold fm
    rw [fm_congr k (i + 1) (fun c h1 h2 h3 => h c (by omega) (by omega) h3)]
    by_cases hm : mem S i = true
    · rw [h i (by omega) (by omega) hm]
    · simp only [hm, false_and, if_false]
      rfl
theorem fm_none {F : Nat → Nat} {S : Nat} : ∀ k i, fm F S k i = none → ∀ c, i ≤ c → c < i + k → mem S c = false
  | 0, i, _, c, h1, h2 => by omega
  | k + 1, i, h, c, h1, h2 => by
    unfold fm at h
    split at h
    · rename_i he
      split at h
      · cases h
      · rename_i hm
        by_cases hc : c = i
        · subst hc
          simpa using hm
        · exact fm_none k (i + 1) he c (by omega) (by omega)
    · split at h
      · cases h
      · cases h
theorem fm_no {F : Nat → Nat} {S : Nat} : ∀ k i, (∀ c, mem S c = false) → fm F S k i = none
  | 0, _, _ => rfl
  | k + 1, i, h => by
    unfold fm
    rw [fm_no k (i + 1) h, h i]
    rfl
theorem fm_some {F : Nat → Nat} {S : Nat} {z : Nat × Nat} : ∀ k i, fm F S k i = some z → mem S z.2 = true ∧ i ≤ z.2 ∧ z.2 < i + k ∧ z.1 = F z.2
  | 0, i, h => by cases h
  | k + 1, i, h => by
    unfold fm at h
    split at h
    · split at h
      · cases h
        exact ⟨‹_›, by omega, by omega, rfl⟩
      · cases h
    · rename_i z' he
      split at h
      · rename_i hm
        cases h
        exact ⟨hm.1, by omega, by omega, rfl⟩
      · cases h
        obtain ⟨h1, h2, h3, h4⟩ := fm_some k (i + 1) he
        exact ⟨h1, by omega, by omega, h4⟩
def fst0 (z : Option (Nat × Nat)) : Nat := match z with
  | none => 0
  | some z => z.1
def snd0 (z : Option (Nat × Nat)) : Nat := match z with
  | none => 0
  | some z => z.2
def bL (P : Nat → Nat → Nat) : Nat → Nat → Nat → Nat
  | 0, _, _ => 0
  | n + 1, S, r => fst0 (fm (fun c => P r c + bL P n (del S c) (c + 1)) S 6 0)
def bS (P : Nat → Nat → Nat) (S r : Nat) : Nat := bL P 6 S r
def bF (P : Nat → Nat → Nat) (S r : Nat) : Nat → Nat := fun c => P r c + bS P (del S c) (c + 1)
def bZ (P : Nat → Nat → Nat) (S r : Nat) : Option (Nat × Nat) := fm (bF P S r) S 6 0
def bc (P : Nat → Nat → Nat) (S r : Nat) : Nat := snd0 (bZ P S r)
def bo (P : Nat → Nat → Nat) : Nat → Nat → Nat → Nat
  | 0, S, r => bc P S r
  | j + 1, S, r => bo P j (del S (bc P S r)) (bc P S r + 1)
section BEST
variable {P : Nat → Nat → Nat}
theorem bL_0 (n r : Nat) : bL P n 0 r = 0 := by
  cases n with
  | zero => rfl
  | succ n =>
    unfold bL
    rw [fm_no 6 0 mem_0]
    rfl
theorem bL_ind : ∀ n m S r, S < 64 → pc S ≤ n → pc S ≤ m → bL P n S r = bL P m S r
  | 0, m, S, r, hS, h1, h2 => by
    rw [(pc_le0 S hS).2.1 (by omega), bL_0, bL_0]
  | n + 1, 0, S, r, hS, h1, h2 => by
    rw [(pc_le0 S hS).2.1 (by omega), bL_0, bL_0]
  | n + 1, m + 1, S, r, hS, h1, h2 => by
    unfold bL
    rw [fm_congr 6 0 (fun c c1 c2 hm => by
      obtain ⟨d1, d2⟩ := del_lt0 S hS c (by omega)
      have d3 := (d2 hm).2
      rw [bL_ind n m (del S c) (c + 1) d1 (by omega) (by omega)])]
theorem bS_eq {S r : Nat} (hS : S < 64) : bS P S r = fst0 (bZ P S r) := by
  show fst0 (fm (fun c => P r c + bL P 5 (del S c) (c + 1)) S 6 0) = _
  unfold bZ
  rw [fm_congr 6 0 (fun c c1 c2 hm => by
    obtain ⟨d1, d2⟩ := del_lt0 S hS c (by omega)
    have d3 := (d2 hm).2
    have d4 := (pc_le0 S hS).1
    show _ = P r c + bL P 6 (del S c) (c + 1)
    rw [bL_ind 5 6 (del S c) (c + 1) d1 (by omega) (by omega)])]
  rfl
theorem bS_0 (r : Nat) : bS P 0 r = 0 := bL_0 6 r
theorem bZ_some {S r : Nat} (hS : S < 64) (h0 : S ≠ 0) : ∃ z, bZ P S r = some z ∧ mem S z.2 = true ∧ z.2 < 6 ∧ z.1 = bF P S r z.2 := by
  rcases h : bZ P S r with _ | z
  · obtain ⟨c, hc, hm⟩ := (pc_le0 S hS).2.2 h0
    have := fm_none 6 0 h c (by omega) (by omega)
    rw [this] at hm
    cases hm
  · obtain ⟨h1, h2, h3, h4⟩ := fm_some 6 0 h
    exact ⟨z, rfl, h1, by omega, h4⟩
theorem bc_mem {S r : Nat} (hS : S < 64) (h0 : S ≠ 0) : mem S (bc P S r) = true ∧ bc P S r < 6 ∧ bS P S r = bF P S r (bc P S r) := by
  obtain ⟨z, hz, h1, h2, h3⟩ := bZ_some (P := P) (r := r) hS h0
  have e : bc P S r = z.2 := by
    unfold bc
    rw [hz]
    rfl
  rw [e, bS_eq hS, hz]
  exact ⟨h1, h2, h3⟩
theorem bL_le (hP : ∀ r c, P r c ≤ 46) : ∀ n S r, bL P n S r ≤ 46 * n
  | 0, _, _ => Nat.le_refl 0
  | n + 1, S, r => by
    unfold bL
    rcases h : fm (fun c => P r c + bL P n (del S c) (c + 1)) S 6 0 with _ | z
    · exact Nat.zero_le _
    · obtain ⟨-, -, -, h4⟩ := fm_some 6 0 h
      show z.1 ≤ _
      rw [h4]
      have h5 := hP r z.2
      have h6 := bL_le hP n (del S z.2) (z.2 + 1)
      show P r z.2 + bL P n (del S z.2) (z.2 + 1) ≤ _
      omega
theorem bS_le (hP : ∀ r c, P r c ≤ 46) (S r : Nat) : bS P S r ≤ 276 := bL_le hP 6 S r
theorem bF_le (hP : ∀ r c, P r c ≤ 46) (S r c : Nat) : bF P S r c ≤ 322 := by
  have h5 := hP r c
  have h6 := bS_le hP (del S c) (c + 1)
  show P r c + bS P (del S c) (c + 1) ≤ 322
  omega
end BEST
/-- the shots of a purge: r is 0 for none, or a colour and 1 -/
def pu (v : Nat → Int32) (c0 r c : Nat) : Nat := if r = 0 ∨ c0 < r ∨ c0 ≤ c ∨ r = c + 1 then 0 else 1 + ((v (16 + (r - 1))).toNatClampNeg - (v (16 + c)).toNatClampNeg) * (v 14).toNatClampNeg
theorem pu_le {B c0 c1 c2 c3 : Nat} {v : Nat → Int32} (hI : InvC B v c0 c1 c2 c3) (r c : Nat) : pu v c0 r c ≤ 46 := by
  obtain ⟨⟨-, -, -, -, hc0, -⟩, ⟨-, -, -, -, -, ⟨p, p1, -, p3⟩, -⟩, ⟨d1, -⟩, -⟩ := id hI
  unfold pu
  split
  · omega
  · rename_i h
    obtain ⟨s, s1, -, s3⟩ := d1 (r - 1) (by omega)
    obtain ⟨t, t1, -, t3⟩ := d1 c (by omega)
    rw [s1, t1, p1, nI_clamp (by omega), nI_clamp (by omega), nI_clamp (by omega)]
    have : (s - t) * p ≤ 9 * 5 := Nat.mul_le_mul (by omega) p3
    omega
theorem c_pu {B c0 c1 c2 c3 : Nat} {f : kMem} {v : Nat → Int32} (hF : FRel f v) (hI : InvC B v c0 c1 c2 c3) {r c : Nat} (hr : r ≤ 6) (hc : c < 6) : cf_X0_purgeShots f (nI r - 1) (nI c) = some (nI (pu v c0 r c), f) := by
  obtain ⟨⟨g0, -, -, -, hc0, -⟩, ⟨-, -, -, -, -, ⟨p, p1, -, p3⟩, -⟩, ⟨d1, -⟩, -⟩ := id hI
  have f0 : f 1 0 = nI c0 := (FRel_at hF (j := 0) (a := 1) (k := 0) (by decide)).symm.trans g0
  unfold cf_X0_purgeShots
  rcases r with _ | a
  · rw [c_isC0 (by omega) f0 (fun ⟨m, e, hm⟩ => nI_m1 (n := m) (by omega) (e.symm.trans (by decide))), kbind_s, keq00]
    rfl
  rw [nI_pred]
  by_cases ha : a < c0
  rotate_left
  · rw [c_isC0 (by omega) f0 (fun ⟨m, e, hm⟩ => ha (by have := nI_inj (by omega) (by omega) e; omega)), kbind_s, keq00]
    unfold pu
    rw [if_pos (by omega)]
    rfl
  rw [c_isC1 (by omega) f0 ⟨a, rfl, ha⟩, kbind_s, keq10]
  by_cases hb : c < c0
  rotate_left
  · rw [c_isC0 (by omega) f0 (fun ⟨m, e, hm⟩ => hb (by have := nI_inj (by omega) (by omega) e; omega)), kbind_s, keq00]
    unfold pu
    rw [if_pos (by omega)]
    rfl
  rw [c_isC1 (by omega) f0 ⟨c, rfl, hb⟩, kbind_s, keq10]
  by_cases hac : a = c
  · rw [keq_t (by rw [hac])]
    unfold pu
    rw [if_pos (by omega)]
    rfl
  · obtain ⟨s, s1, -, s3⟩ := d1 a (by omega)
    obtain ⟨t, t1, -, t3⟩ := d1 c (by omega)
    have q3 : v 14 = f 7 2 := FRel_at hF (j := 14) (a := 7) (k := 2) (by decide)
    unfold pu
    rw [keq_f (fun e => hac (nI_inj (by omega) (by omega) e)), kchk_t (nI_kin (by omega) (by decide)), kchk_t (nI_kin (by omega) (by decide)), nI_clamp (by omega), nI_clamp (by omega), if_neg (by omega), ← FRel_at hF (mcs_2 a (by omega)), ← FRel_at hF (mcs_2 c (by omega)), ← q3, show a + 1 - 1 = a by omega, s1, t1, p1, pmax s (by omega) t (by omega), nI_mul, show (1 : Int32) = nI 1 from rfl, nI_add, nI_clamp (by omega), nI_clamp (by omega), nI_clamp (by omega)]
theorem m_pu {B c0 c1 c2 c3 : Nat} {g : kMem} (hI : InvC B (g 1) c0 c1 c2 c3) {r c : Nat} (hr : r ≤ c0) (hc : c < c0) : cf_X12_purgeOf g (nI r - 1) (nI c) = some (nI (pu (g 1) c0 r c), g) := by
  obtain ⟨⟨g0, -, -, -, hc0, -⟩, ⟨-, -, -, -, -, ⟨p, p1, -, p3⟩, -⟩, ⟨d1, -⟩, -⟩ := id hI
  unfold cf_X12_purgeOf
  rcases r with _ | a
  · rw [klt_t (by decide)]
    rfl
  rw [nI_pred, klt_f (nI_not_neg (by omega))]
  by_cases hac : a = c
  · rw [keq_t (by rw [hac])]
    unfold pu
    rw [if_pos (by omega)]
    rfl
  · obtain ⟨s, s1, -, s3⟩ := d1 a (by omega)
    obtain ⟨t, t1, -, t3⟩ := d1 c (by omega)
    unfold pu
    rw [keq_f (fun e => hac (nI_inj (by omega) (by omega) e)), show (16 : Int32) = nI 16 from rfl, nI_add, nI_add, kchk_t (nI_kin (by omega) (by decide)), kchk_t (nI_kin (by omega) (by decide)), nI_clamp (n := 16 + a) (by omega), nI_clamp (n := 16 + c) (by omega), if_neg (by omega), show a + 1 - 1 = a by omega, s1, t1, p1, pmax s (by omega) t (by omega), nI_mul, show (1 : Int32) = nI 1 from rfl, nI_add, nI_clamp (by omega), nI_clamp (by omega), nI_clamp (by omega)]
