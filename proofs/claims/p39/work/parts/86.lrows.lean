/-! rows for the law's own methods: a unit of cost is 2 cells and 12 slots -/
def mlbind {ρ : Type} (Z : Option (Int64 × kMem)) (Y : Int64 → kMem → Option ρ) : Option ρ := match Z with
  | none => none
  | some q => Y q.1 q.2
def mfbind {ρ : Type} (Z : Option (UInt32 × kMem)) (Y : UInt32 → kMem → Option ρ) : Option ρ := match Z with
  | none => none
  | some q => Y q.1 q.2
def mdbind {ρ : Type} (Z : Option (UInt64 × kMem)) (Y : UInt64 → kMem → Option ρ) : Option ρ := match Z with
  | none => none
  | some q => Y q.1 q.2
theorem mlbind_some {ρ : Type} {Z : Option (Int64 × kMem)} {Y : Int64 → kMem → Option ρ} {z : ρ} (h : mlbind Z Y = some z) : ∃ r1 f1, Z = some (r1, f1) ∧ Y r1 f1 = some z := by
  cases Z with
  | none => cases h
  | some q => exact ⟨q.1, q.2, rfl, h⟩
theorem mfbind_some {ρ : Type} {Z : Option (UInt32 × kMem)} {Y : UInt32 → kMem → Option ρ} {z : ρ} (h : mfbind Z Y = some z) : ∃ r1 f1, Z = some (r1, f1) ∧ Y r1 f1 = some z := by
  cases Z with
  | none => cases h
  | some q => exact ⟨q.1, q.2, rfl, h⟩
theorem mdbind_some {ρ : Type} {Z : Option (UInt64 × kMem)} {Y : UInt64 → kMem → Option ρ} {z : ρ} (h : mdbind Z Y = some z) : ∃ r1 f1, Z = some (r1, f1) ∧ Y r1 f1 = some z := by
  cases Z with
  | none => cases h
  | some q => exact ⟨q.1, q.2, rfl, h⟩
section LR
variable {p : Program} {l : Launch} {e : Env} {R : Room} {s : State} {m : MethodId} {args : Array Value} {below : List Frame} {meth : Method} {c : Code} {Z : mZ} {A : Nat → Prop} {ss : List (Nat × Nat × List Int32)} {own : String} {cc : ByteArray} {nL : Nat} {ret : Option FieldType} {d mc ms : Nat} {ρ : Type} {QF : State → Prop} {z : ρ} {u U : Nat} {wr : va_W} {pc : Nat} {lv : List (Nat × Value)} {st rest : List Value} {f : kMem} {ad : Nat → Nat}
theorem M_nil {ws : va_W} {k0 n0 : Nat} {X : Option ρ} (kk : M p l e R s m args below meth c Z A nL QF z k0 n0 (ws ++ []) pc lv st X) : M p l e R s m args below meth c Z A nL QF z k0 n0 ws pc lv st X := by
  rw [List.append_nil] at kk
  exact kk
theorem M_bW (C : MC p l e R s m args below meth c Z A ss RL cc nL ret d mc ms) (hA : ∀ q, s.heap.size ≤ q → A q) (hU : 2 * U ≤ mc ∧ 12 * U ≤ ms) {y : MethodName} {b1 : ByteArray} {nL1 : Nat} {ret1 : Option FieldType} {hh : List (Nat × Nat × Nat × Nat)} {d1 v idx n : Nat} {As : List Value} {ss1 : List (Nat × Nat × List Int32)} {Z1 : Option (Int32 × kMem)} {Y : Int32 → kMem → Option ρ} (hM : ∀ r f1, Z1 = some (r, f1) → mMet l Z y (.codeWith y b1 nL1 ret1 hh) d1 (2 * v) (12 * v) As (kw (wC Z.1 ad) f) ss1 (mQi (wC Z.1 ad) (r, f1))) (hY : kYW y b1 nL1 ret1 hh n) (hlink : Cond.methodLink RL idx y ∈ kGT) (hss : mSS s Z A (kw (wC Z.1 ad) f ++ wr) (kw (wC Z.1 ad) f) ss1) (hd1 : d1 < d) (hu : u + v ≤ U) (hn : As.length = n) (hst : st = As.reverse ++ rest) (hrest : (rest.map fun v => v.category).sum ≤ 8) (hdg : decode cc pc = .ok (.invokestatic idx, 3))
    (kk : ∀ (r : Int32) (f1 : kMem), M p l e R s m args below meth c Z A nL QF z (2 * (u + v)) (12 * (u + v)) (kw (wC Z.1 ad) f1 ++ wr) (pc + 3) lv (.int r :: rest) (Y r f1)) : M p l e R s m args below meth c Z A nL QF z (2 * u) (12 * u) (kw (wC Z.1 ad) f ++ wr) (pc) lv (st) (kbind Z1 Y) := by
  intro hX
  obtain ⟨r, f1, h1, h2⟩ := kbind_some hX
  refine M_callW C hA (wr := wr) (X := Y r f1) (hM r f1 h1) hY hlink hss (List.Perm.refl _) hd1 ⟨by omega, by omega⟩ hn hst hrest hdg (fun v' wo hq => ?_) h2
  obtain ⟨rfl, rfl⟩ := hq
  have h := kk r f1
  rw [Nat.mul_add, Nat.mul_add] at h
  exact h
theorem M_bS (C : MC p l e R s m args below meth c Z A ss RL cc nL ret d mc ms) (hA : ∀ q, s.heap.size ≤ q → A q) (hU : 2 * U ≤ mc ∧ 12 * U ≤ ms) {y : MethodName} {b1 : ByteArray} {nL1 : Nat} {ret1 : Option FieldType} {d1 v idx n : Nat} {As : List Value} {ss1 : List (Nat × Nat × List Int32)} {Z1 : Option (Int32 × kMem)} {Y : Int32 → kMem → Option ρ} (hM : ∀ r f1, Z1 = some (r, f1) → mMet l Z y (.code y b1 nL1 ret1) d1 (2 * v) (12 * v) As (kw (wC Z.1 ad) f) ss1 (mQi (wC Z.1 ad) (r, f1))) (hY : kYS y b1 nL1 ret1 n) (hlink : Cond.methodLink RL idx y ∈ kGT) (hss : mSS s Z A (kw (wC Z.1 ad) f ++ wr) (kw (wC Z.1 ad) f) ss1) (hd1 : d1 < d) (hu : u + v ≤ U) (hn : As.length = n) (hst : st = As.reverse ++ rest) (hrest : (rest.map fun v => v.category).sum ≤ 8) (hdg : decode cc pc = .ok (.invokestatic idx, 3))
    (kk : ∀ (r : Int32) (f1 : kMem), M p l e R s m args below meth c Z A nL QF z (2 * (u + v)) (12 * (u + v)) (kw (wC Z.1 ad) f1 ++ wr) (pc + 3) lv (.int r :: rest) (Y r f1)) : M p l e R s m args below meth c Z A nL QF z (2 * u) (12 * u) (kw (wC Z.1 ad) f ++ wr) (pc) lv (st) (kbind Z1 Y) := by
  intro hX
  obtain ⟨r, f1, h1, h2⟩ := kbind_some hX
  refine M_callS C hA (wr := wr) (X := Y r f1) (hM r f1 h1) hY hlink hss (List.Perm.refl _) hd1 ⟨by omega, by omega⟩ hn hst hrest hdg (fun v' wo hq => ?_) h2
  obtain ⟨rfl, rfl⟩ := hq
  have h := kk r f1
  rw [Nat.mul_add, Nat.mul_add] at h
  exact h
theorem M_bWl (C : MC p l e R s m args below meth c Z A ss RL cc nL ret d mc ms) (hA : ∀ q, s.heap.size ≤ q → A q) (hU : 2 * U ≤ mc ∧ 12 * U ≤ ms) {y : MethodName} {b1 : ByteArray} {nL1 : Nat} {ret1 : Option FieldType} {hh : List (Nat × Nat × Nat × Nat)} {d1 v idx n : Nat} {As : List Value} {ss1 : List (Nat × Nat × List Int32)} {Z1 : Option (Int64 × kMem)} {Y : Int64 → kMem → Option ρ} (hM : ∀ r f1, Z1 = some (r, f1) → mMet l Z y (.codeWith y b1 nL1 ret1 hh) d1 (2 * v) (12 * v) As (kw (wC Z.1 ad) f) ss1 (mQl (wC Z.1 ad) (r, f1))) (hY : kYW y b1 nL1 ret1 hh n) (hlink : Cond.methodLink RL idx y ∈ kGT) (hss : mSS s Z A (kw (wC Z.1 ad) f ++ wr) (kw (wC Z.1 ad) f) ss1) (hd1 : d1 < d) (hu : u + v ≤ U) (hn : As.length = n) (hst : st = As.reverse ++ rest) (hrest : (rest.map fun v => v.category).sum ≤ 8) (hdg : decode cc pc = .ok (.invokestatic idx, 3))
    (kk : ∀ (r : Int64) (f1 : kMem), M p l e R s m args below meth c Z A nL QF z (2 * (u + v)) (12 * (u + v)) (kw (wC Z.1 ad) f1 ++ wr) (pc + 3) lv (.long r :: rest) (Y r f1)) : M p l e R s m args below meth c Z A nL QF z (2 * u) (12 * u) (kw (wC Z.1 ad) f ++ wr) (pc) lv (st) (mlbind Z1 Y) := by
  intro hX
  obtain ⟨r, f1, h1, h2⟩ := mlbind_some hX
  refine M_callW C hA (wr := wr) (X := Y r f1) (hM r f1 h1) hY hlink hss (List.Perm.refl _) hd1 ⟨by omega, by omega⟩ hn hst hrest hdg (fun v' wo hq => ?_) h2
  obtain ⟨rfl, rfl⟩ := hq
  have h := kk r f1
  rw [Nat.mul_add, Nat.mul_add] at h
  exact h
theorem M_bSl (C : MC p l e R s m args below meth c Z A ss RL cc nL ret d mc ms) (hA : ∀ q, s.heap.size ≤ q → A q) (hU : 2 * U ≤ mc ∧ 12 * U ≤ ms) {y : MethodName} {b1 : ByteArray} {nL1 : Nat} {ret1 : Option FieldType} {d1 v idx n : Nat} {As : List Value} {ss1 : List (Nat × Nat × List Int32)} {Z1 : Option (Int64 × kMem)} {Y : Int64 → kMem → Option ρ} (hM : ∀ r f1, Z1 = some (r, f1) → mMet l Z y (.code y b1 nL1 ret1) d1 (2 * v) (12 * v) As (kw (wC Z.1 ad) f) ss1 (mQl (wC Z.1 ad) (r, f1))) (hY : kYS y b1 nL1 ret1 n) (hlink : Cond.methodLink RL idx y ∈ kGT) (hss : mSS s Z A (kw (wC Z.1 ad) f ++ wr) (kw (wC Z.1 ad) f) ss1) (hd1 : d1 < d) (hu : u + v ≤ U) (hn : As.length = n) (hst : st = As.reverse ++ rest) (hrest : (rest.map fun v => v.category).sum ≤ 8) (hdg : decode cc pc = .ok (.invokestatic idx, 3))
    (kk : ∀ (r : Int64) (f1 : kMem), M p l e R s m args below meth c Z A nL QF z (2 * (u + v)) (12 * (u + v)) (kw (wC Z.1 ad) f1 ++ wr) (pc + 3) lv (.long r :: rest) (Y r f1)) : M p l e R s m args below meth c Z A nL QF z (2 * u) (12 * u) (kw (wC Z.1 ad) f ++ wr) (pc) lv (st) (mlbind Z1 Y) := by
  intro hX
  obtain ⟨r, f1, h1, h2⟩ := mlbind_some hX
  refine M_callS C hA (wr := wr) (X := Y r f1) (hM r f1 h1) hY hlink hss (List.Perm.refl _) hd1 ⟨by omega, by omega⟩ hn hst hrest hdg (fun v' wo hq => ?_) h2
  obtain ⟨rfl, rfl⟩ := hq
  have h := kk r f1
  rw [Nat.mul_add, Nat.mul_add] at h
  exact h
theorem M_bWf (C : MC p l e R s m args below meth c Z A ss RL cc nL ret d mc ms) (hA : ∀ q, s.heap.size ≤ q → A q) (hU : 2 * U ≤ mc ∧ 12 * U ≤ ms) {y : MethodName} {b1 : ByteArray} {nL1 : Nat} {ret1 : Option FieldType} {hh : List (Nat × Nat × Nat × Nat)} {d1 v idx n : Nat} {As : List Value} {ss1 : List (Nat × Nat × List Int32)} {Z1 : Option (UInt32 × kMem)} {Y : UInt32 → kMem → Option ρ} (hM : ∀ r f1, Z1 = some (r, f1) → mMet l Z y (.codeWith y b1 nL1 ret1 hh) d1 (2 * v) (12 * v) As (kw (wC Z.1 ad) f) ss1 (mQf (wC Z.1 ad) (r, f1))) (hY : kYW y b1 nL1 ret1 hh n) (hlink : Cond.methodLink RL idx y ∈ kGT) (hss : mSS s Z A (kw (wC Z.1 ad) f ++ wr) (kw (wC Z.1 ad) f) ss1) (hd1 : d1 < d) (hu : u + v ≤ U) (hn : As.length = n) (hst : st = As.reverse ++ rest) (hrest : (rest.map fun v => v.category).sum ≤ 8) (hdg : decode cc pc = .ok (.invokestatic idx, 3))
    (kk : ∀ (r : UInt32) (f1 : kMem), M p l e R s m args below meth c Z A nL QF z (2 * (u + v)) (12 * (u + v)) (kw (wC Z.1 ad) f1 ++ wr) (pc + 3) lv (.float r :: rest) (Y r f1)) : M p l e R s m args below meth c Z A nL QF z (2 * u) (12 * u) (kw (wC Z.1 ad) f ++ wr) (pc) lv (st) (mfbind Z1 Y) := by
  intro hX
  obtain ⟨r, f1, h1, h2⟩ := mfbind_some hX
  refine M_callW C hA (wr := wr) (X := Y r f1) (hM r f1 h1) hY hlink hss (List.Perm.refl _) hd1 ⟨by omega, by omega⟩ hn hst hrest hdg (fun v' wo hq => ?_) h2
  obtain ⟨rfl, rfl⟩ := hq
  have h := kk r f1
  rw [Nat.mul_add, Nat.mul_add] at h
  exact h
theorem M_bSf (C : MC p l e R s m args below meth c Z A ss RL cc nL ret d mc ms) (hA : ∀ q, s.heap.size ≤ q → A q) (hU : 2 * U ≤ mc ∧ 12 * U ≤ ms) {y : MethodName} {b1 : ByteArray} {nL1 : Nat} {ret1 : Option FieldType} {d1 v idx n : Nat} {As : List Value} {ss1 : List (Nat × Nat × List Int32)} {Z1 : Option (UInt32 × kMem)} {Y : UInt32 → kMem → Option ρ} (hM : ∀ r f1, Z1 = some (r, f1) → mMet l Z y (.code y b1 nL1 ret1) d1 (2 * v) (12 * v) As (kw (wC Z.1 ad) f) ss1 (mQf (wC Z.1 ad) (r, f1))) (hY : kYS y b1 nL1 ret1 n) (hlink : Cond.methodLink RL idx y ∈ kGT) (hss : mSS s Z A (kw (wC Z.1 ad) f ++ wr) (kw (wC Z.1 ad) f) ss1) (hd1 : d1 < d) (hu : u + v ≤ U) (hn : As.length = n) (hst : st = As.reverse ++ rest) (hrest : (rest.map fun v => v.category).sum ≤ 8) (hdg : decode cc pc = .ok (.invokestatic idx, 3))
    (kk : ∀ (r : UInt32) (f1 : kMem), M p l e R s m args below meth c Z A nL QF z (2 * (u + v)) (12 * (u + v)) (kw (wC Z.1 ad) f1 ++ wr) (pc + 3) lv (.float r :: rest) (Y r f1)) : M p l e R s m args below meth c Z A nL QF z (2 * u) (12 * u) (kw (wC Z.1 ad) f ++ wr) (pc) lv (st) (mfbind Z1 Y) := by
  intro hX
  obtain ⟨r, f1, h1, h2⟩ := mfbind_some hX
  refine M_callS C hA (wr := wr) (X := Y r f1) (hM r f1 h1) hY hlink hss (List.Perm.refl _) hd1 ⟨by omega, by omega⟩ hn hst hrest hdg (fun v' wo hq => ?_) h2
  obtain ⟨rfl, rfl⟩ := hq
  have h := kk r f1
  rw [Nat.mul_add, Nat.mul_add] at h
  exact h
theorem M_bWd (C : MC p l e R s m args below meth c Z A ss RL cc nL ret d mc ms) (hA : ∀ q, s.heap.size ≤ q → A q) (hU : 2 * U ≤ mc ∧ 12 * U ≤ ms) {y : MethodName} {b1 : ByteArray} {nL1 : Nat} {ret1 : Option FieldType} {hh : List (Nat × Nat × Nat × Nat)} {d1 v idx n : Nat} {As : List Value} {ss1 : List (Nat × Nat × List Int32)} {Z1 : Option (UInt64 × kMem)} {Y : UInt64 → kMem → Option ρ} (hM : ∀ r f1, Z1 = some (r, f1) → mMet l Z y (.codeWith y b1 nL1 ret1 hh) d1 (2 * v) (12 * v) As (kw (wC Z.1 ad) f) ss1 (mQd (wC Z.1 ad) (r, f1))) (hY : kYW y b1 nL1 ret1 hh n) (hlink : Cond.methodLink RL idx y ∈ kGT) (hss : mSS s Z A (kw (wC Z.1 ad) f ++ wr) (kw (wC Z.1 ad) f) ss1) (hd1 : d1 < d) (hu : u + v ≤ U) (hn : As.length = n) (hst : st = As.reverse ++ rest) (hrest : (rest.map fun v => v.category).sum ≤ 8) (hdg : decode cc pc = .ok (.invokestatic idx, 3))
    (kk : ∀ (r : UInt64) (f1 : kMem), M p l e R s m args below meth c Z A nL QF z (2 * (u + v)) (12 * (u + v)) (kw (wC Z.1 ad) f1 ++ wr) (pc + 3) lv (.double r :: rest) (Y r f1)) : M p l e R s m args below meth c Z A nL QF z (2 * u) (12 * u) (kw (wC Z.1 ad) f ++ wr) (pc) lv (st) (mdbind Z1 Y) := by
  intro hX
  obtain ⟨r, f1, h1, h2⟩ := mdbind_some hX
  refine M_callW C hA (wr := wr) (X := Y r f1) (hM r f1 h1) hY hlink hss (List.Perm.refl _) hd1 ⟨by omega, by omega⟩ hn hst hrest hdg (fun v' wo hq => ?_) h2
  obtain ⟨rfl, rfl⟩ := hq
  have h := kk r f1
  rw [Nat.mul_add, Nat.mul_add] at h
  exact h
theorem M_bSd (C : MC p l e R s m args below meth c Z A ss RL cc nL ret d mc ms) (hA : ∀ q, s.heap.size ≤ q → A q) (hU : 2 * U ≤ mc ∧ 12 * U ≤ ms) {y : MethodName} {b1 : ByteArray} {nL1 : Nat} {ret1 : Option FieldType} {d1 v idx n : Nat} {As : List Value} {ss1 : List (Nat × Nat × List Int32)} {Z1 : Option (UInt64 × kMem)} {Y : UInt64 → kMem → Option ρ} (hM : ∀ r f1, Z1 = some (r, f1) → mMet l Z y (.code y b1 nL1 ret1) d1 (2 * v) (12 * v) As (kw (wC Z.1 ad) f) ss1 (mQd (wC Z.1 ad) (r, f1))) (hY : kYS y b1 nL1 ret1 n) (hlink : Cond.methodLink RL idx y ∈ kGT) (hss : mSS s Z A (kw (wC Z.1 ad) f ++ wr) (kw (wC Z.1 ad) f) ss1) (hd1 : d1 < d) (hu : u + v ≤ U) (hn : As.length = n) (hst : st = As.reverse ++ rest) (hrest : (rest.map fun v => v.category).sum ≤ 8) (hdg : decode cc pc = .ok (.invokestatic idx, 3))
    (kk : ∀ (r : UInt64) (f1 : kMem), M p l e R s m args below meth c Z A nL QF z (2 * (u + v)) (12 * (u + v)) (kw (wC Z.1 ad) f1 ++ wr) (pc + 3) lv (.double r :: rest) (Y r f1)) : M p l e R s m args below meth c Z A nL QF z (2 * u) (12 * u) (kw (wC Z.1 ad) f ++ wr) (pc) lv (st) (mdbind Z1 Y) := by
  intro hX
  obtain ⟨r, f1, h1, h2⟩ := mdbind_some hX
  refine M_callS C hA (wr := wr) (X := Y r f1) (hM r f1 h1) hY hlink hss (List.Perm.refl _) hd1 ⟨by omega, by omega⟩ hn hst hrest hdg (fun v' wo hq => ?_) h2
  obtain ⟨rfl, rfl⟩ := hq
  have h := kk r f1
  rw [Nat.mul_add, Nat.mul_add] at h
  exact h
/-- a static method that touches no cell of the object: its answer is known -/
theorem M_pS (C : MC p l e R s m args below meth c Z A ss RL cc nL ret d mc ms) (hA : ∀ q, s.heap.size ≤ q → A q) (hU : 2 * U ≤ mc ∧ 12 * U ≤ ms) {y : MethodName} {b1 : ByteArray} {nL1 : Nat} {ret1 : Option FieldType} {d1 idx n : Nat} {As : List Value} {va : Value} {X : Option ρ} (hM : mMet l Z y (.code y b1 nL1 ret1) d1 0 0 As [] [] (fun r wo => r = some va ∧ wo = [])) (hY : kYS y b1 nL1 ret1 n) (hlink : Cond.methodLink RL idx y ∈ kGT) (hd1 : d1 < d) (hu : u ≤ U) (hn : As.length = n) (hst : st = As.reverse ++ rest) (hrest : (rest.map fun v => v.category).sum ≤ 8) (hdg : decode cc pc = .ok (.invokestatic idx, 3))
    (kk : M p l e R s m args below meth c Z A nL QF z (2 * u) (12 * u) (wr) (pc + 3) lv (va :: rest) (X)) : M p l e R s m args below meth c Z A nL QF z (2 * u) (12 * u) (wr) (pc) lv (st) (X) := by
  refine M_callS C hA (wi1 := []) (wr := wr) hM hY hlink mSS_nil (List.Perm.refl _) hd1 ⟨by omega, by omega⟩ hn hst hrest hdg (fun v' wo hq => ?_)
  obtain ⟨rfl, rfl⟩ := hq
  exact kk
end LR
