/-! memory as a function: cell, place -> number; the world w: classes, addresses, shapes, how many cells -/
abbrev kMem : Type := Nat → Nat → Int32
abbrev kSh : Type := (Nat × Nat) ⊕ (Nat × List (Option Nat))
abbrev kG : Type := va_G × ClassId × ClassId × ClassId
abbrev KW : Type := kG × (Nat → Nat) × (Nat → kSh) × Nat
def kad (w : KW) (a : Nat) : Nat := w.2.1 a
def ksh (w : KW) (a : Nat) : kSh := w.2.2.1 a
def kn (w : KW) : Nat := w.2.2.2
def ktys (w : KW) : List (ClassId × FieldType) := [(w.1.2.1, .int), (w.1.2.2.1, .char), (w.1.2.2.2, .object "MouldFloor$Floor")]
def kfs (w : KW) (g : Nat → Int32) : Nat → List (Option Nat) → List Value
  | _, [] => []
  | k, none :: r => .int (g k) :: kfs w g (k + 1) r
  | k, some b :: r => .ref (kad w b) :: kfs w g (k + 1) r
def kcell (w : KW) (f : kMem) (a : Nat) : va_E := match ksh w a with
  | .inl (0, n) => .inl (w.1.2.1, n, .inl (f a))
  | .inl (1, n) => .inl (w.1.2.2.1, n, .inl (f a))
  | .inl (_, n) => .inl (w.1.2.2.2, n, .inr (.inr (.inr (.inr (fun i => some (kad w (25 * (i + 2))))))))
  | .inr (ci, fl) => .inr (ci, kfs w (f a) 0 fl)
def kw (w : KW) (f : kMem) : va_W := (List.range (kn w)).map (fun a => (kad w a, kcell w f a))
def kup (f : kMem) (a k : Nat) (v : Int32) : kMem := fun b => if b = a then upd (f b) k v else f b
theorem kup_ne (f : kMem) {a b : Nat} (k : Nat) (v : Int32) (h : b ≠ a) : kup f a k v b = f b := by simp [kup, h]
theorem kup_eq (f : kMem) (a k : Nat) (v : Int32) : kup f a k v a = upd (f a) k v := by simp [kup]
theorem kfs_len (w : KW) (g : Nat → Int32) : ∀ (fl : List (Option Nat)) (i : Nat), (kfs w g i fl).length = fl.length
  | [], _ => rfl
  | none :: r, i => by simp [kfs, kfs_len w g r]
  | some _ :: r, i => by simp [kfs, kfs_len w g r]
theorem kfs_get (w : KW) (g : Nat → Int32) : ∀ (fl : List (Option Nat)) (i k : Nat), fl[k]? = some none → (kfs w g i fl)[k]? = some (.int (g (i + k)))
  | [], _, _, h => by simp at h
  | none :: r, i, 0, h => by simp [kfs]
  | none :: r, i, k + 1, h => by
    have h2 := kfs_get w g r (i + 1) k (by simpa using h)
    simp only [kfs, List.getElem?_cons_succ]
    rw [h2, show i + 1 + k = i + (k + 1) by omega]
  | some b :: r, i, 0, h => by simp at h
  | some b :: r, i, k + 1, h => by
    have h2 := kfs_get w g r (i + 1) k (by simpa using h)
    simp only [kfs, List.getElem?_cons_succ]
    rw [h2, show i + 1 + k = i + (k + 1) by omega]
theorem kfs_getr (w : KW) (g : Nat → Int32) {b : Nat} : ∀ (fl : List (Option Nat)) (i k : Nat), fl[k]? = some (some b) → (kfs w g i fl)[k]? = some (.ref (kad w b))
  | [], _, _, h => by simp at h
  | none :: r, i, 0, h => by simp at h
  | none :: r, i, k + 1, h => by
    have h2 := kfs_getr w g r (i + 1) k (by simpa using h)
    simpa [kfs] using h2
  | some b :: r, i, 0, h => by simp at h; simp [kfs, h]
  | some b :: r, i, k + 1, h => by
    have h2 := kfs_getr w g r (i + 1) k (by simpa using h)
    simpa [kfs] using h2
theorem kfs_congr (w : KW) {g g' : Nat → Int32} : ∀ (fl : List (Option Nat)) (i : Nat), (∀ j, i ≤ j → g j = g' j) → kfs w g i fl = kfs w g' i fl
  | [], _, _ => rfl
  | none :: r, i, h => by simp only [kfs]; rw [h i (Nat.le_refl i), kfs_congr w r (i + 1) (fun j hj => h j (by omega))]
  | some b :: r, i, h => by simp only [kfs]; rw [kfs_congr w r (i + 1) (fun j hj => h j (by omega))]
theorem kfs_set (w : KW) (g : Nat → Int32) (v : Int32) : ∀ (fl : List (Option Nat)) (i k : Nat), fl[k]? = some none → (kfs w g i fl).set k (.int v) = kfs w (upd g (i + k) v) i fl
  | [], _, _, h => by simp at h
  | none :: r, i, 0, h => by
    simp only [kfs, List.set_cons_zero, Nat.add_zero]
    rw [kfs_congr w r (i + 1) (g := g) (g' := upd g i v) (fun j hj => by unfold upd; rw [if_neg (by omega)])]
    simp [upd]
  | none :: r, i, k + 1, h => by
    have h2 := kfs_set w g v r (i + 1) k (by simpa using h)
    simp only [kfs, List.set_cons_succ]
    rw [h2, show i + 1 + k = i + (k + 1) by omega]
    congr 1
    unfold upd
    rw [if_neg (by omega)]
  | some b :: r, i, 0, h => by simp at h
  | some b :: r, i, k + 1, h => by
    have h2 := kfs_set w g v r (i + 1) k (by simpa using h)
    simp only [kfs, List.set_cons_succ]
    rw [h2, show i + 1 + k = i + (k + 1) by omega]
theorem kcell_congr (w : KW) {f f' : kMem} {a : Nat} (h : f a = f' a) : kcell w f a = kcell w f' a := by unfold kcell; rw [h]
theorem kw_get {w : KW} {f : kMem} {a : Nat} (h : a < kn w) : (kw w f)[a]? = some (kad w a, kcell w f a) := by simp [kw, h]
theorem kw_set {w : KW} {f f' : kMem} {a : Nat} {e : va_E} (he : kcell w f' a = e) (ho : ∀ b, b ≠ a → f' b = f b) : (kw w f).set a (kad w a, e) = kw w f' := by
  apply List.ext_getElem?
  intro i
  rw [List.getElem?_set]
  by_cases hi : a = i
  · subst hi
    by_cases hl : a < kn w
    · simp [kw, hl, he]
    · simp [kw, hl]
  · rw [if_neg hi]
    by_cases hl : i < kn w
    · simp only [kw_get hl, kcell_congr w (ho i (fun q => hi q.symm))]
    · simp [kw, hl]
theorem kw_D {w : KW} {f f' : kMem} {A : Nat → Prop} (h : va_D A (kw w f)) : va_D A (kw w f') := by
  have key : ∀ (i : Nat) (p : Nat × va_E), (kw w f')[i]? = some p → (kw w f)[i]? = some (p.1, kcell w f i) := by
    intro i p hp
    by_cases hl : i < kn w
    · rw [kw_get hl] at hp ⊢
      cases hp
      rfl
    · simp [kw, hl] at hp
  exact ⟨fun i j p q hp hq e => h.1 i j _ _ (key i p hp) (key j q hq) e, fun k q hk => h.2 k (q.1, kcell w f k) (key k q hk)⟩
def kA (w : KW) (sz : Nat) : Nat → Prop := fun q => (∃ a, a < kn w ∧ q = kad w a) ∨ sz ≤ q
theorem kA_mono {w : KW} {a b q : Nat} (h : a ≤ b) (hq : kA w b q) : kA w a q := hq.elim Or.inl (fun z => Or.inr (Nat.le_trans h z))
theorem kw_DA {w : KW} {f f' : kMem} {A : Nat → Prop} {sz : Nat} (h : va_D A (kw w f)) : va_D (kA w sz) (kw w f') := by
  have h' := kw_D (f' := f') h
  refine ⟨h'.1, fun k q hk => ?_⟩
  by_cases hl : k < kn w
  · rw [kw_get hl] at hk
    cases hk
    exact Or.inl ⟨k, hl, rfl⟩
  · simp [kw, hl] at hk
def kGT : List Cond := lw_tbl.filter goodWord
theorem kgt {w : Cond} (h : w ∈ lw_tbl) (hg : goodWord w = true) : w ∈ kGT := List.mem_filter.mpr ⟨h, hg⟩
theorem kgt_good {ws : List Cond} (h : ∀ w ∈ ws, w ∈ kGT) : GoodIn kGT ws := fun w hw => ⟨h w hw, good_of_word (List.mem_filter.mp (h w hw)).2⟩
def kRm (d mc ms : Nat) : Room := { frames := d, cells := mc, slots := ms, locals := 64 * d }
def kNW : List Cond := [.methodLinkNest "MouldFloor" 11 ⟨"MouldFloor$Floor", "<init>", "()V"⟩ "MouldFloor", .methodLinkNest "MouldFloor$Floor" 11 ⟨"MouldFloor$Catalogue", "<init>", "()V"⟩ "MouldFloor", .methodLinkNest "MouldFloor$Floor" 20 ⟨"MouldFloor$Dryers", "<init>", "()V"⟩ "MouldFloor", .methodLinkNest "MouldFloor$Floor" 27 ⟨"MouldFloor$Stock", "<init>", "()V"⟩ "MouldFloor", .methodLinkNest "MouldFloor$Floor" 34 ⟨"MouldFloor$Orders", "<init>", "()V"⟩ "MouldFloor", .methodLinkNest "MouldFloor$History" 17 ⟨"MouldFloor$Floor", "<init>", "()V"⟩ "MouldFloor", .methodLinkNest "MouldFloor" 28 ⟨"MouldFloor$Reasons", "<init>", "()V"⟩ "MouldFloor", .methodLinkNest "MouldFloor" 35 ⟨"MouldFloor$Text", "<init>", "()V"⟩ "MouldFloor", .methodLinkNest "MouldFloor" 42 ⟨"MouldFloor$FamilyText", "<init>", "()V"⟩ "MouldFloor", .methodLinkNest "MouldFloor" 49 ⟨"MouldFloor$ProgramText", "<init>", "()V"⟩ "MouldFloor", .methodLinkNest "MouldFloor" 56 ⟨"MouldFloor$ColourOrders", "<init>", "()V"⟩ "MouldFloor", .methodLinkNest "MouldFloor$Catalogue" 40 ⟨"MouldFloor", "copyRow", "([I[I)V"⟩ "MouldFloor", .methodLinkNest "MouldFloor$Dryers" 21 ⟨"MouldFloor", "copyRow", "([I[I)V"⟩ "MouldFloor", .methodLinkNest "MouldFloor$Stock" 27 ⟨"MouldFloor", "copyRow", "([I[I)V"⟩ "MouldFloor", .methodLinkNest "MouldFloor$Orders" 34 ⟨"MouldFloor", "copyRow", "([I[I)V"⟩ "MouldFloor", .methodLinkNest "MouldFloor$Catalogue" 44 ⟨"MouldFloor", "isWithin", "(III)Z"⟩ "MouldFloor", .methodLinkNest "MouldFloor$ProgramText" 55 ⟨"MouldFloor", "isWithin", "(III)Z"⟩ "MouldFloor", .methodLinkNest "MouldFloor$Floor" 95 ⟨"MouldFloor", "isWithin", "(III)Z"⟩ "MouldFloor", .methodLinkNest "MouldFloor$Dryers" 26 ⟨"MouldFloor", "isWithin", "(III)Z"⟩ "MouldFloor", .methodLinkNest "MouldFloor$Orders" 38 ⟨"MouldFloor", "isWithin", "(III)Z"⟩ "MouldFloor", .fieldLinkNest "MouldFloor$Catalogue" 81 "MouldFloor" "LEAST_SETTINGS" "[I" "MouldFloor", .fieldLinkNest "MouldFloor$Catalogue" 84 "MouldFloor" "MOST_SETTINGS" "[I" "MouldFloor"]
theorem kNW_moved {s U : State} (hW : s.WarmedH U.vm) (h : ∀ z ∈ kNW, va_Nw z s) : ∀ z ∈ kNW, va_Nw z U := by
  intro z hz
  have h1 := h z hz
  simp only [kNW, List.mem_cons, List.not_mem_nil, or_false] at hz
  rcases hz with rfl | rfl | rfl | rfl | rfl | rfl | rfl | rfl | rfl | rfl | rfl | rfl | rfl | rfl | rfl | rfl | rfl | rfl | rfl | rfl | rfl | rfl
  all_goals first | exact va_Nw.warmM hW h1 | exact va_Nw.warmF hW h1
theorem kNW_same {s U : State} (hW : s.vm = U.vm) (h : ∀ z ∈ kNW, va_Nw z s) : ∀ z ∈ kNW, va_Nw z U := fun z hz => va_Nw.same (List.all_eq_true.mp (show kNW.all (fun z => z.onTables) = true by decide +kernel) z hz) hW (h z hz)
/-- the static arrays of the class, at the addresses 1000 .. of w -/
def kst (n : Nat) (j : Nat) : Int32 := match n, j with
  | 0, 0 => 480 | 0, 1 => 60 | 0, 2 => 2 | 0, 3 => 10
  | 1, 0 => 60 | 1, _ => 0
  | 2, 0 => 9999 | 2, 1 => 999 | 2, 2 => 5 | 2, 3 => 99
  | _, _ => 0
def kS1 (w : KW) (n : String) (k : Nat) (sz : Nat) (U : State) (H : Heap) : Prop := va_Z "MouldFloor" n "[I" (.ref (kad w (1000 + k))) (kA w sz) U H ∧ va_T .int (kad w (1000 + k)) 4 (fun j => .int (kst k j)) (kA w sz) U H
def kS (w : KW) (sz : Nat) (U : State) (H : Heap) : Prop := kS1 w "LEAST_SETTINGS" 1 sz U H ∧ kS1 w "MOST_SETTINGS" 2 sz U H
theorem kS1_to {w : KW} {n : String} {k sz sz' : Nat} {s U : State} {H H1 : Heap} (hsz : sz ≤ sz') (hvm : s.vm.Alike U.vm) (hq : ∀ a : Nat, a < H.size → ¬ kA w sz a → H1[a]? = H[a]?) (h : kS1 w n k sz s H) : kS1 w n k sz' U H1 :=
  ⟨((va_Z.moved hvm h.1).kept hq).narrow (fun q hq => kA_mono hsz hq), ((va_T.moved hvm h.2).kept hq).narrow (fun q hq => kA_mono hsz hq)⟩
theorem kS_to {w : KW} {sz sz' : Nat} {s U : State} {H H1 : Heap} (hsz : sz ≤ sz') (hvm : s.vm.Alike U.vm) (hq : ∀ a : Nat, a < H.size → ¬ kA w sz a → H1[a]? = H[a]?) (h : kS w sz s H) : kS w sz' U H1 :=
  ⟨kS1_to hsz hvm hq h.1, kS1_to hsz hvm hq h.2⟩
def kB (w : KW) (f : kMem) (U : State) : Prop := va_P w.1.1 vwCl (kw w f) U.heap ∧ va_K w.1.1 vwCl (ktys w) U ∧ va_D (fun _ => True) (kw w f) ∧ (∀ z ∈ kNW, va_Nw z U) ∧ kS w U.heap.size U U.heap
def krv (ret : Option FieldType) (r : Int32) : Option Value := match ret with
  | none => none
  | some _ => some (.int r)
def kQ (w : KW) (ret : Option FieldType) (r : Int32) (fo : kMem) (sz : Nat) : Array Value → State → Outcome → State → Prop := fun _ st oc t => oc = .returned (krv ret r) ∧ va_P w.1.1 vwCl (kw w fo) t.heap ∧ va_F (kA w sz) st t
def kMet (l : Launch) (w : KW) (y : MethodName) (b : ByteArray) (nL : Nat) (ret : Option FieldType) (d : Nat) (av : List Value) (f : kMem) (r : Int32) (fo : kMem) : Prop :=
  ∀ sz, Met l y (.code y b nL ret :: kGT) (kRm d 0 0) (va_Pc av (fun U => U.heap.size = sz ∧ kB w f U)) (kQ w ret r fo sz) 0 0 (kA w sz)
def KC (p : Program) (l : Launch) (e : Env) (R : Room) (s : State) (m : MethodId) (args : Array Value) (below : List Frame) (meth : Method) (c : Code) (w : KW) (own : String) (cc : ByteArray) (nL : Nat) (ret : Option FieldType) (d mc ms : Nat) : Prop :=
  CallFix p m c cc nL s args kGT own ∧ va_K w.1.1 vwCl (ktys w) s ∧ (∀ z ∈ kNW, va_Nw z s) ∧ kS w s.heap.size s s.heap ∧ va_D (kA w s.heap.size) (kw w (fun _ _ => 0)) ∧ meth.sig.returnType = ret ∧ meth.locks = false ∧ R = kRm d mc ms
def K {ρ : Type} (p : Program) (l : Launch) (e : Env) (R : Room) (s : State) (m : MethodId) (args : Array Value) (below : List Frame) (meth : Method) (c : Code) (w : KW) (nL : Nat) (QF : State → Prop) (z : ρ) (k0 n0 : Nat) (f : kMem) (pc : Nat) (lv : List (Nat × Value)) (st : List Value) (X : Option ρ) : Prop :=
  X = some z → ∀ (H : Heap) (locs : List Loc) (ls : Array Slot), va_P w.1.1 vwCl (kw w f) H → va_S (kA w s.heap.size) s.heap H locs → lv_has ls nL lv →
    W p l e R s m args below meth c H locs k0 n0 QF (F0 m pc ls st)
def kQF (below : List Frame) (w : KW) (ret : Option FieldType) (args : Array Value) (s : State) (z : Int32 × kMem) : State → Prop := MQ below (kQ w ret z.1 z.2 s.heap.size) args s 0 0 (kA w s.heap.size)
theorem kMet_of {l : Launch} {w : KW} {y : MethodName} {b : ByteArray} {nL : Nat} {ret : Option FieldType} {d : Nat} {av : List Value} {lv : List (Nat × Value)} {f : kMem} {r : Int32} {fo : kMem} {X : Option (Int32 × kMem)} {own : String}
    (hy : plainName y.cls = true) (how : y.cls = own) (hn : (lg_sl av).length ≤ nL) (hlv : lv_args 0 av = lv) (hX : X = some (r, fo))
    (body : ∀ (p : Program) (e : Env) (R : Room) (s : State) (m : MethodId) (args : Array Value) (below : List Frame) (meth : Method) (c : Code), KC p l e R s m args below meth c w own b nL ret d 0 0 → K p l e R s m args below meth c w nL (kQF below w ret args s (r, fo)) (r, fo) 0 0 f 0 lv [] X) : kMet l w y b nL ret d av f r fo := by
  intro sz
  refine Met.ofW (cc := b) (maxL := nL) (ret := ret) hy rfl ?_
  intro p e s m args below meth c s₁ B hml hv
  obtain ⟨rfl, hsz, hP, hK, hD0, hN, hST⟩ := hv
  have hts := atoms_spec (ws := .code y b nL ret :: kGT) B.pre
  have hown : s.vm.findClass y.cls = some m.cls := findClass_of_methodNamed B.named
  subst hsz
  subst how
  have hl := lv_entry av (n := nL) hn
  rw [lg_entry_eq]
  rw [hlv] at hl
  exact body p e _ s m _ below meth c ⟨⟨B.exec, B.bytes, hml, hown, fun w hw => hts w (List.mem_cons_of_mem _ hw)⟩, hK, hN, hST, kw_DA hD0, B.returns, B.notSynchronized, rfl⟩ hX s.heap [] _ hP va_S.rf hl
section KROWS
variable {p : Program} {l : Launch} {e : Env} {R : Room} {s : State} {m : MethodId} {args : Array Value} {below : List Frame} {meth : Method} {c : Code} {w : KW} {own : String} {cc : ByteArray} {nL : Nat} {ret : Option FieldType} {d mc ms : Nat} {ρ : Type} {QF : State → Prop} {z : ρ} {k0 n0 : Nat} {f : kMem} {pc : Nat} {lv : List (Nat × Value)} {st : List Value} {X : Option ρ}
theorem K_iconst (C : KC p l e R s m args below meth c w own cc nL ret d mc ms) {n : Int} {v : Int32} (hv : Int32.ofInt n = v) (hdg : decode cc pc = .ok (.iconst n, 1)) (kk : K p l e R s m args below meth c w nL QF z k0 n0 f (pc + 1) lv (.int v :: st) (X)) : K p l e R s m args below meth c w nL QF z k0 n0 f pc lv (st) (X) := fun hX H locs ls hP hS hl => lv_iconst C.1.1 C.1.2.1 hdg hv (kk hX H locs ls hP hS hl)
theorem K_bipush (C : KC p l e R s m args below meth c w own cc nL ret d mc ms) {n : Int} {v : Int32} (hv : (Int8.ofInt n).toInt32 = v) (hdg : decode cc pc = .ok (.bipush n, 2)) (kk : K p l e R s m args below meth c w nL QF z k0 n0 f (pc + 2) lv (.int v :: st) (X)) : K p l e R s m args below meth c w nL QF z k0 n0 f pc lv (st) (X) := fun hX H locs ls hP hS hl => lv_bipush C.1.1 C.1.2.1 hdg hv (kk hX H locs ls hP hS hl)
theorem K_sipush (C : KC p l e R s m args below meth c w own cc nL ret d mc ms) {n : Int} {v : Int32} (hv : (Int16.ofInt n).toInt32 = v) (hdg : decode cc pc = .ok (.sipush n, 3)) (kk : K p l e R s m args below meth c w nL QF z k0 n0 f (pc + 3) lv (.int v :: st) (X)) : K p l e R s m args below meth c w nL QF z k0 n0 f pc lv (st) (X) := fun hX H locs ls hP hS hl => lv_sipush C.1.1 C.1.2.1 hdg hv (kk hX H locs ls hP hS hl)
theorem K_iload_n (C : KC p l e R s m args below meth c w own cc nL ret d mc ms) {k : Fin 4} {i : Nat} {x : Int32} (q : Nat) (hi : (k : Nat) = i) (hq : lv[q]? = some (i, .int x)) (hdg : decode cc pc = .ok (.iload_n k, 1)) (kk : K p l e R s m args below meth c w nL QF z k0 n0 f (pc + 1) lv (.int x :: st) (X)) : K p l e R s m args below meth c w nL QF z k0 n0 f pc lv (st) (X) := fun hX H locs ls hP hS hl => lv_iload_n C.1.1 C.1.2.1 hdg hi (lv_at hl q hq) (kk hX H locs ls hP hS hl)
theorem K_iload (C : KC p l e R s m args below meth c w own cc nL ret d mc ms) {i : Nat} {x : Int32} (q : Nat) (hq : lv[q]? = some (i, .int x)) (hdg : decode cc pc = .ok (.iload i, 2)) (kk : K p l e R s m args below meth c w nL QF z k0 n0 f (pc + 2) lv (.int x :: st) (X)) : K p l e R s m args below meth c w nL QF z k0 n0 f pc lv (st) (X) := fun hX H locs ls hP hS hl => lv_iload C.1.1 C.1.2.1 hdg (lv_at hl q hq) (kk hX H locs ls hP hS hl)
theorem K_aload_n (C : KC p l e R s m args below meth c w own cc nL ret d mc ms) {k : Fin 4} {i : Nat} {x : Nat} (q : Nat) (hi : (k : Nat) = i) (hq : lv[q]? = some (i, .ref x)) (hdg : decode cc pc = .ok (.aload_n k, 1)) (kk : K p l e R s m args below meth c w nL QF z k0 n0 f (pc + 1) lv (.ref x :: st) (X)) : K p l e R s m args below meth c w nL QF z k0 n0 f pc lv (st) (X) := fun hX H locs ls hP hS hl => lv_aload_n C.1.1 C.1.2.1 hdg hi (lv_at hl q hq) (kk hX H locs ls hP hS hl)
theorem K_aload (C : KC p l e R s m args below meth c w own cc nL ret d mc ms) {i : Nat} {x : Nat} (q : Nat) (hq : lv[q]? = some (i, .ref x)) (hdg : decode cc pc = .ok (.aload i, 2)) (kk : K p l e R s m args below meth c w nL QF z k0 n0 f (pc + 2) lv (.ref x :: st) (X)) : K p l e R s m args below meth c w nL QF z k0 n0 f pc lv (st) (X) := fun hX H locs ls hP hS hl => lv_aload C.1.1 C.1.2.1 hdg (lv_at hl q hq) (kk hX H locs ls hP hS hl)
theorem K_istore_n (C : KC p l e R s m args below meth c w own cc nL ret d mc ms) {k : Fin 4} {i : Nat} {x : Int32} {lv1 : List (Nat × Value)} (hi : (k : Nat) = i) (hn : i < nL) (hl1 : (i, Value.int x) :: lv.filter (fun q => !(q.1 == i) && !(q.1 + 1 == i && q.2.category == 2)) = lv1) (hdg : decode cc pc = .ok (.istore_n k, 1)) (kk : K p l e R s m args below meth c w nL QF z k0 n0 f (pc + 1) lv1 (st) (X)) : K p l e R s m args below meth c w nL QF z k0 n0 f pc lv (.int x :: st) (X) := fun hX H locs ls hP hS hl => lv_istore_n C.1.1 C.1.2.1 hdg hi hl hn hl1 (fun ls1 hl2 => kk hX H locs ls1 hP hS hl2)
theorem K_istore (C : KC p l e R s m args below meth c w own cc nL ret d mc ms) {i : Nat} {x : Int32} {lv1 : List (Nat × Value)} (hn : i < nL) (hl1 : (i, Value.int x) :: lv.filter (fun q => !(q.1 == i) && !(q.1 + 1 == i && q.2.category == 2)) = lv1) (hdg : decode cc pc = .ok (.istore i, 2)) (kk : K p l e R s m args below meth c w nL QF z k0 n0 f (pc + 2) lv1 (st) (X)) : K p l e R s m args below meth c w nL QF z k0 n0 f pc lv (.int x :: st) (X) := fun hX H locs ls hP hS hl => lv_istore C.1.1 C.1.2.1 hdg hl hn hl1 (fun ls1 hl2 => kk hX H locs ls1 hP hS hl2)
theorem K_astore_n (C : KC p l e R s m args below meth c w own cc nL ret d mc ms) {k : Fin 4} {i : Nat} {x : Nat} {lv1 : List (Nat × Value)} (hi : (k : Nat) = i) (hn : i < nL) (hl1 : (i, Value.ref x) :: lv.filter (fun q => !(q.1 == i) && !(q.1 + 1 == i && q.2.category == 2)) = lv1) (hdg : decode cc pc = .ok (.astore_n k, 1)) (kk : K p l e R s m args below meth c w nL QF z k0 n0 f (pc + 1) lv1 (st) (X)) : K p l e R s m args below meth c w nL QF z k0 n0 f pc lv (.ref x :: st) (X) := fun hX H locs ls hP hS hl => lv_astore_n C.1.1 C.1.2.1 hdg hi hl hn hl1 (fun ls1 hl2 => kk hX H locs ls1 hP hS hl2)
theorem K_astore (C : KC p l e R s m args below meth c w own cc nL ret d mc ms) {i : Nat} {x : Nat} {lv1 : List (Nat × Value)} (hn : i < nL) (hl1 : (i, Value.ref x) :: lv.filter (fun q => !(q.1 == i) && !(q.1 + 1 == i && q.2.category == 2)) = lv1) (hdg : decode cc pc = .ok (.astore i, 2)) (kk : K p l e R s m args below meth c w nL QF z k0 n0 f (pc + 2) lv1 (st) (X)) : K p l e R s m args below meth c w nL QF z k0 n0 f pc lv (.ref x :: st) (X) := fun hX H locs ls hP hS hl => lv_astore C.1.1 C.1.2.1 hdg hl hn hl1 (fun ls1 hl2 => kk hX H locs ls1 hP hS hl2)
theorem K_none : K p l e R s m args below meth c w nL QF z k0 n0 f pc lv st none := fun hX => nomatch hX
/-- the answers' words: a name for a number, for a memory; a branch; a check; a call -/
def klet {ρ : Type} (x : Int32) (Y : Int32 → Option ρ) : Option ρ := Y x
def kmem {ρ : Type} (g : kMem) (Y : kMem → Option ρ) : Option ρ := Y g
def klt {ρ : Type} (x y : Int32) (X1 X2 : Option ρ) : Option ρ := if x < y then X1 else X2
def kle {ρ : Type} (x y : Int32) (X1 X2 : Option ρ) : Option ρ := if x ≤ y then X1 else X2
def keq {ρ : Type} (x y : Int32) (X1 X2 : Option ρ) : Option ρ := if x = y then X1 else X2
def kin (i : Int32) (n : Nat) : Bool := decide (0 ≤ i.toInt) && decide (i.toInt < n)
def kchk {ρ : Type} (b : Bool) (X : Option ρ) : Option ρ := cond b X none
def kbind {ρ : Type} (Z : Option (Int32 × kMem)) (Y : Int32 → kMem → Option ρ) : Option ρ := match Z with
  | none => none
  | some q => Y q.1 q.2
theorem kin_in {i : Int32} {n : Nat} (h : kin i n = true) : vp_in i n := by
  simp only [kin, Bool.and_eq_true, decide_eq_true_eq] at h
  exact vp_in_iff.mpr h
theorem kchk_some {ρ : Type} {b : Bool} {X : Option ρ} {z : ρ} (h : kchk b X = some z) : b = true ∧ X = some z := by
  cases b
  · cases h
  · exact ⟨rfl, h⟩
theorem kbind_some {ρ : Type} {Z : Option (Int32 × kMem)} {Y : Int32 → kMem → Option ρ} {z : ρ} (h : kbind Z Y = some z) : ∃ r1 f1, Z = some (r1, f1) ∧ Y r1 f1 = some z := by
  cases Z with
  | none => cases h
  | some q => exact ⟨q.1, q.2, rfl, h⟩
theorem K_sub {lv1 : List (Nat × Value)} (ks : List Nat) (hk : lv_pick lv ks = lv1) (kk : K p l e R s m args below meth c w nL QF z k0 n0 f pc lv1 st X) : K p l e R s m args below meth c w nL QF z k0 n0 f pc lv st X := fun hX H locs ls hP hS hl => kk hX H locs ls hP hS (lv_sub hl ks hk)
theorem K_let {x : Int32} {Y : Int32 → Option ρ} {st1 : List Value} (hst : st = .int x :: st1) (kk : ∀ x1 : Int32, K p l e R s m args below meth c w nL QF z k0 n0 f pc lv (.int x1 :: st1) (Y x1)) : K p l e R s m args below meth c w nL QF z k0 n0 f pc lv st (klet x Y) := by rw [hst]; exact kk x
theorem K_mem {g : kMem} {Y : kMem → Option ρ} (kk : ∀ g : kMem, K p l e R s m args below meth c w nL QF z k0 n0 g pc lv st (Y g)) : K p l e R s m args below meth c w nL QF z k0 n0 g pc lv st (kmem g Y) := kk g
theorem K_chk {b : Bool} (kk : b = true → K p l e R s m args below meth c w nL QF z k0 n0 f pc lv st X) : K p l e R s m args below meth c w nL QF z k0 n0 f pc lv st (kchk b X) := fun hX => kk (kchk_some hX).1 (kchk_some hX).2
theorem K_case {x y : Int32} {X1 X2 : Option ρ} (k1 : x = y → K p l e R s m args below meth c w nL QF z k0 n0 f pc lv st X1) (k2 : ¬ x = y → K p l e R s m args below meth c w nL QF z k0 n0 f pc lv st X2) : K p l e R s m args below meth c w nL QF z k0 n0 f pc lv st (keq x y X1 X2) := by
  intro hX
  unfold keq at hX
  by_cases h : x = y
  · rw [if_pos h] at hX; exact k1 h hX
  · rw [if_neg h] at hX; exact k2 h hX
theorem K_iinc (C : KC p l e R s m args below meth c w own cc nL ret d mc ms) {i k : Nat} {n : Int} {x : Int32} {Y : Int32 → Option ρ} {lv1 : Int32 → List (Nat × Value)} (hk : lv[k]? = some (i, .int x)) (hn : i < nL) (hl1 : ∀ v : Int32, (i, Value.int v) :: lv.filter (fun q => !(q.1 == i) && !(q.1 + 1 == i && q.2.category == 2)) = lv1 v) (hdg : decode cc pc = .ok (.iinc i n, 3)) (kk : ∀ v : Int32, K p l e R s m args below meth c w nL QF z k0 n0 f (pc + 3) (lv1 v) (st) (Y v)) : K p l e R s m args below meth c w nL QF z k0 n0 f pc lv (st) (klet (x + Int32.ofInt n) Y) := fun hX H locs ls hP hS hl => lv_iinc C.1.1 C.1.2.1 hdg hl hk rfl hn (hl1 _) (fun ls1 hl2 => kk _ hX H locs ls1 hP hS hl2)
theorem K_iadd (C : KC p l e R s m args below meth c w own cc nL ret d mc ms) {x y : Int32} (hdg : decode cc pc = .ok (.iadd, 1)) (kk : K p l e R s m args below meth c w nL QF z k0 n0 f (pc + 1) lv (.int (x + y) :: st) (X)) : K p l e R s m args below meth c w nL QF z k0 n0 f pc lv (.int y :: .int x :: st) (X) := fun hX H locs ls hP hS hl => lv_iadd C.1.1 C.1.2.1 hdg  (kk hX H locs ls hP hS hl)
theorem K_isub (C : KC p l e R s m args below meth c w own cc nL ret d mc ms) {x y : Int32} (hdg : decode cc pc = .ok (.isub, 1)) (kk : K p l e R s m args below meth c w nL QF z k0 n0 f (pc + 1) lv (.int (x - y) :: st) (X)) : K p l e R s m args below meth c w nL QF z k0 n0 f pc lv (.int y :: .int x :: st) (X) := fun hX H locs ls hP hS hl => lv_isub C.1.1 C.1.2.1 hdg  (kk hX H locs ls hP hS hl)
theorem K_imul (C : KC p l e R s m args below meth c w own cc nL ret d mc ms) {x y : Int32} (hdg : decode cc pc = .ok (.imul, 1)) (kk : K p l e R s m args below meth c w nL QF z k0 n0 f (pc + 1) lv (.int (x * y) :: st) (X)) : K p l e R s m args below meth c w nL QF z k0 n0 f pc lv (.int y :: .int x :: st) (X) := fun hX H locs ls hP hS hl => lv_imul C.1.1 C.1.2.1 hdg  (kk hX H locs ls hP hS hl)
theorem K_iand (C : KC p l e R s m args below meth c w own cc nL ret d mc ms) {x y : Int32} (hdg : decode cc pc = .ok (.iand, 1)) (kk : K p l e R s m args below meth c w nL QF z k0 n0 f (pc + 1) lv (.int (x &&& y) :: st) (X)) : K p l e R s m args below meth c w nL QF z k0 n0 f pc lv (.int y :: .int x :: st) (X) := fun hX H locs ls hP hS hl => lv_iand C.1.1 C.1.2.1 hdg  (kk hX H locs ls hP hS hl)
theorem K_ior (C : KC p l e R s m args below meth c w own cc nL ret d mc ms) {x y : Int32} (hdg : decode cc pc = .ok (.ior, 1)) (kk : K p l e R s m args below meth c w nL QF z k0 n0 f (pc + 1) lv (.int (x ||| y) :: st) (X)) : K p l e R s m args below meth c w nL QF z k0 n0 f pc lv (.int y :: .int x :: st) (X) := fun hX H locs ls hP hS hl => lv_ior C.1.1 C.1.2.1 hdg  (kk hX H locs ls hP hS hl)
theorem K_ixor (C : KC p l e R s m args below meth c w own cc nL ret d mc ms) {x y : Int32} (hdg : decode cc pc = .ok (.ixor, 1)) (kk : K p l e R s m args below meth c w nL QF z k0 n0 f (pc + 1) lv (.int (x ^^^ y) :: st) (X)) : K p l e R s m args below meth c w nL QF z k0 n0 f pc lv (.int y :: .int x :: st) (X) := fun hX H locs ls hP hS hl => lv_ixor C.1.1 C.1.2.1 hdg  (kk hX H locs ls hP hS hl)
theorem K_icmp_eq (C : KC p l e R s m args below meth c w own cc nL ret d mc ms) {x y : Int32} {off : Int} {tgt : Nat} {Xt Xf : Option ρ} (ht : (pc : Int) + off = (tgt : Int)) (hdg : decode cc pc = .ok (.if_icmp .eq off, 3)) (kt : K p l e R s m args below meth c w nL QF z k0 n0 f (tgt) lv (st) (Xt)) (kf : K p l e R s m args below meth c w nL QF z k0 n0 f (pc + 3) lv (st) (Xf)) : K p l e R s m args below meth c w nL QF z k0 n0 f pc lv (.int y :: .int x :: st) (keq x y Xt Xf) := fun hX H locs ls hP hS hl => lv_icmp_eq C.1.1 C.1.2.1 hdg ht (fun h => kt (by unfold keq at hX; rwa [if_pos h] at hX) H locs ls hP hS hl) (fun h => kf (by unfold keq at hX; rwa [if_neg h] at hX) H locs ls hP hS hl)
theorem K_if_eq (C : KC p l e R s m args below meth c w own cc nL ret d mc ms) {x : Int32} {off : Int} {tgt : Nat} {Xt Xf : Option ρ} (ht : (pc : Int) + off = (tgt : Int)) (hdg : decode cc pc = .ok (.ifCond .eq off, 3)) (kt : K p l e R s m args below meth c w nL QF z k0 n0 f (tgt) lv (st) (Xt)) (kf : K p l e R s m args below meth c w nL QF z k0 n0 f (pc + 3) lv (st) (Xf)) : K p l e R s m args below meth c w nL QF z k0 n0 f pc lv (.int x :: st) (keq x 0 Xt Xf) := fun hX H locs ls hP hS hl => lv_if_eq C.1.1 C.1.2.1 hdg ht (fun h => kt (by unfold keq at hX; rwa [if_pos h] at hX) H locs ls hP hS hl) (fun h => kf (by unfold keq at hX; rwa [if_neg h] at hX) H locs ls hP hS hl)
theorem K_icmp_ne (C : KC p l e R s m args below meth c w own cc nL ret d mc ms) {x y : Int32} {off : Int} {tgt : Nat} {Xt Xf : Option ρ} (ht : (pc : Int) + off = (tgt : Int)) (hdg : decode cc pc = .ok (.if_icmp .ne off, 3)) (kt : K p l e R s m args below meth c w nL QF z k0 n0 f (tgt) lv (st) (Xt)) (kf : K p l e R s m args below meth c w nL QF z k0 n0 f (pc + 3) lv (st) (Xf)) : K p l e R s m args below meth c w nL QF z k0 n0 f pc lv (.int y :: .int x :: st) (keq x y Xf Xt) := fun hX H locs ls hP hS hl => lv_icmp_ne C.1.1 C.1.2.1 hdg ht (fun h => kt (by unfold keq at hX; rwa [if_neg h] at hX) H locs ls hP hS hl) (fun h => kf (by unfold keq at hX; rwa [if_pos h] at hX) H locs ls hP hS hl)
theorem K_if_ne (C : KC p l e R s m args below meth c w own cc nL ret d mc ms) {x : Int32} {off : Int} {tgt : Nat} {Xt Xf : Option ρ} (ht : (pc : Int) + off = (tgt : Int)) (hdg : decode cc pc = .ok (.ifCond .ne off, 3)) (kt : K p l e R s m args below meth c w nL QF z k0 n0 f (tgt) lv (st) (Xt)) (kf : K p l e R s m args below meth c w nL QF z k0 n0 f (pc + 3) lv (st) (Xf)) : K p l e R s m args below meth c w nL QF z k0 n0 f pc lv (.int x :: st) (keq x 0 Xf Xt) := fun hX H locs ls hP hS hl => lv_if_ne C.1.1 C.1.2.1 hdg ht (fun h => kt (by unfold keq at hX; rwa [if_neg h] at hX) H locs ls hP hS hl) (fun h => kf (by unfold keq at hX; rwa [if_pos h] at hX) H locs ls hP hS hl)
theorem K_icmp_lt (C : KC p l e R s m args below meth c w own cc nL ret d mc ms) {x y : Int32} {off : Int} {tgt : Nat} {Xt Xf : Option ρ} (ht : (pc : Int) + off = (tgt : Int)) (hdg : decode cc pc = .ok (.if_icmp .lt off, 3)) (kt : K p l e R s m args below meth c w nL QF z k0 n0 f (tgt) lv (st) (Xt)) (kf : K p l e R s m args below meth c w nL QF z k0 n0 f (pc + 3) lv (st) (Xf)) : K p l e R s m args below meth c w nL QF z k0 n0 f pc lv (.int y :: .int x :: st) (klt x y Xt Xf) := fun hX H locs ls hP hS hl => lv_icmp_lt C.1.1 C.1.2.1 hdg ht (fun h => kt (by unfold klt at hX; rwa [if_pos h] at hX) H locs ls hP hS hl) (fun h => kf (by unfold klt at hX; rwa [if_neg h] at hX) H locs ls hP hS hl)
theorem K_if_lt (C : KC p l e R s m args below meth c w own cc nL ret d mc ms) {x : Int32} {off : Int} {tgt : Nat} {Xt Xf : Option ρ} (ht : (pc : Int) + off = (tgt : Int)) (hdg : decode cc pc = .ok (.ifCond .lt off, 3)) (kt : K p l e R s m args below meth c w nL QF z k0 n0 f (tgt) lv (st) (Xt)) (kf : K p l e R s m args below meth c w nL QF z k0 n0 f (pc + 3) lv (st) (Xf)) : K p l e R s m args below meth c w nL QF z k0 n0 f pc lv (.int x :: st) (klt x 0 Xt Xf) := fun hX H locs ls hP hS hl => lv_if_lt C.1.1 C.1.2.1 hdg ht (fun h => kt (by unfold klt at hX; rwa [if_pos h] at hX) H locs ls hP hS hl) (fun h => kf (by unfold klt at hX; rwa [if_neg h] at hX) H locs ls hP hS hl)
theorem K_icmp_ge (C : KC p l e R s m args below meth c w own cc nL ret d mc ms) {x y : Int32} {off : Int} {tgt : Nat} {Xt Xf : Option ρ} (ht : (pc : Int) + off = (tgt : Int)) (hdg : decode cc pc = .ok (.if_icmp .ge off, 3)) (kt : K p l e R s m args below meth c w nL QF z k0 n0 f (tgt) lv (st) (Xt)) (kf : K p l e R s m args below meth c w nL QF z k0 n0 f (pc + 3) lv (st) (Xf)) : K p l e R s m args below meth c w nL QF z k0 n0 f pc lv (.int y :: .int x :: st) (kle y x Xt Xf) := fun hX H locs ls hP hS hl => lv_icmp_ge C.1.1 C.1.2.1 hdg ht (fun h => kt (by unfold kle at hX; rwa [if_pos h] at hX) H locs ls hP hS hl) (fun h => kf (by unfold kle at hX; rwa [if_neg h] at hX) H locs ls hP hS hl)
theorem K_if_ge (C : KC p l e R s m args below meth c w own cc nL ret d mc ms) {x : Int32} {off : Int} {tgt : Nat} {Xt Xf : Option ρ} (ht : (pc : Int) + off = (tgt : Int)) (hdg : decode cc pc = .ok (.ifCond .ge off, 3)) (kt : K p l e R s m args below meth c w nL QF z k0 n0 f (tgt) lv (st) (Xt)) (kf : K p l e R s m args below meth c w nL QF z k0 n0 f (pc + 3) lv (st) (Xf)) : K p l e R s m args below meth c w nL QF z k0 n0 f pc lv (.int x :: st) (kle 0 x Xt Xf) := fun hX H locs ls hP hS hl => lv_if_ge C.1.1 C.1.2.1 hdg ht (fun h => kt (by unfold kle at hX; rwa [if_pos h] at hX) H locs ls hP hS hl) (fun h => kf (by unfold kle at hX; rwa [if_neg h] at hX) H locs ls hP hS hl)
theorem K_icmp_gt (C : KC p l e R s m args below meth c w own cc nL ret d mc ms) {x y : Int32} {off : Int} {tgt : Nat} {Xt Xf : Option ρ} (ht : (pc : Int) + off = (tgt : Int)) (hdg : decode cc pc = .ok (.if_icmp .gt off, 3)) (kt : K p l e R s m args below meth c w nL QF z k0 n0 f (tgt) lv (st) (Xt)) (kf : K p l e R s m args below meth c w nL QF z k0 n0 f (pc + 3) lv (st) (Xf)) : K p l e R s m args below meth c w nL QF z k0 n0 f pc lv (.int y :: .int x :: st) (klt y x Xt Xf) := fun hX H locs ls hP hS hl => lv_icmp_gt C.1.1 C.1.2.1 hdg ht (fun h => kt (by unfold klt at hX; rwa [if_pos h] at hX) H locs ls hP hS hl) (fun h => kf (by unfold klt at hX; rwa [if_neg h] at hX) H locs ls hP hS hl)
theorem K_if_gt (C : KC p l e R s m args below meth c w own cc nL ret d mc ms) {x : Int32} {off : Int} {tgt : Nat} {Xt Xf : Option ρ} (ht : (pc : Int) + off = (tgt : Int)) (hdg : decode cc pc = .ok (.ifCond .gt off, 3)) (kt : K p l e R s m args below meth c w nL QF z k0 n0 f (tgt) lv (st) (Xt)) (kf : K p l e R s m args below meth c w nL QF z k0 n0 f (pc + 3) lv (st) (Xf)) : K p l e R s m args below meth c w nL QF z k0 n0 f pc lv (.int x :: st) (klt 0 x Xt Xf) := fun hX H locs ls hP hS hl => lv_if_gt C.1.1 C.1.2.1 hdg ht (fun h => kt (by unfold klt at hX; rwa [if_pos h] at hX) H locs ls hP hS hl) (fun h => kf (by unfold klt at hX; rwa [if_neg h] at hX) H locs ls hP hS hl)
theorem K_icmp_le (C : KC p l e R s m args below meth c w own cc nL ret d mc ms) {x y : Int32} {off : Int} {tgt : Nat} {Xt Xf : Option ρ} (ht : (pc : Int) + off = (tgt : Int)) (hdg : decode cc pc = .ok (.if_icmp .le off, 3)) (kt : K p l e R s m args below meth c w nL QF z k0 n0 f (tgt) lv (st) (Xt)) (kf : K p l e R s m args below meth c w nL QF z k0 n0 f (pc + 3) lv (st) (Xf)) : K p l e R s m args below meth c w nL QF z k0 n0 f pc lv (.int y :: .int x :: st) (kle x y Xt Xf) := fun hX H locs ls hP hS hl => lv_icmp_le C.1.1 C.1.2.1 hdg ht (fun h => kt (by unfold kle at hX; rwa [if_pos h] at hX) H locs ls hP hS hl) (fun h => kf (by unfold kle at hX; rwa [if_neg h] at hX) H locs ls hP hS hl)
theorem K_if_le (C : KC p l e R s m args below meth c w own cc nL ret d mc ms) {x : Int32} {off : Int} {tgt : Nat} {Xt Xf : Option ρ} (ht : (pc : Int) + off = (tgt : Int)) (hdg : decode cc pc = .ok (.ifCond .le off, 3)) (kt : K p l e R s m args below meth c w nL QF z k0 n0 f (tgt) lv (st) (Xt)) (kf : K p l e R s m args below meth c w nL QF z k0 n0 f (pc + 3) lv (st) (Xf)) : K p l e R s m args below meth c w nL QF z k0 n0 f pc lv (.int x :: st) (kle x 0 Xt Xf) := fun hX H locs ls hP hS hl => lv_if_le C.1.1 C.1.2.1 hdg ht (fun h => kt (by unfold kle at hX; rwa [if_pos h] at hX) H locs ls hP hS hl) (fun h => kf (by unfold kle at hX; rwa [if_neg h] at hX) H locs ls hP hS hl)
theorem K_goto (C : KC p l e R s m args below meth c w own cc nL ret d mc ms) {off : Int} {tgt : Nat} (ht : (pc : Int) + off = (tgt : Int)) (hdg : decode cc pc = .ok (.goto off, 3)) (kk : K p l e R s m args below meth c w nL QF z k0 n0 f (tgt) lv (st) (X)) : K p l e R s m args below meth c w nL QF z k0 n0 f pc lv (st) (X) := fun hX H locs ls hP hS hl => lv_goto C.1.1 C.1.2.1 hdg ht (kk hX H locs ls hP hS hl)
theorem K_dup (C : KC p l e R s m args below meth c w own cc nL ret d mc ms) {va : Value} (hva : va.category = 1) (hdg : decode cc pc = .ok (.dup, 1)) (kk : K p l e R s m args below meth c w nL QF z k0 n0 f (pc + 1) lv (va :: va :: st) (X)) : K p l e R s m args below meth c w nL QF z k0 n0 f pc lv (va :: st) (X) := fun hX H locs ls hP hS hl => lv_dup C.1.1 C.1.2.1 hdg hva (kk hX H locs ls hP hS hl)
theorem K_dup2 (C : KC p l e R s m args below meth c w own cc nL ret d mc ms) {va vb : Value} (hva : va.category = 1) (hvb : vb.category = 1) (hdg : decode cc pc = .ok (.dup2, 1)) (kk : K p l e R s m args below meth c w nL QF z k0 n0 f (pc + 1) lv (va :: vb :: va :: vb :: st) (X)) : K p l e R s m args below meth c w nL QF z k0 n0 f pc lv (va :: vb :: st) (X) := fun hX H locs ls hP hS hl => lv_dup2_11 C.1.1 C.1.2.1 hdg hva hvb (kk hX H locs ls hP hS hl)
theorem K_dup_x1 (C : KC p l e R s m args below meth c w own cc nL ret d mc ms) {va vb : Value} (hva : va.category = 1) (hvb : vb.category = 1) (hdg : decode cc pc = .ok (.dup_x1, 1)) (kk : K p l e R s m args below meth c w nL QF z k0 n0 f (pc + 1) lv (va :: vb :: va :: st) (X)) : K p l e R s m args below meth c w nL QF z k0 n0 f pc lv (va :: vb :: st) (X) := fun hX H locs ls hP hS hl => lv_dup_x1 C.1.1 C.1.2.1 hdg hva hvb (kk hX H locs ls hP hS hl)
theorem K_pop (C : KC p l e R s m args below meth c w own cc nL ret d mc ms) {va : Value} (hva : va.category = 1) (hdg : decode cc pc = .ok (.pop, 1)) (kk : K p l e R s m args below meth c w nL QF z k0 n0 f (pc + 1) lv (st) (X)) : K p l e R s m args below meth c w nL QF z k0 n0 f pc lv (va :: st) (X) := fun hX H locs ls hP hS hl => lv_pop C.1.1 C.1.2.1 hdg hva (kk hX H locs ls hP hS hl)
theorem K_idiv (C : KC p l e R s m args below meth c w own cc nL ret d mc ms) {x y : Int32} (hdg : decode cc pc = .ok (.idiv, 1)) (kk : K p l e R s m args below meth c w nL QF z k0 n0 f (pc + 1) lv (.int (x / y) :: st) (X)) : K p l e R s m args below meth c w nL QF z k0 n0 f pc lv (.int y :: .int x :: st) (kchk (!decide (y = 0)) X) := fun hX H locs ls hP hS hl => lv_idiv C.1.1 C.1.2.1 hdg (by have h := (kchk_some hX).1; simpa using h) (kk (kchk_some hX).2 H locs ls hP hS hl)
theorem K_irem (C : KC p l e R s m args below meth c w own cc nL ret d mc ms) {x y : Int32} (hdg : decode cc pc = .ok (.irem, 1)) (kk : K p l e R s m args below meth c w nL QF z k0 n0 f (pc + 1) lv (.int (x - x / y * y) :: st) (X)) : K p l e R s m args below meth c w nL QF z k0 n0 f pc lv (.int y :: .int x :: st) (kchk (!decide (y = 0)) X) := fun hX H locs ls hP hS hl => lv_irem C.1.1 C.1.2.1 hdg (by have h := (kchk_some hX).1; simpa using h) (kk (kchk_some hX).2 H locs ls hP hS hl)
theorem K_ishl (C : KC p l e R s m args below meth c w own cc nL ret d mc ms) {x y : Int32} (hdg : decode cc pc = .ok (.ishl, 1)) (kk : K p l e R s m args below meth c w nL QF z k0 n0 f (pc + 1) lv (.int (x <<< (y &&& 31)) :: st) (X)) : K p l e R s m args below meth c w nL QF z k0 n0 f pc lv (.int y :: .int x :: st) (X) := fun hX H locs ls hP hS hl => lv_ishl C.1.1 C.1.2.1 hdg  (kk hX H locs ls hP hS hl)
theorem K_ishr (C : KC p l e R s m args below meth c w own cc nL ret d mc ms) {x y : Int32} (hdg : decode cc pc = .ok (.ishr, 1)) (kk : K p l e R s m args below meth c w nL QF z k0 n0 f (pc + 1) lv (.int (x >>> (y &&& 31)) :: st) (X)) : K p l e R s m args below meth c w nL QF z k0 n0 f pc lv (.int y :: .int x :: st) (X) := fun hX H locs ls hP hS hl => lv_ishr C.1.1 C.1.2.1 hdg  (kk hX H locs ls hP hS hl)
theorem K_iushr (C : KC p l e R s m args below meth c w own cc nL ret d mc ms) {x y : Int32} (hdg : decode cc pc = .ok (.iushr, 1)) (kk : K p l e R s m args below meth c w nL QF z k0 n0 f (pc + 1) lv (.int ((x.toUInt32 >>> (y.toUInt32 &&& Int32.toUInt32 31)).toInt32) :: st) (X)) : K p l e R s m args below meth c w nL QF z k0 n0 f pc lv (.int y :: .int x :: st) (X) := fun hX H locs ls hP hS hl => lv_iushr C.1.1 C.1.2.1 hdg rfl (kk hX H locs ls hP hS hl)
theorem K_i2c (C : KC p l e R s m args below meth c w own cc nL ret d mc ms) {x : Int32} (hdg : decode cc pc = .ok (.i2c, 1)) (kk : K p l e R s m args below meth c w nL QF z k0 n0 f (pc + 1) lv (.int ((x.toUInt32 % 65536).toInt32) :: st) (X)) : K p l e R s m args below meth c w nL QF z k0 n0 f pc lv (.int x :: st) (X) := fun hX H locs ls hP hS hl => lv_i2c C.1.1 C.1.2.1 hdg rfl (kk hX H locs ls hP hS hl)
theorem K_dup_x2 (C : KC p l e R s m args below meth c w own cc nL ret d mc ms) {va vb vd : Value} (hva : va.category = 1) (hvb : vb.category = 1) (hvd : vd.category = 1) (hdg : decode cc pc = .ok (.dup_x2, 1)) (kk : K p l e R s m args below meth c w nL QF z k0 n0 f (pc + 1) lv (va :: vb :: vd :: va :: st) (X)) : K p l e R s m args below meth c w nL QF z k0 n0 f pc lv (va :: vb :: vd :: st) (X) := fun hX H locs ls hP hS hl => lv_dup_x2 C.1.1 C.1.2.1 hdg hva hvb hvd (kk hX H locs ls hP hS hl)
theorem K_ldc (C : KC p l e R s m args below meth c w own cc nL ret d mc ms) {index : Nat} {v : Int32} (hc : Cond.constant own index v ∈ kGT) (hdg : decode cc pc = .ok (.ldc index, 2)) (kk : K p l e R s m args below meth c w nL QF z k0 n0 f (pc + 2) lv (.int v :: st) (X)) : K p l e R s m args below meth c w nL QF z k0 n0 f pc lv (st) (X) := fun hX H locs ls hP hS hl => lv_ldc C.1.1 C.1.2.1 C.1.2.2.2.1 (C.1.2.2.2.2 _ hc) hdg (kk hX H locs ls hP hS hl)
theorem K_ldc_w (C : KC p l e R s m args below meth c w own cc nL ret d mc ms) {index : Nat} {v : Int32} (hc : Cond.constant own index v ∈ kGT) (hdg : decode cc pc = .ok (.ldc_w index, 3)) (kk : K p l e R s m args below meth c w nL QF z k0 n0 f (pc + 3) lv (.int v :: st) (X)) : K p l e R s m args below meth c w nL QF z k0 n0 f pc lv (st) (X) := fun hX H locs ls hP hS hl => lv_ldcw C.1.1 C.1.2.1 C.1.2.2.2.1 (C.1.2.2.2.2 _ hc) hdg (kk hX H locs ls hP hS hl)
theorem kgt_all {ws : List Cond} (h : ws.all (fun z => decide (z ∈ lw_tbl) && goodWord z) = true) : ∀ z ∈ ws, z ∈ kGT := by
  intro z hz
  have h1 := List.all_eq_true.mp h z hz
  simp only [Bool.and_eq_true, decide_eq_true_eq] at h1
  exact kgt h1.1 h1.2
theorem kw_obj {w : KW} {f : kMem} {a ci : Nat} {fl : List (Option Nat)} (h : a < kn w) (hsh : ksh w a = .inr (ci, fl)) : (kw w f)[a]? = some (kad w a, .inr (ci, kfs w (f a) 0 fl)) := by
  rw [kw_get h]; unfold kcell; rw [hsh]
theorem kw_arr {w : KW} {f : kMem} {a n : Nat} (h : a < kn w) (hsh : ksh w a = .inl (0, n)) : (kw w f)[a]? = some (kad w a, .inl (w.1.2.1, n, .inl (f a))) := by
  rw [kw_get h]; unfold kcell; rw [hsh]; rfl
theorem kw_chr {w : KW} {f : kMem} {a n : Nat} (h : a < kn w) (hsh : ksh w a = .inl (1, n)) : (kw w f)[a]? = some (kad w a, .inl (w.1.2.2.1, n, .inl (f a))) := by
  rw [kw_get h]; unfold kcell; rw [hsh]; rfl
theorem kw_rfs {w : KW} {f : kMem} {a n : Nat} (h : a < kn w) (hsh : ksh w a = .inl (2, n)) : (kw w f)[a]? = some (kad w a, .inl (w.1.2.2.2, n, .inr (.inr (.inr (.inr (fun i => some (kad w (25 * (i + 2))))))))) := by
  rw [kw_get h]; unfold kcell; rw [hsh]; rfl
theorem K_getI (C : KC p l e R s m args below meth c w own cc nL ret d mc ms) {C1 : String} {T : u_T} {N ci index a : Nat} {ref : String} {fl : List (Option Nat)} (hin : ∀ z ∈ u_ws C1 T N, z ∈ kGT) (hc : vwCl[ci]? = some (C1, T, N)) (ha : a < kn w) (hsh : ksh w a = .inr (ci, fl)) (k : Nat) (hk : k < N) (hf : fl[k]? = some none) (hlink : Cond.fieldLink own index ref (T k).2.1 (T k).2.2.1 ∈ kGT) (hT1 : (T k).1 = ref) (hdg : decode cc pc = .ok (.getfield index, 3)) (kk : K p l e R s m args below meth c w nL QF z k0 n0 f (pc + 3) lv (.int (f a k) :: st) (X)) : K p l e R s m args below meth c w nL QF z k0 n0 f pc lv (.ref (kad w a) :: st) (X) := fun hX H locs ls hP hS hl => va_get C.1.1 C.1.2.1 C.1.2.2.2.2 hin C.1.2.2.2.1 C.2.1 hP a (kw_obj ha hsh) hc k hk (C.1.2.2.2.2 _ hlink) (fun x h => by rw [← hT1]; exact h) (v := .int (f a k)) (by have h := kfs_get w (f a) fl 0 k hf; rwa [Nat.zero_add] at h) hdg (kk hX H locs ls hP hS hl)
theorem K_getR (C : KC p l e R s m args below meth c w own cc nL ret d mc ms) {C1 : String} {T : u_T} {N ci index a : Nat} {ref : String} {fl : List (Option Nat)} (hin : ∀ z ∈ u_ws C1 T N, z ∈ kGT) (hc : vwCl[ci]? = some (C1, T, N)) (ha : a < kn w) (hsh : ksh w a = .inr (ci, fl)) (k : Nat) (hk : k < N) {b : Nat} (hf : fl[k]? = some (some b)) (hlink : Cond.fieldLink own index ref (T k).2.1 (T k).2.2.1 ∈ kGT) (hT1 : (T k).1 = ref) (hdg : decode cc pc = .ok (.getfield index, 3)) (kk : K p l e R s m args below meth c w nL QF z k0 n0 f (pc + 3) lv (.ref (kad w b) :: st) (X)) : K p l e R s m args below meth c w nL QF z k0 n0 f pc lv (.ref (kad w a) :: st) (X) := fun hX H locs ls hP hS hl => va_get C.1.1 C.1.2.1 C.1.2.2.2.2 hin C.1.2.2.2.1 C.2.1 hP a (kw_obj ha hsh) hc k hk (C.1.2.2.2.2 _ hlink) (fun x h => by rw [← hT1]; exact h) (v := .ref (kad w b)) (kfs_getr w (f a) fl 0 k hf) hdg (kk hX H locs ls hP hS hl)
theorem K_putI (C : KC p l e R s m args below meth c w own cc nL ret d mc ms) {C1 : String} {T : u_T} {N ci index a : Nat} {ref : String} {fl : List (Option Nat)} (hin : ∀ z ∈ u_ws C1 T N, z ∈ kGT) (hc : vwCl[ci]? = some (C1, T, N)) (ha : a < kn w) (hsh : ksh w a = .inr (ci, fl)) (k : Nat) (hk : k < N) (hf : fl[k]? = some none) (hlink : Cond.fieldLink own index ref (T k).2.1 (T k).2.2.1 ∈ kGT) (hT1 : (T k).1 = ref) (ty0 : Nat → FieldType) (hty : ∀ k, k < N → parseFieldDescriptor (T k).2.2.1 = some (ty0 k)) (hnm : ∀ a, a < N → ∀ b, b < N → a ≠ b → (T a).2.1 ≠ (T b).2.1) (hfin : (T k).2.2.2 = false) {ty : FieldType} {v : Int32} {Y : kMem → Option ρ} (hd : parseFieldDescriptor (T k).2.2.1 = some ty) (hn : narrow ty (.int v) = .int v) (hfit : fits ty (.int v) = true) (hdg : decode cc pc = .ok (.putfield index, 3)) (kk : ∀ g : kMem, K p l e R s m args below meth c w nL QF z k0 n0 g (pc + 3) lv (st) (Y g)) : K p l e R s m args below meth c w nL QF z k0 n0 f pc lv (.int v :: .ref (kad w a) :: st) (kmem (kup f a k v) Y) := by
  intro hX H locs ls hP hS hl
  have hfk : k < fl.length := by
    rcases Nat.lt_or_ge k fl.length with h | h
    · exact h
    · rw [List.getElem?_eq_none h] at hf; cases hf
  refine va_put C.1.1 C.1.2.1 C.1.2.2.2.2 hin ty0 hty hnm C.1.2.2.2.1 C.2.1 hP (kw_D C.2.2.2.2.1) hS a (kw_obj ha hsh) hc k hk (C.1.2.2.2.2 _ hlink) (fun x h => by rw [← hT1]; exact h) hfin hd hn hfit (by rw [kfs_len]; exact hfk) hdg (fun H1 locs1 hP1 hD1 hS1 => ?_)
  rw [kw_set (f' := kup f a k v) (by unfold kcell; rw [hsh, kup_eq]; have h := kfs_set w (f a) v fl 0 k hf; rw [Nat.zero_add] at h; rw [h]) (fun b hb => kup_ne f k v hb)] at hP1
  exact kk _ hX H1 locs1 ls hP1 hS1 hl
theorem K_iald (C : KC p l e R s m args below meth c w own cc nL ret d mc ms) {a n : Nat} {i : Int32} (ha : a < kn w) (hsh : ksh w a = .inl (0, n)) (hdg : decode cc pc = .ok (.iaload, 1)) (kk : K p l e R s m args below meth c w nL QF z k0 n0 f (pc + 1) lv (.int (f a i.toNatClampNeg) :: st) (X)) : K p l e R s m args below meth c w nL QF z k0 n0 f pc lv (.int i :: .ref (kad w a) :: st) (kchk (kin i n) X) := fun hX H locs ls hP hS hl => va_iald C.1.1 C.1.2.1 C.2.1 hP a 0 (kw_arr ha hsh) rfl (kin_in (kchk_some hX).1) hdg (kk (kchk_some hX).2 H locs ls hP hS hl)
theorem K_ialdC (C : KC p l e R s m args below meth c w own cc nL ret d mc ms) {a n : Nat} {i : Int32} (ha : a < kn w) (hsh : ksh w a = .inl (0, n)) (hi : vp_in i n) (hdg : decode cc pc = .ok (.iaload, 1)) (k : Nat) (hik : i.toNatClampNeg = k) (kk : K p l e R s m args below meth c w nL QF z k0 n0 f (pc + 1) lv (.int (f a k) :: st) (X)) : K p l e R s m args below meth c w nL QF z k0 n0 f pc lv (.int i :: .ref (kad w a) :: st) (X) := by subst hik; exact fun hX H locs ls hP hS hl => va_iald C.1.1 C.1.2.1 C.2.1 hP a 0 (kw_arr ha hsh) rfl hi hdg (kk hX H locs ls hP hS hl)
theorem K_cald (C : KC p l e R s m args below meth c w own cc nL ret d mc ms) {a n : Nat} {i : Int32} (ha : a < kn w) (hsh : ksh w a = .inl (1, n)) (hdg : decode cc pc = .ok (.caload, 1)) (kk : K p l e R s m args below meth c w nL QF z k0 n0 f (pc + 1) lv (.int (f a i.toNatClampNeg) :: st) (X)) : K p l e R s m args below meth c w nL QF z k0 n0 f pc lv (.int i :: .ref (kad w a) :: st) (kchk (kin i n) X) := fun hX H locs ls hP hS hl => va_cald C.1.1 C.1.2.1 C.2.1 hP a 1 (kw_chr ha hsh) rfl (kin_in (kchk_some hX).1) hdg (kk (kchk_some hX).2 H locs ls hP hS hl)
theorem K_caldC (C : KC p l e R s m args below meth c w own cc nL ret d mc ms) {a n : Nat} {i : Int32} (ha : a < kn w) (hsh : ksh w a = .inl (1, n)) (hi : vp_in i n) (hdg : decode cc pc = .ok (.caload, 1)) (k : Nat) (hik : i.toNatClampNeg = k) (kk : K p l e R s m args below meth c w nL QF z k0 n0 f (pc + 1) lv (.int (f a k) :: st) (X)) : K p l e R s m args below meth c w nL QF z k0 n0 f pc lv (.int i :: .ref (kad w a) :: st) (X) := by subst hik; exact fun hX H locs ls hP hS hl => va_cald C.1.1 C.1.2.1 C.2.1 hP a 1 (kw_chr ha hsh) rfl hi hdg (kk hX H locs ls hP hS hl)
theorem K_aald (C : KC p l e R s m args below meth c w own cc nL ret d mc ms) {a n : Nat} {i : Int32} (ha : a < kn w) (hsh : ksh w a = .inl (2, n)) (hdg : decode cc pc = .ok (.aaload, 1)) (kk : K p l e R s m args below meth c w nL QF z k0 n0 f (pc + 1) lv (.ref (kad w (25 * (i.toNatClampNeg + 2))) :: st) (X)) : K p l e R s m args below meth c w nL QF z k0 n0 f pc lv (.int i :: .ref (kad w a) :: st) (kchk (kin i n) X) := fun hX H locs ls hP hS hl => va_aldq C.1.1 C.1.2.1 C.2.1 hP a 2 (kw_rfs ha hsh) rfl (kin_in (kchk_some hX).1) hdg (kk (kchk_some hX).2 H locs ls hP hS hl)
theorem K_iast (C : KC p l e R s m args below meth c w own cc nL ret d mc ms) {a n : Nat} {i : Int32} (ha : a < kn w) {x : Int32} {Y : kMem → Option ρ} (hsh : ksh w a = .inl (0, n)) (hdg : decode cc pc = .ok (.iastore, 1)) (kk : ∀ g : kMem, K p l e R s m args below meth c w nL QF z k0 n0 g (pc + 1) lv (st) (Y g)) : K p l e R s m args below meth c w nL QF z k0 n0 f pc lv (.int x :: .int i :: .ref (kad w a) :: st) (kchk (kin i n) (kmem (kup f a i.toNatClampNeg (x)) Y)) := by
  intro hX H locs ls hP hS hl
  refine va_iast C.1.1 C.1.2.1 C.2.1 hP (kw_D C.2.2.2.2.1) hS a 0 (kw_arr ha hsh) rfl (kin_in (kchk_some hX).1) hdg (fun H1 locs1 hP1 hD1 hS1 => ?_)
  rw [kw_set (f' := kup f a i.toNatClampNeg (x)) (by unfold kcell; rw [hsh, kup_eq]; rfl) (fun b hb => kup_ne f _ _ hb)] at hP1
  exact kk _ (kchk_some hX).2 H1 locs1 ls hP1 hS1 hl
theorem K_iastC (C : KC p l e R s m args below meth c w own cc nL ret d mc ms) {a n : Nat} {i : Int32} (ha : a < kn w) {x : Int32} {Y : kMem → Option ρ} (hsh : ksh w a = .inl (0, n)) (hi : vp_in i n) (hdg : decode cc pc = .ok (.iastore, 1)) (k : Nat) (hik : i.toNatClampNeg = k) (kk : ∀ g : kMem, K p l e R s m args below meth c w nL QF z k0 n0 g (pc + 1) lv (st) (Y g)) : K p l e R s m args below meth c w nL QF z k0 n0 f pc lv (.int x :: .int i :: .ref (kad w a) :: st) (kmem (kup f a k (x)) Y) := by
  subst hik; intro hX H locs ls hP hS hl
  refine va_iast C.1.1 C.1.2.1 C.2.1 hP (kw_D C.2.2.2.2.1) hS a 0 (kw_arr ha hsh) rfl hi hdg (fun H1 locs1 hP1 hD1 hS1 => ?_)
  rw [kw_set (f' := kup f a i.toNatClampNeg (x)) (by unfold kcell; rw [hsh, kup_eq]; rfl) (fun b hb => kup_ne f _ _ hb)] at hP1
  exact kk _ hX H1 locs1 ls hP1 hS1 hl
theorem K_cast (C : KC p l e R s m args below meth c w own cc nL ret d mc ms) {a n : Nat} {i : Int32} (ha : a < kn w) {x : Int32} {Y : kMem → Option ρ} (hsh : ksh w a = .inl (1, n)) (hdg : decode cc pc = .ok (.castore, 1)) (kk : ∀ g : kMem, K p l e R s m args below meth c w nL QF z k0 n0 g (pc + 1) lv (st) (Y g)) : K p l e R s m args below meth c w nL QF z k0 n0 f pc lv (.int x :: .int i :: .ref (kad w a) :: st) (kchk (kin i n) (kmem (kup f a i.toNatClampNeg (vp_nar .char x)) Y)) := by
  intro hX H locs ls hP hS hl
  refine va_cast C.1.1 C.1.2.1 C.2.1 hP (kw_D C.2.2.2.2.1) hS a 1 (kw_chr ha hsh) rfl (kin_in (kchk_some hX).1) hdg (fun H1 locs1 hP1 hD1 hS1 => ?_)
  rw [kw_set (f' := kup f a i.toNatClampNeg (vp_nar .char x)) (by unfold kcell; rw [hsh, kup_eq]; rfl) (fun b hb => kup_ne f _ _ hb)] at hP1
  exact kk _ (kchk_some hX).2 H1 locs1 ls hP1 hS1 hl
theorem K_alen (C : KC p l e R s m args below meth c w own cc nL ret d mc ms) {a n : Nat} {v : Int32} (ha : a < kn w) (hsh : ksh w a = .inl (0, n)) (hv : Int32.ofNat n = v) (hdg : decode cc pc = .ok (.arraylength, 1)) (kk : K p l e R s m args below meth c w nL QF z k0 n0 f (pc + 1) lv (.int v :: st) (X)) : K p l e R s m args below meth c w nL QF z k0 n0 f pc lv (.ref (kad w a) :: st) (X) := fun hX H locs ls hP hS hl => va_alen C.1.1 C.1.2.1 C.2.1 hP a 0 (kw_arr ha hsh) rfl hv hdg (kk hX H locs ls hP hS hl)
theorem K_gs1 (C : KC p l e R s m args below meth c w own cc nL ret d mc ms) {index : Nat} (hw : Cond.fieldLinkNest own index "MouldFloor" "LEAST_SETTINGS" "[I" "MouldFloor" ∈ kNW) (hdg : decode cc pc = .ok (.getstatic index, 3)) (kk : K p l e R s m args below meth c w nL QF z k0 n0 f (pc + 3) lv (.ref (kad w (1000 + 1)) :: st) (X)) : K p l e R s m args below meth c w nL QF z k0 n0 f pc lv (st) (X) := fun hX H locs ls hP hS hl => va_getsN C.1.1 C.1.2.1 C.2.2.2.1.1.1 hS C.1.2.2.2.1 (va_Nw.use rfl (C.2.2.1 _ hw)) (fun x h => h) hdg (kk hX H locs ls hP hS hl)
theorem K_ts1 (C : KC p l e R s m args below meth c w own cc nL ret d mc ms) {i : Int32} (hdg : decode cc pc = .ok (.iaload, 1)) (kk : K p l e R s m args below meth c w nL QF z k0 n0 f (pc + 1) lv (.int (kst 1 i.toNatClampNeg) :: st) (X)) : K p l e R s m args below meth c w nL QF z k0 n0 f pc lv (.int i :: .ref (kad w (1000 + 1)) :: st) (kchk (kin i 4) X) := fun hX H locs ls hP hS hl => va_ti C.1.1 C.1.2.1 C.2.2.2.1.1.2 hS (kin_in (kchk_some hX).1) rfl hdg (kk (kchk_some hX).2 H locs ls hP hS hl)
theorem K_gs2 (C : KC p l e R s m args below meth c w own cc nL ret d mc ms) {index : Nat} (hw : Cond.fieldLinkNest own index "MouldFloor" "MOST_SETTINGS" "[I" "MouldFloor" ∈ kNW) (hdg : decode cc pc = .ok (.getstatic index, 3)) (kk : K p l e R s m args below meth c w nL QF z k0 n0 f (pc + 3) lv (.ref (kad w (1000 + 2)) :: st) (X)) : K p l e R s m args below meth c w nL QF z k0 n0 f pc lv (st) (X) := fun hX H locs ls hP hS hl => va_getsN C.1.1 C.1.2.1 C.2.2.2.1.2.1 hS C.1.2.2.2.1 (va_Nw.use rfl (C.2.2.1 _ hw)) (fun x h => h) hdg (kk hX H locs ls hP hS hl)
theorem K_ts2 (C : KC p l e R s m args below meth c w own cc nL ret d mc ms) {i : Int32} (hdg : decode cc pc = .ok (.iaload, 1)) (kk : K p l e R s m args below meth c w nL QF z k0 n0 f (pc + 1) lv (.int (kst 2 i.toNatClampNeg) :: st) (X)) : K p l e R s m args below meth c w nL QF z k0 n0 f pc lv (.int i :: .ref (kad w (1000 + 2)) :: st) (kchk (kin i 4) X) := fun hX H locs ls hP hS hl => va_ti C.1.1 C.1.2.1 C.2.2.2.1.2.2 hS (kin_in (kchk_some hX).1) rfl hdg (kk (kchk_some hX).2 H locs ls hP hS hl)
theorem K_ret (C : KC p l e R s m args below meth c w own cc nL ret d mc ms) {zz : Int32 × kMem} {ty : FieldType} {v : Int32} (hret : ret = some ty) (hn : narrow ty (.int v) = .int v) (hdg : decode cc pc = .ok (.ireturn, 1)) : K p l e R s m args below meth c w nL (kQF below w ret args s zz) zz 0 0 f pc lv [.int v] (some (v, f)) := by
  intro hX H locs ls hP hS hl
  injection hX with hX
  subst hX; subst hret
  exact W.zret C.1.1 C.1.2.1 C.2.2.2.2.2.1 hn (fun t ht hW => ⟨rfl, by rw [ht]; exact hP, hS.F ht⟩) hS.2.2 hdg C.2.2.2.2.2.2.1
def kbool (v : Int32) : Bool := decide (v = 0) || decide (v = 1)
theorem kbool_n {v : Int32} (h : kbool v = true) : narrow .boolean (.int v) = .int v := by
  simp only [kbool, Bool.or_eq_true, decide_eq_true_eq] at h
  rcases h with rfl | rfl <;> rfl
theorem K_bret (C : KC p l e R s m args below meth c w own cc nL ret d mc ms) {zz : Int32 × kMem} {v : Int32} (hret : ret = some .boolean) (hdg : decode cc pc = .ok (.ireturn, 1)) : K p l e R s m args below meth c w nL (kQF below w ret args s zz) zz 0 0 f pc lv [.int v] (kchk (kbool v) (some (v, f))) := fun hX => K_ret C hret (kbool_n (kchk_some hX).1) hdg (kchk_some hX).2
theorem K_vret (C : KC p l e R s m args below meth c w own cc nL ret d mc ms) {zz : Int32 × kMem} (hret : ret = none) (hdg : decode cc pc = .ok (.return_, 1)) : K p l e R s m args below meth c w nL (kQF below w ret args s zz) zz 0 0 f pc lv [] (some (0, f)) := by
  intro hX H locs ls hP hS hl
  injection hX with hX
  subst hX; subst hret
  exact W.vret C.1.1 C.1.2.1 C.2.2.2.2.2.1 (fun t ht hW => ⟨rfl, by rw [ht]; exact hP, hS.F ht⟩) hS.2.2 hdg C.2.2.2.2.2.2.1
theorem K_tin (C : KC p l e R s m args below meth c w own cc nL ret d mc ms) {dflt lo hi : Int} {offs : Array Int} {len : Nat} {x : Int32} {off : Int} {tgt : Nat} (h1 : ¬ x.toInt < lo) (h2 : ¬ hi < x.toInt) (ho : offs[(x.toInt - lo).toNat]? = some off) (ht : (pc : Int) + off = (tgt : Int)) (hdg : decode cc pc = .ok (.tableswitch dflt lo hi offs, len)) (kk : K p l e R s m args below meth c w nL QF z k0 n0 f (tgt) lv (st) (X)) : K p l e R s m args below meth c w nL QF z k0 n0 f pc lv (.int x :: st) (X) := fun hX H locs ls hP hS hl => lv_tableIn C.1.1 C.1.2.1 hdg h1 h2 ho ht (kk hX H locs ls hP hS hl)
theorem K_tout (C : KC p l e R s m args below meth c w own cc nL ret d mc ms) {dflt lo hi : Int} {offs : Array Int} {len : Nat} {x : Int32} {tgt : Nat} (h : x.toInt < lo ∨ hi < x.toInt) (ht : (pc : Int) + dflt = (tgt : Int)) (hdg : decode cc pc = .ok (.tableswitch dflt lo hi offs, len)) (kk : K p l e R s m args below meth c w nL QF z k0 n0 f (tgt) lv (st) (X)) : K p l e R s m args below meth c w nL QF z k0 n0 f pc lv (.int x :: st) (X) := fun hX H locs ls hP hS hl => lv_tableOut C.1.1 C.1.2.1 hdg h ht (kk hX H locs ls hP hS hl)
theorem K_lsw (C : KC p l e R s m args below meth c w own cc nL ret d mc ms) {dflt : Int} {ps : Array (Int × Int)} {len : Nat} {x : Int32} {off : Int} {tgt : Nat} (hp : (ps.toList.zip (ps.toList.drop 1)).all (fun (a, next) => a.1 < next.1) = true) (ho : Op.lookupswitch.offset ps.toList dflt x.toInt = off) (ht : (pc : Int) + off = (tgt : Int)) (hdg : decode cc pc = .ok (.lookupswitch dflt ps, len)) (kk : K p l e R s m args below meth c w nL QF z k0 n0 f (tgt) lv (st) (X)) : K p l e R s m args below meth c w nL QF z k0 n0 f pc lv (.int x :: st) (X) := fun hX H locs ls hP hS hl => lv_lookup C.1.1 C.1.2.1 hdg hp ho ht (kk hX H locs ls hP hS hl)
theorem kne {x v : Int32} (n : Int) (hv : v.toInt = n) (h : ¬ x = v) : x.toInt ≠ n := fun e => h (Int32.toInt_inj.mp (e.trans hv.symm))
def kY (y : MethodName) (b : ByteArray) (nL : Nat) (ret : Option FieldType) (n : Nat) : Prop := Cond.code y b nL ret ∈ kGT ∧ Cond.initialized y.cls ∈ kGT ∧ (y.cls ≠ "java/lang/invoke/MethodHandle" ∧ y.cls ≠ "java/lang/invoke/VarHandle" ∧ (parseMethodDescriptor y.desc).map (fun d => d.parameters.length) = some n) ∧ nL ≤ 40
def kYV (y : MethodName) (b : ByteArray) (nL : Nat) (ret : Option FieldType) (n : Nat) : Prop := kY y b nL ret n ∧ Cond.instanceMethod y ∈ kGT ∧ Cond.selects y.cls y y ∈ kGT
def kYS (y : MethodName) (b : ByteArray) (nL : Nat) (ret : Option FieldType) (n : Nat) : Prop := kY y b nL ret n ∧ Cond.static y ∈ kGT
theorem kcode_in {y : MethodName} {b : ByteArray} {nL : Nat} {ret : Option FieldType} (h : Cond.code y b nL ret ∈ kGT) : GoodIn kGT (.code y b nL ret :: kGT) := kgt_good (fun z hz => by
  rcases List.mem_cons.mp hz with rfl | hz
  · exact h
  · exact hz)
theorem kblind {w : KW} {f : kMem} {av : List Value} {sz : Nat} : FrameBlind (va_Pc av (fun U => U.heap.size = sz ∧ kB w f U)) := fun a U g mk q => by
  obtain ⟨q0, q1, qP, qK, qD, qN, qS⟩ := q
  exact ⟨q0, q1, qP, va_K.moved (u := U) (U := U.calling g mk a) (Vm.Alike.refl U.vm) qK, qD, kNW_same (s := U) (U := U.calling g mk a) rfl qN, kS_to (s := U) (U := U.calling g mk a) (Nat.le_refl _) (Vm.Alike.refl U.vm) (fun _ _ _ => rfl) qS⟩
theorem kpre (C : KC p l e R s m args below meth c w own cc nL ret d mc ms) {H : Heap} {locs : List Loc} (hP : va_P w.1.1 vwCl (kw w f) H) (hS : va_S (kA w s.heap.size) s.heap H locs) (av : List Value) : ∀ U : State, U.heap = H → s.WarmedH U.vm → va_Pc av (fun U => U.heap.size = H.size ∧ kB w f U) av.toArray U := by
  intro U hU hW
  refine ⟨rfl, by rw [hU], by rw [hU]; exact hP, va_K.moved hW.alike C.2.1, ⟨(kw_D C.2.2.2.2.1).1, fun _ _ _ => trivial⟩, kNW_moved hW C.2.2.1, ?_⟩
  exact kS_to (by rw [hU]; exact hS.1) hW.alike (fun a h1 h2 => by rw [hU]; exact hS.2.1 a h1 h2) C.2.2.2.1
theorem kgo {ret1 : Option FieldType} {r1 : Int32} {f1 : kMem} {H : Heap} {locs : List Loc} {ls : Array Slot} {st0 rest : List Value} {a : Array Value} {Q : State → Prop} (hr : va_Run p l e R s m args below meth c H locs k0 n0 0 0 (F0 m pc ls st0) rest (kQ w ret1 r1 f1 H.size a) (kA w H.size)) (hS : va_S (kA w s.heap.size) s.heap H locs)
    (kk : ∀ (H1 : Heap) (locs1 : List Loc), va_P w.1.1 vwCl (kw w f1) H1 → va_S (kA w s.heap.size) s.heap H1 locs1 → W p l e R s m args below meth c H1 locs1 k0 n0 Q (F0 m (pc + 3) ls ((krv ret1 r1).toList ++ rest))) : W p l e R s m args below meth c H locs k0 n0 Q (F0 m pc ls st0) := by
  intro T hT X
  obtain ⟨v, st₀, t, T', L, h0, X', hL, e1, e2, ⟨hv, hp, hz, hk⟩, st⟩ := hr T hT X
  injection hv with hv
  subst hv
  rw [h0] at hz hk
  obtain ⟨t2, a1, b1⟩ := kk T'.heap (locs ++ L) (by rw [e1]; exact hp)
    ⟨Nat.le_trans hS.1 (by rw [e1]; exact hz), fun q h1 h2 => by rw [e1, hk q (Nat.lt_of_lt_of_le h1 hS.1) (fun z => h2 (kA_mono hS.1 z))]; exact hS.2.1 q h1 h2, fun q hq => by
      rcases List.mem_append.mp hq with h | h
      · exact hS.2.2 q h
      · exact kA_mono hS.1 (hL q h)⟩ T' rfl X'
  exact ⟨t2, st t2 a1, b1⟩
theorem K_callVv (C : KC p l e R s m args below meth c w own cc nL ret d mc ms) {y : MethodName} {b1 : ByteArray} {nL1 : Nat} {ret1 : Option FieldType} {d1 idx n : Nat} {As rest : List Value} {Z : Option (Int32 × kMem)} {Y : Int32 → kMem → Option ρ} {a ci : Nat} {fl : List (Option Nat)} {T1 : u_T} {N1 : Nat} (ha : a < kn w) (hsh : ksh w a = .inr (ci, fl)) (hci : vwCl[ci]? = some (y.cls, T1, N1)) (hY : kYV y b1 nL1 ret1 n) (hlink : Cond.methodLink own idx y ∈ kGT) (hd1 : d1 < d) (hk0 : k0 ≤ mc ∧ n0 ≤ ms) (hM : ∀ r1 f1, Z = some (r1, f1) → kMet l w y b1 nL1 ret1 d1 (.ref (kad w a) :: As) f r1 f1) (hn : As.length = n) (hst : st = As.reverse ++ .ref (kad w a) :: rest) (hrest : (rest.map fun v => v.category).sum ≤ 8) (hret1 : ret1 = none) (hdg : decode cc pc = .ok (.invokevirtual idx, 3)) (kk : ∀ (r1 : Int32) (f1 : kMem), K p l e R s m args below meth c w nL QF z k0 n0 f1 (pc + 3) lv (rest) (Y r1 f1)) : K p l e R s m args below meth c w nL QF z k0 n0 f pc lv (st) (kbind Z Y) := by
  intro hX H locs ls hP hS hl
  obtain ⟨r1, f1, h1, h2⟩ := kbind_some hX
  subst hst; subst hret1
  have hR : (kRm d1 0 0).frames + 1 ≤ R.frames ∧ 8 + (nL1 + 11) + (kRm d1 0 0).locals ≤ R.locals := by
    rw [C.2.2.2.2.2.2.2]
    have := hY.1.2.2.2
    exact ⟨hd1, by show 8 + (nL1 + 11) + 64 * d1 ≤ 64 * d; omega⟩
  have cf : CallFix p m c cc nL s args kGT own := C.1
  have hts := C.1.2.2.2.2
  refine kgo (ret1 := none) (r1 := r1) (f1 := f1) (va_runV (C := y.cls) (As := As) (rest := rest) cf (hM r1 f1 h1 H.size) ⟨(callB_of n hts (kcode_in hY.1.1) rfl rfl rfl (hts _ hY.1.2.1) (hts _ hlink) hY.1.2.2.1 hR), hts _ hY.2.1, hts _ hY.2.2⟩ ⟨kblind, va_recv C.2.1 hP hci (kw_obj ha hsh), kpre C hP hS _⟩ rfl hn (hl.1.trans rfl) rfl (lv_room hrest) hdg (by rw [C.2.2.2.2.2.2.2]; exact hk0)) hS (fun H1 locs1 hP1 hS1 => ?_)
  exact kk r1 f1 h2 H1 locs1 ls hP1 hS1 hl
theorem K_callSv (C : KC p l e R s m args below meth c w own cc nL ret d mc ms) {y : MethodName} {b1 : ByteArray} {nL1 : Nat} {ret1 : Option FieldType} {d1 idx n : Nat} {As rest : List Value} {Z : Option (Int32 × kMem)} {Y : Int32 → kMem → Option ρ} (hY : kYS y b1 nL1 ret1 n) (hlink : Cond.methodLink own idx y ∈ kGT) (hd1 : d1 < d) (hk0 : k0 ≤ mc ∧ n0 ≤ ms) (hM : ∀ r1 f1, Z = some (r1, f1) → kMet l w y b1 nL1 ret1 d1 (As) f r1 f1) (hn : As.length = n) (hst : st = As.reverse ++ rest) (hrest : (rest.map fun v => v.category).sum ≤ 8) (hret1 : ret1 = none) (hdg : decode cc pc = .ok (.invokestatic idx, 3)) (kk : ∀ (r1 : Int32) (f1 : kMem), K p l e R s m args below meth c w nL QF z k0 n0 f1 (pc + 3) lv (rest) (Y r1 f1)) : K p l e R s m args below meth c w nL QF z k0 n0 f pc lv (st) (kbind Z Y) := by
  intro hX H locs ls hP hS hl
  obtain ⟨r1, f1, h1, h2⟩ := kbind_some hX
  subst hst; subst hret1
  have hR : (kRm d1 0 0).frames + 1 ≤ R.frames ∧ 8 + (nL1 + 11) + (kRm d1 0 0).locals ≤ R.locals := by
    rw [C.2.2.2.2.2.2.2]
    have := hY.1.2.2.2
    exact ⟨hd1, by show 8 + (nL1 + 11) + 64 * d1 ≤ 64 * d; omega⟩
  have cf : CallFix p m c cc nL s args kGT own := C.1
  have hts := C.1.2.2.2.2
  refine kgo (ret1 := none) (r1 := r1) (f1 := f1) (va_runS (As := As) (rest := rest) cf (hM r1 f1 h1 H.size) ⟨(callB_of n hts (kcode_in hY.1.1) rfl rfl rfl (hts _ hY.1.2.1) (hts _ hlink) hY.1.2.2.1 hR), hts _ hY.2⟩ ⟨kblind, kpre C hP hS _⟩ rfl hn (hl.1.trans rfl) rfl (lv_room hrest) hdg (by rw [C.2.2.2.2.2.2.2]; exact hk0)) hS (fun H1 locs1 hP1 hS1 => ?_)
  exact kk r1 f1 h2 H1 locs1 ls hP1 hS1 hl
theorem K_callSNv (C : KC p l e R s m args below meth c w own cc nL ret d mc ms) {y : MethodName} {b1 : ByteArray} {nL1 : Nat} {ret1 : Option FieldType} {d1 idx n : Nat} {As rest : List Value} {Z : Option (Int32 × kMem)} {Y : Int32 → kMem → Option ρ} (hY : kYS y b1 nL1 ret1 n) (hlink : Cond.methodLinkNest own idx y "MouldFloor" ∈ kNW) (hd1 : d1 < d) (hk0 : k0 ≤ mc ∧ n0 ≤ ms) (hM : ∀ r1 f1, Z = some (r1, f1) → kMet l w y b1 nL1 ret1 d1 (As) f r1 f1) (hn : As.length = n) (hst : st = As.reverse ++ rest) (hrest : (rest.map fun v => v.category).sum ≤ 8) (hret1 : ret1 = none) (hdg : decode cc pc = .ok (.invokestatic idx, 3)) (kk : ∀ (r1 : Int32) (f1 : kMem), K p l e R s m args below meth c w nL QF z k0 n0 f1 (pc + 3) lv (rest) (Y r1 f1)) : K p l e R s m args below meth c w nL QF z k0 n0 f pc lv (st) (kbind Z Y) := by
  intro hX H locs ls hP hS hl
  obtain ⟨r1, f1, h1, h2⟩ := kbind_some hX
  subst hst; subst hret1
  have hR : (kRm d1 0 0).frames + 1 ≤ R.frames ∧ 8 + (nL1 + 11) + (kRm d1 0 0).locals ≤ R.locals := by
    rw [C.2.2.2.2.2.2.2]
    have := hY.1.2.2.2
    exact ⟨hd1, by show 8 + (nL1 + 11) + 64 * d1 ≤ 64 * d; omega⟩
  have cf : CallFix p m c cc nL s args kGT own := C.1
  have hts := C.1.2.2.2.2
  refine kgo (ret1 := none) (r1 := r1) (f1 := f1) (va_runSN (As := As) (rest := rest) cf (hM r1 f1 h1 H.size) ⟨(va_cnB n hts (kcode_in hY.1.1) rfl rfl rfl (C.2.2.1 _ hlink) (hts _ hY.1.2.1) hY.1.2.2.1 hR), hts _ hY.2, trivial⟩ ⟨kblind, kpre C hP hS _⟩ rfl hn (hl.1.trans rfl) rfl (lv_room hrest) hdg (by rw [C.2.2.2.2.2.2.2]; exact hk0)) hS (fun H1 locs1 hP1 hS1 => ?_)
  exact kk r1 f1 h2 H1 locs1 ls hP1 hS1 hl
theorem K_callVi (C : KC p l e R s m args below meth c w own cc nL ret d mc ms) {y : MethodName} {b1 : ByteArray} {nL1 : Nat} {ret1 : Option FieldType} {d1 idx n : Nat} {As rest : List Value} {Z : Option (Int32 × kMem)} {Y : Int32 → kMem → Option ρ} {a ci : Nat} {fl : List (Option Nat)} {T1 : u_T} {N1 : Nat} (ha : a < kn w) (hsh : ksh w a = .inr (ci, fl)) (hci : vwCl[ci]? = some (y.cls, T1, N1)) (hY : kYV y b1 nL1 ret1 n) (hlink : Cond.methodLink own idx y ∈ kGT) (hd1 : d1 < d) (hk0 : k0 ≤ mc ∧ n0 ≤ ms) (hM : ∀ r1 f1, Z = some (r1, f1) → kMet l w y b1 nL1 ret1 d1 (.ref (kad w a) :: As) f r1 f1) (hn : As.length = n) (hst : st = As.reverse ++ .ref (kad w a) :: rest) (hrest : (rest.map fun v => v.category).sum ≤ 8) {ty1 : FieldType} (hret1 : ret1 = some ty1) (hdg : decode cc pc = .ok (.invokevirtual idx, 3)) (kk : ∀ (r1 : Int32) (f1 : kMem), K p l e R s m args below meth c w nL QF z k0 n0 f1 (pc + 3) lv (.int r1 :: rest) (Y r1 f1)) : K p l e R s m args below meth c w nL QF z k0 n0 f pc lv (st) (kbind Z Y) := by
  intro hX H locs ls hP hS hl
  obtain ⟨r1, f1, h1, h2⟩ := kbind_some hX
  subst hst; subst hret1
  have hR : (kRm d1 0 0).frames + 1 ≤ R.frames ∧ 8 + (nL1 + 11) + (kRm d1 0 0).locals ≤ R.locals := by
    rw [C.2.2.2.2.2.2.2]
    have := hY.1.2.2.2
    exact ⟨hd1, by show 8 + (nL1 + 11) + 64 * d1 ≤ 64 * d; omega⟩
  have cf : CallFix p m c cc nL s args kGT own := C.1
  have hts := C.1.2.2.2.2
  refine kgo (ret1 := some ty1) (r1 := r1) (f1 := f1) (va_runV (C := y.cls) (As := As) (rest := rest) cf (hM r1 f1 h1 H.size) ⟨(callB_of n hts (kcode_in hY.1.1) rfl rfl rfl (hts _ hY.1.2.1) (hts _ hlink) hY.1.2.2.1 hR), hts _ hY.2.1, hts _ hY.2.2⟩ ⟨kblind, va_recv C.2.1 hP hci (kw_obj ha hsh), kpre C hP hS _⟩ rfl hn (hl.1.trans rfl) rfl (lv_room hrest) hdg (by rw [C.2.2.2.2.2.2.2]; exact hk0)) hS (fun H1 locs1 hP1 hS1 => ?_)
  exact kk r1 f1 h2 H1 locs1 ls hP1 hS1 hl
theorem K_callSi (C : KC p l e R s m args below meth c w own cc nL ret d mc ms) {y : MethodName} {b1 : ByteArray} {nL1 : Nat} {ret1 : Option FieldType} {d1 idx n : Nat} {As rest : List Value} {Z : Option (Int32 × kMem)} {Y : Int32 → kMem → Option ρ} (hY : kYS y b1 nL1 ret1 n) (hlink : Cond.methodLink own idx y ∈ kGT) (hd1 : d1 < d) (hk0 : k0 ≤ mc ∧ n0 ≤ ms) (hM : ∀ r1 f1, Z = some (r1, f1) → kMet l w y b1 nL1 ret1 d1 (As) f r1 f1) (hn : As.length = n) (hst : st = As.reverse ++ rest) (hrest : (rest.map fun v => v.category).sum ≤ 8) {ty1 : FieldType} (hret1 : ret1 = some ty1) (hdg : decode cc pc = .ok (.invokestatic idx, 3)) (kk : ∀ (r1 : Int32) (f1 : kMem), K p l e R s m args below meth c w nL QF z k0 n0 f1 (pc + 3) lv (.int r1 :: rest) (Y r1 f1)) : K p l e R s m args below meth c w nL QF z k0 n0 f pc lv (st) (kbind Z Y) := by
  intro hX H locs ls hP hS hl
  obtain ⟨r1, f1, h1, h2⟩ := kbind_some hX
  subst hst; subst hret1
  have hR : (kRm d1 0 0).frames + 1 ≤ R.frames ∧ 8 + (nL1 + 11) + (kRm d1 0 0).locals ≤ R.locals := by
    rw [C.2.2.2.2.2.2.2]
    have := hY.1.2.2.2
    exact ⟨hd1, by show 8 + (nL1 + 11) + 64 * d1 ≤ 64 * d; omega⟩
  have cf : CallFix p m c cc nL s args kGT own := C.1
  have hts := C.1.2.2.2.2
  refine kgo (ret1 := some ty1) (r1 := r1) (f1 := f1) (va_runS (As := As) (rest := rest) cf (hM r1 f1 h1 H.size) ⟨(callB_of n hts (kcode_in hY.1.1) rfl rfl rfl (hts _ hY.1.2.1) (hts _ hlink) hY.1.2.2.1 hR), hts _ hY.2⟩ ⟨kblind, kpre C hP hS _⟩ rfl hn (hl.1.trans rfl) rfl (lv_room hrest) hdg (by rw [C.2.2.2.2.2.2.2]; exact hk0)) hS (fun H1 locs1 hP1 hS1 => ?_)
  exact kk r1 f1 h2 H1 locs1 ls hP1 hS1 hl
theorem K_callSNi (C : KC p l e R s m args below meth c w own cc nL ret d mc ms) {y : MethodName} {b1 : ByteArray} {nL1 : Nat} {ret1 : Option FieldType} {d1 idx n : Nat} {As rest : List Value} {Z : Option (Int32 × kMem)} {Y : Int32 → kMem → Option ρ} (hY : kYS y b1 nL1 ret1 n) (hlink : Cond.methodLinkNest own idx y "MouldFloor" ∈ kNW) (hd1 : d1 < d) (hk0 : k0 ≤ mc ∧ n0 ≤ ms) (hM : ∀ r1 f1, Z = some (r1, f1) → kMet l w y b1 nL1 ret1 d1 (As) f r1 f1) (hn : As.length = n) (hst : st = As.reverse ++ rest) (hrest : (rest.map fun v => v.category).sum ≤ 8) {ty1 : FieldType} (hret1 : ret1 = some ty1) (hdg : decode cc pc = .ok (.invokestatic idx, 3)) (kk : ∀ (r1 : Int32) (f1 : kMem), K p l e R s m args below meth c w nL QF z k0 n0 f1 (pc + 3) lv (.int r1 :: rest) (Y r1 f1)) : K p l e R s m args below meth c w nL QF z k0 n0 f pc lv (st) (kbind Z Y) := by
  intro hX H locs ls hP hS hl
  obtain ⟨r1, f1, h1, h2⟩ := kbind_some hX
  subst hst; subst hret1
  have hR : (kRm d1 0 0).frames + 1 ≤ R.frames ∧ 8 + (nL1 + 11) + (kRm d1 0 0).locals ≤ R.locals := by
    rw [C.2.2.2.2.2.2.2]
    have := hY.1.2.2.2
    exact ⟨hd1, by show 8 + (nL1 + 11) + 64 * d1 ≤ 64 * d; omega⟩
  have cf : CallFix p m c cc nL s args kGT own := C.1
  have hts := C.1.2.2.2.2
  refine kgo (ret1 := some ty1) (r1 := r1) (f1 := f1) (va_runSN (As := As) (rest := rest) cf (hM r1 f1 h1 H.size) ⟨(va_cnB n hts (kcode_in hY.1.1) rfl rfl rfl (C.2.2.1 _ hlink) (hts _ hY.1.2.1) hY.1.2.2.1 hR), hts _ hY.2, trivial⟩ ⟨kblind, kpre C hP hS _⟩ rfl hn (hl.1.trans rfl) rfl (lv_room hrest) hdg (by rw [C.2.2.2.2.2.2.2]; exact hk0)) hS (fun H1 locs1 hP1 hS1 => ?_)
  exact kk r1 f1 h2 H1 locs1 ls hP1 hS1 hl
def kmax (x y : Int32) : Int32 := if x < y then y else x
def kmin (x y : Int32) : Int32 := if y < x then y else x
theorem wmath_max : Cond.static Lib.Math.max.name ∈ kGT ∧ Cond.initialized "java/lang/Math" ∈ kGT ∧ Cond.code Lib.Math.max.name Lib.Math.max.code 2 (some .int) ∈ kGT := ⟨kgt (by decide +kernel) rfl, kgt (by decide +kernel) rfl, kgt (by decide +kernel) rfl⟩
theorem K_mmax (C : KC p l e R s m args below meth c w own cc nL ret d mc ms) {idx : Nat} {x y : Int32} (hlink : Cond.methodLink own idx Lib.Math.max.name ∈ kGT) (hd1 : 1 ≤ d) (hk0 : k0 ≤ mc ∧ n0 ≤ ms) (hrest : (st.map fun v => v.category).sum ≤ 8) (hdg : decode cc pc = .ok (.invokestatic idx, 3)) (kk : K p l e R s m args below meth c w nL QF z k0 n0 f (pc + 3) lv (.int (kmax x y) :: st) (X)) : K p l e R s m args below meth c w nL QF z k0 n0 f pc lv (.int y :: .int x :: st) (X) := fun hX H locs ls hP hS hl => va_mmax C.1.1 C.1.2.1 (C.1.2.2.1.trans hl.1.symm) C.1.2.2.2.1 (C.1.2.2.2.2 _ hlink) (C.1.2.2.2.2 _ wmath_max.1) (C.1.2.2.2.2 _ wmath_max.2.1) (C.1.2.2.2.2 _ wmath_max.2.2) (by rw [C.2.2.2.2.2.2.2]; exact hd1) (by rw [C.2.2.2.2.2.2.2]; show _ ≤ 64 * d; omega) (by rw [C.2.2.2.2.2.2.2]; exact hk0.1) (by rw [C.2.2.2.2.2.2.2]; exact hk0.2) hdg (kk hX H locs ls hP hS hl)
theorem wmath_min : Cond.static Lib.Math.min.name ∈ kGT ∧ Cond.initialized "java/lang/Math" ∈ kGT ∧ Cond.code Lib.Math.min.name Lib.Math.min.code 2 (some .int) ∈ kGT := ⟨kgt (by decide +kernel) rfl, kgt (by decide +kernel) rfl, kgt (by decide +kernel) rfl⟩
theorem K_mmin (C : KC p l e R s m args below meth c w own cc nL ret d mc ms) {idx : Nat} {x y : Int32} (hlink : Cond.methodLink own idx Lib.Math.min.name ∈ kGT) (hd1 : 1 ≤ d) (hk0 : k0 ≤ mc ∧ n0 ≤ ms) (hrest : (st.map fun v => v.category).sum ≤ 8) (hdg : decode cc pc = .ok (.invokestatic idx, 3)) (kk : K p l e R s m args below meth c w nL QF z k0 n0 f (pc + 3) lv (.int (kmin x y) :: st) (X)) : K p l e R s m args below meth c w nL QF z k0 n0 f pc lv (.int y :: .int x :: st) (X) := fun hX H locs ls hP hS hl => va_mmin C.1.1 C.1.2.1 (C.1.2.2.1.trans hl.1.symm) C.1.2.2.2.1 (C.1.2.2.2.2 _ hlink) (C.1.2.2.2.2 _ wmath_min.1) (C.1.2.2.2.2 _ wmath_min.2.1) (C.1.2.2.2.2 _ wmath_min.2.2) (by rw [C.2.2.2.2.2.2.2]; exact hd1) (by rw [C.2.2.2.2.2.2.2]; show _ ≤ 64 * d; omega) (by rw [C.2.2.2.2.2.2.2]; exact hk0.1) (by rw [C.2.2.2.2.2.2.2]; exact hk0.2) hdg (kk hX H locs ls hP hS hl)
end KROWS
