/-! the law's side: lists of cells, what a method of the law needs beside them, and the judgement M over any list of cells -/
theorem vD_cons {A : Nat → Prop} {x : Nat × va_E} {l : va_W} : va_D A (x :: l) ↔ A x.1 ∧ (∀ y ∈ l, x.1 ≠ y.1) ∧ va_D A l := by
  constructor
  · intro h
    refine ⟨h.2 0 x rfl, fun y hy e => ?_, fun i j p q hp hq e => ?_, fun i q hq => h.2 (i + 1) q (by simpa using hq)⟩
    · obtain ⟨j, hj⟩ := List.getElem?_of_mem hy
      have := h.1 0 (j + 1) x y rfl (by simpa using hj) e
      omega
    · have := h.1 (i + 1) (j + 1) p q (by simpa using hp) (by simpa using hq) e
      omega
  · rintro ⟨h1, h2, h3⟩
    refine ⟨fun i j p q hp hq e => ?_, fun i q hq => ?_⟩
    · cases i with
      | zero =>
        cases j with
        | zero => rfl
        | succ j =>
          simp at hp hq
          subst hp
          exact absurd e (h2 q (List.mem_of_getElem? hq))
      | succ i =>
        cases j with
        | zero =>
          simp at hp hq
          subst hq
          exact absurd e.symm (h2 p (List.mem_of_getElem? hp))
        | succ j =>
          simp at hp hq
          rw [h3.1 i j p q hp hq e]
    · cases i with
      | zero =>
        simp at hq
        subst hq
        exact h1
      | succ i => exact h3.2 i q (by simpa using hq)
theorem vP_mem {D : va_G} {cl : List vw_C} {ws : va_W} {H : Heap} : va_P D cl ws H ↔ ∀ q ∈ ws, va_at D cl q H := by
  constructor
  · intro h q hq
    obtain ⟨i, hi⟩ := List.getElem?_of_mem hq
    exact h i q hi
  · exact fun h i q hq => h q (List.mem_of_getElem? hq)
theorem vP_perm {D : va_G} {cl : List vw_C} {l1 l2 : va_W} {H : Heap} (h : l1.Perm l2) (hP : va_P D cl l1 H) : va_P D cl l2 H := vP_mem.mpr fun q hq => vP_mem.mp hP q (h.mem_iff.mpr hq)
theorem vD_perm {A : Nat → Prop} {l1 l2 : va_W} (h : l1.Perm l2) : va_D A l1 → va_D A l2 := by
  induction h with
  | nil => exact id
  | cons x h ih => exact fun hD => vD_cons.mpr ⟨(vD_cons.mp hD).1, fun y hy => (vD_cons.mp hD).2.1 y (h.mem_iff.mpr hy), ih (vD_cons.mp hD).2.2⟩
  | swap x y l =>
    intro hD
    obtain ⟨h1, h2, h3⟩ := vD_cons.mp hD
    obtain ⟨h4, h5, h6⟩ := vD_cons.mp h3
    refine vD_cons.mpr ⟨h4, fun z hz => ?_, vD_cons.mpr ⟨h1, fun z hz => h2 z (List.mem_cons_of_mem _ hz), h6⟩⟩
    rcases List.mem_cons.mp hz with rfl | hz
    · exact fun e => h2 x List.mem_cons_self e.symm
    · exact h5 z hz
  | trans _ _ ih1 ih2 => exact fun hD => ih2 (ih1 hD)
theorem vD_app {A : Nat → Prop} : ∀ {l1 l2 : va_W}, va_D A (l1 ++ l2) ↔ va_D A l1 ∧ va_D A l2 ∧ ∀ x ∈ l1, ∀ y ∈ l2, x.1 ≠ y.1
  | [], l2 => ⟨fun h => ⟨⟨fun i j p q hp => by simp at hp, fun i q hq => by simp at hq⟩, h, fun x hx => by simp at hx⟩, fun h => h.2.1⟩
  | x :: l1, l2 => by
    rw [List.cons_append, vD_cons, vD_app (l1 := l1), vD_cons]
    constructor
    · rintro ⟨h1, h2, h3, h4, h5⟩
      refine ⟨⟨h1, fun y hy => h2 y (List.mem_append_left _ hy), h3⟩, h4, fun y hy z hz => ?_⟩
      rcases List.mem_cons.mp hy with rfl | hy
      · exact h2 z (List.mem_append_right _ hz)
      · exact h5 y hy z hz
    · rintro ⟨⟨h1, h2, h3⟩, h4, h5⟩
      refine ⟨h1, fun y hy => ?_, h3, h4, fun y hy z hz => h5 y (List.mem_cons_of_mem _ hy) z hz⟩
      rcases List.mem_append.mp hy with hy | hy
      · exact h2 y hy
      · exact h5 x List.mem_cons_self y hy
theorem vframe {D : va_G} {cl : List vw_C} {A Ac : Nat → Prop} {wc wr wc1 : va_W} {H H1 : Heap} (hP : va_P D cl (wc ++ wr) H) (hD : va_D A (wc ++ wr)) (hk : ∀ q : Nat, q < H.size → ¬ Ac q → H1[q]? = H[q]?) (hAc : ∀ q, Ac q → (∃ x ∈ wc, x.1 = q) ∨ H.size ≤ q) (hP1 : va_P D cl wc1 H1) (hD1 : va_D A wc1) (hA1 : ∀ x ∈ wc1, Ac x.1) : va_P D cl (wc1 ++ wr) H1 ∧ va_D A (wc1 ++ wr) := by
  obtain ⟨h1, h2, h3⟩ := vD_app.mp hD
  have hr : ∀ y ∈ wr, va_at D cl y H ∧ ¬ Ac y.1 := fun y hy => by
    have hat := vP_mem.mp hP y (List.mem_append_right _ hy)
    refine ⟨hat, fun h => ?_⟩
    rcases hAc _ h with ⟨x, hx, e⟩ | h
    · exact h3 x hx y hy e
    · have := hat.lt
      omega
  refine ⟨vP_mem.mpr fun q hq => ?_, vD_app.mpr ⟨hD1, h2, fun x hx y hy e => (hr y hy).2 (e ▸ hA1 x hx)⟩⟩
  rcases List.mem_append.mp hq with h | h
  · exact vP_mem.mp hP1 q h
  · exact (hr q h).1.kept (hk _ (hr q h).1.lt (hr q h).2)
theorem kw_mem {w : KW} {f : kMem} {x : Nat × va_E} (h : x ∈ kw w f) : ∃ a, a < kn w ∧ x = (kad w a, kcell w f a) := by
  simp only [kw, List.mem_map, List.mem_range] at h
  obtain ⟨a, h1, h2⟩ := h
  exact ⟨a, h1, h2.symm⟩
theorem kw_in {w : KW} {f : kMem} {a : Nat} (h : a < kn w) : (kad w a, kcell w f a) ∈ kw w f := by
  simp only [kw, List.mem_map, List.mem_range]
  exact ⟨a, h, rfl⟩
/-- a call whose world is that of w, framed -/
theorem kframe {w : KW} {f f1 : kMem} {A : Nat → Prop} {wr : va_W} {H H1 : Heap} (hP : va_P w.1.1 vwCl (kw w f ++ wr) H) (hD : va_D A (kw w f ++ wr)) (hk : ∀ q : Nat, q < H.size → ¬ kA w H.size q → H1[q]? = H[q]?) (hP1 : va_P w.1.1 vwCl (kw w f1) H1) : va_P w.1.1 vwCl (kw w f1 ++ wr) H1 ∧ va_D A (kw w f1 ++ wr) := by
  refine vframe hP hD hk (fun q h => ?_) hP1 (kw_D (vD_app.mp hD).1) (fun x hx => ?_)
  · rcases h with ⟨a, ha, rfl⟩ | h
    · exact Or.inl ⟨_, kw_in ha, rfl⟩
    · exact Or.inr h
  · obtain ⟨a, ha, rfl⟩ := kw_mem hx
    exact Or.inl ⟨a, ha, rfl⟩
def kXA (A : Nat → Prop) (U : State) (H : Heap) : Prop := vx_Zq Bundle.tN "UNASSIGNED_STACK" Bundle.steD A U H ∧ vx_Zq Bundle.tN "SUPPRESSED_SENTINEL" Bundle.listD A U H ∧ (∀ q ∈ kTX, ∃ sa, vk_R RX11 q.1 q.2 sa U) ∧ ∀ z ∈ kXN, va_Nw z U
theorem kXA_to {A B : Nat → Prop} {s U : State} {H H1 : Heap} (hW : s.WarmedH U.vm) (hq : ∀ a : Nat, a < H.size → ¬ A a → H1[a]? = H[a]?) (hAB : ∀ q, B q → A q) (h : kXA A s H) : kXA B U H1 := ⟨((vx_Zq.moved hW.alike h.1).kept hq).narrow hAB, ((vx_Zq.moved hW.alike h.2.1).kept hq).narrow hAB, fun q hq => (h.2.2.1 q hq).elim fun sa ha => ⟨sa, vk_R.warm hW ha⟩, kXN_moved hW h.2.2.2⟩
theorem kXA_same {A : Nat → Prop} {s U : State} {H : Heap} (hvm : U.vm = s.vm) (h : kXA A s H) : kXA A U H := ⟨vx_Zq.moved (by rw [hvm]; exact Vm.Alike.refl _) h.1, vx_Zq.moved (by rw [hvm]; exact Vm.Alike.refl _) h.2.1, fun q hq => (h.2.2.1 q hq).elim fun sa ha => ⟨sa, vk_R.same hvm ha⟩, kXN_same hvm.symm h.2.2.2⟩
def kNC (U : State) : Prop := ∀ a b, a ∈ [1, 2, 3, 4, 5, 6] → b ∈ [1, 2, 3, 4, 5, 6] → a ≠ b → va_Nc (kE a) (kE b) U
theorem kxMetV_int {l : Launch} {w : KW} {y : MethodName} {b : ByteArray} {nL : Nat} {ty : FieldType} {d mc ms : Nat} {av : List Value} {f : kMem} {z : kXr} (h : kxMet l w y b nL (some ty) d mc ms av f z) : kxMetV l w y b nL (some ty) d mc ms av f (z.1, .int z.2.1, z.2.2) := by
  intro sz
  intro p e ha hc hk s m args below hf happ hP hK
  obtain ⟨n, o, h1, h2, h3, hQ⟩ := h sz p e ha hc hk s m args below hf happ hP hK
  exact ⟨n, o, h1, h2, h3, hQ⟩
theorem vD_fst {A : Nat → Prop} {l1 l2 : va_W} (h : l1.map Prod.fst = l2.map Prod.fst) (hD : va_D A l1) : va_D A l2 := by
  have key : ∀ (i : Nat) (q : Nat × va_E), l2[i]? = some q → ∃ q', l1[i]? = some q' ∧ q'.1 = q.1 := fun i q hq => by
    have h1 : (l1.map Prod.fst)[i]? = some q.1 := by rw [h, List.getElem?_map, hq]; rfl
    rw [List.getElem?_map] at h1
    cases h2 : l1[i]? with
    | none => rw [h2] at h1; cases h1
    | some q' =>
      rw [h2] at h1
      exact ⟨q', rfl, Option.some.inj h1⟩
  refine ⟨fun i j a b ha hb e => ?_, fun i q hq => ?_⟩
  · obtain ⟨a', h1, h2⟩ := key i a ha
    obtain ⟨b', h3, h4⟩ := key j b hb
    exact hD.1 i j a' b' h1 h3 (by rw [h2, h4]; exact e)
  · obtain ⟨q', h1, h2⟩ := key i q hq
    rw [← h2]
    exact hD.2 i q' h1
theorem kw_fst {w : KW} {f g : kMem} : (kw w f).map Prod.fst = (kw w g).map Prod.fst := by simp [kw]
theorem kw_len {w : KW} {f : kMem} : (kw w f).length = kn w := by simp [kw]
theorem kMetV_i {l : Launch} {w : KW} {y : MethodName} {b : ByteArray} {nL : Nat} {ty : FieldType} {d : Nat} {av : List Value} {f : kMem} {r : Int32} {fo : kMem} (h : kMet l w y b nL (some ty) d av f r fo) : kMetV l w y b nL (some ty) d av f (.int r) fo := by
  intro sz
  intro p e ha hc hk s m args below hf happ hP hK
  obtain ⟨n, o, h1, h2, h3, hQ⟩ := h sz p e ha hc hk s m args below hf happ hP hK
  exact ⟨n, o, h1, h2, h3, hQ⟩
/-- what the law's methods share: the class ids, the static rows' addresses, the script -/
abbrev mZ : Type := kG × ClassId × ClassId × (Nat → Nat) × Nat × Nat × (Nat → Int32)
def mst (Z : mZ) : Nat → Nat := Z.2.2.2.1
def msb (Z : mZ) : Nat := Z.2.2.2.2.1
def msL (Z : mZ) : Nat := Z.2.2.2.2.2.1
def msx (Z : mZ) : Nat → Int32 := Z.2.2.2.2.2.2
def mTy (Z : mZ) : List (ClassId × FieldType) := [(Z.1.2.1, .int), (Z.1.2.2.1, .char), (Z.1.2.2.2, .object "MouldFloor$Floor"), (Z.2.1, .long), (Z.2.2.1, .byte)]
def kStr (q : Nat) (t : List Int32) (A : Nat → Prop) (U : State) (H : Heap) : Prop := ∃ v : Nat, va_O "java/lang/String" q A U H ∧ va_OF "java/lang/String" "coder" "B" (.int 0) q A U H ∧ va_OF "java/lang/String" "value" "[B" (.ref v) q A U H ∧ va_T .byte v t.length (fun j => .int (t.getD j 0)) A U H
theorem kStr_to {q : Nat} {t : List Int32} {A B : Nat → Prop} {s U : State} {H H1 : Heap} (hvm : s.vm.Alike U.vm) (hq : ∀ a : Nat, a < H.size → ¬ A a → H1[a]? = H[a]?) (hAB : ∀ q, B q → A q) (h : kStr q t A s H) : kStr q t B U H1 := by
  obtain ⟨v, h1, h2, h3, h4⟩ := h
  exact ⟨v, ((h1.moved hvm).kept hq).narrow hAB, ((h2.moved hvm).kept hq).narrow hAB, ((h3.moved hvm).kept hq).narrow hAB, ((h4.moved hvm).kept hq).narrow hAB⟩
def mS1 (Z : mZ) (A : Nat → Prop) (n : String) (k : Nat) (U : State) (H : Heap) : Prop := va_Z "MouldFloor" n "[I" (.ref (mst Z k)) A U H ∧ va_T .int (mst Z k) 4 (fun j => .int (kst k j)) A U H
def mD1 (Z : mZ) (A : Nat → Prop) (n : String) (k : Nat) (g : Nat → Int32) (U : State) (H : Heap) : Prop := va_Z "java/lang/Integer" n "[B" (.ref (mst Z k)) A U H ∧ va_T .byte (mst Z k) 100 (fun j => .int (g j)) A U H
def mOnes (j : Nat) : Int32 := Int32.ofNat (48 + j % 10)
def mTens (j : Nat) : Int32 := Int32.ofNat (48 + j / 10)
def mTx (t : String) : List Int32 := t.toList.map (fun c => Int32.ofNat c.toNat)
def mLits : List (Nat × String) := [(245, "3 20 "), (250, "x2 "), (252, "x1"), (270, "l"), (272, "g900;w90"), (274, "w5;m"), (290, "w0"), (292, "q"), (294, "0 0 0x0")]
theorem mS1_to {Z : mZ} {A B : Nat → Prop} {n : String} {k : Nat} {s U : State} {H H1 : Heap} (hvm : s.vm.Alike U.vm) (hq : ∀ a : Nat, a < H.size → ¬ A a → H1[a]? = H[a]?) (hAB : ∀ q, B q → A q) (h : mS1 Z A n k s H) : mS1 Z B n k U H1 := ⟨((va_Z.moved hvm h.1).kept hq).narrow hAB, ((va_T.moved hvm h.2).kept hq).narrow hAB⟩
theorem mD1_to {Z : mZ} {A B : Nat → Prop} {n : String} {k : Nat} {g : Nat → Int32} {s U : State} {H H1 : Heap} (hvm : s.vm.Alike U.vm) (hq : ∀ a : Nat, a < H.size → ¬ A a → H1[a]? = H[a]?) (hAB : ∀ q, B q → A q) (h : mD1 Z A n k g s H) : mD1 Z B n k g U H1 := ⟨((va_Z.moved hvm h.1).kept hq).narrow hAB, ((va_T.moved hvm h.2).kept hq).narrow hAB⟩
def mENV (Z : mZ) (A : Nat → Prop) (U : State) (H : Heap) : Prop :=
  va_K Z.1.1 vwCl (mTy Z) U ∧ (∀ z ∈ kNW, va_Nw z U) ∧ (mS1 Z A "LEAST_SETTINGS" 1 U H ∧ mS1 Z A "MOST_SETTINGS" 2 U H) ∧ kXA A U H ∧ kNC U ∧ va_Z "java/lang/String" "COMPACT_STRINGS" "Z" (.int 1) A U H ∧ (mD1 Z A "DigitOnes" 10 mOnes U H ∧ mD1 Z A "DigitTens" 11 mTens U H) ∧ (∀ q ∈ mLits, ∃ sa, vk_R RL q.1 q.2 sa U ∧ kStr sa (mTx q.2) A U H) ∧ va_X (msb Z) (msL Z) (msx Z) U H ∧ ¬ A (msb Z)
theorem mX_lt {b L : Nat} {xs : Nat → Int32} {U : State} {H : Heap} (h : va_X b L xs U H) : b < H.size := by
  obtain ⟨scr, h1, -⟩ := h
  exact (Array.getElem?_eq_some_iff.mp h1).1
theorem mENV_to {Z : mZ} {A B : Nat → Prop} {s U : State} {H H1 : Heap} (hW : s.WarmedH U.vm) (hq : ∀ a : Nat, a < H.size → ¬ A a → H1[a]? = H[a]?) (hAB : ∀ q, B q → A q) (h : mENV Z A s H) : mENV Z B U H1 := by
  obtain ⟨h1, h2, ⟨h3, h4⟩, h5, h6, h7, ⟨h8, h9⟩, h10, h11, h12⟩ := h
  exact ⟨va_K.moved hW.alike h1, kNW_moved hW h2, ⟨mS1_to hW.alike hq hAB h3, mS1_to hW.alike hq hAB h4⟩, kXA_to hW hq hAB h5, fun a b ha hb hab => va_Nc.moved hW.alike (h6 a b ha hb hab), ((va_Z.moved hW.alike h7).kept hq).narrow hAB, ⟨mD1_to hW.alike hq hAB h8, mD1_to hW.alike hq hAB h9⟩, fun q hm => (h10 q hm).elim fun sa ha => ⟨sa, vk_R.warm hW ha.1, kStr_to hW.alike hq hAB ha.2⟩, (va_X.moved hW.alike h11).kept (hq _ (mX_lt h11) h12), fun z => h12 (hAB _ z)⟩
theorem mENV_same {Z : mZ} {A : Nat → Prop} {s U : State} {H : Heap} (hvm : U.vm = s.vm) (h : mENV Z A s H) : mENV Z A U H := by
  have hA : s.vm.Alike U.vm := by rw [hvm]; exact Vm.Alike.refl _
  obtain ⟨h1, h2, ⟨h3, h4⟩, h5, h6, h7, ⟨h8, h9⟩, h10, h11, h12⟩ := h
  exact ⟨va_K.moved hA h1, kNW_same hvm.symm h2, ⟨mS1_to hA (fun _ _ _ => rfl) (fun _ z => z) h3, mS1_to hA (fun _ _ _ => rfl) (fun _ z => z) h4⟩, kXA_same hvm h5, fun a b ha hb hab => va_Nc.moved hA (h6 a b ha hb hab), va_Z.moved hA h7, ⟨mD1_to hA (fun _ _ _ => rfl) (fun _ z => z) h8, mD1_to hA (fun _ _ _ => rfl) (fun _ z => z) h9⟩, fun q hm => (h10 q hm).elim fun sa ha => ⟨sa, vk_R.same hvm ha.1, kStr_to hA (fun _ _ _ => rfl) (fun _ z => z) ha.2⟩, va_X.moved hA h11, h12⟩
/-- what a method may touch: its own cells, and what is new -/
def wA (wi : va_W) (sz : Nat) : Nat → Prop := fun q => (∃ x ∈ wi, x.1 = q) ∨ sz ≤ q
def mPre (Z : mZ) (wi : va_W) (ss : List (Nat × List Int32)) (sz : Nat) (U : State) : Prop := U.heap.size = sz ∧ va_P Z.1.1 vwCl wi U.heap ∧ va_D (fun _ => True) wi ∧ mENV Z (wA wi U.heap.size) U U.heap ∧ ∀ x ∈ ss, kStr x.1 x.2 (wA wi U.heap.size) U U.heap
def mQ (Z : mZ) (Q : Option Value → va_W → Prop) (wi : va_W) (sz : Nat) : Array Value → State → Outcome → State → Prop := fun _ st oc t => ∃ v wo, oc = .returned v ∧ Q v wo ∧ va_P Z.1.1 vwCl wo t.heap ∧ va_D (wA wi sz) wo ∧ va_F (wA wi sz) st t
/-- a method's contract: code word cw, depth d, cells mc, slots ms, arguments av, the cells wi at its start, the texts ss that it reads; Q of its answer and the cells at its end -/
def mMet (l : Launch) (Z : mZ) (y : MethodName) (cw : Cond) (d mc ms : Nat) (av : List Value) (wi : va_W) (ss : List (Nat × List Int32)) (Q : Option Value → va_W → Prop) : Prop :=
  ∀ sz, Met l y (cw :: kGT) (kRm d mc ms) (va_Pc av (mPre Z wi ss sz)) (mQ Z Q wi sz) mc ms (wA wi sz)
theorem mMet_mono {l : Launch} {Z : mZ} {y : MethodName} {cw : Cond} {d mc ms : Nat} {av : List Value} {wi : va_W} {ss : List (Nat × List Int32)} {Q Q' : Option Value → va_W → Prop} (h : mMet l Z y cw d mc ms av wi ss Q) (hQ : ∀ v wo, Q v wo → Q' v wo) : mMet l Z y cw d mc ms av wi ss Q' := by
  intro sz p e ha hc hk s m args below hf happ hP hK
  obtain ⟨n, o, h1, h2, h3, ⟨⟨v, wo, q1, q2, q3⟩, q4⟩⟩ := h sz p e ha hc hk s m args below hf happ hP hK
  exact ⟨n, o, h1, h2, h3, ⟨⟨v, wo, q1, hQ v wo q2, q3⟩, q4⟩⟩
def MC (p : Program) (l : Launch) (e : Env) (R : Room) (s : State) (m : MethodId) (args : Array Value) (below : List Frame) (meth : Method) (c : Code) (Z : mZ) (A : Nat → Prop) (ss : List (Nat × List Int32)) (own : String) (cc : ByteArray) (nL : Nat) (ret : Option FieldType) (d mc ms : Nat) : Prop :=
  CallFix p m c cc nL s args kGT own ∧ mENV Z A s s.heap ∧ (∀ x ∈ ss, kStr x.1 x.2 A s s.heap) ∧ meth.sig.returnType = ret ∧ meth.locks = false ∧ (d ≤ R.frames ∧ 64 * d ≤ R.locals ∧ mc ≤ R.cells ∧ ms ≤ R.slots) ∧ l.stackTraces = false
def M {ρ : Type} (p : Program) (l : Launch) (e : Env) (R : Room) (s : State) (m : MethodId) (args : Array Value) (below : List Frame) (meth : Method) (c : Code) (Z : mZ) (A : Nat → Prop) (nL : Nat) (QF : State → Prop) (z : ρ) (k0 n0 : Nat) (ws : va_W) (pc : Nat) (lv : List (Nat × Value)) (st : List Value) (X : Option ρ) : Prop :=
  X = some z → ∀ (H : Heap) (locs : List Loc) (ls : Array Slot), va_P Z.1.1 vwCl ws H → va_D A ws → va_S A s.heap H locs → lv_has ls nL lv →
    W p l e R s m args below meth c H locs k0 n0 QF (F0 m pc ls st)
theorem wA_D {wi : va_W} {sz : Nat} {A : Nat → Prop} (h : va_D A wi) : va_D (wA wi sz) wi := ⟨h.1, fun i q hq => Or.inl ⟨q, List.mem_of_getElem? hq, rfl⟩⟩
theorem mQ_blind {Z : mZ} {wi : va_W} {ss : List (Nat × List Int32)} {av : List Value} {sz : Nat} : FrameBlind (va_Pc av (mPre Z wi ss sz)) := fun a U g mk q => by
  obtain ⟨q0, q1, qP, qD, qE, qS⟩ := q
  exact ⟨q0, q1, qP, qD, mENV_same (s := U) (U := U.calling g mk a) rfl qE, fun x hx => kStr_to (s := U) (U := U.calling g mk a) (Vm.Alike.refl U.vm) (fun _ _ _ => rfl) (fun _ z => z) (qS x hx)⟩
def mQF (below : List Frame) (Z : mZ) (Q : Option Value → va_W → Prop) (wi : va_W) (args : Array Value) (s : State) (mc ms : Nat) : State → Prop := MQ below (mQ Z Q wi s.heap.size) args s mc ms (wA wi s.heap.size)
/-- a contract from a walk: code without a table of catches -/
theorem mMet_of {ρ : Type} {l : Launch} {Z : mZ} {y : MethodName} {b : ByteArray} {nL : Nat} {ret : Option FieldType} {d mc ms : Nat} {av : List Value} {lv : List (Nat × Value)} {wi : va_W} {ss : List (Nat × List Int32)} {Q : Option Value → va_W → Prop} {z : ρ} {X : Option ρ} {own : String} (hst : l.stackTraces = false)
    (hy : plainName y.cls = true) (how : y.cls = own) (hn : (lg_sl av).length ≤ nL) (hlv : lv_args 0 av = lv) (hX : X = some z)
    (body : ∀ (p : Program) (e : Env) (R : Room) (s : State) (m : MethodId) (args : Array Value) (below : List Frame) (meth : Method) (c : Code), MC p l e R s m args below meth c Z (wA wi s.heap.size) ss own b nL ret d mc ms → M p l e R s m args below meth c Z (wA wi s.heap.size) nL (mQF below Z Q wi args s mc ms) z 0 0 wi 0 lv [] X) : mMet l Z y (.code y b nL ret) d mc ms av wi ss Q := by
  intro sz
  refine Met.ofW (cc := b) (maxL := nL) (ret := ret) hy rfl ?_
  intro p e s m args below meth c s₁ B hml hv
  obtain ⟨rfl, hsz, hP, hD0, hE, hSS⟩ := hv
  have hts := atoms_spec (ws := .code y b nL ret :: kGT) B.pre
  have hown : s.vm.findClass y.cls = some m.cls := findClass_of_methodNamed B.named
  subst hsz
  subst how
  have hl := lv_entry av (n := nL) hn
  rw [lg_entry_eq]
  rw [hlv] at hl
  exact body p e (kRm d mc ms) s m _ below meth c ⟨⟨B.exec, B.bytes, hml, hown, fun w hw => hts w (List.mem_cons_of_mem _ hw)⟩, hE, hSS, B.returns, B.notSynchronized, ⟨Nat.le_refl _, Nat.le_refl _, Nat.le_refl _, Nat.le_refl _⟩, hst⟩ hX s.heap [] _ hP (wA_D hD0) va_S.rf hl
/-- a contract from a walk: code with its table of catches -/
theorem mMet_ofW {ρ : Type} {l : Launch} {Z : mZ} {y : MethodName} {b : ByteArray} {nL : Nat} {hh : List (Nat × Nat × Nat × Nat)} {ret : Option FieldType} {d mc ms : Nat} {av : List Value} {lv : List (Nat × Value)} {wi : va_W} {ss : List (Nat × List Int32)} {Q : Option Value → va_W → Prop} {z : ρ} {X : Option ρ} {own : String} (hst : l.stackTraces = false)
    (hy : plainName y.cls = true) (how : y.cls = own) (hn : (lg_sl av).length ≤ nL) (hlv : lv_args 0 av = lv) (hX : X = some z)
    (body : ∀ (p : Program) (e : Env) (R : Room) (s : State) (m : MethodId) (args : Array Value) (below : List Frame) (meth : Method) (c : Code), MC p l e R s m args below meth c Z (wA wi s.heap.size) ss own b nL ret d mc ms → c.exceptionTable.toList = tableOf hh → M p l e R s m args below meth c Z (wA wi s.heap.size) nL (mQF below Z Q wi args s mc ms) z 0 0 wi 0 lv [] X) : mMet l Z y (.codeWith y b nL ret hh) d mc ms av wi ss Q := by
  intro sz
  refine MetFree.of_bodyS (code := b) (maxLocals := nL) (ret := ret) hy ?_ ?_
  · intro args s m h hn
    obtain ⟨m9, meth, c, hn9, h1, h2, h3, h4, -, h5, h6, -⟩ := Cond.codeWith_spec (atoms_spec (ws := .codeWith y b nL ret hh :: kGT) h _ List.mem_cons_self)
    cases hn.symm.trans hn9
    exact ⟨meth, c, h1, h2, h3, h4, h5, h6⟩
  · intro p e s m args below meth c s₁ B hml hv _
    have hts := atoms_spec (ws := .codeWith y b nL ret hh :: kGT) B.pre
    have htab := vx_table (x := y) B (hts _ List.mem_cons_self)
    have hh0 : s₁.heap = s.heap := by rw [B.state]; rfl
    obtain ⟨rfl, hsz, hP, hD0, hE, hSS⟩ := hv
    have hown : s.vm.findClass y.cls = some m.cls := findClass_of_methodNamed B.named
    subst hsz
    subst how
    have hl := lv_entry av (n := nL) hn
    rw [hlv] at hl
    have key := body p e (kRm d mc ms) s m _ below meth c ⟨⟨B.exec, B.bytes, hml, hown, fun w hw => hts w (List.mem_cons_of_mem _ hw)⟩, hE, hSS, B.returns, B.notSynchronized, ⟨Nat.le_refl _, Nat.le_refl _, Nat.le_refl _, Nat.le_refl _⟩, hst⟩ htab hX s.heap [] _ hP (wA_D hD0) va_S.rf hl
    have K := key s₁ hh0 (Stand.of_body B)
    rw [← lg_entry_eq] at K
    obtain ⟨t, a1, o9, b1, b2, b3⟩ := K
    exact ⟨t, o9, a1, b1, b2, b3⟩
theorem va_ldcwS {p : Program} {l : Launch} {e : Env} {R : Room} {s : State} {m : MethodId} {args : Array Value} {below : List Frame} {meth : Method} {c : Code} {H : Heap} {locs : List Loc} {cells slots : Nat} {Q : State → Prop} {cc : ByteArray} {pc : Nat} {ls : Array Slot} {rest : List Value} (hexec : p.tables.exec = Jvm.exec) (hb : c.code = cc) {own tx : String} {index q : Nat} (hown : s.vm.findClass own = some m.cls) (hZ : vk_R own index tx q s) (hdg : decode cc pc = .ok (.ldc_w index, 3))
    (k : W p l e R s m args below meth c H locs cells slots Q (F0 m (pc + 3) ls (.ref q :: rest))) : W p l e R s m args below meth c H locs cells slots Q (F0 m pc ls rest) := by
  intro T hT X
  obtain ⟨t, a1, b1⟩ := k T hT X
  refine ⟨t, ?_, b1⟩
  obtain ⟨k, cf, i, a', hk, hcf, hcp, -, hr, hev'⟩ := Cond.stringRef_spec hown hZ.1
  cases hZ.2.symm.trans hev'
  obtain ⟨k', hk', he⟩ := X.warmed.alike.2.2 _ _ hk
  have hr' : k'.resolved[index]? = some (some (.string q)) := by
    rcases X.warmed.entry hk hk' index with h | ⟨h, -⟩
    · rw [h]; exact hr
    · rw [hr] at h; cases h
  subst hb
  jvm_step X.here [hexec, hdg, Op.ldc_w.wp_string (e := e) (s := T) (f := F0 m pc ls rest) X.here.top hk' (by rw [he]; exact hcf) hcp hr']
  exact a1
def mllet {ρ : Type} (x : Int64) (Y : Int64 → Option ρ) : Option ρ := Y x
section MROWS
variable {p : Program} {l : Launch} {e : Env} {R : Room} {s : State} {m : MethodId} {args : Array Value} {below : List Frame} {meth : Method} {c : Code} {Z : mZ} {A : Nat → Prop} {ss : List (Nat × List Int32)} {own : String} {cc : ByteArray} {nL : Nat} {ret : Option FieldType} {d mc ms : Nat} {ρ : Type} {QF : State → Prop} {z : ρ} {k0 n0 : Nat} {ws : va_W} {pc : Nat} {lv : List (Nat × Value)} {st : List Value} {X : Option ρ}
theorem M_iconst (C : MC p l e R s m args below meth c Z A ss own cc nL ret d mc ms) {n : Int} {v : Int32} (hv : Int32.ofInt n = v) (hdg : decode cc pc = .ok (.iconst n, 1)) (kk : M p l e R s m args below meth c Z A nL QF z k0 n0 (ws) (pc + 1) lv (.int v :: st) (X)) : M p l e R s m args below meth c Z A nL QF z k0 n0 (ws) (pc) lv (st) (X) := fun hX H locs ls hP hD hS hl => lv_iconst C.1.1 C.1.2.1 hdg hv (kk hX H locs ls hP hD hS hl)
theorem M_bipush (C : MC p l e R s m args below meth c Z A ss own cc nL ret d mc ms) {n : Int} {v : Int32} (hv : (Int8.ofInt n).toInt32 = v) (hdg : decode cc pc = .ok (.bipush n, 2)) (kk : M p l e R s m args below meth c Z A nL QF z k0 n0 (ws) (pc + 2) lv (.int v :: st) (X)) : M p l e R s m args below meth c Z A nL QF z k0 n0 (ws) (pc) lv (st) (X) := fun hX H locs ls hP hD hS hl => lv_bipush C.1.1 C.1.2.1 hdg hv (kk hX H locs ls hP hD hS hl)
theorem M_sipush (C : MC p l e R s m args below meth c Z A ss own cc nL ret d mc ms) {n : Int} {v : Int32} (hv : (Int16.ofInt n).toInt32 = v) (hdg : decode cc pc = .ok (.sipush n, 3)) (kk : M p l e R s m args below meth c Z A nL QF z k0 n0 (ws) (pc + 3) lv (.int v :: st) (X)) : M p l e R s m args below meth c Z A nL QF z k0 n0 (ws) (pc) lv (st) (X) := fun hX H locs ls hP hD hS hl => lv_sipush C.1.1 C.1.2.1 hdg hv (kk hX H locs ls hP hD hS hl)
theorem M_iload_n (C : MC p l e R s m args below meth c Z A ss own cc nL ret d mc ms) {k : Fin 4} {i : Nat} {x : Int32} (q : Nat) (hi : (k : Nat) = i) (hq : lv[q]? = some (i, .int x)) (hdg : decode cc pc = .ok (.iload_n k, 1)) (kk : M p l e R s m args below meth c Z A nL QF z k0 n0 (ws) (pc + 1) lv (.int x :: st) (X)) : M p l e R s m args below meth c Z A nL QF z k0 n0 (ws) (pc) lv (st) (X) := fun hX H locs ls hP hD hS hl => lv_iload_n C.1.1 C.1.2.1 hdg hi (lv_at hl q hq) (kk hX H locs ls hP hD hS hl)
theorem M_iload (C : MC p l e R s m args below meth c Z A ss own cc nL ret d mc ms) {i : Nat} {x : Int32} (q : Nat) (hq : lv[q]? = some (i, .int x)) (hdg : decode cc pc = .ok (.iload i, 2)) (kk : M p l e R s m args below meth c Z A nL QF z k0 n0 (ws) (pc + 2) lv (.int x :: st) (X)) : M p l e R s m args below meth c Z A nL QF z k0 n0 (ws) (pc) lv (st) (X) := fun hX H locs ls hP hD hS hl => lv_iload C.1.1 C.1.2.1 hdg (lv_at hl q hq) (kk hX H locs ls hP hD hS hl)
theorem M_istore_n (C : MC p l e R s m args below meth c Z A ss own cc nL ret d mc ms) {k : Fin 4} {i : Nat} {x : Int32} {lv1 : List (Nat × Value)} (hi : (k : Nat) = i) (hn : i < nL) (hl1 : (i, Value.int x) :: lv.filter (fun q => !(q.1 == i) && !(q.1 + 1 == i && q.2.category == 2)) = lv1) (hdg : decode cc pc = .ok (.istore_n k, 1)) (kk : M p l e R s m args below meth c Z A nL QF z k0 n0 (ws) (pc + 1) lv1 (st) (X)) : M p l e R s m args below meth c Z A nL QF z k0 n0 (ws) (pc) lv (.int x :: st) (X) := fun hX H locs ls hP hD hS hl => lv_istore_n C.1.1 C.1.2.1 hdg hi hl hn hl1 (fun ls1 hl2 => kk hX H locs ls1 hP hD hS hl2)
theorem M_istore (C : MC p l e R s m args below meth c Z A ss own cc nL ret d mc ms) {i : Nat} {x : Int32} {lv1 : List (Nat × Value)} (hn : i < nL) (hl1 : (i, Value.int x) :: lv.filter (fun q => !(q.1 == i) && !(q.1 + 1 == i && q.2.category == 2)) = lv1) (hdg : decode cc pc = .ok (.istore i, 2)) (kk : M p l e R s m args below meth c Z A nL QF z k0 n0 (ws) (pc + 2) lv1 (st) (X)) : M p l e R s m args below meth c Z A nL QF z k0 n0 (ws) (pc) lv (.int x :: st) (X) := fun hX H locs ls hP hD hS hl => lv_istore C.1.1 C.1.2.1 hdg hl hn hl1 (fun ls1 hl2 => kk hX H locs ls1 hP hD hS hl2)
theorem M_lload_n (C : MC p l e R s m args below meth c Z A ss own cc nL ret d mc ms) {k : Fin 4} {i : Nat} {x : Int64} (q : Nat) (hi : (k : Nat) = i) (hq : lv[q]? = some (i, .long x)) (hdg : decode cc pc = .ok (.lload_n k, 1)) (kk : M p l e R s m args below meth c Z A nL QF z k0 n0 (ws) (pc + 1) lv (.long x :: st) (X)) : M p l e R s m args below meth c Z A nL QF z k0 n0 (ws) (pc) lv (st) (X) := fun hX H locs ls hP hD hS hl => lv_lload_n C.1.1 C.1.2.1 hdg hi (lv_at hl q hq) (kk hX H locs ls hP hD hS hl)
theorem M_lload (C : MC p l e R s m args below meth c Z A ss own cc nL ret d mc ms) {i : Nat} {x : Int64} (q : Nat) (hq : lv[q]? = some (i, .long x)) (hdg : decode cc pc = .ok (.lload i, 2)) (kk : M p l e R s m args below meth c Z A nL QF z k0 n0 (ws) (pc + 2) lv (.long x :: st) (X)) : M p l e R s m args below meth c Z A nL QF z k0 n0 (ws) (pc) lv (st) (X) := fun hX H locs ls hP hD hS hl => lv_lload C.1.1 C.1.2.1 hdg (lv_at hl q hq) (kk hX H locs ls hP hD hS hl)
theorem M_lstore_n (C : MC p l e R s m args below meth c Z A ss own cc nL ret d mc ms) {k : Fin 4} {i : Nat} {x : Int64} {lv1 : List (Nat × Value)} (hi : (k : Nat) = i) (hn : i + 1 < nL) (hl1 : (i, Value.long x) :: lv.filter (fun q => !(q.1 == i) && (!(q.1 == i + 1) && !(q.1 + 1 == i && q.2.category == 2))) = lv1) (hdg : decode cc pc = .ok (.lstore_n k, 1)) (kk : M p l e R s m args below meth c Z A nL QF z k0 n0 (ws) (pc + 1) lv1 (st) (X)) : M p l e R s m args below meth c Z A nL QF z k0 n0 (ws) (pc) lv (.long x :: st) (X) := fun hX H locs ls hP hD hS hl => lv_lstore_n C.1.1 C.1.2.1 hdg hi hl hn hl1 (fun ls1 hl2 => kk hX H locs ls1 hP hD hS hl2)
theorem M_lstore (C : MC p l e R s m args below meth c Z A ss own cc nL ret d mc ms) {i : Nat} {x : Int64} {lv1 : List (Nat × Value)} (hn : i + 1 < nL) (hl1 : (i, Value.long x) :: lv.filter (fun q => !(q.1 == i) && (!(q.1 == i + 1) && !(q.1 + 1 == i && q.2.category == 2))) = lv1) (hdg : decode cc pc = .ok (.lstore i, 2)) (kk : M p l e R s m args below meth c Z A nL QF z k0 n0 (ws) (pc + 2) lv1 (st) (X)) : M p l e R s m args below meth c Z A nL QF z k0 n0 (ws) (pc) lv (.long x :: st) (X) := fun hX H locs ls hP hD hS hl => lv_lstore C.1.1 C.1.2.1 hdg hl hn hl1 (fun ls1 hl2 => kk hX H locs ls1 hP hD hS hl2)
theorem M_fload_n (C : MC p l e R s m args below meth c Z A ss own cc nL ret d mc ms) {k : Fin 4} {i : Nat} {x : UInt32} (q : Nat) (hi : (k : Nat) = i) (hq : lv[q]? = some (i, .float x)) (hdg : decode cc pc = .ok (.fload_n k, 1)) (kk : M p l e R s m args below meth c Z A nL QF z k0 n0 (ws) (pc + 1) lv (.float x :: st) (X)) : M p l e R s m args below meth c Z A nL QF z k0 n0 (ws) (pc) lv (st) (X) := fun hX H locs ls hP hD hS hl => lv_fload_n C.1.1 C.1.2.1 hdg hi (lv_at hl q hq) (kk hX H locs ls hP hD hS hl)
theorem M_fload (C : MC p l e R s m args below meth c Z A ss own cc nL ret d mc ms) {i : Nat} {x : UInt32} (q : Nat) (hq : lv[q]? = some (i, .float x)) (hdg : decode cc pc = .ok (.fload i, 2)) (kk : M p l e R s m args below meth c Z A nL QF z k0 n0 (ws) (pc + 2) lv (.float x :: st) (X)) : M p l e R s m args below meth c Z A nL QF z k0 n0 (ws) (pc) lv (st) (X) := fun hX H locs ls hP hD hS hl => lv_fload C.1.1 C.1.2.1 hdg (lv_at hl q hq) (kk hX H locs ls hP hD hS hl)
theorem M_fstore_n (C : MC p l e R s m args below meth c Z A ss own cc nL ret d mc ms) {k : Fin 4} {i : Nat} {x : UInt32} {lv1 : List (Nat × Value)} (hi : (k : Nat) = i) (hn : i < nL) (hl1 : (i, Value.float x) :: lv.filter (fun q => !(q.1 == i) && !(q.1 + 1 == i && q.2.category == 2)) = lv1) (hdg : decode cc pc = .ok (.fstore_n k, 1)) (kk : M p l e R s m args below meth c Z A nL QF z k0 n0 (ws) (pc + 1) lv1 (st) (X)) : M p l e R s m args below meth c Z A nL QF z k0 n0 (ws) (pc) lv (.float x :: st) (X) := fun hX H locs ls hP hD hS hl => lv_fstore_n C.1.1 C.1.2.1 hdg hi hl hn hl1 (fun ls1 hl2 => kk hX H locs ls1 hP hD hS hl2)
theorem M_fstore (C : MC p l e R s m args below meth c Z A ss own cc nL ret d mc ms) {i : Nat} {x : UInt32} {lv1 : List (Nat × Value)} (hn : i < nL) (hl1 : (i, Value.float x) :: lv.filter (fun q => !(q.1 == i) && !(q.1 + 1 == i && q.2.category == 2)) = lv1) (hdg : decode cc pc = .ok (.fstore i, 2)) (kk : M p l e R s m args below meth c Z A nL QF z k0 n0 (ws) (pc + 2) lv1 (st) (X)) : M p l e R s m args below meth c Z A nL QF z k0 n0 (ws) (pc) lv (.float x :: st) (X) := fun hX H locs ls hP hD hS hl => lv_fstore C.1.1 C.1.2.1 hdg hl hn hl1 (fun ls1 hl2 => kk hX H locs ls1 hP hD hS hl2)
theorem M_dload_n (C : MC p l e R s m args below meth c Z A ss own cc nL ret d mc ms) {k : Fin 4} {i : Nat} {x : UInt64} (q : Nat) (hi : (k : Nat) = i) (hq : lv[q]? = some (i, .double x)) (hdg : decode cc pc = .ok (.dload_n k, 1)) (kk : M p l e R s m args below meth c Z A nL QF z k0 n0 (ws) (pc + 1) lv (.double x :: st) (X)) : M p l e R s m args below meth c Z A nL QF z k0 n0 (ws) (pc) lv (st) (X) := fun hX H locs ls hP hD hS hl => lv_dload_n C.1.1 C.1.2.1 hdg hi (lv_at hl q hq) (kk hX H locs ls hP hD hS hl)
theorem M_dload (C : MC p l e R s m args below meth c Z A ss own cc nL ret d mc ms) {i : Nat} {x : UInt64} (q : Nat) (hq : lv[q]? = some (i, .double x)) (hdg : decode cc pc = .ok (.dload i, 2)) (kk : M p l e R s m args below meth c Z A nL QF z k0 n0 (ws) (pc + 2) lv (.double x :: st) (X)) : M p l e R s m args below meth c Z A nL QF z k0 n0 (ws) (pc) lv (st) (X) := fun hX H locs ls hP hD hS hl => lv_dload C.1.1 C.1.2.1 hdg (lv_at hl q hq) (kk hX H locs ls hP hD hS hl)
theorem M_dstore_n (C : MC p l e R s m args below meth c Z A ss own cc nL ret d mc ms) {k : Fin 4} {i : Nat} {x : UInt64} {lv1 : List (Nat × Value)} (hi : (k : Nat) = i) (hn : i + 1 < nL) (hl1 : (i, Value.double x) :: lv.filter (fun q => !(q.1 == i) && (!(q.1 == i + 1) && !(q.1 + 1 == i && q.2.category == 2))) = lv1) (hdg : decode cc pc = .ok (.dstore_n k, 1)) (kk : M p l e R s m args below meth c Z A nL QF z k0 n0 (ws) (pc + 1) lv1 (st) (X)) : M p l e R s m args below meth c Z A nL QF z k0 n0 (ws) (pc) lv (.double x :: st) (X) := fun hX H locs ls hP hD hS hl => lv_dstore_n C.1.1 C.1.2.1 hdg hi hl hn hl1 (fun ls1 hl2 => kk hX H locs ls1 hP hD hS hl2)
theorem M_dstore (C : MC p l e R s m args below meth c Z A ss own cc nL ret d mc ms) {i : Nat} {x : UInt64} {lv1 : List (Nat × Value)} (hn : i + 1 < nL) (hl1 : (i, Value.double x) :: lv.filter (fun q => !(q.1 == i) && (!(q.1 == i + 1) && !(q.1 + 1 == i && q.2.category == 2))) = lv1) (hdg : decode cc pc = .ok (.dstore i, 2)) (kk : M p l e R s m args below meth c Z A nL QF z k0 n0 (ws) (pc + 2) lv1 (st) (X)) : M p l e R s m args below meth c Z A nL QF z k0 n0 (ws) (pc) lv (.double x :: st) (X) := fun hX H locs ls hP hD hS hl => lv_dstore C.1.1 C.1.2.1 hdg hl hn hl1 (fun ls1 hl2 => kk hX H locs ls1 hP hD hS hl2)
theorem M_aload_n (C : MC p l e R s m args below meth c Z A ss own cc nL ret d mc ms) {k : Fin 4} {i : Nat} {x : Nat} (q : Nat) (hi : (k : Nat) = i) (hq : lv[q]? = some (i, .ref x)) (hdg : decode cc pc = .ok (.aload_n k, 1)) (kk : M p l e R s m args below meth c Z A nL QF z k0 n0 (ws) (pc + 1) lv (.ref x :: st) (X)) : M p l e R s m args below meth c Z A nL QF z k0 n0 (ws) (pc) lv (st) (X) := fun hX H locs ls hP hD hS hl => lv_aload_n C.1.1 C.1.2.1 hdg hi (lv_at hl q hq) (kk hX H locs ls hP hD hS hl)
theorem M_aload (C : MC p l e R s m args below meth c Z A ss own cc nL ret d mc ms) {i : Nat} {x : Nat} (q : Nat) (hq : lv[q]? = some (i, .ref x)) (hdg : decode cc pc = .ok (.aload i, 2)) (kk : M p l e R s m args below meth c Z A nL QF z k0 n0 (ws) (pc + 2) lv (.ref x :: st) (X)) : M p l e R s m args below meth c Z A nL QF z k0 n0 (ws) (pc) lv (st) (X) := fun hX H locs ls hP hD hS hl => lv_aload C.1.1 C.1.2.1 hdg (lv_at hl q hq) (kk hX H locs ls hP hD hS hl)
theorem M_astore_n (C : MC p l e R s m args below meth c Z A ss own cc nL ret d mc ms) {k : Fin 4} {i : Nat} {x : Nat} {lv1 : List (Nat × Value)} (hi : (k : Nat) = i) (hn : i < nL) (hl1 : (i, Value.ref x) :: lv.filter (fun q => !(q.1 == i) && !(q.1 + 1 == i && q.2.category == 2)) = lv1) (hdg : decode cc pc = .ok (.astore_n k, 1)) (kk : M p l e R s m args below meth c Z A nL QF z k0 n0 (ws) (pc + 1) lv1 (st) (X)) : M p l e R s m args below meth c Z A nL QF z k0 n0 (ws) (pc) lv (.ref x :: st) (X) := fun hX H locs ls hP hD hS hl => lv_astore_n C.1.1 C.1.2.1 hdg hi hl hn hl1 (fun ls1 hl2 => kk hX H locs ls1 hP hD hS hl2)
theorem M_astore (C : MC p l e R s m args below meth c Z A ss own cc nL ret d mc ms) {i : Nat} {x : Nat} {lv1 : List (Nat × Value)} (hn : i < nL) (hl1 : (i, Value.ref x) :: lv.filter (fun q => !(q.1 == i) && !(q.1 + 1 == i && q.2.category == 2)) = lv1) (hdg : decode cc pc = .ok (.astore i, 2)) (kk : M p l e R s m args below meth c Z A nL QF z k0 n0 (ws) (pc + 2) lv1 (st) (X)) : M p l e R s m args below meth c Z A nL QF z k0 n0 (ws) (pc) lv (.ref x :: st) (X) := fun hX H locs ls hP hD hS hl => lv_astore C.1.1 C.1.2.1 hdg hl hn hl1 (fun ls1 hl2 => kk hX H locs ls1 hP hD hS hl2)
theorem M_iadd (C : MC p l e R s m args below meth c Z A ss own cc nL ret d mc ms) {x y : Int32} (hdg : decode cc pc = .ok (.iadd, 1)) (kk : M p l e R s m args below meth c Z A nL QF z k0 n0 (ws) (pc + 1) lv (.int (x + y) :: st) (X)) : M p l e R s m args below meth c Z A nL QF z k0 n0 (ws) (pc) lv (.int y :: .int x :: st) (X) := fun hX H locs ls hP hD hS hl => lv_iadd C.1.1 C.1.2.1 hdg  (kk hX H locs ls hP hD hS hl)
theorem M_isub (C : MC p l e R s m args below meth c Z A ss own cc nL ret d mc ms) {x y : Int32} (hdg : decode cc pc = .ok (.isub, 1)) (kk : M p l e R s m args below meth c Z A nL QF z k0 n0 (ws) (pc + 1) lv (.int (x - y) :: st) (X)) : M p l e R s m args below meth c Z A nL QF z k0 n0 (ws) (pc) lv (.int y :: .int x :: st) (X) := fun hX H locs ls hP hD hS hl => lv_isub C.1.1 C.1.2.1 hdg  (kk hX H locs ls hP hD hS hl)
theorem M_imul (C : MC p l e R s m args below meth c Z A ss own cc nL ret d mc ms) {x y : Int32} (hdg : decode cc pc = .ok (.imul, 1)) (kk : M p l e R s m args below meth c Z A nL QF z k0 n0 (ws) (pc + 1) lv (.int (x * y) :: st) (X)) : M p l e R s m args below meth c Z A nL QF z k0 n0 (ws) (pc) lv (.int y :: .int x :: st) (X) := fun hX H locs ls hP hD hS hl => lv_imul C.1.1 C.1.2.1 hdg  (kk hX H locs ls hP hD hS hl)
theorem M_iand (C : MC p l e R s m args below meth c Z A ss own cc nL ret d mc ms) {x y : Int32} (hdg : decode cc pc = .ok (.iand, 1)) (kk : M p l e R s m args below meth c Z A nL QF z k0 n0 (ws) (pc + 1) lv (.int (x &&& y) :: st) (X)) : M p l e R s m args below meth c Z A nL QF z k0 n0 (ws) (pc) lv (.int y :: .int x :: st) (X) := fun hX H locs ls hP hD hS hl => lv_iand C.1.1 C.1.2.1 hdg  (kk hX H locs ls hP hD hS hl)
theorem M_ior (C : MC p l e R s m args below meth c Z A ss own cc nL ret d mc ms) {x y : Int32} (hdg : decode cc pc = .ok (.ior, 1)) (kk : M p l e R s m args below meth c Z A nL QF z k0 n0 (ws) (pc + 1) lv (.int (x ||| y) :: st) (X)) : M p l e R s m args below meth c Z A nL QF z k0 n0 (ws) (pc) lv (.int y :: .int x :: st) (X) := fun hX H locs ls hP hD hS hl => lv_ior C.1.1 C.1.2.1 hdg  (kk hX H locs ls hP hD hS hl)
theorem M_ixor (C : MC p l e R s m args below meth c Z A ss own cc nL ret d mc ms) {x y : Int32} (hdg : decode cc pc = .ok (.ixor, 1)) (kk : M p l e R s m args below meth c Z A nL QF z k0 n0 (ws) (pc + 1) lv (.int (x ^^^ y) :: st) (X)) : M p l e R s m args below meth c Z A nL QF z k0 n0 (ws) (pc) lv (.int y :: .int x :: st) (X) := fun hX H locs ls hP hD hS hl => lv_ixor C.1.1 C.1.2.1 hdg  (kk hX H locs ls hP hD hS hl)
theorem M_ishl (C : MC p l e R s m args below meth c Z A ss own cc nL ret d mc ms) {x y : Int32} (hdg : decode cc pc = .ok (.ishl, 1)) (kk : M p l e R s m args below meth c Z A nL QF z k0 n0 (ws) (pc + 1) lv (.int (x <<< (y &&& 31)) :: st) (X)) : M p l e R s m args below meth c Z A nL QF z k0 n0 (ws) (pc) lv (.int y :: .int x :: st) (X) := fun hX H locs ls hP hD hS hl => lv_ishl C.1.1 C.1.2.1 hdg  (kk hX H locs ls hP hD hS hl)
theorem M_ishr (C : MC p l e R s m args below meth c Z A ss own cc nL ret d mc ms) {x y : Int32} (hdg : decode cc pc = .ok (.ishr, 1)) (kk : M p l e R s m args below meth c Z A nL QF z k0 n0 (ws) (pc + 1) lv (.int (x >>> (y &&& 31)) :: st) (X)) : M p l e R s m args below meth c Z A nL QF z k0 n0 (ws) (pc) lv (.int y :: .int x :: st) (X) := fun hX H locs ls hP hD hS hl => lv_ishr C.1.1 C.1.2.1 hdg  (kk hX H locs ls hP hD hS hl)
theorem M_ineg (C : MC p l e R s m args below meth c Z A ss own cc nL ret d mc ms) {x : Int32} (hdg : decode cc pc = .ok (.ineg, 1)) (kk : M p l e R s m args below meth c Z A nL QF z k0 n0 (ws) (pc + 1) lv (.int (-x) :: st) (X)) : M p l e R s m args below meth c Z A nL QF z k0 n0 (ws) (pc) lv (.int x :: st) (X) := fun hX H locs ls hP hD hS hl => lv_ineg C.1.1 C.1.2.1 hdg  (kk hX H locs ls hP hD hS hl)
theorem M_idiv (C : MC p l e R s m args below meth c Z A ss own cc nL ret d mc ms) {x y : Int32} (hne : ¬ y = 0) (hdg : decode cc pc = .ok (.idiv, 1)) (kk : M p l e R s m args below meth c Z A nL QF z k0 n0 (ws) (pc + 1) lv (.int (x / y) :: st) (X)) : M p l e R s m args below meth c Z A nL QF z k0 n0 (ws) (pc) lv (.int y :: .int x :: st) (X) := fun hX H locs ls hP hD hS hl => lv_idiv C.1.1 C.1.2.1 hdg hne (kk hX H locs ls hP hD hS hl)
theorem M_irem (C : MC p l e R s m args below meth c Z A ss own cc nL ret d mc ms) {x y : Int32} (hne : ¬ y = 0) (hdg : decode cc pc = .ok (.irem, 1)) (kk : M p l e R s m args below meth c Z A nL QF z k0 n0 (ws) (pc + 1) lv (.int (x - x / y * y) :: st) (X)) : M p l e R s m args below meth c Z A nL QF z k0 n0 (ws) (pc) lv (.int y :: .int x :: st) (X) := fun hX H locs ls hP hD hS hl => lv_irem C.1.1 C.1.2.1 hdg hne (kk hX H locs ls hP hD hS hl)
theorem M_ladd (C : MC p l e R s m args below meth c Z A ss own cc nL ret d mc ms) {x y : Int64} (hdg : decode cc pc = .ok (.ladd, 1)) (kk : M p l e R s m args below meth c Z A nL QF z k0 n0 (ws) (pc + 1) lv (.long (x + y) :: st) (X)) : M p l e R s m args below meth c Z A nL QF z k0 n0 (ws) (pc) lv (.long y :: .long x :: st) (X) := fun hX H locs ls hP hD hS hl => lv_ladd C.1.1 C.1.2.1 hdg  (kk hX H locs ls hP hD hS hl)
theorem M_lmul (C : MC p l e R s m args below meth c Z A ss own cc nL ret d mc ms) {x y : Int64} (hdg : decode cc pc = .ok (.lmul, 1)) (kk : M p l e R s m args below meth c Z A nL QF z k0 n0 (ws) (pc + 1) lv (.long (x * y) :: st) (X)) : M p l e R s m args below meth c Z A nL QF z k0 n0 (ws) (pc) lv (.long y :: .long x :: st) (X) := fun hX H locs ls hP hD hS hl => lv_lmul C.1.1 C.1.2.1 hdg  (kk hX H locs ls hP hD hS hl)
theorem M_i2l (C : MC p l e R s m args below meth c Z A ss own cc nL ret d mc ms) {x : Int32} (hdg : decode cc pc = .ok (.i2l, 1)) (kk : M p l e R s m args below meth c Z A nL QF z k0 n0 (ws) (pc + 1) lv (.long x.toInt64 :: st) (X)) : M p l e R s m args below meth c Z A nL QF z k0 n0 (ws) (pc) lv (.int x :: st) (X) := fun hX H locs ls hP hD hS hl => lv_i2l C.1.1 C.1.2.1 hdg rfl (kk hX H locs ls hP hD hS hl)
theorem M_i2c (C : MC p l e R s m args below meth c Z A ss own cc nL ret d mc ms) {x : Int32} (hdg : decode cc pc = .ok (.i2c, 1)) (kk : M p l e R s m args below meth c Z A nL QF z k0 n0 (ws) (pc + 1) lv (.int ((x.toUInt32 % 65536).toInt32) :: st) (X)) : M p l e R s m args below meth c Z A nL QF z k0 n0 (ws) (pc) lv (.int x :: st) (X) := fun hX H locs ls hP hD hS hl => lv_i2c C.1.1 C.1.2.1 hdg rfl (kk hX H locs ls hP hD hS hl)
theorem M_i2b (C : MC p l e R s m args below meth c Z A ss own cc nL ret d mc ms) {x v : Int32} (hv : x.toInt8.toInt32 = v) (hdg : decode cc pc = .ok (.i2b, 1)) (kk : M p l e R s m args below meth c Z A nL QF z k0 n0 (ws) (pc + 1) lv (.int v :: st) (X)) : M p l e R s m args below meth c Z A nL QF z k0 n0 (ws) (pc) lv (.int x :: st) (X) := fun hX H locs ls hP hD hS hl => lv_i2b C.1.1 C.1.2.1 hdg hv (kk hX H locs ls hP hD hS hl)
theorem M_dup (C : MC p l e R s m args below meth c Z A ss own cc nL ret d mc ms) {va : Value} (hva : va.category = 1) (hdg : decode cc pc = .ok (.dup, 1)) (kk : M p l e R s m args below meth c Z A nL QF z k0 n0 (ws) (pc + 1) lv (va :: va :: st) (X)) : M p l e R s m args below meth c Z A nL QF z k0 n0 (ws) (pc) lv (va :: st) (X) := fun hX H locs ls hP hD hS hl => lv_dup C.1.1 C.1.2.1 hdg hva (kk hX H locs ls hP hD hS hl)
theorem M_dup_x1 (C : MC p l e R s m args below meth c Z A ss own cc nL ret d mc ms) {va vb : Value} (hva : va.category = 1) (hvb : vb.category = 1) (hdg : decode cc pc = .ok (.dup_x1, 1)) (kk : M p l e R s m args below meth c Z A nL QF z k0 n0 (ws) (pc + 1) lv (va :: vb :: va :: st) (X)) : M p l e R s m args below meth c Z A nL QF z k0 n0 (ws) (pc) lv (va :: vb :: st) (X) := fun hX H locs ls hP hD hS hl => lv_dup_x1 C.1.1 C.1.2.1 hdg hva hvb (kk hX H locs ls hP hD hS hl)
theorem M_pop (C : MC p l e R s m args below meth c Z A ss own cc nL ret d mc ms) {va : Value} (hva : va.category = 1) (hdg : decode cc pc = .ok (.pop, 1)) (kk : M p l e R s m args below meth c Z A nL QF z k0 n0 (ws) (pc + 1) lv (st) (X)) : M p l e R s m args below meth c Z A nL QF z k0 n0 (ws) (pc) lv (va :: st) (X) := fun hX H locs ls hP hD hS hl => lv_pop C.1.1 C.1.2.1 hdg hva (kk hX H locs ls hP hD hS hl)
theorem M_ldc (C : MC p l e R s m args below meth c Z A ss own cc nL ret d mc ms) {index : Nat} {v : Int32} (hc : Cond.constant own index v ∈ kGT) (hdg : decode cc pc = .ok (.ldc index, 2)) (kk : M p l e R s m args below meth c Z A nL QF z k0 n0 (ws) (pc + 2) lv (.int v :: st) (X)) : M p l e R s m args below meth c Z A nL QF z k0 n0 (ws) (pc) lv (st) (X) := fun hX H locs ls hP hD hS hl => lv_ldc C.1.1 C.1.2.1 C.1.2.2.2.1 (C.1.2.2.2.2 _ hc) hdg (kk hX H locs ls hP hD hS hl)
theorem M_ldc_w (C : MC p l e R s m args below meth c Z A ss own cc nL ret d mc ms) {index : Nat} {v : Int32} (hc : Cond.constant own index v ∈ kGT) (hdg : decode cc pc = .ok (.ldc_w index, 3)) (kk : M p l e R s m args below meth c Z A nL QF z k0 n0 (ws) (pc + 3) lv (.int v :: st) (X)) : M p l e R s m args below meth c Z A nL QF z k0 n0 (ws) (pc) lv (st) (X) := fun hX H locs ls hP hD hS hl => lv_ldcw C.1.1 C.1.2.1 C.1.2.2.2.1 (C.1.2.2.2.2 _ hc) hdg (kk hX H locs ls hP hD hS hl)
theorem M_ldcf (C : MC p l e R s m args below meth c Z A ss own cc nL ret d mc ms) {index : Nat} {v : UInt32} (hc : Cond.constantFloat own index v ∈ kGT) (hdg : decode cc pc = .ok (.ldc index, 2)) (kk : M p l e R s m args below meth c Z A nL QF z k0 n0 (ws) (pc + 2) lv (.float v :: st) (X)) : M p l e R s m args below meth c Z A nL QF z k0 n0 (ws) (pc) lv (st) (X) := fun hX H locs ls hP hD hS hl => lv_ldcf C.1.1 C.1.2.1 C.1.2.2.2.1 (C.1.2.2.2.2 _ hc) hdg (kk hX H locs ls hP hD hS hl)
theorem M_ldc2d (C : MC p l e R s m args below meth c Z A ss own cc nL ret d mc ms) {index : Nat} {v : UInt64} (hc : Cond.constantDouble own index v ∈ kGT) (hdg : decode cc pc = .ok (.ldc2_w index, 3)) (kk : M p l e R s m args below meth c Z A nL QF z k0 n0 (ws) (pc + 3) lv (.double v :: st) (X)) : M p l e R s m args below meth c Z A nL QF z k0 n0 (ws) (pc) lv (st) (X) := fun hX H locs ls hP hD hS hl => lv_ldc2d C.1.1 C.1.2.1 C.1.2.2.2.1 (C.1.2.2.2.2 _ hc) hdg (kk hX H locs ls hP hD hS hl)
theorem M_ldc2 (C : MC p l e R s m args below meth c Z A ss own cc nL ret d mc ms) {index : Nat} {v : Int64} (hc : Cond.constantLong own index v ∈ kGT) (hdg : decode cc pc = .ok (.ldc2_w index, 3)) (kk : M p l e R s m args below meth c Z A nL QF z k0 n0 (ws) (pc + 3) lv (.long v :: st) (X)) : M p l e R s m args below meth c Z A nL QF z k0 n0 (ws) (pc) lv (st) (X) := fun hX H locs ls hP hD hS hl => lv_ldc2 C.1.1 C.1.2.1 C.1.2.2.2.1 (C.1.2.2.2.2 _ hc) hdg (kk hX H locs ls hP hD hS hl)
theorem M_iinc (C : MC p l e R s m args below meth c Z A ss own cc nL ret d mc ms) {i k : Nat} {n : Int} {x : Int32} {Y : Int32 → Option ρ} {lv1 : Int32 → List (Nat × Value)} (hk : lv[k]? = some (i, .int x)) (hn : i < nL) (hl1 : ∀ v : Int32, (i, Value.int v) :: lv.filter (fun q => !(q.1 == i) && !(q.1 + 1 == i && q.2.category == 2)) = lv1 v) (hdg : decode cc pc = .ok (.iinc i n, 3)) (kk : ∀ v : Int32, M p l e R s m args below meth c Z A nL QF z k0 n0 (ws) (pc + 3) (lv1 v) (st) (Y v)) : M p l e R s m args below meth c Z A nL QF z k0 n0 (ws) (pc) lv (st) (klet (x + Int32.ofInt n) Y) := fun hX H locs ls hP hD hS hl => lv_iinc C.1.1 C.1.2.1 hdg hl hk rfl hn (hl1 _) (fun ls1 hl2 => kk _ hX H locs ls1 hP hD hS hl2)
theorem M_iincC (C : MC p l e R s m args below meth c Z A ss own cc nL ret d mc ms) {i k : Nat} {n : Int} {x v : Int32} {lv1 : List (Nat × Value)} (hk : lv[k]? = some (i, .int x)) (hv : x + Int32.ofInt n = v) (hn : i < nL) (hl1 : (i, Value.int v) :: lv.filter (fun q => !(q.1 == i) && !(q.1 + 1 == i && q.2.category == 2)) = lv1) (hdg : decode cc pc = .ok (.iinc i n, 3)) (kk : M p l e R s m args below meth c Z A nL QF z k0 n0 (ws) (pc + 3) lv1 (st) (X)) : M p l e R s m args below meth c Z A nL QF z k0 n0 (ws) (pc) lv (st) (X) := fun hX H locs ls hP hD hS hl => lv_iinc C.1.1 C.1.2.1 hdg hl hk hv hn hl1 (fun ls1 hl2 => kk hX H locs ls1 hP hD hS hl2)
theorem M_icmp_eq (C : MC p l e R s m args below meth c Z A ss own cc nL ret d mc ms) {x y : Int32} {off : Int} {tgt : Nat} {Xt Xf : Option ρ} (ht : (pc : Int) + off = (tgt : Int)) (hdg : decode cc pc = .ok (.if_icmp .eq off, 3)) (kt : M p l e R s m args below meth c Z A nL QF z k0 n0 (ws) (tgt) lv (st) (Xt)) (kf : M p l e R s m args below meth c Z A nL QF z k0 n0 (ws) (pc + 3) lv (st) (Xf)) : M p l e R s m args below meth c Z A nL QF z k0 n0 (ws) (pc) lv (.int y :: .int x :: st) (keq x y Xt Xf) := fun hX H locs ls hP hD hS hl => lv_icmp_eq C.1.1 C.1.2.1 hdg ht (fun h => kt (by unfold keq at hX; rwa [if_pos h] at hX) H locs ls hP hD hS hl) (fun h => kf (by unfold keq at hX; rwa [if_neg h] at hX) H locs ls hP hD hS hl)
theorem M_if_eq (C : MC p l e R s m args below meth c Z A ss own cc nL ret d mc ms) {x : Int32} {off : Int} {tgt : Nat} {Xt Xf : Option ρ} (ht : (pc : Int) + off = (tgt : Int)) (hdg : decode cc pc = .ok (.ifCond .eq off, 3)) (kt : M p l e R s m args below meth c Z A nL QF z k0 n0 (ws) (tgt) lv (st) (Xt)) (kf : M p l e R s m args below meth c Z A nL QF z k0 n0 (ws) (pc + 3) lv (st) (Xf)) : M p l e R s m args below meth c Z A nL QF z k0 n0 (ws) (pc) lv (.int x :: st) (keq x 0 Xt Xf) := fun hX H locs ls hP hD hS hl => lv_if_eq C.1.1 C.1.2.1 hdg ht (fun h => kt (by unfold keq at hX; rwa [if_pos h] at hX) H locs ls hP hD hS hl) (fun h => kf (by unfold keq at hX; rwa [if_neg h] at hX) H locs ls hP hD hS hl)
theorem M_icmp_ne (C : MC p l e R s m args below meth c Z A ss own cc nL ret d mc ms) {x y : Int32} {off : Int} {tgt : Nat} {Xt Xf : Option ρ} (ht : (pc : Int) + off = (tgt : Int)) (hdg : decode cc pc = .ok (.if_icmp .ne off, 3)) (kt : M p l e R s m args below meth c Z A nL QF z k0 n0 (ws) (tgt) lv (st) (Xt)) (kf : M p l e R s m args below meth c Z A nL QF z k0 n0 (ws) (pc + 3) lv (st) (Xf)) : M p l e R s m args below meth c Z A nL QF z k0 n0 (ws) (pc) lv (.int y :: .int x :: st) (keq x y Xf Xt) := fun hX H locs ls hP hD hS hl => lv_icmp_ne C.1.1 C.1.2.1 hdg ht (fun h => kt (by unfold keq at hX; rwa [if_neg h] at hX) H locs ls hP hD hS hl) (fun h => kf (by unfold keq at hX; rwa [if_pos h] at hX) H locs ls hP hD hS hl)
theorem M_if_ne (C : MC p l e R s m args below meth c Z A ss own cc nL ret d mc ms) {x : Int32} {off : Int} {tgt : Nat} {Xt Xf : Option ρ} (ht : (pc : Int) + off = (tgt : Int)) (hdg : decode cc pc = .ok (.ifCond .ne off, 3)) (kt : M p l e R s m args below meth c Z A nL QF z k0 n0 (ws) (tgt) lv (st) (Xt)) (kf : M p l e R s m args below meth c Z A nL QF z k0 n0 (ws) (pc + 3) lv (st) (Xf)) : M p l e R s m args below meth c Z A nL QF z k0 n0 (ws) (pc) lv (.int x :: st) (keq x 0 Xf Xt) := fun hX H locs ls hP hD hS hl => lv_if_ne C.1.1 C.1.2.1 hdg ht (fun h => kt (by unfold keq at hX; rwa [if_neg h] at hX) H locs ls hP hD hS hl) (fun h => kf (by unfold keq at hX; rwa [if_pos h] at hX) H locs ls hP hD hS hl)
theorem M_icmp_lt (C : MC p l e R s m args below meth c Z A ss own cc nL ret d mc ms) {x y : Int32} {off : Int} {tgt : Nat} {Xt Xf : Option ρ} (ht : (pc : Int) + off = (tgt : Int)) (hdg : decode cc pc = .ok (.if_icmp .lt off, 3)) (kt : M p l e R s m args below meth c Z A nL QF z k0 n0 (ws) (tgt) lv (st) (Xt)) (kf : M p l e R s m args below meth c Z A nL QF z k0 n0 (ws) (pc + 3) lv (st) (Xf)) : M p l e R s m args below meth c Z A nL QF z k0 n0 (ws) (pc) lv (.int y :: .int x :: st) (klt x y Xt Xf) := fun hX H locs ls hP hD hS hl => lv_icmp_lt C.1.1 C.1.2.1 hdg ht (fun h => kt (by unfold klt at hX; rwa [if_pos h] at hX) H locs ls hP hD hS hl) (fun h => kf (by unfold klt at hX; rwa [if_neg h] at hX) H locs ls hP hD hS hl)
theorem M_if_lt (C : MC p l e R s m args below meth c Z A ss own cc nL ret d mc ms) {x : Int32} {off : Int} {tgt : Nat} {Xt Xf : Option ρ} (ht : (pc : Int) + off = (tgt : Int)) (hdg : decode cc pc = .ok (.ifCond .lt off, 3)) (kt : M p l e R s m args below meth c Z A nL QF z k0 n0 (ws) (tgt) lv (st) (Xt)) (kf : M p l e R s m args below meth c Z A nL QF z k0 n0 (ws) (pc + 3) lv (st) (Xf)) : M p l e R s m args below meth c Z A nL QF z k0 n0 (ws) (pc) lv (.int x :: st) (klt x 0 Xt Xf) := fun hX H locs ls hP hD hS hl => lv_if_lt C.1.1 C.1.2.1 hdg ht (fun h => kt (by unfold klt at hX; rwa [if_pos h] at hX) H locs ls hP hD hS hl) (fun h => kf (by unfold klt at hX; rwa [if_neg h] at hX) H locs ls hP hD hS hl)
theorem M_icmp_ge (C : MC p l e R s m args below meth c Z A ss own cc nL ret d mc ms) {x y : Int32} {off : Int} {tgt : Nat} {Xt Xf : Option ρ} (ht : (pc : Int) + off = (tgt : Int)) (hdg : decode cc pc = .ok (.if_icmp .ge off, 3)) (kt : M p l e R s m args below meth c Z A nL QF z k0 n0 (ws) (tgt) lv (st) (Xt)) (kf : M p l e R s m args below meth c Z A nL QF z k0 n0 (ws) (pc + 3) lv (st) (Xf)) : M p l e R s m args below meth c Z A nL QF z k0 n0 (ws) (pc) lv (.int y :: .int x :: st) (kle y x Xt Xf) := fun hX H locs ls hP hD hS hl => lv_icmp_ge C.1.1 C.1.2.1 hdg ht (fun h => kt (by unfold kle at hX; rwa [if_pos h] at hX) H locs ls hP hD hS hl) (fun h => kf (by unfold kle at hX; rwa [if_neg h] at hX) H locs ls hP hD hS hl)
theorem M_if_ge (C : MC p l e R s m args below meth c Z A ss own cc nL ret d mc ms) {x : Int32} {off : Int} {tgt : Nat} {Xt Xf : Option ρ} (ht : (pc : Int) + off = (tgt : Int)) (hdg : decode cc pc = .ok (.ifCond .ge off, 3)) (kt : M p l e R s m args below meth c Z A nL QF z k0 n0 (ws) (tgt) lv (st) (Xt)) (kf : M p l e R s m args below meth c Z A nL QF z k0 n0 (ws) (pc + 3) lv (st) (Xf)) : M p l e R s m args below meth c Z A nL QF z k0 n0 (ws) (pc) lv (.int x :: st) (kle 0 x Xt Xf) := fun hX H locs ls hP hD hS hl => lv_if_ge C.1.1 C.1.2.1 hdg ht (fun h => kt (by unfold kle at hX; rwa [if_pos h] at hX) H locs ls hP hD hS hl) (fun h => kf (by unfold kle at hX; rwa [if_neg h] at hX) H locs ls hP hD hS hl)
theorem M_icmp_gt (C : MC p l e R s m args below meth c Z A ss own cc nL ret d mc ms) {x y : Int32} {off : Int} {tgt : Nat} {Xt Xf : Option ρ} (ht : (pc : Int) + off = (tgt : Int)) (hdg : decode cc pc = .ok (.if_icmp .gt off, 3)) (kt : M p l e R s m args below meth c Z A nL QF z k0 n0 (ws) (tgt) lv (st) (Xt)) (kf : M p l e R s m args below meth c Z A nL QF z k0 n0 (ws) (pc + 3) lv (st) (Xf)) : M p l e R s m args below meth c Z A nL QF z k0 n0 (ws) (pc) lv (.int y :: .int x :: st) (klt y x Xt Xf) := fun hX H locs ls hP hD hS hl => lv_icmp_gt C.1.1 C.1.2.1 hdg ht (fun h => kt (by unfold klt at hX; rwa [if_pos h] at hX) H locs ls hP hD hS hl) (fun h => kf (by unfold klt at hX; rwa [if_neg h] at hX) H locs ls hP hD hS hl)
theorem M_if_gt (C : MC p l e R s m args below meth c Z A ss own cc nL ret d mc ms) {x : Int32} {off : Int} {tgt : Nat} {Xt Xf : Option ρ} (ht : (pc : Int) + off = (tgt : Int)) (hdg : decode cc pc = .ok (.ifCond .gt off, 3)) (kt : M p l e R s m args below meth c Z A nL QF z k0 n0 (ws) (tgt) lv (st) (Xt)) (kf : M p l e R s m args below meth c Z A nL QF z k0 n0 (ws) (pc + 3) lv (st) (Xf)) : M p l e R s m args below meth c Z A nL QF z k0 n0 (ws) (pc) lv (.int x :: st) (klt 0 x Xt Xf) := fun hX H locs ls hP hD hS hl => lv_if_gt C.1.1 C.1.2.1 hdg ht (fun h => kt (by unfold klt at hX; rwa [if_pos h] at hX) H locs ls hP hD hS hl) (fun h => kf (by unfold klt at hX; rwa [if_neg h] at hX) H locs ls hP hD hS hl)
theorem M_icmp_le (C : MC p l e R s m args below meth c Z A ss own cc nL ret d mc ms) {x y : Int32} {off : Int} {tgt : Nat} {Xt Xf : Option ρ} (ht : (pc : Int) + off = (tgt : Int)) (hdg : decode cc pc = .ok (.if_icmp .le off, 3)) (kt : M p l e R s m args below meth c Z A nL QF z k0 n0 (ws) (tgt) lv (st) (Xt)) (kf : M p l e R s m args below meth c Z A nL QF z k0 n0 (ws) (pc + 3) lv (st) (Xf)) : M p l e R s m args below meth c Z A nL QF z k0 n0 (ws) (pc) lv (.int y :: .int x :: st) (kle x y Xt Xf) := fun hX H locs ls hP hD hS hl => lv_icmp_le C.1.1 C.1.2.1 hdg ht (fun h => kt (by unfold kle at hX; rwa [if_pos h] at hX) H locs ls hP hD hS hl) (fun h => kf (by unfold kle at hX; rwa [if_neg h] at hX) H locs ls hP hD hS hl)
theorem M_if_le (C : MC p l e R s m args below meth c Z A ss own cc nL ret d mc ms) {x : Int32} {off : Int} {tgt : Nat} {Xt Xf : Option ρ} (ht : (pc : Int) + off = (tgt : Int)) (hdg : decode cc pc = .ok (.ifCond .le off, 3)) (kt : M p l e R s m args below meth c Z A nL QF z k0 n0 (ws) (tgt) lv (st) (Xt)) (kf : M p l e R s m args below meth c Z A nL QF z k0 n0 (ws) (pc + 3) lv (st) (Xf)) : M p l e R s m args below meth c Z A nL QF z k0 n0 (ws) (pc) lv (.int x :: st) (kle x 0 Xt Xf) := fun hX H locs ls hP hD hS hl => lv_if_le C.1.1 C.1.2.1 hdg ht (fun h => kt (by unfold kle at hX; rwa [if_pos h] at hX) H locs ls hP hD hS hl) (fun h => kf (by unfold kle at hX; rwa [if_neg h] at hX) H locs ls hP hD hS hl)
theorem M_goto (C : MC p l e R s m args below meth c Z A ss own cc nL ret d mc ms) {off : Int} {tgt : Nat} (ht : (pc : Int) + off = (tgt : Int)) (hdg : decode cc pc = .ok (.goto off, 3)) (kk : M p l e R s m args below meth c Z A nL QF z k0 n0 (ws) (tgt) lv (st) (X)) : M p l e R s m args below meth c Z A nL QF z k0 n0 (ws) (pc) lv (st) (X) := fun hX H locs ls hP hD hS hl => lv_goto C.1.1 C.1.2.1 hdg ht (kk hX H locs ls hP hD hS hl)
theorem M_tin (C : MC p l e R s m args below meth c Z A ss own cc nL ret d mc ms) {dflt lo hi : Int} {offs : Array Int} {len : Nat} {x : Int32} {off : Int} {tgt : Nat} (h1 : ¬ x.toInt < lo) (h2 : ¬ hi < x.toInt) (ho : offs[(x.toInt - lo).toNat]? = some off) (ht : (pc : Int) + off = (tgt : Int)) (hdg : decode cc pc = .ok (.tableswitch dflt lo hi offs, len)) (kk : M p l e R s m args below meth c Z A nL QF z k0 n0 (ws) (tgt) lv (st) (X)) : M p l e R s m args below meth c Z A nL QF z k0 n0 (ws) (pc) lv (.int x :: st) (X) := fun hX H locs ls hP hD hS hl => lv_tableIn C.1.1 C.1.2.1 hdg h1 h2 ho ht (kk hX H locs ls hP hD hS hl)
theorem M_tout (C : MC p l e R s m args below meth c Z A ss own cc nL ret d mc ms) {dflt lo hi : Int} {offs : Array Int} {len : Nat} {x : Int32} {tgt : Nat} (h : x.toInt < lo ∨ hi < x.toInt) (ht : (pc : Int) + dflt = (tgt : Int)) (hdg : decode cc pc = .ok (.tableswitch dflt lo hi offs, len)) (kk : M p l e R s m args below meth c Z A nL QF z k0 n0 (ws) (tgt) lv (st) (X)) : M p l e R s m args below meth c Z A nL QF z k0 n0 (ws) (pc) lv (.int x :: st) (X) := fun hX H locs ls hP hD hS hl => lv_tableOut C.1.1 C.1.2.1 hdg h ht (kk hX H locs ls hP hD hS hl)
theorem M_case {x y : Int32} {X1 X2 : Option ρ} (k1 : x = y → M p l e R s m args below meth c Z A nL QF z k0 n0 (ws) (pc) lv (st) (X1)) (k2 : ¬ x = y → M p l e R s m args below meth c Z A nL QF z k0 n0 (ws) (pc) lv (st) (X2)) : M p l e R s m args below meth c Z A nL QF z k0 n0 (ws) (pc) lv (st) (keq x y X1 X2) := by
  intro hX
  unfold keq at hX
  by_cases h : x = y
  · rw [if_pos h] at hX; exact k1 h hX
  · rw [if_neg h] at hX; exact k2 h hX
theorem M_none : M p l e R s m args below meth c Z A nL QF z k0 n0 (ws) (pc) lv (st) (none) := fun hX => nomatch hX
theorem M_sub {lv1 : List (Nat × Value)} (ks : List Nat) (hk : lv_pick lv ks = lv1) (kk : M p l e R s m args below meth c Z A nL QF z k0 n0 (ws) (pc) lv1 (st) (X)) : M p l e R s m args below meth c Z A nL QF z k0 n0 (ws) (pc) lv (st) (X) := fun hX H locs ls hP hD hS hl => kk hX H locs ls hP hD hS (lv_sub hl ks hk)
theorem M_let {x : Int32} {Y : Int32 → Option ρ} {st1 : List Value} (hst : st = .int x :: st1) (kk : ∀ x1 : Int32, M p l e R s m args below meth c Z A nL QF z k0 n0 (ws) (pc) lv (.int x1 :: st1) (Y x1)) : M p l e R s m args below meth c Z A nL QF z k0 n0 (ws) (pc) lv (st) (klet x Y) := by rw [hst]; exact kk x
theorem M_llet {x : Int64} {Y : Int64 → Option ρ} {st1 : List Value} (hst : st = .long x :: st1) (kk : ∀ x1 : Int64, M p l e R s m args below meth c Z A nL QF z k0 n0 (ws) (pc) lv (.long x1 :: st1) (Y x1)) : M p l e R s m args below meth c Z A nL QF z k0 n0 (ws) (pc) lv (st) (mllet x Y) := by rw [hst]; exact kk x
theorem M_chk {b : Bool} (kk : b = true → M p l e R s m args below meth c Z A nL QF z k0 n0 (ws) (pc) lv (st) (X)) : M p l e R s m args below meth c Z A nL QF z k0 n0 (ws) (pc) lv (st) (kchk b X) := fun hX => kk (kchk_some hX).1 (kchk_some hX).2
theorem M_X {X1 : Option ρ} (h : X = X1) (kk : M p l e R s m args below meth c Z A nL QF z k0 n0 (ws) (pc) lv (st) (X1)) : M p l e R s m args below meth c Z A nL QF z k0 n0 (ws) (pc) lv (st) (X) := by rw [h]; exact kk
theorem M_drop {wr : va_W} (kk : M p l e R s m args below meth c Z A nL QF z k0 n0 (ws) (pc) lv (st) (X)) : M p l e R s m args below meth c Z A nL QF z k0 n0 (ws ++ wr) (pc) lv (st) (X) := fun hX H locs ls hP hD hS hl => kk hX H locs ls (vP_mem.mpr fun q hq => vP_mem.mp hP q (List.mem_append_left _ hq)) (vD_app.mp hD).1 hS hl
theorem M_perm {ws1 : va_W} (h : ws.Perm ws1) (kk : M p l e R s m args below meth c Z A nL QF z k0 n0 (ws1) (pc) lv (st) (X)) : M p l e R s m args below meth c Z A nL QF z k0 n0 (ws) (pc) lv (st) (X) := fun hX H locs ls hP hD hS hl => kk hX H locs ls (vP_perm h hP) (vD_perm h hD) hS hl
theorem M_widen {k1 n1 : Nat} (h1 : k0 ≤ k1) (h2 : n0 ≤ n1) (kk : M p l e R s m args below meth c Z A nL QF z k1 n1 (ws) (pc) lv (st) (X)) : M p l e R s m args below meth c Z A nL QF z k0 n0 (ws) (pc) lv (st) (X) := fun hX H locs ls hP hD hS hl => W.widen h1 h2 (kk hX H locs ls hP hD hS hl)
theorem M_ldcS (C : MC p l e R s m args below meth c Z A ss RL cc nL ret d mc ms) {index : Nat} {tx : String} (hm : (index, tx) ∈ mLits) (hdg : decode cc pc = .ok (.ldc index, 2)) (kk : ∀ sa : Nat, kStr sa (mTx tx) A s s.heap → M p l e R s m args below meth c Z A nL QF z k0 n0 (ws) (pc + 2) lv (.ref sa :: st) (X)) : M p l e R s m args below meth c Z A nL QF z k0 n0 (ws) (pc) lv (st) (X) := fun hX H locs ls hP hD hS hl => by
  obtain ⟨sa, h1, h2⟩ := C.2.1.2.2.2.2.2.2.2.1 _ hm
  exact va_ldcS C.1.1 C.1.2.1 C.1.2.2.2.1 h1 hdg (kk sa h2 hX H locs ls hP hD hS hl)
theorem M_ldcwS (C : MC p l e R s m args below meth c Z A ss RL cc nL ret d mc ms) {index : Nat} {tx : String} (hm : (index, tx) ∈ mLits) (hdg : decode cc pc = .ok (.ldc_w index, 3)) (kk : ∀ sa : Nat, kStr sa (mTx tx) A s s.heap → M p l e R s m args below meth c Z A nL QF z k0 n0 (ws) (pc + 3) lv (.ref sa :: st) (X)) : M p l e R s m args below meth c Z A nL QF z k0 n0 (ws) (pc) lv (st) (X) := fun hX H locs ls hP hD hS hl => by
  obtain ⟨sa, h1, h2⟩ := C.2.1.2.2.2.2.2.2.2.1 _ hm
  exact va_ldcwS C.1.1 C.1.2.1 C.1.2.2.2.1 h1 hdg (kk sa h2 hX H locs ls hP hD hS hl)
theorem M_compact (C : MC p l e R s m args below meth c Z A ss own cc nL ret d mc ms) {index : Nat} (hlink : Cond.fieldLink own index "java/lang/String" "COMPACT_STRINGS" "Z" ∈ kGT) (hdg : decode cc pc = .ok (.getstatic index, 3)) (kk : M p l e R s m args below meth c Z A nL QF z k0 n0 (ws) (pc + 3) lv (.int 1 :: st) (X)) : M p l e R s m args below meth c Z A nL QF z k0 n0 (ws) (pc) lv (st) (X) := fun hX H locs ls hP hD hS hl => va_gets C.1.1 C.1.2.1 C.2.1.2.2.2.2.2.1 hS C.1.2.2.2.1 (C.1.2.2.2.2 _ hlink) (fun x h => h) hdg (kk hX H locs ls hP hD hS hl)
theorem M_sld (C : MC p l e R s m args below meth c Z A ss own cc nL ret d mc ms) {x : Int32} {q : Nat} (hx : vp_in x (msL Z)) (hq : x.toNatClampNeg = q) (hdg : decode cc pc = .ok (.iaload, 1)) (kk : M p l e R s m args below meth c Z A nL QF z k0 n0 (ws) (pc + 1) lv (.int (msx Z q) :: st) (X)) : M p l e R s m args below meth c Z A nL QF z k0 n0 (ws) (pc) lv (.int x :: .ref (msb Z) :: st) (X) := fun hX H locs ls hP hD hS hl => by
  subst hq
  exact va_sld C.1.1 C.1.2.1 C.2.1.2.2.2.2.2.2.2.2.1 (mX_lt C.2.1.2.2.2.2.2.2.2.2.1) C.2.1.2.2.2.2.2.2.2.2.2 hS (i := x) hx hdg (kk hX H locs ls hP hD hS hl)
theorem M_slen (C : MC p l e R s m args below meth c Z A ss own cc nL ret d mc ms) (hdg : decode cc pc = .ok (.arraylength, 1)) (kk : M p l e R s m args below meth c Z A nL QF z k0 n0 (ws) (pc + 1) lv (.int (nI (msL Z)) :: st) (X)) : M p l e R s m args below meth c Z A nL QF z k0 n0 (ws) (pc) lv (.ref (msb Z) :: st) (X) := fun hX H locs ls hP hD hS hl => va_slen C.1.1 C.1.2.1 C.2.1.2.2.2.2.2.2.2.2.1 (mX_lt C.2.1.2.2.2.2.2.2.2.2.1) C.2.1.2.2.2.2.2.2.2.2.2 hS hdg (kk hX H locs ls hP hD hS hl)
theorem M_iret {wi : va_W} {Q : Option Value → va_W → Prop} (C : MC p l e R s m args below meth c Z (wA wi s.heap.size) ss own cc nL ret d mc ms) {v : Int32} {ty : FieldType} (hn : narrow ty (.int v) = .int v) (hret : ret = some ty) (hk0 : k0 ≤ mc ∧ n0 ≤ ms) (hdg : decode cc pc = .ok (.ireturn, 1)) (hQ : X = some z → Q (some (.int v)) ws) : M p l e R s m args below meth c Z (wA wi s.heap.size) nL (mQF below Z Q wi args s mc ms) z k0 n0 ws (pc) lv ([.int v]) (X) := by
  intro hX H locs ls hP hD hS hl
  subst hret
  refine W.widen (k := mc) (n := ms) hk0.1 hk0.2 ?_
  exact W.zret C.1.1 C.1.2.1 C.2.2.2.1 hn (fun t ht hW => ⟨_, ws, rfl, hQ hX, by rw [ht]; exact hP, hD, hS.F ht⟩) hS.2.2 hdg C.2.2.2.2.1
theorem M_lret {wi : va_W} {Q : Option Value → va_W → Prop} (C : MC p l e R s m args below meth c Z (wA wi s.heap.size) ss own cc nL ret d mc ms) {v : Int64} (hret : ret = some .long) (hk0 : k0 ≤ mc ∧ n0 ≤ ms) (hdg : decode cc pc = .ok (.lreturn, 1)) (hQ : X = some z → Q (some (.long v)) ws) : M p l e R s m args below meth c Z (wA wi s.heap.size) nL (mQF below Z Q wi args s mc ms) z k0 n0 ws (pc) lv ([.long v]) (X) := by
  intro hX H locs ls hP hD hS hl
  subst hret
  refine W.widen (k := mc) (n := ms) hk0.1 hk0.2 ?_
  exact W.lret C.1.1 C.1.2.1 C.2.2.2.1 (fun t ht hW => ⟨_, ws, rfl, hQ hX, by rw [ht]; exact hP, hD, hS.F ht⟩) hS.2.2 hdg C.2.2.2.2.1
theorem M_fret {wi : va_W} {Q : Option Value → va_W → Prop} (C : MC p l e R s m args below meth c Z (wA wi s.heap.size) ss own cc nL ret d mc ms) {v : UInt32} (hret : ret = some .float) (hk0 : k0 ≤ mc ∧ n0 ≤ ms) (hdg : decode cc pc = .ok (.freturn, 1)) (hQ : X = some z → Q (some (.float v)) ws) : M p l e R s m args below meth c Z (wA wi s.heap.size) nL (mQF below Z Q wi args s mc ms) z k0 n0 ws (pc) lv ([.float v]) (X) := by
  intro hX H locs ls hP hD hS hl
  subst hret
  refine W.widen (k := mc) (n := ms) hk0.1 hk0.2 ?_
  exact W.fret C.1.1 C.1.2.1 C.2.2.2.1 (fun t ht hW => ⟨_, ws, rfl, hQ hX, by rw [ht]; exact hP, hD, hS.F ht⟩) hS.2.2 hdg C.2.2.2.2.1
theorem M_dret {wi : va_W} {Q : Option Value → va_W → Prop} (C : MC p l e R s m args below meth c Z (wA wi s.heap.size) ss own cc nL ret d mc ms) {v : UInt64} (hret : ret = some .double) (hk0 : k0 ≤ mc ∧ n0 ≤ ms) (hdg : decode cc pc = .ok (.dreturn, 1)) (hQ : X = some z → Q (some (.double v)) ws) : M p l e R s m args below meth c Z (wA wi s.heap.size) nL (mQF below Z Q wi args s mc ms) z k0 n0 ws (pc) lv ([.double v]) (X) := by
  intro hX H locs ls hP hD hS hl
  subst hret
  refine W.widen (k := mc) (n := ms) hk0.1 hk0.2 ?_
  exact W.dret C.1.1 C.1.2.1 C.2.2.2.1 (fun t ht hW => ⟨_, ws, rfl, hQ hX, by rw [ht]; exact hP, hD, hS.F ht⟩) hS.2.2 hdg C.2.2.2.2.1
theorem M_vret {wi : va_W} {Q : Option Value → va_W → Prop} (C : MC p l e R s m args below meth c Z (wA wi s.heap.size) ss own cc nL ret d mc ms) (hret : ret = none) (hk0 : k0 ≤ mc ∧ n0 ≤ ms) (hdg : decode cc pc = .ok (.return_, 1)) (hQ : X = some z → Q none ws) : M p l e R s m args below meth c Z (wA wi s.heap.size) nL (mQF below Z Q wi args s mc ms) z k0 n0 ws (pc) lv ([]) (X) := by
  intro hX H locs ls hP hD hS hl
  subst hret
  refine W.widen (k := mc) (n := ms) hk0.1 hk0.2 ?_
  exact W.vret C.1.1 C.1.2.1 C.2.2.2.1 (fun t ht hW => ⟨_, ws, rfl, hQ hX, by rw [ht]; exact hP, hD, hS.F ht⟩) hS.2.2 hdg C.2.2.2.2.1
theorem M_aret {wi : va_W} {Q : Option Value → va_W → Prop} (C : MC p l e R s m args below meth c Z (wA wi s.heap.size) ss own cc nL ret d mc ms) {v : Nat} {rt : FieldType} (hrt : (∃ n, rt = .object n) ∨ ∃ t, rt = .array t) (hret : ret = some rt) (hk0 : k0 ≤ mc ∧ n0 ≤ ms) (hdg : decode cc pc = .ok (.areturn, 1)) (hQ : X = some z → Q (some (.ref v)) ws) : M p l e R s m args below meth c Z (wA wi s.heap.size) nL (mQF below Z Q wi args s mc ms) z k0 n0 ws (pc) lv ([.ref v]) (X) := by
  intro hX H locs ls hP hD hS hl
  subst hret
  refine W.widen (k := mc) (n := ms) hk0.1 hk0.2 ?_
  exact W.aret C.1.1 C.1.2.1 C.2.2.2.1 hrt (Or.inr ⟨v, rfl⟩) (fun t ht hW => ⟨_, ws, rfl, hQ hX, by rw [ht]; exact hP, hD, hS.F ht⟩) hS.2.2 hdg C.2.2.2.2.1
end MROWS
