/-! the second object's state between the law's steps -/
def Vb (m : Nat) (f : kMem) : Prop := ∃ N g, N + m < 512 ∧ kR N f g
theorem Vb_va {m : Nat} {f : kMem} (h : Vb m f) : Va f := by
  obtain ⟨N, g, h1, h2⟩ := h
  exact ⟨N, g, by omega, h2⟩
theorem Vb_mono {m m' : Nat} {f : kMem} (h : Vb m f) (hm : m' ≤ m) : Vb m' f := by
  obtain ⟨N, g, h1, h2⟩ := h
  exact ⟨N, g, by omega, h2⟩
/-- what asks answers over a floor (with no text) -/
def AF (F : kMem) (a : Int64) : Prop := ∀ f', Va f' → (∀ q, q < 25 → f' q = F q) → f' 280 2 = 0 → ∃ f1, lf_asks f' = some (a, f1) ∧ Off f' f1
theorem af_of {f : kMem} (V : Va f) (ht : f 280 2 = 0) : ∃ a, AF f a := by
  obtain ⟨a, f1, f1', e1, -, o1, -⟩ := as_all (h := f) V
  refine ⟨a, fun f' V' hf h0 => ?_⟩
  obtain ⟨a2, f2, f2', e2, e3, o2, o3⟩ := as_all (h := f') V
  rw [mix_of hf (h0.trans ht.symm)] at e3 o3
  rw [e1] at e2
  obtain ⟨rfl, -⟩ := Prod.mk.inj (Option.some.inj e2)
  exact ⟨f2', e3, o3⟩
theorem af_fl {F F' : kMem} {a : Int64} (h : AF F a) (hf : ∀ q, q < 25 → F' q = F q) : AF F' a := fun f' V hF h0 => h f' V (fun q hq => (hF q hq).trans (hf q hq)) h0
/-- the state: m changes may follow; no text; the history L; the snapshot S -/
def St (m : Nat) (f : kMem) (L : List kMem) (S : kMem) : Prop := Vb m f ∧ f 280 2 = 0 ∧ HC f L ∧ f 291 8 = 1 ∧ ∀ q, q < 25 → f (25 + q) = S q
theorem hc_off {f f1 : kMem} (ho : Off f f1) {L : List kMem} (h : HC f L) : HC f1 L := hc_fr (fun a ha => ho a (by omega) (by omega)) h
theorem Vb_off {m : Nat} {f f1 : kMem} (ho : Off f f1) (h : Vb m f) : Vb m f1 := by
  obtain ⟨N, g, h1, ⟨a1, a2, ⟨o, c, a3⟩, a4, a5⟩⟩ := h
  exact ⟨N, g, h1, Now_fr a1 (fun a ha => ho a (by omega) (by omega)) rfl, Reas_fr a2 (ho 277 (by decide) (by decide)) (ho 278 (by decide) (by decide)) (ho 279 (by decide) (by decide)) rfl rfl rfl, ⟨o, c, HistC_fr a3 (fun a x y => ho a (by omega) (by omega)) (ho 275 (by decide) (by decide)) rfl rfl⟩, Snap_fr a4 (fun a x y => ho a (by omega) (by omega)) (by rw [ho 291 (by decide) (by decide)]) rfl rfl, Txt_fr a5 (ho 280 (by decide) (by decide)) (ho 281 (by decide) (by decide)) rfl rfl rfl⟩
theorem St_off {m : Nat} {f f1 : kMem} {L : List kMem} {S : kMem} (ho : Off f f1) (h : St m f L S) : St m f1 L S := by
  obtain ⟨h1, h2, h3, h4, h5⟩ := h
  exact ⟨Vb_off ho h1, by rw [ho 280 (by decide) (by decide)]; exact h2, hc_off ho h3, by rw [ho 291 (by decide) (by decide)]; exact h4, fun q hq => (ho (25 + q) (by omega) (by omega)).trans (h5 q hq)⟩
/-- asks over a state: the floor's answer, and the state stays -/
theorem st_asks {m : Nat} {f F : kMem} {L : List kMem} {S : kMem} {a : Int64} (h : St m f L S) (hA : AF F a) (hF : ∀ q, q < 25 → f q = F q) : ∃ f1, lf_asks f = some (a, f1) ∧ St m f1 L S ∧ ∀ q, q < 25 → f1 q = f q := by
  obtain ⟨f1, e1, o1⟩ := hA f (Vb_va h.1) hF h.2.1
  exact ⟨f1, e1, St_off o1 h, fun q hq => o1 q (by omega) (by omega)⟩
theorem Vb_undo {m : Nat} {f : kMem} (h : Vb (m + 1) f) {z : kXr} (e : cx_X11_undo f = some z) : Vb m z.2.2 := by
  obtain ⟨N, g, h1, h2⟩ := h
  obtain ⟨z', bb, g', z1, -, -, -, -, z6⟩ := kp_undo N f g (by omega) h2
  obtain rfl := Option.some.inj (z1.symm.trans e)
  exact ⟨N + 1, g', by omega, z6⟩
theorem Vb_restore {m : Nat} {f : kMem} (h : Vb (m + 1) f) {z : kXr} (e : cx_X11_restore f = some z) : Vb m z.2.2 := by
  obtain ⟨N, g, h1, h2⟩ := h
  obtain ⟨z', bb, g', z1, -, -, -, -, z6⟩ := kp_restore N f g (by omega) h2
  obtain rfl := Option.some.inj (z1.symm.trans e)
  exact ⟨N + 1, g', by omega, z6⟩
theorem Vb_save {m : Nat} {f f1 : kMem} {r : Int32} (h : Vb (m + 1) f) (e : cf_X11_save f = some (r, f1)) : Vb m f1 := by
  obtain ⟨N, g, h1, h2⟩ := h
  obtain ⟨r', f1', g1, z1, -, z6⟩ := kp_save N f g (by omega) h2
  obtain ⟨-, rfl⟩ := Prod.mk.inj (Option.some.inj (z1.symm.trans e))
  exact ⟨N + 1, g1, by omega, z6⟩
theorem st_undo {m : Nat} {f F : kMem} {L : List kMem} {S : kMem} (h : St (m + 1) f (L ++ [F]) S) : ∃ f1, lf_undo f = some (nI L.length, f1) ∧ St m f1 L S ∧ ∀ q, q < 25 → f1 q = F q := by
  obtain ⟨h1, h2, h3, h4, h5⟩ := h
  obtain ⟨f1, e1, e2, e3, e4, e5, e6⟩ := cu_yes h3
  refine ⟨f1, ?_, ⟨Vb_undo h1 e1, by rw [e6]; exact h2, e3, by rw [e5]; exact h4, fun q hq => (e4 (25 + q) (by omega) (by omega)).trans (h5 q hq)⟩, e2⟩
  unfold lf_undo
  rw [e1]
  rfl
theorem st_undo0 {m : Nat} {f : kMem} {S : kMem} (h : St m f [] S) : lf_undo f = some (-1001, f) := by
  unfold lf_undo wvx
  rw [cu_no h.2.2.1]
  dsimp only
  rw [if_neg (by decide), if_pos (by decide)]
  exact congrArg (fun q => some (q, f)) (show (-1001 - Int32.ofNat (List.idxOf 1 [1]) : Int32) = -1001 by decide)
theorem st_restore {m : Nat} {f : kMem} {L : List kMem} {S : kMem} (h : St (m + 1) f L S) : ∃ f1, lf_restore f = some (S 18 0, f1) ∧ St m f1 [] S ∧ ∀ q, q < 25 → f1 q = S q := by
  obtain ⟨h1, h2, h3, h4, h5⟩ := h
  obtain ⟨f1, e1, e2, e3, e4, e5, e6⟩ := cs_restore h3 h4
  refine ⟨f1, ?_, ⟨Vb_restore h1 e1, by rw [e6]; exact h2, e3, by rw [e5]; exact h4, fun q hq => (e4 (25 + q) (by omega) (by omega)).trans (h5 q hq)⟩, fun q hq => (e2 q hq).trans (h5 q hq)⟩
  unfold lf_restore
  rw [e1, show f 43 = S 18 from h5 18 (by decide)]
  rfl
