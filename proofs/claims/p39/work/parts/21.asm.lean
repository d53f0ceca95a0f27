/-! the cells that the constructors made, as the worlds of the class and of the model -/
theorem fl_P {D : va_G} {cl : List vw_C} {H : Heap} : ∀ {Ys : List va_W}, va_P D cl Ys.flatten H → ∀ (k : Nat) (Y : va_W), Ys[k]? = some Y → va_P D cl Y H
  | [], _, k, Y, h => by simp at h
  | X :: r, hP, 0, Y, h => by
    simp at h
    subst h
    intro i q hq
    exact hP i q (by rw [List.flatten_cons, List.getElem?_append_left (List.getElem?_eq_some_iff.mp hq).1]; exact hq)
  | X :: r, hP, k + 1, Y, h => by
    refine fl_P (Ys := r) (fun i q hq => hP (X.length + i) q ?_) k Y (by simpa using h)
    rw [List.flatten_cons, List.getElem?_append_right (by omega), show X.length + i - X.length = i by omega]
    exact hq
theorem fl_D {A : Nat → Prop} : ∀ {Ys : List va_W}, va_D A Ys.flatten → (∀ (k : Nat) (Y : va_W), Ys[k]? = some Y → va_D A Y ∧ ∀ (i : Nat) (q : Nat × va_E), Y[i]? = some q → ∃ n : Nat, Ys.flatten[n]? = some q) ∧ ∀ (k k' : Nat) (Y Y' : va_W), Ys[k]? = some Y → Ys[k']? = some Y' → k ≠ k' → ∀ (i j : Nat) (p q : Nat × va_E), Y[i]? = some p → Y'[j]? = some q → p.1 ≠ q.1
  | [], _ => ⟨fun k Y h => by simp at h, fun k k' Y Y' h => by simp at h⟩
  | X :: r, hD => by
    have hr : va_D A r.flatten := ⟨fun i j p q hp hq e => by
      have := hD.1 (X.length + i) (X.length + j) p q (by rw [List.flatten_cons, List.getElem?_append_right (by omega), show X.length + i - X.length = i by omega]; exact hp) (by rw [List.flatten_cons, List.getElem?_append_right (by omega), show X.length + j - X.length = j by omega]; exact hq) e
      omega, fun i q hq => hD.2 (X.length + i) q (by rw [List.flatten_cons, List.getElem?_append_right (by omega), show X.length + i - X.length = i by omega]; exact hq)⟩
    have hX : ∀ (i : Nat) (q : Nat × va_E), X[i]? = some q → (X :: r).flatten[i]? = some q := fun i q hq => by rw [List.flatten_cons, List.getElem?_append_left (List.getElem?_eq_some_iff.mp hq).1]; exact hq
    have hR : ∀ (i : Nat) (q : Nat × va_E), r.flatten[i]? = some q → (X :: r).flatten[X.length + i]? = some q := fun i q hq => by rw [List.flatten_cons, List.getElem?_append_right (by omega), show X.length + i - X.length = i by omega]; exact hq
    obtain ⟨h1, h2⟩ := fl_D (Ys := r) hr
    have cross : ∀ (k : Nat) (Y : va_W), r[k]? = some Y → ∀ (i j : Nat) (p q : Nat × va_E), X[i]? = some p → Y[j]? = some q → p.1 ≠ q.1 := fun k Y hY i j p q hp hq e => by
      obtain ⟨n, hn⟩ := (h1 k Y hY).2 j q hq
      have := hD.1 i (X.length + n) p q (hX i p hp) (hR n q hn) e
      have := (List.getElem?_eq_some_iff.mp hp).1
      omega
    refine ⟨fun k Y h => ?_, fun k k' Y Y' h h' hk i j p q hp hq => ?_⟩
    · cases k with
      | zero =>
        simp at h
        subst h
        exact ⟨⟨fun i j p q hp hq e => hD.1 i j p q (hX i p hp) (hX j q hq) e, fun i q hq => hD.2 i q (hX i q hq)⟩, fun i q hq => ⟨i, hX i q hq⟩⟩
      | succ k =>
        obtain ⟨a, b⟩ := h1 k Y (by simpa using h)
        exact ⟨a, fun i q hq => (b i q hq).elim fun n hn => ⟨_, hR n q hn⟩⟩
    · cases k with
      | zero =>
        simp at h
        subst h
        cases k' with
        | zero => exact absurd rfl hk
        | succ k' => exact cross k' Y' (by simpa using h') i j p q hp hq
      | succ k =>
        cases k' with
        | zero =>
          simp at h'
          subst h'
          exact fun e => cross k Y (by simpa using h) j i q p hq hp e.symm
        | succ k' => exact h2 k k' Y Y' (by simpa using h) (by simpa using h') (by omega) i j p q hp hq
def adC (h0 : Nat) (st : Nat → Nat) (u : Nat → Nat → Nat) : Nat → Nat := fun a => if a < 275 then u (a / 25) (a % 25) else if a < 277 then u 11 (a - 275) else if a < 280 then u 12 (a - 277) else if a < 282 then u 13 (a - 280) else if a < 285 then u 14 (a - 282) else if a < 288 then u 15 (a - 285) else if a < 291 then u 16 (a - 288) else if a < 1000 then h0 else st (a - 1000)
def f0F (c k : Nat) : Int32 := match c with
  | 0 => if k = 7 ∨ k = 8 then -1 else 0
  | 7 => upd (upd (upd (upd zI 0 480) 1 60) 2 2) 3 10 k
  | 9 => upd (upd (upd zI 0 (-1)) 1 (-1)) 2 (-1) k
  | _ => 0
/-- the memory of a new object -/
def f0 : kMem := fun a k => if a < 275 then f0F (a % 25) k else if a = 280 ∧ k = 3 then -1 else 0
theorem adC_fl {h0 : Nat} {st : Nat → Nat} {u : Nat → Nat → Nat} {j c : Nat} (hj : j < 11) (hc : c < 25) : adC h0 st u (25 * j + c) = u j c := by
  unfold adC
  rw [if_pos (by omega), show (25 * j + c) / 25 = j by omega, show (25 * j + c) % 25 = c by omega]
theorem f0_fl {j c : Nat} (hj : j < 11) (hc : c < 25) : f0 (25 * j + c) = f0F c := by
  funext k
  unfold f0
  rw [if_pos (by omega), show (25 * j + c) % 25 = c by omega]
def Yb (G : kG) (h0 : Nat) (u : Nat → Nat → Nat) : List va_W := [[(h0, .inr (14, [.ref (u 0 0), .ref (u 1 0), .ref (u 11 0), .ref (u 12 0), .ref (u 13 0), .ref (u 14 0), .ref (u 15 0), .ref (u 16 0), .int 0]))], Y_X4 G (u 0 0) (u 0), Y_X4 G (u 1 0) (u 1), [(u 11 0, .inr (8, [.ref (u 11 1), .int 0, .int 0])), (u 11 1, aF G (va_up (va_up (va_up (va_up (va_up (va_up (va_up (va_up (va_up (fun _ => none) 0 (some (u 2 0))) 1 (some (u 3 0))) 2 (some (u 4 0))) 3 (some (u 5 0))) 4 (some (u 6 0))) 5 (some (u 7 0))) 6 (some (u 8 0))) 7 (some (u 9 0))) 8 (some (u 10 0))))], Y_X4 G (u 2 0) (u 2), Y_X4 G (u 3 0) (u 3), Y_X4 G (u 4 0) (u 4), Y_X4 G (u 5 0) (u 5), Y_X4 G (u 6 0) (u 6), Y_X4 G (u 7 0) (u 7), Y_X4 G (u 8 0) (u 8), Y_X4 G (u 9 0) (u 9), Y_X4 G (u 10 0) (u 10), Y_X8 G (u 12 0) (u 12), Y_X10 G (u 13 0) (u 13), Y_X3 G (u 14 0) (u 14), Y_X7 G (u 15 0) (u 15), Y_X1 G (u 16 0) (u 16)]
set_option maxRecDepth 20000 in
theorem Yb_eq (G : kG) (h0 : Nat) (u : Nat → Nat → Nat) : Y_X11 G h0 u = (Yb G h0 u).flatten := by
  unfold Y_X11 Y_X5 Yb
  simp only [List.flatten_cons, List.flatten_nil, List.append_assoc, List.append_nil]
def kb (a : Nat) : Nat := if a < 275 then (if a < 50 then a / 25 + 1 else a / 25 + 2) else if a < 277 then 3 else if a < 280 then 13 else if a < 282 then 14 else if a < 285 then 15 else if a < 288 then 16 else if a < 291 then 17 else 0
def cb (a : Nat) : Nat := if a < 275 then a % 25 else if a < 277 then a - 275 else if a < 280 then a - 277 else if a < 282 then a - 280 else if a < 285 then a - 282 else if a < 288 then a - 285 else if a < 291 then a - 288 else 0
theorem kb_inj {a b : Nat} (ha : a < 292) (hb : b < 292) (h1 : kb a = kb b) (h2 : cb a = cb b) : a = b := by
  unfold kb at h1
  unfold cb at h2
  repeat' split at h1
  all_goals repeat' split at h2
  all_goals omega
theorem Yb_fl (G : kG) (h0 : Nat) (u : Nat → Nat → Nat) {j : Nat} (hj : j < 11) : (Yb G h0 u)[if j < 2 then j + 1 else j + 2]? = some (Y_X4 G (u j 0) (u j)) := by
  rcases (show j = 0 ∨ j = 1 ∨ j = 2 ∨ j = 3 ∨ j = 4 ∨ j = 5 ∨ j = 6 ∨ j = 7 ∨ j = 8 ∨ j = 9 ∨ j = 10 by omega) with rfl | rfl | rfl | rfl | rfl | rfl | rfl | rfl | rfl | rfl | rfl <;> rfl
set_option maxRecDepth 20000 in
set_option maxHeartbeats 4000000 in
/-- the cells of a floor -/
theorem Yb_cell (G : kG) (h0 : Nat) (st : Nat → Nat) (u : Nat → Nat → Nat) {j c : Nat} (hj : j < 11) (hc : c < 25) : (Y_X4 G (u j 0) (u j))[c]? = some (adC h0 st u (25 * j + c), kcell (wC G (adC h0 st u)) f0 (25 * j + c)) := by
  have e : kcell (wC G (adC h0 st u)) f0 (25 * j + c) = match shF (25 * j) c with
    | .inl (0, n) => .inl (G.2.1, n, .inl (f0F c))
    | .inl (1, n) => .inl (G.2.2.1, n, .inl (f0F c))
    | .inl (_, n) => .inl (G.2.2.2, n, .inr (.inr (.inr (.inr (fun i => some (adC h0 st u (25 * (i + 2))))))))
    | .inr (ci, fl) => .inr (ci, kfs (wC G (adC h0 st u)) (f0F c) 0 fl) := by
    unfold kcell
    rw [shFl G _ hj hc, f0_fl hj hc]
    rfl
  rw [e, adC_fl hj hc]
  have k : ∀ d, d < 25 → kad (wC G (adC h0 st u)) (25 * j + d) = u j d := fun d hd => adC_fl hj hd
  rcases (show c = 0 ∨ c = 1 ∨ c = 2 ∨ c = 3 ∨ c = 4 ∨ c = 5 ∨ c = 6 ∨ c = 7 ∨ c = 8 ∨ c = 9 ∨ c = 10 ∨ c = 11 ∨ c = 12 ∨ c = 13 ∨ c = 14 ∨ c = 15 ∨ c = 16 ∨ c = 17 ∨ c = 18 ∨ c = 19 ∨ c = 20 ∨ c = 21 ∨ c = 22 ∨ c = 23 ∨ c = 24 by omega) with rfl | rfl | rfl | rfl | rfl | rfl | rfl | rfl | rfl | rfl | rfl | rfl | rfl | rfl | rfl | rfl | rfl | rfl | rfl | rfl | rfl | rfl | rfl | rfl | rfl
  all_goals first | rfl | (simp [Y_X4, shF, kfs, k, f0F, aI, zI, upd] ; done) | (simp [Y_X4, shF, kfs, k, f0F, aI, zI, upd] ; rfl)
theorem row_eqv {c : ClassId} {n : Nat} {f f' : Nat → Option Nat} (h : ∀ j, j < n → f j = f' j) : vp_cell c (n, .inr (.inr (.inr (.inr f)))) = vp_cell c (n, .inr (.inr (.inr (.inr f')))) := by
  show arrV c n (fun j => va_rf (f j)) = arrV c n (fun j => va_rf (f' j))
  unfold arrV
  congr 1
  apply Array.ext
  · simp
  · intro i h1 h2
    simp only [Array.getElem_ofFn]
    rw [h i (by simpa using h1)]
set_option maxRecDepth 20000 in
set_option maxHeartbeats 4000000 in
theorem asmC {G : kG} {h0 : Nat} {st : Nat → Nat} {u : Nat → Nat → Nat} {A : Nat → Prop} {H : Heap} (hP : va_P G.1 vwCl (Y_X11 G h0 u) H) (hD : va_D A (Y_X11 G h0 u)) : va_P G.1 vwCl (kw (wC G (adC h0 st u)) f0) H ∧ va_D A (kw (wC G (adC h0 st u)) f0) := by
  rw [Yb_eq] at hP hD
  have hPb := fl_P hP
  obtain ⟨hD1, hD2⟩ := fl_D hD
  have at' : ∀ a, a < 292 → ∃ (Y : va_W) (e : va_E), (Yb G h0 u)[kb a]? = some Y ∧ Y[cb a]? = some (adC h0 st u a, e) ∧ va_at G.1 vwCl (adC h0 st u a, kcell (wC G (adC h0 st u)) f0 a) H := by
    intro a ha
    by_cases h : a < 275
    · have hj : a / 25 < 11 := by omega
      have hc : a % 25 < 25 := by omega
      have hY := Yb_fl G h0 u hj
      have hcell := Yb_cell G h0 st u hj hc
      rw [show 25 * (a / 25) + a % 25 = a by omega] at hcell
      have e1 : kb a = if a / 25 < 2 then a / 25 + 1 else a / 25 + 2 := by
        unfold kb
        rw [if_pos h]
        by_cases h2 : a < 50
        · rw [if_pos h2, if_pos (by omega)]
        · rw [if_neg h2, if_neg (by omega)]
      have e2 : cb a = a % 25 := by unfold cb; rw [if_pos h]
      exact ⟨_, _, by rw [e1]; exact hY, by rw [e2]; exact hcell, hPb _ _ hY _ _ hcell⟩
    · rcases (show a = 275 ∨ a = 276 ∨ a = 277 ∨ a = 278 ∨ a = 279 ∨ a = 280 ∨ a = 281 ∨ a = 282 ∨ a = 283 ∨ a = 284 ∨ a = 285 ∨ a = 286 ∨ a = 287 ∨ a = 288 ∨ a = 289 ∨ a = 290 ∨ a = 291 by omega) with rfl | rfl | rfl | rfl | rfl | rfl | rfl | rfl | rfl | rfl | rfl | rfl | rfl | rfl | rfl | rfl | rfl
      · exact ⟨_, _, rfl, rfl, hPb 3 _ rfl 0 _ rfl⟩
      · refine ⟨_, _, rfl, rfl, ?_⟩
        have h1 := hPb 3 _ rfl 1 _ rfl
        have h2 : H[u 11 1]? = some (vp_cell G.2.2.2 (9, .inr (.inr (.inr (.inr (va_up (va_up (va_up (va_up (va_up (va_up (va_up (va_up (va_up (fun _ => none) 0 (some (u 2 0))) 1 (some (u 3 0))) 2 (some (u 4 0))) 3 (some (u 5 0))) 4 (some (u 6 0))) 5 (some (u 7 0))) 6 (some (u 8 0))) 7 (some (u 9 0))) 8 (some (u 10 0)))))))) := h1
        show H[u 11 1]? = some (vp_cell G.2.2.2 (9, .inr (.inr (.inr (.inr (fun i => some (adC h0 st u (25 * (i + 2)))))))))
        rw [h2, row_eqv (fun i hi => ?_)]
        have : adC h0 st u (25 * (i + 2)) = u (i + 2) 0 := adC_fl (c := 0) (by omega) (by decide)
        rw [this]
        rcases (show i = 0 ∨ i = 1 ∨ i = 2 ∨ i = 3 ∨ i = 4 ∨ i = 5 ∨ i = 6 ∨ i = 7 ∨ i = 8 by omega) with rfl | rfl | rfl | rfl | rfl | rfl | rfl | rfl | rfl <;> rfl
      · exact ⟨_, _, rfl, rfl, hPb 13 _ rfl 0 _ rfl⟩
      · exact ⟨_, _, rfl, rfl, hPb 13 _ rfl 1 _ rfl⟩
      · exact ⟨_, _, rfl, rfl, hPb 13 _ rfl 2 _ rfl⟩
      · exact ⟨_, _, rfl, rfl, hPb 14 _ rfl 0 _ rfl⟩
      · exact ⟨_, _, rfl, rfl, hPb 14 _ rfl 1 _ rfl⟩
      · exact ⟨_, _, rfl, rfl, hPb 15 _ rfl 0 _ rfl⟩
      · exact ⟨_, _, rfl, rfl, hPb 15 _ rfl 1 _ rfl⟩
      · exact ⟨_, _, rfl, rfl, hPb 15 _ rfl 2 _ rfl⟩
      · exact ⟨_, _, rfl, rfl, hPb 16 _ rfl 0 _ rfl⟩
      · exact ⟨_, _, rfl, rfl, hPb 16 _ rfl 1 _ rfl⟩
      · exact ⟨_, _, rfl, rfl, hPb 16 _ rfl 2 _ rfl⟩
      · exact ⟨_, _, rfl, rfl, hPb 17 _ rfl 0 _ rfl⟩
      · exact ⟨_, _, rfl, rfl, hPb 17 _ rfl 1 _ rfl⟩
      · exact ⟨_, _, rfl, rfl, hPb 17 _ rfl 2 _ rfl⟩
      · exact ⟨_, _, rfl, rfl, hPb 0 _ rfl 0 _ rfl⟩
  refine ⟨fun a q hq => ?_, fun a b q r hq hr e => ?_, fun a q hq => ?_⟩
  · have ha : a < 292 := by simpa [kw, kn] using (List.getElem?_eq_some_iff.mp hq).1
    rw [kw_get ha] at hq
    cases hq
    obtain ⟨-, -, -, -, h⟩ := at' a ha
    exact h
  · have ha : a < 292 := by simpa [kw, kn] using (List.getElem?_eq_some_iff.mp hq).1
    have hb : b < 292 := by simpa [kw, kn] using (List.getElem?_eq_some_iff.mp hr).1
    rw [kw_get ha] at hq
    rw [kw_get hb] at hr
    cases hq
    cases hr
    obtain ⟨Y, e1, hY, hc, -⟩ := at' a ha
    obtain ⟨Y', e2, hY', hc', -⟩ := at' b hb
    by_cases hk : kb a = kb b
    · rw [hk] at hY
      cases Option.some.inj (hY.symm.trans hY')
      exact kb_inj ha hb hk ((hD1 _ _ hY').1.1 _ _ _ _ hc hc' e)
    · exact absurd (show adC h0 st u a = adC h0 st u b from e) (hD2 _ _ _ _ hY hY' hk _ _ _ _ hc hc')
  · have ha : a < 292 := by simpa [kw, kn] using (List.getElem?_eq_some_iff.mp hq).1
    rw [kw_get ha] at hq
    cases hq
    obtain ⟨Y, e1, hY, hc, -⟩ := at' a ha
    have h9 := (hD1 _ _ hY).1.2 _ _ hc
    exact h9
def g0now : Nat → Int32 := (upd (upd (upd (upd (upd (upd (upd (upd (upd zI 4 (-1)) 5 (-1)) 12 480) 13 60) 14 2) 15 10) 100 (-1)) 103 (-1)) 106 (-1))
def g0 : kMem := fun a k => if a = 0 then (if k = 9 then -1 else 0) else if a = 1 then g0now k else 0
