/-! from the save on -/
theorem St_mono {m m' : Nat} {f : kMem} {L : List kMem} {S : kMem} (h : St m f L S) (hm : m' ≤ m) : St m' f L S := ⟨Vb_mono h.1 hm, h.2⟩
theorem j656 (hch : ChOk) {Z : mZ} {f : kMem} {L : List kMem} {S : kMem} {x3 : Int64} {x5 : Int32} (h : St (10 + 17 * 12) f L S) (hA : AF S x3) (h5 : S 18 0 = x5) : ∃ z, lj_law_656 Z f x3 x5 = some z := by
  have hL : L.length ≤ 8 := by
    obtain ⟨-, -, ⟨o, a1, a2, -⟩, -⟩ := h
    exact a2
  unfold lj_law_656
  refine lp_ok hch (mE := 10) (S := S) (fun g L' Ls P T D w x hH hl hw hS => ?_) 13 0 f L [] [] [] L (fun _ => 0) (by omega) (by omega) (by simp) ⟨rfl, by simp, Or.inl rfl, hL⟩ (fun j hj => absurd hj (by simp)) h
  obtain ⟨q1, q2, q3, q4⟩ := hH
  subst q1
  subst q2
  rw [List.length_append] at hl q4
  have ek : kmin 8 (nI (P ++ T).length) = nI T.length := by
    rw [show (8 : Int32) = nI 8 from rfl, List.length_append, kmin_nI (by omega) (by omega)]
    congr 1
    rcases q3 with rfl | q3
    · rw [List.length_nil]
      omega
    · omega
  rw [ek]
  have h9 := ul_ok (m := 2) (n := (P ++ T).length) (t0 := T.length) (S := S) (D := D) (T0 := T) (x3 := x3) (x5 := x5) (w := w) (Y := fun g43 x9_46 w47 => kbind (lf_restore g43) (fun r48 g49 => keq r48 x5 (kbind (lf_undo g49) (fun r50 g51 => keq r50 (-1001) (mlbind (lf_asks g51) (fun r52 g53 => mleq r52 x3 (kbind (lf_restore g53) (fun r54 g55 => keq r54 x5 (mlbind (lf_asks g55) (fun r56 g57 => mleq r56 x3 (some (1, g57)))) none)))) none)) none)) (fun f x hS => tail_ok (m := 0) hS hA h5) rfl (by omega) (by rw [List.length_append]; omega) (fun j hj => ?_) 9 T.length g (Nat.le_refl _) (by omega) (by rw [List.take_length]; exact St_mono hS (by omega))
  · rw [Nat.sub_self] at h9
    exact h9
  · have h8 := hw (P.length + j) (by rw [List.length_append]; omega)
    rw [List.getD_eq_getElem?_getD, List.getElem?_append_right (by omega), Nat.add_sub_cancel_left, ← List.getD_eq_getElem?_getD] at h8
    rw [List.length_append, show P.length + T.length - T.length + j = P.length + j by omega]
    exact h8
