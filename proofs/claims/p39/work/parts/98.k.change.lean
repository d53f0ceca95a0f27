/-! one change of the law's loop -/
def Ch1 (m : Nat) (f : kMem) (L : List kMem) (S : kMem) (Q : Option (Int32 × kMem)) : Prop := ∃ r f1, Q = some (r, f1) ∧ ((r = 0 ∧ St m f1 L S ∧ ∀ q, q < 25 → f1 q = f q) ∨ (r = 1 ∧ St m f1 (psh L f) S))
theorem st_chg {m : Nat} {f : kMem} {L : List kMem} {S : kMem} (h : St (m + 1) f L S) {z : kXr} (hC : Chg f z) (hV : Vb m z.2.2) : (z.1 ≠ 0 ∧ St m z.2.2 L S ∧ ∀ q, q < 25 → z.2.2 q = f q) ∨ (z.1 = 0 ∧ ¬ z.2.1 < 0 ∧ St m z.2.2 (psh L f) S) := by
  obtain ⟨h1, h2, h3, h4, h5⟩ := h
  obtain ⟨c1, c2, c3, c4⟩ := hC
  have t0 : z.2.2 280 2 = 0 := c3.elim (fun e => e.trans h2) id
  have s1 : z.2.2 291 8 = 1 := by rw [c2]; exact h4
  have s2 : ∀ q, q < 25 → z.2.2 (25 + q) = S q := fun q hq => (c1 (25 + q) (by omega) (by omega)).trans (h5 q hq)
  rcases c4 with ⟨d1, d2, d3⟩ | ⟨d1, d2, d3⟩
  · exact Or.inl ⟨d1, ⟨hV, t0, d3 L h3, s1, s2⟩, d2⟩
  · exact Or.inr ⟨d1, d2, ⟨hV, t0, d3 L h3, s1, s2⟩⟩
theorem neg_code : ∀ ks ∈ [[4], [2, 4]], ∀ n ∈ [2, 4], n ∈ ks → (-1001 - Int32.ofNat (List.idxOf n ks)) < 0 := by decide
theorem ch_of {m : Nat} {f : kMem} {L : List kMem} {S : kMem} {ks : List Nat} (hks : ks ∈ [[4], [2, 4]]) (h : St (m + 1) f L S) {X : Option kXr} {z : kXr} (e : X = some z) (hz : z.1 = 0 ∨ z.1 ∈ ks) (hC : Chg f z) (hV : Vb m z.2.2) : Ch1 m f L S (kbind (wvx ks X) (fun r1 g2 => klt r1 0 (some (0, g2)) (some (1, g2)))) := by
  rw [e]
  unfold wvx
  dsimp only
  rcases st_chg h hC hV with ⟨d1, d2, d3⟩ | ⟨d1, d2, d3⟩
  · have hm := hz.resolve_left d1
    have h24 : z.1 ∈ [2, 4] := by
      simp only [List.mem_cons, List.not_mem_nil, or_false] at hks
      rcases hks with rfl | rfl
      · rw [List.mem_singleton] at hm
        rw [hm]
        decide
      · exact hm
    rw [if_neg d1, if_pos hm, kbind_s, klt_t (neg_code ks hks z.1 h24 hm)]
    exact ⟨0, z.2.2, rfl, Or.inl ⟨rfl, d2, d3⟩⟩
  · rw [if_pos d1, kbind_s, klt_f d2]
    exact ⟨1, z.2.2, rfl, Or.inr ⟨rfl, d3⟩⟩
theorem ch_colour {m : Nat} {f : kMem} {L : List kMem} {S : kMem} (h : St (m + 1) f L S) (x1 : Int32) : Ch1 m f L S (kbind (lf_colour f x1) (fun r1 g2 => klt r1 0 (some (0, g2)) (some (1, g2)))) := by
  obtain ⟨N, g, hN, hR⟩ := id h.1
  obtain ⟨z, e, hz, hC⟩ := cg_colour (by omega) hR x1
  obtain ⟨z', bb, g', z1, -, -, -, -, z6⟩ := kp_colour N f g x1 (by omega) hR
  obtain rfl := Option.some.inj (z1.symm.trans e)
  exact ch_of (by decide) h e (hz.elim Or.inl (fun q => Or.inr (by rw [q]; decide))) hC ⟨N + 1, g', by omega, z6⟩
theorem ch_part {m : Nat} {f : kMem} {L : List kMem} {S : kMem} (h : St (m + 1) f L S) (x1 : Int32) : Ch1 m f L S (kbind (lf_part f x1) (fun r1 g2 => klt r1 0 (some (0, g2)) (some (1, g2)))) := by
  obtain ⟨N, g, hN, hR⟩ := id h.1
  obtain ⟨z, e, hz, hC⟩ := cg_part (by omega) hR x1
  obtain ⟨z', bb, g', z1, -, -, -, -, z6⟩ := kp_part N f g x1 (by omega) hR
  obtain rfl := Option.some.inj (z1.symm.trans e)
  exact ch_of (by decide) h e (hz.elim Or.inl (fun q => Or.inr (by rw [q]; decide))) hC ⟨N + 1, g', by omega, z6⟩
theorem ch_mount {m : Nat} {f : kMem} {L : List kMem} {S : kMem} (h : St (m + 1) f L S) (x1 : Int32) : Ch1 m f L S (kbind (lf_mount f x1) (fun r1 g2 => klt r1 0 (some (0, g2)) (some (1, g2)))) := by
  obtain ⟨N, g, hN, hR⟩ := id h.1
  obtain ⟨z, e, hz, hC⟩ := cg_mount (by omega) hR x1
  obtain ⟨z', bb, g', z1, -, -, -, -, z6⟩ := kp_mount N f g x1 (by omega) hR
  obtain rfl := Option.some.inj (z1.symm.trans e)
  exact ch_of (by decide) h e (hz.elim Or.inl (fun q => Or.inr (by rw [q]; decide))) hC ⟨N + 1, g', by omega, z6⟩
theorem ch_load {m : Nat} {f : kMem} {L : List kMem} {S : kMem} (h : St (m + 1) f L S) (x1 x2 x3 : Int32) : Ch1 m f L S (kbind (lf_load f x1 x2 x3) (fun r1 g2 => klt r1 0 (some (0, g2)) (some (1, g2)))) := by
  obtain ⟨N, g, hN, hR⟩ := id h.1
  obtain ⟨z, e, hz, hC⟩ := cg_load (by omega) hR x1 x2 x3
  obtain ⟨z', bb, g', z1, -, -, -, -, z6⟩ := kp_load N f g x1 x2 x3 (by omega) hR
  obtain rfl := Option.some.inj (z1.symm.trans e)
  exact ch_of (by decide) h e (hz.elim Or.inl (fun q => Or.inr (by rw [q]; decide))) hC ⟨N + 1, g', by omega, z6⟩
theorem ch_empty {m : Nat} {f : kMem} {L : List kMem} {S : kMem} (h : St (m + 1) f L S) (x1 : Int32) : Ch1 m f L S (kbind (lf_empty f x1) (fun r1 g2 => klt r1 0 (some (0, g2)) (some (1, g2)))) := by
  obtain ⟨N, g, hN, hR⟩ := id h.1
  obtain ⟨z, e, hz, hC⟩ := cg_empty (by omega) hR x1
  obtain ⟨z', bb, g', z1, -, -, -, -, z6⟩ := kp_empty N f g x1 (by omega) hR
  obtain rfl := Option.some.inj (z1.symm.trans e)
  exact ch_of (by decide) h e (hz.elim Or.inl (fun q => Or.inr (by rw [q]; decide))) hC ⟨N + 1, g', by omega, z6⟩
theorem ch_pause {m : Nat} {f : kMem} {L : List kMem} {S : kMem} (h : St (m + 1) f L S) (x1 : Int32) : Ch1 m f L S (kbind (lf_pause f x1) (fun r1 g2 => klt r1 0 (some (0, g2)) (some (1, g2)))) := by
  obtain ⟨N, g, hN, hR⟩ := id h.1
  obtain ⟨z, e, hz, hC⟩ := cg_pause (by omega) hR x1
  obtain ⟨z', bb, g', z1, -, -, -, -, z6⟩ := kp_pause N f g x1 (by omega) hR
  obtain rfl := Option.some.inj (z1.symm.trans e)
  exact ch_of (by decide) h e (hz.elim Or.inl (fun q => Or.inr (by rw [q]; decide))) hC ⟨N + 1, g', by omega, z6⟩
theorem ch_run {m : Nat} {f : kMem} {L : List kMem} {S : kMem} (h : St (m + 1) f L S) (x1 x2 : Int32) : Ch1 m f L S (kbind (lf_run f x1 x2) (fun r1 g2 => klt r1 0 (some (0, g2)) (some (1, g2)))) := by
  obtain ⟨N, g, hN, hR⟩ := id h.1
  obtain ⟨z, e, hz, hC⟩ := cg_run (by omega) hR x1 x2
  obtain ⟨z', bb, g', z1, -, -, -, -, z6⟩ := kp_run N f g x1 x2 (by omega) hR
  obtain rfl := Option.some.inj (z1.symm.trans e)
  exact ch_of (by decide) h e (hz.elim Or.inl (fun q => Or.inr (by rw [q]; decide))) hC ⟨N + 1, g', by omega, z6⟩
theorem ch_order {m : Nat} {f : kMem} {L : List kMem} {S : kMem} (h : St (m + 1) f L S) (x1 x2 x3 x4 : Int32) : Ch1 m f L S (kbind (lf_order f x1 x2 x3 x4) (fun r1 g2 => klt r1 0 (some (0, g2)) (some (1, g2)))) := by
  obtain ⟨N, g, hN, hR⟩ := id h.1
  obtain ⟨z, e, hz, hC⟩ := cg_order (by omega) hR x1 x2 x3 x4
  obtain ⟨z', bb, g', z1, -, -, -, -, z6⟩ := kp_order N f g x1 x2 x3 x4 (by omega) hR
  obtain rfl := Option.some.inj (z1.symm.trans e)
  exact ch_of (by decide) h e (hz.elim Or.inl (fun q => Or.inr (by rw [q]; decide))) hC ⟨N + 1, g', by omega, z6⟩
theorem ch_callOff {m : Nat} {f : kMem} {L : List kMem} {S : kMem} (h : St (m + 1) f L S) (x1 : Int32) : Ch1 m f L S (kbind (lf_callOff f x1) (fun r1 g2 => klt r1 0 (some (0, g2)) (some (1, g2)))) := by
  obtain ⟨N, g, hN, hR⟩ := id h.1
  obtain ⟨z, e, hz, hC⟩ := cg_callOff (by omega) hR x1
  obtain ⟨z', bb, g', z1, -, -, -, -, z6⟩ := kp_callOff N f g x1 (by omega) hR
  obtain rfl := Option.some.inj (z1.symm.trans e)
  exact ch_of (by decide) h e (hz.elim Or.inl (fun q => Or.inr (by rw [q]; decide))) hC ⟨N + 1, g', by omega, z6⟩
theorem ch_set {m : Nat} {f : kMem} {L : List kMem} {S : kMem} (h : St (m + 1) f L S) (x1 x2 : Int32) : Ch1 m f L S (kbind (lf_set f x1 x2) (fun r1 g2 => klt r1 0 (some (0, g2)) (some (1, g2)))) := by
  obtain ⟨N, g, hN, hR⟩ := id h.1
  obtain ⟨z, e, hz, hC⟩ := cg_set (by omega) hR x1 x2
  obtain ⟨z', bb, g', z1, -, -, -, -, z6⟩ := kp_set N f g x1 x2 (by omega) hR
  obtain rfl := Option.some.inj (z1.symm.trans e)
  exact ch_of (by decide) h e (hz.elim Or.inl (fun q => Or.inr (by rw [q]; decide))) hC ⟨N + 1, g', by omega, z6⟩
