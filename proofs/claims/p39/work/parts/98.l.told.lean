/-! told and does: a text fed, then read -/
theorem chg_tr2 {f fb : kMem} {z : kXr} (h : ∀ a, a < 280 → fb a = f a) (h1 : fb 291 = f 291) (h0 : z.2.2 280 2 = 0) (hC : Chg fb z) : Chg f z := by
  obtain ⟨c1, c2, c3, c4⟩ := hC
  refine ⟨fun q q1 q2 => (c1 q q1 q2).trans (h q (by omega)), c2.trans h1, Or.inr h0, ?_⟩
  rcases c4 with ⟨d1, d2, d3⟩ | ⟨d1, d2, d3⟩
  · exact Or.inl ⟨d1, fun q hq => (d2 q hq).trans (h q (by omega)), fun L hL => d3 L (hc_fr h hL)⟩
  · exact Or.inr ⟨d1, d2, fun L hL => hc_psh (fun a ha => h a (by omega)) (d3 L (hc_fr h hL))⟩
theorem kbind_id {X : Option (Int32 × kMem)} {ρ : Type} {Y : Int32 → kMem → Option ρ} : kbind (kbind X (fun r g => some (r, g))) Y = kbind X Y := by
  cases X with
  | none => rfl
  | some z => rfl
theorem ch_told {m : Nat} {f : kMem} {L : List kMem} {S : kMem} (h : St (m + 17) f L S) {t : List Int32} (ht : t.length ≤ 16 ∧ ∀ x, x ∈ t → ∃ c, c < 128 ∧ x = nI c) : Ch1 m f L S (kbind (lf_told t f) (fun r1 g2 => klt r1 0 (some (0, g2)) (some (1, g2)))) := by
  obtain ⟨N, g, hN, hR⟩ := id h.1
  obtain ⟨fT, gT, e1, ⟨b1, b2, b3, b4, b5⟩, hT⟩ := cf_fed t 0 N f g (by omega) ht.2 h.2.1 (by omega) hR
  obtain ⟨z, e, hz, hC, h0⟩ := cg_family (by omega) hT
  obtain ⟨z', bb, g', z1, -, -, -, -, z6⟩ := kp_family (N + t.length) fT gT (by omega) hT
  obtain rfl := Option.some.inj (z1.symm.trans e)
  unfold lf_told lf_feeds
  rw [e1, kbind_s, keq_f (by decide), kbind_id]
  exact ch_of (by decide) (St_mono h (by omega)) e (by rcases hz with q | q | q <;> simp [q]) (chg_tr2 (fun a ha => b1 a (by omega) (by omega)) (b1 291 (by decide) (by decide)) h0 hC) ⟨N + t.length + 1, g', by omega, z6⟩
theorem ch_does {m : Nat} {f : kMem} {L : List kMem} {S : kMem} (h : St (m + 17) f L S) {t : List Int32} (ht : t.length ≤ 16 ∧ ∀ x, x ∈ t → ∃ c, c < 128 ∧ x = nI c) : Ch1 m f L S (kbind (lf_does t f) (fun r1 g2 => klt r1 0 (some (0, g2)) (some (1, g2)))) := by
  obtain ⟨N, g, hN, hR⟩ := id h.1
  obtain ⟨fT, gT, e1, ⟨b1, b2, b3, b4, b5⟩, hT⟩ := cf_fed t 0 N f g (by omega) ht.2 h.2.1 (by omega) hR
  obtain ⟨z, e, hz, hC, h0⟩ := cg_program (by omega) hT
  obtain ⟨z', bb, g', z1, -, -, -, -, z6⟩ := kp_program (N + t.length) fT gT (by omega) hT
  obtain rfl := Option.some.inj (z1.symm.trans e)
  unfold lf_does lf_feeds
  rw [e1, kbind_s, keq_f (by decide), kbind_id]
  exact ch_of (by decide) (St_mono h (by omega)) e (by rcases hz with q | q | q <;> simp [q]) (chg_tr2 (fun a ha => b1 a (by omega) (by omega)) (b1 291 (by decide) (by decide)) h0 hC) ⟨N + t.length + 1, g', by omega, z6⟩
