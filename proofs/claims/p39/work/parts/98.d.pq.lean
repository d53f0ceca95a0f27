/-! queries: they leave the memory, and see only the floor (and the text's length) -/
def mix (f h : kMem) : kMem := fun a => if a < 25 then f a else if a = 280 then upd (h 280) 2 (f 280 2) else h a
theorem mix_of {f h : kMem} (h1 : ∀ a, a < 25 → h a = f a) (h2 : h 280 2 = f 280 2) : mix f h = h := by
  funext a
  unfold mix
  split
  · exact (h1 a ‹_›).symm
  · split
    · subst a
      funext k
      by_cases hk : k = 2
      · subst hk
        rw [upd_eq, h2]
      · rw [upd_ne hk]
    · rfl
def relI (f h : kMem) (X X' : Option (Int32 × kMem)) : Prop := (X = none ∧ X' = none) ∨ ∃ r, X = some (r, f) ∧ X' = some (r, mix f h)
def relX {β : Type} (f h : kMem) (X X' : Option (Nat × β × kMem)) : Prop := (X = none ∧ X' = none) ∨ ∃ c v, X = some (c, v, f) ∧ X' = some (c, v, mix f h)
section REL
variable {f h : kMem} {β : Type} {x x' y y' : Int32}
theorem rI_some {r r' : Int32} (e : r' = r) : relI f h (some (r, f)) (some (r', mix f h)) := Or.inr ⟨r, rfl, by rw [e]⟩
theorem rX_some {c : Nat} {v v' : β} (e : v' = v) : relX f h (some (c, v, f)) (some (c, v', mix f h)) := Or.inr ⟨c, v, rfl, by rw [e]⟩
theorem rI_none : relI f h none none := Or.inl ⟨rfl, rfl⟩
theorem rX_none : relX (β := β) f h none none := Or.inl ⟨rfl, rfl⟩
theorem rI_bind {X X' : Option (Int32 × kMem)} {B B' : Int32 → kMem → Option (Int32 × kMem)} (h1 : relI f h X X') (h2 : ∀ r, relI f h (B r f) (B' r (mix f h))) : relI f h (kbind X B) (kbind X' B') := by
  rcases h1 with ⟨rfl, rfl⟩ | ⟨r, rfl, rfl⟩
  · exact Or.inl ⟨rfl, rfl⟩
  · exact h2 r
theorem rX_bind {X X' : Option (Int32 × kMem)} {B B' : Int32 → kMem → Option (Nat × β × kMem)} (h1 : relI f h X X') (h2 : ∀ r, relX f h (B r f) (B' r (mix f h))) : relX f h (kbind X B) (kbind X' B') := by
  rcases h1 with ⟨rfl, rfl⟩ | ⟨r, rfl, rfl⟩
  · exact Or.inl ⟨rfl, rfl⟩
  · exact h2 r
theorem rX_xbind {X X' : Option kXr} {B B' : Int32 → kMem → Option kXr} (h1 : relX f h X X') (h2 : ∀ r, relX f h (B r f) (B' r (mix f h))) : relX f h (kxbind X B) (kxbind X' B') := by
  rcases h1 with ⟨rfl, rfl⟩ | ⟨c, v, rfl, rfl⟩
  · exact Or.inl ⟨rfl, rfl⟩
  · unfold kxbind
    dsimp only
    split
    · exact h2 v
    · exact Or.inr ⟨c, 0, rfl, rfl⟩
theorem rI_keq {A B A' B' : Option (Int32 × kMem)} (e1 : x' = x) (e2 : y' = y) (h1 : relI f h A A') (h2 : relI f h B B') : relI f h (keq x y A B) (keq x' y' A' B') := by
  rw [e1, e2]
  unfold keq
  split
  · exact h1
  · exact h2
theorem rI_klt {A B A' B' : Option (Int32 × kMem)} (e1 : x' = x) (e2 : y' = y) (h1 : relI f h A A') (h2 : relI f h B B') : relI f h (klt x y A B) (klt x' y' A' B') := by
  rw [e1, e2]
  unfold klt
  split
  · exact h1
  · exact h2
theorem rI_kle {A B A' B' : Option (Int32 × kMem)} (e1 : x' = x) (e2 : y' = y) (h1 : relI f h A A') (h2 : relI f h B B') : relI f h (kle x y A B) (kle x' y' A' B') := by
  rw [e1, e2]
  unfold kle
  split
  · exact h1
  · exact h2
theorem rI_chk {b b' : Bool} {A A' : Option (Int32 × kMem)} (e : b' = b) (h1 : relI f h A A') : relI f h (kchk b A) (kchk b' A') := by
  rw [e]
  cases b with
  | true => exact h1
  | false => exact Or.inl ⟨rfl, rfl⟩
theorem rI_let {Y Y' : Int32 → Option (Int32 × kMem)} (e : x' = x) (h1 : ∀ v, relI f h (Y v) (Y' v)) : relI f h (klet x Y) (klet x' Y') := by
  rw [e]
  exact h1 x
theorem rX_keq {A B A' B' : Option (Nat × β × kMem)} (e1 : x' = x) (e2 : y' = y) (h1 : relX f h A A') (h2 : relX f h B B') : relX f h (keq x y A B) (keq x' y' A' B') := by
  rw [e1, e2]
  unfold keq
  split
  · exact h1
  · exact h2
theorem rX_klt {A B A' B' : Option (Nat × β × kMem)} (e1 : x' = x) (e2 : y' = y) (h1 : relX f h A A') (h2 : relX f h B B') : relX f h (klt x y A B) (klt x' y' A' B') := by
  rw [e1, e2]
  unfold klt
  split
  · exact h1
  · exact h2
theorem rX_kle {A B A' B' : Option (Nat × β × kMem)} (e1 : x' = x) (e2 : y' = y) (h1 : relX f h A A') (h2 : relX f h B B') : relX f h (kle x y A B) (kle x' y' A' B') := by
  rw [e1, e2]
  unfold kle
  split
  · exact h1
  · exact h2
theorem rX_chk {b b' : Bool} {A A' : Option (Nat × β × kMem)} (e : b' = b) (h1 : relX f h A A') : relX f h (kchk b A) (kchk b' A') := by
  rw [e]
  cases b with
  | true => exact h1
  | false => exact Or.inl ⟨rfl, rfl⟩
theorem rX_let {Y Y' : Int32 → Option (Nat × β × kMem)} (e : x' = x) (h1 : ∀ v, relX f h (Y v) (Y' v)) : relX f h (klet x Y) (klet x' Y') := by
  rw [e]
  exact h1 x
theorem rX_keqF {A B A' B' : Option (Nat × β × kMem)} (hn : ¬ x = y) (h2 : relX f h B B') : relX f h (keq x y A B) (keq x y A' B') := by
  unfold keq
  rw [if_neg hn, if_neg hn]
  exact h2
end REL
theorem pq_cf_X11_isWithin (f h : kMem) (x0 x1 x2 : Int32) : relI f h (cf_X11_isWithin f x0 x1 x2) (cf_X11_isWithin (mix f h) x0 x1 x2) := by
  unfold cf_X11_isWithin
  repeat' first
    | (with_reducible exact rI_none)
    | (with_reducible refine rI_keq ?_ ?_ ?_ ?_)
    | (with_reducible refine rI_klt ?_ ?_ ?_ ?_)
    | (with_reducible refine rI_kle ?_ ?_ ?_ ?_)
    | (with_reducible refine rI_chk ?_ ?_)
    | (with_reducible refine rI_let ?_ (fun _ => ?_))
    | (with_reducible refine rI_bind ?_ (fun _ => ?_))
    | (with_reducible refine rI_some ?_)
    | (rfl)
theorem pe_cf_X11_isWithin {f h : kMem} {x0 x0' : Int32} (e_x0 : x0' = x0) {x1 x1' : Int32} (e_x1 : x1' = x1) {x2 x2' : Int32} (e_x2 : x2' = x2) : relI f h (cf_X11_isWithin f x0 x1 x2) (cf_X11_isWithin (mix f h) x0' x1' x2') := by
  rw [e_x0, e_x1, e_x2]
  exact pq_cf_X11_isWithin f h x0 x1 x2
theorem pq_cf_X0_isColour (f h : kMem) (x1 : Int32) : relI f h (cf_X0_isColour f x1) (cf_X0_isColour (mix f h) x1) := by
  unfold cf_X0_isColour
  repeat' first
    | (with_reducible exact rI_none)
    | (with_reducible apply pe_cf_X11_isWithin)
    | (with_reducible refine rI_keq ?_ ?_ ?_ ?_)
    | (with_reducible refine rI_klt ?_ ?_ ?_ ?_)
    | (with_reducible refine rI_kle ?_ ?_ ?_ ?_)
    | (with_reducible refine rI_chk ?_ ?_)
    | (with_reducible refine rI_let ?_ (fun _ => ?_))
    | (with_reducible refine rI_bind ?_ (fun _ => ?_))
    | (with_reducible refine rI_some ?_)
    | (rfl)
theorem pe_cf_X0_isColour {f h : kMem} {x1 x1' : Int32} (e_x1 : x1' = x1) : relI f h (cf_X0_isColour f x1) (cf_X0_isColour (mix f h) x1') := by
  rw [e_x1]
  exact pq_cf_X0_isColour f h x1
theorem pq_cj_X11_purge_28 (f h : kMem) : relX f h (cj_X11_purge_28 f ) (cj_X11_purge_28 (mix f h) ) := by
  unfold cj_X11_purge_28
  repeat' first
    | (with_reducible exact rX_none)
    | (with_reducible refine rX_keq ?_ ?_ ?_ ?_)
    | (with_reducible refine rX_klt ?_ ?_ ?_ ?_)
    | (with_reducible refine rX_kle ?_ ?_ ?_ ?_)
    | (with_reducible refine rX_chk ?_ ?_)
    | (with_reducible refine rX_let ?_ (fun _ => ?_))
    | (with_reducible refine rX_bind ?_ (fun _ => ?_))
    | (with_reducible refine rX_xbind ?_ (fun _ => ?_))
    | (with_reducible refine rX_some ?_)
    | (rfl)
theorem pe_cj_X11_purge_28 {f h : kMem}  : relX f h (cj_X11_purge_28 f ) (cj_X11_purge_28 (mix f h) ) := by
  exact pq_cj_X11_purge_28 f h 
theorem pq_cf_X0_purgeShots (f h : kMem) (x1 x2 : Int32) : relI f h (cf_X0_purgeShots f x1 x2) (cf_X0_purgeShots (mix f h) x1 x2) := by
  unfold cf_X0_purgeShots
  repeat' first
    | (with_reducible exact rI_none)
    | (with_reducible apply pe_cf_X0_isColour)
    | (with_reducible refine rI_keq ?_ ?_ ?_ ?_)
    | (with_reducible refine rI_klt ?_ ?_ ?_ ?_)
    | (with_reducible refine rI_kle ?_ ?_ ?_ ?_)
    | (with_reducible refine rI_chk ?_ ?_)
    | (with_reducible refine rI_let ?_ (fun _ => ?_))
    | (with_reducible refine rI_bind ?_ (fun _ => ?_))
    | (with_reducible refine rI_some ?_)
    | (rfl)
theorem pe_cf_X0_purgeShots {f h : kMem} {x1 x1' : Int32} (e_x1 : x1' = x1) {x2 x2' : Int32} (e_x2 : x2' = x2) : relI f h (cf_X0_purgeShots f x1 x2) (cf_X0_purgeShots (mix f h) x1' x2') := by
  rw [e_x1, e_x2]
  exact pq_cf_X0_purgeShots f h x1 x2
theorem pq_cx_X11_purge (f h : kMem) (x1 x2 : Int32) : relX f h (cx_X11_purge f x1 x2) (cx_X11_purge (mix f h) x1 x2) := by
  unfold cx_X11_purge
  repeat' first
    | (with_reducible exact rX_none)
    | (with_reducible apply pe_cf_X0_isColour)
    | (with_reducible apply pe_cf_X0_purgeShots)
    | (with_reducible apply pe_cj_X11_purge_28)
    | (with_reducible refine rX_keq ?_ ?_ ?_ ?_)
    | (with_reducible refine rX_klt ?_ ?_ ?_ ?_)
    | (with_reducible refine rX_kle ?_ ?_ ?_ ?_)
    | (with_reducible refine rX_chk ?_ ?_)
    | (with_reducible refine rX_let ?_ (fun _ => ?_))
    | (with_reducible refine rX_bind ?_ (fun _ => ?_))
    | (with_reducible refine rX_xbind ?_ (fun _ => ?_))
    | (with_reducible refine rX_some ?_)
    | (rfl)
theorem pe_cx_X11_purge {f h : kMem} {x1 x1' : Int32} (e_x1 : x1' = x1) {x2 x2' : Int32} (e_x2 : x2' = x2) : relX f h (cx_X11_purge f x1 x2) (cx_X11_purge (mix f h) x1' x2') := by
  rw [e_x1, e_x2]
  exact pq_cx_X11_purge f h x1 x2
theorem pq_cf_X0_isFamily (f h : kMem) (x1 : Int32) : relI f h (cf_X0_isFamily f x1) (cf_X0_isFamily (mix f h) x1) := by
  unfold cf_X0_isFamily
  repeat' first
    | (with_reducible exact rI_none)
    | (with_reducible apply pe_cf_X11_isWithin)
    | (with_reducible refine rI_keq ?_ ?_ ?_ ?_)
    | (with_reducible refine rI_klt ?_ ?_ ?_ ?_)
    | (with_reducible refine rI_kle ?_ ?_ ?_ ?_)
    | (with_reducible refine rI_chk ?_ ?_)
    | (with_reducible refine rI_let ?_ (fun _ => ?_))
    | (with_reducible refine rI_bind ?_ (fun _ => ?_))
    | (with_reducible refine rI_some ?_)
    | (rfl)
theorem pe_cf_X0_isFamily {f h : kMem} {x1 x1' : Int32} (e_x1 : x1' = x1) : relI f h (cf_X0_isFamily f x1) (cf_X0_isFamily (mix f h) x1') := by
  rw [e_x1]
  exact pq_cf_X0_isFamily f h x1
theorem pq_cx_X11_minutes (f h : kMem) (x1 x2 : Int32) : relX f h (cx_X11_minutes f x1 x2) (cx_X11_minutes (mix f h) x1 x2) := by
  unfold cx_X11_minutes
  repeat' first
    | (with_reducible exact rX_none)
    | (with_reducible apply pe_cf_X0_isColour)
    | (with_reducible apply pe_cf_X0_isFamily)
    | (with_reducible apply pe_cf_X0_purgeShots)
    | (with_reducible apply pe_cf_X11_isWithin)
    | (with_reducible refine rX_keq ?_ ?_ ?_ ?_)
    | (with_reducible refine rX_klt ?_ ?_ ?_ ?_)
    | (with_reducible refine rX_kle ?_ ?_ ?_ ?_)
    | (with_reducible refine rX_chk ?_ ?_)
    | (with_reducible refine rX_let ?_ (fun _ => ?_))
    | (with_reducible refine rX_bind ?_ (fun _ => ?_))
    | (with_reducible refine rX_xbind ?_ (fun _ => ?_))
    | (with_reducible refine rX_some ?_)
    | (rfl)
theorem pe_cx_X11_minutes {f h : kMem} {x1 x1' : Int32} (e_x1 : x1' = x1) {x2 x2' : Int32} (e_x2 : x2' = x2) : relX f h (cx_X11_minutes f x1 x2) (cx_X11_minutes (mix f h) x1' x2') := by
  rw [e_x1, e_x2]
  exact pq_cx_X11_minutes f h x1 x2
theorem pq_cf_X0_isPart (f h : kMem) (x1 : Int32) : relI f h (cf_X0_isPart f x1) (cf_X0_isPart (mix f h) x1) := by
  unfold cf_X0_isPart
  repeat' first
    | (with_reducible exact rI_none)
    | (with_reducible apply pe_cf_X11_isWithin)
    | (with_reducible refine rI_keq ?_ ?_ ?_ ?_)
    | (with_reducible refine rI_klt ?_ ?_ ?_ ?_)
    | (with_reducible refine rI_kle ?_ ?_ ?_ ?_)
    | (with_reducible refine rI_chk ?_ ?_)
    | (with_reducible refine rI_let ?_ (fun _ => ?_))
    | (with_reducible refine rI_bind ?_ (fun _ => ?_))
    | (with_reducible refine rI_some ?_)
    | (rfl)
theorem pe_cf_X0_isPart {f h : kMem} {x1 x1' : Int32} (e_x1 : x1' = x1) : relI f h (cf_X0_isPart f x1) (cf_X0_isPart (mix f h) x1') := by
  rw [e_x1]
  exact pq_cf_X0_isPart f h x1
theorem pq_cf_X0_piecesOf (f h : kMem) (x1 x2 : Int32) : relI f h (cf_X0_piecesOf f x1 x2) (cf_X0_piecesOf (mix f h) x1 x2) := by
  unfold cf_X0_piecesOf
  repeat' first
    | (with_reducible exact rI_none)
    | (with_reducible apply pe_cf_X0_isFamily)
    | (with_reducible apply pe_cf_X0_isPart)
    | (with_reducible refine rI_keq ?_ ?_ ?_ ?_)
    | (with_reducible refine rI_klt ?_ ?_ ?_ ?_)
    | (with_reducible refine rI_kle ?_ ?_ ?_ ?_)
    | (with_reducible refine rI_chk ?_ ?_)
    | (with_reducible refine rI_let ?_ (fun _ => ?_))
    | (with_reducible refine rI_bind ?_ (fun _ => ?_))
    | (with_reducible refine rI_some ?_)
    | (rfl)
theorem pe_cf_X0_piecesOf {f h : kMem} {x1 x1' : Int32} (e_x1 : x1' = x1) {x2 x2' : Int32} (e_x2 : x2' = x2) : relI f h (cf_X0_piecesOf f x1 x2) (cf_X0_piecesOf (mix f h) x1' x2') := by
  rw [e_x1, e_x2]
  exact pq_cf_X0_piecesOf f h x1 x2
theorem pq_cl_X0_partsOf_4 : ∀ (n : Nat) (f h : kMem) (z0 z1 z2 : Int32), relI f h (cl_X0_partsOf_4 n f z0 z1 z2) (cl_X0_partsOf_4 n (mix f h) z0 z1 z2) := by
  intro n
  induction n with
  | zero => exact fun _ _ _ _ _ => rI_none
  | succ n ih =>
    intro f h z0 z1 z2
    unfold cl_X0_partsOf_4
    repeat' first
      | (with_reducible exact rI_none)
      | (with_reducible apply ih)
      | (with_reducible apply pe_cf_X0_piecesOf)
      | (with_reducible refine rI_keq ?_ ?_ ?_ ?_)
      | (with_reducible refine rI_klt ?_ ?_ ?_ ?_)
      | (with_reducible refine rI_kle ?_ ?_ ?_ ?_)
      | (with_reducible refine rI_chk ?_ ?_)
      | (with_reducible refine rI_let ?_ (fun _ => ?_))
      | (with_reducible refine rI_bind ?_ (fun _ => ?_))
      | (with_reducible refine rI_some ?_)
      | (rfl)
theorem pe_cl_X0_partsOf_4 {f h : kMem} {n : Nat} {z0 z0' : Int32} (e_z0 : z0' = z0) {z1 z1' : Int32} (e_z1 : z1' = z1) {z2 z2' : Int32} (e_z2 : z2' = z2) : relI f h (cl_X0_partsOf_4 n f z0 z1 z2) (cl_X0_partsOf_4 n (mix f h) z0' z1' z2') := by
  rw [e_z0, e_z1, e_z2]
  exact pq_cl_X0_partsOf_4 n f h z0 z1 z2
theorem pq_cf_X0_partsOf (f h : kMem) (x1 : Int32) : relI f h (cf_X0_partsOf f x1) (cf_X0_partsOf (mix f h) x1) := by
  unfold cf_X0_partsOf
  repeat' first
    | (with_reducible exact rI_none)
    | (with_reducible apply pe_cl_X0_partsOf_4)
    | (with_reducible refine rI_keq ?_ ?_ ?_ ?_)
    | (with_reducible refine rI_klt ?_ ?_ ?_ ?_)
    | (with_reducible refine rI_kle ?_ ?_ ?_ ?_)
    | (with_reducible refine rI_chk ?_ ?_)
    | (with_reducible refine rI_let ?_ (fun _ => ?_))
    | (with_reducible refine rI_bind ?_ (fun _ => ?_))
    | (with_reducible refine rI_some ?_)
    | (rfl)
theorem pe_cf_X0_partsOf {f h : kMem} {x1 x1' : Int32} (e_x1 : x1' = x1) : relI f h (cf_X0_partsOf f x1) (cf_X0_partsOf (mix f h) x1') := by
  rw [e_x1]
  exact pq_cf_X0_partsOf f h x1
theorem pq_cl_X0_allPiecesOf_4 : ∀ (n : Nat) (f h : kMem) (z0 z1 z2 : Int32), relI f h (cl_X0_allPiecesOf_4 n f z0 z1 z2) (cl_X0_allPiecesOf_4 n (mix f h) z0 z1 z2) := by
  intro n
  induction n with
  | zero => exact fun _ _ _ _ _ => rI_none
  | succ n ih =>
    intro f h z0 z1 z2
    unfold cl_X0_allPiecesOf_4
    repeat' first
      | (with_reducible exact rI_none)
      | (with_reducible apply ih)
      | (with_reducible apply pe_cf_X0_piecesOf)
      | (with_reducible refine rI_keq ?_ ?_ ?_ ?_)
      | (with_reducible refine rI_klt ?_ ?_ ?_ ?_)
      | (with_reducible refine rI_kle ?_ ?_ ?_ ?_)
      | (with_reducible refine rI_chk ?_ ?_)
      | (with_reducible refine rI_let ?_ (fun _ => ?_))
      | (with_reducible refine rI_bind ?_ (fun _ => ?_))
      | (with_reducible refine rI_some ?_)
      | (rfl)
theorem pe_cl_X0_allPiecesOf_4 {f h : kMem} {n : Nat} {z0 z0' : Int32} (e_z0 : z0' = z0) {z1 z1' : Int32} (e_z1 : z1' = z1) {z2 z2' : Int32} (e_z2 : z2' = z2) : relI f h (cl_X0_allPiecesOf_4 n f z0 z1 z2) (cl_X0_allPiecesOf_4 n (mix f h) z0' z1' z2') := by
  rw [e_z0, e_z1, e_z2]
  exact pq_cl_X0_allPiecesOf_4 n f h z0 z1 z2
theorem pq_cf_X0_allPiecesOf (f h : kMem) (x1 : Int32) : relI f h (cf_X0_allPiecesOf f x1) (cf_X0_allPiecesOf (mix f h) x1) := by
  unfold cf_X0_allPiecesOf
  repeat' first
    | (with_reducible exact rI_none)
    | (with_reducible apply pe_cl_X0_allPiecesOf_4)
    | (with_reducible refine rI_keq ?_ ?_ ?_ ?_)
    | (with_reducible refine rI_klt ?_ ?_ ?_ ?_)
    | (with_reducible refine rI_kle ?_ ?_ ?_ ?_)
    | (with_reducible refine rI_chk ?_ ?_)
    | (with_reducible refine rI_let ?_ (fun _ => ?_))
    | (with_reducible refine rI_bind ?_ (fun _ => ?_))
    | (with_reducible refine rI_some ?_)
    | (rfl)
theorem pe_cf_X0_allPiecesOf {f h : kMem} {x1 x1' : Int32} (e_x1 : x1' = x1) : relI f h (cf_X0_allPiecesOf f x1) (cf_X0_allPiecesOf (mix f h) x1') := by
  rw [e_x1]
  exact pq_cf_X0_allPiecesOf f h x1
theorem pq_cx_X11_familyOf (f h : kMem) (x1 x2 : Int32) : relX f h (cx_X11_familyOf f x1 x2) (cx_X11_familyOf (mix f h) x1 x2) := by
  unfold cx_X11_familyOf
  repeat' first
    | (with_reducible exact rX_none)
    | (with_reducible apply pe_cf_X0_allPiecesOf)
    | (with_reducible apply pe_cf_X0_isFamily)
    | (with_reducible apply pe_cf_X0_partsOf)
    | (with_reducible refine rX_keq ?_ ?_ ?_ ?_)
    | (with_reducible refine rX_klt ?_ ?_ ?_ ?_)
    | (with_reducible refine rX_kle ?_ ?_ ?_ ?_)
    | (with_reducible refine rX_chk ?_ ?_)
    | (with_reducible refine rX_let ?_ (fun _ => ?_))
    | (with_reducible refine rX_bind ?_ (fun _ => ?_))
    | (with_reducible refine rX_xbind ?_ (fun _ => ?_))
    | (with_reducible refine rX_some ?_)
    | (rfl)
theorem pe_cx_X11_familyOf {f h : kMem} {x1 x1' : Int32} (e_x1 : x1' = x1) {x2 x2' : Int32} (e_x2 : x2' = x2) : relX f h (cx_X11_familyOf f x1 x2) (cx_X11_familyOf (mix f h) x1' x2') := by
  rw [e_x1, e_x2]
  exact pq_cx_X11_familyOf f h x1 x2
theorem pq_cj_X11_pieces_28 (f h : kMem) : relX f h (cj_X11_pieces_28 f ) (cj_X11_pieces_28 (mix f h) ) := by
  unfold cj_X11_pieces_28
  repeat' first
    | (with_reducible exact rX_none)
    | (with_reducible refine rX_keq ?_ ?_ ?_ ?_)
    | (with_reducible refine rX_klt ?_ ?_ ?_ ?_)
    | (with_reducible refine rX_kle ?_ ?_ ?_ ?_)
    | (with_reducible refine rX_chk ?_ ?_)
    | (with_reducible refine rX_let ?_ (fun _ => ?_))
    | (with_reducible refine rX_bind ?_ (fun _ => ?_))
    | (with_reducible refine rX_xbind ?_ (fun _ => ?_))
    | (with_reducible refine rX_some ?_)
    | (rfl)
theorem pe_cj_X11_pieces_28 {f h : kMem}  : relX f h (cj_X11_pieces_28 f ) (cj_X11_pieces_28 (mix f h) ) := by
  exact pq_cj_X11_pieces_28 f h 
theorem pq_cx_X11_pieces (f h : kMem) (x1 x2 : Int32) : relX f h (cx_X11_pieces f x1 x2) (cx_X11_pieces (mix f h) x1 x2) := by
  unfold cx_X11_pieces
  repeat' first
    | (with_reducible exact rX_none)
    | (with_reducible apply pe_cf_X0_isFamily)
    | (with_reducible apply pe_cf_X0_isPart)
    | (with_reducible apply pe_cf_X0_piecesOf)
    | (with_reducible apply pe_cj_X11_pieces_28)
    | (with_reducible refine rX_keq ?_ ?_ ?_ ?_)
    | (with_reducible refine rX_klt ?_ ?_ ?_ ?_)
    | (with_reducible refine rX_kle ?_ ?_ ?_ ?_)
    | (with_reducible refine rX_chk ?_ ?_)
    | (with_reducible refine rX_let ?_ (fun _ => ?_))
    | (with_reducible refine rX_bind ?_ (fun _ => ?_))
    | (with_reducible refine rX_xbind ?_ (fun _ => ?_))
    | (with_reducible refine rX_some ?_)
    | (rfl)
theorem pe_cx_X11_pieces {f h : kMem} {x1 x1' : Int32} (e_x1 : x1' = x1) {x2 x2' : Int32} (e_x2 : x2' = x2) : relX f h (cx_X11_pieces f x1 x2) (cx_X11_pieces (mix f h) x1' x2') := by
  rw [e_x1, e_x2]
  exact pq_cx_X11_pieces f h x1 x2
theorem pq_cl_X0_familiesWith_4 : ∀ (n : Nat) (f h : kMem) (z0 z1 z2 : Int32), relI f h (cl_X0_familiesWith_4 n f z0 z1 z2) (cl_X0_familiesWith_4 n (mix f h) z0 z1 z2) := by
  intro n
  induction n with
  | zero => exact fun _ _ _ _ _ => rI_none
  | succ n ih =>
    intro f h z0 z1 z2
    unfold cl_X0_familiesWith_4
    repeat' first
      | (with_reducible exact rI_none)
      | (with_reducible apply ih)
      | (with_reducible apply pe_cf_X0_piecesOf)
      | (with_reducible refine rI_keq ?_ ?_ ?_ ?_)
      | (with_reducible refine rI_klt ?_ ?_ ?_ ?_)
      | (with_reducible refine rI_kle ?_ ?_ ?_ ?_)
      | (with_reducible refine rI_chk ?_ ?_)
      | (with_reducible refine rI_let ?_ (fun _ => ?_))
      | (with_reducible refine rI_bind ?_ (fun _ => ?_))
      | (with_reducible refine rI_some ?_)
      | (rfl)
theorem pe_cl_X0_familiesWith_4 {f h : kMem} {n : Nat} {z0 z0' : Int32} (e_z0 : z0' = z0) {z1 z1' : Int32} (e_z1 : z1' = z1) {z2 z2' : Int32} (e_z2 : z2' = z2) : relI f h (cl_X0_familiesWith_4 n f z0 z1 z2) (cl_X0_familiesWith_4 n (mix f h) z0' z1' z2') := by
  rw [e_z0, e_z1, e_z2]
  exact pq_cl_X0_familiesWith_4 n f h z0 z1 z2
theorem pq_cf_X0_familiesWith (f h : kMem) (x1 : Int32) : relI f h (cf_X0_familiesWith f x1) (cf_X0_familiesWith (mix f h) x1) := by
  unfold cf_X0_familiesWith
  repeat' first
    | (with_reducible exact rI_none)
    | (with_reducible apply pe_cl_X0_familiesWith_4)
    | (with_reducible refine rI_keq ?_ ?_ ?_ ?_)
    | (with_reducible refine rI_klt ?_ ?_ ?_ ?_)
    | (with_reducible refine rI_kle ?_ ?_ ?_ ?_)
    | (with_reducible refine rI_chk ?_ ?_)
    | (with_reducible refine rI_let ?_ (fun _ => ?_))
    | (with_reducible refine rI_bind ?_ (fun _ => ?_))
    | (with_reducible refine rI_some ?_)
    | (rfl)
theorem pe_cf_X0_familiesWith {f h : kMem} {x1 x1' : Int32} (e_x1 : x1' = x1) : relI f h (cf_X0_familiesWith f x1) (cf_X0_familiesWith (mix f h) x1') := by
  rw [e_x1]
  exact pq_cf_X0_familiesWith f h x1
theorem pq_cx_X11_families (f h : kMem) (x1 : Int32) : relX f h (cx_X11_families f x1) (cx_X11_families (mix f h) x1) := by
  unfold cx_X11_families
  repeat' first
    | (with_reducible exact rX_none)
    | (with_reducible apply pe_cf_X0_familiesWith)
    | (with_reducible apply pe_cf_X0_isPart)
    | (with_reducible refine rX_keq ?_ ?_ ?_ ?_)
    | (with_reducible refine rX_klt ?_ ?_ ?_ ?_)
    | (with_reducible refine rX_kle ?_ ?_ ?_ ?_)
    | (with_reducible refine rX_chk ?_ ?_)
    | (with_reducible refine rX_let ?_ (fun _ => ?_))
    | (with_reducible refine rX_bind ?_ (fun _ => ?_))
    | (with_reducible refine rX_xbind ?_ (fun _ => ?_))
    | (with_reducible refine rX_some ?_)
    | (rfl)
theorem pe_cx_X11_families {f h : kMem} {x1 x1' : Int32} (e_x1 : x1' = x1) : relX f h (cx_X11_families f x1) (cx_X11_families (mix f h) x1') := by
  rw [e_x1]
  exact pq_cx_X11_families f h x1
theorem pq_cf_X2_lackingMinutes (f h : kMem) (x1 x2 : Int32) : relI f h (cf_X2_lackingMinutes f x1 x2) (cf_X2_lackingMinutes (mix f h) x1 x2) := by
  unfold cf_X2_lackingMinutes
  repeat' first
    | (with_reducible exact rI_none)
    | (with_reducible refine rI_keq ?_ ?_ ?_ ?_)
    | (with_reducible refine rI_klt ?_ ?_ ?_ ?_)
    | (with_reducible refine rI_kle ?_ ?_ ?_ ?_)
    | (with_reducible refine rI_chk ?_ ?_)
    | (with_reducible refine rI_let ?_ (fun _ => ?_))
    | (with_reducible refine rI_bind ?_ (fun _ => ?_))
    | (with_reducible refine rI_some ?_)
    | (rfl)
theorem pe_cf_X2_lackingMinutes {f h : kMem} {x1 x1' : Int32} (e_x1 : x1' = x1) {x2 x2' : Int32} (e_x2 : x2' = x2) : relI f h (cf_X2_lackingMinutes f x1 x2) (cf_X2_lackingMinutes (mix f h) x1' x2') := by
  rw [e_x1, e_x2]
  exact pq_cf_X2_lackingMinutes f h x1 x2
theorem pq_cx_X11_dryer (f h : kMem) (x1 x2 : Int32) : relX f h (cx_X11_dryer f x1 x2) (cx_X11_dryer (mix f h) x1 x2) := by
  unfold cx_X11_dryer
  repeat' first
    | (with_reducible exact rX_none)
    | (with_reducible apply pe_cf_X11_isWithin)
    | (with_reducible apply pe_cf_X2_lackingMinutes)
    | (with_reducible refine rX_keq ?_ ?_ ?_ ?_)
    | (with_reducible refine rX_klt ?_ ?_ ?_ ?_)
    | (with_reducible refine rX_kle ?_ ?_ ?_ ?_)
    | (with_reducible refine rX_chk ?_ ?_)
    | (with_reducible refine rX_let ?_ (fun _ => ?_))
    | (with_reducible refine rX_bind ?_ (fun _ => ?_))
    | (with_reducible refine rX_xbind ?_ (fun _ => ?_))
    | (with_reducible refine rX_some ?_)
    | (rfl)
theorem pe_cx_X11_dryer {f h : kMem} {x1 x1' : Int32} (e_x1 : x1' = x1) {x2 x2' : Int32} (e_x2 : x2' = x2) : relX f h (cx_X11_dryer f x1 x2) (cx_X11_dryer (mix f h) x1' x2') := by
  rw [e_x1, e_x2]
  exact pq_cx_X11_dryer f h x1 x2
theorem pq_cj_X11_stock_28 (f h : kMem) : relX f h (cj_X11_stock_28 f ) (cj_X11_stock_28 (mix f h) ) := by
  unfold cj_X11_stock_28
  repeat' first
    | (with_reducible exact rX_none)
    | (with_reducible refine rX_keq ?_ ?_ ?_ ?_)
    | (with_reducible refine rX_klt ?_ ?_ ?_ ?_)
    | (with_reducible refine rX_kle ?_ ?_ ?_ ?_)
    | (with_reducible refine rX_chk ?_ ?_)
    | (with_reducible refine rX_let ?_ (fun _ => ?_))
    | (with_reducible refine rX_bind ?_ (fun _ => ?_))
    | (with_reducible refine rX_xbind ?_ (fun _ => ?_))
    | (with_reducible refine rX_some ?_)
    | (rfl)
theorem pe_cj_X11_stock_28 {f h : kMem}  : relX f h (cj_X11_stock_28 f ) (cj_X11_stock_28 (mix f h) ) := by
  exact pq_cj_X11_stock_28 f h 
theorem pq_cx_X11_stock (f h : kMem) (x1 x2 x3 : Int32) : relX f h (cx_X11_stock f x1 x2 x3) (cx_X11_stock (mix f h) x1 x2 x3) := by
  unfold cx_X11_stock
  repeat' first
    | (with_reducible exact rX_none)
    | (with_reducible apply pe_cf_X0_isColour)
    | (with_reducible apply pe_cf_X0_isPart)
    | (with_reducible apply pe_cj_X11_stock_28)
    | (with_reducible refine rX_keq ?_ ?_ ?_ ?_)
    | (with_reducible refine rX_klt ?_ ?_ ?_ ?_)
    | (with_reducible refine rX_kle ?_ ?_ ?_ ?_)
    | (with_reducible refine rX_chk ?_ ?_)
    | (with_reducible refine rX_let ?_ (fun _ => ?_))
    | (with_reducible refine rX_bind ?_ (fun _ => ?_))
    | (with_reducible refine rX_xbind ?_ (fun _ => ?_))
    | (with_reducible refine rX_some ?_)
    | (rfl)
theorem pe_cx_X11_stock {f h : kMem} {x1 x1' : Int32} (e_x1 : x1' = x1) {x2 x2' : Int32} (e_x2 : x2' = x2) {x3 x3' : Int32} (e_x3 : x3' = x3) : relX f h (cx_X11_stock f x1 x2 x3) (cx_X11_stock (mix f h) x1' x2' x3') := by
  rw [e_x1, e_x2, e_x3]
  exact pq_cx_X11_stock f h x1 x2 x3
theorem pq_cl_X9_cratesOf_4 : ∀ (n : Nat) (f h : kMem) (z0 z1 z2 : Int32), relI f h (cl_X9_cratesOf_4 n f z0 z1 z2) (cl_X9_cratesOf_4 n (mix f h) z0 z1 z2) := by
  intro n
  induction n with
  | zero => exact fun _ _ _ _ _ => rI_none
  | succ n ih =>
    intro f h z0 z1 z2
    unfold cl_X9_cratesOf_4
    repeat' first
      | (with_reducible exact rI_none)
      | (with_reducible apply ih)
      | (with_reducible refine rI_keq ?_ ?_ ?_ ?_)
      | (with_reducible refine rI_klt ?_ ?_ ?_ ?_)
      | (with_reducible refine rI_kle ?_ ?_ ?_ ?_)
      | (with_reducible refine rI_chk ?_ ?_)
      | (with_reducible refine rI_let ?_ (fun _ => ?_))
      | (with_reducible refine rI_bind ?_ (fun _ => ?_))
      | (with_reducible refine rI_some ?_)
      | (rfl)
theorem pe_cl_X9_cratesOf_4 {f h : kMem} {n : Nat} {z0 z0' : Int32} (e_z0 : z0' = z0) {z1 z1' : Int32} (e_z1 : z1' = z1) {z2 z2' : Int32} (e_z2 : z2' = z2) : relI f h (cl_X9_cratesOf_4 n f z0 z1 z2) (cl_X9_cratesOf_4 n (mix f h) z0' z1' z2') := by
  rw [e_z0, e_z1, e_z2]
  exact pq_cl_X9_cratesOf_4 n f h z0 z1 z2
theorem pq_cf_X9_cratesOf (f h : kMem) (x1 : Int32) : relI f h (cf_X9_cratesOf f x1) (cf_X9_cratesOf (mix f h) x1) := by
  unfold cf_X9_cratesOf
  repeat' first
    | (with_reducible exact rI_none)
    | (with_reducible apply pe_cl_X9_cratesOf_4)
    | (with_reducible refine rI_keq ?_ ?_ ?_ ?_)
    | (with_reducible refine rI_klt ?_ ?_ ?_ ?_)
    | (with_reducible refine rI_kle ?_ ?_ ?_ ?_)
    | (with_reducible refine rI_chk ?_ ?_)
    | (with_reducible refine rI_let ?_ (fun _ => ?_))
    | (with_reducible refine rI_bind ?_ (fun _ => ?_))
    | (with_reducible refine rI_some ?_)
    | (rfl)
theorem pe_cf_X9_cratesOf {f h : kMem} {x1 x1' : Int32} (e_x1 : x1' = x1) : relI f h (cf_X9_cratesOf f x1) (cf_X9_cratesOf (mix f h) x1') := by
  rw [e_x1]
  exact pq_cf_X9_cratesOf f h x1
theorem pq_cl_X9_restOf_4 : ∀ (n : Nat) (f h : kMem) (z0 z1 z2 : Int32), relI f h (cl_X9_restOf_4 n f z0 z1 z2) (cl_X9_restOf_4 n (mix f h) z0 z1 z2) := by
  intro n
  induction n with
  | zero => exact fun _ _ _ _ _ => rI_none
  | succ n ih =>
    intro f h z0 z1 z2
    unfold cl_X9_restOf_4
    repeat' first
      | (with_reducible exact rI_none)
      | (with_reducible apply ih)
      | (with_reducible refine rI_keq ?_ ?_ ?_ ?_)
      | (with_reducible refine rI_klt ?_ ?_ ?_ ?_)
      | (with_reducible refine rI_kle ?_ ?_ ?_ ?_)
      | (with_reducible refine rI_chk ?_ ?_)
      | (with_reducible refine rI_let ?_ (fun _ => ?_))
      | (with_reducible refine rI_bind ?_ (fun _ => ?_))
      | (with_reducible refine rI_some ?_)
      | (rfl)
theorem pe_cl_X9_restOf_4 {f h : kMem} {n : Nat} {z0 z0' : Int32} (e_z0 : z0' = z0) {z1 z1' : Int32} (e_z1 : z1' = z1) {z2 z2' : Int32} (e_z2 : z2' = z2) : relI f h (cl_X9_restOf_4 n f z0 z1 z2) (cl_X9_restOf_4 n (mix f h) z0' z1' z2') := by
  rw [e_z0, e_z1, e_z2]
  exact pq_cl_X9_restOf_4 n f h z0 z1 z2
theorem pq_cf_X9_restOf (f h : kMem) (x1 : Int32) : relI f h (cf_X9_restOf f x1) (cf_X9_restOf (mix f h) x1) := by
  unfold cf_X9_restOf
  repeat' first
    | (with_reducible exact rI_none)
    | (with_reducible apply pe_cl_X9_restOf_4)
    | (with_reducible refine rI_keq ?_ ?_ ?_ ?_)
    | (with_reducible refine rI_klt ?_ ?_ ?_ ?_)
    | (with_reducible refine rI_kle ?_ ?_ ?_ ?_)
    | (with_reducible refine rI_chk ?_ ?_)
    | (with_reducible refine rI_let ?_ (fun _ => ?_))
    | (with_reducible refine rI_bind ?_ (fun _ => ?_))
    | (with_reducible refine rI_some ?_)
    | (rfl)
theorem pe_cf_X9_restOf {f h : kMem} {x1 x1' : Int32} (e_x1 : x1' = x1) : relI f h (cf_X9_restOf f x1) (cf_X9_restOf (mix f h) x1') := by
  rw [e_x1]
  exact pq_cf_X9_restOf f h x1
theorem pq_cx_X11_made (f h : kMem) (x1 x2 : Int32) : relX f h (cx_X11_made f x1 x2) (cx_X11_made (mix f h) x1 x2) := by
  unfold cx_X11_made
  repeat' first
    | (with_reducible exact rX_none)
    | (with_reducible apply pe_cf_X0_isPart)
    | (with_reducible apply pe_cf_X9_cratesOf)
    | (with_reducible apply pe_cf_X9_restOf)
    | (with_reducible refine rX_keq ?_ ?_ ?_ ?_)
    | (with_reducible refine rX_klt ?_ ?_ ?_ ?_)
    | (with_reducible refine rX_kle ?_ ?_ ?_ ?_)
    | (with_reducible refine rX_chk ?_ ?_)
    | (with_reducible refine rX_let ?_ (fun _ => ?_))
    | (with_reducible refine rX_bind ?_ (fun _ => ?_))
    | (with_reducible refine rX_xbind ?_ (fun _ => ?_))
    | (with_reducible refine rX_some ?_)
    | (rfl)
theorem pe_cx_X11_made {f h : kMem} {x1 x1' : Int32} (e_x1 : x1' = x1) {x2 x2' : Int32} (e_x2 : x2' = x2) : relX f h (cx_X11_made f x1 x2) (cx_X11_made (mix f h) x1' x2') := by
  rw [e_x1, e_x2]
  exact pq_cx_X11_made f h x1 x2
theorem pq_cf_X6_isOrder (f h : kMem) (x1 : Int32) : relI f h (cf_X6_isOrder f x1) (cf_X6_isOrder (mix f h) x1) := by
  unfold cf_X6_isOrder
  repeat' first
    | (with_reducible exact rI_none)
    | (with_reducible apply pe_cf_X11_isWithin)
    | (with_reducible refine rI_keq ?_ ?_ ?_ ?_)
    | (with_reducible refine rI_klt ?_ ?_ ?_ ?_)
    | (with_reducible refine rI_kle ?_ ?_ ?_ ?_)
    | (with_reducible refine rI_chk ?_ ?_)
    | (with_reducible refine rI_let ?_ (fun _ => ?_))
    | (with_reducible refine rI_bind ?_ (fun _ => ?_))
    | (with_reducible refine rI_some ?_)
    | (rfl)
theorem pe_cf_X6_isOrder {f h : kMem} {x1 x1' : Int32} (e_x1 : x1' = x1) : relI f h (cf_X6_isOrder f x1) (cf_X6_isOrder (mix f h) x1') := by
  rw [e_x1]
  exact pq_cf_X6_isOrder f h x1
theorem pq_cx_X11_checkOrder (f h : kMem) (x1 : Int32) : relX f h (cx_X11_checkOrder f x1) (cx_X11_checkOrder (mix f h) x1) := by
  unfold cx_X11_checkOrder
  repeat' first
    | (with_reducible exact rX_none)
    | (with_reducible apply pe_cf_X6_isOrder)
    | (with_reducible refine rX_keq ?_ ?_ ?_ ?_)
    | (with_reducible refine rX_klt ?_ ?_ ?_ ?_)
    | (with_reducible refine rX_kle ?_ ?_ ?_ ?_)
    | (with_reducible refine rX_chk ?_ ?_)
    | (with_reducible refine rX_let ?_ (fun _ => ?_))
    | (with_reducible refine rX_bind ?_ (fun _ => ?_))
    | (with_reducible refine rX_xbind ?_ (fun _ => ?_))
    | (with_reducible refine rX_some ?_)
    | (rfl)
theorem pe_cx_X11_checkOrder {f h : kMem} {x1 x1' : Int32} (e_x1 : x1' = x1) : relX f h (cx_X11_checkOrder f x1) (cx_X11_checkOrder (mix f h) x1') := by
  rw [e_x1]
  exact pq_cx_X11_checkOrder f h x1
theorem pq_cx_X11_orderOf (f h : kMem) (x1 x2 : Int32) : relX f h (cx_X11_orderOf f x1 x2) (cx_X11_orderOf (mix f h) x1 x2) := by
  unfold cx_X11_orderOf
  repeat' first
    | (with_reducible exact rX_none)
    | (with_reducible apply pe_cx_X11_checkOrder)
    | (with_reducible refine rX_keq ?_ ?_ ?_ ?_)
    | (with_reducible refine rX_klt ?_ ?_ ?_ ?_)
    | (with_reducible refine rX_kle ?_ ?_ ?_ ?_)
    | (with_reducible refine rX_chk ?_ ?_)
    | (with_reducible refine rX_let ?_ (fun _ => ?_))
    | (with_reducible refine rX_bind ?_ (fun _ => ?_))
    | (with_reducible refine rX_xbind ?_ (fun _ => ?_))
    | (with_reducible refine rX_some ?_)
    | (rfl)
theorem pe_cx_X11_orderOf {f h : kMem} {x1 x1' : Int32} (e_x1 : x1' = x1) {x2 x2' : Int32} (e_x2 : x2' = x2) : relX f h (cx_X11_orderOf f x1 x2) (cx_X11_orderOf (mix f h) x1' x2') := by
  rw [e_x1, e_x2]
  exact pq_cx_X11_orderOf f h x1 x2
theorem pq_cf_X4_piecesFor (f h : kMem) (x1 : Int32) : relI f h (cf_X4_piecesFor f x1) (cf_X4_piecesFor (mix f h) x1) := by
  unfold cf_X4_piecesFor
  repeat' first
    | (with_reducible exact rI_none)
    | (with_reducible apply pe_cf_X0_piecesOf)
    | (with_reducible refine rI_keq ?_ ?_ ?_ ?_)
    | (with_reducible refine rI_klt ?_ ?_ ?_ ?_)
    | (with_reducible refine rI_kle ?_ ?_ ?_ ?_)
    | (with_reducible refine rI_chk ?_ ?_)
    | (with_reducible refine rI_let ?_ (fun _ => ?_))
    | (with_reducible refine rI_bind ?_ (fun _ => ?_))
    | (with_reducible refine rI_some ?_)
    | (rfl)
theorem pe_cf_X4_piecesFor {f h : kMem} {x1 x1' : Int32} (e_x1 : x1' = x1) : relI f h (cf_X4_piecesFor f x1) (cf_X4_piecesFor (mix f h) x1') := by
  rw [e_x1]
  exact pq_cf_X4_piecesFor f h x1
theorem pq_cf_X6_isOpen (f h : kMem) (x1 : Int32) : relI f h (cf_X6_isOpen f x1) (cf_X6_isOpen (mix f h) x1) := by
  unfold cf_X6_isOpen
  repeat' first
    | (with_reducible exact rI_none)
    | (with_reducible refine rI_keq ?_ ?_ ?_ ?_)
    | (with_reducible refine rI_klt ?_ ?_ ?_ ?_)
    | (with_reducible refine rI_kle ?_ ?_ ?_ ?_)
    | (with_reducible refine rI_chk ?_ ?_)
    | (with_reducible refine rI_let ?_ (fun _ => ?_))
    | (with_reducible refine rI_bind ?_ (fun _ => ?_))
    | (with_reducible refine rI_some ?_)
    | (rfl)
theorem pe_cf_X6_isOpen {f h : kMem} {x1 x1' : Int32} (e_x1 : x1' = x1) : relI f h (cf_X6_isOpen f x1) (cf_X6_isOpen (mix f h) x1') := by
  rw [e_x1]
  exact pq_cf_X6_isOpen f h x1
theorem pq_cj_X11_shots_32 (f h : kMem) : relX f h (cj_X11_shots_32 f ) (cj_X11_shots_32 (mix f h) ) := by
  unfold cj_X11_shots_32
  repeat' first
    | (with_reducible exact rX_none)
    | (with_reducible refine rX_keq ?_ ?_ ?_ ?_)
    | (with_reducible refine rX_klt ?_ ?_ ?_ ?_)
    | (with_reducible refine rX_kle ?_ ?_ ?_ ?_)
    | (with_reducible refine rX_chk ?_ ?_)
    | (with_reducible refine rX_let ?_ (fun _ => ?_))
    | (with_reducible refine rX_bind ?_ (fun _ => ?_))
    | (with_reducible refine rX_xbind ?_ (fun _ => ?_))
    | (with_reducible refine rX_some ?_)
    | (rfl)
theorem pe_cj_X11_shots_32 {f h : kMem}  : relX f h (cj_X11_shots_32 f ) (cj_X11_shots_32 (mix f h) ) := by
  exact pq_cj_X11_shots_32 f h 
theorem pq_cf_X4_lackingPieces (f h : kMem) (x1 : Int32) : relI f h (cf_X4_lackingPieces f x1) (cf_X4_lackingPieces (mix f h) x1) := by
  unfold cf_X4_lackingPieces
  repeat' first
    | (with_reducible exact rI_none)
    | (with_reducible refine rI_keq ?_ ?_ ?_ ?_)
    | (with_reducible refine rI_klt ?_ ?_ ?_ ?_)
    | (with_reducible refine rI_kle ?_ ?_ ?_ ?_)
    | (with_reducible refine rI_chk ?_ ?_)
    | (with_reducible refine rI_let ?_ (fun _ => ?_))
    | (with_reducible refine rI_bind ?_ (fun _ => ?_))
    | (with_reducible refine rI_some ?_)
    | (rfl)
theorem pe_cf_X4_lackingPieces {f h : kMem} {x1 x1' : Int32} (e_x1 : x1' = x1) : relI f h (cf_X4_lackingPieces f x1) (cf_X4_lackingPieces (mix f h) x1') := by
  rw [e_x1]
  exact pq_cf_X4_lackingPieces f h x1
theorem pq_cx_X11_shots (f h : kMem) (x1 : Int32) : relX f h (cx_X11_shots f x1) (cx_X11_shots (mix f h) x1) := by
  unfold cx_X11_shots
  repeat' first
    | (with_reducible exact rX_none)
    | (with_reducible apply pe_cf_X4_lackingPieces)
    | (with_reducible apply pe_cf_X4_piecesFor)
    | (with_reducible apply pe_cf_X6_isOpen)
    | (with_reducible apply pe_cj_X11_shots_32)
    | (with_reducible apply pe_cx_X11_checkOrder)
    | (with_reducible refine rX_keq ?_ ?_ ?_ ?_)
    | (with_reducible refine rX_klt ?_ ?_ ?_ ?_)
    | (with_reducible refine rX_kle ?_ ?_ ?_ ?_)
    | (with_reducible refine rX_chk ?_ ?_)
    | (with_reducible refine rX_let ?_ (fun _ => ?_))
    | (with_reducible refine rX_bind ?_ (fun _ => ?_))
    | (with_reducible refine rX_xbind ?_ (fun _ => ?_))
    | (with_reducible refine rX_some ?_)
    | (rfl)
theorem pe_cx_X11_shots {f h : kMem} {x1 x1' : Int32} (e_x1 : x1' = x1) : relX f h (cx_X11_shots f x1) (cx_X11_shots (mix f h) x1') := by
  rw [e_x1]
  exact pq_cx_X11_shots f h x1
theorem pq_cx_X11_letter (f h : kMem) (x1 : Int32) : relX f h (cx_X11_letter f x1) (cx_X11_letter (mix f h) x1) := by
  unfold cx_X11_letter
  repeat' first
    | (with_reducible exact rX_none)
    | (with_reducible apply pe_cx_X11_checkOrder)
    | (with_reducible refine rX_keq ?_ ?_ ?_ ?_)
    | (with_reducible refine rX_klt ?_ ?_ ?_ ?_)
    | (with_reducible refine rX_kle ?_ ?_ ?_ ?_)
    | (with_reducible refine rX_chk ?_ ?_)
    | (with_reducible refine rX_let ?_ (fun _ => ?_))
    | (with_reducible refine rX_bind ?_ (fun _ => ?_))
    | (with_reducible refine rX_xbind ?_ (fun _ => ?_))
    | (with_reducible refine rX_some ?_)
    | (rfl)
theorem pe_cx_X11_letter {f h : kMem} {x1 x1' : Int32} (e_x1 : x1' = x1) : relX f h (cx_X11_letter f x1) (cx_X11_letter (mix f h) x1') := by
  rw [e_x1]
  exact pq_cx_X11_letter f h x1
theorem pq_cl_X6_openUpTo_4 : ∀ (n : Nat) (f h : kMem) (z0 z1 z2 : Int32), relI f h (cl_X6_openUpTo_4 n f z0 z1 z2) (cl_X6_openUpTo_4 n (mix f h) z0 z1 z2) := by
  intro n
  induction n with
  | zero => exact fun _ _ _ _ _ => rI_none
  | succ n ih =>
    intro f h z0 z1 z2
    unfold cl_X6_openUpTo_4
    repeat' first
      | (with_reducible exact rI_none)
      | (with_reducible apply ih)
      | (with_reducible apply pe_cf_X6_isOpen)
      | (with_reducible refine rI_keq ?_ ?_ ?_ ?_)
      | (with_reducible refine rI_klt ?_ ?_ ?_ ?_)
      | (with_reducible refine rI_kle ?_ ?_ ?_ ?_)
      | (with_reducible refine rI_chk ?_ ?_)
      | (with_reducible refine rI_let ?_ (fun _ => ?_))
      | (with_reducible refine rI_bind ?_ (fun _ => ?_))
      | (with_reducible refine rI_some ?_)
      | (rfl)
theorem pe_cl_X6_openUpTo_4 {f h : kMem} {n : Nat} {z0 z0' : Int32} (e_z0 : z0' = z0) {z1 z1' : Int32} (e_z1 : z1' = z1) {z2 z2' : Int32} (e_z2 : z2' = z2) : relI f h (cl_X6_openUpTo_4 n f z0 z1 z2) (cl_X6_openUpTo_4 n (mix f h) z0' z1' z2') := by
  rw [e_z0, e_z1, e_z2]
  exact pq_cl_X6_openUpTo_4 n f h z0 z1 z2
theorem pq_cf_X6_openUpTo (f h : kMem) (x1 : Int32) : relI f h (cf_X6_openUpTo f x1) (cf_X6_openUpTo (mix f h) x1) := by
  unfold cf_X6_openUpTo
  repeat' first
    | (with_reducible exact rI_none)
    | (with_reducible apply pe_cl_X6_openUpTo_4)
    | (with_reducible refine rI_keq ?_ ?_ ?_ ?_)
    | (with_reducible refine rI_klt ?_ ?_ ?_ ?_)
    | (with_reducible refine rI_kle ?_ ?_ ?_ ?_)
    | (with_reducible refine rI_chk ?_ ?_)
    | (with_reducible refine rI_let ?_ (fun _ => ?_))
    | (with_reducible refine rI_bind ?_ (fun _ => ?_))
    | (with_reducible refine rI_some ?_)
    | (rfl)
theorem pe_cf_X6_openUpTo {f h : kMem} {x1 x1' : Int32} (e_x1 : x1' = x1) : relI f h (cf_X6_openUpTo f x1) (cf_X6_openUpTo (mix f h) x1') := by
  rw [e_x1]
  exact pq_cf_X6_openUpTo f h x1
theorem pq_cx_X11_due (f h : kMem) (x1 : Int32) : relX f h (cx_X11_due f x1) (cx_X11_due (mix f h) x1) := by
  unfold cx_X11_due
  repeat' first
    | (with_reducible exact rX_none)
    | (with_reducible apply pe_cf_X6_openUpTo)
    | (with_reducible refine rX_keq ?_ ?_ ?_ ?_)
    | (with_reducible refine rX_klt ?_ ?_ ?_ ?_)
    | (with_reducible refine rX_kle ?_ ?_ ?_ ?_)
    | (with_reducible refine rX_chk ?_ ?_)
    | (with_reducible refine rX_let ?_ (fun _ => ?_))
    | (with_reducible refine rX_bind ?_ (fun _ => ?_))
    | (with_reducible refine rX_xbind ?_ (fun _ => ?_))
    | (with_reducible refine rX_some ?_)
    | (rfl)
theorem pe_cx_X11_due {f h : kMem} {x1 x1' : Int32} (e_x1 : x1' = x1) : relX f h (cx_X11_due f x1) (cx_X11_due (mix f h) x1') := by
  rw [e_x1]
  exact pq_cx_X11_due f h x1
theorem pq_cl_X9_sumOf16_11 : ∀ (n : Nat) (f h : kMem) (z0 z1 z2 : Int32), relI f h (cl_X9_sumOf16_11 n f z0 z1 z2) (cl_X9_sumOf16_11 n (mix f h) z0 z1 z2) := by
  intro n
  induction n with
  | zero => exact fun _ _ _ _ _ => rI_none
  | succ n ih =>
    intro f h z0 z1 z2
    unfold cl_X9_sumOf16_11
    repeat' first
      | (with_reducible exact rI_none)
      | (with_reducible apply ih)
      | (with_reducible refine rI_keq ?_ ?_ ?_ ?_)
      | (with_reducible refine rI_klt ?_ ?_ ?_ ?_)
      | (with_reducible refine rI_kle ?_ ?_ ?_ ?_)
      | (with_reducible refine rI_chk ?_ ?_)
      | (with_reducible refine rI_let ?_ (fun _ => ?_))
      | (with_reducible refine rI_bind ?_ (fun _ => ?_))
      | (with_reducible refine rI_some ?_)
      | (rfl)
theorem pe_cl_X9_sumOf16_11 {f h : kMem} {n : Nat} {z0 z0' : Int32} (e_z0 : z0' = z0) {z1 z1' : Int32} (e_z1 : z1' = z1) {z2 z2' : Int32} (e_z2 : z2' = z2) : relI f h (cl_X9_sumOf16_11 n f z0 z1 z2) (cl_X9_sumOf16_11 n (mix f h) z0' z1' z2') := by
  rw [e_z0, e_z1, e_z2]
  exact pq_cl_X9_sumOf16_11 n f h z0 z1 z2
theorem pq_cf_X9_sumOf16 (f h : kMem) : relI f h (cf_X9_sumOf16 f ) (cf_X9_sumOf16 (mix f h) ) := by
  unfold cf_X9_sumOf16
  repeat' first
    | (with_reducible exact rI_none)
    | (with_reducible apply pe_cl_X9_sumOf16_11)
    | (with_reducible refine rI_keq ?_ ?_ ?_ ?_)
    | (with_reducible refine rI_klt ?_ ?_ ?_ ?_)
    | (with_reducible refine rI_kle ?_ ?_ ?_ ?_)
    | (with_reducible refine rI_chk ?_ ?_)
    | (with_reducible refine rI_let ?_ (fun _ => ?_))
    | (with_reducible refine rI_bind ?_ (fun _ => ?_))
    | (with_reducible refine rI_some ?_)
    | (rfl)
theorem pe_cf_X9_sumOf16 {f h : kMem}  : relI f h (cf_X9_sumOf16 f ) (cf_X9_sumOf16 (mix f h) ) := by
  exact pq_cf_X9_sumOf16 f h 
theorem pq_cl_X9_sumOf17_11 : ∀ (n : Nat) (f h : kMem) (z0 z1 z2 : Int32), relI f h (cl_X9_sumOf17_11 n f z0 z1 z2) (cl_X9_sumOf17_11 n (mix f h) z0 z1 z2) := by
  intro n
  induction n with
  | zero => exact fun _ _ _ _ _ => rI_none
  | succ n ih =>
    intro f h z0 z1 z2
    unfold cl_X9_sumOf17_11
    repeat' first
      | (with_reducible exact rI_none)
      | (with_reducible apply ih)
      | (with_reducible refine rI_keq ?_ ?_ ?_ ?_)
      | (with_reducible refine rI_klt ?_ ?_ ?_ ?_)
      | (with_reducible refine rI_kle ?_ ?_ ?_ ?_)
      | (with_reducible refine rI_chk ?_ ?_)
      | (with_reducible refine rI_let ?_ (fun _ => ?_))
      | (with_reducible refine rI_bind ?_ (fun _ => ?_))
      | (with_reducible refine rI_some ?_)
      | (rfl)
theorem pe_cl_X9_sumOf17_11 {f h : kMem} {n : Nat} {z0 z0' : Int32} (e_z0 : z0' = z0) {z1 z1' : Int32} (e_z1 : z1' = z1) {z2 z2' : Int32} (e_z2 : z2' = z2) : relI f h (cl_X9_sumOf17_11 n f z0 z1 z2) (cl_X9_sumOf17_11 n (mix f h) z0' z1' z2') := by
  rw [e_z0, e_z1, e_z2]
  exact pq_cl_X9_sumOf17_11 n f h z0 z1 z2
theorem pq_cf_X9_sumOf17 (f h : kMem) : relI f h (cf_X9_sumOf17 f ) (cf_X9_sumOf17 (mix f h) ) := by
  unfold cf_X9_sumOf17
  repeat' first
    | (with_reducible exact rI_none)
    | (with_reducible apply pe_cl_X9_sumOf17_11)
    | (with_reducible refine rI_keq ?_ ?_ ?_ ?_)
    | (with_reducible refine rI_klt ?_ ?_ ?_ ?_)
    | (with_reducible refine rI_kle ?_ ?_ ?_ ?_)
    | (with_reducible refine rI_chk ?_ ?_)
    | (with_reducible refine rI_let ?_ (fun _ => ?_))
    | (with_reducible refine rI_bind ?_ (fun _ => ?_))
    | (with_reducible refine rI_some ?_)
    | (rfl)
theorem pe_cf_X9_sumOf17 {f h : kMem}  : relI f h (cf_X9_sumOf17 f ) (cf_X9_sumOf17 (mix f h) ) := by
  exact pq_cf_X9_sumOf17 f h 
theorem pq_cx_X11_scrap (f h : kMem) : relX f h (cx_X11_scrap f ) (cx_X11_scrap (mix f h) ) := by
  unfold cx_X11_scrap
  repeat' first
    | (with_reducible exact rX_none)
    | (with_reducible apply pe_cf_X9_sumOf16)
    | (with_reducible apply pe_cf_X9_sumOf17)
    | (with_reducible refine rX_keq ?_ ?_ ?_ ?_)
    | (with_reducible refine rX_klt ?_ ?_ ?_ ?_)
    | (with_reducible refine rX_kle ?_ ?_ ?_ ?_)
    | (with_reducible refine rX_chk ?_ ?_)
    | (with_reducible refine rX_let ?_ (fun _ => ?_))
    | (with_reducible refine rX_bind ?_ (fun _ => ?_))
    | (with_reducible refine rX_xbind ?_ (fun _ => ?_))
    | (with_reducible refine rX_some ?_)
    | (rfl)
theorem pe_cx_X11_scrap {f h : kMem}  : relX f h (cx_X11_scrap f ) (cx_X11_scrap (mix f h) ) := by
  exact pq_cx_X11_scrap f h 
theorem pq_cl_X6_countOf_4 : ∀ (n : Nat) (f h : kMem) (z0 z1 z2 : Int32), relI f h (cl_X6_countOf_4 n f z0 z1 z2) (cl_X6_countOf_4 n (mix f h) z0 z1 z2) := by
  intro n
  induction n with
  | zero => exact fun _ _ _ _ _ => rI_none
  | succ n ih =>
    intro f h z0 z1 z2
    unfold cl_X6_countOf_4
    repeat' first
      | (with_reducible exact rI_none)
      | (with_reducible apply ih)
      | (with_reducible refine rI_keq ?_ ?_ ?_ ?_)
      | (with_reducible refine rI_klt ?_ ?_ ?_ ?_)
      | (with_reducible refine rI_kle ?_ ?_ ?_ ?_)
      | (with_reducible refine rI_chk ?_ ?_)
      | (with_reducible refine rI_let ?_ (fun _ => ?_))
      | (with_reducible refine rI_bind ?_ (fun _ => ?_))
      | (with_reducible refine rI_some ?_)
      | (rfl)
theorem pe_cl_X6_countOf_4 {f h : kMem} {n : Nat} {z0 z0' : Int32} (e_z0 : z0' = z0) {z1 z1' : Int32} (e_z1 : z1' = z1) {z2 z2' : Int32} (e_z2 : z2' = z2) : relI f h (cl_X6_countOf_4 n f z0 z1 z2) (cl_X6_countOf_4 n (mix f h) z0' z1' z2') := by
  rw [e_z0, e_z1, e_z2]
  exact pq_cl_X6_countOf_4 n f h z0 z1 z2
theorem pq_cf_X6_countOf (f h : kMem) (x1 : Int32) : relI f h (cf_X6_countOf f x1) (cf_X6_countOf (mix f h) x1) := by
  unfold cf_X6_countOf
  repeat' first
    | (with_reducible exact rI_none)
    | (with_reducible apply pe_cl_X6_countOf_4)
    | (with_reducible refine rI_keq ?_ ?_ ?_ ?_)
    | (with_reducible refine rI_klt ?_ ?_ ?_ ?_)
    | (with_reducible refine rI_kle ?_ ?_ ?_ ?_)
    | (with_reducible refine rI_chk ?_ ?_)
    | (with_reducible refine rI_let ?_ (fun _ => ?_))
    | (with_reducible refine rI_bind ?_ (fun _ => ?_))
    | (with_reducible refine rI_some ?_)
    | (rfl)
theorem pe_cf_X6_countOf {f h : kMem} {x1 x1' : Int32} (e_x1 : x1' = x1) : relI f h (cf_X6_countOf f x1) (cf_X6_countOf (mix f h) x1') := by
  rw [e_x1]
  exact pq_cf_X6_countOf f h x1
theorem pq_cl_X6_lateWeeksOfDelivered_4 : ∀ (n : Nat) (f h : kMem) (z0 z1 : Int32), relI f h (cl_X6_lateWeeksOfDelivered_4 n f z0 z1) (cl_X6_lateWeeksOfDelivered_4 n (mix f h) z0 z1) := by
  intro n
  induction n with
  | zero => exact fun _ _ _ _ => rI_none
  | succ n ih =>
    intro f h z0 z1
    unfold cl_X6_lateWeeksOfDelivered_4
    repeat' first
      | (with_reducible exact rI_none)
      | (with_reducible apply ih)
      | (with_reducible refine rI_keq ?_ ?_ ?_ ?_)
      | (with_reducible refine rI_klt ?_ ?_ ?_ ?_)
      | (with_reducible refine rI_kle ?_ ?_ ?_ ?_)
      | (with_reducible refine rI_chk ?_ ?_)
      | (with_reducible refine rI_let ?_ (fun _ => ?_))
      | (with_reducible refine rI_bind ?_ (fun _ => ?_))
      | (with_reducible refine rI_some ?_)
      | (rfl)
theorem pe_cl_X6_lateWeeksOfDelivered_4 {f h : kMem} {n : Nat} {z0 z0' : Int32} (e_z0 : z0' = z0) {z1 z1' : Int32} (e_z1 : z1' = z1) : relI f h (cl_X6_lateWeeksOfDelivered_4 n f z0 z1) (cl_X6_lateWeeksOfDelivered_4 n (mix f h) z0' z1') := by
  rw [e_z0, e_z1]
  exact pq_cl_X6_lateWeeksOfDelivered_4 n f h z0 z1
theorem pq_cf_X6_lateWeeksOfDelivered (f h : kMem) : relI f h (cf_X6_lateWeeksOfDelivered f ) (cf_X6_lateWeeksOfDelivered (mix f h) ) := by
  unfold cf_X6_lateWeeksOfDelivered
  repeat' first
    | (with_reducible exact rI_none)
    | (with_reducible apply pe_cl_X6_lateWeeksOfDelivered_4)
    | (with_reducible refine rI_keq ?_ ?_ ?_ ?_)
    | (with_reducible refine rI_klt ?_ ?_ ?_ ?_)
    | (with_reducible refine rI_kle ?_ ?_ ?_ ?_)
    | (with_reducible refine rI_chk ?_ ?_)
    | (with_reducible refine rI_let ?_ (fun _ => ?_))
    | (with_reducible refine rI_bind ?_ (fun _ => ?_))
    | (with_reducible refine rI_some ?_)
    | (rfl)
theorem pe_cf_X6_lateWeeksOfDelivered {f h : kMem}  : relI f h (cf_X6_lateWeeksOfDelivered f ) (cf_X6_lateWeeksOfDelivered (mix f h) ) := by
  exact pq_cf_X6_lateWeeksOfDelivered f h 
theorem pq_cx_X11_lateness (f h : kMem) : relX f h (cx_X11_lateness f ) (cx_X11_lateness (mix f h) ) := by
  unfold cx_X11_lateness
  repeat' first
    | (with_reducible exact rX_none)
    | (with_reducible apply pe_cf_X6_countOf)
    | (with_reducible apply pe_cf_X6_lateWeeksOfDelivered)
    | (with_reducible refine rX_keq ?_ ?_ ?_ ?_)
    | (with_reducible refine rX_klt ?_ ?_ ?_ ?_)
    | (with_reducible refine rX_kle ?_ ?_ ?_ ?_)
    | (with_reducible refine rX_chk ?_ ?_)
    | (with_reducible refine rX_let ?_ (fun _ => ?_))
    | (with_reducible refine rX_bind ?_ (fun _ => ?_))
    | (with_reducible refine rX_xbind ?_ (fun _ => ?_))
    | (with_reducible refine rX_some ?_)
    | (rfl)
theorem pe_cx_X11_lateness {f h : kMem}  : relX f h (cx_X11_lateness f ) (cx_X11_lateness (mix f h) ) := by
  exact pq_cx_X11_lateness f h 
theorem pq_cl_X2_allGrams_4 : ∀ (n : Nat) (f h : kMem) (z0 z1 : Int32), relI f h (cl_X2_allGrams_4 n f z0 z1) (cl_X2_allGrams_4 n (mix f h) z0 z1) := by
  intro n
  induction n with
  | zero => exact fun _ _ _ _ => rI_none
  | succ n ih =>
    intro f h z0 z1
    unfold cl_X2_allGrams_4
    repeat' first
      | (with_reducible exact rI_none)
      | (with_reducible apply ih)
      | (with_reducible refine rI_keq ?_ ?_ ?_ ?_)
      | (with_reducible refine rI_klt ?_ ?_ ?_ ?_)
      | (with_reducible refine rI_kle ?_ ?_ ?_ ?_)
      | (with_reducible refine rI_chk ?_ ?_)
      | (with_reducible refine rI_let ?_ (fun _ => ?_))
      | (with_reducible refine rI_bind ?_ (fun _ => ?_))
      | (with_reducible refine rI_some ?_)
      | (rfl)
theorem pe_cl_X2_allGrams_4 {f h : kMem} {n : Nat} {z0 z0' : Int32} (e_z0 : z0' = z0) {z1 z1' : Int32} (e_z1 : z1' = z1) : relI f h (cl_X2_allGrams_4 n f z0 z1) (cl_X2_allGrams_4 n (mix f h) z0' z1') := by
  rw [e_z0, e_z1]
  exact pq_cl_X2_allGrams_4 n f h z0 z1
theorem pq_cf_X2_allGrams (f h : kMem) : relI f h (cf_X2_allGrams f ) (cf_X2_allGrams (mix f h) ) := by
  unfold cf_X2_allGrams
  repeat' first
    | (with_reducible exact rI_none)
    | (with_reducible apply pe_cl_X2_allGrams_4)
    | (with_reducible refine rI_keq ?_ ?_ ?_ ?_)
    | (with_reducible refine rI_klt ?_ ?_ ?_ ?_)
    | (with_reducible refine rI_kle ?_ ?_ ?_ ?_)
    | (with_reducible refine rI_chk ?_ ?_)
    | (with_reducible refine rI_let ?_ (fun _ => ?_))
    | (with_reducible refine rI_bind ?_ (fun _ => ?_))
    | (with_reducible refine rI_some ?_)
    | (rfl)
theorem pe_cf_X2_allGrams {f h : kMem}  : relI f h (cf_X2_allGrams f ) (cf_X2_allGrams (mix f h) ) := by
  exact pq_cf_X2_allGrams f h 
theorem pq_cx_X11_account (f h : kMem) (x1 : Int32) (h13 : ¬ x1 = 13) : relX f h (cx_X11_account f x1) (cx_X11_account (mix f h) x1) := by
  unfold cx_X11_account
  repeat' first
    | (with_reducible exact rX_none)
    | (with_reducible refine rX_keqF h13 ?_)
    | (with_reducible apply pe_cf_X2_allGrams)
    | (with_reducible apply pe_cf_X6_countOf)
    | (with_reducible refine rX_keq ?_ ?_ ?_ ?_)
    | (with_reducible refine rX_klt ?_ ?_ ?_ ?_)
    | (with_reducible refine rX_kle ?_ ?_ ?_ ?_)
    | (with_reducible refine rX_chk ?_ ?_)
    | (with_reducible refine rX_let ?_ (fun _ => ?_))
    | (with_reducible refine rX_bind ?_ (fun _ => ?_))
    | (with_reducible refine rX_xbind ?_ (fun _ => ?_))
    | (with_reducible refine rX_some ?_)
    | (rfl)
theorem pe_cx_X11_account {f h : kMem} {x1 x1' : Int32} (e_x1 : x1' = x1) (h13 : ¬ x1 = 13) : relX f h (cx_X11_account f x1) (cx_X11_account (mix f h) x1') := by
  rw [e_x1]
  exact pq_cx_X11_account f h x1 h13
