/-! the first object of the law: its whole road is one evaluation -/
section PAR
variable {ρ : Type} {Y0 : Option ρ} {x y : Int32}
theorem kb_par {X : Option (Int32 × kMem)} {B : Int32 → kMem → Option Unit} {B' : Int32 → kMem → Option ρ} (h : ∀ r g, B r g = some () → B' r g = Y0) : kbind X B = some () → kbind X B' = Y0 := by
  cases X with
  | none => exact fun q => nomatch q
  | some z => exact h z.1 z.2
theorem mf_par {X : Option (UInt32 × kMem)} {B : UInt32 → kMem → Option Unit} {B' : UInt32 → kMem → Option ρ} (h : ∀ r g, B r g = some () → B' r g = Y0) : mfbind X B = some () → mfbind X B' = Y0 := by
  cases X with
  | none => exact fun q => nomatch q
  | some z => exact h z.1 z.2
theorem md_par {X : Option (UInt64 × kMem)} {B : UInt64 → kMem → Option Unit} {B' : UInt64 → kMem → Option ρ} (h : ∀ r g, B r g = some () → B' r g = Y0) : mdbind X B = some () → mdbind X B' = Y0 := by
  cases X with
  | none => exact fun q => nomatch q
  | some z => exact h z.1 z.2
theorem kq_par {A B : Option Unit} {A' B' : Option ρ} (h1 : A = some () → A' = Y0) (h2 : B = some () → B' = Y0) : keq x y A B = some () → keq x y A' B' = Y0 := by
  unfold keq
  split
  · exact h1
  · exact h2
theorem kl_par {A B : Option Unit} {A' B' : Option ρ} (h1 : A = some () → A' = Y0) (h2 : B = some () → B' = Y0) : kle x y A B = some () → kle x y A' B' = Y0 := by
  unfold kle
  split
  · exact h1
  · exact h2
theorem kt_par {A B : Option Unit} {A' B' : Option ρ} (h1 : A = some () → A' = Y0) (h2 : B = some () → B' = Y0) : klt x y A B = some () → klt x y A' B' = Y0 := by
  unfold klt
  split
  · exact h1
  · exact h2
theorem kc_par {b : Bool} {A : Option Unit} {A' : Option ρ} (h1 : A = some () → A' = Y0) : kchk b A = some () → kchk b A' = Y0 := by
  cases b with
  | true => exact h1
  | false => exact fun q => nomatch q
theorem no_par {A' : Option ρ} : (none : Option Unit) = some () → A' = Y0 := fun q => nomatch q
end PAR

theorem ll_par_154 {ρ : Type} {Y0 : Option ρ} {Y : kMem → Int32 → Option Unit} {Y' : kMem → Int32 → Option ρ} (hY : ∀ f x, Y f x = some () → Y' f x = Y0) : ∀ n f x, ll_law_154 Y n f x = some () → ll_law_154 Y' n f x = Y0 := by
  intro n
  induction n with
  | zero => exact fun f x q => nomatch q
  | succ n ih =>
    intro f x
    unfold ll_law_154
    repeat' first
    | (with_reducible exact fun _ => rfl)
    | (with_reducible exact hY _ _)
    | (with_reducible exact ih _ _)
    | (with_reducible refine kb_par (fun r g => ?_))
    | (with_reducible refine mf_par (fun r g => ?_))
    | (with_reducible refine md_par (fun r g => ?_))
    | (with_reducible refine kq_par ?_ ?_)
    | (with_reducible refine kl_par ?_ ?_)
    | (with_reducible refine kt_par ?_ ?_)
    | (with_reducible refine kc_par ?_)
    | (with_reducible exact no_par)
theorem ll_par_226 {ρ : Type} {Y0 : Option ρ} {Y : kMem → Int32 → Option Unit} {Y' : kMem → Int32 → Option ρ} (hY : ∀ f x, Y f x = some () → Y' f x = Y0) : ∀ n f x, ll_law_226 Y n f x = some () → ll_law_226 Y' n f x = Y0 := by
  intro n
  induction n with
  | zero => exact fun f x q => nomatch q
  | succ n ih =>
    intro f x
    unfold ll_law_226
    repeat' first
    | (with_reducible exact fun _ => rfl)
    | (with_reducible exact hY _ _)
    | (with_reducible exact ih _ _)
    | (with_reducible refine kb_par (fun r g => ?_))
    | (with_reducible refine mf_par (fun r g => ?_))
    | (with_reducible refine md_par (fun r g => ?_))
    | (with_reducible refine kq_par ?_ ?_)
    | (with_reducible refine kl_par ?_ ?_)
    | (with_reducible refine kt_par ?_ ?_)
    | (with_reducible refine kc_par ?_)
    | (with_reducible exact no_par)
theorem ll_par_282 {ρ : Type} {Y0 : Option ρ} {Y : kMem → Int32 → Option Unit} {Y' : kMem → Int32 → Option ρ} (hY : ∀ f x, Y f x = some () → Y' f x = Y0) : ∀ n f x, ll_law_282 Y n f x = some () → ll_law_282 Y' n f x = Y0 := by
  intro n
  induction n with
  | zero => exact fun f x q => nomatch q
  | succ n ih =>
    intro f x
    unfold ll_law_282
    repeat' first
    | (with_reducible exact fun _ => rfl)
    | (with_reducible exact hY _ _)
    | (with_reducible exact ih _ _)
    | (with_reducible refine kb_par (fun r g => ?_))
    | (with_reducible refine mf_par (fun r g => ?_))
    | (with_reducible refine md_par (fun r g => ?_))
    | (with_reducible refine kq_par ?_ ?_)
    | (with_reducible refine kl_par ?_ ?_)
    | (with_reducible refine kt_par ?_ ?_)
    | (with_reducible refine kc_par ?_)
    | (with_reducible exact no_par)
theorem lj_par_508 {ρ : Type} (Y0 : Option ρ) (f : kMem) : lj_law_508 (some ()) f = some () → lj_law_508 Y0 f = Y0 := by
  unfold lj_law_508
  repeat' first
    | (with_reducible exact fun _ => rfl)
    | (with_reducible refine kb_par (fun r g => ?_))
    | (with_reducible refine mf_par (fun r g => ?_))
    | (with_reducible refine md_par (fun r g => ?_))
    | (with_reducible refine kq_par ?_ ?_)
    | (with_reducible refine kl_par ?_ ?_)
    | (with_reducible refine kt_par ?_ ?_)
    | (with_reducible refine kc_par ?_)
    | (with_reducible exact no_par)
theorem lj_par_456 {ρ : Type} (Y0 : Option ρ) (f : kMem) : lj_law_456 (some ()) f = some () → lj_law_456 Y0 f = Y0 := by
  unfold lj_law_456
  repeat' first
    | (with_reducible exact fun _ => rfl)
    | (with_reducible exact lj_par_508 Y0 _)
    | (with_reducible refine kb_par (fun r g => ?_))
    | (with_reducible refine mf_par (fun r g => ?_))
    | (with_reducible refine md_par (fun r g => ?_))
    | (with_reducible refine kq_par ?_ ?_)
    | (with_reducible refine kl_par ?_ ?_)
    | (with_reducible refine kt_par ?_ ?_)
    | (with_reducible refine kc_par ?_)
    | (with_reducible exact no_par)
theorem lj_par_409 {ρ : Type} (Y0 : Option ρ) (f : kMem) : lj_law_409 (some ()) f = some () → lj_law_409 Y0 f = Y0 := by
  unfold lj_law_409
  repeat' first
    | (with_reducible exact fun _ => rfl)
    | (with_reducible exact lj_par_456 Y0 _)
    | (with_reducible refine kb_par (fun r g => ?_))
    | (with_reducible refine mf_par (fun r g => ?_))
    | (with_reducible refine md_par (fun r g => ?_))
    | (with_reducible refine kq_par ?_ ?_)
    | (with_reducible refine kl_par ?_ ?_)
    | (with_reducible refine kt_par ?_ ?_)
    | (with_reducible refine kc_par ?_)
    | (with_reducible exact no_par)
theorem lj_par_355 {ρ : Type} (Y0 : Option ρ) (f : kMem) : lj_law_355 (some ()) f = some () → lj_law_355 Y0 f = Y0 := by
  unfold lj_law_355
  repeat' first
    | (with_reducible exact fun _ => rfl)
    | (with_reducible exact lj_par_409 Y0 _)
    | (with_reducible refine kb_par (fun r g => ?_))
    | (with_reducible refine mf_par (fun r g => ?_))
    | (with_reducible refine md_par (fun r g => ?_))
    | (with_reducible refine kq_par ?_ ?_)
    | (with_reducible refine kl_par ?_ ?_)
    | (with_reducible refine kt_par ?_ ?_)
    | (with_reducible refine kc_par ?_)
    | (with_reducible exact no_par)
theorem lj_par_311 {ρ : Type} (Y0 : Option ρ) (f : kMem) : lj_law_311 (some ()) f = some () → lj_law_311 Y0 f = Y0 := by
  unfold lj_law_311
  repeat' first
    | (with_reducible exact fun _ => rfl)
    | (with_reducible exact lj_par_355 Y0 _)
    | (with_reducible refine kb_par (fun r g => ?_))
    | (with_reducible refine mf_par (fun r g => ?_))
    | (with_reducible refine md_par (fun r g => ?_))
    | (with_reducible refine kq_par ?_ ?_)
    | (with_reducible refine kl_par ?_ ?_)
    | (with_reducible refine kt_par ?_ ?_)
    | (with_reducible refine kc_par ?_)
    | (with_reducible exact no_par)
theorem lj_par_280 {ρ : Type} (Y0 : Option ρ) (f : kMem) : lj_law_280 (some ()) f = some () → lj_law_280 Y0 f = Y0 := by
  unfold lj_law_280
  exact ll_par_282 (fun f x => lj_par_311 Y0 f) _ f 0
theorem lj_par_249 {ρ : Type} (Y0 : Option ρ) (f : kMem) : lj_law_249 (some ()) f = some () → lj_law_249 Y0 f = Y0 := by
  unfold lj_law_249
  repeat' first
    | (with_reducible exact fun _ => rfl)
    | (with_reducible exact lj_par_280 Y0 _)
    | (with_reducible refine kb_par (fun r g => ?_))
    | (with_reducible refine mf_par (fun r g => ?_))
    | (with_reducible refine md_par (fun r g => ?_))
    | (with_reducible refine kq_par ?_ ?_)
    | (with_reducible refine kl_par ?_ ?_)
    | (with_reducible refine kt_par ?_ ?_)
    | (with_reducible refine kc_par ?_)
    | (with_reducible exact no_par)
theorem lj_par_224 {ρ : Type} (Y0 : Option ρ) (f : kMem) : lj_law_224 (some ()) f = some () → lj_law_224 Y0 f = Y0 := by
  unfold lj_law_224
  exact ll_par_226 (fun f x => lj_par_249 Y0 f) _ f 0
theorem lj_par_184 {ρ : Type} (Y0 : Option ρ) (f : kMem) : lj_law_184 (some ()) f = some () → lj_law_184 Y0 f = Y0 := by
  unfold lj_law_184
  repeat' first
    | (with_reducible exact fun _ => rfl)
    | (with_reducible exact lj_par_224 Y0 _)
    | (with_reducible refine kb_par (fun r g => ?_))
    | (with_reducible refine mf_par (fun r g => ?_))
    | (with_reducible refine md_par (fun r g => ?_))
    | (with_reducible refine kq_par ?_ ?_)
    | (with_reducible refine kl_par ?_ ?_)
    | (with_reducible refine kt_par ?_ ?_)
    | (with_reducible refine kc_par ?_)
    | (with_reducible exact no_par)
theorem lj_par_152 {ρ : Type} (Y0 : Option ρ) (f : kMem) : lj_law_152 (some ()) f = some () → lj_law_152 Y0 f = Y0 := by
  unfold lj_law_152
  exact ll_par_154 (fun f x => lj_par_184 Y0 f) _ f 0
theorem lj_par_109 {ρ : Type} (Y0 : Option ρ) (f : kMem) : lj_law_109 (some ()) f = some () → lj_law_109 Y0 f = Y0 := by
  unfold lj_law_109
  repeat' first
    | (with_reducible exact fun _ => rfl)
    | (with_reducible exact lj_par_152 Y0 _)
    | (with_reducible refine kb_par (fun r g => ?_))
    | (with_reducible refine mf_par (fun r g => ?_))
    | (with_reducible refine md_par (fun r g => ?_))
    | (with_reducible refine kq_par ?_ ?_)
    | (with_reducible refine kl_par ?_ ?_)
    | (with_reducible refine kt_par ?_ ?_)
    | (with_reducible refine kc_par ?_)
    | (with_reducible exact no_par)
theorem lj_par_56 {ρ : Type} (Y0 : Option ρ) (f : kMem) : lj_law_56 (some ()) f = some () → lj_law_56 Y0 f = Y0 := by
  unfold lj_law_56
  repeat' first
    | (with_reducible exact fun _ => rfl)
    | (with_reducible exact lj_par_109 Y0 _)
    | (with_reducible refine kb_par (fun r g => ?_))
    | (with_reducible refine mf_par (fun r g => ?_))
    | (with_reducible refine md_par (fun r g => ?_))
    | (with_reducible refine kq_par ?_ ?_)
    | (with_reducible refine kl_par ?_ ?_)
    | (with_reducible refine kt_par ?_ ?_)
    | (with_reducible refine kc_par ?_)
    | (with_reducible exact no_par)
theorem lj_par_8 {ρ : Type} (Y0 : Option ρ) (f : kMem) : lj_law_8 (some ()) f = some () → lj_law_8 Y0 f = Y0 := by
  unfold lj_law_8
  repeat' first
    | (with_reducible exact fun _ => rfl)
    | (with_reducible exact lj_par_56 Y0 _)
    | (with_reducible refine kb_par (fun r g => ?_))
    | (with_reducible refine mf_par (fun r g => ?_))
    | (with_reducible refine md_par (fun r g => ?_))
    | (with_reducible refine kq_par ?_ ?_)
    | (with_reducible refine kl_par ?_ ?_)
    | (with_reducible refine kt_par ?_ ?_)
    | (with_reducible refine kc_par ?_)
    | (with_reducible exact no_par)
set_option maxRecDepth 100000 in
theorem e_eval : lj_law_8 (some ()) f0 = some () := by decide +kernel
theorem e_all (Z : mZ) : lf_law Z = lf_o Z := lj_par_8 (lf_o Z) f0 e_eval
