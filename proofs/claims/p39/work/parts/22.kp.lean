/-! what the calls of the class and of the reference answer alike (kP_<op>) -/
def kcd (ks : List Nat) (n : Nat) : Int32 := if n = 0 then 0 else Int32.ofNat (ks.idxOf n + 1)
def kchr (x : Int32) : Int32 := (x.toUInt32 % 65536).toInt32
def k01 (x : Int32) : Int32 := if x = 0 then 0 else 1
def kOk (ks : List Nat) (X : Option kXr) (Y : Option (Int32 × kMem)) (P : kMem → kMem → Prop) : Prop := ∃ z bb g', X = some z ∧ Y = some (bb, g') ∧ (z.1 = 0 ∨ z.1 ∈ ks) ∧ g' 0 18 = kcd ks z.1 ∧ (z.1 = 0 → z.2.1 = bb) ∧ P z.2.2 g'
def kP_append (R : Nat → kMem → kMem → Prop) : Prop := ∀ (N : Nat) (f g : kMem) (a0 : Int32), N < 512 → R N f g → kOk [1] (cx_X11_append f (kchr a0)) (cf_X12_append g (kchr a0)) (R (N + 1))
def kP_colour (R : Nat → kMem → kMem → Prop) : Prop := ∀ (N : Nat) (f g : kMem) (a0 : Int32), N < 512 → R N f g → kOk [4] (cx_X11_colour f (a0)) (cf_X12_colour g (a0)) (R (N + 1))
def kP_part (R : Nat → kMem → kMem → Prop) : Prop := ∀ (N : Nat) (f g : kMem) (a0 : Int32), N < 512 → R N f g → kOk [4] (cx_X11_part f (a0)) (cf_X12_part g (a0)) (R (N + 1))
def kP_family (R : Nat → kMem → kMem → Prop) : Prop := ∀ (N : Nat) (f g : kMem), N < 512 → R N f g → kOk [2, 4] (cx_X11_family f) (cf_X12_family g) (R (N + 1))
def kP_program (R : Nat → kMem → kMem → Prop) : Prop := ∀ (N : Nat) (f g : kMem), N < 512 → R N f g → kOk [2, 4] (cx_X11_program f) (cf_X12_program g) (R (N + 1))
def kP_faultPosition (R : Nat → kMem → kMem → Prop) : Prop := ∀ (N : Nat) (f g : kMem), N < 512 → R N f g → ∃ r f1 g1, cf_X11_faultPosition f = some (r, f1) ∧ cf_X12_faultPosition g = some (r, g1) ∧ R (N + 1) f1 g1
def kP_mount (R : Nat → kMem → kMem → Prop) : Prop := ∀ (N : Nat) (f g : kMem) (a0 : Int32), N < 512 → R N f g → kOk [4] (cx_X11_mount f (a0)) (cf_X12_mount g (a0)) (R (N + 1))
def kP_load (R : Nat → kMem → kMem → Prop) : Prop := ∀ (N : Nat) (f g : kMem) (a0 a1 a2 : Int32), N < 512 → R N f g → kOk [4] (cx_X11_load f (a0) (a1) (a2)) (cf_X12_load g (a0) (a1) (a2)) (R (N + 1))
def kP_empty (R : Nat → kMem → kMem → Prop) : Prop := ∀ (N : Nat) (f g : kMem) (a0 : Int32), N < 512 → R N f g → kOk [4] (cx_X11_empty f (a0)) (cf_X12_empty g (a0)) (R (N + 1))
def kP_pause (R : Nat → kMem → kMem → Prop) : Prop := ∀ (N : Nat) (f g : kMem) (a0 : Int32), N < 512 → R N f g → kOk [4] (cx_X11_pause f (a0)) (cf_X12_pause g (a0)) (R (N + 1))
def kP_run (R : Nat → kMem → kMem → Prop) : Prop := ∀ (N : Nat) (f g : kMem) (a0 a1 : Int32), N < 512 → R N f g → kOk [4] (cx_X11_run f (a0) (a1)) (cf_X12_run g (a0) (a1)) (R (N + 1))
def kP_order (R : Nat → kMem → kMem → Prop) : Prop := ∀ (N : Nat) (f g : kMem) (a0 a1 a2 a3 : Int32), N < 512 → R N f g → kOk [4] (cx_X11_order f (a0) (a1) (a2) (a3)) (cf_X12_order g (a0) (a1) (a2) (a3)) (R (N + 1))
def kP_callOff (R : Nat → kMem → kMem → Prop) : Prop := ∀ (N : Nat) (f g : kMem) (a0 : Int32), N < 512 → R N f g → kOk [4] (cx_X11_callOff f (a0)) (cf_X12_callOff g (a0)) (R (N + 1))
def kP_set (R : Nat → kMem → kMem → Prop) : Prop := ∀ (N : Nat) (f g : kMem) (a0 a1 : Int32), N < 512 → R N f g → kOk [4] (cx_X11_set f (a0) (a1)) (cf_X12_set g (a0) (a1)) (R (N + 1))
def kP_purge (R : Nat → kMem → kMem → Prop) : Prop := ∀ (N : Nat) (f g : kMem) (a0 a1 : Int32), N < 512 → R N f g → kOk [3] (cx_X11_purge f (a0) (a1)) (cf_X12_purge g (a0) (a1)) (R (N + 1))
def kP_minutes (R : Nat → kMem → kMem → Prop) : Prop := ∀ (N : Nat) (f g : kMem) (a0 a1 : Int32), N < 512 → R N f g → kOk [3, 2, 1] (cx_X11_minutes f (a0) (a1)) (cf_X12_minutes g (a0) (a1)) (R (N + 1))
def kP_best (R : Nat → kMem → kMem → Prop) : Prop := ∀ (N : Nat) (f g : kMem) (a0 : Int32), N < 512 → R N f g → kOk [2] (cx_X11_best f (a0)) (cf_X12_best g (a0)) (R (N + 1))
def kP_bestColour (R : Nat → kMem → kMem → Prop) : Prop := ∀ (N : Nat) (f g : kMem) (a0 a1 : Int32), N < 512 → R N f g → kOk [2, 5] (cx_X11_bestColour f (a0) (a1)) (cf_X12_bestColour g (a0) (a1)) (R (N + 1))
def kP_familyOf (R : Nat → kMem → kMem → Prop) : Prop := ∀ (N : Nat) (f g : kMem) (a0 a1 : Int32), N < 512 → R N f g → kOk [3, 2] (cx_X11_familyOf f (a0) (a1)) (cf_X12_familyOf g (a0) (a1)) (R (N + 1))
def kP_pieces (R : Nat → kMem → kMem → Prop) : Prop := ∀ (N : Nat) (f g : kMem) (a0 a1 : Int32), N < 512 → R N f g → kOk [3] (cx_X11_pieces f (a0) (a1)) (cf_X12_pieces g (a0) (a1)) (R (N + 1))
def kP_families (R : Nat → kMem → kMem → Prop) : Prop := ∀ (N : Nat) (f g : kMem) (a0 : Int32), N < 512 → R N f g → kOk [3] (cx_X11_families f (a0)) (cf_X12_families g (a0)) (R (N + 1))
def kP_dryer (R : Nat → kMem → kMem → Prop) : Prop := ∀ (N : Nat) (f g : kMem) (a0 a1 : Int32), N < 512 → R N f g → kOk [3, 2] (cx_X11_dryer f (a0) (a1)) (cf_X12_dryer g (a0) (a1)) (R (N + 1))
def kP_stock (R : Nat → kMem → kMem → Prop) : Prop := ∀ (N : Nat) (f g : kMem) (a0 a1 a2 : Int32), N < 512 → R N f g → kOk [3, 2] (cx_X11_stock f (a0) (a1) (a2)) (cf_X12_stock g (a0) (a1) (a2)) (R (N + 1))
def kP_made (R : Nat → kMem → kMem → Prop) : Prop := ∀ (N : Nat) (f g : kMem) (a0 a1 : Int32), N < 512 → R N f g → kOk [3, 2] (cx_X11_made f (a0) (a1)) (cf_X12_made g (a0) (a1)) (R (N + 1))
def kP_orderOf (R : Nat → kMem → kMem → Prop) : Prop := ∀ (N : Nat) (f g : kMem) (a0 a1 : Int32), N < 512 → R N f g → kOk [3, 2] (cx_X11_orderOf f (a0) (a1)) (cf_X12_orderOf g (a0) (a1)) (R (N + 1))
def kP_shots (R : Nat → kMem → kMem → Prop) : Prop := ∀ (N : Nat) (f g : kMem) (a0 : Int32), N < 512 → R N f g → kOk [3, 5] (cx_X11_shots f (a0)) (cf_X12_shots g (a0)) (R (N + 1))
def kP_letter (R : Nat → kMem → kMem → Prop) : Prop := ∀ (N : Nat) (f g : kMem) (a0 : Int32), N < 512 → R N f g → kOk [3] (cx_X11_letter f (a0)) (cf_X12_letter g (a0)) (R (N + 1))
def kP_due (R : Nat → kMem → kMem → Prop) : Prop := ∀ (N : Nat) (f g : kMem) (a0 : Int32), N < 512 → R N f g → kOk [2] (cx_X11_due f (a0)) (cf_X12_due g (a0)) (R (N + 1))
def kP_reason (R : Nat → kMem → kMem → Prop) : Prop := ∀ (N : Nat) (f g : kMem) (a0 a1 : Int32), N < 512 → R N f g → kOk [2, 5] (cx_X11_reason f (a0) (k01 a1)) (cf_X12_reason g (a0) (k01 a1)) (R (N + 1))
def kP_scrap (R : Nat → kMem → kMem → Prop) : Prop := ∀ (N : Nat) (f g : kMem), N < 512 → R N f g → ∃ z bb g1, cx_X11_scrap f = some z ∧ cf_X12_scrap g = some (bb, g1) ∧ (z.1 = 0 ∨ z.1 = 6) ∧ g1 0 18 = kcd [6] z.1 ∧ (∃ x, bb = .float x) ∧ (z.1 = 0 → z.2.1 = bb ∧ (fun v => ∃ a b, b ≠ 0 ∧ v = .float (FP.fdiv (FP.i2f a) (FP.i2f b))) bb) ∧ R (N + 1) z.2.2 g1
def kP_lateness (R : Nat → kMem → kMem → Prop) : Prop := ∀ (N : Nat) (f g : kMem), N < 512 → R N f g → ∃ z bb g1, cx_X11_lateness f = some z ∧ cf_X12_lateness g = some (bb, g1) ∧ (z.1 = 0 ∨ z.1 = 6) ∧ g1 0 18 = kcd [6] z.1 ∧ (∃ x, bb = .double x) ∧ (z.1 = 0 → z.2.1 = bb ∧ (fun v => ∃ x, v = .double x) bb) ∧ R (N + 1) z.2.2 g1
def kP_account (R : Nat → kMem → kMem → Prop) : Prop := ∀ (N : Nat) (f g : kMem) (a0 : Int32), N < 512 → R N f g → kOk [2] (cx_X11_account f (a0)) (cf_X12_account g (a0)) (R (N + 1))
def kP_undo (R : Nat → kMem → kMem → Prop) : Prop := ∀ (N : Nat) (f g : kMem), N < 512 → R N f g → kOk [1] (cx_X11_undo f) (cf_X12_undo g) (R (N + 1))
def kP_save (R : Nat → kMem → kMem → Prop) : Prop := ∀ (N : Nat) (f g : kMem), N < 512 → R N f g → ∃ r f1 g1, cf_X11_save f = some (r, f1) ∧ cf_X12_save g = some (r, g1) ∧ R (N + 1) f1 g1
def kP_restore (R : Nat → kMem → kMem → Prop) : Prop := ∀ (N : Nat) (f g : kMem), N < 512 → R N f g → kOk [1] (cx_X11_restore f) (cf_X12_restore g) (R (N + 1))
