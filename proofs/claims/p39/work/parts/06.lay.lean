/-! the shapes of the cells -/
def shF (B c : Nat) : kSh := match c with
  | 0 => .inr (7, [some (B + 1), some (B + 8), some (B + 12), some (B + 18), none, none, none, none, none, none, none, none])
  | 1 => .inr (3, [none, none, none, some (B + 2), some (B + 3), some (B + 4), some (B + 5), some (B + 6), some (B + 7)])
  | 2 => .inl (0, 6)
  | 3 => .inl (0, 8)
  | 4 => .inl (0, 6)
  | 5 => .inl (0, 6)
  | 6 => .inl (0, 48)
  | 7 => .inl (0, 4)
  | 8 => .inr (5, [some (B + 9), some (B + 10), some (B + 11)])
  | 9 => .inl (0, 3)
  | 10 => .inl (0, 3)
  | 11 => .inl (0, 3)
  | 12 => .inr (12, [some (B + 13), some (B + 14), some (B + 15), some (B + 16), some (B + 17)])
  | 13 => .inl (0, 48)
  | 14 => .inl (0, 48)
  | 15 => .inl (0, 48)
  | 16 => .inl (0, 8)
  | 17 => .inl (0, 8)
  | 18 => .inr (9, [none, some (B + 19), some (B + 20), some (B + 21), some (B + 22), some (B + 23), some (B + 24)])
  | 19 => .inl (0, 10)
  | 20 => .inl (0, 10)
  | 21 => .inl (0, 10)
  | 22 => .inl (0, 10)
  | 23 => .inl (0, 10)
  | _ => .inl (0, 10)
def shR (c : Nat) : kSh := match c with
  | 0 => .inr (8, [some 276, none, none])
  | 1 => .inl (2, 9)
  | 2 => .inr (11, [some 278, some 279, none])
  | 3 => .inl (0, 3)
  | 4 => .inl (0, 3)
  | 5 => .inr (13, [some 281, none, none, none])
  | 6 => .inl (1, 80)
  | 7 => .inr (6, [some 283, some 284, none, none, none])
  | 8 => .inl (0, 3)
  | 9 => .inl (0, 3)
  | 10 => .inr (10, [some 286, some 287, none])
  | 11 => .inl (0, 40)
  | 12 => .inl (0, 120)
  | 13 => .inr (4, [some 289, some 290])
  | 14 => .inl (0, 42)
  | 15 => .inl (0, 448)
  | _ => .inr (14, [some 0, some 25, some 275, some 277, some 280, some 282, some 285, some 288, none])
def shC (a : Nat) : kSh := if a < 275 then shF (25 * (a / 25)) (a % 25) else shR (a - 275)
abbrev wC (G : kG) (ad : Nat → Nat) : KW := (G, ad, shC, 292)
theorem shC_0 (G : kG) (ad : Nat → Nat) : ksh (wC G ad) 0 = .inr (7, [some 1, some 8, some 12, some 18, none, none, none, none, none, none, none, none]) := rfl
theorem shC_1 (G : kG) (ad : Nat → Nat) : ksh (wC G ad) 1 = .inr (3, [none, none, none, some 2, some 3, some 4, some 5, some 6, some 7]) := rfl
theorem shC_2 (G : kG) (ad : Nat → Nat) : ksh (wC G ad) 2 = .inl (0, 6) := rfl
theorem shC_3 (G : kG) (ad : Nat → Nat) : ksh (wC G ad) 3 = .inl (0, 8) := rfl
theorem shC_4 (G : kG) (ad : Nat → Nat) : ksh (wC G ad) 4 = .inl (0, 6) := rfl
theorem shC_5 (G : kG) (ad : Nat → Nat) : ksh (wC G ad) 5 = .inl (0, 6) := rfl
theorem shC_6 (G : kG) (ad : Nat → Nat) : ksh (wC G ad) 6 = .inl (0, 48) := rfl
theorem shC_7 (G : kG) (ad : Nat → Nat) : ksh (wC G ad) 7 = .inl (0, 4) := rfl
theorem shC_8 (G : kG) (ad : Nat → Nat) : ksh (wC G ad) 8 = .inr (5, [some 9, some 10, some 11]) := rfl
theorem shC_9 (G : kG) (ad : Nat → Nat) : ksh (wC G ad) 9 = .inl (0, 3) := rfl
theorem shC_10 (G : kG) (ad : Nat → Nat) : ksh (wC G ad) 10 = .inl (0, 3) := rfl
theorem shC_11 (G : kG) (ad : Nat → Nat) : ksh (wC G ad) 11 = .inl (0, 3) := rfl
theorem shC_12 (G : kG) (ad : Nat → Nat) : ksh (wC G ad) 12 = .inr (12, [some 13, some 14, some 15, some 16, some 17]) := rfl
theorem shC_13 (G : kG) (ad : Nat → Nat) : ksh (wC G ad) 13 = .inl (0, 48) := rfl
theorem shC_14 (G : kG) (ad : Nat → Nat) : ksh (wC G ad) 14 = .inl (0, 48) := rfl
theorem shC_15 (G : kG) (ad : Nat → Nat) : ksh (wC G ad) 15 = .inl (0, 48) := rfl
theorem shC_16 (G : kG) (ad : Nat → Nat) : ksh (wC G ad) 16 = .inl (0, 8) := rfl
theorem shC_17 (G : kG) (ad : Nat → Nat) : ksh (wC G ad) 17 = .inl (0, 8) := rfl
theorem shC_18 (G : kG) (ad : Nat → Nat) : ksh (wC G ad) 18 = .inr (9, [none, some 19, some 20, some 21, some 22, some 23, some 24]) := rfl
theorem shC_19 (G : kG) (ad : Nat → Nat) : ksh (wC G ad) 19 = .inl (0, 10) := rfl
theorem shC_20 (G : kG) (ad : Nat → Nat) : ksh (wC G ad) 20 = .inl (0, 10) := rfl
theorem shC_21 (G : kG) (ad : Nat → Nat) : ksh (wC G ad) 21 = .inl (0, 10) := rfl
theorem shC_22 (G : kG) (ad : Nat → Nat) : ksh (wC G ad) 22 = .inl (0, 10) := rfl
theorem shC_23 (G : kG) (ad : Nat → Nat) : ksh (wC G ad) 23 = .inl (0, 10) := rfl
theorem shC_24 (G : kG) (ad : Nat → Nat) : ksh (wC G ad) 24 = .inl (0, 10) := rfl
theorem shC_275 (G : kG) (ad : Nat → Nat) : ksh (wC G ad) 275 = .inr (8, [some 276, none, none]) := rfl
theorem shC_276 (G : kG) (ad : Nat → Nat) : ksh (wC G ad) 276 = .inl (2, 9) := rfl
theorem shC_277 (G : kG) (ad : Nat → Nat) : ksh (wC G ad) 277 = .inr (11, [some 278, some 279, none]) := rfl
theorem shC_278 (G : kG) (ad : Nat → Nat) : ksh (wC G ad) 278 = .inl (0, 3) := rfl
theorem shC_279 (G : kG) (ad : Nat → Nat) : ksh (wC G ad) 279 = .inl (0, 3) := rfl
theorem shC_280 (G : kG) (ad : Nat → Nat) : ksh (wC G ad) 280 = .inr (13, [some 281, none, none, none]) := rfl
theorem shC_281 (G : kG) (ad : Nat → Nat) : ksh (wC G ad) 281 = .inl (1, 80) := rfl
theorem shC_282 (G : kG) (ad : Nat → Nat) : ksh (wC G ad) 282 = .inr (6, [some 283, some 284, none, none, none]) := rfl
theorem shC_283 (G : kG) (ad : Nat → Nat) : ksh (wC G ad) 283 = .inl (0, 3) := rfl
theorem shC_284 (G : kG) (ad : Nat → Nat) : ksh (wC G ad) 284 = .inl (0, 3) := rfl
theorem shC_285 (G : kG) (ad : Nat → Nat) : ksh (wC G ad) 285 = .inr (10, [some 286, some 287, none]) := rfl
theorem shC_286 (G : kG) (ad : Nat → Nat) : ksh (wC G ad) 286 = .inl (0, 40) := rfl
theorem shC_287 (G : kG) (ad : Nat → Nat) : ksh (wC G ad) 287 = .inl (0, 120) := rfl
theorem shC_288 (G : kG) (ad : Nat → Nat) : ksh (wC G ad) 288 = .inr (4, [some 289, some 290]) := rfl
theorem shC_289 (G : kG) (ad : Nat → Nat) : ksh (wC G ad) 289 = .inl (0, 42) := rfl
theorem shC_290 (G : kG) (ad : Nat → Nat) : ksh (wC G ad) 290 = .inl (0, 448) := rfl
theorem shC_291 (G : kG) (ad : Nat → Nat) : ksh (wC G ad) 291 = .inr (14, [some 0, some 25, some 275, some 277, some 280, some 282, some 285, some 288, none]) := rfl
