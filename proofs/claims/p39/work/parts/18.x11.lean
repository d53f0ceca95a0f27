/-! History's copies, and MouldFloor's methods that throw -/
theorem kin_lt {i : Int32} {n : Nat} (h : kin i n = true) : i.toNatClampNeg < n := Nat.not_le.mp (fun q => kin_in h (Or.inr q))
section KX2
variable {p : Program} {l : Launch} {e : Env} {R : Room} {s : State} {m : MethodId} {args : Array Value} {below : List Frame} {meth : Method} {c : Code} {w : KW} {own : String} {cc : ByteArray} {nL : Nat} {ret : Option FieldType} {d mc ms : Nat} {zz : kXr} {k0 n0 : Nat} {f : kMem} {pc : Nat} {lv : List (Nat × Value)} {st : List Value} {X : Option kXr}
theorem K_callXi (CX : KCX p l e R s m args below meth c w own cc nL ret d mc ms) {y : MethodName} {b1 : ByteArray} {nL1 : Nat} {ret1 : Option FieldType} {d1 mc1 ms1 idx n : Nat} {As rest : List Value} {Z : Option kXr} {Y : Int32 → kMem → Option kXr} {a ci : Nat} {fl : List (Option Nat)} {T1 : u_T} {N1 : Nat} (ha : a < kn w) (hsh : ksh w a = .inr (ci, fl)) (hci : vwCl[ci]? = some (y.cls, T1, N1)) (hY : kYV y b1 nL1 ret1 n) (hlink : Cond.methodLink own idx y ∈ kGT) (hd1 : d1 < d) (hk0 : k0 + mc1 ≤ mc ∧ n0 + ms1 ≤ ms) (hM : ∀ z1, Z = some z1 → kxMet l w y b1 nL1 ret1 d1 mc1 ms1 (.ref (kad w a) :: As) f z1) (hn : As.length = n) (hst : st = As.reverse ++ .ref (kad w a) :: rest) (hrest : (rest.map fun v => v.category).sum ≤ 8) {ty1 : FieldType} (hret1 : ret1 = some ty1) (hdg : decode cc pc = .ok (.invokevirtual idx, 3)) (kk : ∀ (r1 : Int32) (f1 : kMem), K p l e R s m args below meth c w nL (kxQF below w ret args s mc ms zz) zz (k0 + mc1) (n0 + ms1) f1 (pc+3) lv (.int r1 :: rest) (Y r1 f1)) : K p l e R s m args below meth c w nL (kxQF below w ret args s mc ms zz) zz k0 n0 f pc lv st (kxbind Z Y) := by
  subst hret1
  exact K_callX CX ha hsh hci hY hlink hd1 hk0 hM hn hst hrest hdg kk
theorem K_callXv (CX : KCX p l e R s m args below meth c w own cc nL ret d mc ms) {y : MethodName} {b1 : ByteArray} {nL1 : Nat} {ret1 : Option FieldType} {d1 mc1 ms1 idx n : Nat} {As rest : List Value} {Z : Option kXr} {Y : Int32 → kMem → Option kXr} {a ci : Nat} {fl : List (Option Nat)} {T1 : u_T} {N1 : Nat} (ha : a < kn w) (hsh : ksh w a = .inr (ci, fl)) (hci : vwCl[ci]? = some (y.cls, T1, N1)) (hY : kYV y b1 nL1 ret1 n) (hlink : Cond.methodLink own idx y ∈ kGT) (hd1 : d1 < d) (hk0 : k0 + mc1 ≤ mc ∧ n0 + ms1 ≤ ms) (hM : ∀ z1, Z = some z1 → kxMet l w y b1 nL1 ret1 d1 mc1 ms1 (.ref (kad w a) :: As) f z1) (hn : As.length = n) (hst : st = As.reverse ++ .ref (kad w a) :: rest) (hrest : (rest.map fun v => v.category).sum ≤ 8) (hret1 : ret1 = none) (hdg : decode cc pc = .ok (.invokevirtual idx, 3)) (kk : ∀ (r1 : Int32) (f1 : kMem), K p l e R s m args below meth c w nL (kxQF below w ret args s mc ms zz) zz (k0 + mc1) (n0 + ms1) f1 (pc+3) lv rest (Y r1 f1)) : K p l e R s m args below meth c w nL (kxQF below w ret args s mc ms zz) zz k0 n0 f pc lv st (kxbind Z Y) := by
  subst hret1
  exact K_callX CX ha hsh hci hY hlink hd1 hk0 hM hn hst hrest hdg kk
end KX2
theorem wf_X11_16 : Cond.fieldLink RX11 16 "MouldFloor" "snapshot" "LMouldFloor$Floor;" ∈ kGT := kgt (List.mem_of_getElem? (i := 371) (by decide +kernel)) rfl
theorem wf_X11_22 : Cond.fieldLink RX11 22 "MouldFloor" "history" "LMouldFloor$History;" ∈ kGT := kgt (List.mem_of_getElem? (i := 372) (by decide +kernel)) rfl
theorem wf_X11_43 : Cond.fieldLink RX11 43 "MouldFloor" "familyText" "LMouldFloor$FamilyText;" ∈ kGT := kgt (List.mem_of_getElem? (i := 375) (by decide +kernel)) rfl
theorem wf_X11_57 : Cond.fieldLink RX11 57 "MouldFloor" "colourOrders" "LMouldFloor$ColourOrders;" ∈ kGT := kgt (List.mem_of_getElem? (i := 377) (by decide +kernel)) rfl
theorem wf_X11_72 : Cond.fieldLink RX11 72 "MouldFloor$Text" "length" "I" ∈ kGT := kgt (List.mem_of_getElem? (i := 303) (by decide +kernel)) rfl
theorem wf_X11_80 : Cond.fieldLink RX11 80 "MouldFloor$Floor" "catalogue" "LMouldFloor$Catalogue;" ∈ kGT := kgt (List.mem_of_getElem? (i := 207) (by decide +kernel)) rfl
theorem wf_X11_116 : Cond.fieldLink RX11 116 "MouldFloor$ProgramText" "count" "I" ∈ kGT := kgt (List.mem_of_getElem? (i := 349) (by decide +kernel)) rfl
theorem wf_X11_144 : Cond.fieldLink RX11 144 "MouldFloor$Floor" "dryers" "LMouldFloor$Dryers;" ∈ kGT := kgt (List.mem_of_getElem? (i := 209) (by decide +kernel)) rfl
theorem wf_X11_164 : Cond.fieldLink RX11 164 "MouldFloor$Floor" "orders" "LMouldFloor$Orders;" ∈ kGT := kgt (List.mem_of_getElem? (i := 213) (by decide +kernel)) rfl
theorem wf_X11_195 : Cond.fieldLink RX11 195 "MouldFloor$Floor" "mounted" "I" ∈ kGT := kgt (List.mem_of_getElem? (i := 223) (by decide +kernel)) rfl
theorem wf_X11_203 : Cond.fieldLink RX11 203 "MouldFloor$Floor" "colour" "I" ∈ kGT := kgt (List.mem_of_getElem? (i := 221) (by decide +kernel)) rfl
theorem wf_X11_206 : Cond.fieldLink RX11 206 "MouldFloor$Catalogue" "cycles" "[I" ∈ kGT := kgt (List.mem_of_getElem? (i := 90) (by decide +kernel)) rfl
theorem wf_X11_237 : Cond.fieldLink RX11 237 "MouldFloor$Catalogue" "weights" "[I" ∈ kGT := kgt (List.mem_of_getElem? (i := 93) (by decide +kernel)) rfl
theorem wf_X11_263 : Cond.fieldLink RX11 263 "MouldFloor$Dryers" "colours" "[I" ∈ kGT := kgt (List.mem_of_getElem? (i := 125) (by decide +kernel)) rfl
theorem wf_X11_266 : Cond.fieldLink RX11 266 "MouldFloor$Dryers" "grams" "[I" ∈ kGT := kgt (List.mem_of_getElem? (i := 128) (by decide +kernel)) rfl
theorem wf_X11_269 : Cond.fieldLink RX11 269 "MouldFloor$Dryers" "dried" "[I" ∈ kGT := kgt (List.mem_of_getElem? (i := 130) (by decide +kernel)) rfl
theorem wf_X11_272 : Cond.fieldLink RX11 272 "MouldFloor$Catalogue" "settings" "[I" ∈ kGT := kgt (List.mem_of_getElem? (i := 97) (by decide +kernel)) rfl
theorem wf_X11_282 : Cond.fieldLink RX11 282 "MouldFloor$Floor" "stock" "LMouldFloor$Stock;" ∈ kGT := kgt (List.mem_of_getElem? (i := 211) (by decide +kernel)) rfl
theorem wf_X11_286 : Cond.fieldLink RX11 286 "MouldFloor$Stock" "closed" "[I" ∈ kGT := kgt (List.mem_of_getElem? (i := 146) (by decide +kernel)) rfl
theorem wf_X11_291 : Cond.fieldLink RX11 291 "MouldFloor$Stock" "open" "[I" ∈ kGT := kgt (List.mem_of_getElem? (i := 149) (by decide +kernel)) rfl
theorem wf_X11_294 : Cond.fieldLink RX11 294 "MouldFloor$Stock" "delivered" "[I" ∈ kGT := kgt (List.mem_of_getElem? (i := 151) (by decide +kernel)) rfl
theorem wf_X11_299 : Cond.fieldLink RX11 299 "MouldFloor$Stock" "pieces" "[I" ∈ kGT := kgt (List.mem_of_getElem? (i := 153) (by decide +kernel)) rfl
theorem wf_X11_305 : Cond.fieldLink RX11 305 "MouldFloor$Catalogue" "crateSizes" "[I" ∈ kGT := kgt (List.mem_of_getElem? (i := 87) (by decide +kernel)) rfl
theorem wf_X11_311 : Cond.fieldLink RX11 311 "MouldFloor$Stock" "scrapPieces" "[I" ∈ kGT := kgt (List.mem_of_getElem? (i := 155) (by decide +kernel)) rfl
theorem wf_X11_319 : Cond.fieldLink RX11 319 "MouldFloor$Orders" "parts" "[I" ∈ kGT := kgt (List.mem_of_getElem? (i := 177) (by decide +kernel)) rfl
theorem wf_X11_322 : Cond.fieldLink RX11 322 "MouldFloor$Orders" "colours" "[I" ∈ kGT := kgt (List.mem_of_getElem? (i := 180) (by decide +kernel)) rfl
theorem wf_X11_323 : Cond.fieldLink RX11 323 "MouldFloor$Orders" "crates" "[I" ∈ kGT := kgt (List.mem_of_getElem? (i := 183) (by decide +kernel)) rfl
theorem wf_X11_326 : Cond.fieldLink RX11 326 "MouldFloor$Orders" "weeks" "[I" ∈ kGT := kgt (List.mem_of_getElem? (i := 185) (by decide +kernel)) rfl
theorem wf_X11_329 : Cond.fieldLink RX11 329 "MouldFloor$Orders" "states" "[I" ∈ kGT := kgt (List.mem_of_getElem? (i := 187) (by decide +kernel)) rfl
theorem wf_X11_332 : Cond.fieldLink RX11 332 "MouldFloor$Orders" "lateWeeks" "[I" ∈ kGT := kgt (List.mem_of_getElem? (i := 189) (by decide +kernel)) rfl
theorem wf_X11_355 : Cond.fieldLink RX11 355 "MouldFloor$Reasons" "count" "I" ∈ kGT := kgt (List.mem_of_getElem? (i := 286) (by decide +kernel)) rfl
theorem wf_X11_358 : Cond.fieldLink RX11 358 "MouldFloor$Reasons" "details" "[I" ∈ kGT := kgt (List.mem_of_getElem? (i := 284) (by decide +kernel)) rfl
theorem wf_X11_361 : Cond.fieldLink RX11 361 "MouldFloor$Reasons" "numbers" "[I" ∈ kGT := kgt (List.mem_of_getElem? (i := 282) (by decide +kernel)) rfl
theorem wf_X11_382 : Cond.fieldLink RX11 382 "MouldFloor$Catalogue" "colourCount" "I" ∈ kGT := kgt (List.mem_of_getElem? (i := 78) (by decide +kernel)) rfl
theorem wf_X11_385 : Cond.fieldLink RX11 385 "MouldFloor$Catalogue" "partCount" "I" ∈ kGT := kgt (List.mem_of_getElem? (i := 81) (by decide +kernel)) rfl
theorem wf_X11_388 : Cond.fieldLink RX11 388 "MouldFloor$Catalogue" "familyCount" "I" ∈ kGT := kgt (List.mem_of_getElem? (i := 83) (by decide +kernel)) rfl
theorem wf_X11_391 : Cond.fieldLink RX11 391 "MouldFloor$Orders" "count" "I" ∈ kGT := kgt (List.mem_of_getElem? (i := 174) (by decide +kernel)) rfl
theorem wf_X11_392 : Cond.fieldLink RX11 392 "MouldFloor$Floor" "now" "I" ∈ kGT := kgt (List.mem_of_getElem? (i := 215) (by decide +kernel)) rfl
theorem wf_X11_395 : Cond.fieldLink RX11 395 "MouldFloor$Floor" "week" "I" ∈ kGT := kgt (List.mem_of_getElem? (i := 217) (by decide +kernel)) rfl
theorem wf_X11_401 : Cond.fieldLink RX11 401 "MouldFloor$Floor" "gramsTaken" "I" ∈ kGT := kgt (List.mem_of_getElem? (i := 225) (by decide +kernel)) rfl
theorem wf_X11_404 : Cond.fieldLink RX11 404 "MouldFloor$Floor" "shotsOfRuns" "I" ∈ kGT := kgt (List.mem_of_getElem? (i := 227) (by decide +kernel)) rfl
theorem wf_X11_407 : Cond.fieldLink RX11 407 "MouldFloor$Floor" "shotsOfPurges" "I" ∈ kGT := kgt (List.mem_of_getElem? (i := 229) (by decide +kernel)) rfl
theorem wf_X11_410 : Cond.fieldLink RX11 410 "MouldFloor$History" "count" "I" ∈ kGT := kgt (List.mem_of_getElem? (i := 267) (by decide +kernel)) rfl
theorem wf_X11_421 : Cond.fieldLink RX11 421 "MouldFloor" "isSaved" "Z" ∈ kGT := kgt (List.mem_of_getElem? (i := 378) (by decide +kernel)) rfl
theorem wf_X5_13 : Cond.fieldLink RX5 13 "MouldFloor$History" "floors" "[LMouldFloor$Floor;" ∈ kGT := kgt (List.mem_of_getElem? (i := 264) (by decide +kernel)) rfl
theorem wm_X11_61 : Cond.methodLink RX11 61 yX10_add ∈ kGT := kgt (List.mem_of_getElem? (i := 449) (by decide +kernel)) rfl
theorem wm_X11_76 : Cond.methodLink RX11 76 yX5_begin ∈ kGT := kgt (List.mem_of_getElem? (i := 533) (by decide +kernel)) rfl
theorem wm_X11_84 : Cond.methodLink RX11 84 yX0_addColour ∈ kGT := kgt (List.mem_of_getElem? (i := 542) (by decide +kernel)) rfl
theorem wm_X11_90 : Cond.methodLink RX11 90 yX11_settled ∈ kGT := kgt (List.mem_of_getElem? (i := 557) (by decide +kernel)) rfl
theorem wm_X11_94 : Cond.methodLink RX11 94 yX0_addPart ∈ kGT := kgt (List.mem_of_getElem? (i := 588) (by decide +kernel)) rfl
theorem wm_X11_97 : Cond.methodLink RX11 97 yX3_isReadFrom ∈ kGT := kgt (List.mem_of_getElem? (i := 1386) (by decide +kernel)) rfl
theorem wm_X11_101 : Cond.methodLink RX11 101 yX10_clear ∈ kGT := kgt (List.mem_of_getElem? (i := 644) (by decide +kernel)) rfl
theorem wm_X11_109 : Cond.methodLink RX11 109 yX0_addFamily ∈ kGT := kgt (List.mem_of_getElem? (i := 1408) (by decide +kernel)) rfl
theorem wm_X11_113 : Cond.methodLink RX11 113 yX7_isReadFrom ∈ kGT := kgt (List.mem_of_getElem? (i := 600) (by decide +kernel)) rfl
theorem wm_X11_119 : Cond.methodLink RX11 119 yX11_commandCarriedOut ∈ kGT := kgt (List.mem_of_getElem? (i := 664) (by decide +kernel)) rfl
theorem wm_X11_122 : Cond.methodLink RX11 122 yX8_putAhead ∈ kGT := kgt (List.mem_of_getElem? (i := 780) (by decide +kernel)) rfl
theorem wm_X11_126 : Cond.methodLink RX11 126 yX5_rollBack ∈ kGT := kgt (List.mem_of_getElem? (i := 785) (by decide +kernel)) rfl
theorem wm_X11_148 : Cond.methodLink RX11 148 yX2_takeAll ∈ kGT := kgt (List.mem_of_getElem? (i := 1574) (by decide +kernel)) rfl
theorem wm_X11_160 : Cond.methodLink RX11 160 yX4_addOrder ∈ kGT := kgt (List.mem_of_getElem? (i := 825) (by decide +kernel)) rfl
theorem wm_X11_168 : Cond.methodLink RX11 168 yX6_close ∈ kGT := kgt (List.mem_of_getElem? (i := 843) (by decide +kernel)) rfl
theorem wm_X11_173 : Cond.methodLink RX11 173 yX0_changeSetting ∈ kGT := kgt (List.mem_of_getElem? (i := 862) (by decide +kernel)) rfl
theorem wm_X11_176 : Cond.methodLink RX11 176 yX0_isColour ∈ kGT := kgt (List.mem_of_getElem? (i := 1508) (by decide +kernel)) rfl
theorem wm_X11_185 : Cond.methodLink RX11 185 yX0_purgeShots ∈ kGT := kgt (List.mem_of_getElem? (i := 1536) (by decide +kernel)) rfl
theorem wm_X11_189 : Cond.methodLink RX11 189 yX11_isWithin ∈ kGT := kgt (List.mem_of_getElem? (i := 918) (by decide +kernel)) rfl
theorem wm_X11_198 : Cond.methodLink RX11 198 yX0_isFamily ∈ kGT := kgt (List.mem_of_getElem? (i := 1460) (by decide +kernel)) rfl
theorem wm_X11_210 : Cond.methodLink RX11 210 yX11_checkColours ∈ kGT := kgt (List.mem_of_getElem? (i := 877) (by decide +kernel)) rfl
theorem wm_X11_214 : Cond.methodLink RX11 214 yX1_leastSum ∈ kGT := kgt (List.mem_of_getElem? (i := 882) (by decide +kernel)) rfl
theorem wm_X11_221 : Cond.methodLink RX11 221 yJ6_bitCount_0f7a4 ∈ kGT := kgt (List.mem_of_getElem? (i := 912) (by decide +kernel)) rfl
theorem wm_X11_231 : Cond.methodLink RX11 231 yX1_colourAt ∈ kGT := kgt (List.mem_of_getElem? (i := 935) (by decide +kernel)) rfl
theorem wm_X11_240 : Cond.methodLink RX11 240 yX0_partsOf ∈ kGT := kgt (List.mem_of_getElem? (i := 1462) (by decide +kernel)) rfl
theorem wm_X11_243 : Cond.methodLink RX11 243 yX0_allPiecesOf ∈ kGT := kgt (List.mem_of_getElem? (i := 1467) (by decide +kernel)) rfl
theorem wm_X11_248 : Cond.methodLink RX11 248 yX0_isPart ∈ kGT := kgt (List.mem_of_getElem? (i := 1479) (by decide +kernel)) rfl
theorem wm_X11_253 : Cond.methodLink RX11 253 yX0_piecesOf ∈ kGT := kgt (List.mem_of_getElem? (i := 1597) (by decide +kernel)) rfl
theorem wm_X11_258 : Cond.methodLink RX11 258 yX0_familiesWith ∈ kGT := kgt (List.mem_of_getElem? (i := 1481) (by decide +kernel)) rfl
theorem wm_X11_275 : Cond.methodLink RX11 275 yX2_lackingMinutes ∈ kGT := kgt (List.mem_of_getElem? (i := 983) (by decide +kernel)) rfl
theorem wm_X11_302 : Cond.methodLink RX11 302 yX9_cratesOf ∈ kGT := kgt (List.mem_of_getElem? (i := 1492) (by decide +kernel)) rfl
theorem wm_X11_308 : Cond.methodLink RX11 308 yX9_restOf ∈ kGT := kgt (List.mem_of_getElem? (i := 1496) (by decide +kernel)) rfl
theorem wm_X11_316 : Cond.methodLink RX11 316 yX11_checkOrder ∈ kGT := kgt (List.mem_of_getElem? (i := 992) (by decide +kernel)) rfl
theorem wm_X11_337 : Cond.methodLink RX11 337 yX4_piecesFor ∈ kGT := kgt (List.mem_of_getElem? (i := 1518) (by decide +kernel)) rfl
theorem wm_X11_340 : Cond.methodLink RX11 340 yX6_isOpen ∈ kGT := kgt (List.mem_of_getElem? (i := 1522) (by decide +kernel)) rfl
theorem wm_X11_345 : Cond.methodLink RX11 345 yX4_lackingPieces ∈ kGT := kgt (List.mem_of_getElem? (i := 1524) (by decide +kernel)) rfl
theorem wm_X11_350 : Cond.methodLink RX11 350 yX6_openUpTo ∈ kGT := kgt (List.mem_of_getElem? (i := 1555) (by decide +kernel)) rfl
theorem wm_X11_373 : Cond.methodLink RX11 373 yX6_countOf ∈ kGT := kgt (List.mem_of_getElem? (i := 1042) (by decide +kernel)) rfl
theorem wm_X11_398 : Cond.methodLink RX11 398 yX2_allGrams ∈ kGT := kgt (List.mem_of_getElem? (i := 1056) (by decide +kernel)) rfl
theorem wm_X11_415 : Cond.methodLink RX11 415 yX5_takeBack ∈ kGT := kgt (List.mem_of_getElem? (i := 1069) (by decide +kernel)) rfl
theorem wm_X11_418 : Cond.methodLink RX11 418 yX4_copyFrom ∈ kGT := kgt (List.mem_of_getElem? (i := 406) (by decide +kernel)) rfl
theorem wm_X11_427 : Cond.methodLink RX11 427 yX5_forget ∈ kGT := kgt (List.mem_of_getElem? (i := 1081) (by decide +kernel)) rfl
theorem wm_X11_432 : Cond.methodLink RX11 432 yX5_keep ∈ kGT := kgt (List.mem_of_getElem? (i := 577) (by decide +kernel)) rfl
theorem wm_X11_443 : Cond.methodLink RX11 443 yX6_isOrder ∈ kGT := kgt (List.mem_of_getElem? (i := 996) (by decide +kernel)) rfl
theorem wm_X5_18 : Cond.methodLink RX5 18 yX5_roomBehind ∈ kGT := kgt (List.mem_of_getElem? (i := 537) (by decide +kernel)) rfl
theorem wm_X5_22 : Cond.methodLink RX5 22 yX4_copyFrom ∈ kGT := kgt (List.mem_of_getElem? (i := 541) (by decide +kernel)) rfl
theorem hy_X0_addColour : kYV yX0_addColour cX0_addColour 3 (some .int) 2 := ⟨⟨kgt (List.mem_of_getElem? (i := 545) (by decide +kernel)) rfl, kgt (List.mem_of_getElem? (i := 23) (by decide +kernel)) rfl, by decide +kernel, by decide⟩, kgt (List.mem_of_getElem? (i := 543) (by decide +kernel)) rfl, kgt (List.mem_of_getElem? (i := 544) (by decide +kernel)) rfl⟩
theorem hy_X0_addPart : kYV yX0_addPart cX0_addPart 3 (some .int) 2 := ⟨⟨kgt (List.mem_of_getElem? (i := 591) (by decide +kernel)) rfl, kgt (List.mem_of_getElem? (i := 23) (by decide +kernel)) rfl, by decide +kernel, by decide⟩, kgt (List.mem_of_getElem? (i := 589) (by decide +kernel)) rfl, kgt (List.mem_of_getElem? (i := 590) (by decide +kernel)) rfl⟩
theorem hy_X0_addFamily : kYV yX0_addFamily cX0_addFamily 5 (some .int) 2 := ⟨⟨kgt (List.mem_of_getElem? (i := 1411) (by decide +kernel)) rfl, kgt (List.mem_of_getElem? (i := 23) (by decide +kernel)) rfl, by decide +kernel, by decide⟩, kgt (List.mem_of_getElem? (i := 1409) (by decide +kernel)) rfl, kgt (List.mem_of_getElem? (i := 1410) (by decide +kernel)) rfl⟩
theorem hy_X0_changeSetting : kYV yX0_changeSetting cX0_changeSetting 5 (some .int) 3 := ⟨⟨kgt (List.mem_of_getElem? (i := 865) (by decide +kernel)) rfl, kgt (List.mem_of_getElem? (i := 23) (by decide +kernel)) rfl, by decide +kernel, by decide⟩, kgt (List.mem_of_getElem? (i := 863) (by decide +kernel)) rfl, kgt (List.mem_of_getElem? (i := 864) (by decide +kernel)) rfl⟩
theorem hy_X0_partsOf : kYV yX0_partsOf cX0_partsOf 4 (some .int) 1 := ⟨⟨kgt (List.mem_of_getElem? (i := 1465) (by decide +kernel)) rfl, kgt (List.mem_of_getElem? (i := 23) (by decide +kernel)) rfl, by decide +kernel, by decide⟩, kgt (List.mem_of_getElem? (i := 1463) (by decide +kernel)) rfl, kgt (List.mem_of_getElem? (i := 1464) (by decide +kernel)) rfl⟩
theorem hy_X0_allPiecesOf : kYV yX0_allPiecesOf cX0_allPiecesOf 4 (some .int) 1 := ⟨⟨kgt (List.mem_of_getElem? (i := 1470) (by decide +kernel)) rfl, kgt (List.mem_of_getElem? (i := 23) (by decide +kernel)) rfl, by decide +kernel, by decide⟩, kgt (List.mem_of_getElem? (i := 1468) (by decide +kernel)) rfl, kgt (List.mem_of_getElem? (i := 1469) (by decide +kernel)) rfl⟩
theorem hy_X0_familiesWith : kYV yX0_familiesWith cX0_familiesWith 4 (some .int) 1 := ⟨⟨kgt (List.mem_of_getElem? (i := 1484) (by decide +kernel)) rfl, kgt (List.mem_of_getElem? (i := 23) (by decide +kernel)) rfl, by decide +kernel, by decide⟩, kgt (List.mem_of_getElem? (i := 1482) (by decide +kernel)) rfl, kgt (List.mem_of_getElem? (i := 1483) (by decide +kernel)) rfl⟩
theorem hy_X1_leastSum : kYV yX1_leastSum cX1_leastSum 3 (some .int) 2 := ⟨⟨kgt (List.mem_of_getElem? (i := 885) (by decide +kernel)) rfl, kgt (List.mem_of_getElem? (i := 32) (by decide +kernel)) rfl, by decide +kernel, by decide⟩, kgt (List.mem_of_getElem? (i := 883) (by decide +kernel)) rfl, kgt (List.mem_of_getElem? (i := 884) (by decide +kernel)) rfl⟩
theorem hy_X1_colourAt : kYV yX1_colourAt cX1_colourAt 8 (some .int) 3 := ⟨⟨kgt (List.mem_of_getElem? (i := 938) (by decide +kernel)) rfl, kgt (List.mem_of_getElem? (i := 32) (by decide +kernel)) rfl, by decide +kernel, by decide⟩, kgt (List.mem_of_getElem? (i := 936) (by decide +kernel)) rfl, kgt (List.mem_of_getElem? (i := 937) (by decide +kernel)) rfl⟩
theorem hy_X2_takeAll : kYV yX2_takeAll cX2_takeAll 4 (some .int) 2 := ⟨⟨kgt (List.mem_of_getElem? (i := 1577) (by decide +kernel)) rfl, kgt (List.mem_of_getElem? (i := 24) (by decide +kernel)) rfl, by decide +kernel, by decide⟩, kgt (List.mem_of_getElem? (i := 1575) (by decide +kernel)) rfl, kgt (List.mem_of_getElem? (i := 1576) (by decide +kernel)) rfl⟩
theorem hy_X2_allGrams : kYV yX2_allGrams cX2_allGrams 3 (some .int) 0 := ⟨⟨kgt (List.mem_of_getElem? (i := 1059) (by decide +kernel)) rfl, kgt (List.mem_of_getElem? (i := 24) (by decide +kernel)) rfl, by decide +kernel, by decide⟩, kgt (List.mem_of_getElem? (i := 1057) (by decide +kernel)) rfl, kgt (List.mem_of_getElem? (i := 1058) (by decide +kernel)) rfl⟩
theorem hy_X3_isReadFrom : kYV yX3_isReadFrom cX3_isReadFrom 2 (some .boolean) 1 := ⟨⟨kgt (List.mem_of_getElem? (i := 1389) (by decide +kernel)) rfl, kgt (List.mem_of_getElem? (i := 30) (by decide +kernel)) rfl, by decide +kernel, by decide⟩, kgt (List.mem_of_getElem? (i := 1387) (by decide +kernel)) rfl, kgt (List.mem_of_getElem? (i := 1388) (by decide +kernel)) rfl⟩
theorem hy_X4_copyFrom : kYV yX4_copyFrom cX4_copyFrom 2 none 1 := ⟨⟨kgt (List.mem_of_getElem? (i := 409) (by decide +kernel)) rfl, kgt (List.mem_of_getElem? (i := 22) (by decide +kernel)) rfl, by decide +kernel, by decide⟩, kgt (List.mem_of_getElem? (i := 407) (by decide +kernel)) rfl, kgt (List.mem_of_getElem? (i := 408) (by decide +kernel)) rfl⟩
theorem hy_X4_addOrder : kYV yX4_addOrder cX4_addOrder 6 (some .int) 5 := ⟨⟨kgt (List.mem_of_getElem? (i := 828) (by decide +kernel)) rfl, kgt (List.mem_of_getElem? (i := 22) (by decide +kernel)) rfl, by decide +kernel, by decide⟩, kgt (List.mem_of_getElem? (i := 826) (by decide +kernel)) rfl, kgt (List.mem_of_getElem? (i := 827) (by decide +kernel)) rfl⟩
theorem hy_X4_piecesFor : kYV yX4_piecesFor cX4_piecesFor 2 (some .int) 1 := ⟨⟨kgt (List.mem_of_getElem? (i := 1521) (by decide +kernel)) rfl, kgt (List.mem_of_getElem? (i := 22) (by decide +kernel)) rfl, by decide +kernel, by decide⟩, kgt (List.mem_of_getElem? (i := 1519) (by decide +kernel)) rfl, kgt (List.mem_of_getElem? (i := 1520) (by decide +kernel)) rfl⟩
theorem hy_X4_lackingPieces : kYV yX4_lackingPieces cX4_lackingPieces 5 (some .int) 1 := ⟨⟨kgt (List.mem_of_getElem? (i := 1527) (by decide +kernel)) rfl, kgt (List.mem_of_getElem? (i := 22) (by decide +kernel)) rfl, by decide +kernel, by decide⟩, kgt (List.mem_of_getElem? (i := 1525) (by decide +kernel)) rfl, kgt (List.mem_of_getElem? (i := 1526) (by decide +kernel)) rfl⟩
theorem hy_X5_begin : kYV yX5_begin cX5_begin 2 none 1 := ⟨⟨kgt (List.mem_of_getElem? (i := 536) (by decide +kernel)) rfl, kgt (List.mem_of_getElem? (i := 27) (by decide +kernel)) rfl, by decide +kernel, by decide⟩, kgt (List.mem_of_getElem? (i := 534) (by decide +kernel)) rfl, kgt (List.mem_of_getElem? (i := 535) (by decide +kernel)) rfl⟩
theorem hy_X5_keep : kYV yX5_keep cX5_keep 1 none 0 := ⟨⟨kgt (List.mem_of_getElem? (i := 580) (by decide +kernel)) rfl, kgt (List.mem_of_getElem? (i := 27) (by decide +kernel)) rfl, by decide +kernel, by decide⟩, kgt (List.mem_of_getElem? (i := 578) (by decide +kernel)) rfl, kgt (List.mem_of_getElem? (i := 579) (by decide +kernel)) rfl⟩
theorem hy_X5_rollBack : kYV yX5_rollBack cX5_rollBack 2 none 1 := ⟨⟨kgt (List.mem_of_getElem? (i := 788) (by decide +kernel)) rfl, kgt (List.mem_of_getElem? (i := 27) (by decide +kernel)) rfl, by decide +kernel, by decide⟩, kgt (List.mem_of_getElem? (i := 786) (by decide +kernel)) rfl, kgt (List.mem_of_getElem? (i := 787) (by decide +kernel)) rfl⟩
theorem hy_X5_takeBack : kYV yX5_takeBack cX5_takeBack 2 none 1 := ⟨⟨kgt (List.mem_of_getElem? (i := 1072) (by decide +kernel)) rfl, kgt (List.mem_of_getElem? (i := 27) (by decide +kernel)) rfl, by decide +kernel, by decide⟩, kgt (List.mem_of_getElem? (i := 1070) (by decide +kernel)) rfl, kgt (List.mem_of_getElem? (i := 1071) (by decide +kernel)) rfl⟩
theorem hy_X5_forget : kYV yX5_forget cX5_forget 1 none 0 := ⟨⟨kgt (List.mem_of_getElem? (i := 1084) (by decide +kernel)) rfl, kgt (List.mem_of_getElem? (i := 27) (by decide +kernel)) rfl, by decide +kernel, by decide⟩, kgt (List.mem_of_getElem? (i := 1082) (by decide +kernel)) rfl, kgt (List.mem_of_getElem? (i := 1083) (by decide +kernel)) rfl⟩
theorem hy_X5_roomBehind : kYV yX5_roomBehind cX5_roomBehind 1 (some .int) 0 := ⟨⟨kgt (List.mem_of_getElem? (i := 540) (by decide +kernel)) rfl, kgt (List.mem_of_getElem? (i := 27) (by decide +kernel)) rfl, by decide +kernel, by decide⟩, kgt (List.mem_of_getElem? (i := 539) (by decide +kernel)) rfl, kgt (List.mem_of_getElem? (i := 1) (by decide +kernel)) rfl⟩
theorem hy_X6_close : kYV yX6_close cX6_close 3 (some .int) 2 := ⟨⟨kgt (List.mem_of_getElem? (i := 846) (by decide +kernel)) rfl, kgt (List.mem_of_getElem? (i := 26) (by decide +kernel)) rfl, by decide +kernel, by decide⟩, kgt (List.mem_of_getElem? (i := 844) (by decide +kernel)) rfl, kgt (List.mem_of_getElem? (i := 845) (by decide +kernel)) rfl⟩
theorem hy_X6_openUpTo : kYV yX6_openUpTo cX6_openUpTo 4 (some .int) 1 := ⟨⟨kgt (List.mem_of_getElem? (i := 1558) (by decide +kernel)) rfl, kgt (List.mem_of_getElem? (i := 26) (by decide +kernel)) rfl, by decide +kernel, by decide⟩, kgt (List.mem_of_getElem? (i := 1556) (by decide +kernel)) rfl, kgt (List.mem_of_getElem? (i := 1557) (by decide +kernel)) rfl⟩
theorem hy_X7_isReadFrom : kYV yX7_isReadFrom cX7_isReadFrom 2 (some .boolean) 1 := ⟨⟨kgt (List.mem_of_getElem? (i := 603) (by decide +kernel)) rfl, kgt (List.mem_of_getElem? (i := 31) (by decide +kernel)) rfl, by decide +kernel, by decide⟩, kgt (List.mem_of_getElem? (i := 601) (by decide +kernel)) rfl, kgt (List.mem_of_getElem? (i := 602) (by decide +kernel)) rfl⟩
theorem hy_X8_putAhead : kYV yX8_putAhead cX8_putAhead 4 none 2 := ⟨⟨kgt (List.mem_of_getElem? (i := 783) (by decide +kernel)) rfl, kgt (List.mem_of_getElem? (i := 28) (by decide +kernel)) rfl, by decide +kernel, by decide⟩, kgt (List.mem_of_getElem? (i := 781) (by decide +kernel)) rfl, kgt (List.mem_of_getElem? (i := 782) (by decide +kernel)) rfl⟩
theorem hy_X9_cratesOf : kYV yX9_cratesOf cX9_cratesOf 5 (some .int) 1 := ⟨⟨kgt (List.mem_of_getElem? (i := 1495) (by decide +kernel)) rfl, kgt (List.mem_of_getElem? (i := 25) (by decide +kernel)) rfl, by decide +kernel, by decide⟩, kgt (List.mem_of_getElem? (i := 1493) (by decide +kernel)) rfl, kgt (List.mem_of_getElem? (i := 1494) (by decide +kernel)) rfl⟩
theorem hy_X9_restOf : kYV yX9_restOf cX9_restOf 4 (some .int) 1 := ⟨⟨kgt (List.mem_of_getElem? (i := 1499) (by decide +kernel)) rfl, kgt (List.mem_of_getElem? (i := 25) (by decide +kernel)) rfl, by decide +kernel, by decide⟩, kgt (List.mem_of_getElem? (i := 1497) (by decide +kernel)) rfl, kgt (List.mem_of_getElem? (i := 1498) (by decide +kernel)) rfl⟩
theorem hy_X10_add : kYV yX10_add cX10_add 2 (some .boolean) 1 := ⟨⟨kgt (List.mem_of_getElem? (i := 452) (by decide +kernel)) rfl, kgt (List.mem_of_getElem? (i := 29) (by decide +kernel)) rfl, by decide +kernel, by decide⟩, kgt (List.mem_of_getElem? (i := 450) (by decide +kernel)) rfl, kgt (List.mem_of_getElem? (i := 451) (by decide +kernel)) rfl⟩
theorem hy_X10_clear : kYV yX10_clear cX10_clear 1 none 0 := ⟨⟨kgt (List.mem_of_getElem? (i := 647) (by decide +kernel)) rfl, kgt (List.mem_of_getElem? (i := 29) (by decide +kernel)) rfl, by decide +kernel, by decide⟩, kgt (List.mem_of_getElem? (i := 645) (by decide +kernel)) rfl, kgt (List.mem_of_getElem? (i := 646) (by decide +kernel)) rfl⟩
theorem hy_X11_settled : kYV yX11_settled cX11_settled 2 (some .int) 1 := ⟨⟨kgt (List.mem_of_getElem? (i := 560) (by decide +kernel)) rfl, kgt (List.mem_of_getElem? (i := 21) (by decide +kernel)) rfl, by decide +kernel, by decide⟩, kgt (List.mem_of_getElem? (i := 559) (by decide +kernel)) rfl, kgt (List.mem_of_getElem? (i := 2) (by decide +kernel)) rfl⟩
theorem hy_X11_commandCarriedOut : kYV yX11_commandCarriedOut cX11_commandCarriedOut 4 (some .int) 1 := ⟨⟨kgt (List.mem_of_getElem? (i := 667) (by decide +kernel)) rfl, kgt (List.mem_of_getElem? (i := 21) (by decide +kernel)) rfl, by decide +kernel, by decide⟩, kgt (List.mem_of_getElem? (i := 666) (by decide +kernel)) rfl, kgt (List.mem_of_getElem? (i := 7) (by decide +kernel)) rfl⟩
theorem hy_X11_checkColours : kYV yX11_checkColours cX11_checkColours 2 none 1 := ⟨⟨kgt (List.mem_of_getElem? (i := 880) (by decide +kernel)) rfl, kgt (List.mem_of_getElem? (i := 21) (by decide +kernel)) rfl, by decide +kernel, by decide⟩, kgt (List.mem_of_getElem? (i := 879) (by decide +kernel)) rfl, kgt (List.mem_of_getElem? (i := 11) (by decide +kernel)) rfl⟩
theorem hy_X11_checkOrder : kYV yX11_checkOrder cX11_checkOrder 2 none 1 := ⟨⟨kgt (List.mem_of_getElem? (i := 995) (by decide +kernel)) rfl, kgt (List.mem_of_getElem? (i := 21) (by decide +kernel)) rfl, by decide +kernel, by decide⟩, kgt (List.mem_of_getElem? (i := 994) (by decide +kernel)) rfl, kgt (List.mem_of_getElem? (i := 16) (by decide +kernel)) rfl⟩
theorem hy_J6_bitCount_0f7a4 : kYS yJ6_bitCount_0f7a4 cJ6_bitCount_0f7a4 1 (some .int) 1 := ⟨⟨kgt (List.mem_of_getElem? (i := 914) (by decide +kernel)) rfl, kgt (List.mem_of_getElem? (i := 45) (by decide +kernel)) rfl, by decide +kernel, by decide⟩, kgt (List.mem_of_getElem? (i := 913) (by decide +kernel)) rfl⟩
def cf_X5_begin (f : kMem) : Option (Int32 × kMem) := kbind (cf_X5_roomBehind f) (fun r1 g2 => kchk (kin r1 9) (kchk (kin r1 9) (kbind (some (0, kfc g2 (Int32.toNatClampNeg r1 + 2) 0 0 25)) (fun r4 g5 => some (0, g5)))))
set_option maxRecDepth 100000 in
set_option maxHeartbeats 4000000 in
theorem km_X5_begin (l : Launch) (G : kG) (ad : Nat → Nat) (f : kMem) (r : Int32) (fo : kMem) (h : cf_X5_begin f = some (r, fo)) : kMet l (wC G ad) yX5_begin cX5_begin 2 none 4 [.ref (kad (wC G ad) 275), .ref (kad (wC G ad) 0)] f r fo := by
  refine kMet_of (own := RX5) (lv := [(0, .ref (kad (wC G ad) 275)), (1, .ref (kad (wC G ad) 0))]) (by decide) rfl (Nat.le_of_ble_eq_true rfl) rfl h ?_
  intro p e R s m args below meth c C
  unfold cf_X5_begin
  refine K_aload_n C 0 rfl rfl dX5_begin_0 ?_
  refine K_getR C kin_X5 rfl (Nat.le_of_ble_eq_true rfl) (shC_275 G ad) 0 (by decide) (b := 276) rfl wf_X5_13 rfl dX5_begin_1 ?_
  refine K_aload_n C 0 rfl rfl dX5_begin_4 ?_
  refine K_callVi C (As := []) (rest := [.ref (kad (wC G ad) 276)]) (Nat.le_of_ble_eq_true rfl) (shC_275 G ad) rfl hy_X5_roomBehind wm_X5_18 (by decide) ⟨Nat.le_refl _, Nat.le_refl _⟩ (fun rr ff hh => km_X5_roomBehind l G ad f rr ff hh) rfl rfl (Nat.le_of_ble_eq_true rfl) rfl dX5_begin_5 (fun r1 g2 => ?_)
  refine K_chk (fun hq3 => ?_)
  have hq3 := kin_lt hq3
  refine K_aald C (Nat.le_of_ble_eq_true rfl) (shC_276 G ad) dX5_begin_8 ?_
  refine K_aload_n C 1 rfl rfl dX5_begin_9 ?_
  refine K_callVv C (d1 := 3) (As := [.ref (kad (wC G ad) 0)]) (rest := []) (show 25 * (Int32.toNatClampNeg r1 + 2) < 292 by omega) (shFl0 G ad (i := (Int32.toNatClampNeg r1 + 2)) (by omega)) rfl hy_X4_copyFrom wm_X5_22 (by decide) ⟨Nat.le_refl _, Nat.le_refl _⟩ (fun rr ff hh => by cases hh; exact km_X4_copyFrom l G ad (i := (Int32.toNatClampNeg r1 + 2)) (j := 0) (by omega) (by decide) (by omega) _) rfl rfl (Nat.le_of_ble_eq_true rfl) rfl dX5_begin_10 (fun r4 g5 => ?_)
  exact K_vret C rfl dX5_begin_13
def cf_X5_rollBack (f : kMem) : Option (Int32 × kMem) := kbind (cf_X5_roomBehind f) (fun r1 g2 => kchk (kin r1 9) (kchk (kin r1 9) (kbind (some (0, kfc g2 0 (Int32.toNatClampNeg r1 + 2) 0 25)) (fun r4 g5 => some (0, g5)))))
set_option maxRecDepth 100000 in
set_option maxHeartbeats 4000000 in
theorem km_X5_rollBack (l : Launch) (G : kG) (ad : Nat → Nat) (f : kMem) (r : Int32) (fo : kMem) (h : cf_X5_rollBack f = some (r, fo)) : kMet l (wC G ad) yX5_rollBack cX5_rollBack 2 none 4 [.ref (kad (wC G ad) 275), .ref (kad (wC G ad) 0)] f r fo := by
  refine kMet_of (own := RX5) (lv := [(0, .ref (kad (wC G ad) 275)), (1, .ref (kad (wC G ad) 0))]) (by decide) rfl (Nat.le_of_ble_eq_true rfl) rfl h ?_
  intro p e R s m args below meth c C
  unfold cf_X5_rollBack
  refine K_aload_n C 1 rfl rfl dX5_rollBack_0 ?_
  refine K_aload_n C 0 rfl rfl dX5_rollBack_1 ?_
  refine K_getR C kin_X5 rfl (Nat.le_of_ble_eq_true rfl) (shC_275 G ad) 0 (by decide) (b := 276) rfl wf_X5_13 rfl dX5_rollBack_2 ?_
  refine K_aload_n C 0 rfl rfl dX5_rollBack_5 ?_
  refine K_callVi C (As := []) (rest := [.ref (kad (wC G ad) 276), .ref (kad (wC G ad) 0)]) (Nat.le_of_ble_eq_true rfl) (shC_275 G ad) rfl hy_X5_roomBehind wm_X5_18 (by decide) ⟨Nat.le_refl _, Nat.le_refl _⟩ (fun rr ff hh => km_X5_roomBehind l G ad f rr ff hh) rfl rfl (Nat.le_of_ble_eq_true rfl) rfl dX5_rollBack_6 (fun r1 g2 => ?_)
  refine K_chk (fun hq3 => ?_)
  have hq3 := kin_lt hq3
  refine K_aald C (Nat.le_of_ble_eq_true rfl) (shC_276 G ad) dX5_rollBack_9 ?_
  refine K_callVv C (d1 := 3) (As := [.ref (kad (wC G ad) (25 * (Int32.toNatClampNeg r1 + 2)))]) (rest := []) (show 25 * 0 < 292 by omega) (shFl0 G ad (i := 0) (by decide)) rfl hy_X4_copyFrom wm_X5_22 (by decide) ⟨Nat.le_refl _, Nat.le_refl _⟩ (fun rr ff hh => by cases hh; exact km_X4_copyFrom l G ad (i := 0) (j := (Int32.toNatClampNeg r1 + 2)) (by decide) (by omega) (by omega) _) rfl rfl (Nat.le_of_ble_eq_true rfl) rfl dX5_rollBack_10 (fun r4 g5 => ?_)
  exact K_vret C rfl dX5_rollBack_13
def cf_X5_takeBack (f : kMem) : Option (Int32 × kMem) := kle (f 275 2) 0 (some (0, f)) (kmem (kup f 275 2 ((f 275 2) - 1)) (fun g1 => kbind (cf_X5_roomBehind g1) (fun r2 g3 => kchk (kin r2 9) (kchk (kin r2 9) (kbind (some (0, kfc g3 0 (Int32.toNatClampNeg r2 + 2) 0 25)) (fun r5 g6 => some (0, g6)))))))
set_option maxRecDepth 100000 in
set_option maxHeartbeats 4000000 in
theorem km_X5_takeBack (l : Launch) (G : kG) (ad : Nat → Nat) (f : kMem) (r : Int32) (fo : kMem) (h : cf_X5_takeBack f = some (r, fo)) : kMet l (wC G ad) yX5_takeBack cX5_takeBack 2 none 4 [.ref (kad (wC G ad) 275), .ref (kad (wC G ad) 0)] f r fo := by
  refine kMet_of (own := RX5) (lv := [(0, .ref (kad (wC G ad) 275)), (1, .ref (kad (wC G ad) 0))]) (by decide) rfl (Nat.le_of_ble_eq_true rfl) rfl h ?_
  intro p e R s m args below meth c C
  unfold cf_X5_takeBack
  refine K_aload_n C 0 rfl rfl dX5_takeBack_0 ?_
  refine K_getI C kin_X5 rfl (Nat.le_of_ble_eq_true rfl) (shC_275 G ad) 2 (by decide) rfl wf_X5_26 rfl dX5_takeBack_1 ?_
  refine K_if_le C (tgt := 30) (by decide) dX5_takeBack_4 ?_ ?_
  · exact K_vret C rfl dX5_takeBack_30
  · refine K_aload_n C 0 rfl rfl dX5_takeBack_7 ?_
    refine K_dup C rfl dX5_takeBack_8 ?_
    refine K_getI C kin_X5 rfl (Nat.le_of_ble_eq_true rfl) (shC_275 G ad) 2 (by decide) rfl wf_X5_26 rfl dX5_takeBack_9 ?_
    refine K_iconst C (v := 1) (by decide) dX5_takeBack_12 ?_
    refine K_isub C dX5_takeBack_13 ?_
    refine K_putI C kin_X5 rfl (Nat.le_of_ble_eq_true rfl) (shC_275 G ad) 2 (by decide) rfl wf_X5_26 rfl tyX5 tyX5_ok nmX5 (by decide) (ty := .int) (by decide +kernel) rfl rfl dX5_takeBack_14 (fun g1 => ?_)
    refine K_aload_n C 1 rfl rfl dX5_takeBack_17 ?_
    refine K_aload_n C 0 rfl rfl dX5_takeBack_18 ?_
    refine K_getR C kin_X5 rfl (Nat.le_of_ble_eq_true rfl) (shC_275 G ad) 0 (by decide) (b := 276) rfl wf_X5_13 rfl dX5_takeBack_19 ?_
    refine K_aload_n C 0 rfl rfl dX5_takeBack_22 ?_
    refine K_callVi C (As := []) (rest := [.ref (kad (wC G ad) 276), .ref (kad (wC G ad) 0)]) (Nat.le_of_ble_eq_true rfl) (shC_275 G ad) rfl hy_X5_roomBehind wm_X5_18 (by decide) ⟨Nat.le_refl _, Nat.le_refl _⟩ (fun rr ff hh => km_X5_roomBehind l G ad g1 rr ff hh) rfl rfl (Nat.le_of_ble_eq_true rfl) rfl dX5_takeBack_23 (fun r2 g3 => ?_)
    refine K_chk (fun hq4 => ?_)
    have hq4 := kin_lt hq4
    refine K_aald C (Nat.le_of_ble_eq_true rfl) (shC_276 G ad) dX5_takeBack_26 ?_
    refine K_callVv C (d1 := 3) (As := [.ref (kad (wC G ad) (25 * (Int32.toNatClampNeg r2 + 2)))]) (rest := []) (show 25 * 0 < 292 by omega) (shFl0 G ad (i := 0) (by decide)) rfl hy_X4_copyFrom wm_X5_22 (by decide) ⟨Nat.le_refl _, Nat.le_refl _⟩ (fun rr ff hh => by cases hh; exact km_X4_copyFrom l G ad (i := 0) (j := (Int32.toNatClampNeg r2 + 2)) (by decide) (by omega) (by omega) _) rfl rfl (Nat.le_of_ble_eq_true rfl) rfl dX5_takeBack_27 (fun r5 g6 => ?_)
    exact K_vret C rfl dX5_takeBack_30
def cl_X9_sumOf16_11 : Nat → kMem → Int32 → Int32 → Int32 → Option (Int32 × kMem)
  | 0, _, _, _, _ => none
  | n + 1, f, x2, x4, x5 => kle x4 x5 (some (x2, f)) (kchk (kin x5 8) (klet (f 16 (Int32.toNatClampNeg x5)) (fun x6_1 => klet (x2 + x6_1) (fun x2_2 => klet (x5 + Int32.ofInt 1) (fun x5_3 => ((cl_X9_sumOf16_11 n) f x2_2 x4 x5_3))))))
def cf_X9_sumOf16 (f : kMem) : Option (Int32 × kMem) := (cl_X9_sumOf16_11 100 f 0 8 0)
set_option maxRecDepth 100000 in
set_option maxHeartbeats 4000000 in
theorem kcl_X9_sumOf16_11 {p : Program} {l : Launch} {e : Env} {R : Room} {s : State} {m : MethodId} {args : Array Value} {below : List Frame} {meth : Method} {c : Code} {G : kG} {ad : Nat → Nat} {z : Int32 × kMem} (C : KC p l e R s m args below meth c (wC G ad) RX9 cX9_sumOf 7 (some .int) 0 0 0)  : ∀ (n : Nat) (f : kMem) (x2 x4 x5 : Int32), K p l e R s m args below meth c (wC G ad) 7 (kQF below (wC G ad) (some .int) args s z) z 0 0 f 11 [(2, .int x2), (3, .ref (kad (wC G ad) 16)), (4, .int x4), (5, .int x5)] [] (cl_X9_sumOf16_11 n f x2 x4 x5) := by
  intro n
  induction n with
  | zero => intro f x2 x4 x5; exact K_none
  | succ n ih =>
    intro f x2 x4 x5
    unfold cl_X9_sumOf16_11
    refine K_iload C 3 rfl dX9_sumOf_11 ?_
    refine K_iload C 2 rfl dX9_sumOf_13 ?_
    refine K_icmp_ge C (tgt := 35) (by decide) dX9_sumOf_15 ?_ ?_
    · refine K_iload_n C 0 rfl rfl dX9_sumOf_35 ?_
      exact K_ret C rfl rfl dX9_sumOf_36
    · refine K_aload_n C 1 rfl rfl dX9_sumOf_18 ?_
      refine K_iload C 3 rfl dX9_sumOf_19 ?_
      refine K_iald C (Nat.le_of_ble_eq_true rfl) (shC_16 G ad) dX9_sumOf_21 ?_
      refine K_let rfl (fun x6_1 => ?_)
      refine K_istore C (lv1 := [(6, .int x6_1), (2, .int x2), (3, .ref (kad (wC G ad) 16)), (4, .int x4), (5, .int x5)]) (by decide) rfl dX9_sumOf_22 ?_
      refine K_iload_n C 1 rfl rfl dX9_sumOf_24 ?_
      refine K_iload C 0 rfl dX9_sumOf_25 ?_
      refine K_iadd C dX9_sumOf_27 ?_
      refine K_let rfl (fun x2_2 => ?_)
      refine K_istore_n C (lv1 := [(2, .int x2_2), (6, .int x6_1), (3, .ref (kad (wC G ad) 16)), (4, .int x4), (5, .int x5)]) rfl (by decide) rfl dX9_sumOf_28 ?_
      refine K_iinc C (k := 4) (lv1 := fun x5_3 => [(5, .int x5_3), (2, .int x2_2), (6, .int x6_1), (3, .ref (kad (wC G ad) 16)), (4, .int x4)]) rfl (by decide) (fun _ => rfl) dX9_sumOf_29 (fun x5_3 => ?_)
      refine K_goto C (tgt := 11) (by decide) dX9_sumOf_32 ?_
      refine K_sub [1, 3, 4, 0] rfl ?_
      exact ih f x2_2 x4 x5_3
set_option maxRecDepth 100000 in
set_option maxHeartbeats 4000000 in
theorem km_X9_sumOf16 (l : Launch) (G : kG) (ad : Nat → Nat) (f : kMem) (r : Int32) (fo : kMem) (h : cf_X9_sumOf16 f = some (r, fo)) : kMet l (wC G ad) yX9_sumOf cX9_sumOf 7 (some .int) 0 [.ref (kad (wC G ad) 12), .ref (kad (wC G ad) 16)] f r fo := by
  refine kMet_of (own := RX9) (lv := [(0, .ref (kad (wC G ad) 12)), (1, .ref (kad (wC G ad) 16))]) (by decide) rfl (Nat.le_of_ble_eq_true rfl) rfl h ?_
  intro p e R s m args below meth c C
  unfold cf_X9_sumOf16
  refine K_iconst C (v := 0) (by decide) dX9_sumOf_0 ?_
  refine K_istore_n C (lv1 := [(2, .int 0), (0, .ref (kad (wC G ad) 12)), (1, .ref (kad (wC G ad) 16))]) rfl (by decide) rfl dX9_sumOf_1 ?_
  refine K_aload_n C 2 rfl rfl dX9_sumOf_2 ?_
  refine K_astore_n C (lv1 := [(3, .ref (kad (wC G ad) 16)), (2, .int 0), (0, .ref (kad (wC G ad) 12)), (1, .ref (kad (wC G ad) 16))]) rfl (by decide) rfl dX9_sumOf_3 ?_
  refine K_aload_n C 0 rfl rfl dX9_sumOf_4 ?_
  refine K_alen C (Nat.le_of_ble_eq_true rfl) (shC_16 G ad) (v := 8) rfl dX9_sumOf_5 ?_
  refine K_istore C (lv1 := [(4, .int 8), (3, .ref (kad (wC G ad) 16)), (2, .int 0), (0, .ref (kad (wC G ad) 12)), (1, .ref (kad (wC G ad) 16))]) (by decide) rfl dX9_sumOf_6 ?_
  refine K_iconst C (v := 0) (by decide) dX9_sumOf_8 ?_
  refine K_istore C (lv1 := [(5, .int 0), (4, .int 8), (3, .ref (kad (wC G ad) 16)), (2, .int 0), (0, .ref (kad (wC G ad) 12)), (1, .ref (kad (wC G ad) 16))]) (by decide) rfl dX9_sumOf_9 ?_
  refine K_sub [3, 2, 1, 0] rfl ?_
  exact kcl_X9_sumOf16_11 C 100 f 0 8 0
def cl_X9_sumOf17_11 : Nat → kMem → Int32 → Int32 → Int32 → Option (Int32 × kMem)
  | 0, _, _, _, _ => none
  | n + 1, f, x2, x4, x5 => kle x4 x5 (some (x2, f)) (kchk (kin x5 8) (klet (f 17 (Int32.toNatClampNeg x5)) (fun x6_1 => klet (x2 + x6_1) (fun x2_2 => klet (x5 + Int32.ofInt 1) (fun x5_3 => ((cl_X9_sumOf17_11 n) f x2_2 x4 x5_3))))))
def cf_X9_sumOf17 (f : kMem) : Option (Int32 × kMem) := (cl_X9_sumOf17_11 100 f 0 8 0)
set_option maxRecDepth 100000 in
set_option maxHeartbeats 4000000 in
theorem kcl_X9_sumOf17_11 {p : Program} {l : Launch} {e : Env} {R : Room} {s : State} {m : MethodId} {args : Array Value} {below : List Frame} {meth : Method} {c : Code} {G : kG} {ad : Nat → Nat} {z : Int32 × kMem} (C : KC p l e R s m args below meth c (wC G ad) RX9 cX9_sumOf 7 (some .int) 0 0 0)  : ∀ (n : Nat) (f : kMem) (x2 x4 x5 : Int32), K p l e R s m args below meth c (wC G ad) 7 (kQF below (wC G ad) (some .int) args s z) z 0 0 f 11 [(2, .int x2), (3, .ref (kad (wC G ad) 17)), (4, .int x4), (5, .int x5)] [] (cl_X9_sumOf17_11 n f x2 x4 x5) := by
  intro n
  induction n with
  | zero => intro f x2 x4 x5; exact K_none
  | succ n ih =>
    intro f x2 x4 x5
    unfold cl_X9_sumOf17_11
    refine K_iload C 3 rfl dX9_sumOf_11 ?_
    refine K_iload C 2 rfl dX9_sumOf_13 ?_
    refine K_icmp_ge C (tgt := 35) (by decide) dX9_sumOf_15 ?_ ?_
    · refine K_iload_n C 0 rfl rfl dX9_sumOf_35 ?_
      exact K_ret C rfl rfl dX9_sumOf_36
    · refine K_aload_n C 1 rfl rfl dX9_sumOf_18 ?_
      refine K_iload C 3 rfl dX9_sumOf_19 ?_
      refine K_iald C (Nat.le_of_ble_eq_true rfl) (shC_17 G ad) dX9_sumOf_21 ?_
      refine K_let rfl (fun x6_1 => ?_)
      refine K_istore C (lv1 := [(6, .int x6_1), (2, .int x2), (3, .ref (kad (wC G ad) 17)), (4, .int x4), (5, .int x5)]) (by decide) rfl dX9_sumOf_22 ?_
      refine K_iload_n C 1 rfl rfl dX9_sumOf_24 ?_
      refine K_iload C 0 rfl dX9_sumOf_25 ?_
      refine K_iadd C dX9_sumOf_27 ?_
      refine K_let rfl (fun x2_2 => ?_)
      refine K_istore_n C (lv1 := [(2, .int x2_2), (6, .int x6_1), (3, .ref (kad (wC G ad) 17)), (4, .int x4), (5, .int x5)]) rfl (by decide) rfl dX9_sumOf_28 ?_
      refine K_iinc C (k := 4) (lv1 := fun x5_3 => [(5, .int x5_3), (2, .int x2_2), (6, .int x6_1), (3, .ref (kad (wC G ad) 17)), (4, .int x4)]) rfl (by decide) (fun _ => rfl) dX9_sumOf_29 (fun x5_3 => ?_)
      refine K_goto C (tgt := 11) (by decide) dX9_sumOf_32 ?_
      refine K_sub [1, 3, 4, 0] rfl ?_
      exact ih f x2_2 x4 x5_3
set_option maxRecDepth 100000 in
set_option maxHeartbeats 4000000 in
theorem km_X9_sumOf17 (l : Launch) (G : kG) (ad : Nat → Nat) (f : kMem) (r : Int32) (fo : kMem) (h : cf_X9_sumOf17 f = some (r, fo)) : kMet l (wC G ad) yX9_sumOf cX9_sumOf 7 (some .int) 0 [.ref (kad (wC G ad) 12), .ref (kad (wC G ad) 17)] f r fo := by
  refine kMet_of (own := RX9) (lv := [(0, .ref (kad (wC G ad) 12)), (1, .ref (kad (wC G ad) 17))]) (by decide) rfl (Nat.le_of_ble_eq_true rfl) rfl h ?_
  intro p e R s m args below meth c C
  unfold cf_X9_sumOf17
  refine K_iconst C (v := 0) (by decide) dX9_sumOf_0 ?_
  refine K_istore_n C (lv1 := [(2, .int 0), (0, .ref (kad (wC G ad) 12)), (1, .ref (kad (wC G ad) 17))]) rfl (by decide) rfl dX9_sumOf_1 ?_
  refine K_aload_n C 2 rfl rfl dX9_sumOf_2 ?_
  refine K_astore_n C (lv1 := [(3, .ref (kad (wC G ad) 17)), (2, .int 0), (0, .ref (kad (wC G ad) 12)), (1, .ref (kad (wC G ad) 17))]) rfl (by decide) rfl dX9_sumOf_3 ?_
  refine K_aload_n C 0 rfl rfl dX9_sumOf_4 ?_
  refine K_alen C (Nat.le_of_ble_eq_true rfl) (shC_17 G ad) (v := 8) rfl dX9_sumOf_5 ?_
  refine K_istore C (lv1 := [(4, .int 8), (3, .ref (kad (wC G ad) 17)), (2, .int 0), (0, .ref (kad (wC G ad) 12)), (1, .ref (kad (wC G ad) 17))]) (by decide) rfl dX9_sumOf_6 ?_
  refine K_iconst C (v := 0) (by decide) dX9_sumOf_8 ?_
  refine K_istore C (lv1 := [(5, .int 0), (4, .int 8), (3, .ref (kad (wC G ad) 17)), (2, .int 0), (0, .ref (kad (wC G ad) 12)), (1, .ref (kad (wC G ad) 17))]) (by decide) rfl dX9_sumOf_9 ?_
  refine K_sub [3, 2, 1, 0] rfl ?_
  exact kcl_X9_sumOf17_11 C 100 f 0 8 0
def cf_X11_save (f : kMem) : Option (Int32 × kMem) := kbind (some (0, kfc f 1 0 0 25)) (fun r1 g2 => kmem (kup g2 291 8 1) (fun g3 => some ((g3 18 0), g3)))
set_option maxRecDepth 100000 in
set_option maxHeartbeats 4000000 in
theorem km_X11_save (l : Launch) (G : kG) (ad : Nat → Nat) (f : kMem) (r : Int32) (fo : kMem) (h : cf_X11_save f = some (r, fo)) : kMet l (wC G ad) yX11_save cX11_save 1 (some .int) 4 [.ref (kad (wC G ad) 291)] f r fo := by
  refine kMet_of (own := RX11) (lv := [(0, .ref (kad (wC G ad) 291))]) (by decide) rfl (Nat.le_of_ble_eq_true rfl) rfl h ?_
  intro p e R s m args below meth c C
  unfold cf_X11_save
  refine K_aload_n C 0 rfl rfl dX11_save_0 ?_
  refine K_getR C kin_X11 rfl (Nat.le_of_ble_eq_true rfl) (shC_291 G ad) 1 (by decide) (b := 25) rfl wf_X11_16 rfl dX11_save_1 ?_
  refine K_aload_n C 0 rfl rfl dX11_save_4 ?_
  refine K_getR C kin_X11 rfl (Nat.le_of_ble_eq_true rfl) (shC_291 G ad) 0 (by decide) (b := 0) rfl wf_X11_12 rfl dX11_save_5 ?_
  refine K_callVv C (d1 := 3) (As := [.ref (kad (wC G ad) 0)]) (rest := []) (show 25 * 1 < 292 by omega) (shFl0 G ad (i := 1) (by decide)) rfl hy_X4_copyFrom wm_X11_418 (by decide) ⟨Nat.le_refl _, Nat.le_refl _⟩ (fun rr ff hh => by cases hh; exact km_X4_copyFrom l G ad (i := 1) (j := 0) (by decide) (by decide) (by decide) _) rfl rfl (Nat.le_of_ble_eq_true rfl) rfl dX11_save_8 (fun r1 g2 => ?_)
  refine K_aload_n C 0 rfl rfl dX11_save_11 ?_
  refine K_iconst C (v := 1) (by decide) dX11_save_12 ?_
  refine K_putI C kin_X11 rfl (Nat.le_of_ble_eq_true rfl) (shC_291 G ad) 8 (by decide) rfl wf_X11_421 rfl tyX11 tyX11_ok nmX11 (by decide) (ty := .boolean) (by decide +kernel) rfl rfl dX11_save_13 (fun g3 => ?_)
  refine K_aload_n C 0 rfl rfl dX11_save_16 ?_
  refine K_getR C kin_X11 rfl (Nat.le_of_ble_eq_true rfl) (shC_291 G ad) 0 (by decide) (b := 0) rfl wf_X11_12 rfl dX11_save_17 ?_
  refine K_getR C kin_X4 rfl (Nat.le_of_ble_eq_true rfl) (shC_0 G ad) 3 (by decide) (b := 18) rfl wf_X11_164 rfl dX11_save_20 ?_
  refine K_getI C kin_X6 rfl (Nat.le_of_ble_eq_true rfl) (shC_18 G ad) 0 (by decide) rfl wf_X11_391 rfl dX11_save_23 ?_
  exact K_ret C rfl rfl dX11_save_26
def cx_X11_append (f : kMem) (x1 : Int32) : Option kXr := kbind (cf_X10_add f x1) (fun r1 g2 => keq r1 0 (some (1, 0, g2)) (some (0, (g2 280 2), g2)))
set_option maxRecDepth 100000 in
set_option maxHeartbeats 4000000 in
theorem kmx_X11_append (l : Launch) (hst : l.stackTraces = false) (G : kG) (ad : Nat → Nat) (f : kMem) (x1 : Int32) (z : kXr) (h : cx_X11_append f x1 = some z) : kxMet l (wC G ad) yX11_append cX11_append 2 (some .int) 6 2 12 [.ref (kad (wC G ad) 291), .int x1] f z := by
  refine kxMet_of (own := RX11) (lv := [(0, .ref (kad (wC G ad) 291)), (1, .int x1)]) hst (by decide) rfl (Nat.le_of_ble_eq_true rfl) rfl h ?_
  intro p e R s m args below meth c CX
  have C := CX.1
  unfold cx_X11_append
  refine K_aload_n C 0 rfl rfl dX11_append_0 ?_
  refine K_getR C kin_X11 rfl (Nat.le_of_ble_eq_true rfl) (shC_291 G ad) 4 (by decide) (b := 280) rfl wf_X11_36 rfl dX11_append_1 ?_
  refine K_iload_n C 1 rfl rfl dX11_append_4 ?_
  refine K_callVi C (As := [.int x1]) (rest := []) (Nat.le_of_ble_eq_true rfl) (shC_280 G ad) rfl hy_X10_add wm_X11_61 (by decide) (by decide) (fun rr ff hh => km_X10_add l G ad f x1 rr ff hh) rfl rfl (Nat.le_of_ble_eq_true rfl) rfl dX11_append_5 (fun r1 g2 => ?_)
  refine K_if_ne C (tgt := 21) (by decide) dX11_append_8 ?_ ?_
  · refine K_aload_n C 0 rfl rfl dX11_append_21 ?_
    refine K_getR C kin_X11 rfl (Nat.le_of_ble_eq_true rfl) (shC_291 G ad) 4 (by decide) (b := 280) rfl wf_X11_36 rfl dX11_append_22 ?_
    refine K_getI C kin_X10 rfl (Nat.le_of_ble_eq_true rfl) (shC_280 G ad) 2 (by decide) rfl wf_X11_72 rfl dX11_append_25 ?_
    exact K_xret CX rfl rfl (by decide) dX11_append_28
  · exact K_throw CX (is := 67) (text := "the text buffer is full") kXok_1 (by decide +kernel) (by decide) (by decide) (Nat.le_of_ble_eq_true rfl) dX11_append_11 dX11_append_14 dX11_append_15 dX11_append_17 dX11_append_20
def cx_X11_settled (f : kMem) (x1 : Int32) : Option kXr := keq x1 (-1) (some (4, 0, f)) (kbind (cf_X5_keep f) (fun r1 g2 => some (0, x1, g2)))
set_option maxRecDepth 100000 in
set_option maxHeartbeats 4000000 in
theorem kmx_X11_settled (l : Launch) (hst : l.stackTraces = false) (G : kG) (ad : Nat → Nat) (f : kMem) (x1 : Int32) (z : kXr) (h : cx_X11_settled f x1 = some z) : kxMet l (wC G ad) yX11_settled cX11_settled 2 (some .int) 6 1 6 [.ref (kad (wC G ad) 291), .int x1] f z := by
  refine kxMet_of (own := RX11) (lv := [(0, .ref (kad (wC G ad) 291)), (1, .int x1)]) hst (by decide) rfl (Nat.le_of_ble_eq_true rfl) rfl h ?_
  intro p e R s m args below meth c CX
  have C := CX.1
  unfold cx_X11_settled
  refine K_iload_n C 1 rfl rfl dX11_settled_0 ?_
  refine K_iconst C (v := (-1)) (by decide) dX11_settled_1 ?_
  refine K_icmp_ne C (tgt := 16) (by decide) dX11_settled_2 ?_ ?_
  · refine K_aload_n C 0 rfl rfl dX11_settled_16 ?_
    refine K_getR C kin_X11 rfl (Nat.le_of_ble_eq_true rfl) (shC_291 G ad) 2 (by decide) (b := 275) rfl wf_X11_22 rfl dX11_settled_17 ?_
    refine K_callVv C (As := []) (rest := []) (Nat.le_of_ble_eq_true rfl) (shC_275 G ad) rfl hy_X5_keep wm_X11_432 (by decide) (by decide) (fun rr ff hh => km_X5_keep l G ad f rr ff hh) rfl rfl (Nat.le_of_ble_eq_true rfl) rfl dX11_settled_20 (fun r1 g2 => ?_)
    refine K_iload_n C 1 rfl rfl dX11_settled_23 ?_
    exact K_xret CX rfl rfl (by decide) dX11_settled_24
  · exact K_throwW CX (is := 430) (text := "refused, for the reason that is kept") kXok_4 (by decide +kernel) (by decide) (by decide) (Nat.le_of_ble_eq_true rfl) dX11_settled_5 dX11_settled_8 dX11_settled_9 dX11_settled_12 dX11_settled_15
def cx_X11_colour (f : kMem) (x1 : Int32) : Option kXr := kbind (cf_X5_begin f) (fun r1 g2 => kbind (cf_X0_addColour g2 x1) (fun r3 g4 => kxbind (cx_X11_settled g4 r3) (fun r5 g6 => some (0, r5, g6))))
set_option maxRecDepth 100000 in
set_option maxHeartbeats 4000000 in
theorem kmx_X11_colour (l : Launch) (hst : l.stackTraces = false) (G : kG) (ad : Nat → Nat) (f : kMem) (x1 : Int32) (z : kXr) (h : cx_X11_colour f x1 = some z) : kxMet l (wC G ad) yX11_colour cX11_colour 2 (some .int) 7 2 12 [.ref (kad (wC G ad) 291), .int x1] f z := by
  refine kxMet_of (own := RX11) (lv := [(0, .ref (kad (wC G ad) 291)), (1, .int x1)]) hst (by decide) rfl (Nat.le_of_ble_eq_true rfl) rfl h ?_
  intro p e R s m args below meth c CX
  have C := CX.1
  unfold cx_X11_colour
  refine K_aload_n C 0 rfl rfl dX11_colour_0 ?_
  refine K_getR C kin_X11 rfl (Nat.le_of_ble_eq_true rfl) (shC_291 G ad) 2 (by decide) (b := 275) rfl wf_X11_22 rfl dX11_colour_1 ?_
  refine K_aload_n C 0 rfl rfl dX11_colour_4 ?_
  refine K_getR C kin_X11 rfl (Nat.le_of_ble_eq_true rfl) (shC_291 G ad) 0 (by decide) (b := 0) rfl wf_X11_12 rfl dX11_colour_5 ?_
  refine K_callVv C (As := [.ref (kad (wC G ad) 0)]) (rest := []) (Nat.le_of_ble_eq_true rfl) (shC_275 G ad) rfl hy_X5_begin wm_X11_76 (by decide) (by decide) (fun rr ff hh => km_X5_begin l G ad f rr ff hh) rfl rfl (Nat.le_of_ble_eq_true rfl) rfl dX11_colour_8 (fun r1 g2 => ?_)
  refine K_aload_n C 0 rfl rfl dX11_colour_11 ?_
  refine K_aload_n C 0 rfl rfl dX11_colour_12 ?_
  refine K_getR C kin_X11 rfl (Nat.le_of_ble_eq_true rfl) (shC_291 G ad) 0 (by decide) (b := 0) rfl wf_X11_12 rfl dX11_colour_13 ?_
  refine K_getR C kin_X4 rfl (Nat.le_of_ble_eq_true rfl) (shC_0 G ad) 0 (by decide) (b := 1) rfl wf_X11_80 rfl dX11_colour_16 ?_
  refine K_iload_n C 1 rfl rfl dX11_colour_19 ?_
  refine K_aload_n C 0 rfl rfl dX11_colour_20 ?_
  refine K_getR C kin_X11 rfl (Nat.le_of_ble_eq_true rfl) (shC_291 G ad) 3 (by decide) (b := 277) rfl wf_X11_29 rfl dX11_colour_21 ?_
  refine K_callVi C (As := [.int x1, .ref (kad (wC G ad) 277)]) (rest := [.ref (kad (wC G ad) 291)]) (Nat.le_of_ble_eq_true rfl) (shC_1 G ad) rfl hy_X0_addColour wm_X11_84 (by decide) (by decide) (fun rr ff hh => km_X0_addColour l G ad g2 x1 rr ff hh) rfl rfl (Nat.le_of_ble_eq_true rfl) rfl dX11_colour_24 (fun r3 g4 => ?_)
  refine K_callXi CX (As := [.int r3]) (rest := []) (Nat.le_of_ble_eq_true rfl) (shC_291 G ad) rfl hy_X11_settled wm_X11_90 (by decide) (by decide) (fun zz hh => kmx_X11_settled l CX.2.2.1 G ad g4 r3 zz hh) rfl rfl (Nat.le_of_ble_eq_true rfl) rfl dX11_colour_27 (fun r5 g6 => ?_)
  exact K_xret CX rfl rfl (by decide) dX11_colour_30
def cx_X11_part (f : kMem) (x1 : Int32) : Option kXr := kbind (cf_X5_begin f) (fun r1 g2 => kbind (cf_X0_addPart g2 x1) (fun r3 g4 => kxbind (cx_X11_settled g4 r3) (fun r5 g6 => some (0, r5, g6))))
set_option maxRecDepth 100000 in
set_option maxHeartbeats 4000000 in
theorem kmx_X11_part (l : Launch) (hst : l.stackTraces = false) (G : kG) (ad : Nat → Nat) (f : kMem) (x1 : Int32) (z : kXr) (h : cx_X11_part f x1 = some z) : kxMet l (wC G ad) yX11_part cX11_part 2 (some .int) 7 2 12 [.ref (kad (wC G ad) 291), .int x1] f z := by
  refine kxMet_of (own := RX11) (lv := [(0, .ref (kad (wC G ad) 291)), (1, .int x1)]) hst (by decide) rfl (Nat.le_of_ble_eq_true rfl) rfl h ?_
  intro p e R s m args below meth c CX
  have C := CX.1
  unfold cx_X11_part
  refine K_aload_n C 0 rfl rfl dX11_part_0 ?_
  refine K_getR C kin_X11 rfl (Nat.le_of_ble_eq_true rfl) (shC_291 G ad) 2 (by decide) (b := 275) rfl wf_X11_22 rfl dX11_part_1 ?_
  refine K_aload_n C 0 rfl rfl dX11_part_4 ?_
  refine K_getR C kin_X11 rfl (Nat.le_of_ble_eq_true rfl) (shC_291 G ad) 0 (by decide) (b := 0) rfl wf_X11_12 rfl dX11_part_5 ?_
  refine K_callVv C (As := [.ref (kad (wC G ad) 0)]) (rest := []) (Nat.le_of_ble_eq_true rfl) (shC_275 G ad) rfl hy_X5_begin wm_X11_76 (by decide) (by decide) (fun rr ff hh => km_X5_begin l G ad f rr ff hh) rfl rfl (Nat.le_of_ble_eq_true rfl) rfl dX11_part_8 (fun r1 g2 => ?_)
  refine K_aload_n C 0 rfl rfl dX11_part_11 ?_
  refine K_aload_n C 0 rfl rfl dX11_part_12 ?_
  refine K_getR C kin_X11 rfl (Nat.le_of_ble_eq_true rfl) (shC_291 G ad) 0 (by decide) (b := 0) rfl wf_X11_12 rfl dX11_part_13 ?_
  refine K_getR C kin_X4 rfl (Nat.le_of_ble_eq_true rfl) (shC_0 G ad) 0 (by decide) (b := 1) rfl wf_X11_80 rfl dX11_part_16 ?_
  refine K_iload_n C 1 rfl rfl dX11_part_19 ?_
  refine K_aload_n C 0 rfl rfl dX11_part_20 ?_
  refine K_getR C kin_X11 rfl (Nat.le_of_ble_eq_true rfl) (shC_291 G ad) 3 (by decide) (b := 277) rfl wf_X11_29 rfl dX11_part_21 ?_
  refine K_callVi C (As := [.int x1, .ref (kad (wC G ad) 277)]) (rest := [.ref (kad (wC G ad) 291)]) (Nat.le_of_ble_eq_true rfl) (shC_1 G ad) rfl hy_X0_addPart wm_X11_94 (by decide) (by decide) (fun rr ff hh => km_X0_addPart l G ad g2 x1 rr ff hh) rfl rfl (Nat.le_of_ble_eq_true rfl) rfl dX11_part_24 (fun r3 g4 => ?_)
  refine K_callXi CX (As := [.int r3]) (rest := []) (Nat.le_of_ble_eq_true rfl) (shC_291 G ad) rfl hy_X11_settled wm_X11_90 (by decide) (by decide) (fun zz hh => kmx_X11_settled l CX.2.2.1 G ad g4 r3 zz hh) rfl rfl (Nat.le_of_ble_eq_true rfl) rfl dX11_part_27 (fun r5 g6 => ?_)
  exact K_xret CX rfl rfl (by decide) dX11_part_30
def cx_X11_family (f : kMem) : Option kXr := kbind (cf_X3_isReadFrom f) (fun r1 g2 => kbind (cf_X10_clear g2) (fun r3 g4 => keq r1 0 (some (2, 0, g4)) (kbind (cf_X5_begin g4) (fun r5 g6 => kbind (cf_X0_addFamily g6) (fun r7 g8 => kxbind (cx_X11_settled g8 r7) (fun r9 g10 => some (0, r9, g10)))))))
set_option maxRecDepth 100000 in
set_option maxHeartbeats 4000000 in
theorem kmx_X11_family (l : Launch) (hst : l.stackTraces = false) (G : kG) (ad : Nat → Nat) (f : kMem) (z : kXr) (h : cx_X11_family f = some z) : kxMet l (wC G ad) yX11_family cX11_family 2 (some .int) 7 2 12 [.ref (kad (wC G ad) 291)] f z := by
  refine kxMet_of (own := RX11) (lv := [(0, .ref (kad (wC G ad) 291))]) hst (by decide) rfl (Nat.le_of_ble_eq_true rfl) rfl h ?_
  intro p e R s m args below meth c CX
  have C := CX.1
  unfold cx_X11_family
  refine K_aload_n C 0 rfl rfl dX11_family_0 ?_
  refine K_getR C kin_X11 rfl (Nat.le_of_ble_eq_true rfl) (shC_291 G ad) 5 (by decide) (b := 282) rfl wf_X11_43 rfl dX11_family_1 ?_
  refine K_aload_n C 0 rfl rfl dX11_family_4 ?_
  refine K_getR C kin_X11 rfl (Nat.le_of_ble_eq_true rfl) (shC_291 G ad) 4 (by decide) (b := 280) rfl wf_X11_36 rfl dX11_family_5 ?_
  refine K_callVi C (As := [.ref (kad (wC G ad) 280)]) (rest := []) (Nat.le_of_ble_eq_true rfl) (shC_282 G ad) rfl hy_X3_isReadFrom wm_X11_97 (by decide) (by decide) (fun rr ff hh => km_X3_isReadFrom l G ad f rr ff hh) rfl rfl (Nat.le_of_ble_eq_true rfl) rfl dX11_family_8 (fun r1 g2 => ?_)
  refine K_istore_n C (lv1 := [(1, .int r1), (0, .ref (kad (wC G ad) 291))]) rfl (by decide) rfl dX11_family_11 ?_
  refine K_aload_n C 1 rfl rfl dX11_family_12 ?_
  refine K_getR C kin_X11 rfl (Nat.le_of_ble_eq_true rfl) (shC_291 G ad) 4 (by decide) (b := 280) rfl wf_X11_36 rfl dX11_family_13 ?_
  refine K_callVv C (As := []) (rest := []) (Nat.le_of_ble_eq_true rfl) (shC_280 G ad) rfl hy_X10_clear wm_X11_101 (by decide) (by decide) (fun rr ff hh => km_X10_clear l G ad g2 rr ff hh) rfl rfl (Nat.le_of_ble_eq_true rfl) rfl dX11_family_16 (fun r3 g4 => ?_)
  refine K_iload_n C 0 rfl rfl dX11_family_19 ?_
  refine K_if_ne C (tgt := 33) (by decide) dX11_family_20 ?_ ?_
  · refine K_aload_n C 1 rfl rfl dX11_family_33 ?_
    refine K_getR C kin_X11 rfl (Nat.le_of_ble_eq_true rfl) (shC_291 G ad) 2 (by decide) (b := 275) rfl wf_X11_22 rfl dX11_family_34 ?_
    refine K_aload_n C 1 rfl rfl dX11_family_37 ?_
    refine K_getR C kin_X11 rfl (Nat.le_of_ble_eq_true rfl) (shC_291 G ad) 0 (by decide) (b := 0) rfl wf_X11_12 rfl dX11_family_38 ?_
    refine K_callVv C (As := [.ref (kad (wC G ad) 0)]) (rest := []) (Nat.le_of_ble_eq_true rfl) (shC_275 G ad) rfl hy_X5_begin wm_X11_76 (by decide) (by decide) (fun rr ff hh => km_X5_begin l G ad g4 rr ff hh) rfl rfl (Nat.le_of_ble_eq_true rfl) rfl dX11_family_41 (fun r5 g6 => ?_)
    refine K_aload_n C 1 rfl rfl dX11_family_44 ?_
    refine K_aload_n C 1 rfl rfl dX11_family_45 ?_
    refine K_getR C kin_X11 rfl (Nat.le_of_ble_eq_true rfl) (shC_291 G ad) 0 (by decide) (b := 0) rfl wf_X11_12 rfl dX11_family_46 ?_
    refine K_getR C kin_X4 rfl (Nat.le_of_ble_eq_true rfl) (shC_0 G ad) 0 (by decide) (b := 1) rfl wf_X11_80 rfl dX11_family_49 ?_
    refine K_aload_n C 1 rfl rfl dX11_family_52 ?_
    refine K_getR C kin_X11 rfl (Nat.le_of_ble_eq_true rfl) (shC_291 G ad) 5 (by decide) (b := 282) rfl wf_X11_43 rfl dX11_family_53 ?_
    refine K_aload_n C 1 rfl rfl dX11_family_56 ?_
    refine K_getR C kin_X11 rfl (Nat.le_of_ble_eq_true rfl) (shC_291 G ad) 3 (by decide) (b := 277) rfl wf_X11_29 rfl dX11_family_57 ?_
    refine K_callVi C (As := [.ref (kad (wC G ad) 282), .ref (kad (wC G ad) 277)]) (rest := [.ref (kad (wC G ad) 291)]) (Nat.le_of_ble_eq_true rfl) (shC_1 G ad) rfl hy_X0_addFamily wm_X11_109 (by decide) (by decide) (fun rr ff hh => km_X0_addFamily l G ad g6 rr ff hh) rfl rfl (Nat.le_of_ble_eq_true rfl) rfl dX11_family_60 (fun r7 g8 => ?_)
    refine K_callXi CX (As := [.int r7]) (rest := []) (Nat.le_of_ble_eq_true rfl) (shC_291 G ad) rfl hy_X11_settled wm_X11_90 (by decide) (by decide) (fun zz hh => kmx_X11_settled l CX.2.2.1 G ad g8 r7 zz hh) rfl rfl (Nat.le_of_ble_eq_true rfl) rfl dX11_family_63 (fun r9 g10 => ?_)
    exact K_xret CX rfl rfl (by decide) dX11_family_66
  · exact K_throw CX (is := 106) (text := "the text is no family") kXok_2 (by decide +kernel) (by decide) (by decide) (Nat.le_of_ble_eq_true rfl) dX11_family_23 dX11_family_26 dX11_family_27 dX11_family_29 dX11_family_32
def cl_X11_program_46 (Y66 : kMem → Int32 → Option kXr) (Y103 : kMem → Option kXr) : Nat → kMem → Int32 → Option kXr
  | 0, _, _ => none
  | n + 1, f, x2 => kle (f 285 2) x2 ((Y103 f)) (kbind (cf_X11_commandCarriedOut f x2) (fun r7 g8 => keq r7 (-1) ((Y66 g8 x2)) (klet (x2 + Int32.ofInt 1) (fun x2_9 => ((cl_X11_program_46 Y66 Y103 n) g8 x2_9)))))
def cx_X11_program (f : kMem) : Option kXr := kbind (cf_X7_isReadFrom f) (fun r1 g2 => kbind (cf_X10_clear g2) (fun r3 g4 => keq r1 0 (some (2, 0, g4)) (kbind (cf_X5_begin g4) (fun r5 g6 => (cl_X11_program_46 (fun g11 x2_10 => kbind (cf_X8_putAhead g11 13 x2_10) (fun r12 g13 => kbind (cf_X5_rollBack g13) (fun r14 g15 => some (4, 0, g15)))) (fun g16 => kxbind (cx_X11_settled g16 (g16 285 2)) (fun r17 g18 => some (0, r17, g18))) 100 g6 0)))))
set_option maxRecDepth 100000 in
set_option maxHeartbeats 4000000 in
theorem kcl_X11_program_46 {p : Program} {l : Launch} {e : Env} {R : Room} {s : State} {m : MethodId} {args : Array Value} {below : List Frame} {meth : Method} {c : Code} {G : kG} {ad : Nat → Nat} {z : kXr} (CX : KCX p l e R s m args below meth c (wC G ad) RX11 cX11_program 3 (some .int) 7 2 12) (Y66 : kMem → Int32 → Option kXr) (Y103 : kMem → Option kXr) (hY66 : ∀ (f : kMem) (x2 : Int32), K p l e R s m args below meth c (wC G ad) 3 (kxQF below (wC G ad) (some .int) args s 2 12 z) z 0 0 f 66 [(0, .ref (kad (wC G ad) 291)), (2, .int x2)] [] (Y66 f x2)) (hY103 : ∀ (f : kMem), K p l e R s m args below meth c (wC G ad) 3 (kxQF below (wC G ad) (some .int) args s 2 12 z) z 0 0 f 103 [(0, .ref (kad (wC G ad) 291))] [] (Y103 f)) : ∀ (n : Nat) (f : kMem) (x2 : Int32), K p l e R s m args below meth c (wC G ad) 3 (kxQF below (wC G ad) (some .int) args s 2 12 z) z 0 0 f 46 [(0, .ref (kad (wC G ad) 291)), (2, .int x2)] [] (cl_X11_program_46 Y66 Y103 n f x2) := by
  have C := CX.1
  intro n
  induction n with
  | zero => intro f x2; exact K_none
  | succ n ih =>
    intro f x2
    unfold cl_X11_program_46
    refine K_iload_n C 1 rfl rfl dX11_program_46 ?_
    refine K_aload_n C 0 rfl rfl dX11_program_47 ?_
    refine K_getR C kin_X11 rfl (Nat.le_of_ble_eq_true rfl) (shC_291 G ad) 6 (by decide) (b := 285) rfl wf_X11_50 rfl dX11_program_48 ?_
    refine K_getI C kin_X7 rfl (Nat.le_of_ble_eq_true rfl) (shC_285 G ad) 2 (by decide) rfl wf_X11_116 rfl dX11_program_51 ?_
    refine K_icmp_ge C (tgt := 103) (by decide) dX11_program_54 ?_ ?_
    · refine K_sub [0] rfl ?_
      exact hY103 f
    · refine K_aload_n C 0 rfl rfl dX11_program_57 ?_
      refine K_iload_n C 1 rfl rfl dX11_program_58 ?_
      refine K_callVi C (As := [.int x2]) (rest := []) (Nat.le_of_ble_eq_true rfl) (shC_291 G ad) rfl hy_X11_commandCarriedOut wm_X11_119 (by decide) (by decide) (fun rr ff hh => km_X11_commandCarriedOut l G ad f x2 rr ff hh) rfl rfl (Nat.le_of_ble_eq_true rfl) rfl dX11_program_59 (fun r7 g8 => ?_)
      refine K_iconst C (v := (-1)) (by decide) dX11_program_62 ?_
      refine K_icmp_ne C (tgt := 97) (by decide) dX11_program_63 ?_ ?_
      · refine K_iinc C (k := 1) (lv1 := fun x2_9 => [(2, .int x2_9), (0, .ref (kad (wC G ad) 291))]) rfl (by decide) (fun _ => rfl) dX11_program_97 (fun x2_9 => ?_)
        refine K_goto C (tgt := 46) (by decide) dX11_program_100 ?_
        refine K_sub [1, 0] rfl ?_
        exact ih g8 x2_9
      · exact hY66 g8 x2
set_option maxRecDepth 100000 in
set_option maxHeartbeats 4000000 in
theorem kmx_X11_program (l : Launch) (hst : l.stackTraces = false) (G : kG) (ad : Nat → Nat) (f : kMem) (z : kXr) (h : cx_X11_program f = some z) : kxMet l (wC G ad) yX11_program cX11_program 3 (some .int) 7 2 12 [.ref (kad (wC G ad) 291)] f z := by
  refine kxMet_of (own := RX11) (lv := [(0, .ref (kad (wC G ad) 291))]) hst (by decide) rfl (Nat.le_of_ble_eq_true rfl) rfl h ?_
  intro p e R s m args below meth c CX
  have C := CX.1
  unfold cx_X11_program
  refine K_aload_n C 0 rfl rfl dX11_program_0 ?_
  refine K_getR C kin_X11 rfl (Nat.le_of_ble_eq_true rfl) (shC_291 G ad) 6 (by decide) (b := 285) rfl wf_X11_50 rfl dX11_program_1 ?_
  refine K_aload_n C 0 rfl rfl dX11_program_4 ?_
  refine K_getR C kin_X11 rfl (Nat.le_of_ble_eq_true rfl) (shC_291 G ad) 4 (by decide) (b := 280) rfl wf_X11_36 rfl dX11_program_5 ?_
  refine K_callVi C (As := [.ref (kad (wC G ad) 280)]) (rest := []) (Nat.le_of_ble_eq_true rfl) (shC_285 G ad) rfl hy_X7_isReadFrom wm_X11_113 (by decide) (by decide) (fun rr ff hh => km_X7_isReadFrom l G ad f rr ff hh) rfl rfl (Nat.le_of_ble_eq_true rfl) rfl dX11_program_8 (fun r1 g2 => ?_)
  refine K_istore_n C (lv1 := [(1, .int r1), (0, .ref (kad (wC G ad) 291))]) rfl (by decide) rfl dX11_program_11 ?_
  refine K_aload_n C 1 rfl rfl dX11_program_12 ?_
  refine K_getR C kin_X11 rfl (Nat.le_of_ble_eq_true rfl) (shC_291 G ad) 4 (by decide) (b := 280) rfl wf_X11_36 rfl dX11_program_13 ?_
  refine K_callVv C (As := []) (rest := []) (Nat.le_of_ble_eq_true rfl) (shC_280 G ad) rfl hy_X10_clear wm_X11_101 (by decide) (by decide) (fun rr ff hh => km_X10_clear l G ad g2 rr ff hh) rfl rfl (Nat.le_of_ble_eq_true rfl) rfl dX11_program_16 (fun r3 g4 => ?_)
  refine K_iload_n C 0 rfl rfl dX11_program_19 ?_
  refine K_if_ne C (tgt := 33) (by decide) dX11_program_20 ?_ ?_
  · refine K_aload_n C 1 rfl rfl dX11_program_33 ?_
    refine K_getR C kin_X11 rfl (Nat.le_of_ble_eq_true rfl) (shC_291 G ad) 2 (by decide) (b := 275) rfl wf_X11_22 rfl dX11_program_34 ?_
    refine K_aload_n C 1 rfl rfl dX11_program_37 ?_
    refine K_getR C kin_X11 rfl (Nat.le_of_ble_eq_true rfl) (shC_291 G ad) 0 (by decide) (b := 0) rfl wf_X11_12 rfl dX11_program_38 ?_
    refine K_callVv C (As := [.ref (kad (wC G ad) 0)]) (rest := []) (Nat.le_of_ble_eq_true rfl) (shC_275 G ad) rfl hy_X5_begin wm_X11_76 (by decide) (by decide) (fun rr ff hh => km_X5_begin l G ad g4 rr ff hh) rfl rfl (Nat.le_of_ble_eq_true rfl) rfl dX11_program_41 (fun r5 g6 => ?_)
    refine K_iconst C (v := 0) (by decide) dX11_program_44 ?_
    refine K_istore_n C (lv1 := [(2, .int 0), (1, .int r1), (0, .ref (kad (wC G ad) 291))]) rfl (by decide) rfl dX11_program_45 ?_
    refine K_sub [2, 0] rfl ?_
    refine kcl_X11_program_46 CX _ _ (fun g11 x2_10 => ?_) (fun g16 => ?_) 100 g6 0
    · refine K_aload_n C 0 rfl rfl dX11_program_66 ?_
      refine K_getR C kin_X11 rfl (Nat.le_of_ble_eq_true rfl) (shC_291 G ad) 3 (by decide) (b := 277) rfl wf_X11_29 rfl dX11_program_67 ?_
      refine K_bipush C (v := 13) (by decide) dX11_program_70 ?_
      refine K_iload_n C 1 rfl rfl dX11_program_72 ?_
      refine K_callVv C (As := [.int 13, .int x2_10]) (rest := []) (Nat.le_of_ble_eq_true rfl) (shC_277 G ad) rfl hy_X8_putAhead wm_X11_122 (by decide) (by decide) (fun rr ff hh => km_X8_putAhead l G ad g11 13 x2_10 rr ff hh) rfl rfl (Nat.le_of_ble_eq_true rfl) rfl dX11_program_73 (fun r12 g13 => ?_)
      refine K_aload_n C 0 rfl rfl dX11_program_76 ?_
      refine K_getR C kin_X11 rfl (Nat.le_of_ble_eq_true rfl) (shC_291 G ad) 2 (by decide) (b := 275) rfl wf_X11_22 rfl dX11_program_77 ?_
      refine K_aload_n C 0 rfl rfl dX11_program_80 ?_
      refine K_getR C kin_X11 rfl (Nat.le_of_ble_eq_true rfl) (shC_291 G ad) 0 (by decide) (b := 0) rfl wf_X11_12 rfl dX11_program_81 ?_
      refine K_callVv C (As := [.ref (kad (wC G ad) 0)]) (rest := []) (Nat.le_of_ble_eq_true rfl) (shC_275 G ad) rfl hy_X5_rollBack wm_X11_126 (by decide) (by decide) (fun rr ff hh => km_X5_rollBack l G ad g13 rr ff hh) rfl rfl (Nat.le_of_ble_eq_true rfl) rfl dX11_program_84 (fun r14 g15 => ?_)
      exact K_throw CX (is := 131) (text := "a command is refused, for the reason that is kept") kXok_4 (by decide +kernel) (by decide) (by decide) (Nat.le_of_ble_eq_true rfl) dX11_program_87 dX11_program_90 dX11_program_91 dX11_program_93 dX11_program_96
    · refine K_aload_n C 0 rfl rfl dX11_program_103 ?_
      refine K_aload_n C 0 rfl rfl dX11_program_104 ?_
      refine K_getR C kin_X11 rfl (Nat.le_of_ble_eq_true rfl) (shC_291 G ad) 6 (by decide) (b := 285) rfl wf_X11_50 rfl dX11_program_105 ?_
      refine K_getI C kin_X7 rfl (Nat.le_of_ble_eq_true rfl) (shC_285 G ad) 2 (by decide) rfl wf_X11_116 rfl dX11_program_108 ?_
      refine K_callXi CX (As := [.int (g16 285 2)]) (rest := []) (Nat.le_of_ble_eq_true rfl) (shC_291 G ad) rfl hy_X11_settled wm_X11_90 (by decide) (by decide) (fun zz hh => kmx_X11_settled l CX.2.2.1 G ad g16 (g16 285 2) zz hh) rfl rfl (Nat.le_of_ble_eq_true rfl) rfl dX11_program_111 (fun r17 g18 => ?_)
      exact K_xret CX rfl rfl (by decide) dX11_program_114
  · exact K_throw CX (is := 114) (text := "the text is no program") kXok_2 (by decide +kernel) (by decide) (by decide) (Nat.le_of_ble_eq_true rfl) dX11_program_23 dX11_program_26 dX11_program_27 dX11_program_29 dX11_program_32
def cx_X11_mount (f : kMem) (x1 : Int32) : Option kXr := kbind (cf_X5_begin f) (fun r1 g2 => kbind (cf_X4_mountFamily g2 x1) (fun r3 g4 => kxbind (cx_X11_settled g4 r3) (fun r5 g6 => some (0, r5, g6))))
set_option maxRecDepth 100000 in
set_option maxHeartbeats 4000000 in
theorem kmx_X11_mount (l : Launch) (hst : l.stackTraces = false) (G : kG) (ad : Nat → Nat) (f : kMem) (x1 : Int32) (z : kXr) (h : cx_X11_mount f x1 = some z) : kxMet l (wC G ad) yX11_mount cX11_mount 2 (some .int) 7 2 12 [.ref (kad (wC G ad) 291), .int x1] f z := by
  refine kxMet_of (own := RX11) (lv := [(0, .ref (kad (wC G ad) 291)), (1, .int x1)]) hst (by decide) rfl (Nat.le_of_ble_eq_true rfl) rfl h ?_
  intro p e R s m args below meth c CX
  have C := CX.1
  unfold cx_X11_mount
  refine K_aload_n C 0 rfl rfl dX11_mount_0 ?_
  refine K_getR C kin_X11 rfl (Nat.le_of_ble_eq_true rfl) (shC_291 G ad) 2 (by decide) (b := 275) rfl wf_X11_22 rfl dX11_mount_1 ?_
  refine K_aload_n C 0 rfl rfl dX11_mount_4 ?_
  refine K_getR C kin_X11 rfl (Nat.le_of_ble_eq_true rfl) (shC_291 G ad) 0 (by decide) (b := 0) rfl wf_X11_12 rfl dX11_mount_5 ?_
  refine K_callVv C (As := [.ref (kad (wC G ad) 0)]) (rest := []) (Nat.le_of_ble_eq_true rfl) (shC_275 G ad) rfl hy_X5_begin wm_X11_76 (by decide) (by decide) (fun rr ff hh => km_X5_begin l G ad f rr ff hh) rfl rfl (Nat.le_of_ble_eq_true rfl) rfl dX11_mount_8 (fun r1 g2 => ?_)
  refine K_aload_n C 0 rfl rfl dX11_mount_11 ?_
  refine K_aload_n C 0 rfl rfl dX11_mount_12 ?_
  refine K_getR C kin_X11 rfl (Nat.le_of_ble_eq_true rfl) (shC_291 G ad) 0 (by decide) (b := 0) rfl wf_X11_12 rfl dX11_mount_13 ?_
  refine K_iload_n C 1 rfl rfl dX11_mount_16 ?_
  refine K_aload_n C 0 rfl rfl dX11_mount_17 ?_
  refine K_getR C kin_X11 rfl (Nat.le_of_ble_eq_true rfl) (shC_291 G ad) 3 (by decide) (b := 277) rfl wf_X11_29 rfl dX11_mount_18 ?_
  refine K_callVi C (As := [.int x1, .ref (kad (wC G ad) 277)]) (rest := [.ref (kad (wC G ad) 291)]) (Nat.le_of_ble_eq_true rfl) (shC_0 G ad) rfl hy_X4_mountFamily wm_X11_137 (by decide) (by decide) (fun rr ff hh => km_X4_mountFamily l G ad g2 x1 rr ff hh) rfl rfl (Nat.le_of_ble_eq_true rfl) rfl dX11_mount_21 (fun r3 g4 => ?_)
  refine K_callXi CX (As := [.int r3]) (rest := []) (Nat.le_of_ble_eq_true rfl) (shC_291 G ad) rfl hy_X11_settled wm_X11_90 (by decide) (by decide) (fun zz hh => kmx_X11_settled l CX.2.2.1 G ad g4 r3 zz hh) rfl rfl (Nat.le_of_ble_eq_true rfl) rfl dX11_mount_24 (fun r5 g6 => ?_)
  exact K_xret CX rfl rfl (by decide) dX11_mount_27
def cx_X11_load (f : kMem) (x1 x2 x3 : Int32) : Option kXr := kbind (cf_X5_begin f) (fun r1 g2 => kbind (cf_X4_loadDryer g2 x1 x2 x3) (fun r3 g4 => kxbind (cx_X11_settled g4 r3) (fun r5 g6 => some (0, r5, g6))))
set_option maxRecDepth 100000 in
set_option maxHeartbeats 4000000 in
theorem kmx_X11_load (l : Launch) (hst : l.stackTraces = false) (G : kG) (ad : Nat → Nat) (f : kMem) (x1 x2 x3 : Int32) (z : kXr) (h : cx_X11_load f x1 x2 x3 = some z) : kxMet l (wC G ad) yX11_load cX11_load 4 (some .int) 7 2 12 [.ref (kad (wC G ad) 291), .int x1, .int x2, .int x3] f z := by
  refine kxMet_of (own := RX11) (lv := [(0, .ref (kad (wC G ad) 291)), (1, .int x1), (2, .int x2), (3, .int x3)]) hst (by decide) rfl (Nat.le_of_ble_eq_true rfl) rfl h ?_
  intro p e R s m args below meth c CX
  have C := CX.1
  unfold cx_X11_load
  refine K_aload_n C 0 rfl rfl dX11_load_0 ?_
  refine K_getR C kin_X11 rfl (Nat.le_of_ble_eq_true rfl) (shC_291 G ad) 2 (by decide) (b := 275) rfl wf_X11_22 rfl dX11_load_1 ?_
  refine K_aload_n C 0 rfl rfl dX11_load_4 ?_
  refine K_getR C kin_X11 rfl (Nat.le_of_ble_eq_true rfl) (shC_291 G ad) 0 (by decide) (b := 0) rfl wf_X11_12 rfl dX11_load_5 ?_
  refine K_callVv C (As := [.ref (kad (wC G ad) 0)]) (rest := []) (Nat.le_of_ble_eq_true rfl) (shC_275 G ad) rfl hy_X5_begin wm_X11_76 (by decide) (by decide) (fun rr ff hh => km_X5_begin l G ad f rr ff hh) rfl rfl (Nat.le_of_ble_eq_true rfl) rfl dX11_load_8 (fun r1 g2 => ?_)
  refine K_aload_n C 0 rfl rfl dX11_load_11 ?_
  refine K_aload_n C 0 rfl rfl dX11_load_12 ?_
  refine K_getR C kin_X11 rfl (Nat.le_of_ble_eq_true rfl) (shC_291 G ad) 0 (by decide) (b := 0) rfl wf_X11_12 rfl dX11_load_13 ?_
  refine K_iload_n C 1 rfl rfl dX11_load_16 ?_
  refine K_iload_n C 2 rfl rfl dX11_load_17 ?_
  refine K_iload_n C 3 rfl rfl dX11_load_18 ?_
  refine K_aload_n C 0 rfl rfl dX11_load_19 ?_
  refine K_getR C kin_X11 rfl (Nat.le_of_ble_eq_true rfl) (shC_291 G ad) 3 (by decide) (b := 277) rfl wf_X11_29 rfl dX11_load_20 ?_
  refine K_callVi C (As := [.int x1, .int x2, .int x3, .ref (kad (wC G ad) 277)]) (rest := [.ref (kad (wC G ad) 291)]) (Nat.le_of_ble_eq_true rfl) (shC_0 G ad) rfl hy_X4_loadDryer wm_X11_140 (by decide) (by decide) (fun rr ff hh => km_X4_loadDryer l G ad g2 x1 x2 x3 rr ff hh) rfl rfl (Nat.le_of_ble_eq_true rfl) rfl dX11_load_23 (fun r3 g4 => ?_)
  refine K_callXi CX (As := [.int r3]) (rest := []) (Nat.le_of_ble_eq_true rfl) (shC_291 G ad) rfl hy_X11_settled wm_X11_90 (by decide) (by decide) (fun zz hh => kmx_X11_settled l CX.2.2.1 G ad g4 r3 zz hh) rfl rfl (Nat.le_of_ble_eq_true rfl) rfl dX11_load_26 (fun r5 g6 => ?_)
  exact K_xret CX rfl rfl (by decide) dX11_load_29
def cx_X11_empty (f : kMem) (x1 : Int32) : Option kXr := kbind (cf_X5_begin f) (fun r1 g2 => kbind (cf_X2_takeAll g2 x1) (fun r3 g4 => kxbind (cx_X11_settled g4 r3) (fun r5 g6 => some (0, r5, g6))))
set_option maxRecDepth 100000 in
set_option maxHeartbeats 4000000 in
theorem kmx_X11_empty (l : Launch) (hst : l.stackTraces = false) (G : kG) (ad : Nat → Nat) (f : kMem) (x1 : Int32) (z : kXr) (h : cx_X11_empty f x1 = some z) : kxMet l (wC G ad) yX11_empty cX11_empty 2 (some .int) 7 2 12 [.ref (kad (wC G ad) 291), .int x1] f z := by
  refine kxMet_of (own := RX11) (lv := [(0, .ref (kad (wC G ad) 291)), (1, .int x1)]) hst (by decide) rfl (Nat.le_of_ble_eq_true rfl) rfl h ?_
  intro p e R s m args below meth c CX
  have C := CX.1
  unfold cx_X11_empty
  refine K_aload_n C 0 rfl rfl dX11_empty_0 ?_
  refine K_getR C kin_X11 rfl (Nat.le_of_ble_eq_true rfl) (shC_291 G ad) 2 (by decide) (b := 275) rfl wf_X11_22 rfl dX11_empty_1 ?_
  refine K_aload_n C 0 rfl rfl dX11_empty_4 ?_
  refine K_getR C kin_X11 rfl (Nat.le_of_ble_eq_true rfl) (shC_291 G ad) 0 (by decide) (b := 0) rfl wf_X11_12 rfl dX11_empty_5 ?_
  refine K_callVv C (As := [.ref (kad (wC G ad) 0)]) (rest := []) (Nat.le_of_ble_eq_true rfl) (shC_275 G ad) rfl hy_X5_begin wm_X11_76 (by decide) (by decide) (fun rr ff hh => km_X5_begin l G ad f rr ff hh) rfl rfl (Nat.le_of_ble_eq_true rfl) rfl dX11_empty_8 (fun r1 g2 => ?_)
  refine K_aload_n C 0 rfl rfl dX11_empty_11 ?_
  refine K_aload_n C 0 rfl rfl dX11_empty_12 ?_
  refine K_getR C kin_X11 rfl (Nat.le_of_ble_eq_true rfl) (shC_291 G ad) 0 (by decide) (b := 0) rfl wf_X11_12 rfl dX11_empty_13 ?_
  refine K_getR C kin_X4 rfl (Nat.le_of_ble_eq_true rfl) (shC_0 G ad) 1 (by decide) (b := 8) rfl wf_X11_144 rfl dX11_empty_16 ?_
  refine K_iload_n C 1 rfl rfl dX11_empty_19 ?_
  refine K_aload_n C 0 rfl rfl dX11_empty_20 ?_
  refine K_getR C kin_X11 rfl (Nat.le_of_ble_eq_true rfl) (shC_291 G ad) 3 (by decide) (b := 277) rfl wf_X11_29 rfl dX11_empty_21 ?_
  refine K_callVi C (As := [.int x1, .ref (kad (wC G ad) 277)]) (rest := [.ref (kad (wC G ad) 291)]) (Nat.le_of_ble_eq_true rfl) (shC_8 G ad) rfl hy_X2_takeAll wm_X11_148 (by decide) (by decide) (fun rr ff hh => km_X2_takeAll l G ad g2 x1 rr ff hh) rfl rfl (Nat.le_of_ble_eq_true rfl) rfl dX11_empty_24 (fun r3 g4 => ?_)
  refine K_callXi CX (As := [.int r3]) (rest := []) (Nat.le_of_ble_eq_true rfl) (shC_291 G ad) rfl hy_X11_settled wm_X11_90 (by decide) (by decide) (fun zz hh => kmx_X11_settled l CX.2.2.1 G ad g4 r3 zz hh) rfl rfl (Nat.le_of_ble_eq_true rfl) rfl dX11_empty_27 (fun r5 g6 => ?_)
  exact K_xret CX rfl rfl (by decide) dX11_empty_30
def cx_X11_pause (f : kMem) (x1 : Int32) : Option kXr := kbind (cf_X5_begin f) (fun r1 g2 => kbind (cf_X4_waitMinutes g2 x1) (fun r3 g4 => kxbind (cx_X11_settled g4 r3) (fun r5 g6 => some (0, r5, g6))))
set_option maxRecDepth 100000 in
set_option maxHeartbeats 4000000 in
theorem kmx_X11_pause (l : Launch) (hst : l.stackTraces = false) (G : kG) (ad : Nat → Nat) (f : kMem) (x1 : Int32) (z : kXr) (h : cx_X11_pause f x1 = some z) : kxMet l (wC G ad) yX11_pause cX11_pause 2 (some .int) 7 2 12 [.ref (kad (wC G ad) 291), .int x1] f z := by
  refine kxMet_of (own := RX11) (lv := [(0, .ref (kad (wC G ad) 291)), (1, .int x1)]) hst (by decide) rfl (Nat.le_of_ble_eq_true rfl) rfl h ?_
  intro p e R s m args below meth c CX
  have C := CX.1
  unfold cx_X11_pause
  refine K_aload_n C 0 rfl rfl dX11_pause_0 ?_
  refine K_getR C kin_X11 rfl (Nat.le_of_ble_eq_true rfl) (shC_291 G ad) 2 (by decide) (b := 275) rfl wf_X11_22 rfl dX11_pause_1 ?_
  refine K_aload_n C 0 rfl rfl dX11_pause_4 ?_
  refine K_getR C kin_X11 rfl (Nat.le_of_ble_eq_true rfl) (shC_291 G ad) 0 (by decide) (b := 0) rfl wf_X11_12 rfl dX11_pause_5 ?_
  refine K_callVv C (As := [.ref (kad (wC G ad) 0)]) (rest := []) (Nat.le_of_ble_eq_true rfl) (shC_275 G ad) rfl hy_X5_begin wm_X11_76 (by decide) (by decide) (fun rr ff hh => km_X5_begin l G ad f rr ff hh) rfl rfl (Nat.le_of_ble_eq_true rfl) rfl dX11_pause_8 (fun r1 g2 => ?_)
  refine K_aload_n C 0 rfl rfl dX11_pause_11 ?_
  refine K_aload_n C 0 rfl rfl dX11_pause_12 ?_
  refine K_getR C kin_X11 rfl (Nat.le_of_ble_eq_true rfl) (shC_291 G ad) 0 (by decide) (b := 0) rfl wf_X11_12 rfl dX11_pause_13 ?_
  refine K_iload_n C 1 rfl rfl dX11_pause_16 ?_
  refine K_aload_n C 0 rfl rfl dX11_pause_17 ?_
  refine K_getR C kin_X11 rfl (Nat.le_of_ble_eq_true rfl) (shC_291 G ad) 3 (by decide) (b := 277) rfl wf_X11_29 rfl dX11_pause_18 ?_
  refine K_callVi C (As := [.int x1, .ref (kad (wC G ad) 277)]) (rest := [.ref (kad (wC G ad) 291)]) (Nat.le_of_ble_eq_true rfl) (shC_0 G ad) rfl hy_X4_waitMinutes wm_X11_153 (by decide) (by decide) (fun rr ff hh => km_X4_waitMinutes l G ad g2 x1 rr ff hh) rfl rfl (Nat.le_of_ble_eq_true rfl) rfl dX11_pause_21 (fun r3 g4 => ?_)
  refine K_callXi CX (As := [.int r3]) (rest := []) (Nat.le_of_ble_eq_true rfl) (shC_291 G ad) rfl hy_X11_settled wm_X11_90 (by decide) (by decide) (fun zz hh => kmx_X11_settled l CX.2.2.1 G ad g4 r3 zz hh) rfl rfl (Nat.le_of_ble_eq_true rfl) rfl dX11_pause_24 (fun r5 g6 => ?_)
  exact K_xret CX rfl rfl (by decide) dX11_pause_27
def cx_X11_run (f : kMem) (x1 x2 : Int32) : Option kXr := kbind (cf_X5_begin f) (fun r1 g2 => kbind (cf_X4_runShots g2 x1 x2) (fun r3 g4 => kxbind (cx_X11_settled g4 r3) (fun r5 g6 => some (0, r5, g6))))
set_option maxRecDepth 100000 in
set_option maxHeartbeats 4000000 in
theorem kmx_X11_run (l : Launch) (hst : l.stackTraces = false) (G : kG) (ad : Nat → Nat) (f : kMem) (x1 x2 : Int32) (z : kXr) (h : cx_X11_run f x1 x2 = some z) : kxMet l (wC G ad) yX11_run cX11_run 3 (some .int) 7 2 12 [.ref (kad (wC G ad) 291), .int x1, .int x2] f z := by
  refine kxMet_of (own := RX11) (lv := [(0, .ref (kad (wC G ad) 291)), (1, .int x1), (2, .int x2)]) hst (by decide) rfl (Nat.le_of_ble_eq_true rfl) rfl h ?_
  intro p e R s m args below meth c CX
  have C := CX.1
  unfold cx_X11_run
  refine K_aload_n C 0 rfl rfl dX11_run_0 ?_
  refine K_getR C kin_X11 rfl (Nat.le_of_ble_eq_true rfl) (shC_291 G ad) 2 (by decide) (b := 275) rfl wf_X11_22 rfl dX11_run_1 ?_
  refine K_aload_n C 0 rfl rfl dX11_run_4 ?_
  refine K_getR C kin_X11 rfl (Nat.le_of_ble_eq_true rfl) (shC_291 G ad) 0 (by decide) (b := 0) rfl wf_X11_12 rfl dX11_run_5 ?_
  refine K_callVv C (As := [.ref (kad (wC G ad) 0)]) (rest := []) (Nat.le_of_ble_eq_true rfl) (shC_275 G ad) rfl hy_X5_begin wm_X11_76 (by decide) (by decide) (fun rr ff hh => km_X5_begin l G ad f rr ff hh) rfl rfl (Nat.le_of_ble_eq_true rfl) rfl dX11_run_8 (fun r1 g2 => ?_)
  refine K_aload_n C 0 rfl rfl dX11_run_11 ?_
  refine K_aload_n C 0 rfl rfl dX11_run_12 ?_
  refine K_getR C kin_X11 rfl (Nat.le_of_ble_eq_true rfl) (shC_291 G ad) 0 (by decide) (b := 0) rfl wf_X11_12 rfl dX11_run_13 ?_
  refine K_iload_n C 1 rfl rfl dX11_run_16 ?_
  refine K_iload_n C 2 rfl rfl dX11_run_17 ?_
  refine K_aload_n C 0 rfl rfl dX11_run_18 ?_
  refine K_getR C kin_X11 rfl (Nat.le_of_ble_eq_true rfl) (shC_291 G ad) 3 (by decide) (b := 277) rfl wf_X11_29 rfl dX11_run_19 ?_
  refine K_callVi C (As := [.int x1, .int x2, .ref (kad (wC G ad) 277)]) (rest := [.ref (kad (wC G ad) 291)]) (Nat.le_of_ble_eq_true rfl) (shC_0 G ad) rfl hy_X4_runShots wm_X11_156 (by decide) (by decide) (fun rr ff hh => km_X4_runShots l G ad g2 x1 x2 rr ff hh) rfl rfl (Nat.le_of_ble_eq_true rfl) rfl dX11_run_22 (fun r3 g4 => ?_)
  refine K_callXi CX (As := [.int r3]) (rest := []) (Nat.le_of_ble_eq_true rfl) (shC_291 G ad) rfl hy_X11_settled wm_X11_90 (by decide) (by decide) (fun zz hh => kmx_X11_settled l CX.2.2.1 G ad g4 r3 zz hh) rfl rfl (Nat.le_of_ble_eq_true rfl) rfl dX11_run_25 (fun r5 g6 => ?_)
  exact K_xret CX rfl rfl (by decide) dX11_run_28
def cx_X11_order (f : kMem) (x1 x2 x3 x4 : Int32) : Option kXr := kbind (cf_X5_begin f) (fun r1 g2 => kbind (cf_X4_addOrder g2 x1 x2 x3 x4) (fun r3 g4 => kxbind (cx_X11_settled g4 r3) (fun r5 g6 => some (0, r5, g6))))
set_option maxRecDepth 100000 in
set_option maxHeartbeats 4000000 in
theorem kmx_X11_order (l : Launch) (hst : l.stackTraces = false) (G : kG) (ad : Nat → Nat) (f : kMem) (x1 x2 x3 x4 : Int32) (z : kXr) (h : cx_X11_order f x1 x2 x3 x4 = some z) : kxMet l (wC G ad) yX11_order cX11_order 5 (some .int) 7 2 12 [.ref (kad (wC G ad) 291), .int x1, .int x2, .int x3, .int x4] f z := by
  refine kxMet_of (own := RX11) (lv := [(0, .ref (kad (wC G ad) 291)), (1, .int x1), (2, .int x2), (3, .int x3), (4, .int x4)]) hst (by decide) rfl (Nat.le_of_ble_eq_true rfl) rfl h ?_
  intro p e R s m args below meth c CX
  have C := CX.1
  unfold cx_X11_order
  refine K_aload_n C 0 rfl rfl dX11_order_0 ?_
  refine K_getR C kin_X11 rfl (Nat.le_of_ble_eq_true rfl) (shC_291 G ad) 2 (by decide) (b := 275) rfl wf_X11_22 rfl dX11_order_1 ?_
  refine K_aload_n C 0 rfl rfl dX11_order_4 ?_
  refine K_getR C kin_X11 rfl (Nat.le_of_ble_eq_true rfl) (shC_291 G ad) 0 (by decide) (b := 0) rfl wf_X11_12 rfl dX11_order_5 ?_
  refine K_callVv C (As := [.ref (kad (wC G ad) 0)]) (rest := []) (Nat.le_of_ble_eq_true rfl) (shC_275 G ad) rfl hy_X5_begin wm_X11_76 (by decide) (by decide) (fun rr ff hh => km_X5_begin l G ad f rr ff hh) rfl rfl (Nat.le_of_ble_eq_true rfl) rfl dX11_order_8 (fun r1 g2 => ?_)
  refine K_aload_n C 0 rfl rfl dX11_order_11 ?_
  refine K_aload_n C 0 rfl rfl dX11_order_12 ?_
  refine K_getR C kin_X11 rfl (Nat.le_of_ble_eq_true rfl) (shC_291 G ad) 0 (by decide) (b := 0) rfl wf_X11_12 rfl dX11_order_13 ?_
  refine K_iload_n C 1 rfl rfl dX11_order_16 ?_
  refine K_iload_n C 2 rfl rfl dX11_order_17 ?_
  refine K_iload_n C 3 rfl rfl dX11_order_18 ?_
  refine K_iload C 4 rfl dX11_order_19 ?_
  refine K_aload_n C 0 rfl rfl dX11_order_21 ?_
  refine K_getR C kin_X11 rfl (Nat.le_of_ble_eq_true rfl) (shC_291 G ad) 3 (by decide) (b := 277) rfl wf_X11_29 rfl dX11_order_22 ?_
  refine K_callVi C (As := [.int x1, .int x2, .int x3, .int x4, .ref (kad (wC G ad) 277)]) (rest := [.ref (kad (wC G ad) 291)]) (Nat.le_of_ble_eq_true rfl) (shC_0 G ad) rfl hy_X4_addOrder wm_X11_160 (by decide) (by decide) (fun rr ff hh => km_X4_addOrder l G ad g2 x1 x2 x3 x4 rr ff hh) rfl rfl (Nat.le_of_ble_eq_true rfl) rfl dX11_order_25 (fun r3 g4 => ?_)
  refine K_callXi CX (As := [.int r3]) (rest := []) (Nat.le_of_ble_eq_true rfl) (shC_291 G ad) rfl hy_X11_settled wm_X11_90 (by decide) (by decide) (fun zz hh => kmx_X11_settled l CX.2.2.1 G ad g4 r3 zz hh) rfl rfl (Nat.le_of_ble_eq_true rfl) rfl dX11_order_28 (fun r5 g6 => ?_)
  exact K_xret CX rfl rfl (by decide) dX11_order_31
def cx_X11_callOff (f : kMem) (x1 : Int32) : Option kXr := kbind (cf_X5_begin f) (fun r1 g2 => kbind (cf_X6_close g2 x1) (fun r3 g4 => kxbind (cx_X11_settled g4 r3) (fun r5 g6 => some (0, r5, g6))))
set_option maxRecDepth 100000 in
set_option maxHeartbeats 4000000 in
theorem kmx_X11_callOff (l : Launch) (hst : l.stackTraces = false) (G : kG) (ad : Nat → Nat) (f : kMem) (x1 : Int32) (z : kXr) (h : cx_X11_callOff f x1 = some z) : kxMet l (wC G ad) yX11_callOff cX11_callOff 2 (some .int) 7 2 12 [.ref (kad (wC G ad) 291), .int x1] f z := by
  refine kxMet_of (own := RX11) (lv := [(0, .ref (kad (wC G ad) 291)), (1, .int x1)]) hst (by decide) rfl (Nat.le_of_ble_eq_true rfl) rfl h ?_
  intro p e R s m args below meth c CX
  have C := CX.1
  unfold cx_X11_callOff
  refine K_aload_n C 0 rfl rfl dX11_callOff_0 ?_
  refine K_getR C kin_X11 rfl (Nat.le_of_ble_eq_true rfl) (shC_291 G ad) 2 (by decide) (b := 275) rfl wf_X11_22 rfl dX11_callOff_1 ?_
  refine K_aload_n C 0 rfl rfl dX11_callOff_4 ?_
  refine K_getR C kin_X11 rfl (Nat.le_of_ble_eq_true rfl) (shC_291 G ad) 0 (by decide) (b := 0) rfl wf_X11_12 rfl dX11_callOff_5 ?_
  refine K_callVv C (As := [.ref (kad (wC G ad) 0)]) (rest := []) (Nat.le_of_ble_eq_true rfl) (shC_275 G ad) rfl hy_X5_begin wm_X11_76 (by decide) (by decide) (fun rr ff hh => km_X5_begin l G ad f rr ff hh) rfl rfl (Nat.le_of_ble_eq_true rfl) rfl dX11_callOff_8 (fun r1 g2 => ?_)
  refine K_aload_n C 0 rfl rfl dX11_callOff_11 ?_
  refine K_aload_n C 0 rfl rfl dX11_callOff_12 ?_
  refine K_getR C kin_X11 rfl (Nat.le_of_ble_eq_true rfl) (shC_291 G ad) 0 (by decide) (b := 0) rfl wf_X11_12 rfl dX11_callOff_13 ?_
  refine K_getR C kin_X4 rfl (Nat.le_of_ble_eq_true rfl) (shC_0 G ad) 3 (by decide) (b := 18) rfl wf_X11_164 rfl dX11_callOff_16 ?_
  refine K_iload_n C 1 rfl rfl dX11_callOff_19 ?_
  refine K_aload_n C 0 rfl rfl dX11_callOff_20 ?_
  refine K_getR C kin_X11 rfl (Nat.le_of_ble_eq_true rfl) (shC_291 G ad) 3 (by decide) (b := 277) rfl wf_X11_29 rfl dX11_callOff_21 ?_
  refine K_callVi C (As := [.int x1, .ref (kad (wC G ad) 277)]) (rest := [.ref (kad (wC G ad) 291)]) (Nat.le_of_ble_eq_true rfl) (shC_18 G ad) rfl hy_X6_close wm_X11_168 (by decide) (by decide) (fun rr ff hh => km_X6_close l G ad g2 x1 rr ff hh) rfl rfl (Nat.le_of_ble_eq_true rfl) rfl dX11_callOff_24 (fun r3 g4 => ?_)
  refine K_callXi CX (As := [.int r3]) (rest := []) (Nat.le_of_ble_eq_true rfl) (shC_291 G ad) rfl hy_X11_settled wm_X11_90 (by decide) (by decide) (fun zz hh => kmx_X11_settled l CX.2.2.1 G ad g4 r3 zz hh) rfl rfl (Nat.le_of_ble_eq_true rfl) rfl dX11_callOff_27 (fun r5 g6 => ?_)
  exact K_xret CX rfl rfl (by decide) dX11_callOff_30
def cx_X11_set (f : kMem) (x1 x2 : Int32) : Option kXr := kbind (cf_X5_begin f) (fun r1 g2 => kbind (cf_X0_changeSetting g2 x1 x2) (fun r3 g4 => kxbind (cx_X11_settled g4 r3) (fun r5 g6 => some (0, r5, g6))))
set_option maxRecDepth 100000 in
set_option maxHeartbeats 4000000 in
theorem kmx_X11_set (l : Launch) (hst : l.stackTraces = false) (G : kG) (ad : Nat → Nat) (f : kMem) (x1 x2 : Int32) (z : kXr) (h : cx_X11_set f x1 x2 = some z) : kxMet l (wC G ad) yX11_set cX11_set 3 (some .int) 7 2 12 [.ref (kad (wC G ad) 291), .int x1, .int x2] f z := by
  refine kxMet_of (own := RX11) (lv := [(0, .ref (kad (wC G ad) 291)), (1, .int x1), (2, .int x2)]) hst (by decide) rfl (Nat.le_of_ble_eq_true rfl) rfl h ?_
  intro p e R s m args below meth c CX
  have C := CX.1
  unfold cx_X11_set
  refine K_aload_n C 0 rfl rfl dX11_set_0 ?_
  refine K_getR C kin_X11 rfl (Nat.le_of_ble_eq_true rfl) (shC_291 G ad) 2 (by decide) (b := 275) rfl wf_X11_22 rfl dX11_set_1 ?_
  refine K_aload_n C 0 rfl rfl dX11_set_4 ?_
  refine K_getR C kin_X11 rfl (Nat.le_of_ble_eq_true rfl) (shC_291 G ad) 0 (by decide) (b := 0) rfl wf_X11_12 rfl dX11_set_5 ?_
  refine K_callVv C (As := [.ref (kad (wC G ad) 0)]) (rest := []) (Nat.le_of_ble_eq_true rfl) (shC_275 G ad) rfl hy_X5_begin wm_X11_76 (by decide) (by decide) (fun rr ff hh => km_X5_begin l G ad f rr ff hh) rfl rfl (Nat.le_of_ble_eq_true rfl) rfl dX11_set_8 (fun r1 g2 => ?_)
  refine K_aload_n C 0 rfl rfl dX11_set_11 ?_
  refine K_aload_n C 0 rfl rfl dX11_set_12 ?_
  refine K_getR C kin_X11 rfl (Nat.le_of_ble_eq_true rfl) (shC_291 G ad) 0 (by decide) (b := 0) rfl wf_X11_12 rfl dX11_set_13 ?_
  refine K_getR C kin_X4 rfl (Nat.le_of_ble_eq_true rfl) (shC_0 G ad) 0 (by decide) (b := 1) rfl wf_X11_80 rfl dX11_set_16 ?_
  refine K_iload_n C 1 rfl rfl dX11_set_19 ?_
  refine K_iload_n C 2 rfl rfl dX11_set_20 ?_
  refine K_aload_n C 0 rfl rfl dX11_set_21 ?_
  refine K_getR C kin_X11 rfl (Nat.le_of_ble_eq_true rfl) (shC_291 G ad) 3 (by decide) (b := 277) rfl wf_X11_29 rfl dX11_set_22 ?_
  refine K_callVi C (As := [.int x1, .int x2, .ref (kad (wC G ad) 277)]) (rest := [.ref (kad (wC G ad) 291)]) (Nat.le_of_ble_eq_true rfl) (shC_1 G ad) rfl hy_X0_changeSetting wm_X11_173 (by decide) (by decide) (fun rr ff hh => km_X0_changeSetting l G ad g2 x1 x2 rr ff hh) rfl rfl (Nat.le_of_ble_eq_true rfl) rfl dX11_set_25 (fun r3 g4 => ?_)
  refine K_callXi CX (As := [.int r3]) (rest := []) (Nat.le_of_ble_eq_true rfl) (shC_291 G ad) rfl hy_X11_settled wm_X11_90 (by decide) (by decide) (fun zz hh => kmx_X11_settled l CX.2.2.1 G ad g4 r3 zz hh) rfl rfl (Nat.le_of_ble_eq_true rfl) rfl dX11_set_28 (fun r5 g6 => ?_)
  exact K_xret CX rfl rfl (by decide) dX11_set_31
def cj_X11_purge_28 (f : kMem) : Option kXr := some (3, 0, f)
def cx_X11_purge (f : kMem) (x1 x2 : Int32) : Option kXr := kbind (cf_X0_isColour f x1) (fun r1 g2 => keq r1 0 ((cj_X11_purge_28 g2)) (kbind (cf_X0_isColour g2 x2) (fun r3 g4 => keq r3 0 ((cj_X11_purge_28 g4)) (kbind (cf_X0_purgeShots g4 x1 x2) (fun r5 g6 => some (0, r5, g6))))))
set_option maxRecDepth 100000 in
set_option maxHeartbeats 4000000 in
theorem kcj_X11_purge_28 {p : Program} {l : Launch} {e : Env} {R : Room} {s : State} {m : MethodId} {args : Array Value} {below : List Frame} {meth : Method} {c : Code} {G : kG} {ad : Nat → Nat} {z : kXr} (CX : KCX p l e R s m args below meth c (wC G ad) RX11 cX11_purge 3 (some .int) 6 2 12)  (f : kMem) : K p l e R s m args below meth c (wC G ad) 3 (kxQF below (wC G ad) (some .int) args s 2 12 z) z 0 0 f 28 [] [] (cj_X11_purge_28 f) := by
  have C := CX.1
  unfold cj_X11_purge_28
  exact K_throw CX (is := 182) (text := "there is no such colour") kXok_3 (by decide +kernel) (by decide) (by decide) (Nat.le_of_ble_eq_true rfl) dX11_purge_28 dX11_purge_31 dX11_purge_32 dX11_purge_34 dX11_purge_37
set_option maxRecDepth 100000 in
set_option maxHeartbeats 4000000 in
theorem kmx_X11_purge (l : Launch) (hst : l.stackTraces = false) (G : kG) (ad : Nat → Nat) (f : kMem) (x1 x2 : Int32) (z : kXr) (h : cx_X11_purge f x1 x2 = some z) : kxMet l (wC G ad) yX11_purge cX11_purge 3 (some .int) 6 2 12 [.ref (kad (wC G ad) 291), .int x1, .int x2] f z := by
  refine kxMet_of (own := RX11) (lv := [(0, .ref (kad (wC G ad) 291)), (1, .int x1), (2, .int x2)]) hst (by decide) rfl (Nat.le_of_ble_eq_true rfl) rfl h ?_
  intro p e R s m args below meth c CX
  have C := CX.1
  unfold cx_X11_purge
  refine K_aload_n C 0 rfl rfl dX11_purge_0 ?_
  refine K_getR C kin_X11 rfl (Nat.le_of_ble_eq_true rfl) (shC_291 G ad) 0 (by decide) (b := 0) rfl wf_X11_12 rfl dX11_purge_1 ?_
  refine K_getR C kin_X4 rfl (Nat.le_of_ble_eq_true rfl) (shC_0 G ad) 0 (by decide) (b := 1) rfl wf_X11_80 rfl dX11_purge_4 ?_
  refine K_iload_n C 1 rfl rfl dX11_purge_7 ?_
  refine K_callVi C (As := [.int x1]) (rest := []) (Nat.le_of_ble_eq_true rfl) (shC_1 G ad) rfl hy_X0_isColour wm_X11_176 (by decide) (by decide) (fun rr ff hh => km_X0_isColour l G ad f x1 rr ff hh) rfl rfl (Nat.le_of_ble_eq_true rfl) rfl dX11_purge_8 (fun r1 g2 => ?_)
  refine K_if_eq C (tgt := 28) (by decide) dX11_purge_11 ?_ ?_
  · refine K_sub [] rfl ?_
    exact kcj_X11_purge_28 CX g2
  · refine K_aload_n C 0 rfl rfl dX11_purge_14 ?_
    refine K_getR C kin_X11 rfl (Nat.le_of_ble_eq_true rfl) (shC_291 G ad) 0 (by decide) (b := 0) rfl wf_X11_12 rfl dX11_purge_15 ?_
    refine K_getR C kin_X4 rfl (Nat.le_of_ble_eq_true rfl) (shC_0 G ad) 0 (by decide) (b := 1) rfl wf_X11_80 rfl dX11_purge_18 ?_
    refine K_iload_n C 2 rfl rfl dX11_purge_21 ?_
    refine K_callVi C (As := [.int x2]) (rest := []) (Nat.le_of_ble_eq_true rfl) (shC_1 G ad) rfl hy_X0_isColour wm_X11_176 (by decide) (by decide) (fun rr ff hh => km_X0_isColour l G ad g2 x2 rr ff hh) rfl rfl (Nat.le_of_ble_eq_true rfl) rfl dX11_purge_22 (fun r3 g4 => ?_)
    refine K_if_ne C (tgt := 38) (by decide) dX11_purge_25 ?_ ?_
    · refine K_aload_n C 0 rfl rfl dX11_purge_38 ?_
      refine K_getR C kin_X11 rfl (Nat.le_of_ble_eq_true rfl) (shC_291 G ad) 0 (by decide) (b := 0) rfl wf_X11_12 rfl dX11_purge_39 ?_
      refine K_getR C kin_X4 rfl (Nat.le_of_ble_eq_true rfl) (shC_0 G ad) 0 (by decide) (b := 1) rfl wf_X11_80 rfl dX11_purge_42 ?_
      refine K_iload_n C 1 rfl rfl dX11_purge_45 ?_
      refine K_iload_n C 2 rfl rfl dX11_purge_46 ?_
      refine K_callVi C (As := [.int x1, .int x2]) (rest := []) (Nat.le_of_ble_eq_true rfl) (shC_1 G ad) rfl hy_X0_purgeShots wm_X11_185 (by decide) (by decide) (fun rr ff hh => km_X0_purgeShots l G ad g4 x1 x2 rr ff hh) rfl rfl (Nat.le_of_ble_eq_true rfl) rfl dX11_purge_47 (fun r5 g6 => ?_)
      exact K_xret CX rfl rfl (by decide) dX11_purge_50
    · refine K_sub [] rfl ?_
      exact kcj_X11_purge_28 CX g4
def cx_X11_minutes (f : kMem) (x1 x2 : Int32) : Option kXr := kbind (cf_X0_isColour f x1) (fun r1 g2 => keq r1 0 (some (3, 0, g2)) (kbind (cf_X11_isWithin g2 x2 1 200) (fun r3 g4 => keq r3 0 (some (2, 0, g4)) (kbind (cf_X0_isFamily g4 (g4 0 8)) (fun r5 g6 => keq r5 0 (some (1, 0, g6)) (kbind (cf_X0_purgeShots g6 (g6 0 7) x1) (fun r7 g8 => kchk (kin (g8 0 8) 6) (some (0, ((r7 + x2) * (g8 4 (Int32.toNatClampNeg (g8 0 8)))), g8)))))))))
set_option maxRecDepth 100000 in
set_option maxHeartbeats 4000000 in
theorem kmx_X11_minutes (l : Launch) (hst : l.stackTraces = false) (G : kG) (ad : Nat → Nat) (f : kMem) (x1 x2 : Int32) (z : kXr) (h : cx_X11_minutes f x1 x2 = some z) : kxMet l (wC G ad) yX11_minutes cX11_minutes 3 (some .int) 6 2 12 [.ref (kad (wC G ad) 291), .int x1, .int x2] f z := by
  refine kxMet_of (own := RX11) (lv := [(0, .ref (kad (wC G ad) 291)), (1, .int x1), (2, .int x2)]) hst (by decide) rfl (Nat.le_of_ble_eq_true rfl) rfl h ?_
  intro p e R s m args below meth c CX
  have C := CX.1
  unfold cx_X11_minutes
  refine K_aload_n C 0 rfl rfl dX11_minutes_0 ?_
  refine K_getR C kin_X11 rfl (Nat.le_of_ble_eq_true rfl) (shC_291 G ad) 0 (by decide) (b := 0) rfl wf_X11_12 rfl dX11_minutes_1 ?_
  refine K_getR C kin_X4 rfl (Nat.le_of_ble_eq_true rfl) (shC_0 G ad) 0 (by decide) (b := 1) rfl wf_X11_80 rfl dX11_minutes_4 ?_
  refine K_iload_n C 1 rfl rfl dX11_minutes_7 ?_
  refine K_callVi C (As := [.int x1]) (rest := []) (Nat.le_of_ble_eq_true rfl) (shC_1 G ad) rfl hy_X0_isColour wm_X11_176 (by decide) (by decide) (fun rr ff hh => km_X0_isColour l G ad f x1 rr ff hh) rfl rfl (Nat.le_of_ble_eq_true rfl) rfl dX11_minutes_8 (fun r1 g2 => ?_)
  refine K_if_ne C (tgt := 24) (by decide) dX11_minutes_11 ?_ ?_
  · refine K_iload_n C 2 rfl rfl dX11_minutes_24 ?_
    refine K_iconst C (v := 1) (by decide) dX11_minutes_25 ?_
    refine K_sipush C (v := 200) (by decide) dX11_minutes_26 ?_
    refine K_callSi C (As := [.int x2, .int 1, .int 200]) (rest := []) hy_X11_isWithin wm_X11_189 (by decide) (by decide) (fun rr ff hh => km_X11_isWithin l G ad g2 x2 1 200 rr ff hh) rfl rfl (Nat.le_of_ble_eq_true rfl) rfl dX11_minutes_29 (fun r3 g4 => ?_)
    refine K_if_ne C (tgt := 45) (by decide) dX11_minutes_32 ?_ ?_
    · refine K_aload_n C 0 rfl rfl dX11_minutes_45 ?_
      refine K_getR C kin_X11 rfl (Nat.le_of_ble_eq_true rfl) (shC_291 G ad) 0 (by decide) (b := 0) rfl wf_X11_12 rfl dX11_minutes_46 ?_
      refine K_getR C kin_X4 rfl (Nat.le_of_ble_eq_true rfl) (shC_0 G ad) 0 (by decide) (b := 1) rfl wf_X11_80 rfl dX11_minutes_49 ?_
      refine K_aload_n C 0 rfl rfl dX11_minutes_52 ?_
      refine K_getR C kin_X11 rfl (Nat.le_of_ble_eq_true rfl) (shC_291 G ad) 0 (by decide) (b := 0) rfl wf_X11_12 rfl dX11_minutes_53 ?_
      refine K_getI C kin_X4 rfl (Nat.le_of_ble_eq_true rfl) (shC_0 G ad) 8 (by decide) rfl wf_X11_195 rfl dX11_minutes_56 ?_
      refine K_callVi C (As := [.int (g4 0 8)]) (rest := []) (Nat.le_of_ble_eq_true rfl) (shC_1 G ad) rfl hy_X0_isFamily wm_X11_198 (by decide) (by decide) (fun rr ff hh => km_X0_isFamily l G ad g4 (g4 0 8) rr ff hh) rfl rfl (Nat.le_of_ble_eq_true rfl) rfl dX11_minutes_59 (fun r5 g6 => ?_)
      refine K_if_ne C (tgt := 75) (by decide) dX11_minutes_62 ?_ ?_
      · refine K_aload_n C 0 rfl rfl dX11_minutes_75 ?_
        refine K_getR C kin_X11 rfl (Nat.le_of_ble_eq_true rfl) (shC_291 G ad) 0 (by decide) (b := 0) rfl wf_X11_12 rfl dX11_minutes_76 ?_
        refine K_getR C kin_X4 rfl (Nat.le_of_ble_eq_true rfl) (shC_0 G ad) 0 (by decide) (b := 1) rfl wf_X11_80 rfl dX11_minutes_79 ?_
        refine K_aload_n C 0 rfl rfl dX11_minutes_82 ?_
        refine K_getR C kin_X11 rfl (Nat.le_of_ble_eq_true rfl) (shC_291 G ad) 0 (by decide) (b := 0) rfl wf_X11_12 rfl dX11_minutes_83 ?_
        refine K_getI C kin_X4 rfl (Nat.le_of_ble_eq_true rfl) (shC_0 G ad) 7 (by decide) rfl wf_X11_203 rfl dX11_minutes_86 ?_
        refine K_iload_n C 1 rfl rfl dX11_minutes_89 ?_
        refine K_callVi C (As := [.int (g6 0 7), .int x1]) (rest := []) (Nat.le_of_ble_eq_true rfl) (shC_1 G ad) rfl hy_X0_purgeShots wm_X11_185 (by decide) (by decide) (fun rr ff hh => km_X0_purgeShots l G ad g6 (g6 0 7) x1 rr ff hh) rfl rfl (Nat.le_of_ble_eq_true rfl) rfl dX11_minutes_90 (fun r7 g8 => ?_)
        refine K_iload_n C 2 rfl rfl dX11_minutes_93 ?_
        refine K_iadd C dX11_minutes_94 ?_
        refine K_aload_n C 0 rfl rfl dX11_minutes_95 ?_
        refine K_getR C kin_X11 rfl (Nat.le_of_ble_eq_true rfl) (shC_291 G ad) 0 (by decide) (b := 0) rfl wf_X11_12 rfl dX11_minutes_96 ?_
        refine K_getR C kin_X4 rfl (Nat.le_of_ble_eq_true rfl) (shC_0 G ad) 0 (by decide) (b := 1) rfl wf_X11_80 rfl dX11_minutes_99 ?_
        refine K_getR C kin_X0 rfl (Nat.le_of_ble_eq_true rfl) (shC_1 G ad) 5 (by decide) (b := 4) rfl wf_X11_206 rfl dX11_minutes_102 ?_
        refine K_aload_n C 0 rfl rfl dX11_minutes_105 ?_
        refine K_getR C kin_X11 rfl (Nat.le_of_ble_eq_true rfl) (shC_291 G ad) 0 (by decide) (b := 0) rfl wf_X11_12 rfl dX11_minutes_106 ?_
        refine K_getI C kin_X4 rfl (Nat.le_of_ble_eq_true rfl) (shC_0 G ad) 8 (by decide) rfl wf_X11_195 rfl dX11_minutes_109 ?_
        refine K_iald C (Nat.le_of_ble_eq_true rfl) (shC_4 G ad) dX11_minutes_112 ?_
        refine K_imul C dX11_minutes_113 ?_
        exact K_xret CX rfl rfl (by decide) dX11_minutes_114
      · exact K_throw CX (is := 201) (text := "no family is mounted") kXok_1 (by decide +kernel) (by decide) (by decide) (Nat.le_of_ble_eq_true rfl) dX11_minutes_65 dX11_minutes_68 dX11_minutes_69 dX11_minutes_71 dX11_minutes_74
    · exact K_throw CX (is := 193) (text := "the number of shots is out of range") kXok_2 (by decide +kernel) (by decide) (by decide) (Nat.le_of_ble_eq_true rfl) dX11_minutes_35 dX11_minutes_38 dX11_minutes_39 dX11_minutes_41 dX11_minutes_44
  · exact K_throw CX (is := 182) (text := "there is no such colour") kXok_3 (by decide +kernel) (by decide) (by decide) (Nat.le_of_ble_eq_true rfl) dX11_minutes_14 dX11_minutes_17 dX11_minutes_18 dX11_minutes_20 dX11_minutes_23
def cj_X11_checkColours_19 (f : kMem) : Option kXr := some (2, 0, f)
def cx_X11_checkColours (f : kMem) (x1 : Int32) : Option kXr := klt x1 0 ((cj_X11_checkColours_19 f)) (keq (x1 >>> ((f 1 0) &&& 31)) 0 (some (0, 0, f)) ((cj_X11_checkColours_19 f)))
set_option maxRecDepth 100000 in
set_option maxHeartbeats 4000000 in
theorem kcj_X11_checkColours_19 {p : Program} {l : Launch} {e : Env} {R : Room} {s : State} {m : MethodId} {args : Array Value} {below : List Frame} {meth : Method} {c : Code} {G : kG} {ad : Nat → Nat} {z : kXr} (CX : KCX p l e R s m args below meth c (wC G ad) RX11 cX11_checkColours 2 none 6 1 6)  (f : kMem) : K p l e R s m args below meth c (wC G ad) 2 (kxQF below (wC G ad) none args s 1 6 z) z 0 0 f 19 [] [] (cj_X11_checkColours_19 f) := by
  have C := CX.1
  unfold cj_X11_checkColours_19
  exact K_throwW CX (is := 441) (text := "this is no set of colours") kXok_2 (by decide +kernel) (by decide) (by decide) (Nat.le_of_ble_eq_true rfl) dX11_checkColours_19 dX11_checkColours_22 dX11_checkColours_23 dX11_checkColours_26 dX11_checkColours_29
set_option maxRecDepth 100000 in
set_option maxHeartbeats 4000000 in
theorem kmx_X11_checkColours (l : Launch) (hst : l.stackTraces = false) (G : kG) (ad : Nat → Nat) (f : kMem) (x1 : Int32) (z : kXr) (h : cx_X11_checkColours f x1 = some z) : kxMet l (wC G ad) yX11_checkColours cX11_checkColours 2 none 6 1 6 [.ref (kad (wC G ad) 291), .int x1] f z := by
  refine kxMet_of (own := RX11) (lv := [(0, .ref (kad (wC G ad) 291)), (1, .int x1)]) hst (by decide) rfl (Nat.le_of_ble_eq_true rfl) rfl h ?_
  intro p e R s m args below meth c CX
  have C := CX.1
  unfold cx_X11_checkColours
  refine K_iload_n C 1 rfl rfl dX11_checkColours_0 ?_
  refine K_if_lt C (tgt := 19) (by decide) dX11_checkColours_1 ?_ ?_
  · refine K_sub [] rfl ?_
    exact kcj_X11_checkColours_19 CX f
  · refine K_iload_n C 1 rfl rfl dX11_checkColours_4 ?_
    refine K_aload_n C 0 rfl rfl dX11_checkColours_5 ?_
    refine K_getR C kin_X11 rfl (Nat.le_of_ble_eq_true rfl) (shC_291 G ad) 0 (by decide) (b := 0) rfl wf_X11_12 rfl dX11_checkColours_6 ?_
    refine K_getR C kin_X4 rfl (Nat.le_of_ble_eq_true rfl) (shC_0 G ad) 0 (by decide) (b := 1) rfl wf_X11_80 rfl dX11_checkColours_9 ?_
    refine K_getI C kin_X0 rfl (Nat.le_of_ble_eq_true rfl) (shC_1 G ad) 0 (by decide) rfl wf_X11_382 rfl dX11_checkColours_12 ?_
    refine K_ishr C dX11_checkColours_15 ?_
    refine K_if_eq C (tgt := 30) (by decide) dX11_checkColours_16 ?_ ?_
    · exact K_xvret CX rfl (by decide) dX11_checkColours_30
    · refine K_sub [] rfl ?_
      exact kcj_X11_checkColours_19 CX f
def cx_X11_best (f : kMem) (x1 : Int32) : Option kXr := kxbind (cx_X11_checkColours f x1) (fun r1 g2 => kbind (cf_X1_leastSum g2 x1) (fun r3 g4 => some (0, r3, g4)))
set_option maxRecDepth 100000 in
set_option maxHeartbeats 4000000 in
theorem kmx_X11_best (l : Launch) (hst : l.stackTraces = false) (G : kG) (ad : Nat → Nat) (f : kMem) (x1 : Int32) (z : kXr) (h : cx_X11_best f x1 = some z) : kxMet l (wC G ad) yX11_best cX11_best 2 (some .int) 7 2 12 [.ref (kad (wC G ad) 291), .int x1] f z := by
  refine kxMet_of (own := RX11) (lv := [(0, .ref (kad (wC G ad) 291)), (1, .int x1)]) hst (by decide) rfl (Nat.le_of_ble_eq_true rfl) rfl h ?_
  intro p e R s m args below meth c CX
  have C := CX.1
  unfold cx_X11_best
  refine K_aload_n C 0 rfl rfl dX11_best_0 ?_
  refine K_iload_n C 1 rfl rfl dX11_best_1 ?_
  refine K_callXv CX (As := [.int x1]) (rest := []) (Nat.le_of_ble_eq_true rfl) (shC_291 G ad) rfl hy_X11_checkColours wm_X11_210 (by decide) (by decide) (fun zz hh => kmx_X11_checkColours l CX.2.2.1 G ad f x1 zz hh) rfl rfl (Nat.le_of_ble_eq_true rfl) rfl dX11_best_2 (fun r1 g2 => ?_)
  refine K_aload_n C 0 rfl rfl dX11_best_5 ?_
  refine K_getR C kin_X11 rfl (Nat.le_of_ble_eq_true rfl) (shC_291 G ad) 7 (by decide) (b := 288) rfl wf_X11_57 rfl dX11_best_6 ?_
  refine K_aload_n C 0 rfl rfl dX11_best_9 ?_
  refine K_getR C kin_X11 rfl (Nat.le_of_ble_eq_true rfl) (shC_291 G ad) 0 (by decide) (b := 0) rfl wf_X11_12 rfl dX11_best_10 ?_
  refine K_iload_n C 1 rfl rfl dX11_best_13 ?_
  refine K_callVi C (As := [.ref (kad (wC G ad) 0), .int x1]) (rest := []) (Nat.le_of_ble_eq_true rfl) (shC_288 G ad) rfl hy_X1_leastSum wm_X11_214 (by decide) (by decide) (fun rr ff hh => km_X1_leastSum l G ad g2 x1 rr ff hh) rfl rfl (Nat.le_of_ble_eq_true rfl) rfl dX11_best_14 (fun r3 g4 => ?_)
  exact K_xret CX rfl rfl (by decide) dX11_best_17
def cx_X11_bestColour (f : kMem) (x1 x2 : Int32) : Option kXr := kxbind (cx_X11_checkColours f x1) (fun r1 g2 => kbind (cf_J6_bitCount_0f7a4 g2 x1) (fun r3 g4 => kbind (cf_X11_isWithin g4 x2 0 (r3 - 1)) (fun r5 g6 => keq r5 0 (some (5, 0, g6)) (kbind (cf_X1_colourAt g6 x1 x2) (fun r7 g8 => some (0, r7, g8))))))
set_option maxRecDepth 100000 in
set_option maxHeartbeats 4000000 in
theorem kmx_X11_bestColour (l : Launch) (hst : l.stackTraces = false) (G : kG) (ad : Nat → Nat) (f : kMem) (x1 x2 : Int32) (z : kXr) (h : cx_X11_bestColour f x1 x2 = some z) : kxMet l (wC G ad) yX11_bestColour cX11_bestColour 3 (some .int) 7 2 12 [.ref (kad (wC G ad) 291), .int x1, .int x2] f z := by
  refine kxMet_of (own := RX11) (lv := [(0, .ref (kad (wC G ad) 291)), (1, .int x1), (2, .int x2)]) hst (by decide) rfl (Nat.le_of_ble_eq_true rfl) rfl h ?_
  intro p e R s m args below meth c CX
  have C := CX.1
  unfold cx_X11_bestColour
  refine K_aload_n C 0 rfl rfl dX11_bestColour_0 ?_
  refine K_iload_n C 1 rfl rfl dX11_bestColour_1 ?_
  refine K_callXv CX (As := [.int x1]) (rest := []) (Nat.le_of_ble_eq_true rfl) (shC_291 G ad) rfl hy_X11_checkColours wm_X11_210 (by decide) (by decide) (fun zz hh => kmx_X11_checkColours l CX.2.2.1 G ad f x1 zz hh) rfl rfl (Nat.le_of_ble_eq_true rfl) rfl dX11_bestColour_2 (fun r1 g2 => ?_)
  refine K_iload_n C 2 rfl rfl dX11_bestColour_5 ?_
  refine K_iconst C (v := 0) (by decide) dX11_bestColour_6 ?_
  refine K_iload_n C 1 rfl rfl dX11_bestColour_7 ?_
  refine K_callSi C (As := [.int x1]) (rest := [.int 0, .int x2]) hy_J6_bitCount_0f7a4 wm_X11_221 (by decide) (by decide) (fun rr ff hh => km_J6_bitCount_0f7a4 l (wC G ad) g2 x1 rr ff hh) rfl rfl (Nat.le_of_ble_eq_true rfl) rfl dX11_bestColour_8 (fun r3 g4 => ?_)
  refine K_iconst C (v := 1) (by decide) dX11_bestColour_11 ?_
  refine K_isub C dX11_bestColour_12 ?_
  refine K_callSi C (As := [.int x2, .int 0, .int (r3 - 1)]) (rest := []) hy_X11_isWithin wm_X11_189 (by decide) (by decide) (fun rr ff hh => km_X11_isWithin l G ad g4 x2 0 (r3 - 1) rr ff hh) rfl rfl (Nat.le_of_ble_eq_true rfl) rfl dX11_bestColour_13 (fun r5 g6 => ?_)
  refine K_if_ne C (tgt := 29) (by decide) dX11_bestColour_16 ?_ ?_
  · refine K_aload_n C 0 rfl rfl dX11_bestColour_29 ?_
    refine K_getR C kin_X11 rfl (Nat.le_of_ble_eq_true rfl) (shC_291 G ad) 7 (by decide) (b := 288) rfl wf_X11_57 rfl dX11_bestColour_30 ?_
    refine K_aload_n C 0 rfl rfl dX11_bestColour_33 ?_
    refine K_getR C kin_X11 rfl (Nat.le_of_ble_eq_true rfl) (shC_291 G ad) 0 (by decide) (b := 0) rfl wf_X11_12 rfl dX11_bestColour_34 ?_
    refine K_iload_n C 1 rfl rfl dX11_bestColour_37 ?_
    refine K_iload_n C 2 rfl rfl dX11_bestColour_38 ?_
    refine K_callVi C (As := [.ref (kad (wC G ad) 0), .int x1, .int x2]) (rest := []) (Nat.le_of_ble_eq_true rfl) (shC_288 G ad) rfl hy_X1_colourAt wm_X11_231 (by decide) (by decide) (fun rr ff hh => km_X1_colourAt l G ad g6 x1 x2 rr ff hh) rfl rfl (Nat.le_of_ble_eq_true rfl) rfl dX11_bestColour_39 (fun r7 g8 => ?_)
    exact K_xret CX rfl rfl (by decide) dX11_bestColour_42
  · exact K_throw5 CX (is := 228) (text := "there is no such place") (ld := 2) (Or.inl ⟨rfl, rfl⟩) (by decide +kernel) (by decide) (by decide) (Nat.le_of_ble_eq_true rfl) dX11_bestColour_19 dX11_bestColour_22 dX11_bestColour_23 dX11_bestColour_25 dX11_bestColour_28
def cx_X11_familyOf (f : kMem) (x1 x2 : Int32) : Option kXr := kbind (cf_X0_isFamily f x1) (fun r1 g2 => keq r1 0 (some (3, 0, g2)) (keq x2 0 (kchk (kin x1 6) (some (0, (g2 4 (Int32.toNatClampNeg x1)), g2))) (keq x2 1 (kchk (kin x1 6) (some (0, (g2 5 (Int32.toNatClampNeg x1)), g2))) (keq x2 2 (kbind (cf_X0_partsOf g2 x1) (fun r6 g7 => some (0, r6, g7))) (keq x2 3 (kbind (cf_X0_allPiecesOf g2 x1) (fun r9 g10 => some (0, r9, g10))) (keq x2 4 (keq (g2 0 8) x1 (some (0, 1, g2)) (some (0, 0, g2))) (some (2, 0, g2))))))))
set_option maxRecDepth 100000 in
set_option maxHeartbeats 4000000 in
theorem kmx_X11_familyOf (l : Launch) (hst : l.stackTraces = false) (G : kG) (ad : Nat → Nat) (f : kMem) (x1 x2 : Int32) (z : kXr) (h : cx_X11_familyOf f x1 x2 = some z) : kxMet l (wC G ad) yX11_familyOf cX11_familyOf 3 (some .int) 6 2 12 [.ref (kad (wC G ad) 291), .int x1, .int x2] f z := by
  refine kxMet_of (own := RX11) (lv := [(0, .ref (kad (wC G ad) 291)), (1, .int x1), (2, .int x2)]) hst (by decide) rfl (Nat.le_of_ble_eq_true rfl) rfl h ?_
  intro p e R s m args below meth c CX
  have C := CX.1
  unfold cx_X11_familyOf
  refine K_aload_n C 0 rfl rfl dX11_familyOf_0 ?_
  refine K_getR C kin_X11 rfl (Nat.le_of_ble_eq_true rfl) (shC_291 G ad) 0 (by decide) (b := 0) rfl wf_X11_12 rfl dX11_familyOf_1 ?_
  refine K_getR C kin_X4 rfl (Nat.le_of_ble_eq_true rfl) (shC_0 G ad) 0 (by decide) (b := 1) rfl wf_X11_80 rfl dX11_familyOf_4 ?_
  refine K_iload_n C 1 rfl rfl dX11_familyOf_7 ?_
  refine K_callVi C (As := [.int x1]) (rest := []) (Nat.le_of_ble_eq_true rfl) (shC_1 G ad) rfl hy_X0_isFamily wm_X11_198 (by decide) (by decide) (fun rr ff hh => km_X0_isFamily l G ad f x1 rr ff hh) rfl rfl (Nat.le_of_ble_eq_true rfl) rfl dX11_familyOf_8 (fun r1 g2 => ?_)
  refine K_if_ne C (tgt := 24) (by decide) dX11_familyOf_11 ?_ ?_
  · refine K_iload_n C 2 rfl rfl dX11_familyOf_24 ?_
    refine K_case (fun hc3 => ?_) (fun hc3 => ?_)
    · refine K_tin C (off := 35) (tgt := 60) (by rw [hc3]; decide) (by rw [hc3]; decide) (by rw [hc3]; decide) (by decide) dX11_familyOf_25 ?_
      refine K_aload_n C 0 rfl rfl dX11_familyOf_60 ?_
      refine K_getR C kin_X11 rfl (Nat.le_of_ble_eq_true rfl) (shC_291 G ad) 0 (by decide) (b := 0) rfl wf_X11_12 rfl dX11_familyOf_61 ?_
      refine K_getR C kin_X4 rfl (Nat.le_of_ble_eq_true rfl) (shC_0 G ad) 0 (by decide) (b := 1) rfl wf_X11_80 rfl dX11_familyOf_64 ?_
      refine K_getR C kin_X0 rfl (Nat.le_of_ble_eq_true rfl) (shC_1 G ad) 5 (by decide) (b := 4) rfl wf_X11_206 rfl dX11_familyOf_67 ?_
      refine K_iload_n C 1 rfl rfl dX11_familyOf_70 ?_
      refine K_iald C (Nat.le_of_ble_eq_true rfl) (shC_4 G ad) dX11_familyOf_71 ?_
      exact K_xret CX rfl rfl (by decide) dX11_familyOf_72
    · refine K_case (fun hc4 => ?_) (fun hc4 => ?_)
      · refine K_tin C (off := 48) (tgt := 73) (by rw [hc4]; decide) (by rw [hc4]; decide) (by rw [hc4]; decide) (by decide) dX11_familyOf_25 ?_
        refine K_aload_n C 0 rfl rfl dX11_familyOf_73 ?_
        refine K_getR C kin_X11 rfl (Nat.le_of_ble_eq_true rfl) (shC_291 G ad) 0 (by decide) (b := 0) rfl wf_X11_12 rfl dX11_familyOf_74 ?_
        refine K_getR C kin_X4 rfl (Nat.le_of_ble_eq_true rfl) (shC_0 G ad) 0 (by decide) (b := 1) rfl wf_X11_80 rfl dX11_familyOf_77 ?_
        refine K_getR C kin_X0 rfl (Nat.le_of_ble_eq_true rfl) (shC_1 G ad) 6 (by decide) (b := 5) rfl wf_X11_237 rfl dX11_familyOf_80 ?_
        refine K_iload_n C 1 rfl rfl dX11_familyOf_83 ?_
        refine K_iald C (Nat.le_of_ble_eq_true rfl) (shC_5 G ad) dX11_familyOf_84 ?_
        exact K_xret CX rfl rfl (by decide) dX11_familyOf_85
      · refine K_case (fun hc5 => ?_) (fun hc5 => ?_)
        · refine K_tin C (off := 61) (tgt := 86) (by rw [hc5]; decide) (by rw [hc5]; decide) (by rw [hc5]; decide) (by decide) dX11_familyOf_25 ?_
          refine K_aload_n C 0 rfl rfl dX11_familyOf_86 ?_
          refine K_getR C kin_X11 rfl (Nat.le_of_ble_eq_true rfl) (shC_291 G ad) 0 (by decide) (b := 0) rfl wf_X11_12 rfl dX11_familyOf_87 ?_
          refine K_getR C kin_X4 rfl (Nat.le_of_ble_eq_true rfl) (shC_0 G ad) 0 (by decide) (b := 1) rfl wf_X11_80 rfl dX11_familyOf_90 ?_
          refine K_iload_n C 1 rfl rfl dX11_familyOf_93 ?_
          refine K_callVi C (As := [.int x1]) (rest := []) (Nat.le_of_ble_eq_true rfl) (shC_1 G ad) rfl hy_X0_partsOf wm_X11_240 (by decide) (by decide) (fun rr ff hh => km_X0_partsOf l G ad g2 x1 rr ff hh) rfl rfl (Nat.le_of_ble_eq_true rfl) rfl dX11_familyOf_94 (fun r6 g7 => ?_)
          exact K_xret CX rfl rfl (by decide) dX11_familyOf_97
        · refine K_case (fun hc8 => ?_) (fun hc8 => ?_)
          · refine K_tin C (off := 73) (tgt := 98) (by rw [hc8]; decide) (by rw [hc8]; decide) (by rw [hc8]; decide) (by decide) dX11_familyOf_25 ?_
            refine K_aload_n C 0 rfl rfl dX11_familyOf_98 ?_
            refine K_getR C kin_X11 rfl (Nat.le_of_ble_eq_true rfl) (shC_291 G ad) 0 (by decide) (b := 0) rfl wf_X11_12 rfl dX11_familyOf_99 ?_
            refine K_getR C kin_X4 rfl (Nat.le_of_ble_eq_true rfl) (shC_0 G ad) 0 (by decide) (b := 1) rfl wf_X11_80 rfl dX11_familyOf_102 ?_
            refine K_iload_n C 1 rfl rfl dX11_familyOf_105 ?_
            refine K_callVi C (As := [.int x1]) (rest := []) (Nat.le_of_ble_eq_true rfl) (shC_1 G ad) rfl hy_X0_allPiecesOf wm_X11_243 (by decide) (by decide) (fun rr ff hh => km_X0_allPiecesOf l G ad g2 x1 rr ff hh) rfl rfl (Nat.le_of_ble_eq_true rfl) rfl dX11_familyOf_106 (fun r9 g10 => ?_)
            exact K_xret CX rfl rfl (by decide) dX11_familyOf_109
          · refine K_case (fun hc11 => ?_) (fun hc11 => ?_)
            · refine K_tin C (off := 85) (tgt := 110) (by rw [hc11]; decide) (by rw [hc11]; decide) (by rw [hc11]; decide) (by decide) dX11_familyOf_25 ?_
              refine K_aload_n C 0 rfl rfl dX11_familyOf_110 ?_
              refine K_getR C kin_X11 rfl (Nat.le_of_ble_eq_true rfl) (shC_291 G ad) 0 (by decide) (b := 0) rfl wf_X11_12 rfl dX11_familyOf_111 ?_
              refine K_getI C kin_X4 rfl (Nat.le_of_ble_eq_true rfl) (shC_0 G ad) 8 (by decide) rfl wf_X11_195 rfl dX11_familyOf_114 ?_
              refine K_iload_n C 1 rfl rfl dX11_familyOf_117 ?_
              refine K_icmp_ne C (tgt := 125) (by decide) dX11_familyOf_118 ?_ ?_
              · refine K_iconst C (v := 0) (by decide) dX11_familyOf_125 ?_
                exact K_xret CX rfl rfl (by decide) dX11_familyOf_126
              · refine K_iconst C (v := 1) (by decide) dX11_familyOf_121 ?_
                refine K_goto C (tgt := 126) (by decide) dX11_familyOf_122 ?_
                exact K_xret CX rfl rfl (by decide) dX11_familyOf_126
            · refine K_tout C (tgt := 127) (by have q0 := kne 0 (by decide) hc3; have q1 := kne 1 (by decide) hc4; have q2 := kne 2 (by decide) hc5; have q3 := kne 3 (by decide) hc8; have q4 := kne 4 (by decide) hc11; omega) (by decide) dX11_familyOf_25 ?_
              exact K_throw CX (is := 246) (text := "there is no such number of a family") kXok_2 (by decide +kernel) (by decide) (by decide) (Nat.le_of_ble_eq_true rfl) dX11_familyOf_127 dX11_familyOf_130 dX11_familyOf_131 dX11_familyOf_133 dX11_familyOf_136
  · exact K_throw CX (is := 235) (text := "there is no such family") kXok_3 (by decide +kernel) (by decide) (by decide) (Nat.le_of_ble_eq_true rfl) dX11_familyOf_14 dX11_familyOf_17 dX11_familyOf_18 dX11_familyOf_20 dX11_familyOf_23
def cj_X11_pieces_28 (f : kMem) : Option kXr := some (3, 0, f)
def cx_X11_pieces (f : kMem) (x1 x2 : Int32) : Option kXr := kbind (cf_X0_isFamily f x1) (fun r1 g2 => keq r1 0 ((cj_X11_pieces_28 g2)) (kbind (cf_X0_isPart g2 x2) (fun r3 g4 => keq r3 0 ((cj_X11_pieces_28 g4)) (kbind (cf_X0_piecesOf g4 x1 x2) (fun r5 g6 => some (0, r5, g6))))))
set_option maxRecDepth 100000 in
set_option maxHeartbeats 4000000 in
theorem kcj_X11_pieces_28 {p : Program} {l : Launch} {e : Env} {R : Room} {s : State} {m : MethodId} {args : Array Value} {below : List Frame} {meth : Method} {c : Code} {G : kG} {ad : Nat → Nat} {z : kXr} (CX : KCX p l e R s m args below meth c (wC G ad) RX11 cX11_pieces 3 (some .int) 6 2 12)  (f : kMem) : K p l e R s m args below meth c (wC G ad) 3 (kxQF below (wC G ad) (some .int) args s 2 12 z) z 0 0 f 28 [] [] (cj_X11_pieces_28 f) := by
  have C := CX.1
  unfold cj_X11_pieces_28
  exact K_throw CX (is := 251) (text := "there is no such family or part") kXok_3 (by decide +kernel) (by decide) (by decide) (Nat.le_of_ble_eq_true rfl) dX11_pieces_28 dX11_pieces_31 dX11_pieces_32 dX11_pieces_34 dX11_pieces_37
set_option maxRecDepth 100000 in
set_option maxHeartbeats 4000000 in
theorem kmx_X11_pieces (l : Launch) (hst : l.stackTraces = false) (G : kG) (ad : Nat → Nat) (f : kMem) (x1 x2 : Int32) (z : kXr) (h : cx_X11_pieces f x1 x2 = some z) : kxMet l (wC G ad) yX11_pieces cX11_pieces 3 (some .int) 6 2 12 [.ref (kad (wC G ad) 291), .int x1, .int x2] f z := by
  refine kxMet_of (own := RX11) (lv := [(0, .ref (kad (wC G ad) 291)), (1, .int x1), (2, .int x2)]) hst (by decide) rfl (Nat.le_of_ble_eq_true rfl) rfl h ?_
  intro p e R s m args below meth c CX
  have C := CX.1
  unfold cx_X11_pieces
  refine K_aload_n C 0 rfl rfl dX11_pieces_0 ?_
  refine K_getR C kin_X11 rfl (Nat.le_of_ble_eq_true rfl) (shC_291 G ad) 0 (by decide) (b := 0) rfl wf_X11_12 rfl dX11_pieces_1 ?_
  refine K_getR C kin_X4 rfl (Nat.le_of_ble_eq_true rfl) (shC_0 G ad) 0 (by decide) (b := 1) rfl wf_X11_80 rfl dX11_pieces_4 ?_
  refine K_iload_n C 1 rfl rfl dX11_pieces_7 ?_
  refine K_callVi C (As := [.int x1]) (rest := []) (Nat.le_of_ble_eq_true rfl) (shC_1 G ad) rfl hy_X0_isFamily wm_X11_198 (by decide) (by decide) (fun rr ff hh => km_X0_isFamily l G ad f x1 rr ff hh) rfl rfl (Nat.le_of_ble_eq_true rfl) rfl dX11_pieces_8 (fun r1 g2 => ?_)
  refine K_if_eq C (tgt := 28) (by decide) dX11_pieces_11 ?_ ?_
  · refine K_sub [] rfl ?_
    exact kcj_X11_pieces_28 CX g2
  · refine K_aload_n C 0 rfl rfl dX11_pieces_14 ?_
    refine K_getR C kin_X11 rfl (Nat.le_of_ble_eq_true rfl) (shC_291 G ad) 0 (by decide) (b := 0) rfl wf_X11_12 rfl dX11_pieces_15 ?_
    refine K_getR C kin_X4 rfl (Nat.le_of_ble_eq_true rfl) (shC_0 G ad) 0 (by decide) (b := 1) rfl wf_X11_80 rfl dX11_pieces_18 ?_
    refine K_iload_n C 2 rfl rfl dX11_pieces_21 ?_
    refine K_callVi C (As := [.int x2]) (rest := []) (Nat.le_of_ble_eq_true rfl) (shC_1 G ad) rfl hy_X0_isPart wm_X11_248 (by decide) (by decide) (fun rr ff hh => km_X0_isPart l G ad g2 x2 rr ff hh) rfl rfl (Nat.le_of_ble_eq_true rfl) rfl dX11_pieces_22 (fun r3 g4 => ?_)
    refine K_if_ne C (tgt := 38) (by decide) dX11_pieces_25 ?_ ?_
    · refine K_aload_n C 0 rfl rfl dX11_pieces_38 ?_
      refine K_getR C kin_X11 rfl (Nat.le_of_ble_eq_true rfl) (shC_291 G ad) 0 (by decide) (b := 0) rfl wf_X11_12 rfl dX11_pieces_39 ?_
      refine K_getR C kin_X4 rfl (Nat.le_of_ble_eq_true rfl) (shC_0 G ad) 0 (by decide) (b := 1) rfl wf_X11_80 rfl dX11_pieces_42 ?_
      refine K_iload_n C 1 rfl rfl dX11_pieces_45 ?_
      refine K_iload_n C 2 rfl rfl dX11_pieces_46 ?_
      refine K_callVi C (As := [.int x1, .int x2]) (rest := []) (Nat.le_of_ble_eq_true rfl) (shC_1 G ad) rfl hy_X0_piecesOf wm_X11_253 (by decide) (by decide) (fun rr ff hh => km_X0_piecesOf l G ad g4 x1 x2 rr ff hh) rfl rfl (Nat.le_of_ble_eq_true rfl) rfl dX11_pieces_47 (fun r5 g6 => ?_)
      exact K_xret CX rfl rfl (by decide) dX11_pieces_50
    · refine K_sub [] rfl ?_
      exact kcj_X11_pieces_28 CX g4
def cx_X11_families (f : kMem) (x1 : Int32) : Option kXr := kbind (cf_X0_isPart f x1) (fun r1 g2 => keq r1 0 (some (3, 0, g2)) (kbind (cf_X0_familiesWith g2 x1) (fun r3 g4 => some (0, r3, g4))))
set_option maxRecDepth 100000 in
set_option maxHeartbeats 4000000 in
theorem kmx_X11_families (l : Launch) (hst : l.stackTraces = false) (G : kG) (ad : Nat → Nat) (f : kMem) (x1 : Int32) (z : kXr) (h : cx_X11_families f x1 = some z) : kxMet l (wC G ad) yX11_families cX11_families 2 (some .int) 6 2 12 [.ref (kad (wC G ad) 291), .int x1] f z := by
  refine kxMet_of (own := RX11) (lv := [(0, .ref (kad (wC G ad) 291)), (1, .int x1)]) hst (by decide) rfl (Nat.le_of_ble_eq_true rfl) rfl h ?_
  intro p e R s m args below meth c CX
  have C := CX.1
  unfold cx_X11_families
  refine K_aload_n C 0 rfl rfl dX11_families_0 ?_
  refine K_getR C kin_X11 rfl (Nat.le_of_ble_eq_true rfl) (shC_291 G ad) 0 (by decide) (b := 0) rfl wf_X11_12 rfl dX11_families_1 ?_
  refine K_getR C kin_X4 rfl (Nat.le_of_ble_eq_true rfl) (shC_0 G ad) 0 (by decide) (b := 1) rfl wf_X11_80 rfl dX11_families_4 ?_
  refine K_iload_n C 1 rfl rfl dX11_families_7 ?_
  refine K_callVi C (As := [.int x1]) (rest := []) (Nat.le_of_ble_eq_true rfl) (shC_1 G ad) rfl hy_X0_isPart wm_X11_248 (by decide) (by decide) (fun rr ff hh => km_X0_isPart l G ad f x1 rr ff hh) rfl rfl (Nat.le_of_ble_eq_true rfl) rfl dX11_families_8 (fun r1 g2 => ?_)
  refine K_if_ne C (tgt := 25) (by decide) dX11_families_11 ?_ ?_
  · refine K_aload_n C 0 rfl rfl dX11_families_25 ?_
    refine K_getR C kin_X11 rfl (Nat.le_of_ble_eq_true rfl) (shC_291 G ad) 0 (by decide) (b := 0) rfl wf_X11_12 rfl dX11_families_26 ?_
    refine K_getR C kin_X4 rfl (Nat.le_of_ble_eq_true rfl) (shC_0 G ad) 0 (by decide) (b := 1) rfl wf_X11_80 rfl dX11_families_29 ?_
    refine K_iload_n C 1 rfl rfl dX11_families_32 ?_
    refine K_callVi C (As := [.int x1]) (rest := []) (Nat.le_of_ble_eq_true rfl) (shC_1 G ad) rfl hy_X0_familiesWith wm_X11_258 (by decide) (by decide) (fun rr ff hh => km_X0_familiesWith l G ad g2 x1 rr ff hh) rfl rfl (Nat.le_of_ble_eq_true rfl) rfl dX11_families_33 (fun r3 g4 => ?_)
    exact K_xret CX rfl rfl (by decide) dX11_families_36
  · exact K_throwW CX (is := 256) (text := "there is no such part") kXok_3 (by decide +kernel) (by decide) (by decide) (Nat.le_of_ble_eq_true rfl) dX11_families_14 dX11_families_17 dX11_families_18 dX11_families_21 dX11_families_24
def cx_X11_dryer (f : kMem) (x1 x2 : Int32) : Option kXr := kbind (cf_X11_isWithin f x1 0 2) (fun r1 g2 => keq r1 0 (some (3, 0, g2)) (keq x2 0 (kchk (kin x1 3) (some (0, (g2 9 (Int32.toNatClampNeg x1)), g2))) (keq x2 1 (kchk (kin x1 3) (some (0, (g2 10 (Int32.toNatClampNeg x1)), g2))) (keq x2 2 (kchk (kin x1 3) (some (0, (g2 11 (Int32.toNatClampNeg x1)), g2))) (keq x2 3 (kbind (cf_X2_lackingMinutes g2 x1 (g2 7 1)) (fun r7 g8 => some (0, r7, g8))) (some (2, 0, g2)))))))
set_option maxRecDepth 100000 in
set_option maxHeartbeats 4000000 in
theorem kmx_X11_dryer (l : Launch) (hst : l.stackTraces = false) (G : kG) (ad : Nat → Nat) (f : kMem) (x1 x2 : Int32) (z : kXr) (h : cx_X11_dryer f x1 x2 = some z) : kxMet l (wC G ad) yX11_dryer cX11_dryer 3 (some .int) 6 2 12 [.ref (kad (wC G ad) 291), .int x1, .int x2] f z := by
  refine kxMet_of (own := RX11) (lv := [(0, .ref (kad (wC G ad) 291)), (1, .int x1), (2, .int x2)]) hst (by decide) rfl (Nat.le_of_ble_eq_true rfl) rfl h ?_
  intro p e R s m args below meth c CX
  have C := CX.1
  unfold cx_X11_dryer
  refine K_iload_n C 1 rfl rfl dX11_dryer_0 ?_
  refine K_iconst C (v := 0) (by decide) dX11_dryer_1 ?_
  refine K_iconst C (v := 2) (by decide) dX11_dryer_2 ?_
  refine K_callSi C (As := [.int x1, .int 0, .int 2]) (rest := []) hy_X11_isWithin wm_X11_189 (by decide) (by decide) (fun rr ff hh => km_X11_isWithin l G ad f x1 0 2 rr ff hh) rfl rfl (Nat.le_of_ble_eq_true rfl) rfl dX11_dryer_3 (fun r1 g2 => ?_)
  refine K_if_ne C (tgt := 20) (by decide) dX11_dryer_6 ?_ ?_
  · refine K_iload_n C 2 rfl rfl dX11_dryer_20 ?_
    refine K_case (fun hc3 => ?_) (fun hc3 => ?_)
    · refine K_tin C (off := 31) (tgt := 52) (by rw [hc3]; decide) (by rw [hc3]; decide) (by rw [hc3]; decide) (by decide) dX11_dryer_21 ?_
      refine K_aload_n C 0 rfl rfl dX11_dryer_52 ?_
      refine K_getR C kin_X11 rfl (Nat.le_of_ble_eq_true rfl) (shC_291 G ad) 0 (by decide) (b := 0) rfl wf_X11_12 rfl dX11_dryer_53 ?_
      refine K_getR C kin_X4 rfl (Nat.le_of_ble_eq_true rfl) (shC_0 G ad) 1 (by decide) (b := 8) rfl wf_X11_144 rfl dX11_dryer_56 ?_
      refine K_getR C kin_X2 rfl (Nat.le_of_ble_eq_true rfl) (shC_8 G ad) 0 (by decide) (b := 9) rfl wf_X11_263 rfl dX11_dryer_59 ?_
      refine K_iload_n C 1 rfl rfl dX11_dryer_62 ?_
      refine K_iald C (Nat.le_of_ble_eq_true rfl) (shC_9 G ad) dX11_dryer_63 ?_
      exact K_xret CX rfl rfl (by decide) dX11_dryer_64
    · refine K_case (fun hc4 => ?_) (fun hc4 => ?_)
      · refine K_tin C (off := 44) (tgt := 65) (by rw [hc4]; decide) (by rw [hc4]; decide) (by rw [hc4]; decide) (by decide) dX11_dryer_21 ?_
        refine K_aload_n C 0 rfl rfl dX11_dryer_65 ?_
        refine K_getR C kin_X11 rfl (Nat.le_of_ble_eq_true rfl) (shC_291 G ad) 0 (by decide) (b := 0) rfl wf_X11_12 rfl dX11_dryer_66 ?_
        refine K_getR C kin_X4 rfl (Nat.le_of_ble_eq_true rfl) (shC_0 G ad) 1 (by decide) (b := 8) rfl wf_X11_144 rfl dX11_dryer_69 ?_
        refine K_getR C kin_X2 rfl (Nat.le_of_ble_eq_true rfl) (shC_8 G ad) 1 (by decide) (b := 10) rfl wf_X11_266 rfl dX11_dryer_72 ?_
        refine K_iload_n C 1 rfl rfl dX11_dryer_75 ?_
        refine K_iald C (Nat.le_of_ble_eq_true rfl) (shC_10 G ad) dX11_dryer_76 ?_
        exact K_xret CX rfl rfl (by decide) dX11_dryer_77
      · refine K_case (fun hc5 => ?_) (fun hc5 => ?_)
        · refine K_tin C (off := 57) (tgt := 78) (by rw [hc5]; decide) (by rw [hc5]; decide) (by rw [hc5]; decide) (by decide) dX11_dryer_21 ?_
          refine K_aload_n C 0 rfl rfl dX11_dryer_78 ?_
          refine K_getR C kin_X11 rfl (Nat.le_of_ble_eq_true rfl) (shC_291 G ad) 0 (by decide) (b := 0) rfl wf_X11_12 rfl dX11_dryer_79 ?_
          refine K_getR C kin_X4 rfl (Nat.le_of_ble_eq_true rfl) (shC_0 G ad) 1 (by decide) (b := 8) rfl wf_X11_144 rfl dX11_dryer_82 ?_
          refine K_getR C kin_X2 rfl (Nat.le_of_ble_eq_true rfl) (shC_8 G ad) 2 (by decide) (b := 11) rfl wf_X11_269 rfl dX11_dryer_85 ?_
          refine K_iload_n C 1 rfl rfl dX11_dryer_88 ?_
          refine K_iald C (Nat.le_of_ble_eq_true rfl) (shC_11 G ad) dX11_dryer_89 ?_
          exact K_xret CX rfl rfl (by decide) dX11_dryer_90
        · refine K_case (fun hc6 => ?_) (fun hc6 => ?_)
          · refine K_tin C (off := 70) (tgt := 91) (by rw [hc6]; decide) (by rw [hc6]; decide) (by rw [hc6]; decide) (by decide) dX11_dryer_21 ?_
            refine K_aload_n C 0 rfl rfl dX11_dryer_91 ?_
            refine K_getR C kin_X11 rfl (Nat.le_of_ble_eq_true rfl) (shC_291 G ad) 0 (by decide) (b := 0) rfl wf_X11_12 rfl dX11_dryer_92 ?_
            refine K_getR C kin_X4 rfl (Nat.le_of_ble_eq_true rfl) (shC_0 G ad) 1 (by decide) (b := 8) rfl wf_X11_144 rfl dX11_dryer_95 ?_
            refine K_iload_n C 1 rfl rfl dX11_dryer_98 ?_
            refine K_aload_n C 0 rfl rfl dX11_dryer_99 ?_
            refine K_getR C kin_X11 rfl (Nat.le_of_ble_eq_true rfl) (shC_291 G ad) 0 (by decide) (b := 0) rfl wf_X11_12 rfl dX11_dryer_100 ?_
            refine K_getR C kin_X4 rfl (Nat.le_of_ble_eq_true rfl) (shC_0 G ad) 0 (by decide) (b := 1) rfl wf_X11_80 rfl dX11_dryer_103 ?_
            refine K_getR C kin_X0 rfl (Nat.le_of_ble_eq_true rfl) (shC_1 G ad) 8 (by decide) (b := 7) rfl wf_X11_272 rfl dX11_dryer_106 ?_
            refine K_iconst C (v := 1) (by decide) dX11_dryer_109 ?_
            refine K_ialdC C (Nat.le_of_ble_eq_true rfl) (shC_7 G ad) (kin_in (by decide)) dX11_dryer_110 1 (by decide) ?_
            refine K_callVi C (As := [.int x1, .int (g2 7 1)]) (rest := []) (Nat.le_of_ble_eq_true rfl) (shC_8 G ad) rfl hy_X2_lackingMinutes wm_X11_275 (by decide) (by decide) (fun rr ff hh => km_X2_lackingMinutes l G ad g2 x1 (g2 7 1) rr ff hh) rfl rfl (Nat.le_of_ble_eq_true rfl) rfl dX11_dryer_111 (fun r7 g8 => ?_)
            exact K_xret CX rfl rfl (by decide) dX11_dryer_114
          · refine K_tout C (tgt := 115) (by have q0 := kne 0 (by decide) hc3; have q1 := kne 1 (by decide) hc4; have q2 := kne 2 (by decide) hc5; have q3 := kne 3 (by decide) hc6; omega) (by decide) dX11_dryer_21 ?_
            exact K_throwW CX (is := 278) (text := "there is no such number of a dryer") kXok_2 (by decide +kernel) (by decide) (by decide) (Nat.le_of_ble_eq_true rfl) dX11_dryer_115 dX11_dryer_118 dX11_dryer_119 dX11_dryer_122 dX11_dryer_125
  · exact K_throwW CX (is := 261) (text := "there is no such dryer") kXok_3 (by decide +kernel) (by decide) (by decide) (Nat.le_of_ble_eq_true rfl) dX11_dryer_9 dX11_dryer_12 dX11_dryer_13 dX11_dryer_16 dX11_dryer_19
def cj_X11_stock_28 (f : kMem) : Option kXr := some (3, 0, f)
def cx_X11_stock (f : kMem) (x1 x2 x3 : Int32) : Option kXr := kbind (cf_X0_isPart f x1) (fun r1 g2 => keq r1 0 ((cj_X11_stock_28 g2)) (kbind (cf_X0_isColour g2 x2) (fun r3 g4 => keq r3 0 ((cj_X11_stock_28 g4)) (klet ((x1 * 6) + x2) (fun x4_5 => keq x3 0 (kchk (kin x4_5 48) (some (0, (g4 13 (Int32.toNatClampNeg x4_5)), g4))) (keq x3 1 (kchk (kin x4_5 48) (some (0, (g4 14 (Int32.toNatClampNeg x4_5)), g4))) (keq x3 2 (kchk (kin x4_5 48) (some (0, (g4 15 (Int32.toNatClampNeg x4_5)), g4))) (some (2, 0, g4)))))))))
set_option maxRecDepth 100000 in
set_option maxHeartbeats 4000000 in
theorem kcj_X11_stock_28 {p : Program} {l : Launch} {e : Env} {R : Room} {s : State} {m : MethodId} {args : Array Value} {below : List Frame} {meth : Method} {c : Code} {G : kG} {ad : Nat → Nat} {z : kXr} (CX : KCX p l e R s m args below meth c (wC G ad) RX11 cX11_stock 5 (some .int) 6 2 12)  (f : kMem) : K p l e R s m args below meth c (wC G ad) 5 (kxQF below (wC G ad) (some .int) args s 2 12 z) z 0 0 f 28 [] [] (cj_X11_stock_28 f) := by
  have C := CX.1
  unfold cj_X11_stock_28
  exact K_throwW CX (is := 280) (text := "there is no such part or colour") kXok_3 (by decide +kernel) (by decide) (by decide) (Nat.le_of_ble_eq_true rfl) dX11_stock_28 dX11_stock_31 dX11_stock_32 dX11_stock_35 dX11_stock_38
set_option maxRecDepth 100000 in
set_option maxHeartbeats 4000000 in
theorem kmx_X11_stock (l : Launch) (hst : l.stackTraces = false) (G : kG) (ad : Nat → Nat) (f : kMem) (x1 x2 x3 : Int32) (z : kXr) (h : cx_X11_stock f x1 x2 x3 = some z) : kxMet l (wC G ad) yX11_stock cX11_stock 5 (some .int) 6 2 12 [.ref (kad (wC G ad) 291), .int x1, .int x2, .int x3] f z := by
  refine kxMet_of (own := RX11) (lv := [(0, .ref (kad (wC G ad) 291)), (1, .int x1), (2, .int x2), (3, .int x3)]) hst (by decide) rfl (Nat.le_of_ble_eq_true rfl) rfl h ?_
  intro p e R s m args below meth c CX
  have C := CX.1
  unfold cx_X11_stock
  refine K_aload_n C 0 rfl rfl dX11_stock_0 ?_
  refine K_getR C kin_X11 rfl (Nat.le_of_ble_eq_true rfl) (shC_291 G ad) 0 (by decide) (b := 0) rfl wf_X11_12 rfl dX11_stock_1 ?_
  refine K_getR C kin_X4 rfl (Nat.le_of_ble_eq_true rfl) (shC_0 G ad) 0 (by decide) (b := 1) rfl wf_X11_80 rfl dX11_stock_4 ?_
  refine K_iload_n C 1 rfl rfl dX11_stock_7 ?_
  refine K_callVi C (As := [.int x1]) (rest := []) (Nat.le_of_ble_eq_true rfl) (shC_1 G ad) rfl hy_X0_isPart wm_X11_248 (by decide) (by decide) (fun rr ff hh => km_X0_isPart l G ad f x1 rr ff hh) rfl rfl (Nat.le_of_ble_eq_true rfl) rfl dX11_stock_8 (fun r1 g2 => ?_)
  refine K_if_eq C (tgt := 28) (by decide) dX11_stock_11 ?_ ?_
  · refine K_sub [] rfl ?_
    exact kcj_X11_stock_28 CX g2
  · refine K_aload_n C 0 rfl rfl dX11_stock_14 ?_
    refine K_getR C kin_X11 rfl (Nat.le_of_ble_eq_true rfl) (shC_291 G ad) 0 (by decide) (b := 0) rfl wf_X11_12 rfl dX11_stock_15 ?_
    refine K_getR C kin_X4 rfl (Nat.le_of_ble_eq_true rfl) (shC_0 G ad) 0 (by decide) (b := 1) rfl wf_X11_80 rfl dX11_stock_18 ?_
    refine K_iload_n C 2 rfl rfl dX11_stock_21 ?_
    refine K_callVi C (As := [.int x2]) (rest := []) (Nat.le_of_ble_eq_true rfl) (shC_1 G ad) rfl hy_X0_isColour wm_X11_176 (by decide) (by decide) (fun rr ff hh => km_X0_isColour l G ad g2 x2 rr ff hh) rfl rfl (Nat.le_of_ble_eq_true rfl) rfl dX11_stock_22 (fun r3 g4 => ?_)
    refine K_if_ne C (tgt := 39) (by decide) dX11_stock_25 ?_ ?_
    · refine K_iload_n C 1 rfl rfl dX11_stock_39 ?_
      refine K_bipush C (v := 6) (by decide) dX11_stock_40 ?_
      refine K_imul C dX11_stock_42 ?_
      refine K_iload_n C 2 rfl rfl dX11_stock_43 ?_
      refine K_iadd C dX11_stock_44 ?_
      refine K_let rfl (fun x4_5 => ?_)
      refine K_istore C (lv1 := [(4, .int x4_5), (0, .ref (kad (wC G ad) 291)), (1, .int x1), (2, .int x2), (3, .int x3)]) (by decide) rfl dX11_stock_45 ?_
      refine K_iload_n C 4 rfl rfl dX11_stock_47 ?_
      refine K_case (fun hc6 => ?_) (fun hc6 => ?_)
      · refine K_tin C (off := 28) (tgt := 76) (by rw [hc6]; decide) (by rw [hc6]; decide) (by rw [hc6]; decide) (by decide) dX11_stock_48 ?_
        refine K_aload_n C 1 rfl rfl dX11_stock_76 ?_
        refine K_getR C kin_X11 rfl (Nat.le_of_ble_eq_true rfl) (shC_291 G ad) 0 (by decide) (b := 0) rfl wf_X11_12 rfl dX11_stock_77 ?_
        refine K_getR C kin_X4 rfl (Nat.le_of_ble_eq_true rfl) (shC_0 G ad) 2 (by decide) (b := 12) rfl wf_X11_282 rfl dX11_stock_80 ?_
        refine K_getR C kin_X9 rfl (Nat.le_of_ble_eq_true rfl) (shC_12 G ad) 0 (by decide) (b := 13) rfl wf_X11_286 rfl dX11_stock_83 ?_
        refine K_iload C 0 rfl dX11_stock_86 ?_
        refine K_iald C (Nat.le_of_ble_eq_true rfl) (shC_13 G ad) dX11_stock_88 ?_
        exact K_xret CX rfl rfl (by decide) dX11_stock_89
      · refine K_case (fun hc7 => ?_) (fun hc7 => ?_)
        · refine K_tin C (off := 42) (tgt := 90) (by rw [hc7]; decide) (by rw [hc7]; decide) (by rw [hc7]; decide) (by decide) dX11_stock_48 ?_
          refine K_aload_n C 1 rfl rfl dX11_stock_90 ?_
          refine K_getR C kin_X11 rfl (Nat.le_of_ble_eq_true rfl) (shC_291 G ad) 0 (by decide) (b := 0) rfl wf_X11_12 rfl dX11_stock_91 ?_
          refine K_getR C kin_X4 rfl (Nat.le_of_ble_eq_true rfl) (shC_0 G ad) 2 (by decide) (b := 12) rfl wf_X11_282 rfl dX11_stock_94 ?_
          refine K_getR C kin_X9 rfl (Nat.le_of_ble_eq_true rfl) (shC_12 G ad) 1 (by decide) (b := 14) rfl wf_X11_291 rfl dX11_stock_97 ?_
          refine K_iload C 0 rfl dX11_stock_100 ?_
          refine K_iald C (Nat.le_of_ble_eq_true rfl) (shC_14 G ad) dX11_stock_102 ?_
          exact K_xret CX rfl rfl (by decide) dX11_stock_103
        · refine K_case (fun hc8 => ?_) (fun hc8 => ?_)
          · refine K_tin C (off := 56) (tgt := 104) (by rw [hc8]; decide) (by rw [hc8]; decide) (by rw [hc8]; decide) (by decide) dX11_stock_48 ?_
            refine K_aload_n C 1 rfl rfl dX11_stock_104 ?_
            refine K_getR C kin_X11 rfl (Nat.le_of_ble_eq_true rfl) (shC_291 G ad) 0 (by decide) (b := 0) rfl wf_X11_12 rfl dX11_stock_105 ?_
            refine K_getR C kin_X4 rfl (Nat.le_of_ble_eq_true rfl) (shC_0 G ad) 2 (by decide) (b := 12) rfl wf_X11_282 rfl dX11_stock_108 ?_
            refine K_getR C kin_X9 rfl (Nat.le_of_ble_eq_true rfl) (shC_12 G ad) 2 (by decide) (b := 15) rfl wf_X11_294 rfl dX11_stock_111 ?_
            refine K_iload C 0 rfl dX11_stock_114 ?_
            refine K_iald C (Nat.le_of_ble_eq_true rfl) (shC_15 G ad) dX11_stock_116 ?_
            exact K_xret CX rfl rfl (by decide) dX11_stock_117
          · refine K_tout C (tgt := 118) (by have q0 := kne 0 (by decide) hc6; have q1 := kne 1 (by decide) hc7; have q2 := kne 2 (by decide) hc8; omega) (by decide) dX11_stock_48 ?_
            exact K_throwW CX (is := 297) (text := "there is no such number of a stock") kXok_2 (by decide +kernel) (by decide) (by decide) (Nat.le_of_ble_eq_true rfl) dX11_stock_118 dX11_stock_121 dX11_stock_122 dX11_stock_125 dX11_stock_128
    · refine K_sub [] rfl ?_
      exact kcj_X11_stock_28 CX g4
def cx_X11_made (f : kMem) (x1 x2 : Int32) : Option kXr := kbind (cf_X0_isPart f x1) (fun r1 g2 => keq r1 0 (some (3, 0, g2)) (keq x2 0 (kchk (kin x1 8) (some (0, (g2 16 (Int32.toNatClampNeg x1)), g2))) (keq x2 1 (kbind (cf_X9_cratesOf g2 x1) (fun r5 g6 => kchk (kin x1 8) (some (0, (r5 * (g6 3 (Int32.toNatClampNeg x1))), g6)))) (keq x2 2 (kbind (cf_X9_restOf g2 x1) (fun r8 g9 => some (0, r8, g9))) (keq x2 3 (kchk (kin x1 8) (some (0, (g2 17 (Int32.toNatClampNeg x1)), g2))) (some (2, 0, g2)))))))
set_option maxRecDepth 100000 in
set_option maxHeartbeats 4000000 in
theorem kmx_X11_made (l : Launch) (hst : l.stackTraces = false) (G : kG) (ad : Nat → Nat) (f : kMem) (x1 x2 : Int32) (z : kXr) (h : cx_X11_made f x1 x2 = some z) : kxMet l (wC G ad) yX11_made cX11_made 3 (some .int) 6 2 12 [.ref (kad (wC G ad) 291), .int x1, .int x2] f z := by
  refine kxMet_of (own := RX11) (lv := [(0, .ref (kad (wC G ad) 291)), (1, .int x1), (2, .int x2)]) hst (by decide) rfl (Nat.le_of_ble_eq_true rfl) rfl h ?_
  intro p e R s m args below meth c CX
  have C := CX.1
  unfold cx_X11_made
  refine K_aload_n C 0 rfl rfl dX11_made_0 ?_
  refine K_getR C kin_X11 rfl (Nat.le_of_ble_eq_true rfl) (shC_291 G ad) 0 (by decide) (b := 0) rfl wf_X11_12 rfl dX11_made_1 ?_
  refine K_getR C kin_X4 rfl (Nat.le_of_ble_eq_true rfl) (shC_0 G ad) 0 (by decide) (b := 1) rfl wf_X11_80 rfl dX11_made_4 ?_
  refine K_iload_n C 1 rfl rfl dX11_made_7 ?_
  refine K_callVi C (As := [.int x1]) (rest := []) (Nat.le_of_ble_eq_true rfl) (shC_1 G ad) rfl hy_X0_isPart wm_X11_248 (by decide) (by decide) (fun rr ff hh => km_X0_isPart l G ad f x1 rr ff hh) rfl rfl (Nat.le_of_ble_eq_true rfl) rfl dX11_made_8 (fun r1 g2 => ?_)
  refine K_if_ne C (tgt := 25) (by decide) dX11_made_11 ?_ ?_
  · refine K_iload_n C 2 rfl rfl dX11_made_25 ?_
    refine K_case (fun hc3 => ?_) (fun hc3 => ?_)
    · refine K_tin C (off := 30) (tgt := 56) (by rw [hc3]; decide) (by rw [hc3]; decide) (by rw [hc3]; decide) (by decide) dX11_made_26 ?_
      refine K_aload_n C 0 rfl rfl dX11_made_56 ?_
      refine K_getR C kin_X11 rfl (Nat.le_of_ble_eq_true rfl) (shC_291 G ad) 0 (by decide) (b := 0) rfl wf_X11_12 rfl dX11_made_57 ?_
      refine K_getR C kin_X4 rfl (Nat.le_of_ble_eq_true rfl) (shC_0 G ad) 2 (by decide) (b := 12) rfl wf_X11_282 rfl dX11_made_60 ?_
      refine K_getR C kin_X9 rfl (Nat.le_of_ble_eq_true rfl) (shC_12 G ad) 3 (by decide) (b := 16) rfl wf_X11_299 rfl dX11_made_63 ?_
      refine K_iload_n C 1 rfl rfl dX11_made_66 ?_
      refine K_iald C (Nat.le_of_ble_eq_true rfl) (shC_16 G ad) dX11_made_67 ?_
      exact K_xret CX rfl rfl (by decide) dX11_made_68
    · refine K_case (fun hc4 => ?_) (fun hc4 => ?_)
      · refine K_tin C (off := 43) (tgt := 69) (by rw [hc4]; decide) (by rw [hc4]; decide) (by rw [hc4]; decide) (by decide) dX11_made_26 ?_
        refine K_aload_n C 0 rfl rfl dX11_made_69 ?_
        refine K_getR C kin_X11 rfl (Nat.le_of_ble_eq_true rfl) (shC_291 G ad) 0 (by decide) (b := 0) rfl wf_X11_12 rfl dX11_made_70 ?_
        refine K_getR C kin_X4 rfl (Nat.le_of_ble_eq_true rfl) (shC_0 G ad) 2 (by decide) (b := 12) rfl wf_X11_282 rfl dX11_made_73 ?_
        refine K_iload_n C 1 rfl rfl dX11_made_76 ?_
        refine K_callVi C (As := [.int x1]) (rest := []) (Nat.le_of_ble_eq_true rfl) (shC_12 G ad) rfl hy_X9_cratesOf wm_X11_302 (by decide) (by decide) (fun rr ff hh => km_X9_cratesOf l G ad g2 x1 rr ff hh) rfl rfl (Nat.le_of_ble_eq_true rfl) rfl dX11_made_77 (fun r5 g6 => ?_)
        refine K_aload_n C 0 rfl rfl dX11_made_80 ?_
        refine K_getR C kin_X11 rfl (Nat.le_of_ble_eq_true rfl) (shC_291 G ad) 0 (by decide) (b := 0) rfl wf_X11_12 rfl dX11_made_81 ?_
        refine K_getR C kin_X4 rfl (Nat.le_of_ble_eq_true rfl) (shC_0 G ad) 0 (by decide) (b := 1) rfl wf_X11_80 rfl dX11_made_84 ?_
        refine K_getR C kin_X0 rfl (Nat.le_of_ble_eq_true rfl) (shC_1 G ad) 4 (by decide) (b := 3) rfl wf_X11_305 rfl dX11_made_87 ?_
        refine K_iload_n C 1 rfl rfl dX11_made_90 ?_
        refine K_iald C (Nat.le_of_ble_eq_true rfl) (shC_3 G ad) dX11_made_91 ?_
        refine K_imul C dX11_made_92 ?_
        exact K_xret CX rfl rfl (by decide) dX11_made_93
      · refine K_case (fun hc7 => ?_) (fun hc7 => ?_)
        · refine K_tin C (off := 68) (tgt := 94) (by rw [hc7]; decide) (by rw [hc7]; decide) (by rw [hc7]; decide) (by decide) dX11_made_26 ?_
          refine K_aload_n C 0 rfl rfl dX11_made_94 ?_
          refine K_getR C kin_X11 rfl (Nat.le_of_ble_eq_true rfl) (shC_291 G ad) 0 (by decide) (b := 0) rfl wf_X11_12 rfl dX11_made_95 ?_
          refine K_getR C kin_X4 rfl (Nat.le_of_ble_eq_true rfl) (shC_0 G ad) 2 (by decide) (b := 12) rfl wf_X11_282 rfl dX11_made_98 ?_
          refine K_iload_n C 1 rfl rfl dX11_made_101 ?_
          refine K_callVi C (As := [.int x1]) (rest := []) (Nat.le_of_ble_eq_true rfl) (shC_12 G ad) rfl hy_X9_restOf wm_X11_308 (by decide) (by decide) (fun rr ff hh => km_X9_restOf l G ad g2 x1 rr ff hh) rfl rfl (Nat.le_of_ble_eq_true rfl) rfl dX11_made_102 (fun r8 g9 => ?_)
          exact K_xret CX rfl rfl (by decide) dX11_made_105
        · refine K_case (fun hc10 => ?_) (fun hc10 => ?_)
          · refine K_tin C (off := 80) (tgt := 106) (by rw [hc10]; decide) (by rw [hc10]; decide) (by rw [hc10]; decide) (by decide) dX11_made_26 ?_
            refine K_aload_n C 0 rfl rfl dX11_made_106 ?_
            refine K_getR C kin_X11 rfl (Nat.le_of_ble_eq_true rfl) (shC_291 G ad) 0 (by decide) (b := 0) rfl wf_X11_12 rfl dX11_made_107 ?_
            refine K_getR C kin_X4 rfl (Nat.le_of_ble_eq_true rfl) (shC_0 G ad) 2 (by decide) (b := 12) rfl wf_X11_282 rfl dX11_made_110 ?_
            refine K_getR C kin_X9 rfl (Nat.le_of_ble_eq_true rfl) (shC_12 G ad) 4 (by decide) (b := 17) rfl wf_X11_311 rfl dX11_made_113 ?_
            refine K_iload_n C 1 rfl rfl dX11_made_116 ?_
            refine K_iald C (Nat.le_of_ble_eq_true rfl) (shC_17 G ad) dX11_made_117 ?_
            exact K_xret CX rfl rfl (by decide) dX11_made_118
          · refine K_tout C (tgt := 119) (by have q0 := kne 0 (by decide) hc3; have q1 := kne 1 (by decide) hc4; have q2 := kne 2 (by decide) hc7; have q3 := kne 3 (by decide) hc10; omega) (by decide) dX11_made_26 ?_
            exact K_throwW CX (is := 314) (text := "there is no such number of pieces") kXok_2 (by decide +kernel) (by decide) (by decide) (Nat.le_of_ble_eq_true rfl) dX11_made_119 dX11_made_122 dX11_made_123 dX11_made_126 dX11_made_129
  · exact K_throwW CX (is := 256) (text := "there is no such part") kXok_3 (by decide +kernel) (by decide) (by decide) (Nat.le_of_ble_eq_true rfl) dX11_made_14 dX11_made_17 dX11_made_18 dX11_made_21 dX11_made_24
def cx_X11_checkOrder (f : kMem) (x1 : Int32) : Option kXr := kbind (cf_X6_isOrder f x1) (fun r1 g2 => keq r1 0 (some (3, 0, g2)) (some (0, 0, g2)))
set_option maxRecDepth 100000 in
set_option maxHeartbeats 4000000 in
theorem kmx_X11_checkOrder (l : Launch) (hst : l.stackTraces = false) (G : kG) (ad : Nat → Nat) (f : kMem) (x1 : Int32) (z : kXr) (h : cx_X11_checkOrder f x1 = some z) : kxMet l (wC G ad) yX11_checkOrder cX11_checkOrder 2 none 6 1 6 [.ref (kad (wC G ad) 291), .int x1] f z := by
  refine kxMet_of (own := RX11) (lv := [(0, .ref (kad (wC G ad) 291)), (1, .int x1)]) hst (by decide) rfl (Nat.le_of_ble_eq_true rfl) rfl h ?_
  intro p e R s m args below meth c CX
  have C := CX.1
  unfold cx_X11_checkOrder
  refine K_aload_n C 0 rfl rfl dX11_checkOrder_0 ?_
  refine K_getR C kin_X11 rfl (Nat.le_of_ble_eq_true rfl) (shC_291 G ad) 0 (by decide) (b := 0) rfl wf_X11_12 rfl dX11_checkOrder_1 ?_
  refine K_getR C kin_X4 rfl (Nat.le_of_ble_eq_true rfl) (shC_0 G ad) 3 (by decide) (b := 18) rfl wf_X11_164 rfl dX11_checkOrder_4 ?_
  refine K_iload_n C 1 rfl rfl dX11_checkOrder_7 ?_
  refine K_callVi C (As := [.int x1]) (rest := []) (Nat.le_of_ble_eq_true rfl) (shC_18 G ad) rfl hy_X6_isOrder wm_X11_443 (by decide) (by decide) (fun rr ff hh => km_X6_isOrder l G ad f x1 rr ff hh) rfl rfl (Nat.le_of_ble_eq_true rfl) rfl dX11_checkOrder_8 (fun r1 g2 => ?_)
  refine K_if_ne C (tgt := 25) (by decide) dX11_checkOrder_11 ?_ ?_
  · exact K_xvret CX rfl (by decide) dX11_checkOrder_25
  · exact K_throwW CX (is := 446) (text := "there is no such order") kXok_3 (by decide +kernel) (by decide) (by decide) (Nat.le_of_ble_eq_true rfl) dX11_checkOrder_14 dX11_checkOrder_17 dX11_checkOrder_18 dX11_checkOrder_21 dX11_checkOrder_24
def cx_X11_orderOf (f : kMem) (x1 x2 : Int32) : Option kXr := kxbind (cx_X11_checkOrder f x1) (fun r1 g2 => keq x2 0 (kchk (kin x1 10) (some (0, (g2 19 (Int32.toNatClampNeg x1)), g2))) (keq x2 1 (kchk (kin x1 10) (some (0, (g2 20 (Int32.toNatClampNeg x1)), g2))) (keq x2 2 (kchk (kin x1 10) (some (0, (g2 21 (Int32.toNatClampNeg x1)), g2))) (keq x2 3 (kchk (kin x1 10) (some (0, (g2 22 (Int32.toNatClampNeg x1)), g2))) (keq x2 4 (kchk (kin x1 10) (some (0, (g2 23 (Int32.toNatClampNeg x1)), g2))) (keq x2 5 (kchk (kin x1 10) (some (0, (g2 24 (Int32.toNatClampNeg x1)), g2))) (some (2, 0, g2))))))))
set_option maxRecDepth 100000 in
set_option maxHeartbeats 4000000 in
theorem kmx_X11_orderOf (l : Launch) (hst : l.stackTraces = false) (G : kG) (ad : Nat → Nat) (f : kMem) (x1 x2 : Int32) (z : kXr) (h : cx_X11_orderOf f x1 x2 = some z) : kxMet l (wC G ad) yX11_orderOf cX11_orderOf 3 (some .int) 7 2 12 [.ref (kad (wC G ad) 291), .int x1, .int x2] f z := by
  refine kxMet_of (own := RX11) (lv := [(0, .ref (kad (wC G ad) 291)), (1, .int x1), (2, .int x2)]) hst (by decide) rfl (Nat.le_of_ble_eq_true rfl) rfl h ?_
  intro p e R s m args below meth c CX
  have C := CX.1
  unfold cx_X11_orderOf
  refine K_aload_n C 0 rfl rfl dX11_orderOf_0 ?_
  refine K_iload_n C 1 rfl rfl dX11_orderOf_1 ?_
  refine K_callXv CX (As := [.int x1]) (rest := []) (Nat.le_of_ble_eq_true rfl) (shC_291 G ad) rfl hy_X11_checkOrder wm_X11_316 (by decide) (by decide) (fun zz hh => kmx_X11_checkOrder l CX.2.2.1 G ad f x1 zz hh) rfl rfl (Nat.le_of_ble_eq_true rfl) rfl dX11_orderOf_2 (fun r1 g2 => ?_)
  refine K_iload_n C 2 rfl rfl dX11_orderOf_5 ?_
  refine K_case (fun hc3 => ?_) (fun hc3 => ?_)
  · refine K_tin C (off := 38) (tgt := 44) (by rw [hc3]; decide) (by rw [hc3]; decide) (by rw [hc3]; decide) (by decide) dX11_orderOf_6 ?_
    refine K_aload_n C 0 rfl rfl dX11_orderOf_44 ?_
    refine K_getR C kin_X11 rfl (Nat.le_of_ble_eq_true rfl) (shC_291 G ad) 0 (by decide) (b := 0) rfl wf_X11_12 rfl dX11_orderOf_45 ?_
    refine K_getR C kin_X4 rfl (Nat.le_of_ble_eq_true rfl) (shC_0 G ad) 3 (by decide) (b := 18) rfl wf_X11_164 rfl dX11_orderOf_48 ?_
    refine K_getR C kin_X6 rfl (Nat.le_of_ble_eq_true rfl) (shC_18 G ad) 1 (by decide) (b := 19) rfl wf_X11_319 rfl dX11_orderOf_51 ?_
    refine K_iload_n C 1 rfl rfl dX11_orderOf_54 ?_
    refine K_iald C (Nat.le_of_ble_eq_true rfl) (shC_19 G ad) dX11_orderOf_55 ?_
    exact K_xret CX rfl rfl (by decide) dX11_orderOf_56
  · refine K_case (fun hc4 => ?_) (fun hc4 => ?_)
    · refine K_tin C (off := 51) (tgt := 57) (by rw [hc4]; decide) (by rw [hc4]; decide) (by rw [hc4]; decide) (by decide) dX11_orderOf_6 ?_
      refine K_aload_n C 0 rfl rfl dX11_orderOf_57 ?_
      refine K_getR C kin_X11 rfl (Nat.le_of_ble_eq_true rfl) (shC_291 G ad) 0 (by decide) (b := 0) rfl wf_X11_12 rfl dX11_orderOf_58 ?_
      refine K_getR C kin_X4 rfl (Nat.le_of_ble_eq_true rfl) (shC_0 G ad) 3 (by decide) (b := 18) rfl wf_X11_164 rfl dX11_orderOf_61 ?_
      refine K_getR C kin_X6 rfl (Nat.le_of_ble_eq_true rfl) (shC_18 G ad) 2 (by decide) (b := 20) rfl wf_X11_322 rfl dX11_orderOf_64 ?_
      refine K_iload_n C 1 rfl rfl dX11_orderOf_67 ?_
      refine K_iald C (Nat.le_of_ble_eq_true rfl) (shC_20 G ad) dX11_orderOf_68 ?_
      exact K_xret CX rfl rfl (by decide) dX11_orderOf_69
    · refine K_case (fun hc5 => ?_) (fun hc5 => ?_)
      · refine K_tin C (off := 64) (tgt := 70) (by rw [hc5]; decide) (by rw [hc5]; decide) (by rw [hc5]; decide) (by decide) dX11_orderOf_6 ?_
        refine K_aload_n C 0 rfl rfl dX11_orderOf_70 ?_
        refine K_getR C kin_X11 rfl (Nat.le_of_ble_eq_true rfl) (shC_291 G ad) 0 (by decide) (b := 0) rfl wf_X11_12 rfl dX11_orderOf_71 ?_
        refine K_getR C kin_X4 rfl (Nat.le_of_ble_eq_true rfl) (shC_0 G ad) 3 (by decide) (b := 18) rfl wf_X11_164 rfl dX11_orderOf_74 ?_
        refine K_getR C kin_X6 rfl (Nat.le_of_ble_eq_true rfl) (shC_18 G ad) 3 (by decide) (b := 21) rfl wf_X11_323 rfl dX11_orderOf_77 ?_
        refine K_iload_n C 1 rfl rfl dX11_orderOf_80 ?_
        refine K_iald C (Nat.le_of_ble_eq_true rfl) (shC_21 G ad) dX11_orderOf_81 ?_
        exact K_xret CX rfl rfl (by decide) dX11_orderOf_82
      · refine K_case (fun hc6 => ?_) (fun hc6 => ?_)
        · refine K_tin C (off := 77) (tgt := 83) (by rw [hc6]; decide) (by rw [hc6]; decide) (by rw [hc6]; decide) (by decide) dX11_orderOf_6 ?_
          refine K_aload_n C 0 rfl rfl dX11_orderOf_83 ?_
          refine K_getR C kin_X11 rfl (Nat.le_of_ble_eq_true rfl) (shC_291 G ad) 0 (by decide) (b := 0) rfl wf_X11_12 rfl dX11_orderOf_84 ?_
          refine K_getR C kin_X4 rfl (Nat.le_of_ble_eq_true rfl) (shC_0 G ad) 3 (by decide) (b := 18) rfl wf_X11_164 rfl dX11_orderOf_87 ?_
          refine K_getR C kin_X6 rfl (Nat.le_of_ble_eq_true rfl) (shC_18 G ad) 4 (by decide) (b := 22) rfl wf_X11_326 rfl dX11_orderOf_90 ?_
          refine K_iload_n C 1 rfl rfl dX11_orderOf_93 ?_
          refine K_iald C (Nat.le_of_ble_eq_true rfl) (shC_22 G ad) dX11_orderOf_94 ?_
          exact K_xret CX rfl rfl (by decide) dX11_orderOf_95
        · refine K_case (fun hc7 => ?_) (fun hc7 => ?_)
          · refine K_tin C (off := 90) (tgt := 96) (by rw [hc7]; decide) (by rw [hc7]; decide) (by rw [hc7]; decide) (by decide) dX11_orderOf_6 ?_
            refine K_aload_n C 0 rfl rfl dX11_orderOf_96 ?_
            refine K_getR C kin_X11 rfl (Nat.le_of_ble_eq_true rfl) (shC_291 G ad) 0 (by decide) (b := 0) rfl wf_X11_12 rfl dX11_orderOf_97 ?_
            refine K_getR C kin_X4 rfl (Nat.le_of_ble_eq_true rfl) (shC_0 G ad) 3 (by decide) (b := 18) rfl wf_X11_164 rfl dX11_orderOf_100 ?_
            refine K_getR C kin_X6 rfl (Nat.le_of_ble_eq_true rfl) (shC_18 G ad) 5 (by decide) (b := 23) rfl wf_X11_329 rfl dX11_orderOf_103 ?_
            refine K_iload_n C 1 rfl rfl dX11_orderOf_106 ?_
            refine K_iald C (Nat.le_of_ble_eq_true rfl) (shC_23 G ad) dX11_orderOf_107 ?_
            exact K_xret CX rfl rfl (by decide) dX11_orderOf_108
          · refine K_case (fun hc8 => ?_) (fun hc8 => ?_)
            · refine K_tin C (off := 103) (tgt := 109) (by rw [hc8]; decide) (by rw [hc8]; decide) (by rw [hc8]; decide) (by decide) dX11_orderOf_6 ?_
              refine K_aload_n C 0 rfl rfl dX11_orderOf_109 ?_
              refine K_getR C kin_X11 rfl (Nat.le_of_ble_eq_true rfl) (shC_291 G ad) 0 (by decide) (b := 0) rfl wf_X11_12 rfl dX11_orderOf_110 ?_
              refine K_getR C kin_X4 rfl (Nat.le_of_ble_eq_true rfl) (shC_0 G ad) 3 (by decide) (b := 18) rfl wf_X11_164 rfl dX11_orderOf_113 ?_
              refine K_getR C kin_X6 rfl (Nat.le_of_ble_eq_true rfl) (shC_18 G ad) 6 (by decide) (b := 24) rfl wf_X11_332 rfl dX11_orderOf_116 ?_
              refine K_iload_n C 1 rfl rfl dX11_orderOf_119 ?_
              refine K_iald C (Nat.le_of_ble_eq_true rfl) (shC_24 G ad) dX11_orderOf_120 ?_
              exact K_xret CX rfl rfl (by decide) dX11_orderOf_121
            · refine K_tout C (tgt := 122) (by have q0 := kne 0 (by decide) hc3; have q1 := kne 1 (by decide) hc4; have q2 := kne 2 (by decide) hc5; have q3 := kne 3 (by decide) hc6; have q4 := kne 4 (by decide) hc7; have q5 := kne 5 (by decide) hc8; omega) (by decide) dX11_orderOf_6 ?_
              exact K_throwW CX (is := 335) (text := "there is no such number of an order") kXok_2 (by decide +kernel) (by decide) (by decide) (Nat.le_of_ble_eq_true rfl) dX11_orderOf_122 dX11_orderOf_125 dX11_orderOf_126 dX11_orderOf_129 dX11_orderOf_132
def cj_X11_shots_32 (f : kMem) : Option kXr := some (5, 0, f)
def cx_X11_shots (f : kMem) (x1 : Int32) : Option kXr := kxbind (cx_X11_checkOrder f x1) (fun r1 g2 => kbind (cf_X4_piecesFor g2 x1) (fun r3 g4 => kbind (cf_X6_isOpen g4 x1) (fun r5 g6 => keq r5 0 ((cj_X11_shots_32 g6)) (klt 0 r3 (kbind (cf_X4_lackingPieces g6 x1) (fun r7 g8 => kchk (!decide (r3 = 0)) (some (0, (((r7 + r3) - 1) / r3), g8)))) ((cj_X11_shots_32 g6))))))
set_option maxRecDepth 100000 in
set_option maxHeartbeats 4000000 in
theorem kcj_X11_shots_32 {p : Program} {l : Launch} {e : Env} {R : Room} {s : State} {m : MethodId} {args : Array Value} {below : List Frame} {meth : Method} {c : Code} {G : kG} {ad : Nat → Nat} {z : kXr} (CX : KCX p l e R s m args below meth c (wC G ad) RX11 cX11_shots 4 (some .int) 7 2 12)  (f : kMem) : K p l e R s m args below meth c (wC G ad) 4 (kxQF below (wC G ad) (some .int) args s 2 12 z) z 1 6 f 32 [] [] (cj_X11_shots_32 f) := by
  have C := CX.1
  unfold cj_X11_shots_32
  exact K_throw5 CX (is := 343) (text := "the family that is mounted cannot make this order") (ld := 3) (Or.inr ⟨rfl, rfl⟩) (by decide +kernel) (by decide) (by decide) (Nat.le_of_ble_eq_true rfl) dX11_shots_32 dX11_shots_35 dX11_shots_36 dX11_shots_39 dX11_shots_42
set_option maxRecDepth 100000 in
set_option maxHeartbeats 4000000 in
theorem kmx_X11_shots (l : Launch) (hst : l.stackTraces = false) (G : kG) (ad : Nat → Nat) (f : kMem) (x1 : Int32) (z : kXr) (h : cx_X11_shots f x1 = some z) : kxMet l (wC G ad) yX11_shots cX11_shots 4 (some .int) 7 2 12 [.ref (kad (wC G ad) 291), .int x1] f z := by
  refine kxMet_of (own := RX11) (lv := [(0, .ref (kad (wC G ad) 291)), (1, .int x1)]) hst (by decide) rfl (Nat.le_of_ble_eq_true rfl) rfl h ?_
  intro p e R s m args below meth c CX
  have C := CX.1
  unfold cx_X11_shots
  refine K_aload_n C 0 rfl rfl dX11_shots_0 ?_
  refine K_iload_n C 1 rfl rfl dX11_shots_1 ?_
  refine K_callXv CX (As := [.int x1]) (rest := []) (Nat.le_of_ble_eq_true rfl) (shC_291 G ad) rfl hy_X11_checkOrder wm_X11_316 (by decide) (by decide) (fun zz hh => kmx_X11_checkOrder l CX.2.2.1 G ad f x1 zz hh) rfl rfl (Nat.le_of_ble_eq_true rfl) rfl dX11_shots_2 (fun r1 g2 => ?_)
  refine K_aload_n C 0 rfl rfl dX11_shots_5 ?_
  refine K_getR C kin_X11 rfl (Nat.le_of_ble_eq_true rfl) (shC_291 G ad) 0 (by decide) (b := 0) rfl wf_X11_12 rfl dX11_shots_6 ?_
  refine K_iload_n C 1 rfl rfl dX11_shots_9 ?_
  refine K_callVi C (As := [.int x1]) (rest := []) (Nat.le_of_ble_eq_true rfl) (shC_0 G ad) rfl hy_X4_piecesFor wm_X11_337 (by decide) (by decide) (fun rr ff hh => km_X4_piecesFor l G ad g2 x1 rr ff hh) rfl rfl (Nat.le_of_ble_eq_true rfl) rfl dX11_shots_10 (fun r3 g4 => ?_)
  refine K_istore_n C (lv1 := [(2, .int r3), (0, .ref (kad (wC G ad) 291)), (1, .int x1)]) rfl (by decide) rfl dX11_shots_13 ?_
  refine K_aload_n C 1 rfl rfl dX11_shots_14 ?_
  refine K_getR C kin_X11 rfl (Nat.le_of_ble_eq_true rfl) (shC_291 G ad) 0 (by decide) (b := 0) rfl wf_X11_12 rfl dX11_shots_15 ?_
  refine K_getR C kin_X4 rfl (Nat.le_of_ble_eq_true rfl) (shC_0 G ad) 3 (by decide) (b := 18) rfl wf_X11_164 rfl dX11_shots_18 ?_
  refine K_iload_n C 2 rfl rfl dX11_shots_21 ?_
  refine K_callVi C (As := [.int x1]) (rest := []) (Nat.le_of_ble_eq_true rfl) (shC_18 G ad) rfl hy_X6_isOpen wm_X11_340 (by decide) (by decide) (fun rr ff hh => km_X6_isOpen l G ad g4 x1 rr ff hh) rfl rfl (Nat.le_of_ble_eq_true rfl) rfl dX11_shots_22 (fun r5 g6 => ?_)
  refine K_if_eq C (tgt := 32) (by decide) dX11_shots_25 ?_ ?_
  · refine K_sub [] rfl ?_
    exact kcj_X11_shots_32 CX g6
  · refine K_iload_n C 0 rfl rfl dX11_shots_28 ?_
    refine K_if_gt C (tgt := 43) (by decide) dX11_shots_29 ?_ ?_
    · refine K_aload_n C 1 rfl rfl dX11_shots_43 ?_
      refine K_getR C kin_X11 rfl (Nat.le_of_ble_eq_true rfl) (shC_291 G ad) 0 (by decide) (b := 0) rfl wf_X11_12 rfl dX11_shots_44 ?_
      refine K_iload_n C 2 rfl rfl dX11_shots_47 ?_
      refine K_callVi C (As := [.int x1]) (rest := []) (Nat.le_of_ble_eq_true rfl) (shC_0 G ad) rfl hy_X4_lackingPieces wm_X11_345 (by decide) (by decide) (fun rr ff hh => km_X4_lackingPieces l G ad g6 x1 rr ff hh) rfl rfl (Nat.le_of_ble_eq_true rfl) rfl dX11_shots_48 (fun r7 g8 => ?_)
      refine K_istore_n C (lv1 := [(3, .int r7), (2, .int r3), (0, .ref (kad (wC G ad) 291)), (1, .int x1)]) rfl (by decide) rfl dX11_shots_51 ?_
      refine K_iload_n C 0 rfl rfl dX11_shots_52 ?_
      refine K_iload_n C 1 rfl rfl dX11_shots_53 ?_
      refine K_iadd C dX11_shots_54 ?_
      refine K_iconst C (v := 1) (by decide) dX11_shots_55 ?_
      refine K_isub C dX11_shots_56 ?_
      refine K_iload_n C 1 rfl rfl dX11_shots_57 ?_
      refine K_idiv C dX11_shots_58 ?_
      exact K_xret CX rfl rfl (by decide) dX11_shots_59
    · refine K_sub [] rfl ?_
      exact kcj_X11_shots_32 CX g6
def cx_X11_letter (f : kMem) (x1 : Int32) : Option kXr := kxbind (cx_X11_checkOrder f x1) (fun r1 g2 => kchk (kin x1 10) (keq (g2 23 (Int32.toNatClampNeg x1)) 1 (some (0, 100, g2)) (keq (g2 23 (Int32.toNatClampNeg x1)) 2 (some (0, 99, g2)) (kchk (kin x1 10) (kle (g2 24 (Int32.toNatClampNeg x1)) 0 (some (0, 111, g2)) (some (0, 108, g2)))))))
set_option maxRecDepth 100000 in
set_option maxHeartbeats 4000000 in
theorem kmx_X11_letter (l : Launch) (hst : l.stackTraces = false) (G : kG) (ad : Nat → Nat) (f : kMem) (x1 : Int32) (z : kXr) (h : cx_X11_letter f x1 = some z) : kxMet l (wC G ad) yX11_letter cX11_letter 2 (some .char) 7 2 12 [.ref (kad (wC G ad) 291), .int x1] f z := by
  refine kxMet_of (own := RX11) (lv := [(0, .ref (kad (wC G ad) 291)), (1, .int x1)]) hst (by decide) rfl (Nat.le_of_ble_eq_true rfl) rfl h ?_
  intro p e R s m args below meth c CX
  have C := CX.1
  unfold cx_X11_letter
  refine K_aload_n C 0 rfl rfl dX11_letter_0 ?_
  refine K_iload_n C 1 rfl rfl dX11_letter_1 ?_
  refine K_callXv CX (As := [.int x1]) (rest := []) (Nat.le_of_ble_eq_true rfl) (shC_291 G ad) rfl hy_X11_checkOrder wm_X11_316 (by decide) (by decide) (fun zz hh => kmx_X11_checkOrder l CX.2.2.1 G ad f x1 zz hh) rfl rfl (Nat.le_of_ble_eq_true rfl) rfl dX11_letter_2 (fun r1 g2 => ?_)
  refine K_aload_n C 0 rfl rfl dX11_letter_5 ?_
  refine K_getR C kin_X11 rfl (Nat.le_of_ble_eq_true rfl) (shC_291 G ad) 0 (by decide) (b := 0) rfl wf_X11_12 rfl dX11_letter_6 ?_
  refine K_getR C kin_X4 rfl (Nat.le_of_ble_eq_true rfl) (shC_0 G ad) 3 (by decide) (b := 18) rfl wf_X11_164 rfl dX11_letter_9 ?_
  refine K_getR C kin_X6 rfl (Nat.le_of_ble_eq_true rfl) (shC_18 G ad) 5 (by decide) (b := 23) rfl wf_X11_329 rfl dX11_letter_12 ?_
  refine K_iload_n C 1 rfl rfl dX11_letter_15 ?_
  refine K_iald C (Nat.le_of_ble_eq_true rfl) (shC_23 G ad) dX11_letter_16 ?_
  refine K_case (fun hc3 => ?_) (fun hc3 => ?_)
  · refine K_lsw C (off := 27) (tgt := 44) (by decide) (by rw [hc3]; decide) (by decide) dX11_letter_17 ?_
    refine K_bipush C (v := 100) (by decide) dX11_letter_44 ?_
    exact K_xret CX rfl (by decide) (by decide) dX11_letter_46
  · refine K_case (fun hc4 => ?_) (fun hc4 => ?_)
    · refine K_lsw C (off := 30) (tgt := 47) (by decide) (by rw [hc4]; decide) (by decide) dX11_letter_17 ?_
      refine K_bipush C (v := 99) (by decide) dX11_letter_47 ?_
      exact K_xret CX rfl (by decide) (by decide) dX11_letter_49
    · refine K_lsw C (off := 33) (tgt := 50) (by decide) (by have q1 := kne 1 (by decide) hc3; have q2 := kne 2 (by decide) hc4; simp [Op.lookupswitch.offset, Ne.symm q1, Ne.symm q2]) (by decide) dX11_letter_17 ?_
      refine K_aload_n C 0 rfl rfl dX11_letter_50 ?_
      refine K_getR C kin_X11 rfl (Nat.le_of_ble_eq_true rfl) (shC_291 G ad) 0 (by decide) (b := 0) rfl wf_X11_12 rfl dX11_letter_51 ?_
      refine K_getR C kin_X4 rfl (Nat.le_of_ble_eq_true rfl) (shC_0 G ad) 3 (by decide) (b := 18) rfl wf_X11_164 rfl dX11_letter_54 ?_
      refine K_getR C kin_X6 rfl (Nat.le_of_ble_eq_true rfl) (shC_18 G ad) 6 (by decide) (b := 24) rfl wf_X11_332 rfl dX11_letter_57 ?_
      refine K_iload_n C 1 rfl rfl dX11_letter_60 ?_
      refine K_iald C (Nat.le_of_ble_eq_true rfl) (shC_24 G ad) dX11_letter_61 ?_
      refine K_if_le C (tgt := 70) (by decide) dX11_letter_62 ?_ ?_
      · refine K_bipush C (v := 111) (by decide) dX11_letter_70 ?_
        exact K_xret CX rfl (by decide) (by decide) dX11_letter_72
      · refine K_bipush C (v := 108) (by decide) dX11_letter_65 ?_
        refine K_goto C (tgt := 72) (by decide) dX11_letter_67 ?_
        exact K_xret CX rfl (by decide) (by decide) dX11_letter_72
def cx_X11_due (f : kMem) (x1 : Int32) : Option kXr := kle 0 x1 (kbind (cf_X6_openUpTo f x1) (fun r1 g2 => some (0, r1, g2))) (some (2, 0, f))
set_option maxRecDepth 100000 in
set_option maxHeartbeats 4000000 in
theorem kmx_X11_due (l : Launch) (hst : l.stackTraces = false) (G : kG) (ad : Nat → Nat) (f : kMem) (x1 : Int32) (z : kXr) (h : cx_X11_due f x1 = some z) : kxMet l (wC G ad) yX11_due cX11_due 2 (some .int) 6 2 12 [.ref (kad (wC G ad) 291), .int x1] f z := by
  refine kxMet_of (own := RX11) (lv := [(0, .ref (kad (wC G ad) 291)), (1, .int x1)]) hst (by decide) rfl (Nat.le_of_ble_eq_true rfl) rfl h ?_
  intro p e R s m args below meth c CX
  have C := CX.1
  unfold cx_X11_due
  refine K_iload_n C 1 rfl rfl dX11_due_0 ?_
  refine K_if_ge C (tgt := 15) (by decide) dX11_due_1 ?_ ?_
  · refine K_aload_n C 0 rfl rfl dX11_due_15 ?_
    refine K_getR C kin_X11 rfl (Nat.le_of_ble_eq_true rfl) (shC_291 G ad) 0 (by decide) (b := 0) rfl wf_X11_12 rfl dX11_due_16 ?_
    refine K_getR C kin_X4 rfl (Nat.le_of_ble_eq_true rfl) (shC_0 G ad) 3 (by decide) (b := 18) rfl wf_X11_164 rfl dX11_due_19 ?_
    refine K_iload_n C 1 rfl rfl dX11_due_22 ?_
    refine K_callVi C (As := [.int x1]) (rest := []) (Nat.le_of_ble_eq_true rfl) (shC_18 G ad) rfl hy_X6_openUpTo wm_X11_350 (by decide) (by decide) (fun rr ff hh => km_X6_openUpTo l G ad f x1 rr ff hh) rfl rfl (Nat.le_of_ble_eq_true rfl) rfl dX11_due_23 (fun r1 g2 => ?_)
    exact K_xret CX rfl rfl (by decide) dX11_due_26
  · exact K_throwW CX (is := 348) (text := "the week is negative") kXok_2 (by decide +kernel) (by decide) (by decide) (Nat.le_of_ble_eq_true rfl) dX11_due_4 dX11_due_7 dX11_due_8 dX11_due_11 dX11_due_14
def cx_X11_reason (f : kMem) (x1 x2 : Int32) : Option kXr := kle 0 x1 (kbind (cf_X11_isWithin f x1 0 ((f 277 2) - 1)) (fun r1 g2 => keq r1 0 (some (5, 0, g2)) (keq x2 0 (kchk (kin x1 3) (some (0, (g2 278 (Int32.toNatClampNeg x1)), g2))) (kchk (kin x1 3) (some (0, (g2 279 (Int32.toNatClampNeg x1)), g2)))))) (some (2, 0, f))
set_option maxRecDepth 100000 in
set_option maxHeartbeats 4000000 in
theorem kmx_X11_reason (l : Launch) (hst : l.stackTraces = false) (G : kG) (ad : Nat → Nat) (f : kMem) (x1 x2 : Int32) (z : kXr) (h : cx_X11_reason f x1 x2 = some z) : kxMet l (wC G ad) yX11_reason cX11_reason 3 (some .int) 6 2 12 [.ref (kad (wC G ad) 291), .int x1, .int x2] f z := by
  refine kxMet_of (own := RX11) (lv := [(0, .ref (kad (wC G ad) 291)), (1, .int x1), (2, .int x2)]) hst (by decide) rfl (Nat.le_of_ble_eq_true rfl) rfl h ?_
  intro p e R s m args below meth c CX
  have C := CX.1
  unfold cx_X11_reason
  refine K_iload_n C 1 rfl rfl dX11_reason_0 ?_
  refine K_if_ge C (tgt := 15) (by decide) dX11_reason_1 ?_ ?_
  · refine K_iload_n C 1 rfl rfl dX11_reason_15 ?_
    refine K_iconst C (v := 0) (by decide) dX11_reason_16 ?_
    refine K_aload_n C 0 rfl rfl dX11_reason_17 ?_
    refine K_getR C kin_X11 rfl (Nat.le_of_ble_eq_true rfl) (shC_291 G ad) 3 (by decide) (b := 277) rfl wf_X11_29 rfl dX11_reason_18 ?_
    refine K_getI C kin_X8 rfl (Nat.le_of_ble_eq_true rfl) (shC_277 G ad) 2 (by decide) rfl wf_X11_355 rfl dX11_reason_21 ?_
    refine K_iconst C (v := 1) (by decide) dX11_reason_24 ?_
    refine K_isub C dX11_reason_25 ?_
    refine K_callSi C (As := [.int x1, .int 0, .int ((f 277 2) - 1)]) (rest := []) hy_X11_isWithin wm_X11_189 (by decide) (by decide) (fun rr ff hh => km_X11_isWithin l G ad f x1 0 ((f 277 2) - 1) rr ff hh) rfl rfl (Nat.le_of_ble_eq_true rfl) rfl dX11_reason_26 (fun r1 g2 => ?_)
    refine K_if_ne C (tgt := 43) (by decide) dX11_reason_29 ?_ ?_
    · refine K_iload_n C 2 rfl rfl dX11_reason_43 ?_
      refine K_if_eq C (tgt := 59) (by decide) dX11_reason_44 ?_ ?_
      · refine K_aload_n C 0 rfl rfl dX11_reason_59 ?_
        refine K_getR C kin_X11 rfl (Nat.le_of_ble_eq_true rfl) (shC_291 G ad) 3 (by decide) (b := 277) rfl wf_X11_29 rfl dX11_reason_60 ?_
        refine K_getR C kin_X8 rfl (Nat.le_of_ble_eq_true rfl) (shC_277 G ad) 0 (by decide) (b := 278) rfl wf_X11_361 rfl dX11_reason_63 ?_
        refine K_iload_n C 1 rfl rfl dX11_reason_66 ?_
        refine K_iald C (Nat.le_of_ble_eq_true rfl) (shC_278 G ad) dX11_reason_67 ?_
        exact K_xret CX rfl rfl (by decide) dX11_reason_68
      · refine K_aload_n C 0 rfl rfl dX11_reason_47 ?_
        refine K_getR C kin_X11 rfl (Nat.le_of_ble_eq_true rfl) (shC_291 G ad) 3 (by decide) (b := 277) rfl wf_X11_29 rfl dX11_reason_48 ?_
        refine K_getR C kin_X8 rfl (Nat.le_of_ble_eq_true rfl) (shC_277 G ad) 1 (by decide) (b := 279) rfl wf_X11_358 rfl dX11_reason_51 ?_
        refine K_iload_n C 1 rfl rfl dX11_reason_54 ?_
        refine K_iald C (Nat.le_of_ble_eq_true rfl) (shC_279 G ad) dX11_reason_55 ?_
        refine K_goto C (tgt := 68) (by decide) dX11_reason_56 ?_
        exact K_xret CX rfl rfl (by decide) dX11_reason_68
    · exact K_throw5 CX (is := 356) (text := "there is no reason so far behind") (ld := 3) (Or.inr ⟨rfl, rfl⟩) (by decide +kernel) (by decide) (by decide) (Nat.le_of_ble_eq_true rfl) dX11_reason_32 dX11_reason_35 dX11_reason_36 dX11_reason_39 dX11_reason_42
  · exact K_throwW CX (is := 353) (text := "the depth is negative") kXok_2 (by decide +kernel) (by decide) (by decide) (Nat.le_of_ble_eq_true rfl) dX11_reason_4 dX11_reason_7 dX11_reason_8 dX11_reason_11 dX11_reason_14
def cx_X11_account (f : kMem) (x1 : Int32) : Option kXr := keq x1 0 (some (0, (f 1 0), f)) (keq x1 1 (some (0, (f 1 1), f)) (keq x1 2 (some (0, (f 1 2), f)) (keq x1 3 (some (0, (f 18 0), f)) (keq x1 4 (kbind (cf_X6_countOf f 0) (fun r6 g7 => some (0, r6, g7))) (keq x1 5 (some (0, (f 0 4), f)) (keq x1 6 (some (0, (f 0 5), f)) (keq x1 7 (some (0, (f 0 7), f)) (keq x1 8 (some (0, (f 0 8), f)) (keq x1 9 (kbind (cf_X2_allGrams f) (fun r13 g14 => some (0, r13, g14))) (keq x1 10 (some (0, (f 0 9), f)) (keq x1 11 (some (0, (f 0 10), f)) (keq x1 12 (some (0, (f 0 11), f)) (keq x1 13 (some (0, (f 275 2), f)) (keq x1 14 (some (0, (f 280 2), f)) (keq x1 15 (some (0, (f 7 0), f)) (keq x1 16 (some (0, (f 7 1), f)) (keq x1 17 (some (0, (f 7 2), f)) (keq x1 18 (some (0, (f 7 3), f)) (some (2, 0, f))))))))))))))))))))
set_option maxRecDepth 100000 in
set_option maxHeartbeats 4000000 in
theorem kmx_X11_account (l : Launch) (hst : l.stackTraces = false) (G : kG) (ad : Nat → Nat) (f : kMem) (x1 : Int32) (z : kXr) (h : cx_X11_account f x1 = some z) : kxMet l (wC G ad) yX11_account cX11_account 2 (some .int) 6 2 12 [.ref (kad (wC G ad) 291), .int x1] f z := by
  refine kxMet_of (own := RX11) (lv := [(0, .ref (kad (wC G ad) 291)), (1, .int x1)]) hst (by decide) rfl (Nat.le_of_ble_eq_true rfl) rfl h ?_
  intro p e R s m args below meth c CX
  have C := CX.1
  unfold cx_X11_account
  refine K_iload_n C 1 rfl rfl dX11_account_0 ?_
  refine K_case (fun hc1 => ?_) (fun hc1 => ?_)
  · refine K_tin C (off := 91) (tgt := 92) (by rw [hc1]; decide) (by rw [hc1]; decide) (by rw [hc1]; decide) (by decide) dX11_account_1 ?_
    refine K_aload_n C 0 rfl rfl dX11_account_92 ?_
    refine K_getR C kin_X11 rfl (Nat.le_of_ble_eq_true rfl) (shC_291 G ad) 0 (by decide) (b := 0) rfl wf_X11_12 rfl dX11_account_93 ?_
    refine K_getR C kin_X4 rfl (Nat.le_of_ble_eq_true rfl) (shC_0 G ad) 0 (by decide) (b := 1) rfl wf_X11_80 rfl dX11_account_96 ?_
    refine K_getI C kin_X0 rfl (Nat.le_of_ble_eq_true rfl) (shC_1 G ad) 0 (by decide) rfl wf_X11_382 rfl dX11_account_99 ?_
    exact K_xret CX rfl rfl (by decide) dX11_account_102
  · refine K_case (fun hc2 => ?_) (fun hc2 => ?_)
    · refine K_tin C (off := 102) (tgt := 103) (by rw [hc2]; decide) (by rw [hc2]; decide) (by rw [hc2]; decide) (by decide) dX11_account_1 ?_
      refine K_aload_n C 0 rfl rfl dX11_account_103 ?_
      refine K_getR C kin_X11 rfl (Nat.le_of_ble_eq_true rfl) (shC_291 G ad) 0 (by decide) (b := 0) rfl wf_X11_12 rfl dX11_account_104 ?_
      refine K_getR C kin_X4 rfl (Nat.le_of_ble_eq_true rfl) (shC_0 G ad) 0 (by decide) (b := 1) rfl wf_X11_80 rfl dX11_account_107 ?_
      refine K_getI C kin_X0 rfl (Nat.le_of_ble_eq_true rfl) (shC_1 G ad) 1 (by decide) rfl wf_X11_385 rfl dX11_account_110 ?_
      exact K_xret CX rfl rfl (by decide) dX11_account_113
    · refine K_case (fun hc3 => ?_) (fun hc3 => ?_)
      · refine K_tin C (off := 113) (tgt := 114) (by rw [hc3]; decide) (by rw [hc3]; decide) (by rw [hc3]; decide) (by decide) dX11_account_1 ?_
        refine K_aload_n C 0 rfl rfl dX11_account_114 ?_
        refine K_getR C kin_X11 rfl (Nat.le_of_ble_eq_true rfl) (shC_291 G ad) 0 (by decide) (b := 0) rfl wf_X11_12 rfl dX11_account_115 ?_
        refine K_getR C kin_X4 rfl (Nat.le_of_ble_eq_true rfl) (shC_0 G ad) 0 (by decide) (b := 1) rfl wf_X11_80 rfl dX11_account_118 ?_
        refine K_getI C kin_X0 rfl (Nat.le_of_ble_eq_true rfl) (shC_1 G ad) 2 (by decide) rfl wf_X11_388 rfl dX11_account_121 ?_
        exact K_xret CX rfl rfl (by decide) dX11_account_124
      · refine K_case (fun hc4 => ?_) (fun hc4 => ?_)
        · refine K_tin C (off := 124) (tgt := 125) (by rw [hc4]; decide) (by rw [hc4]; decide) (by rw [hc4]; decide) (by decide) dX11_account_1 ?_
          refine K_aload_n C 0 rfl rfl dX11_account_125 ?_
          refine K_getR C kin_X11 rfl (Nat.le_of_ble_eq_true rfl) (shC_291 G ad) 0 (by decide) (b := 0) rfl wf_X11_12 rfl dX11_account_126 ?_
          refine K_getR C kin_X4 rfl (Nat.le_of_ble_eq_true rfl) (shC_0 G ad) 3 (by decide) (b := 18) rfl wf_X11_164 rfl dX11_account_129 ?_
          refine K_getI C kin_X6 rfl (Nat.le_of_ble_eq_true rfl) (shC_18 G ad) 0 (by decide) rfl wf_X11_391 rfl dX11_account_132 ?_
          exact K_xret CX rfl rfl (by decide) dX11_account_135
        · refine K_case (fun hc5 => ?_) (fun hc5 => ?_)
          · refine K_tin C (off := 135) (tgt := 136) (by rw [hc5]; decide) (by rw [hc5]; decide) (by rw [hc5]; decide) (by decide) dX11_account_1 ?_
            refine K_aload_n C 0 rfl rfl dX11_account_136 ?_
            refine K_getR C kin_X11 rfl (Nat.le_of_ble_eq_true rfl) (shC_291 G ad) 0 (by decide) (b := 0) rfl wf_X11_12 rfl dX11_account_137 ?_
            refine K_getR C kin_X4 rfl (Nat.le_of_ble_eq_true rfl) (shC_0 G ad) 3 (by decide) (b := 18) rfl wf_X11_164 rfl dX11_account_140 ?_
            refine K_iconst C (v := 0) (by decide) dX11_account_143 ?_
            refine K_callVi C (As := [.int 0]) (rest := []) (Nat.le_of_ble_eq_true rfl) (shC_18 G ad) rfl hy_X6_countOf wm_X11_373 (by decide) (by decide) (fun rr ff hh => km_X6_countOf l G ad f 0 rr ff hh) rfl rfl (Nat.le_of_ble_eq_true rfl) rfl dX11_account_144 (fun r6 g7 => ?_)
            exact K_xret CX rfl rfl (by decide) dX11_account_147
          · refine K_case (fun hc8 => ?_) (fun hc8 => ?_)
            · refine K_tin C (off := 147) (tgt := 148) (by rw [hc8]; decide) (by rw [hc8]; decide) (by rw [hc8]; decide) (by decide) dX11_account_1 ?_
              refine K_aload_n C 0 rfl rfl dX11_account_148 ?_
              refine K_getR C kin_X11 rfl (Nat.le_of_ble_eq_true rfl) (shC_291 G ad) 0 (by decide) (b := 0) rfl wf_X11_12 rfl dX11_account_149 ?_
              refine K_getI C kin_X4 rfl (Nat.le_of_ble_eq_true rfl) (shC_0 G ad) 4 (by decide) rfl wf_X11_392 rfl dX11_account_152 ?_
              exact K_xret CX rfl rfl (by decide) dX11_account_155
            · refine K_case (fun hc9 => ?_) (fun hc9 => ?_)
              · refine K_tin C (off := 155) (tgt := 156) (by rw [hc9]; decide) (by rw [hc9]; decide) (by rw [hc9]; decide) (by decide) dX11_account_1 ?_
                refine K_aload_n C 0 rfl rfl dX11_account_156 ?_
                refine K_getR C kin_X11 rfl (Nat.le_of_ble_eq_true rfl) (shC_291 G ad) 0 (by decide) (b := 0) rfl wf_X11_12 rfl dX11_account_157 ?_
                refine K_getI C kin_X4 rfl (Nat.le_of_ble_eq_true rfl) (shC_0 G ad) 5 (by decide) rfl wf_X11_395 rfl dX11_account_160 ?_
                exact K_xret CX rfl rfl (by decide) dX11_account_163
              · refine K_case (fun hc10 => ?_) (fun hc10 => ?_)
                · refine K_tin C (off := 163) (tgt := 164) (by rw [hc10]; decide) (by rw [hc10]; decide) (by rw [hc10]; decide) (by decide) dX11_account_1 ?_
                  refine K_aload_n C 0 rfl rfl dX11_account_164 ?_
                  refine K_getR C kin_X11 rfl (Nat.le_of_ble_eq_true rfl) (shC_291 G ad) 0 (by decide) (b := 0) rfl wf_X11_12 rfl dX11_account_165 ?_
                  refine K_getI C kin_X4 rfl (Nat.le_of_ble_eq_true rfl) (shC_0 G ad) 7 (by decide) rfl wf_X11_203 rfl dX11_account_168 ?_
                  exact K_xret CX rfl rfl (by decide) dX11_account_171
                · refine K_case (fun hc11 => ?_) (fun hc11 => ?_)
                  · refine K_tin C (off := 171) (tgt := 172) (by rw [hc11]; decide) (by rw [hc11]; decide) (by rw [hc11]; decide) (by decide) dX11_account_1 ?_
                    refine K_aload_n C 0 rfl rfl dX11_account_172 ?_
                    refine K_getR C kin_X11 rfl (Nat.le_of_ble_eq_true rfl) (shC_291 G ad) 0 (by decide) (b := 0) rfl wf_X11_12 rfl dX11_account_173 ?_
                    refine K_getI C kin_X4 rfl (Nat.le_of_ble_eq_true rfl) (shC_0 G ad) 8 (by decide) rfl wf_X11_195 rfl dX11_account_176 ?_
                    exact K_xret CX rfl rfl (by decide) dX11_account_179
                  · refine K_case (fun hc12 => ?_) (fun hc12 => ?_)
                    · refine K_tin C (off := 179) (tgt := 180) (by rw [hc12]; decide) (by rw [hc12]; decide) (by rw [hc12]; decide) (by decide) dX11_account_1 ?_
                      refine K_aload_n C 0 rfl rfl dX11_account_180 ?_
                      refine K_getR C kin_X11 rfl (Nat.le_of_ble_eq_true rfl) (shC_291 G ad) 0 (by decide) (b := 0) rfl wf_X11_12 rfl dX11_account_181 ?_
                      refine K_getR C kin_X4 rfl (Nat.le_of_ble_eq_true rfl) (shC_0 G ad) 1 (by decide) (b := 8) rfl wf_X11_144 rfl dX11_account_184 ?_
                      refine K_callVi C (As := []) (rest := []) (Nat.le_of_ble_eq_true rfl) (shC_8 G ad) rfl hy_X2_allGrams wm_X11_398 (by decide) (by decide) (fun rr ff hh => km_X2_allGrams l G ad f rr ff hh) rfl rfl (Nat.le_of_ble_eq_true rfl) rfl dX11_account_187 (fun r13 g14 => ?_)
                      exact K_xret CX rfl rfl (by decide) dX11_account_190
                    · refine K_case (fun hc15 => ?_) (fun hc15 => ?_)
                      · refine K_tin C (off := 190) (tgt := 191) (by rw [hc15]; decide) (by rw [hc15]; decide) (by rw [hc15]; decide) (by decide) dX11_account_1 ?_
                        refine K_aload_n C 0 rfl rfl dX11_account_191 ?_
                        refine K_getR C kin_X11 rfl (Nat.le_of_ble_eq_true rfl) (shC_291 G ad) 0 (by decide) (b := 0) rfl wf_X11_12 rfl dX11_account_192 ?_
                        refine K_getI C kin_X4 rfl (Nat.le_of_ble_eq_true rfl) (shC_0 G ad) 9 (by decide) rfl wf_X11_401 rfl dX11_account_195 ?_
                        exact K_xret CX rfl rfl (by decide) dX11_account_198
                      · refine K_case (fun hc16 => ?_) (fun hc16 => ?_)
                        · refine K_tin C (off := 198) (tgt := 199) (by rw [hc16]; decide) (by rw [hc16]; decide) (by rw [hc16]; decide) (by decide) dX11_account_1 ?_
                          refine K_aload_n C 0 rfl rfl dX11_account_199 ?_
                          refine K_getR C kin_X11 rfl (Nat.le_of_ble_eq_true rfl) (shC_291 G ad) 0 (by decide) (b := 0) rfl wf_X11_12 rfl dX11_account_200 ?_
                          refine K_getI C kin_X4 rfl (Nat.le_of_ble_eq_true rfl) (shC_0 G ad) 10 (by decide) rfl wf_X11_404 rfl dX11_account_203 ?_
                          exact K_xret CX rfl rfl (by decide) dX11_account_206
                        · refine K_case (fun hc17 => ?_) (fun hc17 => ?_)
                          · refine K_tin C (off := 206) (tgt := 207) (by rw [hc17]; decide) (by rw [hc17]; decide) (by rw [hc17]; decide) (by decide) dX11_account_1 ?_
                            refine K_aload_n C 0 rfl rfl dX11_account_207 ?_
                            refine K_getR C kin_X11 rfl (Nat.le_of_ble_eq_true rfl) (shC_291 G ad) 0 (by decide) (b := 0) rfl wf_X11_12 rfl dX11_account_208 ?_
                            refine K_getI C kin_X4 rfl (Nat.le_of_ble_eq_true rfl) (shC_0 G ad) 11 (by decide) rfl wf_X11_407 rfl dX11_account_211 ?_
                            exact K_xret CX rfl rfl (by decide) dX11_account_214
                          · refine K_case (fun hc18 => ?_) (fun hc18 => ?_)
                            · refine K_tin C (off := 214) (tgt := 215) (by rw [hc18]; decide) (by rw [hc18]; decide) (by rw [hc18]; decide) (by decide) dX11_account_1 ?_
                              refine K_aload_n C 0 rfl rfl dX11_account_215 ?_
                              refine K_getR C kin_X11 rfl (Nat.le_of_ble_eq_true rfl) (shC_291 G ad) 2 (by decide) (b := 275) rfl wf_X11_22 rfl dX11_account_216 ?_
                              refine K_getI C kin_X5 rfl (Nat.le_of_ble_eq_true rfl) (shC_275 G ad) 2 (by decide) rfl wf_X11_410 rfl dX11_account_219 ?_
                              exact K_xret CX rfl rfl (by decide) dX11_account_222
                            · refine K_case (fun hc19 => ?_) (fun hc19 => ?_)
                              · refine K_tin C (off := 222) (tgt := 223) (by rw [hc19]; decide) (by rw [hc19]; decide) (by rw [hc19]; decide) (by decide) dX11_account_1 ?_
                                refine K_aload_n C 0 rfl rfl dX11_account_223 ?_
                                refine K_getR C kin_X11 rfl (Nat.le_of_ble_eq_true rfl) (shC_291 G ad) 4 (by decide) (b := 280) rfl wf_X11_36 rfl dX11_account_224 ?_
                                refine K_getI C kin_X10 rfl (Nat.le_of_ble_eq_true rfl) (shC_280 G ad) 2 (by decide) rfl wf_X11_72 rfl dX11_account_227 ?_
                                exact K_xret CX rfl rfl (by decide) dX11_account_230
                              · refine K_case (fun hc20 => ?_) (fun hc20 => ?_)
                                · refine K_tin C (off := 230) (tgt := 231) (by rw [hc20]; decide) (by rw [hc20]; decide) (by rw [hc20]; decide) (by decide) dX11_account_1 ?_
                                  refine K_aload_n C 0 rfl rfl dX11_account_231 ?_
                                  refine K_getR C kin_X11 rfl (Nat.le_of_ble_eq_true rfl) (shC_291 G ad) 0 (by decide) (b := 0) rfl wf_X11_12 rfl dX11_account_232 ?_
                                  refine K_getR C kin_X4 rfl (Nat.le_of_ble_eq_true rfl) (shC_0 G ad) 0 (by decide) (b := 1) rfl wf_X11_80 rfl dX11_account_235 ?_
                                  refine K_getR C kin_X0 rfl (Nat.le_of_ble_eq_true rfl) (shC_1 G ad) 8 (by decide) (b := 7) rfl wf_X11_272 rfl dX11_account_238 ?_
                                  refine K_iconst C (v := 0) (by decide) dX11_account_241 ?_
                                  refine K_ialdC C (Nat.le_of_ble_eq_true rfl) (shC_7 G ad) (kin_in (by decide)) dX11_account_242 0 (by decide) ?_
                                  exact K_xret CX rfl rfl (by decide) dX11_account_243
                                · refine K_case (fun hc21 => ?_) (fun hc21 => ?_)
                                  · refine K_tin C (off := 243) (tgt := 244) (by rw [hc21]; decide) (by rw [hc21]; decide) (by rw [hc21]; decide) (by decide) dX11_account_1 ?_
                                    refine K_aload_n C 0 rfl rfl dX11_account_244 ?_
                                    refine K_getR C kin_X11 rfl (Nat.le_of_ble_eq_true rfl) (shC_291 G ad) 0 (by decide) (b := 0) rfl wf_X11_12 rfl dX11_account_245 ?_
                                    refine K_getR C kin_X4 rfl (Nat.le_of_ble_eq_true rfl) (shC_0 G ad) 0 (by decide) (b := 1) rfl wf_X11_80 rfl dX11_account_248 ?_
                                    refine K_getR C kin_X0 rfl (Nat.le_of_ble_eq_true rfl) (shC_1 G ad) 8 (by decide) (b := 7) rfl wf_X11_272 rfl dX11_account_251 ?_
                                    refine K_iconst C (v := 1) (by decide) dX11_account_254 ?_
                                    refine K_ialdC C (Nat.le_of_ble_eq_true rfl) (shC_7 G ad) (kin_in (by decide)) dX11_account_255 1 (by decide) ?_
                                    exact K_xret CX rfl rfl (by decide) dX11_account_256
                                  · refine K_case (fun hc22 => ?_) (fun hc22 => ?_)
                                    · refine K_tin C (off := 256) (tgt := 257) (by rw [hc22]; decide) (by rw [hc22]; decide) (by rw [hc22]; decide) (by decide) dX11_account_1 ?_
                                      refine K_aload_n C 0 rfl rfl dX11_account_257 ?_
                                      refine K_getR C kin_X11 rfl (Nat.le_of_ble_eq_true rfl) (shC_291 G ad) 0 (by decide) (b := 0) rfl wf_X11_12 rfl dX11_account_258 ?_
                                      refine K_getR C kin_X4 rfl (Nat.le_of_ble_eq_true rfl) (shC_0 G ad) 0 (by decide) (b := 1) rfl wf_X11_80 rfl dX11_account_261 ?_
                                      refine K_getR C kin_X0 rfl (Nat.le_of_ble_eq_true rfl) (shC_1 G ad) 8 (by decide) (b := 7) rfl wf_X11_272 rfl dX11_account_264 ?_
                                      refine K_iconst C (v := 2) (by decide) dX11_account_267 ?_
                                      refine K_ialdC C (Nat.le_of_ble_eq_true rfl) (shC_7 G ad) (kin_in (by decide)) dX11_account_268 2 (by decide) ?_
                                      exact K_xret CX rfl rfl (by decide) dX11_account_269
                                    · refine K_case (fun hc23 => ?_) (fun hc23 => ?_)
                                      · refine K_tin C (off := 269) (tgt := 270) (by rw [hc23]; decide) (by rw [hc23]; decide) (by rw [hc23]; decide) (by decide) dX11_account_1 ?_
                                        refine K_aload_n C 0 rfl rfl dX11_account_270 ?_
                                        refine K_getR C kin_X11 rfl (Nat.le_of_ble_eq_true rfl) (shC_291 G ad) 0 (by decide) (b := 0) rfl wf_X11_12 rfl dX11_account_271 ?_
                                        refine K_getR C kin_X4 rfl (Nat.le_of_ble_eq_true rfl) (shC_0 G ad) 0 (by decide) (b := 1) rfl wf_X11_80 rfl dX11_account_274 ?_
                                        refine K_getR C kin_X0 rfl (Nat.le_of_ble_eq_true rfl) (shC_1 G ad) 8 (by decide) (b := 7) rfl wf_X11_272 rfl dX11_account_277 ?_
                                        refine K_iconst C (v := 3) (by decide) dX11_account_280 ?_
                                        refine K_ialdC C (Nat.le_of_ble_eq_true rfl) (shC_7 G ad) (kin_in (by decide)) dX11_account_281 3 (by decide) ?_
                                        exact K_xret CX rfl rfl (by decide) dX11_account_282
                                      · refine K_tout C (tgt := 283) (by have q0 := kne 0 (by decide) hc1; have q1 := kne 1 (by decide) hc2; have q2 := kne 2 (by decide) hc3; have q3 := kne 3 (by decide) hc4; have q4 := kne 4 (by decide) hc5; have q5 := kne 5 (by decide) hc8; have q6 := kne 6 (by decide) hc9; have q7 := kne 7 (by decide) hc10; have q8 := kne 8 (by decide) hc11; have q9 := kne 9 (by decide) hc12; have q10 := kne 10 (by decide) hc15; have q11 := kne 11 (by decide) hc16; have q12 := kne 12 (by decide) hc17; have q13 := kne 13 (by decide) hc18; have q14 := kne 14 (by decide) hc19; have q15 := kne 15 (by decide) hc20; have q16 := kne 16 (by decide) hc21; have q17 := kne 17 (by decide) hc22; have q18 := kne 18 (by decide) hc23; omega) (by decide) dX11_account_1 ?_
                                        exact K_throwW CX (is := 411) (text := "there is no such account") kXok_2 (by decide +kernel) (by decide) (by decide) (Nat.le_of_ble_eq_true rfl) dX11_account_283 dX11_account_286 dX11_account_287 dX11_account_290 dX11_account_293
def cx_X11_undo (f : kMem) : Option kXr := klt 0 (f 275 2) (kbind (cf_X5_takeBack f) (fun r1 g2 => some (0, (g2 275 2), g2))) (some (1, 0, f))
set_option maxRecDepth 100000 in
set_option maxHeartbeats 4000000 in
theorem kmx_X11_undo (l : Launch) (hst : l.stackTraces = false) (G : kG) (ad : Nat → Nat) (f : kMem) (z : kXr) (h : cx_X11_undo f = some z) : kxMet l (wC G ad) yX11_undo cX11_undo 1 (some .int) 6 2 12 [.ref (kad (wC G ad) 291)] f z := by
  refine kxMet_of (own := RX11) (lv := [(0, .ref (kad (wC G ad) 291))]) hst (by decide) rfl (Nat.le_of_ble_eq_true rfl) rfl h ?_
  intro p e R s m args below meth c CX
  have C := CX.1
  unfold cx_X11_undo
  refine K_aload_n C 0 rfl rfl dX11_undo_0 ?_
  refine K_getR C kin_X11 rfl (Nat.le_of_ble_eq_true rfl) (shC_291 G ad) 2 (by decide) (b := 275) rfl wf_X11_22 rfl dX11_undo_1 ?_
  refine K_getI C kin_X5 rfl (Nat.le_of_ble_eq_true rfl) (shC_275 G ad) 2 (by decide) rfl wf_X11_410 rfl dX11_undo_4 ?_
  refine K_if_gt C (tgt := 21) (by decide) dX11_undo_7 ?_ ?_
  · refine K_aload_n C 0 rfl rfl dX11_undo_21 ?_
    refine K_getR C kin_X11 rfl (Nat.le_of_ble_eq_true rfl) (shC_291 G ad) 2 (by decide) (b := 275) rfl wf_X11_22 rfl dX11_undo_22 ?_
    refine K_aload_n C 0 rfl rfl dX11_undo_25 ?_
    refine K_getR C kin_X11 rfl (Nat.le_of_ble_eq_true rfl) (shC_291 G ad) 0 (by decide) (b := 0) rfl wf_X11_12 rfl dX11_undo_26 ?_
    refine K_callVv C (As := [.ref (kad (wC G ad) 0)]) (rest := []) (Nat.le_of_ble_eq_true rfl) (shC_275 G ad) rfl hy_X5_takeBack wm_X11_415 (by decide) (by decide) (fun rr ff hh => km_X5_takeBack l G ad f rr ff hh) rfl rfl (Nat.le_of_ble_eq_true rfl) rfl dX11_undo_29 (fun r1 g2 => ?_)
    refine K_aload_n C 0 rfl rfl dX11_undo_32 ?_
    refine K_getR C kin_X11 rfl (Nat.le_of_ble_eq_true rfl) (shC_291 G ad) 2 (by decide) (b := 275) rfl wf_X11_22 rfl dX11_undo_33 ?_
    refine K_getI C kin_X5 rfl (Nat.le_of_ble_eq_true rfl) (shC_275 G ad) 2 (by decide) rfl wf_X11_410 rfl dX11_undo_36 ?_
    exact K_xret CX rfl rfl (by decide) dX11_undo_39
  · exact K_throwW CX (is := 413) (text := "there is nothing to undo") kXok_1 (by decide +kernel) (by decide) (by decide) (Nat.le_of_ble_eq_true rfl) dX11_undo_10 dX11_undo_13 dX11_undo_14 dX11_undo_17 dX11_undo_20
def cx_X11_restore (f : kMem) : Option kXr := keq (f 291 8) 0 (some (1, 0, f)) (kbind (some (0, kfc f 0 1 0 25)) (fun r1 g2 => kbind (cf_X5_forget g2) (fun r3 g4 => some (0, (g4 18 0), g4))))
set_option maxRecDepth 100000 in
set_option maxHeartbeats 4000000 in
theorem kmx_X11_restore (l : Launch) (hst : l.stackTraces = false) (G : kG) (ad : Nat → Nat) (f : kMem) (z : kXr) (h : cx_X11_restore f = some z) : kxMet l (wC G ad) yX11_restore cX11_restore 1 (some .int) 6 2 12 [.ref (kad (wC G ad) 291)] f z := by
  refine kxMet_of (own := RX11) (lv := [(0, .ref (kad (wC G ad) 291))]) hst (by decide) rfl (Nat.le_of_ble_eq_true rfl) rfl h ?_
  intro p e R s m args below meth c CX
  have C := CX.1
  unfold cx_X11_restore
  refine K_aload_n C 0 rfl rfl dX11_restore_0 ?_
  refine K_getI C kin_X11 rfl (Nat.le_of_ble_eq_true rfl) (shC_291 G ad) 8 (by decide) rfl wf_X11_421 rfl dX11_restore_1 ?_
  refine K_if_ne C (tgt := 18) (by decide) dX11_restore_4 ?_ ?_
  · refine K_aload_n C 0 rfl rfl dX11_restore_18 ?_
    refine K_getR C kin_X11 rfl (Nat.le_of_ble_eq_true rfl) (shC_291 G ad) 0 (by decide) (b := 0) rfl wf_X11_12 rfl dX11_restore_19 ?_
    refine K_aload_n C 0 rfl rfl dX11_restore_22 ?_
    refine K_getR C kin_X11 rfl (Nat.le_of_ble_eq_true rfl) (shC_291 G ad) 1 (by decide) (b := 25) rfl wf_X11_16 rfl dX11_restore_23 ?_
    refine K_callVv C (d1 := 3) (As := [.ref (kad (wC G ad) 25)]) (rest := []) (show 25 * 0 < 292 by omega) (shFl0 G ad (i := 0) (by decide)) rfl hy_X4_copyFrom wm_X11_418 (by decide) (by decide) (fun rr ff hh => by cases hh; exact km_X4_copyFrom l G ad (i := 0) (j := 1) (by decide) (by decide) (by decide) _) rfl rfl (Nat.le_of_ble_eq_true rfl) rfl dX11_restore_26 (fun r1 g2 => ?_)
    refine K_aload_n C 0 rfl rfl dX11_restore_29 ?_
    refine K_getR C kin_X11 rfl (Nat.le_of_ble_eq_true rfl) (shC_291 G ad) 2 (by decide) (b := 275) rfl wf_X11_22 rfl dX11_restore_30 ?_
    refine K_callVv C (As := []) (rest := []) (Nat.le_of_ble_eq_true rfl) (shC_275 G ad) rfl hy_X5_forget wm_X11_427 (by decide) (by decide) (fun rr ff hh => km_X5_forget l G ad g2 rr ff hh) rfl rfl (Nat.le_of_ble_eq_true rfl) rfl dX11_restore_33 (fun r3 g4 => ?_)
    refine K_aload_n C 0 rfl rfl dX11_restore_36 ?_
    refine K_getR C kin_X11 rfl (Nat.le_of_ble_eq_true rfl) (shC_291 G ad) 0 (by decide) (b := 0) rfl wf_X11_12 rfl dX11_restore_37 ?_
    refine K_getR C kin_X4 rfl (Nat.le_of_ble_eq_true rfl) (shC_0 G ad) 3 (by decide) (b := 18) rfl wf_X11_164 rfl dX11_restore_40 ?_
    refine K_getI C kin_X6 rfl (Nat.le_of_ble_eq_true rfl) (shC_18 G ad) 0 (by decide) rfl wf_X11_391 rfl dX11_restore_43 ?_
    exact K_xret CX rfl rfl (by decide) dX11_restore_46
  · exact K_throwW CX (is := 425) (text := "there is no snapshot") kXok_1 (by decide +kernel) (by decide) (by decide) (Nat.le_of_ble_eq_true rfl) dX11_restore_7 dX11_restore_10 dX11_restore_11 dX11_restore_14 dX11_restore_17
