/-! the cases of the law's switch; kP_..: what the class and the model have in common, of memories alone -/
def kchr (x : Int32) : Int32 := (x.toUInt32 % 65536).toInt32
def k01 (x : Int32) : Int32 := if x = 0 then 0 else 1
def kOk (ks : List Nat) (X : Option kXr) (Y : Option (Int32 × kMem)) (P : kMem → kMem → Prop) : Prop := ∃ z bb g', X = some z ∧ Y = some (bb, g') ∧ (z.1 = 0 ∨ z.1 ∈ ks) ∧ g' 0 18 = kcd ks z.1 ∧ (z.1 = 0 → z.2.1 = bb) ∧ P z.2.2 g'
def kOkV (ks : List Nat) (V : Value → Prop) (X : Option (Nat × Value × kMem)) (Y : Option (Value × kMem)) (P : kMem → kMem → Prop) : Prop := ∃ z bb g', X = some z ∧ Y = some (bb, g') ∧ (z.1 = 0 ∨ z.1 ∈ ks) ∧ g' 0 18 = kcd ks z.1 ∧ (z.1 = 0 → z.2.1 = bb ∧ V bb) ∧ (∃ bb', V bb') ∧ (z.1 ≠ 0 → ∃ a, bb = a) ∧ P z.2.2 g'
theorem kcd_0 {ks : List Nat} {x : Nat} (hks : ks.length < 100) (h : kcd ks x = 0) : x = 0 := by
  unfold kcd at h
  split at h
  · assumption
  · have := List.idxOf_le_length (a := x) (l := ks)
    exact absurd h (nI_ne0 (n := ks.idxOf x + 1) (by omega) (by omega))
theorem oL_if {cL : ClassId} {q : Prop} [Decidable q] {x y : Nat → Int64} : (if q then oL cL x else oL cL y) = oL cL (if q then x else y) := by split <;> rfl
theorem oD_if {cD : ClassId} {q : Prop} [Decidable q] {x y : Nat → UInt64} : (if q then oD cD x else oD cD y) = oD cD (if q then x else y) := by split <;> rfl
section LCASES
variable {p : Program} {l : Launch} {e : Env} {s : State} {m : MethodId} {below : List Frame} {meth : Method} {c : Code} {b L : Nat} {xs : Nat → Int32} {G : kG} {cL cD : ClassId} {ad1 ad2 : Nat → Nat} {qo qd : Nat} {f g : kMem} {lo : Nat → Int64} {ld : Nat → UInt64} {k n i N : Nat} {R : Nat → kMem → kMem → Prop}
theorem lws_p1 : (lws G ad1 ad2 cL cD qo qd f g lo ld).Perm ((kw (wC G ad1) f ++ [(qo, oL cL lo)]) ++ (kw (wM G ad2) g ++ [(qd, oD cD ld)])) := lws_1
theorem lws_p2 : (lws G ad1 ad2 cL cD qo qd f g lo ld).Perm ((kw (wC G ad1) f ++ [(qd, oD cD ld)]) ++ (kw (wM G ad2) g ++ [(qo, oL cL lo)])) := lws_2
theorem lws_p3 : (lws G ad1 ad2 cL cD qo qd f g lo ld).Perm (kw (wM G ad2) g ++ (kw (wC G ad1) f ++ [(qo, oL cL lo), (qd, oD cD ld)])) := lws_3
theorem wm_RL_143 : Cond.methodLink RL 143 yX12_thrown ∈ kGT := kgt (List.mem_of_getElem? (i := 1373) (by decide +kernel)) rfl
theorem hy_X12_thrown : kYV yX12_thrown cX12_thrown 1 (some .int) 0 := ⟨⟨kgt (List.mem_of_getElem? (i := 1376) (by decide +kernel)) rfl, kgt (List.mem_of_getElem? (i := 71) (by decide +kernel)) rfl, by decide +kernel, by decide⟩, kgt (List.mem_of_getElem? (i := 1374) (by decide +kernel)) rfl, kgt (List.mem_of_getElem? (i := 1375) (by decide +kernel)) rfl⟩
set_option maxRecDepth 100000 in
set_option maxHeartbeats 4000000 in
theorem L_thrown (C : LC p l s m meth c b L xs G cL cD ad1 ad2) (hk : k ≤ 603072) (hn : n ≤ 7194730) {pc : Nat} {lv : List (Nat × Value)} {rest : List Value} (hrest : (rest.map fun v => v.category).sum ≤ 8) (hdg : decode code pc = .ok (.invokevirtual 143, 3)) (kk : LJ p l e s m below meth c b G.1 (lws G ad1 ad2 cL cD qo qd f g lo ld) k n (pc + 3) lv (.int (g 0 18) :: rest)) : LJ p l e s m below meth c b G.1 (lws G ad1 ad2 cL cD qo qd f g lo ld) k n pc lv (.ref (kad (wM G ad2) 0) :: rest) := by
  refine L_perm lws_p3 ?_
  refine L_call C (w := wM G ad2) (As := []) (rest := rest) rfl C.2.2.1 (a := 0) (ci := 14) (Nat.le_of_ble_eq_true rfl) (shM_0 G ad2) rfl (kMetV_i (km_X12_thrown l G ad2 g (g 0 18) g rfl)) hy_X12_thrown wm_RL_143 (by decide) rfl hk hn hdg rfl hrest ?_
  exact L_perm lws_p3.symm kk
set_option maxRecDepth 100000 in
set_option maxHeartbeats 4000000 in
theorem L_tail (C : LC p l s m meth c b L xs G cL cD ad1 ad2) (hk : k ≤ 603072) (hn : n ≤ 7194730) {pc : Nat} {kr bb : Int32} {off : Int} (hth : g 0 18 = kr) (heq : kr = 0 → lo 0 = bb.toInt64) (h0 : decode code pc = .ok (.istore 7, 2)) (h1 : decode code (pc + 2) = .ok (.aload_n 2, 1)) (h2 : decode code (pc + 3) = .ok (.invokevirtual 143, 3)) (h3 : decode code (pc + 6) = .ok (.iload 6, 2)) (h4 : decode code (pc + 8) = .ok (.if_icmp .eq 5, 3)) (h5 : decode code (pc + 13) = .ok (.iload 6, 2)) (h6 : decode code (pc + 15) = .ok (.ifCond .ne 15, 3)) (h7 : decode code (pc + 18) = .ok (.aload_n 3, 1)) (h8 : decode code (pc + 19) = .ok (.iconst 0, 1)) (h9 : decode code (pc + 20) = .ok (.laload, 1)) (h10 : decode code (pc + 21) = .ok (.iload 7, 2)) (h11 : decode code (pc + 23) = .ok (.i2l, 1)) (h12 : decode code (pc + 24) = .ok (.lcmp, 1)) (h13 : decode code (pc + 25) = .ok (.ifCond .eq 5, 3)) (h14 : decode code (pc + 30) = .ok (.goto off, 3)) (hoff : ((pc + 30 : Nat) : Int) + off = ((2339 : Nat) : Int))
    (kk : LJ p l e s m below meth c b G.1 (lws G ad1 ad2 cL cD qo qd f g lo ld) k n 2339 [(0, .ref b), (1, .ref (kad (wC G ad1) 291)), (2, .ref (kad (wM G ad2) 0)), (3, .ref qo), (4, .ref qd), (5, .int (nI i))] []) : LJ p l e s m below meth c b G.1 (lws G ad1 ad2 cL cD qo qd f g lo ld) k n pc ((6, .int kr) :: [(0, .ref b), (1, .ref (kad (wC G ad1) 291)), (2, .ref (kad (wM G ad2) 0)), (3, .ref qo), (4, .ref qd), (5, .int (nI i))]) [.int bb] := by
  refine L_istore C (lv1 := (7, .int bb) :: (6, .int kr) :: [(0, .ref b), (1, .ref (kad (wC G ad1) 291)), (2, .ref (kad (wM G ad2) 0)), (3, .ref qo), (4, .ref qd), (5, .int (nI i))]) (by decide) rfl h0 ?_
  refine L_aload_n C 4 rfl rfl h1 ?_
  refine L_thrown C hk hn (by decide) h2 ?_
  refine L_iload C 1 rfl h3 ?_
  refine L_icmpeq C (tgt := pc + 13) hth (by omega) h4 ?_
  refine L_iload C 1 rfl h5 ?_
  have hend : LJ p l e s m below meth c b G.1 (lws G ad1 ad2 cL cD qo qd f g lo ld) k n (pc + 30) ((7, .int bb) :: (6, .int kr) :: [(0, .ref b), (1, .ref (kad (wC G ad1) 291)), (2, .ref (kad (wM G ad2) 0)), (3, .ref qo), (4, .ref qd), (5, .int (nI i))]) [] := by
    refine L_goto C (tgt := 2339) hoff h14 ?_
    exact L_sub [2, 3, 4, 5, 6, 7] rfl kk
  refine L_if_ne C (tgt := pc + 30) (by omega) h6 (fun _ => hend) (fun h => ?_)
  refine L_aload_n C 5 rfl rfl h7 ?_
  refine L_iconst C (v := 0) h8 rfl ?_
  refine L_lald C h9 ?_
  refine L_iload C 0 rfl h10 ?_
  refine L_i2l C h11 ?_
  rw [heq h]
  refine L_lcmp C h12 ?_
  exact L_if_eq C (tgt := pc + 30) (by omega) h13 (fun _ => hend) (fun h => absurd rfl h)
theorem L_bool (C : LC p l s m meth c b L xs G cL cD ad1 ad2) {pc : Nat} {x : Int32} {ws : va_W} {lv : List (Nat × Value)} {st : List Value} (h1 : decode code pc = .ok (.ifCond .eq 7, 3)) (h2 : decode code (pc + 3) = .ok (.iconst 1, 1)) (h3 : decode code (pc + 4) = .ok (.goto 4, 3)) (h4 : decode code (pc + 7) = .ok (.iconst 0, 1)) (kk : LJ p l e s m below meth c b G.1 ws k n (pc + 8) lv (.int (k01 x) :: st)) : LJ p l e s m below meth c b G.1 ws k n pc lv (.int x :: st) := by
  refine L_if_eq C (tgt := pc + 7) (by omega) h1 (fun h => ?_) (fun h => ?_)
  · refine L_iconst C (v := 0) h4 rfl ?_
    rw [k01, if_pos h] at kk
    exact kk
  · refine L_iconst C (v := 1) h2 rfl ?_
    refine L_goto C (tgt := pc + 8) (by omega) h3 ?_
    rw [k01, if_neg h] at kk
    exact kk
def kP_append (R : Nat → kMem → kMem → Prop) : Prop := ∀ (N : Nat) (f g : kMem) (a0 : Int32), N < 512 → R N f g → kOk [1] (cx_X11_append f (kchr a0)) (cf_X12_append g (kchr a0)) (R (N + 1))
theorem hyL_append : kYL yL_append cL_append 4 [(0, 9, 12, 13)] 3 := ⟨kgt (List.mem_of_getElem? (i := 469) (by decide +kernel)) rfl, kgt (List.mem_of_getElem? (i := 58) (by decide +kernel)) rfl, kgt (List.mem_of_getElem? (i := 468) (by decide +kernel)) rfl, by decide +kernel, by decide⟩
theorem wm_RL_137 : Cond.methodLink RL 137 yL_append ∈ kGT := kgt (List.mem_of_getElem? (i := 467) (by decide +kernel)) rfl
theorem hy_X12_append : kYV yX12_append cX12_append 2 (some .int) 1 := ⟨⟨kgt (List.mem_of_getElem? (i := 1380) (by decide +kernel)) rfl, kgt (List.mem_of_getElem? (i := 71) (by decide +kernel)) rfl, by decide +kernel, by decide⟩, kgt (List.mem_of_getElem? (i := 1378) (by decide +kernel)) rfl, kgt (List.mem_of_getElem? (i := 1379) (by decide +kernel)) rfl⟩
theorem wm_RL_142 : Cond.methodLink RL 142 yX12_append ∈ kGT := kgt (List.mem_of_getElem? (i := 1377) (by decide +kernel)) rfl
set_option maxRecDepth 100000 in
set_option maxHeartbeats 4000000 in
theorem lc_append (C : LC p l s m meth c b L xs G cL cD ad1 ad2) (hi : i + 5 ≤ L) (hN : N < 512) (hk : k + 2 ≤ 603072) (hn : n + 12 ≤ 7194730) (hR : R N f g) (hp : kP_append R) (kk : ∀ (f1 g1 : kMem) (lo1 : Nat → Int64) (ld1 : Nat → UInt64), R (N + 1) f1 g1 → LJ p l e s m below meth c b G.1 (lws G ad1 ad2 cL cD qo qd f1 g1 lo1 ld1) (k + 2) (n + 12) 2339 [(0, .ref b), (1, .ref (kad (wC G ad1) 291)), (2, .ref (kad (wM G ad2) 0)), (3, .ref qo), (4, .ref qd), (5, .int (nI i))] []) : LJ p l e s m below meth c b G.1 (lws G ad1 ad2 cL cD qo qd f g lo ld) k n 204 [(0, .ref b), (1, .ref (kad (wC G ad1) 291)), (2, .ref (kad (wM G ad2) 0)), (3, .ref qo), (4, .ref qd), (5, .int (nI i))] [] := by
  obtain ⟨z, bb, g1, e1, e2, hz, hth, hv, hR1⟩ := hp N f g (xs (i + 1)) hN hR
  simp only [List.mem_cons, List.not_mem_nil, or_false] at hz
  refine L_aload_n C 1 rfl rfl dL_law_204 ?_
  refine L_aload_n C 0 rfl rfl dL_law_205 ?_
  refine L_iload C 5 rfl dL_law_206 ?_
  refine L_iconst C (v := nI 1) dL_law_208 rfl ?_
  refine L_iadd C (nI_add i 1) dL_law_209 ?_
  refine L_sld C (q := i + 1) rfl (by omega) dL_law_210 ?_
  refine L_i2c C dL_law_211 ?_
  refine L_aload_n C 3 rfl rfl dL_law_212 ?_
  refine L_perm lws_p1 ?_
  refine L_wrap C (rest := []) (wl_append l C.2.2.2.2.2.2.2.1 G ad1 cL cD qo f (kchr (xs (i + 1))) lo z e1 hz) hyL_append wm_RL_137 (by decide) rfl hk hn dL_law_213 rfl (by decide) ?_
  rw [oL_if]
  refine L_perm lws_p1.symm ?_
  refine L_istore C (lv1 := (6, .int (kcd [1] z.1)) :: [(0, .ref b), (1, .ref (kad (wC G ad1) 291)), (2, .ref (kad (wM G ad2) 0)), (3, .ref qo), (4, .ref qd), (5, .int (nI i))]) (by decide) rfl dL_law_216 ?_
  refine L_aload_n C 3 rfl rfl dL_law_218 ?_
  refine L_aload_n C 1 rfl rfl dL_law_219 ?_
  refine L_iload C 6 rfl dL_law_220 ?_
  refine L_iconst C (v := nI 1) dL_law_222 rfl ?_
  refine L_iadd C (nI_add i 1) dL_law_223 ?_
  refine L_sld C (q := i + 1) rfl (by omega) dL_law_224 ?_
  refine L_i2c C dL_law_225 ?_
  refine L_perm lws_p3 ?_
  refine L_call C (w := wM G ad2) (As := [.int (kchr (xs (i + 1)))]) (rest := []) rfl C.2.2.1 (a := 0) (ci := 14) (Nat.le_of_ble_eq_true rfl) (shM_0 G ad2) rfl (kMetV_i (km_X12_append l G ad2 g (kchr (xs (i + 1))) bb g1 e2)) hy_X12_append wm_RL_142 (by decide) rfl hk hn dL_law_226 rfl (by decide) ?_
  refine L_perm lws_p3.symm ?_
  exact L_tail C hk hn hth (fun h => by have h9 := kcd_0 (by decide) h; rw [if_pos h9, hv h9]; rfl) dL_law_229 dL_law_231 dL_law_232 dL_law_235 dL_law_237 dL_law_242 dL_law_244 dL_law_247 dL_law_248 dL_law_249 dL_law_250 dL_law_252 dL_law_253 dL_law_254 dL_law_259 (by decide) (kk _ _ _ _ hR1)
def kP_colour (R : Nat → kMem → kMem → Prop) : Prop := ∀ (N : Nat) (f g : kMem) (a0 : Int32), N < 512 → R N f g → kOk [4] (cx_X11_colour f (a0)) (cf_X12_colour g (a0)) (R (N + 1))
theorem hyL_colour : kYL yL_colour cL_colour 4 [(0, 9, 12, 19)] 3 := ⟨kgt (List.mem_of_getElem? (i := 553) (by decide +kernel)) rfl, kgt (List.mem_of_getElem? (i := 58) (by decide +kernel)) rfl, kgt (List.mem_of_getElem? (i := 552) (by decide +kernel)) rfl, by decide +kernel, by decide⟩
theorem wm_RL_146 : Cond.methodLink RL 146 yL_colour ∈ kGT := kgt (List.mem_of_getElem? (i := 551) (by decide +kernel)) rfl
theorem hy_X12_colour : kYV yX12_colour cX12_colour 2 (some .int) 1 := ⟨⟨kgt (List.mem_of_getElem? (i := 1388) (by decide +kernel)) rfl, kgt (List.mem_of_getElem? (i := 71) (by decide +kernel)) rfl, by decide +kernel, by decide⟩, kgt (List.mem_of_getElem? (i := 1386) (by decide +kernel)) rfl, kgt (List.mem_of_getElem? (i := 1387) (by decide +kernel)) rfl⟩
theorem wm_RL_149 : Cond.methodLink RL 149 yX12_colour ∈ kGT := kgt (List.mem_of_getElem? (i := 1385) (by decide +kernel)) rfl
set_option maxRecDepth 100000 in
set_option maxHeartbeats 4000000 in
theorem lc_colour (C : LC p l s m meth c b L xs G cL cD ad1 ad2) (hi : i + 5 ≤ L) (hN : N < 512) (hk : k + 2 ≤ 603072) (hn : n + 12 ≤ 7194730) (hR : R N f g) (hp : kP_colour R) (kk : ∀ (f1 g1 : kMem) (lo1 : Nat → Int64) (ld1 : Nat → UInt64), R (N + 1) f1 g1 → LJ p l e s m below meth c b G.1 (lws G ad1 ad2 cL cD qo qd f1 g1 lo1 ld1) (k + 2) (n + 12) 2339 [(0, .ref b), (1, .ref (kad (wC G ad1) 291)), (2, .ref (kad (wM G ad2) 0)), (3, .ref qo), (4, .ref qd), (5, .int (nI i))] []) : LJ p l e s m below meth c b G.1 (lws G ad1 ad2 cL cD qo qd f g lo ld) k n 262 [(0, .ref b), (1, .ref (kad (wC G ad1) 291)), (2, .ref (kad (wM G ad2) 0)), (3, .ref qo), (4, .ref qd), (5, .int (nI i))] [] := by
  obtain ⟨z, bb, g1, e1, e2, hz, hth, hv, hR1⟩ := hp N f g (xs (i + 1)) hN hR
  simp only [List.mem_cons, List.not_mem_nil, or_false] at hz
  refine L_aload_n C 1 rfl rfl dL_law_262 ?_
  refine L_aload_n C 0 rfl rfl dL_law_263 ?_
  refine L_iload C 5 rfl dL_law_264 ?_
  refine L_iconst C (v := nI 1) dL_law_266 rfl ?_
  refine L_iadd C (nI_add i 1) dL_law_267 ?_
  refine L_sld C (q := i + 1) rfl (by omega) dL_law_268 ?_
  refine L_aload_n C 3 rfl rfl dL_law_269 ?_
  refine L_perm lws_p1 ?_
  refine L_wrap C (rest := []) (wl_colour l C.2.2.2.2.2.2.2.1 G ad1 cL cD qo f (xs (i + 1)) lo z e1 hz) hyL_colour wm_RL_146 (by decide) rfl hk hn dL_law_270 rfl (by decide) ?_
  rw [oL_if]
  refine L_perm lws_p1.symm ?_
  refine L_istore C (lv1 := (6, .int (kcd [4] z.1)) :: [(0, .ref b), (1, .ref (kad (wC G ad1) 291)), (2, .ref (kad (wM G ad2) 0)), (3, .ref qo), (4, .ref qd), (5, .int (nI i))]) (by decide) rfl dL_law_273 ?_
  refine L_aload_n C 3 rfl rfl dL_law_275 ?_
  refine L_aload_n C 1 rfl rfl dL_law_276 ?_
  refine L_iload C 6 rfl dL_law_277 ?_
  refine L_iconst C (v := nI 1) dL_law_279 rfl ?_
  refine L_iadd C (nI_add i 1) dL_law_280 ?_
  refine L_sld C (q := i + 1) rfl (by omega) dL_law_281 ?_
  refine L_perm lws_p3 ?_
  refine L_call C (w := wM G ad2) (As := [.int (xs (i + 1))]) (rest := []) rfl C.2.2.1 (a := 0) (ci := 14) (Nat.le_of_ble_eq_true rfl) (shM_0 G ad2) rfl (kMetV_i (km_X12_colour l G ad2 g (xs (i + 1)) bb g1 e2)) hy_X12_colour wm_RL_149 (by decide) rfl hk hn dL_law_282 rfl (by decide) ?_
  refine L_perm lws_p3.symm ?_
  exact L_tail C hk hn hth (fun h => by have h9 := kcd_0 (by decide) h; rw [if_pos h9, hv h9]; rfl) dL_law_285 dL_law_287 dL_law_288 dL_law_291 dL_law_293 dL_law_298 dL_law_300 dL_law_303 dL_law_304 dL_law_305 dL_law_306 dL_law_308 dL_law_309 dL_law_310 dL_law_315 (by decide) (kk _ _ _ _ hR1)
def kP_part (R : Nat → kMem → kMem → Prop) : Prop := ∀ (N : Nat) (f g : kMem) (a0 : Int32), N < 512 → R N f g → kOk [4] (cx_X11_part f (a0)) (cf_X12_part g (a0)) (R (N + 1))
theorem hyL_part : kYL yL_part cL_part 4 [(0, 9, 12, 19)] 3 := ⟨kgt (List.mem_of_getElem? (i := 609) (by decide +kernel)) rfl, kgt (List.mem_of_getElem? (i := 58) (by decide +kernel)) rfl, kgt (List.mem_of_getElem? (i := 608) (by decide +kernel)) rfl, by decide +kernel, by decide⟩
theorem wm_RL_150 : Cond.methodLink RL 150 yL_part ∈ kGT := kgt (List.mem_of_getElem? (i := 607) (by decide +kernel)) rfl
theorem hy_X12_part : kYV yX12_part cX12_part 2 (some .int) 1 := ⟨⟨kgt (List.mem_of_getElem? (i := 1419) (by decide +kernel)) rfl, kgt (List.mem_of_getElem? (i := 71) (by decide +kernel)) rfl, by decide +kernel, by decide⟩, kgt (List.mem_of_getElem? (i := 1417) (by decide +kernel)) rfl, kgt (List.mem_of_getElem? (i := 1418) (by decide +kernel)) rfl⟩
theorem wm_RL_152 : Cond.methodLink RL 152 yX12_part ∈ kGT := kgt (List.mem_of_getElem? (i := 1416) (by decide +kernel)) rfl
set_option maxRecDepth 100000 in
set_option maxHeartbeats 4000000 in
theorem lc_part (C : LC p l s m meth c b L xs G cL cD ad1 ad2) (hi : i + 5 ≤ L) (hN : N < 512) (hk : k + 2 ≤ 603072) (hn : n + 12 ≤ 7194730) (hR : R N f g) (hp : kP_part R) (kk : ∀ (f1 g1 : kMem) (lo1 : Nat → Int64) (ld1 : Nat → UInt64), R (N + 1) f1 g1 → LJ p l e s m below meth c b G.1 (lws G ad1 ad2 cL cD qo qd f1 g1 lo1 ld1) (k + 2) (n + 12) 2339 [(0, .ref b), (1, .ref (kad (wC G ad1) 291)), (2, .ref (kad (wM G ad2) 0)), (3, .ref qo), (4, .ref qd), (5, .int (nI i))] []) : LJ p l e s m below meth c b G.1 (lws G ad1 ad2 cL cD qo qd f g lo ld) k n 318 [(0, .ref b), (1, .ref (kad (wC G ad1) 291)), (2, .ref (kad (wM G ad2) 0)), (3, .ref qo), (4, .ref qd), (5, .int (nI i))] [] := by
  obtain ⟨z, bb, g1, e1, e2, hz, hth, hv, hR1⟩ := hp N f g (xs (i + 1)) hN hR
  simp only [List.mem_cons, List.not_mem_nil, or_false] at hz
  refine L_aload_n C 1 rfl rfl dL_law_318 ?_
  refine L_aload_n C 0 rfl rfl dL_law_319 ?_
  refine L_iload C 5 rfl dL_law_320 ?_
  refine L_iconst C (v := nI 1) dL_law_322 rfl ?_
  refine L_iadd C (nI_add i 1) dL_law_323 ?_
  refine L_sld C (q := i + 1) rfl (by omega) dL_law_324 ?_
  refine L_aload_n C 3 rfl rfl dL_law_325 ?_
  refine L_perm lws_p1 ?_
  refine L_wrap C (rest := []) (wl_part l C.2.2.2.2.2.2.2.1 G ad1 cL cD qo f (xs (i + 1)) lo z e1 hz) hyL_part wm_RL_150 (by decide) rfl hk hn dL_law_326 rfl (by decide) ?_
  rw [oL_if]
  refine L_perm lws_p1.symm ?_
  refine L_istore C (lv1 := (6, .int (kcd [4] z.1)) :: [(0, .ref b), (1, .ref (kad (wC G ad1) 291)), (2, .ref (kad (wM G ad2) 0)), (3, .ref qo), (4, .ref qd), (5, .int (nI i))]) (by decide) rfl dL_law_329 ?_
  refine L_aload_n C 3 rfl rfl dL_law_331 ?_
  refine L_aload_n C 1 rfl rfl dL_law_332 ?_
  refine L_iload C 6 rfl dL_law_333 ?_
  refine L_iconst C (v := nI 1) dL_law_335 rfl ?_
  refine L_iadd C (nI_add i 1) dL_law_336 ?_
  refine L_sld C (q := i + 1) rfl (by omega) dL_law_337 ?_
  refine L_perm lws_p3 ?_
  refine L_call C (w := wM G ad2) (As := [.int (xs (i + 1))]) (rest := []) rfl C.2.2.1 (a := 0) (ci := 14) (Nat.le_of_ble_eq_true rfl) (shM_0 G ad2) rfl (kMetV_i (km_X12_part l G ad2 g (xs (i + 1)) bb g1 e2)) hy_X12_part wm_RL_152 (by decide) rfl hk hn dL_law_338 rfl (by decide) ?_
  refine L_perm lws_p3.symm ?_
  exact L_tail C hk hn hth (fun h => by have h9 := kcd_0 (by decide) h; rw [if_pos h9, hv h9]; rfl) dL_law_341 dL_law_343 dL_law_344 dL_law_347 dL_law_349 dL_law_354 dL_law_356 dL_law_359 dL_law_360 dL_law_361 dL_law_362 dL_law_364 dL_law_365 dL_law_366 dL_law_371 (by decide) (kk _ _ _ _ hR1)
def kP_family (R : Nat → kMem → kMem → Prop) : Prop := ∀ (N : Nat) (f g : kMem), N < 512 → R N f g → kOk [2, 4] (cx_X11_family f) (cf_X12_family g) (R (N + 1))
theorem hyL_family : kYL yL_family cL_family 3 [(0, 8, 11, 28), (0, 8, 14, 19)] 2 := ⟨kgt (List.mem_of_getElem? (i := 620) (by decide +kernel)) rfl, kgt (List.mem_of_getElem? (i := 58) (by decide +kernel)) rfl, kgt (List.mem_of_getElem? (i := 619) (by decide +kernel)) rfl, by decide +kernel, by decide⟩
theorem wm_RL_153 : Cond.methodLink RL 153 yL_family ∈ kGT := kgt (List.mem_of_getElem? (i := 618) (by decide +kernel)) rfl
theorem hy_X12_family : kYV yX12_family cX12_family 2 (some .int) 0 := ⟨⟨kgt (List.mem_of_getElem? (i := 1547) (by decide +kernel)) rfl, kgt (List.mem_of_getElem? (i := 71) (by decide +kernel)) rfl, by decide +kernel, by decide⟩, kgt (List.mem_of_getElem? (i := 1545) (by decide +kernel)) rfl, kgt (List.mem_of_getElem? (i := 1546) (by decide +kernel)) rfl⟩
theorem wm_RL_156 : Cond.methodLink RL 156 yX12_family ∈ kGT := kgt (List.mem_of_getElem? (i := 1544) (by decide +kernel)) rfl
set_option maxRecDepth 100000 in
set_option maxHeartbeats 4000000 in
theorem lc_family (C : LC p l s m meth c b L xs G cL cD ad1 ad2) (hi : i + 5 ≤ L) (hN : N < 512) (hk : k + 2 ≤ 603072) (hn : n + 12 ≤ 7194730) (hR : R N f g) (hp : kP_family R) (kk : ∀ (f1 g1 : kMem) (lo1 : Nat → Int64) (ld1 : Nat → UInt64), R (N + 1) f1 g1 → LJ p l e s m below meth c b G.1 (lws G ad1 ad2 cL cD qo qd f1 g1 lo1 ld1) (k + 2) (n + 12) 2339 [(0, .ref b), (1, .ref (kad (wC G ad1) 291)), (2, .ref (kad (wM G ad2) 0)), (3, .ref qo), (4, .ref qd), (5, .int (nI i))] []) : LJ p l e s m below meth c b G.1 (lws G ad1 ad2 cL cD qo qd f g lo ld) k n 374 [(0, .ref b), (1, .ref (kad (wC G ad1) 291)), (2, .ref (kad (wM G ad2) 0)), (3, .ref qo), (4, .ref qd), (5, .int (nI i))] [] := by
  obtain ⟨z, bb, g1, e1, e2, hz, hth, hv, hR1⟩ := hp N f g hN hR
  simp only [List.mem_cons, List.not_mem_nil, or_false] at hz
  refine L_aload_n C 1 rfl rfl dL_law_374 ?_
  refine L_aload_n C 3 rfl rfl dL_law_375 ?_
  refine L_perm lws_p1 ?_
  refine L_wrap C (rest := []) (wl_family l C.2.2.2.2.2.2.2.1 G ad1 cL cD qo f lo z e1 hz) hyL_family wm_RL_153 (by decide) rfl hk hn dL_law_376 rfl (by decide) ?_
  rw [oL_if]
  refine L_perm lws_p1.symm ?_
  refine L_istore C (lv1 := (6, .int (kcd [2, 4] z.1)) :: [(0, .ref b), (1, .ref (kad (wC G ad1) 291)), (2, .ref (kad (wM G ad2) 0)), (3, .ref qo), (4, .ref qd), (5, .int (nI i))]) (by decide) rfl dL_law_379 ?_
  refine L_aload_n C 3 rfl rfl dL_law_381 ?_
  refine L_perm lws_p3 ?_
  refine L_call C (w := wM G ad2) (As := []) (rest := []) rfl C.2.2.1 (a := 0) (ci := 14) (Nat.le_of_ble_eq_true rfl) (shM_0 G ad2) rfl (kMetV_i (km_X12_family l G ad2 g bb g1 e2)) hy_X12_family wm_RL_156 (by decide) rfl hk hn dL_law_382 rfl (by decide) ?_
  refine L_perm lws_p3.symm ?_
  exact L_tail C hk hn hth (fun h => by have h9 := kcd_0 (by decide) h; rw [if_pos h9, hv h9]; rfl) dL_law_385 dL_law_387 dL_law_388 dL_law_391 dL_law_393 dL_law_398 dL_law_400 dL_law_403 dL_law_404 dL_law_405 dL_law_406 dL_law_408 dL_law_409 dL_law_410 dL_law_415 (by decide) (kk _ _ _ _ hR1)
def kP_program (R : Nat → kMem → kMem → Prop) : Prop := ∀ (N : Nat) (f g : kMem), N < 512 → R N f g → kOk [2, 4] (cx_X11_program f) (cf_X12_program g) (R (N + 1))
theorem hyL_program : kYL yL_program cL_program 3 [(0, 8, 11, 28), (0, 8, 14, 19)] 2 := ⟨kgt (List.mem_of_getElem? (i := 717) (by decide +kernel)) rfl, kgt (List.mem_of_getElem? (i := 58) (by decide +kernel)) rfl, kgt (List.mem_of_getElem? (i := 716) (by decide +kernel)) rfl, by decide +kernel, by decide⟩
theorem wm_RL_157 : Cond.methodLink RL 157 yL_program ∈ kGT := kgt (List.mem_of_getElem? (i := 715) (by decide +kernel)) rfl
theorem hy_X12_program : kYV yX12_program cX12_program 5 (some .int) 0 := ⟨⟨kgt (List.mem_of_getElem? (i := 1567) (by decide +kernel)) rfl, kgt (List.mem_of_getElem? (i := 71) (by decide +kernel)) rfl, by decide +kernel, by decide⟩, kgt (List.mem_of_getElem? (i := 1565) (by decide +kernel)) rfl, kgt (List.mem_of_getElem? (i := 1566) (by decide +kernel)) rfl⟩
theorem wm_RL_159 : Cond.methodLink RL 159 yX12_program ∈ kGT := kgt (List.mem_of_getElem? (i := 1564) (by decide +kernel)) rfl
set_option maxRecDepth 100000 in
set_option maxHeartbeats 4000000 in
theorem lc_program (C : LC p l s m meth c b L xs G cL cD ad1 ad2) (hi : i + 5 ≤ L) (hN : N < 512) (hk : k + 2 ≤ 603072) (hn : n + 12 ≤ 7194730) (hR : R N f g) (hp : kP_program R) (kk : ∀ (f1 g1 : kMem) (lo1 : Nat → Int64) (ld1 : Nat → UInt64), R (N + 1) f1 g1 → LJ p l e s m below meth c b G.1 (lws G ad1 ad2 cL cD qo qd f1 g1 lo1 ld1) (k + 2) (n + 12) 2339 [(0, .ref b), (1, .ref (kad (wC G ad1) 291)), (2, .ref (kad (wM G ad2) 0)), (3, .ref qo), (4, .ref qd), (5, .int (nI i))] []) : LJ p l e s m below meth c b G.1 (lws G ad1 ad2 cL cD qo qd f g lo ld) k n 418 [(0, .ref b), (1, .ref (kad (wC G ad1) 291)), (2, .ref (kad (wM G ad2) 0)), (3, .ref qo), (4, .ref qd), (5, .int (nI i))] [] := by
  obtain ⟨z, bb, g1, e1, e2, hz, hth, hv, hR1⟩ := hp N f g hN hR
  simp only [List.mem_cons, List.not_mem_nil, or_false] at hz
  refine L_aload_n C 1 rfl rfl dL_law_418 ?_
  refine L_aload_n C 3 rfl rfl dL_law_419 ?_
  refine L_perm lws_p1 ?_
  refine L_wrap C (rest := []) (wl_program l C.2.2.2.2.2.2.2.1 G ad1 cL cD qo f lo z e1 hz) hyL_program wm_RL_157 (by decide) rfl hk hn dL_law_420 rfl (by decide) ?_
  rw [oL_if]
  refine L_perm lws_p1.symm ?_
  refine L_istore C (lv1 := (6, .int (kcd [2, 4] z.1)) :: [(0, .ref b), (1, .ref (kad (wC G ad1) 291)), (2, .ref (kad (wM G ad2) 0)), (3, .ref qo), (4, .ref qd), (5, .int (nI i))]) (by decide) rfl dL_law_423 ?_
  refine L_aload_n C 3 rfl rfl dL_law_425 ?_
  refine L_perm lws_p3 ?_
  refine L_call C (w := wM G ad2) (As := []) (rest := []) rfl C.2.2.1 (a := 0) (ci := 14) (Nat.le_of_ble_eq_true rfl) (shM_0 G ad2) rfl (kMetV_i (km_X12_program l G ad2 g bb g1 e2)) hy_X12_program wm_RL_159 (by decide) rfl hk hn dL_law_426 rfl (by decide) ?_
  refine L_perm lws_p3.symm ?_
  exact L_tail C hk hn hth (fun h => by have h9 := kcd_0 (by decide) h; rw [if_pos h9, hv h9]; rfl) dL_law_429 dL_law_431 dL_law_432 dL_law_435 dL_law_437 dL_law_442 dL_law_444 dL_law_447 dL_law_448 dL_law_449 dL_law_450 dL_law_452 dL_law_453 dL_law_454 dL_law_459 (by decide) (kk _ _ _ _ hR1)
theorem hy_X11_faultPosition : kYV yX11_faultPosition cX11_faultPosition 1 (some .int) 0 := ⟨⟨kgt (List.mem_of_getElem? (i := 430) (by decide +kernel)) rfl, kgt (List.mem_of_getElem? (i := 59) (by decide +kernel)) rfl, by decide +kernel, by decide⟩, kgt (List.mem_of_getElem? (i := 428) (by decide +kernel)) rfl, kgt (List.mem_of_getElem? (i := 429) (by decide +kernel)) rfl⟩
theorem wm_RL_160 : Cond.methodLink RL 160 yX11_faultPosition ∈ kGT := kgt (List.mem_of_getElem? (i := 427) (by decide +kernel)) rfl
theorem hy_X12_faultPosition : kYV yX12_faultPosition cX12_faultPosition 1 (some .int) 0 := ⟨⟨kgt (List.mem_of_getElem? (i := 1583) (by decide +kernel)) rfl, kgt (List.mem_of_getElem? (i := 71) (by decide +kernel)) rfl, by decide +kernel, by decide⟩, kgt (List.mem_of_getElem? (i := 1581) (by decide +kernel)) rfl, kgt (List.mem_of_getElem? (i := 1582) (by decide +kernel)) rfl⟩
theorem wm_RL_163 : Cond.methodLink RL 163 yX12_faultPosition ∈ kGT := kgt (List.mem_of_getElem? (i := 1580) (by decide +kernel)) rfl
def kP_faultPosition (R : Nat → kMem → kMem → Prop) : Prop := ∀ (N : Nat) (f g : kMem), N < 512 → R N f g → ∃ r f1 g1, cf_X11_faultPosition f = some (r, f1) ∧ cf_X12_faultPosition g = some (r, g1) ∧ R (N + 1) f1 g1
set_option maxRecDepth 100000 in
set_option maxHeartbeats 4000000 in
theorem lc_faultPosition (C : LC p l s m meth c b L xs G cL cD ad1 ad2) (hi : i + 5 ≤ L) (hN : N < 512) (hk : k + 2 ≤ 603072) (hn : n + 12 ≤ 7194730) (hR : R N f g) (hp : kP_faultPosition R) (kk : ∀ (f1 g1 : kMem) (lo1 : Nat → Int64) (ld1 : Nat → UInt64), R (N + 1) f1 g1 → LJ p l e s m below meth c b G.1 (lws G ad1 ad2 cL cD qo qd f1 g1 lo1 ld1) (k + 2) (n + 12) 2339 [(0, .ref b), (1, .ref (kad (wC G ad1) 291)), (2, .ref (kad (wM G ad2) 0)), (3, .ref qo), (4, .ref qd), (5, .int (nI i))] []) : LJ p l e s m below meth c b G.1 (lws G ad1 ad2 cL cD qo qd f g lo ld) k n 462 [(0, .ref b), (1, .ref (kad (wC G ad1) 291)), (2, .ref (kad (wM G ad2) 0)), (3, .ref qo), (4, .ref qd), (5, .int (nI i))] [] := by
  refine L_aload_n C 1 rfl rfl dL_law_462 ?_
  obtain ⟨r, f1, g1, e1, e2, hR1⟩ := hp N f g hN hR
  refine L_call C (w := wC G ad1) (As := []) (rest := []) rfl C.2.1.2.2.1 (a := 291) (ci := 13) (Nat.le_of_ble_eq_true rfl) (shC_291 G ad1) rfl (kMetV_i (km_X11_faultPosition l G ad1 f r f1 e1)) hy_X11_faultPosition wm_RL_160 (by decide) rfl (by omega) (by omega) dL_law_463 rfl (by decide) ?_
  show LJ p l e s m below meth c b G.1 (lws G ad1 ad2 cL cD qo qd f1 g lo ld) _ _ _ _ _
  refine L_aload_n C 2 rfl rfl dL_law_466 ?_
  refine L_perm lws_p3 ?_
  refine L_call C (w := wM G ad2) (As := []) (rest := [.int r]) rfl C.2.2.1 (a := 0) (ci := 14) (Nat.le_of_ble_eq_true rfl) (shM_0 G ad2) rfl (kMetV_i (km_X12_faultPosition l G ad2 g r g1 e2)) hy_X12_faultPosition wm_RL_163 (by decide) rfl (by omega) (by omega) dL_law_467 rfl (Nat.le_of_ble_eq_true rfl) ?_
  refine L_perm lws_p3.symm ?_
  refine L_icmpeq C (tgt := 2339) rfl (by decide) dL_law_470 ?_
  exact fun H locs ls hP hD hS hl => W.widen (k := k + 2) (n := n + 12) (by omega) (by omega) (kk f1 g1 lo ld hR1 H locs ls hP hD hS hl)
def kP_mount (R : Nat → kMem → kMem → Prop) : Prop := ∀ (N : Nat) (f g : kMem) (a0 : Int32), N < 512 → R N f g → kOk [4] (cx_X11_mount f (a0)) (cf_X12_mount g (a0)) (R (N + 1))
theorem hyL_mount : kYL yL_mount cL_mount 4 [(0, 9, 12, 19)] 3 := ⟨kgt (List.mem_of_getElem? (i := 868) (by decide +kernel)) rfl, kgt (List.mem_of_getElem? (i := 58) (by decide +kernel)) rfl, kgt (List.mem_of_getElem? (i := 867) (by decide +kernel)) rfl, by decide +kernel, by decide⟩
theorem wm_RL_164 : Cond.methodLink RL 164 yL_mount ∈ kGT := kgt (List.mem_of_getElem? (i := 866) (by decide +kernel)) rfl
theorem hy_X12_mount : kYV yX12_mount cX12_mount 2 (some .int) 1 := ⟨⟨kgt (List.mem_of_getElem? (i := 1427) (by decide +kernel)) rfl, kgt (List.mem_of_getElem? (i := 71) (by decide +kernel)) rfl, by decide +kernel, by decide⟩, kgt (List.mem_of_getElem? (i := 1425) (by decide +kernel)) rfl, kgt (List.mem_of_getElem? (i := 1426) (by decide +kernel)) rfl⟩
theorem wm_RL_166 : Cond.methodLink RL 166 yX12_mount ∈ kGT := kgt (List.mem_of_getElem? (i := 1424) (by decide +kernel)) rfl
set_option maxRecDepth 100000 in
set_option maxHeartbeats 4000000 in
theorem lc_mount (C : LC p l s m meth c b L xs G cL cD ad1 ad2) (hi : i + 5 ≤ L) (hN : N < 512) (hk : k + 2 ≤ 603072) (hn : n + 12 ≤ 7194730) (hR : R N f g) (hp : kP_mount R) (kk : ∀ (f1 g1 : kMem) (lo1 : Nat → Int64) (ld1 : Nat → UInt64), R (N + 1) f1 g1 → LJ p l e s m below meth c b G.1 (lws G ad1 ad2 cL cD qo qd f1 g1 lo1 ld1) (k + 2) (n + 12) 2339 [(0, .ref b), (1, .ref (kad (wC G ad1) 291)), (2, .ref (kad (wM G ad2) 0)), (3, .ref qo), (4, .ref qd), (5, .int (nI i))] []) : LJ p l e s m below meth c b G.1 (lws G ad1 ad2 cL cD qo qd f g lo ld) k n 475 [(0, .ref b), (1, .ref (kad (wC G ad1) 291)), (2, .ref (kad (wM G ad2) 0)), (3, .ref qo), (4, .ref qd), (5, .int (nI i))] [] := by
  obtain ⟨z, bb, g1, e1, e2, hz, hth, hv, hR1⟩ := hp N f g (xs (i + 1)) hN hR
  simp only [List.mem_cons, List.not_mem_nil, or_false] at hz
  refine L_aload_n C 1 rfl rfl dL_law_475 ?_
  refine L_aload_n C 0 rfl rfl dL_law_476 ?_
  refine L_iload C 5 rfl dL_law_477 ?_
  refine L_iconst C (v := nI 1) dL_law_479 rfl ?_
  refine L_iadd C (nI_add i 1) dL_law_480 ?_
  refine L_sld C (q := i + 1) rfl (by omega) dL_law_481 ?_
  refine L_aload_n C 3 rfl rfl dL_law_482 ?_
  refine L_perm lws_p1 ?_
  refine L_wrap C (rest := []) (wl_mount l C.2.2.2.2.2.2.2.1 G ad1 cL cD qo f (xs (i + 1)) lo z e1 hz) hyL_mount wm_RL_164 (by decide) rfl hk hn dL_law_483 rfl (by decide) ?_
  rw [oL_if]
  refine L_perm lws_p1.symm ?_
  refine L_istore C (lv1 := (6, .int (kcd [4] z.1)) :: [(0, .ref b), (1, .ref (kad (wC G ad1) 291)), (2, .ref (kad (wM G ad2) 0)), (3, .ref qo), (4, .ref qd), (5, .int (nI i))]) (by decide) rfl dL_law_486 ?_
  refine L_aload_n C 3 rfl rfl dL_law_488 ?_
  refine L_aload_n C 1 rfl rfl dL_law_489 ?_
  refine L_iload C 6 rfl dL_law_490 ?_
  refine L_iconst C (v := nI 1) dL_law_492 rfl ?_
  refine L_iadd C (nI_add i 1) dL_law_493 ?_
  refine L_sld C (q := i + 1) rfl (by omega) dL_law_494 ?_
  refine L_perm lws_p3 ?_
  refine L_call C (w := wM G ad2) (As := [.int (xs (i + 1))]) (rest := []) rfl C.2.2.1 (a := 0) (ci := 14) (Nat.le_of_ble_eq_true rfl) (shM_0 G ad2) rfl (kMetV_i (km_X12_mount l G ad2 g (xs (i + 1)) bb g1 e2)) hy_X12_mount wm_RL_166 (by decide) rfl hk hn dL_law_495 rfl (by decide) ?_
  refine L_perm lws_p3.symm ?_
  exact L_tail C hk hn hth (fun h => by have h9 := kcd_0 (by decide) h; rw [if_pos h9, hv h9]; rfl) dL_law_498 dL_law_500 dL_law_501 dL_law_504 dL_law_506 dL_law_511 dL_law_513 dL_law_516 dL_law_517 dL_law_518 dL_law_519 dL_law_521 dL_law_522 dL_law_523 dL_law_528 (by decide) (kk _ _ _ _ hR1)
def kP_load (R : Nat → kMem → kMem → Prop) : Prop := ∀ (N : Nat) (f g : kMem) (a0 a1 a2 : Int32), N < 512 → R N f g → kOk [4] (cx_X11_load f (a0) (a1) (a2)) (cf_X12_load g (a0) (a1) (a2)) (R (N + 1))
theorem hyL_load : kYL yL_load cL_load 6 [(0, 12, 15, 19)] 5 := ⟨kgt (List.mem_of_getElem? (i := 875) (by decide +kernel)) rfl, kgt (List.mem_of_getElem? (i := 58) (by decide +kernel)) rfl, kgt (List.mem_of_getElem? (i := 874) (by decide +kernel)) rfl, by decide +kernel, by decide⟩
theorem wm_RL_167 : Cond.methodLink RL 167 yL_load ∈ kGT := kgt (List.mem_of_getElem? (i := 873) (by decide +kernel)) rfl
theorem hy_X12_load : kYV yX12_load cX12_load 4 (some .int) 3 := ⟨⟨kgt (List.mem_of_getElem? (i := 1450) (by decide +kernel)) rfl, kgt (List.mem_of_getElem? (i := 71) (by decide +kernel)) rfl, by decide +kernel, by decide⟩, kgt (List.mem_of_getElem? (i := 1448) (by decide +kernel)) rfl, kgt (List.mem_of_getElem? (i := 1449) (by decide +kernel)) rfl⟩
theorem wm_RL_170 : Cond.methodLink RL 170 yX12_load ∈ kGT := kgt (List.mem_of_getElem? (i := 1447) (by decide +kernel)) rfl
set_option maxRecDepth 100000 in
set_option maxHeartbeats 4000000 in
theorem lc_load (C : LC p l s m meth c b L xs G cL cD ad1 ad2) (hi : i + 5 ≤ L) (hN : N < 512) (hk : k + 2 ≤ 603072) (hn : n + 12 ≤ 7194730) (hR : R N f g) (hp : kP_load R) (kk : ∀ (f1 g1 : kMem) (lo1 : Nat → Int64) (ld1 : Nat → UInt64), R (N + 1) f1 g1 → LJ p l e s m below meth c b G.1 (lws G ad1 ad2 cL cD qo qd f1 g1 lo1 ld1) (k + 2) (n + 12) 2339 [(0, .ref b), (1, .ref (kad (wC G ad1) 291)), (2, .ref (kad (wM G ad2) 0)), (3, .ref qo), (4, .ref qd), (5, .int (nI i))] []) : LJ p l e s m below meth c b G.1 (lws G ad1 ad2 cL cD qo qd f g lo ld) k n 531 [(0, .ref b), (1, .ref (kad (wC G ad1) 291)), (2, .ref (kad (wM G ad2) 0)), (3, .ref qo), (4, .ref qd), (5, .int (nI i))] [] := by
  obtain ⟨z, bb, g1, e1, e2, hz, hth, hv, hR1⟩ := hp N f g (xs (i + 1)) (xs (i + 2)) (xs (i + 3)) hN hR
  simp only [List.mem_cons, List.not_mem_nil, or_false] at hz
  refine L_aload_n C 1 rfl rfl dL_law_531 ?_
  refine L_aload_n C 0 rfl rfl dL_law_532 ?_
  refine L_iload C 5 rfl dL_law_533 ?_
  refine L_iconst C (v := nI 1) dL_law_535 rfl ?_
  refine L_iadd C (nI_add i 1) dL_law_536 ?_
  refine L_sld C (q := i + 1) rfl (by omega) dL_law_537 ?_
  refine L_aload_n C 0 rfl rfl dL_law_538 ?_
  refine L_iload C 5 rfl dL_law_539 ?_
  refine L_iconst C (v := nI 2) dL_law_541 rfl ?_
  refine L_iadd C (nI_add i 2) dL_law_542 ?_
  refine L_sld C (q := i + 2) rfl (by omega) dL_law_543 ?_
  refine L_aload_n C 0 rfl rfl dL_law_544 ?_
  refine L_iload C 5 rfl dL_law_545 ?_
  refine L_iconst C (v := nI 3) dL_law_547 rfl ?_
  refine L_iadd C (nI_add i 3) dL_law_548 ?_
  refine L_sld C (q := i + 3) rfl (by omega) dL_law_549 ?_
  refine L_aload_n C 3 rfl rfl dL_law_550 ?_
  refine L_perm lws_p1 ?_
  refine L_wrap C (rest := []) (wl_load l C.2.2.2.2.2.2.2.1 G ad1 cL cD qo f (xs (i + 1)) (xs (i + 2)) (xs (i + 3)) lo z e1 hz) hyL_load wm_RL_167 (by decide) rfl hk hn dL_law_551 rfl (by decide) ?_
  rw [oL_if]
  refine L_perm lws_p1.symm ?_
  refine L_istore C (lv1 := (6, .int (kcd [4] z.1)) :: [(0, .ref b), (1, .ref (kad (wC G ad1) 291)), (2, .ref (kad (wM G ad2) 0)), (3, .ref qo), (4, .ref qd), (5, .int (nI i))]) (by decide) rfl dL_law_554 ?_
  refine L_aload_n C 3 rfl rfl dL_law_556 ?_
  refine L_aload_n C 1 rfl rfl dL_law_557 ?_
  refine L_iload C 6 rfl dL_law_558 ?_
  refine L_iconst C (v := nI 1) dL_law_560 rfl ?_
  refine L_iadd C (nI_add i 1) dL_law_561 ?_
  refine L_sld C (q := i + 1) rfl (by omega) dL_law_562 ?_
  refine L_aload_n C 1 rfl rfl dL_law_563 ?_
  refine L_iload C 6 rfl dL_law_564 ?_
  refine L_iconst C (v := nI 2) dL_law_566 rfl ?_
  refine L_iadd C (nI_add i 2) dL_law_567 ?_
  refine L_sld C (q := i + 2) rfl (by omega) dL_law_568 ?_
  refine L_aload_n C 1 rfl rfl dL_law_569 ?_
  refine L_iload C 6 rfl dL_law_570 ?_
  refine L_iconst C (v := nI 3) dL_law_572 rfl ?_
  refine L_iadd C (nI_add i 3) dL_law_573 ?_
  refine L_sld C (q := i + 3) rfl (by omega) dL_law_574 ?_
  refine L_perm lws_p3 ?_
  refine L_call C (w := wM G ad2) (As := [.int (xs (i + 1)), .int (xs (i + 2)), .int (xs (i + 3))]) (rest := []) rfl C.2.2.1 (a := 0) (ci := 14) (Nat.le_of_ble_eq_true rfl) (shM_0 G ad2) rfl (kMetV_i (km_X12_load l G ad2 g (xs (i + 1)) (xs (i + 2)) (xs (i + 3)) bb g1 e2)) hy_X12_load wm_RL_170 (by decide) rfl hk hn dL_law_575 rfl (by decide) ?_
  refine L_perm lws_p3.symm ?_
  exact L_tail C hk hn hth (fun h => by have h9 := kcd_0 (by decide) h; rw [if_pos h9, hv h9]; rfl) dL_law_578 dL_law_580 dL_law_581 dL_law_584 dL_law_586 dL_law_591 dL_law_593 dL_law_596 dL_law_597 dL_law_598 dL_law_599 dL_law_601 dL_law_602 dL_law_603 dL_law_608 (by decide) (kk _ _ _ _ hR1)
def kP_empty (R : Nat → kMem → kMem → Prop) : Prop := ∀ (N : Nat) (f g : kMem) (a0 : Int32), N < 512 → R N f g → kOk [4] (cx_X11_empty f (a0)) (cf_X12_empty g (a0)) (R (N + 1))
theorem hyL_empty : kYL yL_empty cL_empty 4 [(0, 9, 12, 19)] 3 := ⟨kgt (List.mem_of_getElem? (i := 882) (by decide +kernel)) rfl, kgt (List.mem_of_getElem? (i := 58) (by decide +kernel)) rfl, kgt (List.mem_of_getElem? (i := 881) (by decide +kernel)) rfl, by decide +kernel, by decide⟩
theorem wm_RL_171 : Cond.methodLink RL 171 yL_empty ∈ kGT := kgt (List.mem_of_getElem? (i := 880) (by decide +kernel)) rfl
theorem hy_X12_empty : kYV yX12_empty cX12_empty 2 (some .int) 1 := ⟨⟨kgt (List.mem_of_getElem? (i := 1466) (by decide +kernel)) rfl, kgt (List.mem_of_getElem? (i := 71) (by decide +kernel)) rfl, by decide +kernel, by decide⟩, kgt (List.mem_of_getElem? (i := 1464) (by decide +kernel)) rfl, kgt (List.mem_of_getElem? (i := 1465) (by decide +kernel)) rfl⟩
theorem wm_RL_173 : Cond.methodLink RL 173 yX12_empty ∈ kGT := kgt (List.mem_of_getElem? (i := 1463) (by decide +kernel)) rfl
set_option maxRecDepth 100000 in
set_option maxHeartbeats 4000000 in
theorem lc_empty (C : LC p l s m meth c b L xs G cL cD ad1 ad2) (hi : i + 5 ≤ L) (hN : N < 512) (hk : k + 2 ≤ 603072) (hn : n + 12 ≤ 7194730) (hR : R N f g) (hp : kP_empty R) (kk : ∀ (f1 g1 : kMem) (lo1 : Nat → Int64) (ld1 : Nat → UInt64), R (N + 1) f1 g1 → LJ p l e s m below meth c b G.1 (lws G ad1 ad2 cL cD qo qd f1 g1 lo1 ld1) (k + 2) (n + 12) 2339 [(0, .ref b), (1, .ref (kad (wC G ad1) 291)), (2, .ref (kad (wM G ad2) 0)), (3, .ref qo), (4, .ref qd), (5, .int (nI i))] []) : LJ p l e s m below meth c b G.1 (lws G ad1 ad2 cL cD qo qd f g lo ld) k n 611 [(0, .ref b), (1, .ref (kad (wC G ad1) 291)), (2, .ref (kad (wM G ad2) 0)), (3, .ref qo), (4, .ref qd), (5, .int (nI i))] [] := by
  obtain ⟨z, bb, g1, e1, e2, hz, hth, hv, hR1⟩ := hp N f g (xs (i + 1)) hN hR
  simp only [List.mem_cons, List.not_mem_nil, or_false] at hz
  refine L_aload_n C 1 rfl rfl dL_law_611 ?_
  refine L_aload_n C 0 rfl rfl dL_law_612 ?_
  refine L_iload C 5 rfl dL_law_613 ?_
  refine L_iconst C (v := nI 1) dL_law_615 rfl ?_
  refine L_iadd C (nI_add i 1) dL_law_616 ?_
  refine L_sld C (q := i + 1) rfl (by omega) dL_law_617 ?_
  refine L_aload_n C 3 rfl rfl dL_law_618 ?_
  refine L_perm lws_p1 ?_
  refine L_wrap C (rest := []) (wl_empty l C.2.2.2.2.2.2.2.1 G ad1 cL cD qo f (xs (i + 1)) lo z e1 hz) hyL_empty wm_RL_171 (by decide) rfl hk hn dL_law_619 rfl (by decide) ?_
  rw [oL_if]
  refine L_perm lws_p1.symm ?_
  refine L_istore C (lv1 := (6, .int (kcd [4] z.1)) :: [(0, .ref b), (1, .ref (kad (wC G ad1) 291)), (2, .ref (kad (wM G ad2) 0)), (3, .ref qo), (4, .ref qd), (5, .int (nI i))]) (by decide) rfl dL_law_622 ?_
  refine L_aload_n C 3 rfl rfl dL_law_624 ?_
  refine L_aload_n C 1 rfl rfl dL_law_625 ?_
  refine L_iload C 6 rfl dL_law_626 ?_
  refine L_iconst C (v := nI 1) dL_law_628 rfl ?_
  refine L_iadd C (nI_add i 1) dL_law_629 ?_
  refine L_sld C (q := i + 1) rfl (by omega) dL_law_630 ?_
  refine L_perm lws_p3 ?_
  refine L_call C (w := wM G ad2) (As := [.int (xs (i + 1))]) (rest := []) rfl C.2.2.1 (a := 0) (ci := 14) (Nat.le_of_ble_eq_true rfl) (shM_0 G ad2) rfl (kMetV_i (km_X12_empty l G ad2 g (xs (i + 1)) bb g1 e2)) hy_X12_empty wm_RL_173 (by decide) rfl hk hn dL_law_631 rfl (by decide) ?_
  refine L_perm lws_p3.symm ?_
  exact L_tail C hk hn hth (fun h => by have h9 := kcd_0 (by decide) h; rw [if_pos h9, hv h9]; rfl) dL_law_634 dL_law_636 dL_law_637 dL_law_640 dL_law_642 dL_law_647 dL_law_649 dL_law_652 dL_law_653 dL_law_654 dL_law_655 dL_law_657 dL_law_658 dL_law_659 dL_law_664 (by decide) (kk _ _ _ _ hR1)
def kP_pause (R : Nat → kMem → kMem → Prop) : Prop := ∀ (N : Nat) (f g : kMem) (a0 : Int32), N < 512 → R N f g → kOk [4] (cx_X11_pause f (a0)) (cf_X12_pause g (a0)) (R (N + 1))
theorem hyL_pause : kYL yL_pause cL_pause 4 [(0, 9, 12, 19)] 3 := ⟨kgt (List.mem_of_getElem? (i := 894) (by decide +kernel)) rfl, kgt (List.mem_of_getElem? (i := 58) (by decide +kernel)) rfl, kgt (List.mem_of_getElem? (i := 893) (by decide +kernel)) rfl, by decide +kernel, by decide⟩
theorem wm_RL_174 : Cond.methodLink RL 174 yL_pause ∈ kGT := kgt (List.mem_of_getElem? (i := 892) (by decide +kernel)) rfl
theorem hy_X12_pause : kYV yX12_pause cX12_pause 2 (some .int) 1 := ⟨⟨kgt (List.mem_of_getElem? (i := 1478) (by decide +kernel)) rfl, kgt (List.mem_of_getElem? (i := 71) (by decide +kernel)) rfl, by decide +kernel, by decide⟩, kgt (List.mem_of_getElem? (i := 1476) (by decide +kernel)) rfl, kgt (List.mem_of_getElem? (i := 1477) (by decide +kernel)) rfl⟩
theorem wm_RL_176 : Cond.methodLink RL 176 yX12_pause ∈ kGT := kgt (List.mem_of_getElem? (i := 1475) (by decide +kernel)) rfl
set_option maxRecDepth 100000 in
set_option maxHeartbeats 4000000 in
theorem lc_pause (C : LC p l s m meth c b L xs G cL cD ad1 ad2) (hi : i + 5 ≤ L) (hN : N < 512) (hk : k + 2 ≤ 603072) (hn : n + 12 ≤ 7194730) (hR : R N f g) (hp : kP_pause R) (kk : ∀ (f1 g1 : kMem) (lo1 : Nat → Int64) (ld1 : Nat → UInt64), R (N + 1) f1 g1 → LJ p l e s m below meth c b G.1 (lws G ad1 ad2 cL cD qo qd f1 g1 lo1 ld1) (k + 2) (n + 12) 2339 [(0, .ref b), (1, .ref (kad (wC G ad1) 291)), (2, .ref (kad (wM G ad2) 0)), (3, .ref qo), (4, .ref qd), (5, .int (nI i))] []) : LJ p l e s m below meth c b G.1 (lws G ad1 ad2 cL cD qo qd f g lo ld) k n 667 [(0, .ref b), (1, .ref (kad (wC G ad1) 291)), (2, .ref (kad (wM G ad2) 0)), (3, .ref qo), (4, .ref qd), (5, .int (nI i))] [] := by
  obtain ⟨z, bb, g1, e1, e2, hz, hth, hv, hR1⟩ := hp N f g (xs (i + 1)) hN hR
  simp only [List.mem_cons, List.not_mem_nil, or_false] at hz
  refine L_aload_n C 1 rfl rfl dL_law_667 ?_
  refine L_aload_n C 0 rfl rfl dL_law_668 ?_
  refine L_iload C 5 rfl dL_law_669 ?_
  refine L_iconst C (v := nI 1) dL_law_671 rfl ?_
  refine L_iadd C (nI_add i 1) dL_law_672 ?_
  refine L_sld C (q := i + 1) rfl (by omega) dL_law_673 ?_
  refine L_aload_n C 3 rfl rfl dL_law_674 ?_
  refine L_perm lws_p1 ?_
  refine L_wrap C (rest := []) (wl_pause l C.2.2.2.2.2.2.2.1 G ad1 cL cD qo f (xs (i + 1)) lo z e1 hz) hyL_pause wm_RL_174 (by decide) rfl hk hn dL_law_675 rfl (by decide) ?_
  rw [oL_if]
  refine L_perm lws_p1.symm ?_
  refine L_istore C (lv1 := (6, .int (kcd [4] z.1)) :: [(0, .ref b), (1, .ref (kad (wC G ad1) 291)), (2, .ref (kad (wM G ad2) 0)), (3, .ref qo), (4, .ref qd), (5, .int (nI i))]) (by decide) rfl dL_law_678 ?_
  refine L_aload_n C 3 rfl rfl dL_law_680 ?_
  refine L_aload_n C 1 rfl rfl dL_law_681 ?_
  refine L_iload C 6 rfl dL_law_682 ?_
  refine L_iconst C (v := nI 1) dL_law_684 rfl ?_
  refine L_iadd C (nI_add i 1) dL_law_685 ?_
  refine L_sld C (q := i + 1) rfl (by omega) dL_law_686 ?_
  refine L_perm lws_p3 ?_
  refine L_call C (w := wM G ad2) (As := [.int (xs (i + 1))]) (rest := []) rfl C.2.2.1 (a := 0) (ci := 14) (Nat.le_of_ble_eq_true rfl) (shM_0 G ad2) rfl (kMetV_i (km_X12_pause l G ad2 g (xs (i + 1)) bb g1 e2)) hy_X12_pause wm_RL_176 (by decide) rfl hk hn dL_law_687 rfl (by decide) ?_
  refine L_perm lws_p3.symm ?_
  exact L_tail C hk hn hth (fun h => by have h9 := kcd_0 (by decide) h; rw [if_pos h9, hv h9]; rfl) dL_law_690 dL_law_692 dL_law_693 dL_law_696 dL_law_698 dL_law_703 dL_law_705 dL_law_708 dL_law_709 dL_law_710 dL_law_711 dL_law_713 dL_law_714 dL_law_715 dL_law_720 (by decide) (kk _ _ _ _ hR1)
def kP_run (R : Nat → kMem → kMem → Prop) : Prop := ∀ (N : Nat) (f g : kMem) (a0 a1 : Int32), N < 512 → R N f g → kOk [4] (cx_X11_run f (a0) (a1)) (cf_X12_run g (a0) (a1)) (R (N + 1))
theorem hyL_run : kYL yL_run cL_run 5 [(0, 10, 13, 19)] 4 := ⟨kgt (List.mem_of_getElem? (i := 901) (by decide +kernel)) rfl, kgt (List.mem_of_getElem? (i := 58) (by decide +kernel)) rfl, kgt (List.mem_of_getElem? (i := 900) (by decide +kernel)) rfl, by decide +kernel, by decide⟩
theorem wm_RL_177 : Cond.methodLink RL 177 yL_run ∈ kGT := kgt (List.mem_of_getElem? (i := 899) (by decide +kernel)) rfl
theorem hy_X12_run : kYV yX12_run cX12_run 3 (some .int) 2 := ⟨⟨kgt (List.mem_of_getElem? (i := 1486) (by decide +kernel)) rfl, kgt (List.mem_of_getElem? (i := 71) (by decide +kernel)) rfl, by decide +kernel, by decide⟩, kgt (List.mem_of_getElem? (i := 1484) (by decide +kernel)) rfl, kgt (List.mem_of_getElem? (i := 1485) (by decide +kernel)) rfl⟩
theorem wm_RL_180 : Cond.methodLink RL 180 yX12_run ∈ kGT := kgt (List.mem_of_getElem? (i := 1483) (by decide +kernel)) rfl
set_option maxRecDepth 100000 in
set_option maxHeartbeats 4000000 in
theorem lc_run (C : LC p l s m meth c b L xs G cL cD ad1 ad2) (hi : i + 5 ≤ L) (hN : N < 512) (hk : k + 2 ≤ 603072) (hn : n + 12 ≤ 7194730) (hR : R N f g) (hp : kP_run R) (kk : ∀ (f1 g1 : kMem) (lo1 : Nat → Int64) (ld1 : Nat → UInt64), R (N + 1) f1 g1 → LJ p l e s m below meth c b G.1 (lws G ad1 ad2 cL cD qo qd f1 g1 lo1 ld1) (k + 2) (n + 12) 2339 [(0, .ref b), (1, .ref (kad (wC G ad1) 291)), (2, .ref (kad (wM G ad2) 0)), (3, .ref qo), (4, .ref qd), (5, .int (nI i))] []) : LJ p l e s m below meth c b G.1 (lws G ad1 ad2 cL cD qo qd f g lo ld) k n 723 [(0, .ref b), (1, .ref (kad (wC G ad1) 291)), (2, .ref (kad (wM G ad2) 0)), (3, .ref qo), (4, .ref qd), (5, .int (nI i))] [] := by
  obtain ⟨z, bb, g1, e1, e2, hz, hth, hv, hR1⟩ := hp N f g (xs (i + 1)) (xs (i + 2)) hN hR
  simp only [List.mem_cons, List.not_mem_nil, or_false] at hz
  refine L_aload_n C 1 rfl rfl dL_law_723 ?_
  refine L_aload_n C 0 rfl rfl dL_law_724 ?_
  refine L_iload C 5 rfl dL_law_725 ?_
  refine L_iconst C (v := nI 1) dL_law_727 rfl ?_
  refine L_iadd C (nI_add i 1) dL_law_728 ?_
  refine L_sld C (q := i + 1) rfl (by omega) dL_law_729 ?_
  refine L_aload_n C 0 rfl rfl dL_law_730 ?_
  refine L_iload C 5 rfl dL_law_731 ?_
  refine L_iconst C (v := nI 2) dL_law_733 rfl ?_
  refine L_iadd C (nI_add i 2) dL_law_734 ?_
  refine L_sld C (q := i + 2) rfl (by omega) dL_law_735 ?_
  refine L_aload_n C 3 rfl rfl dL_law_736 ?_
  refine L_perm lws_p1 ?_
  refine L_wrap C (rest := []) (wl_run l C.2.2.2.2.2.2.2.1 G ad1 cL cD qo f (xs (i + 1)) (xs (i + 2)) lo z e1 hz) hyL_run wm_RL_177 (by decide) rfl hk hn dL_law_737 rfl (by decide) ?_
  rw [oL_if]
  refine L_perm lws_p1.symm ?_
  refine L_istore C (lv1 := (6, .int (kcd [4] z.1)) :: [(0, .ref b), (1, .ref (kad (wC G ad1) 291)), (2, .ref (kad (wM G ad2) 0)), (3, .ref qo), (4, .ref qd), (5, .int (nI i))]) (by decide) rfl dL_law_740 ?_
  refine L_aload_n C 3 rfl rfl dL_law_742 ?_
  refine L_aload_n C 1 rfl rfl dL_law_743 ?_
  refine L_iload C 6 rfl dL_law_744 ?_
  refine L_iconst C (v := nI 1) dL_law_746 rfl ?_
  refine L_iadd C (nI_add i 1) dL_law_747 ?_
  refine L_sld C (q := i + 1) rfl (by omega) dL_law_748 ?_
  refine L_aload_n C 1 rfl rfl dL_law_749 ?_
  refine L_iload C 6 rfl dL_law_750 ?_
  refine L_iconst C (v := nI 2) dL_law_752 rfl ?_
  refine L_iadd C (nI_add i 2) dL_law_753 ?_
  refine L_sld C (q := i + 2) rfl (by omega) dL_law_754 ?_
  refine L_perm lws_p3 ?_
  refine L_call C (w := wM G ad2) (As := [.int (xs (i + 1)), .int (xs (i + 2))]) (rest := []) rfl C.2.2.1 (a := 0) (ci := 14) (Nat.le_of_ble_eq_true rfl) (shM_0 G ad2) rfl (kMetV_i (km_X12_run l G ad2 g (xs (i + 1)) (xs (i + 2)) bb g1 e2)) hy_X12_run wm_RL_180 (by decide) rfl hk hn dL_law_755 rfl (by decide) ?_
  refine L_perm lws_p3.symm ?_
  exact L_tail C hk hn hth (fun h => by have h9 := kcd_0 (by decide) h; rw [if_pos h9, hv h9]; rfl) dL_law_758 dL_law_760 dL_law_761 dL_law_764 dL_law_766 dL_law_771 dL_law_773 dL_law_776 dL_law_777 dL_law_778 dL_law_779 dL_law_781 dL_law_782 dL_law_783 dL_law_788 (by decide) (kk _ _ _ _ hR1)
def kP_order (R : Nat → kMem → kMem → Prop) : Prop := ∀ (N : Nat) (f g : kMem) (a0 a1 a2 a3 : Int32), N < 512 → R N f g → kOk [4] (cx_X11_order f (a0) (a1) (a2) (a3)) (cf_X12_order g (a0) (a1) (a2) (a3)) (R (N + 1))
theorem hyL_order : kYL yL_order cL_order 7 [(0, 14, 17, 19)] 6 := ⟨kgt (List.mem_of_getElem? (i := 908) (by decide +kernel)) rfl, kgt (List.mem_of_getElem? (i := 58) (by decide +kernel)) rfl, kgt (List.mem_of_getElem? (i := 907) (by decide +kernel)) rfl, by decide +kernel, by decide⟩
theorem wm_RL_181 : Cond.methodLink RL 181 yL_order ∈ kGT := kgt (List.mem_of_getElem? (i := 906) (by decide +kernel)) rfl
theorem hy_X12_order : kYV yX12_order cX12_order 5 (some .int) 4 := ⟨⟨kgt (List.mem_of_getElem? (i := 1507) (by decide +kernel)) rfl, kgt (List.mem_of_getElem? (i := 71) (by decide +kernel)) rfl, by decide +kernel, by decide⟩, kgt (List.mem_of_getElem? (i := 1505) (by decide +kernel)) rfl, kgt (List.mem_of_getElem? (i := 1506) (by decide +kernel)) rfl⟩
theorem wm_RL_184 : Cond.methodLink RL 184 yX12_order ∈ kGT := kgt (List.mem_of_getElem? (i := 1504) (by decide +kernel)) rfl
set_option maxRecDepth 100000 in
set_option maxHeartbeats 4000000 in
theorem lc_order (C : LC p l s m meth c b L xs G cL cD ad1 ad2) (hi : i + 5 ≤ L) (hN : N < 512) (hk : k + 2 ≤ 603072) (hn : n + 12 ≤ 7194730) (hR : R N f g) (hp : kP_order R) (kk : ∀ (f1 g1 : kMem) (lo1 : Nat → Int64) (ld1 : Nat → UInt64), R (N + 1) f1 g1 → LJ p l e s m below meth c b G.1 (lws G ad1 ad2 cL cD qo qd f1 g1 lo1 ld1) (k + 2) (n + 12) 2339 [(0, .ref b), (1, .ref (kad (wC G ad1) 291)), (2, .ref (kad (wM G ad2) 0)), (3, .ref qo), (4, .ref qd), (5, .int (nI i))] []) : LJ p l e s m below meth c b G.1 (lws G ad1 ad2 cL cD qo qd f g lo ld) k n 791 [(0, .ref b), (1, .ref (kad (wC G ad1) 291)), (2, .ref (kad (wM G ad2) 0)), (3, .ref qo), (4, .ref qd), (5, .int (nI i))] [] := by
  obtain ⟨z, bb, g1, e1, e2, hz, hth, hv, hR1⟩ := hp N f g (xs (i + 1)) (xs (i + 2)) (xs (i + 3)) (xs (i + 4)) hN hR
  simp only [List.mem_cons, List.not_mem_nil, or_false] at hz
  refine L_aload_n C 1 rfl rfl dL_law_791 ?_
  refine L_aload_n C 0 rfl rfl dL_law_792 ?_
  refine L_iload C 5 rfl dL_law_793 ?_
  refine L_iconst C (v := nI 1) dL_law_795 rfl ?_
  refine L_iadd C (nI_add i 1) dL_law_796 ?_
  refine L_sld C (q := i + 1) rfl (by omega) dL_law_797 ?_
  refine L_aload_n C 0 rfl rfl dL_law_798 ?_
  refine L_iload C 5 rfl dL_law_799 ?_
  refine L_iconst C (v := nI 2) dL_law_801 rfl ?_
  refine L_iadd C (nI_add i 2) dL_law_802 ?_
  refine L_sld C (q := i + 2) rfl (by omega) dL_law_803 ?_
  refine L_aload_n C 0 rfl rfl dL_law_804 ?_
  refine L_iload C 5 rfl dL_law_805 ?_
  refine L_iconst C (v := nI 3) dL_law_807 rfl ?_
  refine L_iadd C (nI_add i 3) dL_law_808 ?_
  refine L_sld C (q := i + 3) rfl (by omega) dL_law_809 ?_
  refine L_aload_n C 0 rfl rfl dL_law_810 ?_
  refine L_iload C 5 rfl dL_law_811 ?_
  refine L_iconst C (v := nI 4) dL_law_813 rfl ?_
  refine L_iadd C (nI_add i 4) dL_law_814 ?_
  refine L_sld C (q := i + 4) rfl (by omega) dL_law_815 ?_
  refine L_aload_n C 3 rfl rfl dL_law_816 ?_
  refine L_perm lws_p1 ?_
  refine L_wrap C (rest := []) (wl_order l C.2.2.2.2.2.2.2.1 G ad1 cL cD qo f (xs (i + 1)) (xs (i + 2)) (xs (i + 3)) (xs (i + 4)) lo z e1 hz) hyL_order wm_RL_181 (by decide) rfl hk hn dL_law_817 rfl (by decide) ?_
  rw [oL_if]
  refine L_perm lws_p1.symm ?_
  refine L_istore C (lv1 := (6, .int (kcd [4] z.1)) :: [(0, .ref b), (1, .ref (kad (wC G ad1) 291)), (2, .ref (kad (wM G ad2) 0)), (3, .ref qo), (4, .ref qd), (5, .int (nI i))]) (by decide) rfl dL_law_820 ?_
  refine L_aload_n C 3 rfl rfl dL_law_822 ?_
  refine L_aload_n C 1 rfl rfl dL_law_823 ?_
  refine L_iload C 6 rfl dL_law_824 ?_
  refine L_iconst C (v := nI 1) dL_law_826 rfl ?_
  refine L_iadd C (nI_add i 1) dL_law_827 ?_
  refine L_sld C (q := i + 1) rfl (by omega) dL_law_828 ?_
  refine L_aload_n C 1 rfl rfl dL_law_829 ?_
  refine L_iload C 6 rfl dL_law_830 ?_
  refine L_iconst C (v := nI 2) dL_law_832 rfl ?_
  refine L_iadd C (nI_add i 2) dL_law_833 ?_
  refine L_sld C (q := i + 2) rfl (by omega) dL_law_834 ?_
  refine L_aload_n C 1 rfl rfl dL_law_835 ?_
  refine L_iload C 6 rfl dL_law_836 ?_
  refine L_iconst C (v := nI 3) dL_law_838 rfl ?_
  refine L_iadd C (nI_add i 3) dL_law_839 ?_
  refine L_sld C (q := i + 3) rfl (by omega) dL_law_840 ?_
  refine L_aload_n C 1 rfl rfl dL_law_841 ?_
  refine L_iload C 6 rfl dL_law_842 ?_
  refine L_iconst C (v := nI 4) dL_law_844 rfl ?_
  refine L_iadd C (nI_add i 4) dL_law_845 ?_
  refine L_sld C (q := i + 4) rfl (by omega) dL_law_846 ?_
  refine L_perm lws_p3 ?_
  refine L_call C (w := wM G ad2) (As := [.int (xs (i + 1)), .int (xs (i + 2)), .int (xs (i + 3)), .int (xs (i + 4))]) (rest := []) rfl C.2.2.1 (a := 0) (ci := 14) (Nat.le_of_ble_eq_true rfl) (shM_0 G ad2) rfl (kMetV_i (km_X12_order l G ad2 g (xs (i + 1)) (xs (i + 2)) (xs (i + 3)) (xs (i + 4)) bb g1 e2)) hy_X12_order wm_RL_184 (by decide) rfl hk hn dL_law_847 rfl (by decide) ?_
  refine L_perm lws_p3.symm ?_
  exact L_tail C hk hn hth (fun h => by have h9 := kcd_0 (by decide) h; rw [if_pos h9, hv h9]; rfl) dL_law_850 dL_law_852 dL_law_853 dL_law_856 dL_law_858 dL_law_863 dL_law_865 dL_law_868 dL_law_869 dL_law_870 dL_law_871 dL_law_873 dL_law_874 dL_law_875 dL_law_880 (by decide) (kk _ _ _ _ hR1)
def kP_callOff (R : Nat → kMem → kMem → Prop) : Prop := ∀ (N : Nat) (f g : kMem) (a0 : Int32), N < 512 → R N f g → kOk [4] (cx_X11_callOff f (a0)) (cf_X12_callOff g (a0)) (R (N + 1))
theorem hyL_callOff : kYL yL_callOff cL_callOff 4 [(0, 9, 12, 19)] 3 := ⟨kgt (List.mem_of_getElem? (i := 926) (by decide +kernel)) rfl, kgt (List.mem_of_getElem? (i := 58) (by decide +kernel)) rfl, kgt (List.mem_of_getElem? (i := 925) (by decide +kernel)) rfl, by decide +kernel, by decide⟩
theorem wm_RL_185 : Cond.methodLink RL 185 yL_callOff ∈ kGT := kgt (List.mem_of_getElem? (i := 924) (by decide +kernel)) rfl
theorem hy_X12_callOff : kYV yX12_callOff cX12_callOff 2 (some .int) 1 := ⟨⟨kgt (List.mem_of_getElem? (i := 1519) (by decide +kernel)) rfl, kgt (List.mem_of_getElem? (i := 71) (by decide +kernel)) rfl, by decide +kernel, by decide⟩, kgt (List.mem_of_getElem? (i := 1517) (by decide +kernel)) rfl, kgt (List.mem_of_getElem? (i := 1518) (by decide +kernel)) rfl⟩
theorem wm_RL_187 : Cond.methodLink RL 187 yX12_callOff ∈ kGT := kgt (List.mem_of_getElem? (i := 1516) (by decide +kernel)) rfl
set_option maxRecDepth 100000 in
set_option maxHeartbeats 4000000 in
theorem lc_callOff (C : LC p l s m meth c b L xs G cL cD ad1 ad2) (hi : i + 5 ≤ L) (hN : N < 512) (hk : k + 2 ≤ 603072) (hn : n + 12 ≤ 7194730) (hR : R N f g) (hp : kP_callOff R) (kk : ∀ (f1 g1 : kMem) (lo1 : Nat → Int64) (ld1 : Nat → UInt64), R (N + 1) f1 g1 → LJ p l e s m below meth c b G.1 (lws G ad1 ad2 cL cD qo qd f1 g1 lo1 ld1) (k + 2) (n + 12) 2339 [(0, .ref b), (1, .ref (kad (wC G ad1) 291)), (2, .ref (kad (wM G ad2) 0)), (3, .ref qo), (4, .ref qd), (5, .int (nI i))] []) : LJ p l e s m below meth c b G.1 (lws G ad1 ad2 cL cD qo qd f g lo ld) k n 883 [(0, .ref b), (1, .ref (kad (wC G ad1) 291)), (2, .ref (kad (wM G ad2) 0)), (3, .ref qo), (4, .ref qd), (5, .int (nI i))] [] := by
  obtain ⟨z, bb, g1, e1, e2, hz, hth, hv, hR1⟩ := hp N f g (xs (i + 1)) hN hR
  simp only [List.mem_cons, List.not_mem_nil, or_false] at hz
  refine L_aload_n C 1 rfl rfl dL_law_883 ?_
  refine L_aload_n C 0 rfl rfl dL_law_884 ?_
  refine L_iload C 5 rfl dL_law_885 ?_
  refine L_iconst C (v := nI 1) dL_law_887 rfl ?_
  refine L_iadd C (nI_add i 1) dL_law_888 ?_
  refine L_sld C (q := i + 1) rfl (by omega) dL_law_889 ?_
  refine L_aload_n C 3 rfl rfl dL_law_890 ?_
  refine L_perm lws_p1 ?_
  refine L_wrap C (rest := []) (wl_callOff l C.2.2.2.2.2.2.2.1 G ad1 cL cD qo f (xs (i + 1)) lo z e1 hz) hyL_callOff wm_RL_185 (by decide) rfl hk hn dL_law_891 rfl (by decide) ?_
  rw [oL_if]
  refine L_perm lws_p1.symm ?_
  refine L_istore C (lv1 := (6, .int (kcd [4] z.1)) :: [(0, .ref b), (1, .ref (kad (wC G ad1) 291)), (2, .ref (kad (wM G ad2) 0)), (3, .ref qo), (4, .ref qd), (5, .int (nI i))]) (by decide) rfl dL_law_894 ?_
  refine L_aload_n C 3 rfl rfl dL_law_896 ?_
  refine L_aload_n C 1 rfl rfl dL_law_897 ?_
  refine L_iload C 6 rfl dL_law_898 ?_
  refine L_iconst C (v := nI 1) dL_law_900 rfl ?_
  refine L_iadd C (nI_add i 1) dL_law_901 ?_
  refine L_sld C (q := i + 1) rfl (by omega) dL_law_902 ?_
  refine L_perm lws_p3 ?_
  refine L_call C (w := wM G ad2) (As := [.int (xs (i + 1))]) (rest := []) rfl C.2.2.1 (a := 0) (ci := 14) (Nat.le_of_ble_eq_true rfl) (shM_0 G ad2) rfl (kMetV_i (km_X12_callOff l G ad2 g (xs (i + 1)) bb g1 e2)) hy_X12_callOff wm_RL_187 (by decide) rfl hk hn dL_law_903 rfl (by decide) ?_
  refine L_perm lws_p3.symm ?_
  exact L_tail C hk hn hth (fun h => by have h9 := kcd_0 (by decide) h; rw [if_pos h9, hv h9]; rfl) dL_law_906 dL_law_908 dL_law_909 dL_law_912 dL_law_914 dL_law_919 dL_law_921 dL_law_924 dL_law_925 dL_law_926 dL_law_927 dL_law_929 dL_law_930 dL_law_931 dL_law_936 (by decide) (kk _ _ _ _ hR1)
def kP_set (R : Nat → kMem → kMem → Prop) : Prop := ∀ (N : Nat) (f g : kMem) (a0 a1 : Int32), N < 512 → R N f g → kOk [4] (cx_X11_set f (a0) (a1)) (cf_X12_set g (a0) (a1)) (R (N + 1))
theorem hyL_set : kYL yL_set cL_set 5 [(0, 10, 13, 19)] 4 := ⟨kgt (List.mem_of_getElem? (i := 945) (by decide +kernel)) rfl, kgt (List.mem_of_getElem? (i := 58) (by decide +kernel)) rfl, kgt (List.mem_of_getElem? (i := 944) (by decide +kernel)) rfl, by decide +kernel, by decide⟩
theorem wm_RL_188 : Cond.methodLink RL 188 yL_set ∈ kGT := kgt (List.mem_of_getElem? (i := 943) (by decide +kernel)) rfl
theorem hy_X12_set : kYV yX12_set cX12_set 3 (some .int) 2 := ⟨⟨kgt (List.mem_of_getElem? (i := 1539) (by decide +kernel)) rfl, kgt (List.mem_of_getElem? (i := 71) (by decide +kernel)) rfl, by decide +kernel, by decide⟩, kgt (List.mem_of_getElem? (i := 1537) (by decide +kernel)) rfl, kgt (List.mem_of_getElem? (i := 1538) (by decide +kernel)) rfl⟩
theorem wm_RL_190 : Cond.methodLink RL 190 yX12_set ∈ kGT := kgt (List.mem_of_getElem? (i := 1536) (by decide +kernel)) rfl
set_option maxRecDepth 100000 in
set_option maxHeartbeats 4000000 in
theorem lc_set (C : LC p l s m meth c b L xs G cL cD ad1 ad2) (hi : i + 5 ≤ L) (hN : N < 512) (hk : k + 2 ≤ 603072) (hn : n + 12 ≤ 7194730) (hR : R N f g) (hp : kP_set R) (kk : ∀ (f1 g1 : kMem) (lo1 : Nat → Int64) (ld1 : Nat → UInt64), R (N + 1) f1 g1 → LJ p l e s m below meth c b G.1 (lws G ad1 ad2 cL cD qo qd f1 g1 lo1 ld1) (k + 2) (n + 12) 2339 [(0, .ref b), (1, .ref (kad (wC G ad1) 291)), (2, .ref (kad (wM G ad2) 0)), (3, .ref qo), (4, .ref qd), (5, .int (nI i))] []) : LJ p l e s m below meth c b G.1 (lws G ad1 ad2 cL cD qo qd f g lo ld) k n 939 [(0, .ref b), (1, .ref (kad (wC G ad1) 291)), (2, .ref (kad (wM G ad2) 0)), (3, .ref qo), (4, .ref qd), (5, .int (nI i))] [] := by
  obtain ⟨z, bb, g1, e1, e2, hz, hth, hv, hR1⟩ := hp N f g (xs (i + 1)) (xs (i + 2)) hN hR
  simp only [List.mem_cons, List.not_mem_nil, or_false] at hz
  refine L_aload_n C 1 rfl rfl dL_law_939 ?_
  refine L_aload_n C 0 rfl rfl dL_law_940 ?_
  refine L_iload C 5 rfl dL_law_941 ?_
  refine L_iconst C (v := nI 1) dL_law_943 rfl ?_
  refine L_iadd C (nI_add i 1) dL_law_944 ?_
  refine L_sld C (q := i + 1) rfl (by omega) dL_law_945 ?_
  refine L_aload_n C 0 rfl rfl dL_law_946 ?_
  refine L_iload C 5 rfl dL_law_947 ?_
  refine L_iconst C (v := nI 2) dL_law_949 rfl ?_
  refine L_iadd C (nI_add i 2) dL_law_950 ?_
  refine L_sld C (q := i + 2) rfl (by omega) dL_law_951 ?_
  refine L_aload_n C 3 rfl rfl dL_law_952 ?_
  refine L_perm lws_p1 ?_
  refine L_wrap C (rest := []) (wl_set l C.2.2.2.2.2.2.2.1 G ad1 cL cD qo f (xs (i + 1)) (xs (i + 2)) lo z e1 hz) hyL_set wm_RL_188 (by decide) rfl hk hn dL_law_953 rfl (by decide) ?_
  rw [oL_if]
  refine L_perm lws_p1.symm ?_
  refine L_istore C (lv1 := (6, .int (kcd [4] z.1)) :: [(0, .ref b), (1, .ref (kad (wC G ad1) 291)), (2, .ref (kad (wM G ad2) 0)), (3, .ref qo), (4, .ref qd), (5, .int (nI i))]) (by decide) rfl dL_law_956 ?_
  refine L_aload_n C 3 rfl rfl dL_law_958 ?_
  refine L_aload_n C 1 rfl rfl dL_law_959 ?_
  refine L_iload C 6 rfl dL_law_960 ?_
  refine L_iconst C (v := nI 1) dL_law_962 rfl ?_
  refine L_iadd C (nI_add i 1) dL_law_963 ?_
  refine L_sld C (q := i + 1) rfl (by omega) dL_law_964 ?_
  refine L_aload_n C 1 rfl rfl dL_law_965 ?_
  refine L_iload C 6 rfl dL_law_966 ?_
  refine L_iconst C (v := nI 2) dL_law_968 rfl ?_
  refine L_iadd C (nI_add i 2) dL_law_969 ?_
  refine L_sld C (q := i + 2) rfl (by omega) dL_law_970 ?_
  refine L_perm lws_p3 ?_
  refine L_call C (w := wM G ad2) (As := [.int (xs (i + 1)), .int (xs (i + 2))]) (rest := []) rfl C.2.2.1 (a := 0) (ci := 14) (Nat.le_of_ble_eq_true rfl) (shM_0 G ad2) rfl (kMetV_i (km_X12_set l G ad2 g (xs (i + 1)) (xs (i + 2)) bb g1 e2)) hy_X12_set wm_RL_190 (by decide) rfl hk hn dL_law_971 rfl (by decide) ?_
  refine L_perm lws_p3.symm ?_
  exact L_tail C hk hn hth (fun h => by have h9 := kcd_0 (by decide) h; rw [if_pos h9, hv h9]; rfl) dL_law_974 dL_law_976 dL_law_977 dL_law_980 dL_law_982 dL_law_987 dL_law_989 dL_law_992 dL_law_993 dL_law_994 dL_law_995 dL_law_997 dL_law_998 dL_law_999 dL_law_1004 (by decide) (kk _ _ _ _ hR1)
def kP_purge (R : Nat → kMem → kMem → Prop) : Prop := ∀ (N : Nat) (f g : kMem) (a0 a1 : Int32), N < 512 → R N f g → kOk [3] (cx_X11_purge f (a0) (a1)) (cf_X12_purge g (a0) (a1)) (R (N + 1))
theorem hyL_purge : kYL yL_purge cL_purge 5 [(0, 10, 13, 63)] 4 := ⟨kgt (List.mem_of_getElem? (i := 960) (by decide +kernel)) rfl, kgt (List.mem_of_getElem? (i := 58) (by decide +kernel)) rfl, kgt (List.mem_of_getElem? (i := 959) (by decide +kernel)) rfl, by decide +kernel, by decide⟩
theorem wm_RL_191 : Cond.methodLink RL 191 yL_purge ∈ kGT := kgt (List.mem_of_getElem? (i := 958) (by decide +kernel)) rfl
theorem hy_X12_purge : kYV yX12_purge cX12_purge 3 (some .int) 2 := ⟨⟨kgt (List.mem_of_getElem? (i := 1587) (by decide +kernel)) rfl, kgt (List.mem_of_getElem? (i := 71) (by decide +kernel)) rfl, by decide +kernel, by decide⟩, kgt (List.mem_of_getElem? (i := 1585) (by decide +kernel)) rfl, kgt (List.mem_of_getElem? (i := 1586) (by decide +kernel)) rfl⟩
theorem wm_RL_193 : Cond.methodLink RL 193 yX12_purge ∈ kGT := kgt (List.mem_of_getElem? (i := 1584) (by decide +kernel)) rfl
set_option maxRecDepth 100000 in
set_option maxHeartbeats 4000000 in
theorem lc_purge (C : LC p l s m meth c b L xs G cL cD ad1 ad2) (hi : i + 5 ≤ L) (hN : N < 512) (hk : k + 2 ≤ 603072) (hn : n + 12 ≤ 7194730) (hR : R N f g) (hp : kP_purge R) (kk : ∀ (f1 g1 : kMem) (lo1 : Nat → Int64) (ld1 : Nat → UInt64), R (N + 1) f1 g1 → LJ p l e s m below meth c b G.1 (lws G ad1 ad2 cL cD qo qd f1 g1 lo1 ld1) (k + 2) (n + 12) 2339 [(0, .ref b), (1, .ref (kad (wC G ad1) 291)), (2, .ref (kad (wM G ad2) 0)), (3, .ref qo), (4, .ref qd), (5, .int (nI i))] []) : LJ p l e s m below meth c b G.1 (lws G ad1 ad2 cL cD qo qd f g lo ld) k n 1007 [(0, .ref b), (1, .ref (kad (wC G ad1) 291)), (2, .ref (kad (wM G ad2) 0)), (3, .ref qo), (4, .ref qd), (5, .int (nI i))] [] := by
  obtain ⟨z, bb, g1, e1, e2, hz, hth, hv, hR1⟩ := hp N f g (xs (i + 1)) (xs (i + 2)) hN hR
  simp only [List.mem_cons, List.not_mem_nil, or_false] at hz
  refine L_aload_n C 1 rfl rfl dL_law_1007 ?_
  refine L_aload_n C 0 rfl rfl dL_law_1008 ?_
  refine L_iload C 5 rfl dL_law_1009 ?_
  refine L_iconst C (v := nI 1) dL_law_1011 rfl ?_
  refine L_iadd C (nI_add i 1) dL_law_1012 ?_
  refine L_sld C (q := i + 1) rfl (by omega) dL_law_1013 ?_
  refine L_aload_n C 0 rfl rfl dL_law_1014 ?_
  refine L_iload C 5 rfl dL_law_1015 ?_
  refine L_iconst C (v := nI 2) dL_law_1017 rfl ?_
  refine L_iadd C (nI_add i 2) dL_law_1018 ?_
  refine L_sld C (q := i + 2) rfl (by omega) dL_law_1019 ?_
  refine L_aload_n C 3 rfl rfl dL_law_1020 ?_
  refine L_perm lws_p1 ?_
  refine L_wrap C (rest := []) (wl_purge l C.2.2.2.2.2.2.2.1 G ad1 cL cD qo f (xs (i + 1)) (xs (i + 2)) lo z e1 hz) hyL_purge wm_RL_191 (by decide) rfl hk hn dL_law_1021 rfl (by decide) ?_
  rw [oL_if]
  refine L_perm lws_p1.symm ?_
  refine L_istore C (lv1 := (6, .int (kcd [3] z.1)) :: [(0, .ref b), (1, .ref (kad (wC G ad1) 291)), (2, .ref (kad (wM G ad2) 0)), (3, .ref qo), (4, .ref qd), (5, .int (nI i))]) (by decide) rfl dL_law_1024 ?_
  refine L_aload_n C 3 rfl rfl dL_law_1026 ?_
  refine L_aload_n C 1 rfl rfl dL_law_1027 ?_
  refine L_iload C 6 rfl dL_law_1028 ?_
  refine L_iconst C (v := nI 1) dL_law_1030 rfl ?_
  refine L_iadd C (nI_add i 1) dL_law_1031 ?_
  refine L_sld C (q := i + 1) rfl (by omega) dL_law_1032 ?_
  refine L_aload_n C 1 rfl rfl dL_law_1033 ?_
  refine L_iload C 6 rfl dL_law_1034 ?_
  refine L_iconst C (v := nI 2) dL_law_1036 rfl ?_
  refine L_iadd C (nI_add i 2) dL_law_1037 ?_
  refine L_sld C (q := i + 2) rfl (by omega) dL_law_1038 ?_
  refine L_perm lws_p3 ?_
  refine L_call C (w := wM G ad2) (As := [.int (xs (i + 1)), .int (xs (i + 2))]) (rest := []) rfl C.2.2.1 (a := 0) (ci := 14) (Nat.le_of_ble_eq_true rfl) (shM_0 G ad2) rfl (kMetV_i (km_X12_purge l G ad2 g (xs (i + 1)) (xs (i + 2)) bb g1 e2)) hy_X12_purge wm_RL_193 (by decide) rfl hk hn dL_law_1039 rfl (by decide) ?_
  refine L_perm lws_p3.symm ?_
  exact L_tail C hk hn hth (fun h => by have h9 := kcd_0 (by decide) h; rw [if_pos h9, hv h9]; rfl) dL_law_1042 dL_law_1044 dL_law_1045 dL_law_1048 dL_law_1050 dL_law_1055 dL_law_1057 dL_law_1060 dL_law_1061 dL_law_1062 dL_law_1063 dL_law_1065 dL_law_1066 dL_law_1067 dL_law_1072 (by decide) (kk _ _ _ _ hR1)
def kP_minutes (R : Nat → kMem → kMem → Prop) : Prop := ∀ (N : Nat) (f g : kMem) (a0 a1 : Int32), N < 512 → R N f g → kOk [3, 2, 1] (cx_X11_minutes f (a0) (a1)) (cf_X12_minutes g (a0) (a1)) (R (N + 1))
theorem hyL_minutes : kYL yL_minutes cL_minutes 5 [(0, 10, 13, 63), (0, 10, 17, 28), (0, 10, 21, 13)] 4 := ⟨kgt (List.mem_of_getElem? (i := 1006) (by decide +kernel)) rfl, kgt (List.mem_of_getElem? (i := 58) (by decide +kernel)) rfl, kgt (List.mem_of_getElem? (i := 1005) (by decide +kernel)) rfl, by decide +kernel, by decide⟩
theorem wm_RL_194 : Cond.methodLink RL 194 yL_minutes ∈ kGT := kgt (List.mem_of_getElem? (i := 1004) (by decide +kernel)) rfl
theorem hy_X12_minutes : kYV yX12_minutes cX12_minutes 3 (some .int) 2 := ⟨⟨kgt (List.mem_of_getElem? (i := 1591) (by decide +kernel)) rfl, kgt (List.mem_of_getElem? (i := 71) (by decide +kernel)) rfl, by decide +kernel, by decide⟩, kgt (List.mem_of_getElem? (i := 1589) (by decide +kernel)) rfl, kgt (List.mem_of_getElem? (i := 1590) (by decide +kernel)) rfl⟩
theorem wm_RL_196 : Cond.methodLink RL 196 yX12_minutes ∈ kGT := kgt (List.mem_of_getElem? (i := 1588) (by decide +kernel)) rfl
set_option maxRecDepth 100000 in
set_option maxHeartbeats 4000000 in
theorem lc_minutes (C : LC p l s m meth c b L xs G cL cD ad1 ad2) (hi : i + 5 ≤ L) (hN : N < 512) (hk : k + 2 ≤ 603072) (hn : n + 12 ≤ 7194730) (hR : R N f g) (hp : kP_minutes R) (kk : ∀ (f1 g1 : kMem) (lo1 : Nat → Int64) (ld1 : Nat → UInt64), R (N + 1) f1 g1 → LJ p l e s m below meth c b G.1 (lws G ad1 ad2 cL cD qo qd f1 g1 lo1 ld1) (k + 2) (n + 12) 2339 [(0, .ref b), (1, .ref (kad (wC G ad1) 291)), (2, .ref (kad (wM G ad2) 0)), (3, .ref qo), (4, .ref qd), (5, .int (nI i))] []) : LJ p l e s m below meth c b G.1 (lws G ad1 ad2 cL cD qo qd f g lo ld) k n 1075 [(0, .ref b), (1, .ref (kad (wC G ad1) 291)), (2, .ref (kad (wM G ad2) 0)), (3, .ref qo), (4, .ref qd), (5, .int (nI i))] [] := by
  obtain ⟨z, bb, g1, e1, e2, hz, hth, hv, hR1⟩ := hp N f g (xs (i + 1)) (xs (i + 2)) hN hR
  simp only [List.mem_cons, List.not_mem_nil, or_false] at hz
  refine L_aload_n C 1 rfl rfl dL_law_1075 ?_
  refine L_aload_n C 0 rfl rfl dL_law_1076 ?_
  refine L_iload C 5 rfl dL_law_1077 ?_
  refine L_iconst C (v := nI 1) dL_law_1079 rfl ?_
  refine L_iadd C (nI_add i 1) dL_law_1080 ?_
  refine L_sld C (q := i + 1) rfl (by omega) dL_law_1081 ?_
  refine L_aload_n C 0 rfl rfl dL_law_1082 ?_
  refine L_iload C 5 rfl dL_law_1083 ?_
  refine L_iconst C (v := nI 2) dL_law_1085 rfl ?_
  refine L_iadd C (nI_add i 2) dL_law_1086 ?_
  refine L_sld C (q := i + 2) rfl (by omega) dL_law_1087 ?_
  refine L_aload_n C 3 rfl rfl dL_law_1088 ?_
  refine L_perm lws_p1 ?_
  refine L_wrap C (rest := []) (wl_minutes l C.2.2.2.2.2.2.2.1 G ad1 cL cD qo f (xs (i + 1)) (xs (i + 2)) lo z e1 hz) hyL_minutes wm_RL_194 (by decide) rfl hk hn dL_law_1089 rfl (by decide) ?_
  rw [oL_if]
  refine L_perm lws_p1.symm ?_
  refine L_istore C (lv1 := (6, .int (kcd [3, 2, 1] z.1)) :: [(0, .ref b), (1, .ref (kad (wC G ad1) 291)), (2, .ref (kad (wM G ad2) 0)), (3, .ref qo), (4, .ref qd), (5, .int (nI i))]) (by decide) rfl dL_law_1092 ?_
  refine L_aload_n C 3 rfl rfl dL_law_1094 ?_
  refine L_aload_n C 1 rfl rfl dL_law_1095 ?_
  refine L_iload C 6 rfl dL_law_1096 ?_
  refine L_iconst C (v := nI 1) dL_law_1098 rfl ?_
  refine L_iadd C (nI_add i 1) dL_law_1099 ?_
  refine L_sld C (q := i + 1) rfl (by omega) dL_law_1100 ?_
  refine L_aload_n C 1 rfl rfl dL_law_1101 ?_
  refine L_iload C 6 rfl dL_law_1102 ?_
  refine L_iconst C (v := nI 2) dL_law_1104 rfl ?_
  refine L_iadd C (nI_add i 2) dL_law_1105 ?_
  refine L_sld C (q := i + 2) rfl (by omega) dL_law_1106 ?_
  refine L_perm lws_p3 ?_
  refine L_call C (w := wM G ad2) (As := [.int (xs (i + 1)), .int (xs (i + 2))]) (rest := []) rfl C.2.2.1 (a := 0) (ci := 14) (Nat.le_of_ble_eq_true rfl) (shM_0 G ad2) rfl (kMetV_i (km_X12_minutes l G ad2 g (xs (i + 1)) (xs (i + 2)) bb g1 e2)) hy_X12_minutes wm_RL_196 (by decide) rfl hk hn dL_law_1107 rfl (by decide) ?_
  refine L_perm lws_p3.symm ?_
  exact L_tail C hk hn hth (fun h => by have h9 := kcd_0 (by decide) h; rw [if_pos h9, hv h9]; rfl) dL_law_1110 dL_law_1112 dL_law_1113 dL_law_1116 dL_law_1118 dL_law_1123 dL_law_1125 dL_law_1128 dL_law_1129 dL_law_1130 dL_law_1131 dL_law_1133 dL_law_1134 dL_law_1135 dL_law_1140 (by decide) (kk _ _ _ _ hR1)
def kP_best (R : Nat → kMem → kMem → Prop) : Prop := ∀ (N : Nat) (f g : kMem) (a0 : Int32), N < 512 → R N f g → kOk [2] (cx_X11_best f (a0)) (cf_X12_best g (a0)) (R (N + 1))
theorem hyL_best : kYL yL_best cL_best 4 [(0, 9, 12, 28)] 3 := ⟨kgt (List.mem_of_getElem? (i := 1017) (by decide +kernel)) rfl, kgt (List.mem_of_getElem? (i := 58) (by decide +kernel)) rfl, kgt (List.mem_of_getElem? (i := 1016) (by decide +kernel)) rfl, by decide +kernel, by decide⟩
theorem wm_RL_197 : Cond.methodLink RL 197 yL_best ∈ kGT := kgt (List.mem_of_getElem? (i := 1015) (by decide +kernel)) rfl
theorem hy_X12_best : kYV yX12_best cX12_best 2 (some .int) 1 := ⟨⟨kgt (List.mem_of_getElem? (i := 1595) (by decide +kernel)) rfl, kgt (List.mem_of_getElem? (i := 71) (by decide +kernel)) rfl, by decide +kernel, by decide⟩, kgt (List.mem_of_getElem? (i := 1593) (by decide +kernel)) rfl, kgt (List.mem_of_getElem? (i := 1594) (by decide +kernel)) rfl⟩
theorem wm_RL_199 : Cond.methodLink RL 199 yX12_best ∈ kGT := kgt (List.mem_of_getElem? (i := 1592) (by decide +kernel)) rfl
set_option maxRecDepth 100000 in
set_option maxHeartbeats 4000000 in
theorem lc_best (C : LC p l s m meth c b L xs G cL cD ad1 ad2) (hi : i + 5 ≤ L) (hN : N < 512) (hk : k + 2 ≤ 603072) (hn : n + 12 ≤ 7194730) (hR : R N f g) (hp : kP_best R) (kk : ∀ (f1 g1 : kMem) (lo1 : Nat → Int64) (ld1 : Nat → UInt64), R (N + 1) f1 g1 → LJ p l e s m below meth c b G.1 (lws G ad1 ad2 cL cD qo qd f1 g1 lo1 ld1) (k + 2) (n + 12) 2339 [(0, .ref b), (1, .ref (kad (wC G ad1) 291)), (2, .ref (kad (wM G ad2) 0)), (3, .ref qo), (4, .ref qd), (5, .int (nI i))] []) : LJ p l e s m below meth c b G.1 (lws G ad1 ad2 cL cD qo qd f g lo ld) k n 1143 [(0, .ref b), (1, .ref (kad (wC G ad1) 291)), (2, .ref (kad (wM G ad2) 0)), (3, .ref qo), (4, .ref qd), (5, .int (nI i))] [] := by
  obtain ⟨z, bb, g1, e1, e2, hz, hth, hv, hR1⟩ := hp N f g (xs (i + 1)) hN hR
  simp only [List.mem_cons, List.not_mem_nil, or_false] at hz
  refine L_aload_n C 1 rfl rfl dL_law_1143 ?_
  refine L_aload_n C 0 rfl rfl dL_law_1144 ?_
  refine L_iload C 5 rfl dL_law_1145 ?_
  refine L_iconst C (v := nI 1) dL_law_1147 rfl ?_
  refine L_iadd C (nI_add i 1) dL_law_1148 ?_
  refine L_sld C (q := i + 1) rfl (by omega) dL_law_1149 ?_
  refine L_aload_n C 3 rfl rfl dL_law_1150 ?_
  refine L_perm lws_p1 ?_
  refine L_wrap C (rest := []) (wl_best l C.2.2.2.2.2.2.2.1 G ad1 cL cD qo f (xs (i + 1)) lo z e1 hz) hyL_best wm_RL_197 (by decide) rfl hk hn dL_law_1151 rfl (by decide) ?_
  rw [oL_if]
  refine L_perm lws_p1.symm ?_
  refine L_istore C (lv1 := (6, .int (kcd [2] z.1)) :: [(0, .ref b), (1, .ref (kad (wC G ad1) 291)), (2, .ref (kad (wM G ad2) 0)), (3, .ref qo), (4, .ref qd), (5, .int (nI i))]) (by decide) rfl dL_law_1154 ?_
  refine L_aload_n C 3 rfl rfl dL_law_1156 ?_
  refine L_aload_n C 1 rfl rfl dL_law_1157 ?_
  refine L_iload C 6 rfl dL_law_1158 ?_
  refine L_iconst C (v := nI 1) dL_law_1160 rfl ?_
  refine L_iadd C (nI_add i 1) dL_law_1161 ?_
  refine L_sld C (q := i + 1) rfl (by omega) dL_law_1162 ?_
  refine L_perm lws_p3 ?_
  refine L_call C (w := wM G ad2) (As := [.int (xs (i + 1))]) (rest := []) rfl C.2.2.1 (a := 0) (ci := 14) (Nat.le_of_ble_eq_true rfl) (shM_0 G ad2) rfl (kMetV_i (km_X12_best l G ad2 g (xs (i + 1)) bb g1 e2)) hy_X12_best wm_RL_199 (by decide) rfl hk hn dL_law_1163 rfl (by decide) ?_
  refine L_perm lws_p3.symm ?_
  exact L_tail C hk hn hth (fun h => by have h9 := kcd_0 (by decide) h; rw [if_pos h9, hv h9]; rfl) dL_law_1166 dL_law_1168 dL_law_1169 dL_law_1172 dL_law_1174 dL_law_1179 dL_law_1181 dL_law_1184 dL_law_1185 dL_law_1186 dL_law_1187 dL_law_1189 dL_law_1190 dL_law_1191 dL_law_1196 (by decide) (kk _ _ _ _ hR1)
def kP_bestAgain (R : Nat → kMem → kMem → Prop) : Prop := ∀ (N : Nat) (f g : kMem) (a0 : Int32), N < 512 → R N f g → kOk [2] (cx_X11_bestAgain f (a0)) (cf_X12_bestAgain g (a0)) (R (N + 1))
theorem hyL_bestAgain : kYL yL_bestAgain cL_bestAgain 4 [(0, 9, 12, 28)] 3 := ⟨kgt (List.mem_of_getElem? (i := 1051) (by decide +kernel)) rfl, kgt (List.mem_of_getElem? (i := 58) (by decide +kernel)) rfl, kgt (List.mem_of_getElem? (i := 1050) (by decide +kernel)) rfl, by decide +kernel, by decide⟩
theorem wm_RL_200 : Cond.methodLink RL 200 yL_bestAgain ∈ kGT := kgt (List.mem_of_getElem? (i := 1049) (by decide +kernel)) rfl
theorem hy_X12_bestAgain : kYV yX12_bestAgain cX12_bestAgain 2 (some .int) 1 := ⟨⟨kgt (List.mem_of_getElem? (i := 1607) (by decide +kernel)) rfl, kgt (List.mem_of_getElem? (i := 71) (by decide +kernel)) rfl, by decide +kernel, by decide⟩, kgt (List.mem_of_getElem? (i := 1605) (by decide +kernel)) rfl, kgt (List.mem_of_getElem? (i := 1606) (by decide +kernel)) rfl⟩
theorem wm_RL_202 : Cond.methodLink RL 202 yX12_bestAgain ∈ kGT := kgt (List.mem_of_getElem? (i := 1604) (by decide +kernel)) rfl
set_option maxRecDepth 100000 in
set_option maxHeartbeats 4000000 in
theorem lc_bestAgain (C : LC p l s m meth c b L xs G cL cD ad1 ad2) (hi : i + 5 ≤ L) (hN : N < 512) (hk : k + 2 ≤ 603072) (hn : n + 12 ≤ 7194730) (hR : R N f g) (hp : kP_bestAgain R) (kk : ∀ (f1 g1 : kMem) (lo1 : Nat → Int64) (ld1 : Nat → UInt64), R (N + 1) f1 g1 → LJ p l e s m below meth c b G.1 (lws G ad1 ad2 cL cD qo qd f1 g1 lo1 ld1) (k + 2) (n + 12) 2339 [(0, .ref b), (1, .ref (kad (wC G ad1) 291)), (2, .ref (kad (wM G ad2) 0)), (3, .ref qo), (4, .ref qd), (5, .int (nI i))] []) : LJ p l e s m below meth c b G.1 (lws G ad1 ad2 cL cD qo qd f g lo ld) k n 1199 [(0, .ref b), (1, .ref (kad (wC G ad1) 291)), (2, .ref (kad (wM G ad2) 0)), (3, .ref qo), (4, .ref qd), (5, .int (nI i))] [] := by
  obtain ⟨z, bb, g1, e1, e2, hz, hth, hv, hR1⟩ := hp N f g (xs (i + 1)) hN hR
  simp only [List.mem_cons, List.not_mem_nil, or_false] at hz
  refine L_aload_n C 1 rfl rfl dL_law_1199 ?_
  refine L_aload_n C 0 rfl rfl dL_law_1200 ?_
  refine L_iload C 5 rfl dL_law_1201 ?_
  refine L_iconst C (v := nI 1) dL_law_1203 rfl ?_
  refine L_iadd C (nI_add i 1) dL_law_1204 ?_
  refine L_sld C (q := i + 1) rfl (by omega) dL_law_1205 ?_
  refine L_aload_n C 3 rfl rfl dL_law_1206 ?_
  refine L_perm lws_p1 ?_
  refine L_wrap C (rest := []) (wl_bestAgain l C.2.2.2.2.2.2.2.1 G ad1 cL cD qo f (xs (i + 1)) lo z e1 hz) hyL_bestAgain wm_RL_200 (by decide) rfl hk hn dL_law_1207 rfl (by decide) ?_
  rw [oL_if]
  refine L_perm lws_p1.symm ?_
  refine L_istore C (lv1 := (6, .int (kcd [2] z.1)) :: [(0, .ref b), (1, .ref (kad (wC G ad1) 291)), (2, .ref (kad (wM G ad2) 0)), (3, .ref qo), (4, .ref qd), (5, .int (nI i))]) (by decide) rfl dL_law_1210 ?_
  refine L_aload_n C 3 rfl rfl dL_law_1212 ?_
  refine L_aload_n C 1 rfl rfl dL_law_1213 ?_
  refine L_iload C 6 rfl dL_law_1214 ?_
  refine L_iconst C (v := nI 1) dL_law_1216 rfl ?_
  refine L_iadd C (nI_add i 1) dL_law_1217 ?_
  refine L_sld C (q := i + 1) rfl (by omega) dL_law_1218 ?_
  refine L_perm lws_p3 ?_
  refine L_call C (w := wM G ad2) (As := [.int (xs (i + 1))]) (rest := []) rfl C.2.2.1 (a := 0) (ci := 14) (Nat.le_of_ble_eq_true rfl) (shM_0 G ad2) rfl (kMetV_i (km_X12_bestAgain l G ad2 g (xs (i + 1)) bb g1 e2)) hy_X12_bestAgain wm_RL_202 (by decide) rfl hk hn dL_law_1219 rfl (by decide) ?_
  refine L_perm lws_p3.symm ?_
  exact L_tail C hk hn hth (fun h => by have h9 := kcd_0 (by decide) h; rw [if_pos h9, hv h9]; rfl) dL_law_1222 dL_law_1224 dL_law_1225 dL_law_1228 dL_law_1230 dL_law_1235 dL_law_1237 dL_law_1240 dL_law_1241 dL_law_1242 dL_law_1243 dL_law_1245 dL_law_1246 dL_law_1247 dL_law_1252 (by decide) (kk _ _ _ _ hR1)
def kP_bestColour (R : Nat → kMem → kMem → Prop) : Prop := ∀ (N : Nat) (f g : kMem) (a0 a1 : Int32), N < 512 → R N f g → kOk [2, 5] (cx_X11_bestColour f (a0) (a1)) (cf_X12_bestColour g (a0) (a1)) (R (N + 1))
theorem hyL_bestColour : kYL yL_bestColour cL_bestColour 5 [(0, 10, 13, 28), (0, 10, 17, 77)] 4 := ⟨kgt (List.mem_of_getElem? (i := 1066) (by decide +kernel)) rfl, kgt (List.mem_of_getElem? (i := 58) (by decide +kernel)) rfl, kgt (List.mem_of_getElem? (i := 1065) (by decide +kernel)) rfl, by decide +kernel, by decide⟩
theorem wm_RL_203 : Cond.methodLink RL 203 yL_bestColour ∈ kGT := kgt (List.mem_of_getElem? (i := 1064) (by decide +kernel)) rfl
theorem hy_X12_bestColour : kYV yX12_bestColour cX12_bestColour 3 (some .int) 2 := ⟨⟨kgt (List.mem_of_getElem? (i := 1611) (by decide +kernel)) rfl, kgt (List.mem_of_getElem? (i := 71) (by decide +kernel)) rfl, by decide +kernel, by decide⟩, kgt (List.mem_of_getElem? (i := 1609) (by decide +kernel)) rfl, kgt (List.mem_of_getElem? (i := 1610) (by decide +kernel)) rfl⟩
theorem wm_RL_205 : Cond.methodLink RL 205 yX12_bestColour ∈ kGT := kgt (List.mem_of_getElem? (i := 1608) (by decide +kernel)) rfl
set_option maxRecDepth 100000 in
set_option maxHeartbeats 4000000 in
theorem lc_bestColour (C : LC p l s m meth c b L xs G cL cD ad1 ad2) (hi : i + 5 ≤ L) (hN : N < 512) (hk : k + 2 ≤ 603072) (hn : n + 12 ≤ 7194730) (hR : R N f g) (hp : kP_bestColour R) (kk : ∀ (f1 g1 : kMem) (lo1 : Nat → Int64) (ld1 : Nat → UInt64), R (N + 1) f1 g1 → LJ p l e s m below meth c b G.1 (lws G ad1 ad2 cL cD qo qd f1 g1 lo1 ld1) (k + 2) (n + 12) 2339 [(0, .ref b), (1, .ref (kad (wC G ad1) 291)), (2, .ref (kad (wM G ad2) 0)), (3, .ref qo), (4, .ref qd), (5, .int (nI i))] []) : LJ p l e s m below meth c b G.1 (lws G ad1 ad2 cL cD qo qd f g lo ld) k n 1255 [(0, .ref b), (1, .ref (kad (wC G ad1) 291)), (2, .ref (kad (wM G ad2) 0)), (3, .ref qo), (4, .ref qd), (5, .int (nI i))] [] := by
  obtain ⟨z, bb, g1, e1, e2, hz, hth, hv, hR1⟩ := hp N f g (xs (i + 1)) (xs (i + 2)) hN hR
  simp only [List.mem_cons, List.not_mem_nil, or_false] at hz
  refine L_aload_n C 1 rfl rfl dL_law_1255 ?_
  refine L_aload_n C 0 rfl rfl dL_law_1256 ?_
  refine L_iload C 5 rfl dL_law_1257 ?_
  refine L_iconst C (v := nI 1) dL_law_1259 rfl ?_
  refine L_iadd C (nI_add i 1) dL_law_1260 ?_
  refine L_sld C (q := i + 1) rfl (by omega) dL_law_1261 ?_
  refine L_aload_n C 0 rfl rfl dL_law_1262 ?_
  refine L_iload C 5 rfl dL_law_1263 ?_
  refine L_iconst C (v := nI 2) dL_law_1265 rfl ?_
  refine L_iadd C (nI_add i 2) dL_law_1266 ?_
  refine L_sld C (q := i + 2) rfl (by omega) dL_law_1267 ?_
  refine L_aload_n C 3 rfl rfl dL_law_1268 ?_
  refine L_perm lws_p1 ?_
  refine L_wrap C (rest := []) (wl_bestColour l C.2.2.2.2.2.2.2.1 G ad1 cL cD qo f (xs (i + 1)) (xs (i + 2)) lo z e1 hz) hyL_bestColour wm_RL_203 (by decide) rfl hk hn dL_law_1269 rfl (by decide) ?_
  rw [oL_if]
  refine L_perm lws_p1.symm ?_
  refine L_istore C (lv1 := (6, .int (kcd [2, 5] z.1)) :: [(0, .ref b), (1, .ref (kad (wC G ad1) 291)), (2, .ref (kad (wM G ad2) 0)), (3, .ref qo), (4, .ref qd), (5, .int (nI i))]) (by decide) rfl dL_law_1272 ?_
  refine L_aload_n C 3 rfl rfl dL_law_1274 ?_
  refine L_aload_n C 1 rfl rfl dL_law_1275 ?_
  refine L_iload C 6 rfl dL_law_1276 ?_
  refine L_iconst C (v := nI 1) dL_law_1278 rfl ?_
  refine L_iadd C (nI_add i 1) dL_law_1279 ?_
  refine L_sld C (q := i + 1) rfl (by omega) dL_law_1280 ?_
  refine L_aload_n C 1 rfl rfl dL_law_1281 ?_
  refine L_iload C 6 rfl dL_law_1282 ?_
  refine L_iconst C (v := nI 2) dL_law_1284 rfl ?_
  refine L_iadd C (nI_add i 2) dL_law_1285 ?_
  refine L_sld C (q := i + 2) rfl (by omega) dL_law_1286 ?_
  refine L_perm lws_p3 ?_
  refine L_call C (w := wM G ad2) (As := [.int (xs (i + 1)), .int (xs (i + 2))]) (rest := []) rfl C.2.2.1 (a := 0) (ci := 14) (Nat.le_of_ble_eq_true rfl) (shM_0 G ad2) rfl (kMetV_i (km_X12_bestColour l G ad2 g (xs (i + 1)) (xs (i + 2)) bb g1 e2)) hy_X12_bestColour wm_RL_205 (by decide) rfl hk hn dL_law_1287 rfl (by decide) ?_
  refine L_perm lws_p3.symm ?_
  exact L_tail C hk hn hth (fun h => by have h9 := kcd_0 (by decide) h; rw [if_pos h9, hv h9]; rfl) dL_law_1290 dL_law_1292 dL_law_1293 dL_law_1296 dL_law_1298 dL_law_1303 dL_law_1305 dL_law_1308 dL_law_1309 dL_law_1310 dL_law_1311 dL_law_1313 dL_law_1314 dL_law_1315 dL_law_1320 (by decide) (kk _ _ _ _ hR1)
def kP_familyOf (R : Nat → kMem → kMem → Prop) : Prop := ∀ (N : Nat) (f g : kMem) (a0 a1 : Int32), N < 512 → R N f g → kOk [3, 2] (cx_X11_familyOf f (a0) (a1)) (cf_X12_familyOf g (a0) (a1)) (R (N + 1))
theorem hyL_familyOf : kYL yL_familyOf cL_familyOf 5 [(0, 10, 13, 63), (0, 10, 17, 28)] 4 := ⟨kgt (List.mem_of_getElem? (i := 1100) (by decide +kernel)) rfl, kgt (List.mem_of_getElem? (i := 58) (by decide +kernel)) rfl, kgt (List.mem_of_getElem? (i := 1099) (by decide +kernel)) rfl, by decide +kernel, by decide⟩
theorem wm_RL_206 : Cond.methodLink RL 206 yL_familyOf ∈ kGT := kgt (List.mem_of_getElem? (i := 1098) (by decide +kernel)) rfl
theorem hy_X12_familyOf : kYV yX12_familyOf cX12_familyOf 3 (some .int) 2 := ⟨⟨kgt (List.mem_of_getElem? (i := 1616) (by decide +kernel)) rfl, kgt (List.mem_of_getElem? (i := 71) (by decide +kernel)) rfl, by decide +kernel, by decide⟩, kgt (List.mem_of_getElem? (i := 1614) (by decide +kernel)) rfl, kgt (List.mem_of_getElem? (i := 1615) (by decide +kernel)) rfl⟩
theorem wm_RL_208 : Cond.methodLink RL 208 yX12_familyOf ∈ kGT := kgt (List.mem_of_getElem? (i := 1613) (by decide +kernel)) rfl
set_option maxRecDepth 100000 in
set_option maxHeartbeats 4000000 in
theorem lc_familyOf (C : LC p l s m meth c b L xs G cL cD ad1 ad2) (hi : i + 5 ≤ L) (hN : N < 512) (hk : k + 2 ≤ 603072) (hn : n + 12 ≤ 7194730) (hR : R N f g) (hp : kP_familyOf R) (kk : ∀ (f1 g1 : kMem) (lo1 : Nat → Int64) (ld1 : Nat → UInt64), R (N + 1) f1 g1 → LJ p l e s m below meth c b G.1 (lws G ad1 ad2 cL cD qo qd f1 g1 lo1 ld1) (k + 2) (n + 12) 2339 [(0, .ref b), (1, .ref (kad (wC G ad1) 291)), (2, .ref (kad (wM G ad2) 0)), (3, .ref qo), (4, .ref qd), (5, .int (nI i))] []) : LJ p l e s m below meth c b G.1 (lws G ad1 ad2 cL cD qo qd f g lo ld) k n 1323 [(0, .ref b), (1, .ref (kad (wC G ad1) 291)), (2, .ref (kad (wM G ad2) 0)), (3, .ref qo), (4, .ref qd), (5, .int (nI i))] [] := by
  obtain ⟨z, bb, g1, e1, e2, hz, hth, hv, hR1⟩ := hp N f g (xs (i + 1)) (xs (i + 2)) hN hR
  simp only [List.mem_cons, List.not_mem_nil, or_false] at hz
  refine L_aload_n C 1 rfl rfl dL_law_1323 ?_
  refine L_aload_n C 0 rfl rfl dL_law_1324 ?_
  refine L_iload C 5 rfl dL_law_1325 ?_
  refine L_iconst C (v := nI 1) dL_law_1327 rfl ?_
  refine L_iadd C (nI_add i 1) dL_law_1328 ?_
  refine L_sld C (q := i + 1) rfl (by omega) dL_law_1329 ?_
  refine L_aload_n C 0 rfl rfl dL_law_1330 ?_
  refine L_iload C 5 rfl dL_law_1331 ?_
  refine L_iconst C (v := nI 2) dL_law_1333 rfl ?_
  refine L_iadd C (nI_add i 2) dL_law_1334 ?_
  refine L_sld C (q := i + 2) rfl (by omega) dL_law_1335 ?_
  refine L_aload_n C 3 rfl rfl dL_law_1336 ?_
  refine L_perm lws_p1 ?_
  refine L_wrap C (rest := []) (wl_familyOf l C.2.2.2.2.2.2.2.1 G ad1 cL cD qo f (xs (i + 1)) (xs (i + 2)) lo z e1 hz) hyL_familyOf wm_RL_206 (by decide) rfl hk hn dL_law_1337 rfl (by decide) ?_
  rw [oL_if]
  refine L_perm lws_p1.symm ?_
  refine L_istore C (lv1 := (6, .int (kcd [3, 2] z.1)) :: [(0, .ref b), (1, .ref (kad (wC G ad1) 291)), (2, .ref (kad (wM G ad2) 0)), (3, .ref qo), (4, .ref qd), (5, .int (nI i))]) (by decide) rfl dL_law_1340 ?_
  refine L_aload_n C 3 rfl rfl dL_law_1342 ?_
  refine L_aload_n C 1 rfl rfl dL_law_1343 ?_
  refine L_iload C 6 rfl dL_law_1344 ?_
  refine L_iconst C (v := nI 1) dL_law_1346 rfl ?_
  refine L_iadd C (nI_add i 1) dL_law_1347 ?_
  refine L_sld C (q := i + 1) rfl (by omega) dL_law_1348 ?_
  refine L_aload_n C 1 rfl rfl dL_law_1349 ?_
  refine L_iload C 6 rfl dL_law_1350 ?_
  refine L_iconst C (v := nI 2) dL_law_1352 rfl ?_
  refine L_iadd C (nI_add i 2) dL_law_1353 ?_
  refine L_sld C (q := i + 2) rfl (by omega) dL_law_1354 ?_
  refine L_perm lws_p3 ?_
  refine L_call C (w := wM G ad2) (As := [.int (xs (i + 1)), .int (xs (i + 2))]) (rest := []) rfl C.2.2.1 (a := 0) (ci := 14) (Nat.le_of_ble_eq_true rfl) (shM_0 G ad2) rfl (kMetV_i (km_X12_familyOf l G ad2 g (xs (i + 1)) (xs (i + 2)) bb g1 e2)) hy_X12_familyOf wm_RL_208 (by decide) rfl hk hn dL_law_1355 rfl (by decide) ?_
  refine L_perm lws_p3.symm ?_
  exact L_tail C hk hn hth (fun h => by have h9 := kcd_0 (by decide) h; rw [if_pos h9, hv h9]; rfl) dL_law_1358 dL_law_1360 dL_law_1361 dL_law_1364 dL_law_1366 dL_law_1371 dL_law_1373 dL_law_1376 dL_law_1377 dL_law_1378 dL_law_1379 dL_law_1381 dL_law_1382 dL_law_1383 dL_law_1388 (by decide) (kk _ _ _ _ hR1)
def kP_pieces (R : Nat → kMem → kMem → Prop) : Prop := ∀ (N : Nat) (f g : kMem) (a0 a1 : Int32), N < 512 → R N f g → kOk [3] (cx_X11_pieces f (a0) (a1)) (cf_X12_pieces g (a0) (a1)) (R (N + 1))
theorem hyL_pieces : kYL yL_pieces cL_pieces 5 [(0, 10, 13, 63)] 4 := ⟨kgt (List.mem_of_getElem? (i := 1118) (by decide +kernel)) rfl, kgt (List.mem_of_getElem? (i := 58) (by decide +kernel)) rfl, kgt (List.mem_of_getElem? (i := 1117) (by decide +kernel)) rfl, by decide +kernel, by decide⟩
theorem wm_RL_209 : Cond.methodLink RL 209 yL_pieces ∈ kGT := kgt (List.mem_of_getElem? (i := 1116) (by decide +kernel)) rfl
theorem hy_X12_pieces : kYV yX12_pieces cX12_pieces 3 (some .int) 2 := ⟨⟨kgt (List.mem_of_getElem? (i := 1620) (by decide +kernel)) rfl, kgt (List.mem_of_getElem? (i := 71) (by decide +kernel)) rfl, by decide +kernel, by decide⟩, kgt (List.mem_of_getElem? (i := 1618) (by decide +kernel)) rfl, kgt (List.mem_of_getElem? (i := 1619) (by decide +kernel)) rfl⟩
theorem wm_RL_211 : Cond.methodLink RL 211 yX12_pieces ∈ kGT := kgt (List.mem_of_getElem? (i := 1617) (by decide +kernel)) rfl
set_option maxRecDepth 100000 in
set_option maxHeartbeats 4000000 in
theorem lc_pieces (C : LC p l s m meth c b L xs G cL cD ad1 ad2) (hi : i + 5 ≤ L) (hN : N < 512) (hk : k + 2 ≤ 603072) (hn : n + 12 ≤ 7194730) (hR : R N f g) (hp : kP_pieces R) (kk : ∀ (f1 g1 : kMem) (lo1 : Nat → Int64) (ld1 : Nat → UInt64), R (N + 1) f1 g1 → LJ p l e s m below meth c b G.1 (lws G ad1 ad2 cL cD qo qd f1 g1 lo1 ld1) (k + 2) (n + 12) 2339 [(0, .ref b), (1, .ref (kad (wC G ad1) 291)), (2, .ref (kad (wM G ad2) 0)), (3, .ref qo), (4, .ref qd), (5, .int (nI i))] []) : LJ p l e s m below meth c b G.1 (lws G ad1 ad2 cL cD qo qd f g lo ld) k n 1391 [(0, .ref b), (1, .ref (kad (wC G ad1) 291)), (2, .ref (kad (wM G ad2) 0)), (3, .ref qo), (4, .ref qd), (5, .int (nI i))] [] := by
  obtain ⟨z, bb, g1, e1, e2, hz, hth, hv, hR1⟩ := hp N f g (xs (i + 1)) (xs (i + 2)) hN hR
  simp only [List.mem_cons, List.not_mem_nil, or_false] at hz
  refine L_aload_n C 1 rfl rfl dL_law_1391 ?_
  refine L_aload_n C 0 rfl rfl dL_law_1392 ?_
  refine L_iload C 5 rfl dL_law_1393 ?_
  refine L_iconst C (v := nI 1) dL_law_1395 rfl ?_
  refine L_iadd C (nI_add i 1) dL_law_1396 ?_
  refine L_sld C (q := i + 1) rfl (by omega) dL_law_1397 ?_
  refine L_aload_n C 0 rfl rfl dL_law_1398 ?_
  refine L_iload C 5 rfl dL_law_1399 ?_
  refine L_iconst C (v := nI 2) dL_law_1401 rfl ?_
  refine L_iadd C (nI_add i 2) dL_law_1402 ?_
  refine L_sld C (q := i + 2) rfl (by omega) dL_law_1403 ?_
  refine L_aload_n C 3 rfl rfl dL_law_1404 ?_
  refine L_perm lws_p1 ?_
  refine L_wrap C (rest := []) (wl_pieces l C.2.2.2.2.2.2.2.1 G ad1 cL cD qo f (xs (i + 1)) (xs (i + 2)) lo z e1 hz) hyL_pieces wm_RL_209 (by decide) rfl hk hn dL_law_1405 rfl (by decide) ?_
  rw [oL_if]
  refine L_perm lws_p1.symm ?_
  refine L_istore C (lv1 := (6, .int (kcd [3] z.1)) :: [(0, .ref b), (1, .ref (kad (wC G ad1) 291)), (2, .ref (kad (wM G ad2) 0)), (3, .ref qo), (4, .ref qd), (5, .int (nI i))]) (by decide) rfl dL_law_1408 ?_
  refine L_aload_n C 3 rfl rfl dL_law_1410 ?_
  refine L_aload_n C 1 rfl rfl dL_law_1411 ?_
  refine L_iload C 6 rfl dL_law_1412 ?_
  refine L_iconst C (v := nI 1) dL_law_1414 rfl ?_
  refine L_iadd C (nI_add i 1) dL_law_1415 ?_
  refine L_sld C (q := i + 1) rfl (by omega) dL_law_1416 ?_
  refine L_aload_n C 1 rfl rfl dL_law_1417 ?_
  refine L_iload C 6 rfl dL_law_1418 ?_
  refine L_iconst C (v := nI 2) dL_law_1420 rfl ?_
  refine L_iadd C (nI_add i 2) dL_law_1421 ?_
  refine L_sld C (q := i + 2) rfl (by omega) dL_law_1422 ?_
  refine L_perm lws_p3 ?_
  refine L_call C (w := wM G ad2) (As := [.int (xs (i + 1)), .int (xs (i + 2))]) (rest := []) rfl C.2.2.1 (a := 0) (ci := 14) (Nat.le_of_ble_eq_true rfl) (shM_0 G ad2) rfl (kMetV_i (km_X12_pieces l G ad2 g (xs (i + 1)) (xs (i + 2)) bb g1 e2)) hy_X12_pieces wm_RL_211 (by decide) rfl hk hn dL_law_1423 rfl (by decide) ?_
  refine L_perm lws_p3.symm ?_
  exact L_tail C hk hn hth (fun h => by have h9 := kcd_0 (by decide) h; rw [if_pos h9, hv h9]; rfl) dL_law_1426 dL_law_1428 dL_law_1429 dL_law_1432 dL_law_1434 dL_law_1439 dL_law_1441 dL_law_1444 dL_law_1445 dL_law_1446 dL_law_1447 dL_law_1449 dL_law_1450 dL_law_1451 dL_law_1456 (by decide) (kk _ _ _ _ hR1)
def kP_families (R : Nat → kMem → kMem → Prop) : Prop := ∀ (N : Nat) (f g : kMem) (a0 : Int32), N < 512 → R N f g → kOk [3] (cx_X11_families f (a0)) (cf_X12_families g (a0)) (R (N + 1))
theorem hyL_families : kYL yL_families cL_families 4 [(0, 9, 12, 63)] 3 := ⟨kgt (List.mem_of_getElem? (i := 1128) (by decide +kernel)) rfl, kgt (List.mem_of_getElem? (i := 58) (by decide +kernel)) rfl, kgt (List.mem_of_getElem? (i := 1127) (by decide +kernel)) rfl, by decide +kernel, by decide⟩
theorem wm_RL_212 : Cond.methodLink RL 212 yL_families ∈ kGT := kgt (List.mem_of_getElem? (i := 1126) (by decide +kernel)) rfl
theorem hy_X12_families : kYV yX12_families cX12_families 4 (some .int) 1 := ⟨⟨kgt (List.mem_of_getElem? (i := 1628) (by decide +kernel)) rfl, kgt (List.mem_of_getElem? (i := 71) (by decide +kernel)) rfl, by decide +kernel, by decide⟩, kgt (List.mem_of_getElem? (i := 1626) (by decide +kernel)) rfl, kgt (List.mem_of_getElem? (i := 1627) (by decide +kernel)) rfl⟩
theorem wm_RL_214 : Cond.methodLink RL 214 yX12_families ∈ kGT := kgt (List.mem_of_getElem? (i := 1625) (by decide +kernel)) rfl
set_option maxRecDepth 100000 in
set_option maxHeartbeats 4000000 in
theorem lc_families (C : LC p l s m meth c b L xs G cL cD ad1 ad2) (hi : i + 5 ≤ L) (hN : N < 512) (hk : k + 2 ≤ 603072) (hn : n + 12 ≤ 7194730) (hR : R N f g) (hp : kP_families R) (kk : ∀ (f1 g1 : kMem) (lo1 : Nat → Int64) (ld1 : Nat → UInt64), R (N + 1) f1 g1 → LJ p l e s m below meth c b G.1 (lws G ad1 ad2 cL cD qo qd f1 g1 lo1 ld1) (k + 2) (n + 12) 2339 [(0, .ref b), (1, .ref (kad (wC G ad1) 291)), (2, .ref (kad (wM G ad2) 0)), (3, .ref qo), (4, .ref qd), (5, .int (nI i))] []) : LJ p l e s m below meth c b G.1 (lws G ad1 ad2 cL cD qo qd f g lo ld) k n 1459 [(0, .ref b), (1, .ref (kad (wC G ad1) 291)), (2, .ref (kad (wM G ad2) 0)), (3, .ref qo), (4, .ref qd), (5, .int (nI i))] [] := by
  obtain ⟨z, bb, g1, e1, e2, hz, hth, hv, hR1⟩ := hp N f g (xs (i + 1)) hN hR
  simp only [List.mem_cons, List.not_mem_nil, or_false] at hz
  refine L_aload_n C 1 rfl rfl dL_law_1459 ?_
  refine L_aload_n C 0 rfl rfl dL_law_1460 ?_
  refine L_iload C 5 rfl dL_law_1461 ?_
  refine L_iconst C (v := nI 1) dL_law_1463 rfl ?_
  refine L_iadd C (nI_add i 1) dL_law_1464 ?_
  refine L_sld C (q := i + 1) rfl (by omega) dL_law_1465 ?_
  refine L_aload_n C 3 rfl rfl dL_law_1466 ?_
  refine L_perm lws_p1 ?_
  refine L_wrap C (rest := []) (wl_families l C.2.2.2.2.2.2.2.1 G ad1 cL cD qo f (xs (i + 1)) lo z e1 hz) hyL_families wm_RL_212 (by decide) rfl hk hn dL_law_1467 rfl (by decide) ?_
  rw [oL_if]
  refine L_perm lws_p1.symm ?_
  refine L_istore C (lv1 := (6, .int (kcd [3] z.1)) :: [(0, .ref b), (1, .ref (kad (wC G ad1) 291)), (2, .ref (kad (wM G ad2) 0)), (3, .ref qo), (4, .ref qd), (5, .int (nI i))]) (by decide) rfl dL_law_1470 ?_
  refine L_aload_n C 3 rfl rfl dL_law_1472 ?_
  refine L_aload_n C 1 rfl rfl dL_law_1473 ?_
  refine L_iload C 6 rfl dL_law_1474 ?_
  refine L_iconst C (v := nI 1) dL_law_1476 rfl ?_
  refine L_iadd C (nI_add i 1) dL_law_1477 ?_
  refine L_sld C (q := i + 1) rfl (by omega) dL_law_1478 ?_
  refine L_perm lws_p3 ?_
  refine L_call C (w := wM G ad2) (As := [.int (xs (i + 1))]) (rest := []) rfl C.2.2.1 (a := 0) (ci := 14) (Nat.le_of_ble_eq_true rfl) (shM_0 G ad2) rfl (kMetV_i (km_X12_families l G ad2 g (xs (i + 1)) bb g1 e2)) hy_X12_families wm_RL_214 (by decide) rfl hk hn dL_law_1479 rfl (by decide) ?_
  refine L_perm lws_p3.symm ?_
  exact L_tail C hk hn hth (fun h => by have h9 := kcd_0 (by decide) h; rw [if_pos h9, hv h9]; rfl) dL_law_1482 dL_law_1484 dL_law_1485 dL_law_1488 dL_law_1490 dL_law_1495 dL_law_1497 dL_law_1500 dL_law_1501 dL_law_1502 dL_law_1503 dL_law_1505 dL_law_1506 dL_law_1507 dL_law_1512 (by decide) (kk _ _ _ _ hR1)
def kP_dryer (R : Nat → kMem → kMem → Prop) : Prop := ∀ (N : Nat) (f g : kMem) (a0 a1 : Int32), N < 512 → R N f g → kOk [3, 2] (cx_X11_dryer f (a0) (a1)) (cf_X12_dryer g (a0) (a1)) (R (N + 1))
theorem hyL_dryer : kYL yL_dryer cL_dryer 5 [(0, 10, 13, 63), (0, 10, 17, 28)] 4 := ⟨kgt (List.mem_of_getElem? (i := 1140) (by decide +kernel)) rfl, kgt (List.mem_of_getElem? (i := 58) (by decide +kernel)) rfl, kgt (List.mem_of_getElem? (i := 1139) (by decide +kernel)) rfl, by decide +kernel, by decide⟩
theorem wm_RL_215 : Cond.methodLink RL 215 yL_dryer ∈ kGT := kgt (List.mem_of_getElem? (i := 1138) (by decide +kernel)) rfl
theorem hy_X12_dryer : kYV yX12_dryer cX12_dryer 4 (some .int) 2 := ⟨⟨kgt (List.mem_of_getElem? (i := 1632) (by decide +kernel)) rfl, kgt (List.mem_of_getElem? (i := 71) (by decide +kernel)) rfl, by decide +kernel, by decide⟩, kgt (List.mem_of_getElem? (i := 1630) (by decide +kernel)) rfl, kgt (List.mem_of_getElem? (i := 1631) (by decide +kernel)) rfl⟩
theorem wm_RL_217 : Cond.methodLink RL 217 yX12_dryer ∈ kGT := kgt (List.mem_of_getElem? (i := 1629) (by decide +kernel)) rfl
set_option maxRecDepth 100000 in
set_option maxHeartbeats 4000000 in
theorem lc_dryer (C : LC p l s m meth c b L xs G cL cD ad1 ad2) (hi : i + 5 ≤ L) (hN : N < 512) (hk : k + 2 ≤ 603072) (hn : n + 12 ≤ 7194730) (hR : R N f g) (hp : kP_dryer R) (kk : ∀ (f1 g1 : kMem) (lo1 : Nat → Int64) (ld1 : Nat → UInt64), R (N + 1) f1 g1 → LJ p l e s m below meth c b G.1 (lws G ad1 ad2 cL cD qo qd f1 g1 lo1 ld1) (k + 2) (n + 12) 2339 [(0, .ref b), (1, .ref (kad (wC G ad1) 291)), (2, .ref (kad (wM G ad2) 0)), (3, .ref qo), (4, .ref qd), (5, .int (nI i))] []) : LJ p l e s m below meth c b G.1 (lws G ad1 ad2 cL cD qo qd f g lo ld) k n 1515 [(0, .ref b), (1, .ref (kad (wC G ad1) 291)), (2, .ref (kad (wM G ad2) 0)), (3, .ref qo), (4, .ref qd), (5, .int (nI i))] [] := by
  obtain ⟨z, bb, g1, e1, e2, hz, hth, hv, hR1⟩ := hp N f g (xs (i + 1)) (xs (i + 2)) hN hR
  simp only [List.mem_cons, List.not_mem_nil, or_false] at hz
  refine L_aload_n C 1 rfl rfl dL_law_1515 ?_
  refine L_aload_n C 0 rfl rfl dL_law_1516 ?_
  refine L_iload C 5 rfl dL_law_1517 ?_
  refine L_iconst C (v := nI 1) dL_law_1519 rfl ?_
  refine L_iadd C (nI_add i 1) dL_law_1520 ?_
  refine L_sld C (q := i + 1) rfl (by omega) dL_law_1521 ?_
  refine L_aload_n C 0 rfl rfl dL_law_1522 ?_
  refine L_iload C 5 rfl dL_law_1523 ?_
  refine L_iconst C (v := nI 2) dL_law_1525 rfl ?_
  refine L_iadd C (nI_add i 2) dL_law_1526 ?_
  refine L_sld C (q := i + 2) rfl (by omega) dL_law_1527 ?_
  refine L_aload_n C 3 rfl rfl dL_law_1528 ?_
  refine L_perm lws_p1 ?_
  refine L_wrap C (rest := []) (wl_dryer l C.2.2.2.2.2.2.2.1 G ad1 cL cD qo f (xs (i + 1)) (xs (i + 2)) lo z e1 hz) hyL_dryer wm_RL_215 (by decide) rfl hk hn dL_law_1529 rfl (by decide) ?_
  rw [oL_if]
  refine L_perm lws_p1.symm ?_
  refine L_istore C (lv1 := (6, .int (kcd [3, 2] z.1)) :: [(0, .ref b), (1, .ref (kad (wC G ad1) 291)), (2, .ref (kad (wM G ad2) 0)), (3, .ref qo), (4, .ref qd), (5, .int (nI i))]) (by decide) rfl dL_law_1532 ?_
  refine L_aload_n C 3 rfl rfl dL_law_1534 ?_
  refine L_aload_n C 1 rfl rfl dL_law_1535 ?_
  refine L_iload C 6 rfl dL_law_1536 ?_
  refine L_iconst C (v := nI 1) dL_law_1538 rfl ?_
  refine L_iadd C (nI_add i 1) dL_law_1539 ?_
  refine L_sld C (q := i + 1) rfl (by omega) dL_law_1540 ?_
  refine L_aload_n C 1 rfl rfl dL_law_1541 ?_
  refine L_iload C 6 rfl dL_law_1542 ?_
  refine L_iconst C (v := nI 2) dL_law_1544 rfl ?_
  refine L_iadd C (nI_add i 2) dL_law_1545 ?_
  refine L_sld C (q := i + 2) rfl (by omega) dL_law_1546 ?_
  refine L_perm lws_p3 ?_
  refine L_call C (w := wM G ad2) (As := [.int (xs (i + 1)), .int (xs (i + 2))]) (rest := []) rfl C.2.2.1 (a := 0) (ci := 14) (Nat.le_of_ble_eq_true rfl) (shM_0 G ad2) rfl (kMetV_i (km_X12_dryer l G ad2 g (xs (i + 1)) (xs (i + 2)) bb g1 e2)) hy_X12_dryer wm_RL_217 (by decide) rfl hk hn dL_law_1547 rfl (by decide) ?_
  refine L_perm lws_p3.symm ?_
  exact L_tail C hk hn hth (fun h => by have h9 := kcd_0 (by decide) h; rw [if_pos h9, hv h9]; rfl) dL_law_1550 dL_law_1552 dL_law_1553 dL_law_1556 dL_law_1558 dL_law_1563 dL_law_1565 dL_law_1568 dL_law_1569 dL_law_1570 dL_law_1571 dL_law_1573 dL_law_1574 dL_law_1575 dL_law_1580 (by decide) (kk _ _ _ _ hR1)
def kP_stock (R : Nat → kMem → kMem → Prop) : Prop := ∀ (N : Nat) (f g : kMem) (a0 a1 a2 : Int32), N < 512 → R N f g → kOk [3, 2] (cx_X11_stock f (a0) (a1) (a2)) (cf_X12_stock g (a0) (a1) (a2)) (R (N + 1))
theorem hyL_stock : kYL yL_stock cL_stock 6 [(0, 12, 15, 63), (0, 12, 19, 28)] 5 := ⟨kgt (List.mem_of_getElem? (i := 1150) (by decide +kernel)) rfl, kgt (List.mem_of_getElem? (i := 58) (by decide +kernel)) rfl, kgt (List.mem_of_getElem? (i := 1149) (by decide +kernel)) rfl, by decide +kernel, by decide⟩
theorem wm_RL_218 : Cond.methodLink RL 218 yL_stock ∈ kGT := kgt (List.mem_of_getElem? (i := 1148) (by decide +kernel)) rfl
theorem hy_X12_stock : kYV yX12_stock cX12_stock 5 (some .int) 3 := ⟨⟨kgt (List.mem_of_getElem? (i := 1636) (by decide +kernel)) rfl, kgt (List.mem_of_getElem? (i := 71) (by decide +kernel)) rfl, by decide +kernel, by decide⟩, kgt (List.mem_of_getElem? (i := 1634) (by decide +kernel)) rfl, kgt (List.mem_of_getElem? (i := 1635) (by decide +kernel)) rfl⟩
theorem wm_RL_220 : Cond.methodLink RL 220 yX12_stock ∈ kGT := kgt (List.mem_of_getElem? (i := 1633) (by decide +kernel)) rfl
set_option maxRecDepth 100000 in
set_option maxHeartbeats 4000000 in
theorem lc_stock (C : LC p l s m meth c b L xs G cL cD ad1 ad2) (hi : i + 5 ≤ L) (hN : N < 512) (hk : k + 2 ≤ 603072) (hn : n + 12 ≤ 7194730) (hR : R N f g) (hp : kP_stock R) (kk : ∀ (f1 g1 : kMem) (lo1 : Nat → Int64) (ld1 : Nat → UInt64), R (N + 1) f1 g1 → LJ p l e s m below meth c b G.1 (lws G ad1 ad2 cL cD qo qd f1 g1 lo1 ld1) (k + 2) (n + 12) 2339 [(0, .ref b), (1, .ref (kad (wC G ad1) 291)), (2, .ref (kad (wM G ad2) 0)), (3, .ref qo), (4, .ref qd), (5, .int (nI i))] []) : LJ p l e s m below meth c b G.1 (lws G ad1 ad2 cL cD qo qd f g lo ld) k n 1583 [(0, .ref b), (1, .ref (kad (wC G ad1) 291)), (2, .ref (kad (wM G ad2) 0)), (3, .ref qo), (4, .ref qd), (5, .int (nI i))] [] := by
  obtain ⟨z, bb, g1, e1, e2, hz, hth, hv, hR1⟩ := hp N f g (xs (i + 1)) (xs (i + 2)) (xs (i + 3)) hN hR
  simp only [List.mem_cons, List.not_mem_nil, or_false] at hz
  refine L_aload_n C 1 rfl rfl dL_law_1583 ?_
  refine L_aload_n C 0 rfl rfl dL_law_1584 ?_
  refine L_iload C 5 rfl dL_law_1585 ?_
  refine L_iconst C (v := nI 1) dL_law_1587 rfl ?_
  refine L_iadd C (nI_add i 1) dL_law_1588 ?_
  refine L_sld C (q := i + 1) rfl (by omega) dL_law_1589 ?_
  refine L_aload_n C 0 rfl rfl dL_law_1590 ?_
  refine L_iload C 5 rfl dL_law_1591 ?_
  refine L_iconst C (v := nI 2) dL_law_1593 rfl ?_
  refine L_iadd C (nI_add i 2) dL_law_1594 ?_
  refine L_sld C (q := i + 2) rfl (by omega) dL_law_1595 ?_
  refine L_aload_n C 0 rfl rfl dL_law_1596 ?_
  refine L_iload C 5 rfl dL_law_1597 ?_
  refine L_iconst C (v := nI 3) dL_law_1599 rfl ?_
  refine L_iadd C (nI_add i 3) dL_law_1600 ?_
  refine L_sld C (q := i + 3) rfl (by omega) dL_law_1601 ?_
  refine L_aload_n C 3 rfl rfl dL_law_1602 ?_
  refine L_perm lws_p1 ?_
  refine L_wrap C (rest := []) (wl_stock l C.2.2.2.2.2.2.2.1 G ad1 cL cD qo f (xs (i + 1)) (xs (i + 2)) (xs (i + 3)) lo z e1 hz) hyL_stock wm_RL_218 (by decide) rfl hk hn dL_law_1603 rfl (by decide) ?_
  rw [oL_if]
  refine L_perm lws_p1.symm ?_
  refine L_istore C (lv1 := (6, .int (kcd [3, 2] z.1)) :: [(0, .ref b), (1, .ref (kad (wC G ad1) 291)), (2, .ref (kad (wM G ad2) 0)), (3, .ref qo), (4, .ref qd), (5, .int (nI i))]) (by decide) rfl dL_law_1606 ?_
  refine L_aload_n C 3 rfl rfl dL_law_1608 ?_
  refine L_aload_n C 1 rfl rfl dL_law_1609 ?_
  refine L_iload C 6 rfl dL_law_1610 ?_
  refine L_iconst C (v := nI 1) dL_law_1612 rfl ?_
  refine L_iadd C (nI_add i 1) dL_law_1613 ?_
  refine L_sld C (q := i + 1) rfl (by omega) dL_law_1614 ?_
  refine L_aload_n C 1 rfl rfl dL_law_1615 ?_
  refine L_iload C 6 rfl dL_law_1616 ?_
  refine L_iconst C (v := nI 2) dL_law_1618 rfl ?_
  refine L_iadd C (nI_add i 2) dL_law_1619 ?_
  refine L_sld C (q := i + 2) rfl (by omega) dL_law_1620 ?_
  refine L_aload_n C 1 rfl rfl dL_law_1621 ?_
  refine L_iload C 6 rfl dL_law_1622 ?_
  refine L_iconst C (v := nI 3) dL_law_1624 rfl ?_
  refine L_iadd C (nI_add i 3) dL_law_1625 ?_
  refine L_sld C (q := i + 3) rfl (by omega) dL_law_1626 ?_
  refine L_perm lws_p3 ?_
  refine L_call C (w := wM G ad2) (As := [.int (xs (i + 1)), .int (xs (i + 2)), .int (xs (i + 3))]) (rest := []) rfl C.2.2.1 (a := 0) (ci := 14) (Nat.le_of_ble_eq_true rfl) (shM_0 G ad2) rfl (kMetV_i (km_X12_stock l G ad2 g (xs (i + 1)) (xs (i + 2)) (xs (i + 3)) bb g1 e2)) hy_X12_stock wm_RL_220 (by decide) rfl hk hn dL_law_1627 rfl (by decide) ?_
  refine L_perm lws_p3.symm ?_
  exact L_tail C hk hn hth (fun h => by have h9 := kcd_0 (by decide) h; rw [if_pos h9, hv h9]; rfl) dL_law_1630 dL_law_1632 dL_law_1633 dL_law_1636 dL_law_1638 dL_law_1643 dL_law_1645 dL_law_1648 dL_law_1649 dL_law_1650 dL_law_1651 dL_law_1653 dL_law_1654 dL_law_1655 dL_law_1660 (by decide) (kk _ _ _ _ hR1)
def kP_made (R : Nat → kMem → kMem → Prop) : Prop := ∀ (N : Nat) (f g : kMem) (a0 a1 : Int32), N < 512 → R N f g → kOk [3, 2] (cx_X11_made f (a0) (a1)) (cf_X12_made g (a0) (a1)) (R (N + 1))
theorem hyL_made : kYL yL_made cL_made 5 [(0, 10, 13, 63), (0, 10, 17, 28)] 4 := ⟨kgt (List.mem_of_getElem? (i := 1159) (by decide +kernel)) rfl, kgt (List.mem_of_getElem? (i := 58) (by decide +kernel)) rfl, kgt (List.mem_of_getElem? (i := 1158) (by decide +kernel)) rfl, by decide +kernel, by decide⟩
theorem wm_RL_221 : Cond.methodLink RL 221 yL_made ∈ kGT := kgt (List.mem_of_getElem? (i := 1157) (by decide +kernel)) rfl
theorem hy_X12_made : kYV yX12_made cX12_made 5 (some .int) 2 := ⟨⟨kgt (List.mem_of_getElem? (i := 1640) (by decide +kernel)) rfl, kgt (List.mem_of_getElem? (i := 71) (by decide +kernel)) rfl, by decide +kernel, by decide⟩, kgt (List.mem_of_getElem? (i := 1638) (by decide +kernel)) rfl, kgt (List.mem_of_getElem? (i := 1639) (by decide +kernel)) rfl⟩
theorem wm_RL_223 : Cond.methodLink RL 223 yX12_made ∈ kGT := kgt (List.mem_of_getElem? (i := 1637) (by decide +kernel)) rfl
set_option maxRecDepth 100000 in
set_option maxHeartbeats 4000000 in
theorem lc_made (C : LC p l s m meth c b L xs G cL cD ad1 ad2) (hi : i + 5 ≤ L) (hN : N < 512) (hk : k + 2 ≤ 603072) (hn : n + 12 ≤ 7194730) (hR : R N f g) (hp : kP_made R) (kk : ∀ (f1 g1 : kMem) (lo1 : Nat → Int64) (ld1 : Nat → UInt64), R (N + 1) f1 g1 → LJ p l e s m below meth c b G.1 (lws G ad1 ad2 cL cD qo qd f1 g1 lo1 ld1) (k + 2) (n + 12) 2339 [(0, .ref b), (1, .ref (kad (wC G ad1) 291)), (2, .ref (kad (wM G ad2) 0)), (3, .ref qo), (4, .ref qd), (5, .int (nI i))] []) : LJ p l e s m below meth c b G.1 (lws G ad1 ad2 cL cD qo qd f g lo ld) k n 1663 [(0, .ref b), (1, .ref (kad (wC G ad1) 291)), (2, .ref (kad (wM G ad2) 0)), (3, .ref qo), (4, .ref qd), (5, .int (nI i))] [] := by
  obtain ⟨z, bb, g1, e1, e2, hz, hth, hv, hR1⟩ := hp N f g (xs (i + 1)) (xs (i + 2)) hN hR
  simp only [List.mem_cons, List.not_mem_nil, or_false] at hz
  refine L_aload_n C 1 rfl rfl dL_law_1663 ?_
  refine L_aload_n C 0 rfl rfl dL_law_1664 ?_
  refine L_iload C 5 rfl dL_law_1665 ?_
  refine L_iconst C (v := nI 1) dL_law_1667 rfl ?_
  refine L_iadd C (nI_add i 1) dL_law_1668 ?_
  refine L_sld C (q := i + 1) rfl (by omega) dL_law_1669 ?_
  refine L_aload_n C 0 rfl rfl dL_law_1670 ?_
  refine L_iload C 5 rfl dL_law_1671 ?_
  refine L_iconst C (v := nI 2) dL_law_1673 rfl ?_
  refine L_iadd C (nI_add i 2) dL_law_1674 ?_
  refine L_sld C (q := i + 2) rfl (by omega) dL_law_1675 ?_
  refine L_aload_n C 3 rfl rfl dL_law_1676 ?_
  refine L_perm lws_p1 ?_
  refine L_wrap C (rest := []) (wl_made l C.2.2.2.2.2.2.2.1 G ad1 cL cD qo f (xs (i + 1)) (xs (i + 2)) lo z e1 hz) hyL_made wm_RL_221 (by decide) rfl hk hn dL_law_1677 rfl (by decide) ?_
  rw [oL_if]
  refine L_perm lws_p1.symm ?_
  refine L_istore C (lv1 := (6, .int (kcd [3, 2] z.1)) :: [(0, .ref b), (1, .ref (kad (wC G ad1) 291)), (2, .ref (kad (wM G ad2) 0)), (3, .ref qo), (4, .ref qd), (5, .int (nI i))]) (by decide) rfl dL_law_1680 ?_
  refine L_aload_n C 3 rfl rfl dL_law_1682 ?_
  refine L_aload_n C 1 rfl rfl dL_law_1683 ?_
  refine L_iload C 6 rfl dL_law_1684 ?_
  refine L_iconst C (v := nI 1) dL_law_1686 rfl ?_
  refine L_iadd C (nI_add i 1) dL_law_1687 ?_
  refine L_sld C (q := i + 1) rfl (by omega) dL_law_1688 ?_
  refine L_aload_n C 1 rfl rfl dL_law_1689 ?_
  refine L_iload C 6 rfl dL_law_1690 ?_
  refine L_iconst C (v := nI 2) dL_law_1692 rfl ?_
  refine L_iadd C (nI_add i 2) dL_law_1693 ?_
  refine L_sld C (q := i + 2) rfl (by omega) dL_law_1694 ?_
  refine L_perm lws_p3 ?_
  refine L_call C (w := wM G ad2) (As := [.int (xs (i + 1)), .int (xs (i + 2))]) (rest := []) rfl C.2.2.1 (a := 0) (ci := 14) (Nat.le_of_ble_eq_true rfl) (shM_0 G ad2) rfl (kMetV_i (km_X12_made l G ad2 g (xs (i + 1)) (xs (i + 2)) bb g1 e2)) hy_X12_made wm_RL_223 (by decide) rfl hk hn dL_law_1695 rfl (by decide) ?_
  refine L_perm lws_p3.symm ?_
  exact L_tail C hk hn hth (fun h => by have h9 := kcd_0 (by decide) h; rw [if_pos h9, hv h9]; rfl) dL_law_1698 dL_law_1700 dL_law_1701 dL_law_1704 dL_law_1706 dL_law_1711 dL_law_1713 dL_law_1716 dL_law_1717 dL_law_1718 dL_law_1719 dL_law_1721 dL_law_1722 dL_law_1723 dL_law_1728 (by decide) (kk _ _ _ _ hR1)
def kP_orderOf (R : Nat → kMem → kMem → Prop) : Prop := ∀ (N : Nat) (f g : kMem) (a0 a1 : Int32), N < 512 → R N f g → kOk [3, 2] (cx_X11_orderOf f (a0) (a1)) (cf_X12_orderOf g (a0) (a1)) (R (N + 1))
theorem hyL_orderOf : kYL yL_orderOf cL_orderOf 5 [(0, 10, 13, 63), (0, 10, 17, 28)] 4 := ⟨kgt (List.mem_of_getElem? (i := 1175) (by decide +kernel)) rfl, kgt (List.mem_of_getElem? (i := 58) (by decide +kernel)) rfl, kgt (List.mem_of_getElem? (i := 1174) (by decide +kernel)) rfl, by decide +kernel, by decide⟩
theorem wm_RL_224 : Cond.methodLink RL 224 yL_orderOf ∈ kGT := kgt (List.mem_of_getElem? (i := 1173) (by decide +kernel)) rfl
theorem hy_X12_orderOf : kYV yX12_orderOf cX12_orderOf 3 (some .int) 2 := ⟨⟨kgt (List.mem_of_getElem? (i := 1644) (by decide +kernel)) rfl, kgt (List.mem_of_getElem? (i := 71) (by decide +kernel)) rfl, by decide +kernel, by decide⟩, kgt (List.mem_of_getElem? (i := 1642) (by decide +kernel)) rfl, kgt (List.mem_of_getElem? (i := 1643) (by decide +kernel)) rfl⟩
theorem wm_RL_226 : Cond.methodLink RL 226 yX12_orderOf ∈ kGT := kgt (List.mem_of_getElem? (i := 1641) (by decide +kernel)) rfl
set_option maxRecDepth 100000 in
set_option maxHeartbeats 4000000 in
theorem lc_orderOf (C : LC p l s m meth c b L xs G cL cD ad1 ad2) (hi : i + 5 ≤ L) (hN : N < 512) (hk : k + 2 ≤ 603072) (hn : n + 12 ≤ 7194730) (hR : R N f g) (hp : kP_orderOf R) (kk : ∀ (f1 g1 : kMem) (lo1 : Nat → Int64) (ld1 : Nat → UInt64), R (N + 1) f1 g1 → LJ p l e s m below meth c b G.1 (lws G ad1 ad2 cL cD qo qd f1 g1 lo1 ld1) (k + 2) (n + 12) 2339 [(0, .ref b), (1, .ref (kad (wC G ad1) 291)), (2, .ref (kad (wM G ad2) 0)), (3, .ref qo), (4, .ref qd), (5, .int (nI i))] []) : LJ p l e s m below meth c b G.1 (lws G ad1 ad2 cL cD qo qd f g lo ld) k n 1731 [(0, .ref b), (1, .ref (kad (wC G ad1) 291)), (2, .ref (kad (wM G ad2) 0)), (3, .ref qo), (4, .ref qd), (5, .int (nI i))] [] := by
  obtain ⟨z, bb, g1, e1, e2, hz, hth, hv, hR1⟩ := hp N f g (xs (i + 1)) (xs (i + 2)) hN hR
  simp only [List.mem_cons, List.not_mem_nil, or_false] at hz
  refine L_aload_n C 1 rfl rfl dL_law_1731 ?_
  refine L_aload_n C 0 rfl rfl dL_law_1732 ?_
  refine L_iload C 5 rfl dL_law_1733 ?_
  refine L_iconst C (v := nI 1) dL_law_1735 rfl ?_
  refine L_iadd C (nI_add i 1) dL_law_1736 ?_
  refine L_sld C (q := i + 1) rfl (by omega) dL_law_1737 ?_
  refine L_aload_n C 0 rfl rfl dL_law_1738 ?_
  refine L_iload C 5 rfl dL_law_1739 ?_
  refine L_iconst C (v := nI 2) dL_law_1741 rfl ?_
  refine L_iadd C (nI_add i 2) dL_law_1742 ?_
  refine L_sld C (q := i + 2) rfl (by omega) dL_law_1743 ?_
  refine L_aload_n C 3 rfl rfl dL_law_1744 ?_
  refine L_perm lws_p1 ?_
  refine L_wrap C (rest := []) (wl_orderOf l C.2.2.2.2.2.2.2.1 G ad1 cL cD qo f (xs (i + 1)) (xs (i + 2)) lo z e1 hz) hyL_orderOf wm_RL_224 (by decide) rfl hk hn dL_law_1745 rfl (by decide) ?_
  rw [oL_if]
  refine L_perm lws_p1.symm ?_
  refine L_istore C (lv1 := (6, .int (kcd [3, 2] z.1)) :: [(0, .ref b), (1, .ref (kad (wC G ad1) 291)), (2, .ref (kad (wM G ad2) 0)), (3, .ref qo), (4, .ref qd), (5, .int (nI i))]) (by decide) rfl dL_law_1748 ?_
  refine L_aload_n C 3 rfl rfl dL_law_1750 ?_
  refine L_aload_n C 1 rfl rfl dL_law_1751 ?_
  refine L_iload C 6 rfl dL_law_1752 ?_
  refine L_iconst C (v := nI 1) dL_law_1754 rfl ?_
  refine L_iadd C (nI_add i 1) dL_law_1755 ?_
  refine L_sld C (q := i + 1) rfl (by omega) dL_law_1756 ?_
  refine L_aload_n C 1 rfl rfl dL_law_1757 ?_
  refine L_iload C 6 rfl dL_law_1758 ?_
  refine L_iconst C (v := nI 2) dL_law_1760 rfl ?_
  refine L_iadd C (nI_add i 2) dL_law_1761 ?_
  refine L_sld C (q := i + 2) rfl (by omega) dL_law_1762 ?_
  refine L_perm lws_p3 ?_
  refine L_call C (w := wM G ad2) (As := [.int (xs (i + 1)), .int (xs (i + 2))]) (rest := []) rfl C.2.2.1 (a := 0) (ci := 14) (Nat.le_of_ble_eq_true rfl) (shM_0 G ad2) rfl (kMetV_i (km_X12_orderOf l G ad2 g (xs (i + 1)) (xs (i + 2)) bb g1 e2)) hy_X12_orderOf wm_RL_226 (by decide) rfl hk hn dL_law_1763 rfl (by decide) ?_
  refine L_perm lws_p3.symm ?_
  exact L_tail C hk hn hth (fun h => by have h9 := kcd_0 (by decide) h; rw [if_pos h9, hv h9]; rfl) dL_law_1766 dL_law_1768 dL_law_1769 dL_law_1772 dL_law_1774 dL_law_1779 dL_law_1781 dL_law_1784 dL_law_1785 dL_law_1786 dL_law_1787 dL_law_1789 dL_law_1790 dL_law_1791 dL_law_1796 (by decide) (kk _ _ _ _ hR1)
def kP_shots (R : Nat → kMem → kMem → Prop) : Prop := ∀ (N : Nat) (f g : kMem) (a0 : Int32), N < 512 → R N f g → kOk [3, 5] (cx_X11_shots f (a0)) (cf_X12_shots g (a0)) (R (N + 1))
theorem hyL_shots : kYL yL_shots cL_shots 4 [(0, 9, 12, 63), (0, 9, 15, 77)] 3 := ⟨kgt (List.mem_of_getElem? (i := 1189) (by decide +kernel)) rfl, kgt (List.mem_of_getElem? (i := 58) (by decide +kernel)) rfl, kgt (List.mem_of_getElem? (i := 1188) (by decide +kernel)) rfl, by decide +kernel, by decide⟩
theorem wm_RL_227 : Cond.methodLink RL 227 yL_shots ∈ kGT := kgt (List.mem_of_getElem? (i := 1187) (by decide +kernel)) rfl
theorem hy_X12_shots : kYV yX12_shots cX12_shots 8 (some .int) 1 := ⟨⟨kgt (List.mem_of_getElem? (i := 1648) (by decide +kernel)) rfl, kgt (List.mem_of_getElem? (i := 71) (by decide +kernel)) rfl, by decide +kernel, by decide⟩, kgt (List.mem_of_getElem? (i := 1646) (by decide +kernel)) rfl, kgt (List.mem_of_getElem? (i := 1647) (by decide +kernel)) rfl⟩
theorem wm_RL_229 : Cond.methodLink RL 229 yX12_shots ∈ kGT := kgt (List.mem_of_getElem? (i := 1645) (by decide +kernel)) rfl
set_option maxRecDepth 100000 in
set_option maxHeartbeats 4000000 in
theorem lc_shots (C : LC p l s m meth c b L xs G cL cD ad1 ad2) (hi : i + 5 ≤ L) (hN : N < 512) (hk : k + 2 ≤ 603072) (hn : n + 12 ≤ 7194730) (hR : R N f g) (hp : kP_shots R) (kk : ∀ (f1 g1 : kMem) (lo1 : Nat → Int64) (ld1 : Nat → UInt64), R (N + 1) f1 g1 → LJ p l e s m below meth c b G.1 (lws G ad1 ad2 cL cD qo qd f1 g1 lo1 ld1) (k + 2) (n + 12) 2339 [(0, .ref b), (1, .ref (kad (wC G ad1) 291)), (2, .ref (kad (wM G ad2) 0)), (3, .ref qo), (4, .ref qd), (5, .int (nI i))] []) : LJ p l e s m below meth c b G.1 (lws G ad1 ad2 cL cD qo qd f g lo ld) k n 1799 [(0, .ref b), (1, .ref (kad (wC G ad1) 291)), (2, .ref (kad (wM G ad2) 0)), (3, .ref qo), (4, .ref qd), (5, .int (nI i))] [] := by
  obtain ⟨z, bb, g1, e1, e2, hz, hth, hv, hR1⟩ := hp N f g (xs (i + 1)) hN hR
  simp only [List.mem_cons, List.not_mem_nil, or_false] at hz
  refine L_aload_n C 1 rfl rfl dL_law_1799 ?_
  refine L_aload_n C 0 rfl rfl dL_law_1800 ?_
  refine L_iload C 5 rfl dL_law_1801 ?_
  refine L_iconst C (v := nI 1) dL_law_1803 rfl ?_
  refine L_iadd C (nI_add i 1) dL_law_1804 ?_
  refine L_sld C (q := i + 1) rfl (by omega) dL_law_1805 ?_
  refine L_aload_n C 3 rfl rfl dL_law_1806 ?_
  refine L_perm lws_p1 ?_
  refine L_wrap C (rest := []) (wl_shots l C.2.2.2.2.2.2.2.1 G ad1 cL cD qo f (xs (i + 1)) lo z e1 hz) hyL_shots wm_RL_227 (by decide) rfl hk hn dL_law_1807 rfl (by decide) ?_
  rw [oL_if]
  refine L_perm lws_p1.symm ?_
  refine L_istore C (lv1 := (6, .int (kcd [3, 5] z.1)) :: [(0, .ref b), (1, .ref (kad (wC G ad1) 291)), (2, .ref (kad (wM G ad2) 0)), (3, .ref qo), (4, .ref qd), (5, .int (nI i))]) (by decide) rfl dL_law_1810 ?_
  refine L_aload_n C 3 rfl rfl dL_law_1812 ?_
  refine L_aload_n C 1 rfl rfl dL_law_1813 ?_
  refine L_iload C 6 rfl dL_law_1814 ?_
  refine L_iconst C (v := nI 1) dL_law_1816 rfl ?_
  refine L_iadd C (nI_add i 1) dL_law_1817 ?_
  refine L_sld C (q := i + 1) rfl (by omega) dL_law_1818 ?_
  refine L_perm lws_p3 ?_
  refine L_call C (w := wM G ad2) (As := [.int (xs (i + 1))]) (rest := []) rfl C.2.2.1 (a := 0) (ci := 14) (Nat.le_of_ble_eq_true rfl) (shM_0 G ad2) rfl (kMetV_i (km_X12_shots l G ad2 g (xs (i + 1)) bb g1 e2)) hy_X12_shots wm_RL_229 (by decide) rfl hk hn dL_law_1819 rfl (by decide) ?_
  refine L_perm lws_p3.symm ?_
  exact L_tail C hk hn hth (fun h => by have h9 := kcd_0 (by decide) h; rw [if_pos h9, hv h9]; rfl) dL_law_1822 dL_law_1824 dL_law_1825 dL_law_1828 dL_law_1830 dL_law_1835 dL_law_1837 dL_law_1840 dL_law_1841 dL_law_1842 dL_law_1843 dL_law_1845 dL_law_1846 dL_law_1847 dL_law_1852 (by decide) (kk _ _ _ _ hR1)
def kP_letter (R : Nat → kMem → kMem → Prop) : Prop := ∀ (N : Nat) (f g : kMem) (a0 : Int32), N < 512 → R N f g → kOk [3] (cx_X11_letter f (a0)) (cf_X12_letter g (a0)) (R (N + 1))
theorem hyL_letter : kYL yL_letter cL_letter 4 [(0, 9, 12, 63)] 3 := ⟨kgt (List.mem_of_getElem? (i := 1206) (by decide +kernel)) rfl, kgt (List.mem_of_getElem? (i := 58) (by decide +kernel)) rfl, kgt (List.mem_of_getElem? (i := 1205) (by decide +kernel)) rfl, by decide +kernel, by decide⟩
theorem wm_RL_230 : Cond.methodLink RL 230 yL_letter ∈ kGT := kgt (List.mem_of_getElem? (i := 1204) (by decide +kernel)) rfl
theorem hy_X12_letter : kYV yX12_letter cX12_letter 2 (some .char) 1 := ⟨⟨kgt (List.mem_of_getElem? (i := 1652) (by decide +kernel)) rfl, kgt (List.mem_of_getElem? (i := 71) (by decide +kernel)) rfl, by decide +kernel, by decide⟩, kgt (List.mem_of_getElem? (i := 1650) (by decide +kernel)) rfl, kgt (List.mem_of_getElem? (i := 1651) (by decide +kernel)) rfl⟩
theorem wm_RL_232 : Cond.methodLink RL 232 yX12_letter ∈ kGT := kgt (List.mem_of_getElem? (i := 1649) (by decide +kernel)) rfl
set_option maxRecDepth 100000 in
set_option maxHeartbeats 4000000 in
theorem lc_letter (C : LC p l s m meth c b L xs G cL cD ad1 ad2) (hi : i + 5 ≤ L) (hN : N < 512) (hk : k + 2 ≤ 603072) (hn : n + 12 ≤ 7194730) (hR : R N f g) (hp : kP_letter R) (kk : ∀ (f1 g1 : kMem) (lo1 : Nat → Int64) (ld1 : Nat → UInt64), R (N + 1) f1 g1 → LJ p l e s m below meth c b G.1 (lws G ad1 ad2 cL cD qo qd f1 g1 lo1 ld1) (k + 2) (n + 12) 2339 [(0, .ref b), (1, .ref (kad (wC G ad1) 291)), (2, .ref (kad (wM G ad2) 0)), (3, .ref qo), (4, .ref qd), (5, .int (nI i))] []) : LJ p l e s m below meth c b G.1 (lws G ad1 ad2 cL cD qo qd f g lo ld) k n 1855 [(0, .ref b), (1, .ref (kad (wC G ad1) 291)), (2, .ref (kad (wM G ad2) 0)), (3, .ref qo), (4, .ref qd), (5, .int (nI i))] [] := by
  obtain ⟨z, bb, g1, e1, e2, hz, hth, hv, hR1⟩ := hp N f g (xs (i + 1)) hN hR
  simp only [List.mem_cons, List.not_mem_nil, or_false] at hz
  refine L_aload_n C 1 rfl rfl dL_law_1855 ?_
  refine L_aload_n C 0 rfl rfl dL_law_1856 ?_
  refine L_iload C 5 rfl dL_law_1857 ?_
  refine L_iconst C (v := nI 1) dL_law_1859 rfl ?_
  refine L_iadd C (nI_add i 1) dL_law_1860 ?_
  refine L_sld C (q := i + 1) rfl (by omega) dL_law_1861 ?_
  refine L_aload_n C 3 rfl rfl dL_law_1862 ?_
  refine L_perm lws_p1 ?_
  refine L_wrap C (rest := []) (wl_letter l C.2.2.2.2.2.2.2.1 G ad1 cL cD qo f (xs (i + 1)) lo z e1 hz) hyL_letter wm_RL_230 (by decide) rfl hk hn dL_law_1863 rfl (by decide) ?_
  rw [oL_if]
  refine L_perm lws_p1.symm ?_
  refine L_istore C (lv1 := (6, .int (kcd [3] z.1)) :: [(0, .ref b), (1, .ref (kad (wC G ad1) 291)), (2, .ref (kad (wM G ad2) 0)), (3, .ref qo), (4, .ref qd), (5, .int (nI i))]) (by decide) rfl dL_law_1866 ?_
  refine L_aload_n C 3 rfl rfl dL_law_1868 ?_
  refine L_aload_n C 1 rfl rfl dL_law_1869 ?_
  refine L_iload C 6 rfl dL_law_1870 ?_
  refine L_iconst C (v := nI 1) dL_law_1872 rfl ?_
  refine L_iadd C (nI_add i 1) dL_law_1873 ?_
  refine L_sld C (q := i + 1) rfl (by omega) dL_law_1874 ?_
  refine L_perm lws_p3 ?_
  refine L_call C (w := wM G ad2) (As := [.int (xs (i + 1))]) (rest := []) rfl C.2.2.1 (a := 0) (ci := 14) (Nat.le_of_ble_eq_true rfl) (shM_0 G ad2) rfl (kMetV_i (km_X12_letter l G ad2 g (xs (i + 1)) bb g1 e2)) hy_X12_letter wm_RL_232 (by decide) rfl hk hn dL_law_1875 rfl (by decide) ?_
  refine L_perm lws_p3.symm ?_
  exact L_tail C hk hn hth (fun h => by have h9 := kcd_0 (by decide) h; rw [if_pos h9, hv h9]; rfl) dL_law_1878 dL_law_1880 dL_law_1881 dL_law_1884 dL_law_1886 dL_law_1891 dL_law_1893 dL_law_1896 dL_law_1897 dL_law_1898 dL_law_1899 dL_law_1901 dL_law_1902 dL_law_1903 dL_law_1908 (by decide) (kk _ _ _ _ hR1)
def kP_due (R : Nat → kMem → kMem → Prop) : Prop := ∀ (N : Nat) (f g : kMem) (a0 : Int32), N < 512 → R N f g → kOk [2] (cx_X11_due f (a0)) (cf_X12_due g (a0)) (R (N + 1))
theorem hyL_due : kYL yL_due cL_due 4 [(0, 9, 12, 28)] 3 := ⟨kgt (List.mem_of_getElem? (i := 1213) (by decide +kernel)) rfl, kgt (List.mem_of_getElem? (i := 58) (by decide +kernel)) rfl, kgt (List.mem_of_getElem? (i := 1212) (by decide +kernel)) rfl, by decide +kernel, by decide⟩
theorem wm_RL_233 : Cond.methodLink RL 233 yL_due ∈ kGT := kgt (List.mem_of_getElem? (i := 1211) (by decide +kernel)) rfl
theorem hy_X12_due : kYV yX12_due cX12_due 4 (some .int) 1 := ⟨⟨kgt (List.mem_of_getElem? (i := 1656) (by decide +kernel)) rfl, kgt (List.mem_of_getElem? (i := 71) (by decide +kernel)) rfl, by decide +kernel, by decide⟩, kgt (List.mem_of_getElem? (i := 1654) (by decide +kernel)) rfl, kgt (List.mem_of_getElem? (i := 1655) (by decide +kernel)) rfl⟩
theorem wm_RL_235 : Cond.methodLink RL 235 yX12_due ∈ kGT := kgt (List.mem_of_getElem? (i := 1653) (by decide +kernel)) rfl
set_option maxRecDepth 100000 in
set_option maxHeartbeats 4000000 in
theorem lc_due (C : LC p l s m meth c b L xs G cL cD ad1 ad2) (hi : i + 5 ≤ L) (hN : N < 512) (hk : k + 2 ≤ 603072) (hn : n + 12 ≤ 7194730) (hR : R N f g) (hp : kP_due R) (kk : ∀ (f1 g1 : kMem) (lo1 : Nat → Int64) (ld1 : Nat → UInt64), R (N + 1) f1 g1 → LJ p l e s m below meth c b G.1 (lws G ad1 ad2 cL cD qo qd f1 g1 lo1 ld1) (k + 2) (n + 12) 2339 [(0, .ref b), (1, .ref (kad (wC G ad1) 291)), (2, .ref (kad (wM G ad2) 0)), (3, .ref qo), (4, .ref qd), (5, .int (nI i))] []) : LJ p l e s m below meth c b G.1 (lws G ad1 ad2 cL cD qo qd f g lo ld) k n 1911 [(0, .ref b), (1, .ref (kad (wC G ad1) 291)), (2, .ref (kad (wM G ad2) 0)), (3, .ref qo), (4, .ref qd), (5, .int (nI i))] [] := by
  obtain ⟨z, bb, g1, e1, e2, hz, hth, hv, hR1⟩ := hp N f g (xs (i + 1)) hN hR
  simp only [List.mem_cons, List.not_mem_nil, or_false] at hz
  refine L_aload_n C 1 rfl rfl dL_law_1911 ?_
  refine L_aload_n C 0 rfl rfl dL_law_1912 ?_
  refine L_iload C 5 rfl dL_law_1913 ?_
  refine L_iconst C (v := nI 1) dL_law_1915 rfl ?_
  refine L_iadd C (nI_add i 1) dL_law_1916 ?_
  refine L_sld C (q := i + 1) rfl (by omega) dL_law_1917 ?_
  refine L_aload_n C 3 rfl rfl dL_law_1918 ?_
  refine L_perm lws_p1 ?_
  refine L_wrap C (rest := []) (wl_due l C.2.2.2.2.2.2.2.1 G ad1 cL cD qo f (xs (i + 1)) lo z e1 hz) hyL_due wm_RL_233 (by decide) rfl hk hn dL_law_1919 rfl (by decide) ?_
  rw [oL_if]
  refine L_perm lws_p1.symm ?_
  refine L_istore C (lv1 := (6, .int (kcd [2] z.1)) :: [(0, .ref b), (1, .ref (kad (wC G ad1) 291)), (2, .ref (kad (wM G ad2) 0)), (3, .ref qo), (4, .ref qd), (5, .int (nI i))]) (by decide) rfl dL_law_1922 ?_
  refine L_aload_n C 3 rfl rfl dL_law_1924 ?_
  refine L_aload_n C 1 rfl rfl dL_law_1925 ?_
  refine L_iload C 6 rfl dL_law_1926 ?_
  refine L_iconst C (v := nI 1) dL_law_1928 rfl ?_
  refine L_iadd C (nI_add i 1) dL_law_1929 ?_
  refine L_sld C (q := i + 1) rfl (by omega) dL_law_1930 ?_
  refine L_perm lws_p3 ?_
  refine L_call C (w := wM G ad2) (As := [.int (xs (i + 1))]) (rest := []) rfl C.2.2.1 (a := 0) (ci := 14) (Nat.le_of_ble_eq_true rfl) (shM_0 G ad2) rfl (kMetV_i (km_X12_due l G ad2 g (xs (i + 1)) bb g1 e2)) hy_X12_due wm_RL_235 (by decide) rfl hk hn dL_law_1931 rfl (by decide) ?_
  refine L_perm lws_p3.symm ?_
  exact L_tail C hk hn hth (fun h => by have h9 := kcd_0 (by decide) h; rw [if_pos h9, hv h9]; rfl) dL_law_1934 dL_law_1936 dL_law_1937 dL_law_1940 dL_law_1942 dL_law_1947 dL_law_1949 dL_law_1952 dL_law_1953 dL_law_1954 dL_law_1955 dL_law_1957 dL_law_1958 dL_law_1959 dL_law_1964 (by decide) (kk _ _ _ _ hR1)
def kP_reason (R : Nat → kMem → kMem → Prop) : Prop := ∀ (N : Nat) (f g : kMem) (a0 a1 : Int32), N < 512 → R N f g → kOk [2, 5] (cx_X11_reason f (a0) (k01 a1)) (cf_X12_reason g (a0) (k01 a1)) (R (N + 1))
theorem hyL_reason : kYL yL_reason cL_reason 5 [(0, 10, 13, 28), (0, 10, 17, 77)] 4 := ⟨kgt (List.mem_of_getElem? (i := 1225) (by decide +kernel)) rfl, kgt (List.mem_of_getElem? (i := 58) (by decide +kernel)) rfl, kgt (List.mem_of_getElem? (i := 1224) (by decide +kernel)) rfl, by decide +kernel, by decide⟩
theorem wm_RL_236 : Cond.methodLink RL 236 yL_reason ∈ kGT := kgt (List.mem_of_getElem? (i := 1223) (by decide +kernel)) rfl
theorem hy_X12_reason : kYV yX12_reason cX12_reason 3 (some .int) 2 := ⟨⟨kgt (List.mem_of_getElem? (i := 1660) (by decide +kernel)) rfl, kgt (List.mem_of_getElem? (i := 71) (by decide +kernel)) rfl, by decide +kernel, by decide⟩, kgt (List.mem_of_getElem? (i := 1658) (by decide +kernel)) rfl, kgt (List.mem_of_getElem? (i := 1659) (by decide +kernel)) rfl⟩
theorem wm_RL_239 : Cond.methodLink RL 239 yX12_reason ∈ kGT := kgt (List.mem_of_getElem? (i := 1657) (by decide +kernel)) rfl
set_option maxRecDepth 100000 in
set_option maxHeartbeats 4000000 in
theorem lc_reason (C : LC p l s m meth c b L xs G cL cD ad1 ad2) (hi : i + 5 ≤ L) (hN : N < 512) (hk : k + 2 ≤ 603072) (hn : n + 12 ≤ 7194730) (hR : R N f g) (hp : kP_reason R) (kk : ∀ (f1 g1 : kMem) (lo1 : Nat → Int64) (ld1 : Nat → UInt64), R (N + 1) f1 g1 → LJ p l e s m below meth c b G.1 (lws G ad1 ad2 cL cD qo qd f1 g1 lo1 ld1) (k + 2) (n + 12) 2339 [(0, .ref b), (1, .ref (kad (wC G ad1) 291)), (2, .ref (kad (wM G ad2) 0)), (3, .ref qo), (4, .ref qd), (5, .int (nI i))] []) : LJ p l e s m below meth c b G.1 (lws G ad1 ad2 cL cD qo qd f g lo ld) k n 1967 [(0, .ref b), (1, .ref (kad (wC G ad1) 291)), (2, .ref (kad (wM G ad2) 0)), (3, .ref qo), (4, .ref qd), (5, .int (nI i))] [] := by
  obtain ⟨z, bb, g1, e1, e2, hz, hth, hv, hR1⟩ := hp N f g (xs (i + 1)) (xs (i + 2)) hN hR
  simp only [List.mem_cons, List.not_mem_nil, or_false] at hz
  refine L_aload_n C 1 rfl rfl dL_law_1967 ?_
  refine L_aload_n C 0 rfl rfl dL_law_1968 ?_
  refine L_iload C 5 rfl dL_law_1969 ?_
  refine L_iconst C (v := nI 1) dL_law_1971 rfl ?_
  refine L_iadd C (nI_add i 1) dL_law_1972 ?_
  refine L_sld C (q := i + 1) rfl (by omega) dL_law_1973 ?_
  refine L_aload_n C 0 rfl rfl dL_law_1974 ?_
  refine L_iload C 5 rfl dL_law_1975 ?_
  refine L_iconst C (v := nI 2) dL_law_1977 rfl ?_
  refine L_iadd C (nI_add i 2) dL_law_1978 ?_
  refine L_sld C (q := i + 2) rfl (by omega) dL_law_1979 ?_
  refine L_bool C dL_law_1980 dL_law_1983 dL_law_1984 dL_law_1987 ?_
  refine L_aload_n C 3 rfl rfl dL_law_1988 ?_
  refine L_perm lws_p1 ?_
  refine L_wrap C (rest := []) (wl_reason l C.2.2.2.2.2.2.2.1 G ad1 cL cD qo f (xs (i + 1)) (k01 (xs (i + 2))) lo z e1 hz) hyL_reason wm_RL_236 (by decide) rfl hk hn dL_law_1989 rfl (by decide) ?_
  rw [oL_if]
  refine L_perm lws_p1.symm ?_
  refine L_istore C (lv1 := (6, .int (kcd [2, 5] z.1)) :: [(0, .ref b), (1, .ref (kad (wC G ad1) 291)), (2, .ref (kad (wM G ad2) 0)), (3, .ref qo), (4, .ref qd), (5, .int (nI i))]) (by decide) rfl dL_law_1992 ?_
  refine L_aload_n C 3 rfl rfl dL_law_1994 ?_
  refine L_aload_n C 1 rfl rfl dL_law_1995 ?_
  refine L_iload C 6 rfl dL_law_1996 ?_
  refine L_iconst C (v := nI 1) dL_law_1998 rfl ?_
  refine L_iadd C (nI_add i 1) dL_law_1999 ?_
  refine L_sld C (q := i + 1) rfl (by omega) dL_law_2000 ?_
  refine L_aload_n C 1 rfl rfl dL_law_2001 ?_
  refine L_iload C 6 rfl dL_law_2002 ?_
  refine L_iconst C (v := nI 2) dL_law_2004 rfl ?_
  refine L_iadd C (nI_add i 2) dL_law_2005 ?_
  refine L_sld C (q := i + 2) rfl (by omega) dL_law_2006 ?_
  refine L_bool C dL_law_2007 dL_law_2010 dL_law_2011 dL_law_2014 ?_
  refine L_perm lws_p3 ?_
  refine L_call C (w := wM G ad2) (As := [.int (xs (i + 1)), .int (k01 (xs (i + 2)))]) (rest := []) rfl C.2.2.1 (a := 0) (ci := 14) (Nat.le_of_ble_eq_true rfl) (shM_0 G ad2) rfl (kMetV_i (km_X12_reason l G ad2 g (xs (i + 1)) (k01 (xs (i + 2))) bb g1 e2)) hy_X12_reason wm_RL_239 (by decide) rfl hk hn dL_law_2015 rfl (by decide) ?_
  refine L_perm lws_p3.symm ?_
  exact L_tail C hk hn hth (fun h => by have h9 := kcd_0 (by decide) h; rw [if_pos h9, hv h9]; rfl) dL_law_2018 dL_law_2020 dL_law_2021 dL_law_2024 dL_law_2026 dL_law_2031 dL_law_2033 dL_law_2036 dL_law_2037 dL_law_2038 dL_law_2039 dL_law_2041 dL_law_2042 dL_law_2043 dL_law_2048 (by decide) (kk _ _ _ _ hR1)
def kP_scrap (R : Nat → kMem → kMem → Prop) : Prop := ∀ (N : Nat) (f g : kMem), N < 512 → R N f g → ∃ z bb g1, cx_X11_scrap f = some z ∧ cf_X12_scrap g = some (bb, g1) ∧ (z.1 = 0 ∨ z.1 = 6) ∧ g1 0 18 = kcd [6] z.1 ∧ (∃ x, bb = .float x) ∧ (z.1 = 0 → z.2.1 = bb ∧ (fun v => ∃ a b, b ≠ 0 ∧ v = .float (FP.fdiv (FP.i2f a) (FP.i2f b))) bb) ∧ R (N + 1) z.2.2 g1
theorem hyL_scrap : kYL yL_scrap cL_scrap 3 [(0, 8, 11, 118)] 2 := ⟨kgt (List.mem_of_getElem? (i := 1234) (by decide +kernel)) rfl, kgt (List.mem_of_getElem? (i := 58) (by decide +kernel)) rfl, kgt (List.mem_of_getElem? (i := 1233) (by decide +kernel)) rfl, by decide +kernel, by decide⟩
theorem wm_RL_240 : Cond.methodLink RL 240 yL_scrap ∈ kGT := kgt (List.mem_of_getElem? (i := 1232) (by decide +kernel)) rfl
theorem hy_X12_scrap : kYV yX12_scrap cX12_scrap 4 (some .float) 0 := ⟨⟨kgt (List.mem_of_getElem? (i := 1664) (by decide +kernel)) rfl, kgt (List.mem_of_getElem? (i := 71) (by decide +kernel)) rfl, by decide +kernel, by decide⟩, kgt (List.mem_of_getElem? (i := 1662) (by decide +kernel)) rfl, kgt (List.mem_of_getElem? (i := 1663) (by decide +kernel)) rfl⟩
theorem wm_RL_243 : Cond.methodLink RL 243 yX12_scrap ∈ kGT := kgt (List.mem_of_getElem? (i := 1661) (by decide +kernel)) rfl
set_option maxRecDepth 100000 in
set_option maxHeartbeats 4000000 in
theorem lc_scrap (C : LC p l s m meth c b L xs G cL cD ad1 ad2) (hi : i + 5 ≤ L) (hN : N < 512) (hk : k + 2 ≤ 603072) (hn : n + 12 ≤ 7194730) (hR : R N f g) (hp : kP_scrap R) (kk : ∀ (f1 g1 : kMem) (lo1 : Nat → Int64) (ld1 : Nat → UInt64), R (N + 1) f1 g1 → LJ p l e s m below meth c b G.1 (lws G ad1 ad2 cL cD qo qd f1 g1 lo1 ld1) (k + 2) (n + 12) 2339 [(0, .ref b), (1, .ref (kad (wC G ad1) 291)), (2, .ref (kad (wM G ad2) 0)), (3, .ref qo), (4, .ref qd), (5, .int (nI i))] []) : LJ p l e s m below meth c b G.1 (lws G ad1 ad2 cL cD qo qd f g lo ld) k n 2051 [(0, .ref b), (1, .ref (kad (wC G ad1) 291)), (2, .ref (kad (wM G ad2) 0)), (3, .ref qo), (4, .ref qd), (5, .int (nI i))] [] := by
  obtain ⟨z, bb, g1, e1, e2, hz, hth, ⟨x, hbb⟩, hv, hR1⟩ := hp N f g hN hR
  refine L_aload_n C 1 rfl rfl dL_law_2051 ?_
  refine L_aload C 4 rfl dL_law_2052 ?_
  refine L_perm lws_p2 ?_
  refine L_wrap C (rest := []) (wl_scrap l C.2.2.2.2.2.2.2.1 G ad1 cL cD qd f ld z e1 hz (fun h => by obtain ⟨h1, h2⟩ := hv h; rw [h1]; exact h2)) hyL_scrap wm_RL_240 (by decide) rfl hk hn dL_law_2054 rfl (by decide) ?_
  rw [oD_if]
  refine L_perm lws_p2.symm ?_
  refine L_istore C (lv1 := (6, .int (kcd [6] z.1)) :: [(0, .ref b), (1, .ref (kad (wC G ad1) 291)), (2, .ref (kad (wM G ad2) 0)), (3, .ref qo), (4, .ref qd), (5, .int (nI i))]) (by decide) rfl dL_law_2057 ?_
  refine L_aload_n C 3 rfl rfl dL_law_2059 ?_
  refine L_perm lws_p3 ?_
  rw [hbb] at e2
  refine L_call C (w := wM G ad2) (As := []) (rest := []) rfl C.2.2.1 (a := 0) (ci := 14) (Nat.le_of_ble_eq_true rfl) (shM_0 G ad2) rfl (km_X12_scrap l G ad2 g _ g1 e2) hy_X12_scrap wm_RL_243 (by decide) rfl hk hn dL_law_2060 rfl (by decide) ?_
  refine L_perm lws_p3.symm ?_
  refine L_fstore C (lv1 := (7, .float x) :: (6, .int (kcd [6] z.1)) :: [(0, .ref b), (1, .ref (kad (wC G ad1) 291)), (2, .ref (kad (wM G ad2) 0)), (3, .ref qo), (4, .ref qd), (5, .int (nI i))]) (by decide) rfl dL_law_2063 ?_
  refine L_aload_n C 4 rfl rfl dL_law_2065 ?_
  refine L_thrown C hk hn (by decide) dL_law_2066 ?_
  refine L_iload C 1 rfl dL_law_2069 ?_
  refine L_icmpeq C (tgt := 2076) hth (by decide) dL_law_2071 ?_
  refine L_iload C 1 rfl dL_law_2076 ?_
  have hend : LJ p l e s m below meth c b G.1 (lws G ad1 ad2 cL cD qo qd z.2.2 g1 lo (if z.1 = 0 then vf_upd ld 0 (kdv z.2.1) else ld)) (k + 2) (n + 12) 2114 ((7, .float x) :: (6, .int (kcd [6] z.1)) :: [(0, .ref b), (1, .ref (kad (wC G ad1) 291)), (2, .ref (kad (wM G ad2) 0)), (3, .ref qo), (4, .ref qd), (5, .int (nI i))]) [] := by
    refine L_goto C (tgt := 2339) (by decide) dL_law_2114 ?_
    exact L_sub [2, 3, 4, 5, 6, 7] rfl (kk _ _ _ _ hR1)
  refine L_if_ne C (tgt := 2114) (by decide) dL_law_2078 (fun _ => hend) (fun h => ?_)
  have h9 := kcd_0 (by decide) h
  obtain ⟨hv1, hv2⟩ := hv h9
  rw [if_pos h9] at hend ⊢
  refine L_aload C 6 rfl dL_law_2081 ?_
  refine L_iconst C (v := 0) dL_law_2083 rfl ?_
  refine L_dald C dL_law_2084 ?_
  obtain ⟨a9, b9, hb9, hx9⟩ := hv2
  rw [hbb] at hx9 hv1
  have hn9 : FP.Core.fIsNaN x = false := by injection hx9 with hx9; rw [hx9]; exact fdivN hb9
  have hl9 : vf_upd ld 0 (kdv z.2.1) 0 = FP.f2d x := by rw [hv1]; rfl
  refine L_fload C 0 rfl dL_law_2085 ?_
  refine L_f2d C (f2dI hn9) dL_law_2087 ?_
  rw [hl9]
  refine L_dcmp C dL_law_2088 ?_
  rw [dcmpI (f2dN hn9)]
  exact L_if_eq C (tgt := 2114) (by decide) dL_law_2089 (fun _ => hend) (fun h => absurd rfl h)
def kP_lateness (R : Nat → kMem → kMem → Prop) : Prop := ∀ (N : Nat) (f g : kMem), N < 512 → R N f g → ∃ z bb g1, cx_X11_lateness f = some z ∧ cf_X12_lateness g = some (bb, g1) ∧ (z.1 = 0 ∨ z.1 = 6) ∧ g1 0 18 = kcd [6] z.1 ∧ (∃ x, bb = .double x) ∧ (z.1 = 0 → z.2.1 = bb ∧ (fun v => ∃ x, v = .double x) bb) ∧ R (N + 1) z.2.2 g1
theorem hyL_lateness : kYL yL_lateness cL_lateness 3 [(0, 7, 10, 118)] 2 := ⟨kgt (List.mem_of_getElem? (i := 1262) (by decide +kernel)) rfl, kgt (List.mem_of_getElem? (i := 58) (by decide +kernel)) rfl, kgt (List.mem_of_getElem? (i := 1261) (by decide +kernel)) rfl, by decide +kernel, by decide⟩
theorem wm_RL_244 : Cond.methodLink RL 244 yL_lateness ∈ kGT := kgt (List.mem_of_getElem? (i := 1260) (by decide +kernel)) rfl
theorem hy_X12_lateness : kYV yX12_lateness cX12_lateness 4 (some .double) 0 := ⟨⟨kgt (List.mem_of_getElem? (i := 1668) (by decide +kernel)) rfl, kgt (List.mem_of_getElem? (i := 71) (by decide +kernel)) rfl, by decide +kernel, by decide⟩, kgt (List.mem_of_getElem? (i := 1666) (by decide +kernel)) rfl, kgt (List.mem_of_getElem? (i := 1667) (by decide +kernel)) rfl⟩
theorem wm_RL_246 : Cond.methodLink RL 246 yX12_lateness ∈ kGT := kgt (List.mem_of_getElem? (i := 1665) (by decide +kernel)) rfl
set_option maxRecDepth 100000 in
set_option maxHeartbeats 4000000 in
theorem lc_lateness (C : LC p l s m meth c b L xs G cL cD ad1 ad2) (hi : i + 5 ≤ L) (hN : N < 512) (hk : k + 2 ≤ 603072) (hn : n + 12 ≤ 7194730) (hR : R N f g) (hp : kP_lateness R) (kk : ∀ (f1 g1 : kMem) (lo1 : Nat → Int64) (ld1 : Nat → UInt64), R (N + 1) f1 g1 → LJ p l e s m below meth c b G.1 (lws G ad1 ad2 cL cD qo qd f1 g1 lo1 ld1) (k + 2) (n + 12) 2339 [(0, .ref b), (1, .ref (kad (wC G ad1) 291)), (2, .ref (kad (wM G ad2) 0)), (3, .ref qo), (4, .ref qd), (5, .int (nI i))] []) : LJ p l e s m below meth c b G.1 (lws G ad1 ad2 cL cD qo qd f g lo ld) k n 2117 [(0, .ref b), (1, .ref (kad (wC G ad1) 291)), (2, .ref (kad (wM G ad2) 0)), (3, .ref qo), (4, .ref qd), (5, .int (nI i))] [] := by
  obtain ⟨z, bb, g1, e1, e2, hz, hth, ⟨x, hbb⟩, hv, hR1⟩ := hp N f g hN hR
  refine L_aload_n C 1 rfl rfl dL_law_2117 ?_
  refine L_aload C 4 rfl dL_law_2118 ?_
  refine L_perm lws_p2 ?_
  refine L_wrap C (rest := []) (wl_lateness l C.2.2.2.2.2.2.2.1 G ad1 cL cD qd f ld z e1 hz (fun h => by obtain ⟨h1, h2⟩ := hv h; rw [h1]; exact h2)) hyL_lateness wm_RL_244 (by decide) rfl hk hn dL_law_2120 rfl (by decide) ?_
  rw [oD_if]
  refine L_perm lws_p2.symm ?_
  refine L_istore C (lv1 := (6, .int (kcd [6] z.1)) :: [(0, .ref b), (1, .ref (kad (wC G ad1) 291)), (2, .ref (kad (wM G ad2) 0)), (3, .ref qo), (4, .ref qd), (5, .int (nI i))]) (by decide) rfl dL_law_2123 ?_
  refine L_aload_n C 3 rfl rfl dL_law_2125 ?_
  refine L_perm lws_p3 ?_
  rw [hbb] at e2
  refine L_call C (w := wM G ad2) (As := []) (rest := []) rfl C.2.2.1 (a := 0) (ci := 14) (Nat.le_of_ble_eq_true rfl) (shM_0 G ad2) rfl (km_X12_lateness l G ad2 g _ g1 e2) hy_X12_lateness wm_RL_246 (by decide) rfl hk hn dL_law_2126 rfl (by decide) ?_
  refine L_perm lws_p3.symm ?_
  refine L_dstore C (lv1 := (7, .double x) :: (6, .int (kcd [6] z.1)) :: [(0, .ref b), (1, .ref (kad (wC G ad1) 291)), (2, .ref (kad (wM G ad2) 0)), (3, .ref qo), (4, .ref qd), (5, .int (nI i))]) (by decide) rfl dL_law_2129 ?_
  refine L_aload_n C 4 rfl rfl dL_law_2131 ?_
  refine L_thrown C hk hn (by decide) dL_law_2132 ?_
  refine L_iload C 1 rfl dL_law_2135 ?_
  refine L_icmpeq C (tgt := 2142) hth (by decide) dL_law_2137 ?_
  refine L_iload C 1 rfl dL_law_2142 ?_
  have hend : LJ p l e s m below meth c b G.1 (lws G ad1 ad2 cL cD qo qd z.2.2 g1 lo (if z.1 = 0 then vf_upd ld 0 (kdv z.2.1) else ld)) (k + 2) (n + 12) 2179 ((7, .double x) :: (6, .int (kcd [6] z.1)) :: [(0, .ref b), (1, .ref (kad (wC G ad1) 291)), (2, .ref (kad (wM G ad2) 0)), (3, .ref qo), (4, .ref qd), (5, .int (nI i))]) [] := by
    refine L_goto C (tgt := 2339) (by decide) dL_law_2179 ?_
    exact L_sub [2, 3, 4, 5, 6, 7] rfl (kk _ _ _ _ hR1)
  refine L_if_ne C (tgt := 2179) (by decide) dL_law_2144 (fun _ => hend) (fun h => ?_)
  have h9 := kcd_0 (by decide) h
  obtain ⟨hv1, hv2⟩ := hv h9
  rw [if_pos h9] at hend ⊢
  refine L_aload C 6 rfl dL_law_2147 ?_
  refine L_iconst C (v := 0) dL_law_2149 rfl ?_
  refine L_dald C dL_law_2150 ?_
  rw [hbb] at hv1
  have hl9 : vf_upd ld 0 (kdv z.2.1) 0 = x := by rw [hv1]; rfl
  refine L_dload C 0 rfl dL_law_2151 ?_
  rw [hl9]
  refine L_dcmp C dL_law_2153 ?_
  refine L_if_eq C (tgt := 2179) (by decide) dL_law_2154 (fun _ => hend) (fun h5 => ?_)
  refine L_aload C 6 rfl dL_law_2157 ?_
  refine L_iconst C (v := 0) dL_law_2159 rfl ?_
  refine L_dald C dL_law_2160 ?_
  refine L_aload C 6 rfl dL_law_2161 ?_
  refine L_iconst C (v := 0) dL_law_2163 rfl ?_
  refine L_dald C dL_law_2164 ?_
  rw [hl9]
  refine L_dcmp C dL_law_2165 ?_
  refine L_if_eq C (tgt := 2177) (by decide) dL_law_2166 (fun h6 => absurd h6 h5) (fun _ => ?_)
  refine L_dload C 0 rfl dL_law_2169 ?_
  refine L_dload C 0 rfl dL_law_2171 ?_
  refine L_dcmp C dL_law_2173 ?_
  exact L_if_ne C (tgt := 2179) (by decide) dL_law_2174 (fun _ => hend) (fun h6 => absurd h6 h5)
def kP_account (R : Nat → kMem → kMem → Prop) : Prop := ∀ (N : Nat) (f g : kMem) (a0 : Int32), N < 512 → R N f g → kOk [2] (cx_X11_account f (a0)) (cf_X12_account g (a0)) (R (N + 1))
theorem hyL_account : kYL yL_account cL_account 4 [(0, 9, 12, 28)] 3 := ⟨kgt (List.mem_of_getElem? (i := 1275) (by decide +kernel)) rfl, kgt (List.mem_of_getElem? (i := 58) (by decide +kernel)) rfl, kgt (List.mem_of_getElem? (i := 1274) (by decide +kernel)) rfl, by decide +kernel, by decide⟩
theorem wm_RL_247 : Cond.methodLink RL 247 yL_account ∈ kGT := kgt (List.mem_of_getElem? (i := 1273) (by decide +kernel)) rfl
theorem hy_X12_account : kYV yX12_account cX12_account 4 (some .int) 1 := ⟨⟨kgt (List.mem_of_getElem? (i := 1672) (by decide +kernel)) rfl, kgt (List.mem_of_getElem? (i := 71) (by decide +kernel)) rfl, by decide +kernel, by decide⟩, kgt (List.mem_of_getElem? (i := 1670) (by decide +kernel)) rfl, kgt (List.mem_of_getElem? (i := 1671) (by decide +kernel)) rfl⟩
theorem wm_RL_249 : Cond.methodLink RL 249 yX12_account ∈ kGT := kgt (List.mem_of_getElem? (i := 1669) (by decide +kernel)) rfl
set_option maxRecDepth 100000 in
set_option maxHeartbeats 4000000 in
theorem lc_account (C : LC p l s m meth c b L xs G cL cD ad1 ad2) (hi : i + 5 ≤ L) (hN : N < 512) (hk : k + 2 ≤ 603072) (hn : n + 12 ≤ 7194730) (hR : R N f g) (hp : kP_account R) (kk : ∀ (f1 g1 : kMem) (lo1 : Nat → Int64) (ld1 : Nat → UInt64), R (N + 1) f1 g1 → LJ p l e s m below meth c b G.1 (lws G ad1 ad2 cL cD qo qd f1 g1 lo1 ld1) (k + 2) (n + 12) 2339 [(0, .ref b), (1, .ref (kad (wC G ad1) 291)), (2, .ref (kad (wM G ad2) 0)), (3, .ref qo), (4, .ref qd), (5, .int (nI i))] []) : LJ p l e s m below meth c b G.1 (lws G ad1 ad2 cL cD qo qd f g lo ld) k n 2182 [(0, .ref b), (1, .ref (kad (wC G ad1) 291)), (2, .ref (kad (wM G ad2) 0)), (3, .ref qo), (4, .ref qd), (5, .int (nI i))] [] := by
  obtain ⟨z, bb, g1, e1, e2, hz, hth, hv, hR1⟩ := hp N f g (xs (i + 1)) hN hR
  simp only [List.mem_cons, List.not_mem_nil, or_false] at hz
  refine L_aload_n C 1 rfl rfl dL_law_2182 ?_
  refine L_aload_n C 0 rfl rfl dL_law_2183 ?_
  refine L_iload C 5 rfl dL_law_2184 ?_
  refine L_iconst C (v := nI 1) dL_law_2186 rfl ?_
  refine L_iadd C (nI_add i 1) dL_law_2187 ?_
  refine L_sld C (q := i + 1) rfl (by omega) dL_law_2188 ?_
  refine L_aload_n C 3 rfl rfl dL_law_2189 ?_
  refine L_perm lws_p1 ?_
  refine L_wrap C (rest := []) (wl_account l C.2.2.2.2.2.2.2.1 G ad1 cL cD qo f (xs (i + 1)) lo z e1 hz) hyL_account wm_RL_247 (by decide) rfl hk hn dL_law_2190 rfl (by decide) ?_
  rw [oL_if]
  refine L_perm lws_p1.symm ?_
  refine L_istore C (lv1 := (6, .int (kcd [2] z.1)) :: [(0, .ref b), (1, .ref (kad (wC G ad1) 291)), (2, .ref (kad (wM G ad2) 0)), (3, .ref qo), (4, .ref qd), (5, .int (nI i))]) (by decide) rfl dL_law_2193 ?_
  refine L_aload_n C 3 rfl rfl dL_law_2195 ?_
  refine L_aload_n C 1 rfl rfl dL_law_2196 ?_
  refine L_iload C 6 rfl dL_law_2197 ?_
  refine L_iconst C (v := nI 1) dL_law_2199 rfl ?_
  refine L_iadd C (nI_add i 1) dL_law_2200 ?_
  refine L_sld C (q := i + 1) rfl (by omega) dL_law_2201 ?_
  refine L_perm lws_p3 ?_
  refine L_call C (w := wM G ad2) (As := [.int (xs (i + 1))]) (rest := []) rfl C.2.2.1 (a := 0) (ci := 14) (Nat.le_of_ble_eq_true rfl) (shM_0 G ad2) rfl (kMetV_i (km_X12_account l G ad2 g (xs (i + 1)) bb g1 e2)) hy_X12_account wm_RL_249 (by decide) rfl hk hn dL_law_2202 rfl (by decide) ?_
  refine L_perm lws_p3.symm ?_
  exact L_tail C hk hn hth (fun h => by have h9 := kcd_0 (by decide) h; rw [if_pos h9, hv h9]; rfl) dL_law_2205 dL_law_2207 dL_law_2208 dL_law_2211 dL_law_2213 dL_law_2218 dL_law_2220 dL_law_2223 dL_law_2224 dL_law_2225 dL_law_2226 dL_law_2228 dL_law_2229 dL_law_2230 dL_law_2235 (by decide) (kk _ _ _ _ hR1)
def kP_undo (R : Nat → kMem → kMem → Prop) : Prop := ∀ (N : Nat) (f g : kMem), N < 512 → R N f g → kOk [1] (cx_X11_undo f) (cf_X12_undo g) (R (N + 1))
theorem hyL_undo : kYL yL_undo cL_undo 3 [(0, 8, 11, 13)] 2 := ⟨kgt (List.mem_of_getElem? (i := 1287) (by decide +kernel)) rfl, kgt (List.mem_of_getElem? (i := 58) (by decide +kernel)) rfl, kgt (List.mem_of_getElem? (i := 1286) (by decide +kernel)) rfl, by decide +kernel, by decide⟩
theorem wm_RL_250 : Cond.methodLink RL 250 yL_undo ∈ kGT := kgt (List.mem_of_getElem? (i := 1285) (by decide +kernel)) rfl
theorem hy_X12_undo : kYV yX12_undo cX12_undo 2 (some .int) 0 := ⟨⟨kgt (List.mem_of_getElem? (i := 1676) (by decide +kernel)) rfl, kgt (List.mem_of_getElem? (i := 71) (by decide +kernel)) rfl, by decide +kernel, by decide⟩, kgt (List.mem_of_getElem? (i := 1674) (by decide +kernel)) rfl, kgt (List.mem_of_getElem? (i := 1675) (by decide +kernel)) rfl⟩
theorem wm_RL_252 : Cond.methodLink RL 252 yX12_undo ∈ kGT := kgt (List.mem_of_getElem? (i := 1673) (by decide +kernel)) rfl
set_option maxRecDepth 100000 in
set_option maxHeartbeats 4000000 in
theorem lc_undo (C : LC p l s m meth c b L xs G cL cD ad1 ad2) (hi : i + 5 ≤ L) (hN : N < 512) (hk : k + 2 ≤ 603072) (hn : n + 12 ≤ 7194730) (hR : R N f g) (hp : kP_undo R) (kk : ∀ (f1 g1 : kMem) (lo1 : Nat → Int64) (ld1 : Nat → UInt64), R (N + 1) f1 g1 → LJ p l e s m below meth c b G.1 (lws G ad1 ad2 cL cD qo qd f1 g1 lo1 ld1) (k + 2) (n + 12) 2339 [(0, .ref b), (1, .ref (kad (wC G ad1) 291)), (2, .ref (kad (wM G ad2) 0)), (3, .ref qo), (4, .ref qd), (5, .int (nI i))] []) : LJ p l e s m below meth c b G.1 (lws G ad1 ad2 cL cD qo qd f g lo ld) k n 2238 [(0, .ref b), (1, .ref (kad (wC G ad1) 291)), (2, .ref (kad (wM G ad2) 0)), (3, .ref qo), (4, .ref qd), (5, .int (nI i))] [] := by
  obtain ⟨z, bb, g1, e1, e2, hz, hth, hv, hR1⟩ := hp N f g hN hR
  simp only [List.mem_cons, List.not_mem_nil, or_false] at hz
  refine L_aload_n C 1 rfl rfl dL_law_2238 ?_
  refine L_aload_n C 3 rfl rfl dL_law_2239 ?_
  refine L_perm lws_p1 ?_
  refine L_wrap C (rest := []) (wl_undo l C.2.2.2.2.2.2.2.1 G ad1 cL cD qo f lo z e1 hz) hyL_undo wm_RL_250 (by decide) rfl hk hn dL_law_2240 rfl (by decide) ?_
  rw [oL_if]
  refine L_perm lws_p1.symm ?_
  refine L_istore C (lv1 := (6, .int (kcd [1] z.1)) :: [(0, .ref b), (1, .ref (kad (wC G ad1) 291)), (2, .ref (kad (wM G ad2) 0)), (3, .ref qo), (4, .ref qd), (5, .int (nI i))]) (by decide) rfl dL_law_2243 ?_
  refine L_aload_n C 3 rfl rfl dL_law_2245 ?_
  refine L_perm lws_p3 ?_
  refine L_call C (w := wM G ad2) (As := []) (rest := []) rfl C.2.2.1 (a := 0) (ci := 14) (Nat.le_of_ble_eq_true rfl) (shM_0 G ad2) rfl (kMetV_i (km_X12_undo l G ad2 g bb g1 e2)) hy_X12_undo wm_RL_252 (by decide) rfl hk hn dL_law_2246 rfl (by decide) ?_
  refine L_perm lws_p3.symm ?_
  exact L_tail C hk hn hth (fun h => by have h9 := kcd_0 (by decide) h; rw [if_pos h9, hv h9]; rfl) dL_law_2249 dL_law_2251 dL_law_2252 dL_law_2255 dL_law_2257 dL_law_2262 dL_law_2264 dL_law_2267 dL_law_2268 dL_law_2269 dL_law_2270 dL_law_2272 dL_law_2273 dL_law_2274 dL_law_2279 (by decide) (kk _ _ _ _ hR1)
theorem hy_X11_save : kYV yX11_save cX11_save 1 (some .int) 0 := ⟨⟨kgt (List.mem_of_getElem? (i := 434) (by decide +kernel)) rfl, kgt (List.mem_of_getElem? (i := 59) (by decide +kernel)) rfl, by decide +kernel, by decide⟩, kgt (List.mem_of_getElem? (i := 432) (by decide +kernel)) rfl, kgt (List.mem_of_getElem? (i := 433) (by decide +kernel)) rfl⟩
theorem wm_RL_253 : Cond.methodLink RL 253 yX11_save ∈ kGT := kgt (List.mem_of_getElem? (i := 431) (by decide +kernel)) rfl
theorem hy_X12_save : kYV yX12_save cX12_save 2 (some .int) 0 := ⟨⟨kgt (List.mem_of_getElem? (i := 1680) (by decide +kernel)) rfl, kgt (List.mem_of_getElem? (i := 71) (by decide +kernel)) rfl, by decide +kernel, by decide⟩, kgt (List.mem_of_getElem? (i := 1678) (by decide +kernel)) rfl, kgt (List.mem_of_getElem? (i := 1679) (by decide +kernel)) rfl⟩
theorem wm_RL_256 : Cond.methodLink RL 256 yX12_save ∈ kGT := kgt (List.mem_of_getElem? (i := 1677) (by decide +kernel)) rfl
def kP_save (R : Nat → kMem → kMem → Prop) : Prop := ∀ (N : Nat) (f g : kMem), N < 512 → R N f g → ∃ r f1 g1, cf_X11_save f = some (r, f1) ∧ cf_X12_save g = some (r, g1) ∧ R (N + 1) f1 g1
set_option maxRecDepth 100000 in
set_option maxHeartbeats 4000000 in
theorem lc_save (C : LC p l s m meth c b L xs G cL cD ad1 ad2) (hi : i + 5 ≤ L) (hN : N < 512) (hk : k + 2 ≤ 603072) (hn : n + 12 ≤ 7194730) (hR : R N f g) (hp : kP_save R) (kk : ∀ (f1 g1 : kMem) (lo1 : Nat → Int64) (ld1 : Nat → UInt64), R (N + 1) f1 g1 → LJ p l e s m below meth c b G.1 (lws G ad1 ad2 cL cD qo qd f1 g1 lo1 ld1) (k + 2) (n + 12) 2339 [(0, .ref b), (1, .ref (kad (wC G ad1) 291)), (2, .ref (kad (wM G ad2) 0)), (3, .ref qo), (4, .ref qd), (5, .int (nI i))] []) : LJ p l e s m below meth c b G.1 (lws G ad1 ad2 cL cD qo qd f g lo ld) k n 2282 [(0, .ref b), (1, .ref (kad (wC G ad1) 291)), (2, .ref (kad (wM G ad2) 0)), (3, .ref qo), (4, .ref qd), (5, .int (nI i))] [] := by
  refine L_aload_n C 1 rfl rfl dL_law_2282 ?_
  obtain ⟨r, f1, g1, e1, e2, hR1⟩ := hp N f g hN hR
  refine L_call C (w := wC G ad1) (As := []) (rest := []) rfl C.2.1.2.2.1 (a := 291) (ci := 13) (Nat.le_of_ble_eq_true rfl) (shC_291 G ad1) rfl (kMetV_i (km_X11_save l G ad1 f r f1 e1)) hy_X11_save wm_RL_253 (by decide) rfl (by omega) (by omega) dL_law_2283 rfl (by decide) ?_
  show LJ p l e s m below meth c b G.1 (lws G ad1 ad2 cL cD qo qd f1 g lo ld) _ _ _ _ _
  refine L_aload_n C 2 rfl rfl dL_law_2286 ?_
  refine L_perm lws_p3 ?_
  refine L_call C (w := wM G ad2) (As := []) (rest := [.int r]) rfl C.2.2.1 (a := 0) (ci := 14) (Nat.le_of_ble_eq_true rfl) (shM_0 G ad2) rfl (kMetV_i (km_X12_save l G ad2 g r g1 e2)) hy_X12_save wm_RL_256 (by decide) rfl (by omega) (by omega) dL_law_2287 rfl (Nat.le_of_ble_eq_true rfl) ?_
  refine L_perm lws_p3.symm ?_
  refine L_icmpeq C (tgt := 2339) rfl (by decide) dL_law_2290 ?_
  exact fun H locs ls hP hD hS hl => W.widen (k := k + 2) (n := n + 12) (by omega) (by omega) (kk f1 g1 lo ld hR1 H locs ls hP hD hS hl)
def kP_restore (R : Nat → kMem → kMem → Prop) : Prop := ∀ (N : Nat) (f g : kMem), N < 512 → R N f g → kOk [1] (cx_X11_restore f) (cf_X12_restore g) (R (N + 1))
theorem hyL_restore : kYL yL_restore cL_restore 3 [(0, 8, 11, 13)] 2 := ⟨kgt (List.mem_of_getElem? (i := 1299) (by decide +kernel)) rfl, kgt (List.mem_of_getElem? (i := 58) (by decide +kernel)) rfl, kgt (List.mem_of_getElem? (i := 1298) (by decide +kernel)) rfl, by decide +kernel, by decide⟩
theorem wm_RL_257 : Cond.methodLink RL 257 yL_restore ∈ kGT := kgt (List.mem_of_getElem? (i := 1297) (by decide +kernel)) rfl
theorem hy_X12_restore : kYV yX12_restore cX12_restore 2 (some .int) 0 := ⟨⟨kgt (List.mem_of_getElem? (i := 1684) (by decide +kernel)) rfl, kgt (List.mem_of_getElem? (i := 71) (by decide +kernel)) rfl, by decide +kernel, by decide⟩, kgt (List.mem_of_getElem? (i := 1682) (by decide +kernel)) rfl, kgt (List.mem_of_getElem? (i := 1683) (by decide +kernel)) rfl⟩
theorem wm_RL_259 : Cond.methodLink RL 259 yX12_restore ∈ kGT := kgt (List.mem_of_getElem? (i := 1681) (by decide +kernel)) rfl
set_option maxRecDepth 100000 in
set_option maxHeartbeats 4000000 in
theorem lc_restore (C : LC p l s m meth c b L xs G cL cD ad1 ad2) (hi : i + 5 ≤ L) (hN : N < 512) (hk : k + 2 ≤ 603072) (hn : n + 12 ≤ 7194730) (hR : R N f g) (hp : kP_restore R) (kk : ∀ (f1 g1 : kMem) (lo1 : Nat → Int64) (ld1 : Nat → UInt64), R (N + 1) f1 g1 → LJ p l e s m below meth c b G.1 (lws G ad1 ad2 cL cD qo qd f1 g1 lo1 ld1) (k + 2) (n + 12) 2339 [(0, .ref b), (1, .ref (kad (wC G ad1) 291)), (2, .ref (kad (wM G ad2) 0)), (3, .ref qo), (4, .ref qd), (5, .int (nI i))] []) : LJ p l e s m below meth c b G.1 (lws G ad1 ad2 cL cD qo qd f g lo ld) k n 2295 [(0, .ref b), (1, .ref (kad (wC G ad1) 291)), (2, .ref (kad (wM G ad2) 0)), (3, .ref qo), (4, .ref qd), (5, .int (nI i))] [] := by
  obtain ⟨z, bb, g1, e1, e2, hz, hth, hv, hR1⟩ := hp N f g hN hR
  simp only [List.mem_cons, List.not_mem_nil, or_false] at hz
  refine L_aload_n C 1 rfl rfl dL_law_2295 ?_
  refine L_aload_n C 3 rfl rfl dL_law_2296 ?_
  refine L_perm lws_p1 ?_
  refine L_wrap C (rest := []) (wl_restore l C.2.2.2.2.2.2.2.1 G ad1 cL cD qo f lo z e1 hz) hyL_restore wm_RL_257 (by decide) rfl hk hn dL_law_2297 rfl (by decide) ?_
  rw [oL_if]
  refine L_perm lws_p1.symm ?_
  refine L_istore C (lv1 := (6, .int (kcd [1] z.1)) :: [(0, .ref b), (1, .ref (kad (wC G ad1) 291)), (2, .ref (kad (wM G ad2) 0)), (3, .ref qo), (4, .ref qd), (5, .int (nI i))]) (by decide) rfl dL_law_2300 ?_
  refine L_aload_n C 3 rfl rfl dL_law_2302 ?_
  refine L_perm lws_p3 ?_
  refine L_call C (w := wM G ad2) (As := []) (rest := []) rfl C.2.2.1 (a := 0) (ci := 14) (Nat.le_of_ble_eq_true rfl) (shM_0 G ad2) rfl (kMetV_i (km_X12_restore l G ad2 g bb g1 e2)) hy_X12_restore wm_RL_259 (by decide) rfl hk hn dL_law_2303 rfl (by decide) ?_
  refine L_perm lws_p3.symm ?_
  exact L_tail C hk hn hth (fun h => by have h9 := kcd_0 (by decide) h; rw [if_pos h9, hv h9]; rfl) dL_law_2306 dL_law_2308 dL_law_2309 dL_law_2312 dL_law_2314 dL_law_2319 dL_law_2321 dL_law_2324 dL_law_2325 dL_law_2326 dL_law_2327 dL_law_2329 dL_law_2330 dL_law_2331 dL_law_2336 (by decide) (kk _ _ _ _ hR1)
end LCASES
theorem and63 (a : Int32) : ∃ j : Nat, j < 64 ∧ (a &&& 63).toInt = (j : Int) := by
  have h : (a &&& 63).toBitVec.toNat < 64 := by
    have e : (a &&& 63).toBitVec = a.toBitVec &&& 63#32 := rfl
    rw [e, BitVec.toNat_and]
    exact Nat.lt_of_le_of_lt Nat.and_le_right (by decide)
  refine ⟨(a &&& 63).toBitVec.toNat, h, ?_⟩
  show (a &&& 63).toBitVec.toInt = _
  rw [BitVec.toInt_eq_toNat_of_lt (by omega)]
theorem lw_bound {i L : Nat} (hi : i ≤ 2560) (hL : L ≤ 2560) (h : ¬ nI L - 5 < nI i) : i + 5 ≤ L := by
  have h1 : (nI L - 5).toInt = (L : Int) - 5 := by
    rw [Int32.toInt_sub, nI_toInt (by omega), show (5 : Int32).toInt = 5 from rfl]
    exact Int.bmod_eq_of_le (by omega) (by omega)
  rw [Int32.lt_iff_toInt_lt, h1, nI_toInt (by omega)] at h
  omega
section LLOOP
variable {p : Program} {l : Launch} {e : Env} {s : State} {m : MethodId} {below : List Frame} {meth : Method} {c : Code} {b L : Nat} {xs : Nat → Int32} {G : kG} {cL cD : ClassId} {ad1 ad2 : Nat → Nat} {qo qd : Nat} {f g : kMem} {lo : Nat → Int64} {ld : Nat → UInt64} {k n i N : Nat} {R : Nat → kMem → kMem → Prop}
theorem L_tin (C : LC p l s m meth c b L xs G cL cD ad1 ad2) {ws : va_W} {lv : List (Nat × Value)} {st : List Value} {pc : Nat} {dflt lo hi : Int} {offs : Array Int} {len : Nat} {x : Int32} {off : Int} {tgt : Nat} (h1 : ¬ x.toInt < lo) (h2 : ¬ hi < x.toInt) (ho : offs[(x.toInt - lo).toNat]? = some off) (ht : (pc : Int) + off = (tgt : Int)) (hdg : decode code pc = .ok (.tableswitch dflt lo hi offs, len)) (kk : LJ p l e s m below meth c b G.1 ws k n tgt lv st) : LJ p l e s m below meth c b G.1 ws k n pc lv (.int x :: st) := fun H locs ls hP hD hS hl => lv_tableIn C.1.1 C.1.2.1 hdg h1 h2 ho ht (kk H locs ls hP hD hS hl)
theorem L_tout (C : LC p l s m meth c b L xs G cL cD ad1 ad2) {ws : va_W} {lv : List (Nat × Value)} {st : List Value} {pc : Nat} {dflt lo hi : Int} {offs : Array Int} {len : Nat} {x : Int32} {tgt : Nat} (h : x.toInt < lo ∨ hi < x.toInt) (ht : (pc : Int) + dflt = (tgt : Int)) (hdg : decode code pc = .ok (.tableswitch dflt lo hi offs, len)) (kk : LJ p l e s m below meth c b G.1 ws k n tgt lv st) : LJ p l e s m below meth c b G.1 ws k n pc lv (.int x :: st) := fun H locs ls hP hD hS hl => lv_tableOut C.1.1 C.1.2.1 hdg h ht (kk H locs ls hP hD hS hl)
end LLOOP
set_option maxRecDepth 100000 in
set_option maxHeartbeats 4000000 in
theorem law_loop {p : Program} {l : Launch} {e : Env} {s : State} {m : MethodId} {below : List Frame} {meth : Method} {c : Code} {b L : Nat} {xs : Nat → Int32} {G : kG} {cL cD : ClassId} {ad1 ad2 : Nat → Nat} {qo qd : Nat} {R : Nat → kMem → kMem → Prop} (C : LC p l s m meth c b L xs G cL cD ad1 ad2) (hmono : ∀ N f g, R N f g → R (N + 1) f g) (hp_append : kP_append R) (hp_colour : kP_colour R) (hp_part : kP_part R) (hp_family : kP_family R) (hp_program : kP_program R) (hp_faultPosition : kP_faultPosition R) (hp_mount : kP_mount R) (hp_load : kP_load R) (hp_empty : kP_empty R) (hp_pause : kP_pause R) (hp_run : kP_run R) (hp_order : kP_order R) (hp_callOff : kP_callOff R) (hp_set : kP_set R) (hp_purge : kP_purge R) (hp_minutes : kP_minutes R) (hp_best : kP_best R) (hp_bestAgain : kP_bestAgain R) (hp_bestColour : kP_bestColour R) (hp_familyOf : kP_familyOf R) (hp_pieces : kP_pieces R) (hp_families : kP_families R) (hp_dryer : kP_dryer R) (hp_stock : kP_stock R) (hp_made : kP_made R) (hp_orderOf : kP_orderOf R) (hp_shots : kP_shots R) (hp_letter : kP_letter R) (hp_due : kP_due R) (hp_reason : kP_reason R) (hp_scrap : kP_scrap R) (hp_lateness : kP_lateness R) (hp_account : kP_account R) (hp_undo : kP_undo R) (hp_save : kP_save R) (hp_restore : kP_restore R) : ∀ (u N : Nat), 512 ≤ N + u → 5 * N ≤ L → ∀ (f g : kMem) (lo : Nat → Int64) (ld : Nat → UInt64) (k n : Nat), R N f g → k + 2 * (512 - N) ≤ 600000 → n + 12 * (512 - N) ≤ 7000000 → LJ p l e s m below meth c b G.1 (lws G ad1 ad2 cL cD qo qd f g lo ld) k n 28 [(0, .ref b), (1, .ref (kad (wC G ad1) 291)), (2, .ref (kad (wM G ad2) 0)), (3, .ref qo), (4, .ref qd), (5, .int (nI (5 * N)))] [] := by
  have hL := C.2.2.2.2.2.2.2.2
  have head : ∀ (N : Nat), 5 * N ≤ L → ∀ (f g : kMem) (lo : Nat → Int64) (ld : Nat → UInt64) (k n : Nat), k ≤ 603072 → n ≤ 7194730 → (5 * N + 5 ≤ L → LJ p l e s m below meth c b G.1 (lws G ad1 ad2 cL cD qo qd f g lo ld) k n 37 [(0, .ref b), (1, .ref (kad (wC G ad1) 291)), (2, .ref (kad (wM G ad2) 0)), (3, .ref qo), (4, .ref qd), (5, .int (nI (5 * N)))] []) → LJ p l e s m below meth c b G.1 (lws G ad1 ad2 cL cD qo qd f g lo ld) k n 28 [(0, .ref b), (1, .ref (kad (wC G ad1) 291)), (2, .ref (kad (wM G ad2) 0)), (3, .ref qo), (4, .ref qd), (5, .int (nI (5 * N)))] [] := by
    intro N hN f g lo ld k n hk hn kk
    refine L_iload C 5 rfl dL_law_28 ?_
    refine L_aload_n C 0 rfl rfl dL_law_30 ?_
    refine L_slen C dL_law_31 ?_
    refine L_iconst C (v := 5) dL_law_32 rfl ?_
    refine L_isub C dL_law_33 ?_
    refine L_icmpgt C (tgt := 2345) (by decide) dL_law_34 (fun _ => ?_) (fun h => ?_)
    · refine L_iconst C (v := 1) dL_law_2345 rfl ?_
      exact L_end C hk hn dL_law_2346
    · exact kk (lw_bound (by omega) hL h)
  intro u
  induction u with
  | zero =>
    intro N h1 h2 f g lo ld k n hR hk hn
    refine head N h2 f g lo ld k n (by omega) (by omega) (fun h => ?_)
    omega
  | succ u ih =>
    intro N h1 h2 f g lo ld k n hR hk hn
    refine head N h2 f g lo ld k n (by omega) (by omega) (fun hb5 => ?_)
    have hN : N < 512 := by omega
    have next : ∀ (f1 g1 : kMem) (lo1 : Nat → Int64) (ld1 : Nat → UInt64), R (N + 1) f1 g1 → LJ p l e s m below meth c b G.1 (lws G ad1 ad2 cL cD qo qd f1 g1 lo1 ld1) (k + 2) (n + 12) 2339 [(0, .ref b), (1, .ref (kad (wC G ad1) 291)), (2, .ref (kad (wM G ad2) 0)), (3, .ref qo), (4, .ref qd), (5, .int (nI (5 * N)))] [] := by
      intro f1 g1 lo1 ld1 hR1
      refine L_iinc C (q := 5) (v := nI (5 * (N + 1))) (lv1 := (5, .int (nI (5 * (N + 1)))) :: [(0, .ref b), (1, .ref (kad (wC G ad1) 291)), (2, .ref (kad (wM G ad2) 0)), (3, .ref qo), (4, .ref qd)]) rfl (show nI (5 * N) + Int32.ofInt 5 = nI (5 * N + 5) from nI_add (5 * N) 5) (by decide) rfl dL_law_2339 ?_
      refine L_goto C (tgt := 28) (by decide) dL_law_2342 ?_
      refine L_sub [1, 2, 3, 4, 5, 0] rfl ?_
      exact ih (N + 1) (by omega) (by omega) f1 g1 lo1 ld1 (k + 2) (n + 12) hR1 (by omega) (by omega)
    refine L_aload_n C 0 rfl rfl dL_law_37 ?_
    refine L_iload C 5 rfl dL_law_38 ?_
    refine L_sld C (q := 5 * N) rfl (by omega) dL_law_40 ?_
    refine L_bipush C (v := 63) dL_law_41 (by decide) ?_
    refine L_iand C dL_law_43 ?_
    obtain ⟨j, hj64, hj⟩ := and63 (xs (5 * N))
    rcases (show j = 0 ∨ j = 1 ∨ j = 2 ∨ j = 3 ∨ j = 4 ∨ j = 5 ∨ j = 6 ∨ j = 7 ∨ j = 8 ∨ j = 9 ∨ j = 10 ∨ j = 11 ∨ j = 12 ∨ j = 13 ∨ j = 14 ∨ j = 15 ∨ j = 16 ∨ j = 17 ∨ j = 18 ∨ j = 19 ∨ j = 20 ∨ j = 21 ∨ j = 22 ∨ j = 23 ∨ j = 24 ∨ j = 25 ∨ j = 26 ∨ j = 27 ∨ j = 28 ∨ j = 29 ∨ j = 30 ∨ j = 31 ∨ j = 32 ∨ j = 33 ∨ j = 34 ∨ j = 35 ∨ 36 ≤ j by omega) with rfl | rfl | rfl | rfl | rfl | rfl | rfl | rfl | rfl | rfl | rfl | rfl | rfl | rfl | rfl | rfl | rfl | rfl | rfl | rfl | rfl | rfl | rfl | rfl | rfl | rfl | rfl | rfl | rfl | rfl | rfl | rfl | rfl | rfl | rfl | rfl | h36
    · refine L_tin C (off := 160) (tgt := 204) (by rw [hj]; decide) (by rw [hj]; decide) (by rw [hj]; rfl) (by decide) dL_law_44 ?_
      exact lc_append C hb5 (by omega) (by omega) (by omega) hR hp_append next
    · refine L_tin C (off := 218) (tgt := 262) (by rw [hj]; decide) (by rw [hj]; decide) (by rw [hj]; rfl) (by decide) dL_law_44 ?_
      exact lc_colour C hb5 (by omega) (by omega) (by omega) hR hp_colour next
    · refine L_tin C (off := 274) (tgt := 318) (by rw [hj]; decide) (by rw [hj]; decide) (by rw [hj]; rfl) (by decide) dL_law_44 ?_
      exact lc_part C hb5 (by omega) (by omega) (by omega) hR hp_part next
    · refine L_tin C (off := 330) (tgt := 374) (by rw [hj]; decide) (by rw [hj]; decide) (by rw [hj]; rfl) (by decide) dL_law_44 ?_
      exact lc_family C hb5 (by omega) (by omega) (by omega) hR hp_family next
    · refine L_tin C (off := 374) (tgt := 418) (by rw [hj]; decide) (by rw [hj]; decide) (by rw [hj]; rfl) (by decide) dL_law_44 ?_
      exact lc_program C hb5 (by omega) (by omega) (by omega) hR hp_program next
    · refine L_tin C (off := 418) (tgt := 462) (by rw [hj]; decide) (by rw [hj]; decide) (by rw [hj]; rfl) (by decide) dL_law_44 ?_
      exact lc_faultPosition C hb5 (by omega) (by omega) (by omega) hR hp_faultPosition next
    · refine L_tin C (off := 431) (tgt := 475) (by rw [hj]; decide) (by rw [hj]; decide) (by rw [hj]; rfl) (by decide) dL_law_44 ?_
      exact lc_mount C hb5 (by omega) (by omega) (by omega) hR hp_mount next
    · refine L_tin C (off := 487) (tgt := 531) (by rw [hj]; decide) (by rw [hj]; decide) (by rw [hj]; rfl) (by decide) dL_law_44 ?_
      exact lc_load C hb5 (by omega) (by omega) (by omega) hR hp_load next
    · refine L_tin C (off := 567) (tgt := 611) (by rw [hj]; decide) (by rw [hj]; decide) (by rw [hj]; rfl) (by decide) dL_law_44 ?_
      exact lc_empty C hb5 (by omega) (by omega) (by omega) hR hp_empty next
    · refine L_tin C (off := 623) (tgt := 667) (by rw [hj]; decide) (by rw [hj]; decide) (by rw [hj]; rfl) (by decide) dL_law_44 ?_
      exact lc_pause C hb5 (by omega) (by omega) (by omega) hR hp_pause next
    · refine L_tin C (off := 679) (tgt := 723) (by rw [hj]; decide) (by rw [hj]; decide) (by rw [hj]; rfl) (by decide) dL_law_44 ?_
      exact lc_run C hb5 (by omega) (by omega) (by omega) hR hp_run next
    · refine L_tin C (off := 747) (tgt := 791) (by rw [hj]; decide) (by rw [hj]; decide) (by rw [hj]; rfl) (by decide) dL_law_44 ?_
      exact lc_order C hb5 (by omega) (by omega) (by omega) hR hp_order next
    · refine L_tin C (off := 839) (tgt := 883) (by rw [hj]; decide) (by rw [hj]; decide) (by rw [hj]; rfl) (by decide) dL_law_44 ?_
      exact lc_callOff C hb5 (by omega) (by omega) (by omega) hR hp_callOff next
    · refine L_tin C (off := 895) (tgt := 939) (by rw [hj]; decide) (by rw [hj]; decide) (by rw [hj]; rfl) (by decide) dL_law_44 ?_
      exact lc_set C hb5 (by omega) (by omega) (by omega) hR hp_set next
    · refine L_tin C (off := 963) (tgt := 1007) (by rw [hj]; decide) (by rw [hj]; decide) (by rw [hj]; rfl) (by decide) dL_law_44 ?_
      exact lc_purge C hb5 (by omega) (by omega) (by omega) hR hp_purge next
    · refine L_tin C (off := 1031) (tgt := 1075) (by rw [hj]; decide) (by rw [hj]; decide) (by rw [hj]; rfl) (by decide) dL_law_44 ?_
      exact lc_minutes C hb5 (by omega) (by omega) (by omega) hR hp_minutes next
    · refine L_tin C (off := 1099) (tgt := 1143) (by rw [hj]; decide) (by rw [hj]; decide) (by rw [hj]; rfl) (by decide) dL_law_44 ?_
      exact lc_best C hb5 (by omega) (by omega) (by omega) hR hp_best next
    · refine L_tin C (off := 1155) (tgt := 1199) (by rw [hj]; decide) (by rw [hj]; decide) (by rw [hj]; rfl) (by decide) dL_law_44 ?_
      exact lc_bestAgain C hb5 (by omega) (by omega) (by omega) hR hp_bestAgain next
    · refine L_tin C (off := 1211) (tgt := 1255) (by rw [hj]; decide) (by rw [hj]; decide) (by rw [hj]; rfl) (by decide) dL_law_44 ?_
      exact lc_bestColour C hb5 (by omega) (by omega) (by omega) hR hp_bestColour next
    · refine L_tin C (off := 1279) (tgt := 1323) (by rw [hj]; decide) (by rw [hj]; decide) (by rw [hj]; rfl) (by decide) dL_law_44 ?_
      exact lc_familyOf C hb5 (by omega) (by omega) (by omega) hR hp_familyOf next
    · refine L_tin C (off := 1347) (tgt := 1391) (by rw [hj]; decide) (by rw [hj]; decide) (by rw [hj]; rfl) (by decide) dL_law_44 ?_
      exact lc_pieces C hb5 (by omega) (by omega) (by omega) hR hp_pieces next
    · refine L_tin C (off := 1415) (tgt := 1459) (by rw [hj]; decide) (by rw [hj]; decide) (by rw [hj]; rfl) (by decide) dL_law_44 ?_
      exact lc_families C hb5 (by omega) (by omega) (by omega) hR hp_families next
    · refine L_tin C (off := 1471) (tgt := 1515) (by rw [hj]; decide) (by rw [hj]; decide) (by rw [hj]; rfl) (by decide) dL_law_44 ?_
      exact lc_dryer C hb5 (by omega) (by omega) (by omega) hR hp_dryer next
    · refine L_tin C (off := 1539) (tgt := 1583) (by rw [hj]; decide) (by rw [hj]; decide) (by rw [hj]; rfl) (by decide) dL_law_44 ?_
      exact lc_stock C hb5 (by omega) (by omega) (by omega) hR hp_stock next
    · refine L_tin C (off := 1619) (tgt := 1663) (by rw [hj]; decide) (by rw [hj]; decide) (by rw [hj]; rfl) (by decide) dL_law_44 ?_
      exact lc_made C hb5 (by omega) (by omega) (by omega) hR hp_made next
    · refine L_tin C (off := 1687) (tgt := 1731) (by rw [hj]; decide) (by rw [hj]; decide) (by rw [hj]; rfl) (by decide) dL_law_44 ?_
      exact lc_orderOf C hb5 (by omega) (by omega) (by omega) hR hp_orderOf next
    · refine L_tin C (off := 1755) (tgt := 1799) (by rw [hj]; decide) (by rw [hj]; decide) (by rw [hj]; rfl) (by decide) dL_law_44 ?_
      exact lc_shots C hb5 (by omega) (by omega) (by omega) hR hp_shots next
    · refine L_tin C (off := 1811) (tgt := 1855) (by rw [hj]; decide) (by rw [hj]; decide) (by rw [hj]; rfl) (by decide) dL_law_44 ?_
      exact lc_letter C hb5 (by omega) (by omega) (by omega) hR hp_letter next
    · refine L_tin C (off := 1867) (tgt := 1911) (by rw [hj]; decide) (by rw [hj]; decide) (by rw [hj]; rfl) (by decide) dL_law_44 ?_
      exact lc_due C hb5 (by omega) (by omega) (by omega) hR hp_due next
    · refine L_tin C (off := 1923) (tgt := 1967) (by rw [hj]; decide) (by rw [hj]; decide) (by rw [hj]; rfl) (by decide) dL_law_44 ?_
      exact lc_reason C hb5 (by omega) (by omega) (by omega) hR hp_reason next
    · refine L_tin C (off := 2007) (tgt := 2051) (by rw [hj]; decide) (by rw [hj]; decide) (by rw [hj]; rfl) (by decide) dL_law_44 ?_
      exact lc_scrap C hb5 (by omega) (by omega) (by omega) hR hp_scrap next
    · refine L_tin C (off := 2073) (tgt := 2117) (by rw [hj]; decide) (by rw [hj]; decide) (by rw [hj]; rfl) (by decide) dL_law_44 ?_
      exact lc_lateness C hb5 (by omega) (by omega) (by omega) hR hp_lateness next
    · refine L_tin C (off := 2138) (tgt := 2182) (by rw [hj]; decide) (by rw [hj]; decide) (by rw [hj]; rfl) (by decide) dL_law_44 ?_
      exact lc_account C hb5 (by omega) (by omega) (by omega) hR hp_account next
    · refine L_tin C (off := 2194) (tgt := 2238) (by rw [hj]; decide) (by rw [hj]; decide) (by rw [hj]; rfl) (by decide) dL_law_44 ?_
      exact lc_undo C hb5 (by omega) (by omega) (by omega) hR hp_undo next
    · refine L_tin C (off := 2238) (tgt := 2282) (by rw [hj]; decide) (by rw [hj]; decide) (by rw [hj]; rfl) (by decide) dL_law_44 ?_
      exact lc_save C hb5 (by omega) (by omega) (by omega) hR hp_save next
    · refine L_tin C (off := 2251) (tgt := 2295) (by rw [hj]; decide) (by rw [hj]; decide) (by rw [hj]; rfl) (by decide) dL_law_44 ?_
      exact lc_restore C hb5 (by omega) (by omega) (by omega) hR hp_restore next
    · refine L_tout C (tgt := 2339) (Or.inr (by rw [hj]; omega)) (by decide) dL_law_44 ?_
      exact fun H locs ls hP hD hS hl => W.widen (k := k + 2) (n := n + 12) (by omega) (by omega) (next f g lo ld (hmono N f g hR) H locs ls hP hD hS hl)
