/-! the words of the tables -/
theorem kin_X0 : ∀ z ∈ u_ws RX0 TX0 9, z ∈ kGT := kgt_all (by decide +kernel)
theorem kin_X1 : ∀ z ∈ u_ws RX1 TX1 2, z ∈ kGT := kgt_all (by decide +kernel)
theorem kin_X2 : ∀ z ∈ u_ws RX2 TX2 3, z ∈ kGT := kgt_all (by decide +kernel)
theorem kin_X3 : ∀ z ∈ u_ws RX3 TX3 5, z ∈ kGT := kgt_all (by decide +kernel)
theorem kin_X4 : ∀ z ∈ u_ws RX4 TX4 12, z ∈ kGT := kgt_all (by decide +kernel)
theorem kin_X5 : ∀ z ∈ u_ws RX5 TX5 3, z ∈ kGT := kgt_all (by decide +kernel)
theorem kin_X6 : ∀ z ∈ u_ws RX6 TX6 7, z ∈ kGT := kgt_all (by decide +kernel)
theorem kin_X7 : ∀ z ∈ u_ws RX7 TX7 3, z ∈ kGT := kgt_all (by decide +kernel)
theorem kin_X8 : ∀ z ∈ u_ws RX8 TX8 3, z ∈ kGT := kgt_all (by decide +kernel)
theorem kin_X9 : ∀ z ∈ u_ws RX9 TX9 5, z ∈ kGT := kgt_all (by decide +kernel)
theorem kin_X10 : ∀ z ∈ u_ws RX10 TX10 4, z ∈ kGT := kgt_all (by decide +kernel)
theorem kin_X11 : ∀ z ∈ u_ws RX11 TX11 9, z ∈ kGT := kgt_all (by decide +kernel)
theorem wf_X11_12 : Cond.fieldLink RX11 12 "MouldFloor" "floor" "LMouldFloor$Floor;" ∈ kGT := kgt (List.mem_of_getElem? (i := 370) (by decide +kernel)) rfl
theorem wf_X11_29 : Cond.fieldLink RX11 29 "MouldFloor" "reasons" "LMouldFloor$Reasons;" ∈ kGT := kgt (List.mem_of_getElem? (i := 373) (by decide +kernel)) rfl
theorem wf_X11_36 : Cond.fieldLink RX11 36 "MouldFloor" "text" "LMouldFloor$Text;" ∈ kGT := kgt (List.mem_of_getElem? (i := 374) (by decide +kernel)) rfl
theorem wf_X11_50 : Cond.fieldLink RX11 50 "MouldFloor" "programText" "LMouldFloor$ProgramText;" ∈ kGT := kgt (List.mem_of_getElem? (i := 376) (by decide +kernel)) rfl
theorem wf_X11_134 : Cond.fieldLink RX11 134 "MouldFloor$Text" "fault" "I" ∈ kGT := kgt (List.mem_of_getElem? (i := 305) (by decide +kernel)) rfl
theorem wf_X0_9 : Cond.fieldLink RX0 9 "MouldFloor$Catalogue" "shades" "[I" ∈ kGT := kgt (List.mem_of_getElem? (i := 84) (by decide +kernel)) rfl
theorem wf_X0_15 : Cond.fieldLink RX0 15 "MouldFloor$Catalogue" "crateSizes" "[I" ∈ kGT := kgt (List.mem_of_getElem? (i := 85) (by decide +kernel)) rfl
theorem wf_X0_18 : Cond.fieldLink RX0 18 "MouldFloor$Catalogue" "cycles" "[I" ∈ kGT := kgt (List.mem_of_getElem? (i := 88) (by decide +kernel)) rfl
theorem wf_X0_21 : Cond.fieldLink RX0 21 "MouldFloor$Catalogue" "weights" "[I" ∈ kGT := kgt (List.mem_of_getElem? (i := 91) (by decide +kernel)) rfl
theorem wf_X0_24 : Cond.fieldLink RX0 24 "MouldFloor$Catalogue" "piecesOfShot" "[I" ∈ kGT := kgt (List.mem_of_getElem? (i := 94) (by decide +kernel)) rfl
theorem wf_X0_27 : Cond.fieldLink RX0 27 "MouldFloor$Catalogue" "settings" "[I" ∈ kGT := kgt (List.mem_of_getElem? (i := 95) (by decide +kernel)) rfl
theorem wf_X0_30 : Cond.fieldLink RX0 30 "MouldFloor$Catalogue" "colourCount" "I" ∈ kGT := kgt (List.mem_of_getElem? (i := 77) (by decide +kernel)) rfl
theorem wf_X0_34 : Cond.fieldLink RX0 34 "MouldFloor$Catalogue" "partCount" "I" ∈ kGT := kgt (List.mem_of_getElem? (i := 79) (by decide +kernel)) rfl
theorem wf_X0_37 : Cond.fieldLink RX0 37 "MouldFloor$Catalogue" "familyCount" "I" ∈ kGT := kgt (List.mem_of_getElem? (i := 82) (by decide +kernel)) rfl
theorem wf_X0_71 : Cond.fieldLink RX0 71 "MouldFloor$FamilyText" "cycle" "I" ∈ kGT := kgt (List.mem_of_getElem? (i := 326) (by decide +kernel)) rfl
theorem wf_X0_74 : Cond.fieldLink RX0 74 "MouldFloor$FamilyText" "weight" "I" ∈ kGT := kgt (List.mem_of_getElem? (i := 328) (by decide +kernel)) rfl
theorem wf_X1_11 : Cond.fieldLink RX1 11 "MouldFloor$ColourOrders" "purges" "[I" ∈ kGT := kgt (List.mem_of_getElem? (i := 363) (by decide +kernel)) rfl
theorem wf_X1_15 : Cond.fieldLink RX1 15 "MouldFloor$ColourOrders" "sums" "[I" ∈ kGT := kgt (List.mem_of_getElem? (i := 364) (by decide +kernel)) rfl
theorem wf_X1_18 : Cond.fieldLink RX1 18 "MouldFloor$Floor" "catalogue" "LMouldFloor$Catalogue;" ∈ kGT := kgt (List.mem_of_getElem? (i := 206) (by decide +kernel)) rfl
theorem wf_X1_28 : Cond.fieldLink RX1 28 "MouldFloor$Floor" "colour" "I" ∈ kGT := kgt (List.mem_of_getElem? (i := 220) (by decide +kernel)) rfl
theorem wf_X2_9 : Cond.fieldLink RX2 9 "MouldFloor$Dryers" "colours" "[I" ∈ kGT := kgt (List.mem_of_getElem? (i := 124) (by decide +kernel)) rfl
theorem wf_X2_15 : Cond.fieldLink RX2 15 "MouldFloor$Dryers" "grams" "[I" ∈ kGT := kgt (List.mem_of_getElem? (i := 126) (by decide +kernel)) rfl
theorem wf_X2_18 : Cond.fieldLink RX2 18 "MouldFloor$Dryers" "dried" "[I" ∈ kGT := kgt (List.mem_of_getElem? (i := 129) (by decide +kernel)) rfl
theorem wf_X3_9 : Cond.fieldLink RX3 9 "MouldFloor$FamilyText" "parts" "[I" ∈ kGT := kgt (List.mem_of_getElem? (i := 322) (by decide +kernel)) rfl
theorem wf_X3_15 : Cond.fieldLink RX3 15 "MouldFloor$FamilyText" "pieces" "[I" ∈ kGT := kgt (List.mem_of_getElem? (i := 323) (by decide +kernel)) rfl
theorem wf_X3_37 : Cond.fieldLink RX3 37 "MouldFloor$FamilyText" "count" "I" ∈ kGT := kgt (List.mem_of_getElem? (i := 324) (by decide +kernel)) rfl
theorem wf_X3_45 : Cond.fieldLink RX3 45 "MouldFloor$FamilyText" "cycle" "I" ∈ kGT := kgt (List.mem_of_getElem? (i := 325) (by decide +kernel)) rfl
theorem wf_X3_52 : Cond.fieldLink RX3 52 "MouldFloor$FamilyText" "weight" "I" ∈ kGT := kgt (List.mem_of_getElem? (i := 327) (by decide +kernel)) rfl
theorem wf_X4_12 : Cond.fieldLink RX4 12 "MouldFloor$Floor" "catalogue" "LMouldFloor$Catalogue;" ∈ kGT := kgt (List.mem_of_getElem? (i := 205) (by decide +kernel)) rfl
theorem wf_X4_21 : Cond.fieldLink RX4 21 "MouldFloor$Floor" "dryers" "LMouldFloor$Dryers;" ∈ kGT := kgt (List.mem_of_getElem? (i := 208) (by decide +kernel)) rfl
theorem wf_X4_28 : Cond.fieldLink RX4 28 "MouldFloor$Floor" "stock" "LMouldFloor$Stock;" ∈ kGT := kgt (List.mem_of_getElem? (i := 210) (by decide +kernel)) rfl
theorem wf_X4_35 : Cond.fieldLink RX4 35 "MouldFloor$Floor" "orders" "LMouldFloor$Orders;" ∈ kGT := kgt (List.mem_of_getElem? (i := 212) (by decide +kernel)) rfl
theorem wf_X4_39 : Cond.fieldLink RX4 39 "MouldFloor$Floor" "colour" "I" ∈ kGT := kgt (List.mem_of_getElem? (i := 219) (by decide +kernel)) rfl
theorem wf_X4_43 : Cond.fieldLink RX4 43 "MouldFloor$Floor" "mounted" "I" ∈ kGT := kgt (List.mem_of_getElem? (i := 222) (by decide +kernel)) rfl
theorem wf_X4_59 : Cond.fieldLink RX4 59 "MouldFloor$Floor" "now" "I" ∈ kGT := kgt (List.mem_of_getElem? (i := 214) (by decide +kernel)) rfl
theorem wf_X4_62 : Cond.fieldLink RX4 62 "MouldFloor$Floor" "week" "I" ∈ kGT := kgt (List.mem_of_getElem? (i := 216) (by decide +kernel)) rfl
theorem wf_X4_65 : Cond.fieldLink RX4 65 "MouldFloor$Floor" "minutesOfWeek" "I" ∈ kGT := kgt (List.mem_of_getElem? (i := 218) (by decide +kernel)) rfl
theorem wf_X4_68 : Cond.fieldLink RX4 68 "MouldFloor$Floor" "gramsTaken" "I" ∈ kGT := kgt (List.mem_of_getElem? (i := 224) (by decide +kernel)) rfl
theorem wf_X4_71 : Cond.fieldLink RX4 71 "MouldFloor$Floor" "shotsOfRuns" "I" ∈ kGT := kgt (List.mem_of_getElem? (i := 226) (by decide +kernel)) rfl
theorem wf_X4_74 : Cond.fieldLink RX4 74 "MouldFloor$Floor" "shotsOfPurges" "I" ∈ kGT := kgt (List.mem_of_getElem? (i := 228) (by decide +kernel)) rfl
theorem wf_X4_87 : Cond.fieldLink RX4 87 "MouldFloor$Catalogue" "settings" "[I" ∈ kGT := kgt (List.mem_of_getElem? (i := 96) (by decide +kernel)) rfl
theorem wf_X4_116 : Cond.fieldLink RX4 116 "MouldFloor$Catalogue" "weights" "[I" ∈ kGT := kgt (List.mem_of_getElem? (i := 92) (by decide +kernel)) rfl
theorem wf_X4_131 : Cond.fieldLink RX4 131 "MouldFloor$Catalogue" "cycles" "[I" ∈ kGT := kgt (List.mem_of_getElem? (i := 89) (by decide +kernel)) rfl
theorem wf_X4_146 : Cond.fieldLink RX4 146 "MouldFloor$Dryers" "grams" "[I" ∈ kGT := kgt (List.mem_of_getElem? (i := 127) (by decide +kernel)) rfl
theorem wf_X4_149 : Cond.fieldLink RX4 149 "MouldFloor$Catalogue" "partCount" "I" ∈ kGT := kgt (List.mem_of_getElem? (i := 80) (by decide +kernel)) rfl
theorem wf_X4_158 : Cond.fieldLink RX4 158 "MouldFloor$Catalogue" "crateSizes" "[I" ∈ kGT := kgt (List.mem_of_getElem? (i := 86) (by decide +kernel)) rfl
theorem wf_X4_178 : Cond.fieldLink RX4 178 "MouldFloor$Orders" "parts" "[I" ∈ kGT := kgt (List.mem_of_getElem? (i := 176) (by decide +kernel)) rfl
theorem wf_X4_181 : Cond.fieldLink RX4 181 "MouldFloor$Orders" "colours" "[I" ∈ kGT := kgt (List.mem_of_getElem? (i := 179) (by decide +kernel)) rfl
theorem wf_X4_184 : Cond.fieldLink RX4 184 "MouldFloor$Orders" "crates" "[I" ∈ kGT := kgt (List.mem_of_getElem? (i := 182) (by decide +kernel)) rfl
theorem wf_X4_187 : Cond.fieldLink RX4 187 "MouldFloor$Stock" "closed" "[I" ∈ kGT := kgt (List.mem_of_getElem? (i := 145) (by decide +kernel)) rfl
theorem wf_X4_190 : Cond.fieldLink RX4 190 "MouldFloor$Stock" "open" "[I" ∈ kGT := kgt (List.mem_of_getElem? (i := 148) (by decide +kernel)) rfl
theorem wf_X5_26 : Cond.fieldLink RX5 26 "MouldFloor$History" "count" "I" ∈ kGT := kgt (List.mem_of_getElem? (i := 266) (by decide +kernel)) rfl
theorem wf_X5_30 : Cond.fieldLink RX5 30 "MouldFloor$History" "oldest" "I" ∈ kGT := kgt (List.mem_of_getElem? (i := 265) (by decide +kernel)) rfl
theorem wf_X6_9 : Cond.fieldLink RX6 9 "MouldFloor$Orders" "parts" "[I" ∈ kGT := kgt (List.mem_of_getElem? (i := 175) (by decide +kernel)) rfl
theorem wf_X6_15 : Cond.fieldLink RX6 15 "MouldFloor$Orders" "colours" "[I" ∈ kGT := kgt (List.mem_of_getElem? (i := 178) (by decide +kernel)) rfl
theorem wf_X6_18 : Cond.fieldLink RX6 18 "MouldFloor$Orders" "crates" "[I" ∈ kGT := kgt (List.mem_of_getElem? (i := 181) (by decide +kernel)) rfl
theorem wf_X6_21 : Cond.fieldLink RX6 21 "MouldFloor$Orders" "weeks" "[I" ∈ kGT := kgt (List.mem_of_getElem? (i := 184) (by decide +kernel)) rfl
theorem wf_X6_24 : Cond.fieldLink RX6 24 "MouldFloor$Orders" "states" "[I" ∈ kGT := kgt (List.mem_of_getElem? (i := 186) (by decide +kernel)) rfl
theorem wf_X6_27 : Cond.fieldLink RX6 27 "MouldFloor$Orders" "lateWeeks" "[I" ∈ kGT := kgt (List.mem_of_getElem? (i := 188) (by decide +kernel)) rfl
theorem wf_X6_30 : Cond.fieldLink RX6 30 "MouldFloor$Orders" "count" "I" ∈ kGT := kgt (List.mem_of_getElem? (i := 173) (by decide +kernel)) rfl
theorem wf_X7_11 : Cond.fieldLink RX7 11 "MouldFloor$ProgramText" "kinds" "[I" ∈ kGT := kgt (List.mem_of_getElem? (i := 346) (by decide +kernel)) rfl
theorem wf_X7_15 : Cond.fieldLink RX7 15 "MouldFloor$ProgramText" "numbers" "[I" ∈ kGT := kgt (List.mem_of_getElem? (i := 347) (by decide +kernel)) rfl
theorem wf_X7_23 : Cond.fieldLink RX7 23 "MouldFloor$ProgramText" "count" "I" ∈ kGT := kgt (List.mem_of_getElem? (i := 348) (by decide +kernel)) rfl
theorem wf_X8_9 : Cond.fieldLink RX8 9 "MouldFloor$Reasons" "numbers" "[I" ∈ kGT := kgt (List.mem_of_getElem? (i := 281) (by decide +kernel)) rfl
theorem wf_X8_15 : Cond.fieldLink RX8 15 "MouldFloor$Reasons" "details" "[I" ∈ kGT := kgt (List.mem_of_getElem? (i := 283) (by decide +kernel)) rfl
theorem wf_X8_18 : Cond.fieldLink RX8 18 "MouldFloor$Reasons" "count" "I" ∈ kGT := kgt (List.mem_of_getElem? (i := 285) (by decide +kernel)) rfl
theorem wf_X9_9 : Cond.fieldLink RX9 9 "MouldFloor$Stock" "closed" "[I" ∈ kGT := kgt (List.mem_of_getElem? (i := 144) (by decide +kernel)) rfl
theorem wf_X9_15 : Cond.fieldLink RX9 15 "MouldFloor$Stock" "open" "[I" ∈ kGT := kgt (List.mem_of_getElem? (i := 147) (by decide +kernel)) rfl
theorem wf_X9_18 : Cond.fieldLink RX9 18 "MouldFloor$Stock" "delivered" "[I" ∈ kGT := kgt (List.mem_of_getElem? (i := 150) (by decide +kernel)) rfl
theorem wf_X9_21 : Cond.fieldLink RX9 21 "MouldFloor$Stock" "pieces" "[I" ∈ kGT := kgt (List.mem_of_getElem? (i := 152) (by decide +kernel)) rfl
theorem wf_X9_24 : Cond.fieldLink RX9 24 "MouldFloor$Stock" "scrapPieces" "[I" ∈ kGT := kgt (List.mem_of_getElem? (i := 154) (by decide +kernel)) rfl
theorem wf_X10_9 : Cond.fieldLink RX10 9 "MouldFloor$Text" "characters" "[C" ∈ kGT := kgt (List.mem_of_getElem? (i := 300) (by decide +kernel)) rfl
theorem wf_X10_15 : Cond.fieldLink RX10 15 "MouldFloor$Text" "fault" "I" ∈ kGT := kgt (List.mem_of_getElem? (i := 304) (by decide +kernel)) rfl
theorem wf_X10_19 : Cond.fieldLink RX10 19 "MouldFloor$Text" "length" "I" ∈ kGT := kgt (List.mem_of_getElem? (i := 302) (by decide +kernel)) rfl
theorem wf_X10_22 : Cond.fieldLink RX10 22 "MouldFloor$Text" "next" "I" ∈ kGT := kgt (List.mem_of_getElem? (i := 301) (by decide +kernel)) rfl
theorem wc_X1_44 : Cond.constant RX1 44 1000000 ∈ kGT := kgt (List.mem_of_getElem? (i := 899) (by decide +kernel)) rfl
theorem wc_X2_25 : Cond.constant RX2 25 99999 ∈ kGT := kgt (List.mem_of_getElem? (i := 777) (by decide +kernel)) rfl
theorem wc_J6_265 : Cond.constant RJ6 265 1431655765 ∈ kGT := kgt (List.mem_of_getElem? (i := 915) (by decide +kernel)) rfl
theorem wc_J6_266 : Cond.constant RJ6 266 858993459 ∈ kGT := kgt (List.mem_of_getElem? (i := 916) (by decide +kernel)) rfl
theorem wc_J6_267 : Cond.constant RJ6 267 252645135 ∈ kGT := kgt (List.mem_of_getElem? (i := 917) (by decide +kernel)) rfl
theorem wm_X11_137 : Cond.methodLink RX11 137 yX4_mountFamily ∈ kGT := kgt (List.mem_of_getElem? (i := 677) (by decide +kernel)) rfl
theorem wm_X11_140 : Cond.methodLink RX11 140 yX4_loadDryer ∈ kGT := kgt (List.mem_of_getElem? (i := 769) (by decide +kernel)) rfl
theorem wm_X11_153 : Cond.methodLink RX11 153 yX4_waitMinutes ∈ kGT := kgt (List.mem_of_getElem? (i := 765) (by decide +kernel)) rfl
theorem wm_X11_156 : Cond.methodLink RX11 156 yX4_runShots ∈ kGT := kgt (List.mem_of_getElem? (i := 707) (by decide +kernel)) rfl
theorem wm_X11_435 : Cond.methodLink RX11 435 yX7_numberOf ∈ kGT := kgt (List.mem_of_getElem? (i := 668) (by decide +kernel)) rfl
theorem wm_X11_438 : Cond.methodLink RX11 438 yX7_kindOf ∈ kGT := kgt (List.mem_of_getElem? (i := 673) (by decide +kernel)) rfl
theorem wm_X0_48 : Cond.methodLink RX0 48 yX8_refuse ∈ kGT := kgt (List.mem_of_getElem? (i := 549) (by decide +kernel)) rfl
theorem wm_X0_54 : Cond.methodLink RX0 54 yX3_hasZero ∈ kGT := kgt (List.mem_of_getElem? (i := 1412) (by decide +kernel)) rfl
theorem wm_X0_60 : Cond.methodLink RX0 60 yX3_highestPart ∈ kGT := kgt (List.mem_of_getElem? (i := 1416) (by decide +kernel)) rfl
theorem wm_X0_64 : Cond.methodLink RX0 64 yX0_isPart ∈ kGT := kgt (List.mem_of_getElem? (i := 753) (by decide +kernel)) rfl
theorem wm_X0_68 : Cond.methodLink RX0 68 yX3_partTwice ∈ kGT := kgt (List.mem_of_getElem? (i := 1421) (by decide +kernel)) rfl
theorem wm_X0_77 : Cond.methodLink RX0 77 yX3_piecesFor ∈ kGT := kgt (List.mem_of_getElem? (i := 1425) (by decide +kernel)) rfl
theorem wm_X0_87 : Cond.methodLink RX0 87 yX0_isColour ∈ kGT := kgt (List.mem_of_getElem? (i := 720) (by decide +kernel)) rfl
theorem wm_X0_95 : Cond.methodLink RX0 95 yX0_isFamily ∈ kGT := kgt (List.mem_of_getElem? (i := 752) (by decide +kernel)) rfl
theorem wm_X0_98 : Cond.methodLink RX0 98 yX0_piecesOf ∈ kGT := kgt (List.mem_of_getElem? (i := 1466) (by decide +kernel)) rfl
theorem wm_X1_24 : Cond.methodLink RX1 24 yX1_fillSums ∈ kGT := kgt (List.mem_of_getElem? (i := 886) (by decide +kernel)) rfl
theorem wm_X1_32 : Cond.methodLink RX1 32 yX1_fillPurges ∈ kGT := kgt (List.mem_of_getElem? (i := 890) (by decide +kernel)) rfl
theorem wm_X1_40 : Cond.methodLink RX1 40 yX1_lowestBest ∈ kGT := kgt (List.mem_of_getElem? (i := 895) (by decide +kernel)) rfl
theorem wm_X1_45 : Cond.methodLink RX1 45 yX1_sumThrough ∈ kGT := kgt (List.mem_of_getElem? (i := 900) (by decide +kernel)) rfl
theorem wm_X1_49 : Cond.methodLink RX1 49 yX0_purgeShots ∈ kGT := kgt (List.mem_of_getElem? (i := 894) (by decide +kernel)) rfl
theorem wm_X2_30 : Cond.methodLink RX2 30 yX8_refuse ∈ kGT := kgt (List.mem_of_getElem? (i := 779) (by decide +kernel)) rfl
theorem wm_X2_36 : Cond.methodLink RX2 36 yX2_take ∈ kGT := kgt (List.mem_of_getElem? (i := 1578) (by decide +kernel)) rfl
theorem wm_X3_18 : Cond.methodLink RX3 18 yX10_start ∈ kGT := kgt (List.mem_of_getElem? (i := 1390) (by decide +kernel)) rfl
theorem wm_X3_23 : Cond.methodLink RX3 23 yX3_isHeadRead ∈ kGT := kgt (List.mem_of_getElem? (i := 1391) (by decide +kernel)) rfl
theorem wm_X3_27 : Cond.methodLink RX3 27 yX3_isPartRead ∈ kGT := kgt (List.mem_of_getElem? (i := 1397) (by decide +kernel)) rfl
theorem wm_X3_30 : Cond.methodLink RX3 30 yX3_isTailRead ∈ kGT := kgt (List.mem_of_getElem? (i := 1401) (by decide +kernel)) rfl
theorem wm_X3_33 : Cond.methodLink RX3 33 yX10_end ∈ kGT := kgt (List.mem_of_getElem? (i := 1406) (by decide +kernel)) rfl
theorem wm_X3_41 : Cond.methodLink RX3 41 yX10_number ∈ kGT := kgt (List.mem_of_getElem? (i := 1395) (by decide +kernel)) rfl
theorem wm_X3_48 : Cond.methodLink RX3 48 yX10_skip ∈ kGT := kgt (List.mem_of_getElem? (i := 1396) (by decide +kernel)) rfl
theorem wm_X3_55 : Cond.methodLink RX3 55 yX10_isAtEnd ∈ kGT := kgt (List.mem_of_getElem? (i := 1405) (by decide +kernel)) rfl
theorem wm_X4_77 : Cond.methodLink RX4 77 yX0_isFamily ∈ kGT := kgt (List.mem_of_getElem? (i := 681) (by decide +kernel)) rfl
theorem wm_X4_81 : Cond.methodLink RX4 81 yX8_refuse ∈ kGT := kgt (List.mem_of_getElem? (i := 685) (by decide +kernel)) rfl
theorem wm_X4_91 : Cond.methodLink RX4 91 yX4_pass ∈ kGT := kgt (List.mem_of_getElem? (i := 686) (by decide +kernel)) rfl
theorem wm_X4_99 : Cond.methodLink RX4 99 yX0_isColour ∈ kGT := kgt (List.mem_of_getElem? (i := 711) (by decide +kernel)) rfl
theorem wm_X4_102 : Cond.methodLink RX4 102 yX2_fill ∈ kGT := kgt (List.mem_of_getElem? (i := 773) (by decide +kernel)) rfl
theorem wm_X4_106 : Cond.methodLink RX4 106 yX0_isPart ∈ kGT := kgt (List.mem_of_getElem? (i := 829) (by decide +kernel)) rfl
theorem wm_X4_109 : Cond.methodLink RX4 109 yX6_add ∈ kGT := kgt (List.mem_of_getElem? (i := 830) (by decide +kernel)) rfl
theorem wm_X4_113 : Cond.methodLink RX4 113 yX0_purgeShots ∈ kGT := kgt (List.mem_of_getElem? (i := 716) (by decide +kernel)) rfl
theorem wm_X4_119 : Cond.methodLink RX4 119 yX2_lowestUsable ∈ kGT := kgt (List.mem_of_getElem? (i := 722) (by decide +kernel)) rfl
theorem wm_X4_123 : Cond.methodLink RX4 123 yX4_refuseForDryers ∈ kGT := kgt (List.mem_of_getElem? (i := 726) (by decide +kernel)) rfl
theorem wm_X4_127 : Cond.methodLink RX4 127 yX2_take ∈ kGT := kgt (List.mem_of_getElem? (i := 740) (by decide +kernel)) rfl
theorem wm_X4_134 : Cond.methodLink RX4 134 yX4_putPieces ∈ kGT := kgt (List.mem_of_getElem? (i := 744) (by decide +kernel)) rfl
theorem wm_X4_137 : Cond.methodLink RX4 137 yX2_lowestWith ∈ kGT := kgt (List.mem_of_getElem? (i := 730) (by decide +kernel)) rfl
theorem wm_X4_140 : Cond.methodLink RX4 140 yX2_lackingMinutes ∈ kGT := kgt (List.mem_of_getElem? (i := 734) (by decide +kernel)) rfl
theorem wm_X4_143 : Cond.methodLink RX4 143 yX8_putBehind ∈ kGT := kgt (List.mem_of_getElem? (i := 739) (by decide +kernel)) rfl
theorem wm_X4_152 : Cond.methodLink RX4 152 yX0_piecesOf ∈ kGT := kgt (List.mem_of_getElem? (i := 748) (by decide +kernel)) rfl
theorem wm_X4_155 : Cond.methodLink RX4 155 yX9_addScrap ∈ kGT := kgt (List.mem_of_getElem? (i := 757) (by decide +kernel)) rfl
theorem wm_X4_161 : Cond.methodLink RX4 161 yX9_addPieces ∈ kGT := kgt (List.mem_of_getElem? (i := 761) (by decide +kernel)) rfl
theorem wm_X4_165 : Cond.methodLink RX4 165 yX2_dry ∈ kGT := kgt (List.mem_of_getElem? (i := 690) (by decide +kernel)) rfl
theorem wm_X4_174 : Cond.methodLink RX4 174 yX6_endWeek ∈ kGT := kgt (List.mem_of_getElem? (i := 695) (by decide +kernel)) rfl
theorem wm_X6_42 : Cond.methodLink RX6 42 yX8_refuse ∈ kGT := kgt (List.mem_of_getElem? (i := 835) (by decide +kernel)) rfl
theorem wm_X6_48 : Cond.methodLink RX6 48 yX6_isOrder ∈ kGT := kgt (List.mem_of_getElem? (i := 847) (by decide +kernel)) rfl
theorem wm_X6_52 : Cond.methodLink RX6 52 yX6_isOpen ∈ kGT := kgt (List.mem_of_getElem? (i := 699) (by decide +kernel)) rfl
theorem wm_X6_55 : Cond.methodLink RX6 55 yX6_countOf ∈ kGT := kgt (List.mem_of_getElem? (i := 851) (by decide +kernel)) rfl
theorem wm_X6_59 : Cond.methodLink RX6 59 yX9_isDelivered ∈ kGT := kgt (List.mem_of_getElem? (i := 703) (by decide +kernel)) rfl
theorem wm_X7_18 : Cond.methodLink RX7 18 yX10_start ∈ kGT := kgt (List.mem_of_getElem? (i := 604) (by decide +kernel)) rfl
theorem wm_X7_27 : Cond.methodLink RX7 27 yX7_areCommandsRead ∈ kGT := kgt (List.mem_of_getElem? (i := 608) (by decide +kernel)) rfl
theorem wm_X7_31 : Cond.methodLink RX7 31 yX10_end ∈ kGT := kgt (List.mem_of_getElem? (i := 640) (by decide +kernel)) rfl
theorem wm_X7_35 : Cond.methodLink RX7 35 yX10_skip ∈ kGT := kgt (List.mem_of_getElem? (i := 612) (by decide +kernel)) rfl
theorem wm_X7_39 : Cond.methodLink RX7 39 yX7_isCommandRead ∈ kGT := kgt (List.mem_of_getElem? (i := 620) (by decide +kernel)) rfl
theorem wm_X7_43 : Cond.methodLink RX7 43 yX10_isAtEnd ∈ kGT := kgt (List.mem_of_getElem? (i := 639) (by decide +kernel)) rfl
theorem wm_X7_47 : Cond.methodLink RX7 47 yX7_isNumberRead ∈ kGT := kgt (List.mem_of_getElem? (i := 624) (by decide +kernel)) rfl
theorem wm_X7_51 : Cond.methodLink RX7 51 yX10_number ∈ kGT := kgt (List.mem_of_getElem? (i := 628) (by decide +kernel)) rfl
theorem wm_X8_22 : Cond.methodLink RX8 22 yX8_putBehind ∈ kGT := kgt (List.mem_of_getElem? (i := 553) (by decide +kernel)) rfl
theorem wm_X10_25 : Cond.methodLink RX10 25 yX10_isAtEnd ∈ kGT := kgt (List.mem_of_getElem? (i := 616) (by decide +kernel)) rfl
theorem wm_X10_29 : Cond.methodLink RX10 29 yX10_isAtDigit ∈ kGT := kgt (List.mem_of_getElem? (i := 632) (by decide +kernel)) rfl
theorem wm_X0_90 : Cond.methodLink RX0 90 Lib.Math.max.name ∈ kGT := kgt (List.mem_of_getElem? (i := 721) (by decide +kernel)) rfl
theorem wm_X2_40 : Cond.methodLink RX2 40 Lib.Math.max.name ∈ kGT := kgt (List.mem_of_getElem? (i := 738) (by decide +kernel)) rfl
theorem wm_X3_59 : Cond.methodLink RX3 59 Lib.Math.max.name ∈ kGT := kgt (List.mem_of_getElem? (i := 1420) (by decide +kernel)) rfl
theorem wm_X4_169 : Cond.methodLink RX4 169 Lib.Math.max.name ∈ kGT := kgt (List.mem_of_getElem? (i := 694) (by decide +kernel)) rfl
theorem wm_X8_26 : Cond.methodLink RX8 26 Lib.Math.min.name ∈ kGT := kgt (List.mem_of_getElem? (i := 784) (by decide +kernel)) rfl
theorem wm_X10_32 : Cond.methodLink RX10 32 Lib.Math.max.name ∈ kGT := kgt (List.mem_of_getElem? (i := 636) (by decide +kernel)) rfl
theorem hy_X0_isColour : kYV yX0_isColour cX0_isColour 2 (some .boolean) 1 := ⟨⟨kgt (List.mem_of_getElem? (i := 714) (by decide +kernel)) rfl, kgt (List.mem_of_getElem? (i := 23) (by decide +kernel)) rfl, by decide +kernel, by decide⟩, kgt (List.mem_of_getElem? (i := 712) (by decide +kernel)) rfl, kgt (List.mem_of_getElem? (i := 713) (by decide +kernel)) rfl⟩
theorem hy_X0_isPart : kYV yX0_isPart cX0_isPart 2 (some .boolean) 1 := ⟨⟨kgt (List.mem_of_getElem? (i := 756) (by decide +kernel)) rfl, kgt (List.mem_of_getElem? (i := 23) (by decide +kernel)) rfl, by decide +kernel, by decide⟩, kgt (List.mem_of_getElem? (i := 754) (by decide +kernel)) rfl, kgt (List.mem_of_getElem? (i := 755) (by decide +kernel)) rfl⟩
theorem hy_X0_isFamily : kYV yX0_isFamily cX0_isFamily 2 (some .boolean) 1 := ⟨⟨kgt (List.mem_of_getElem? (i := 684) (by decide +kernel)) rfl, kgt (List.mem_of_getElem? (i := 23) (by decide +kernel)) rfl, by decide +kernel, by decide⟩, kgt (List.mem_of_getElem? (i := 682) (by decide +kernel)) rfl, kgt (List.mem_of_getElem? (i := 683) (by decide +kernel)) rfl⟩
theorem hy_X0_purgeShots : kYV yX0_purgeShots cX0_purgeShots 3 (some .int) 2 := ⟨⟨kgt (List.mem_of_getElem? (i := 719) (by decide +kernel)) rfl, kgt (List.mem_of_getElem? (i := 23) (by decide +kernel)) rfl, by decide +kernel, by decide⟩, kgt (List.mem_of_getElem? (i := 717) (by decide +kernel)) rfl, kgt (List.mem_of_getElem? (i := 718) (by decide +kernel)) rfl⟩
theorem hy_X0_piecesOf : kYV yX0_piecesOf cX0_piecesOf 3 (some .int) 2 := ⟨⟨kgt (List.mem_of_getElem? (i := 751) (by decide +kernel)) rfl, kgt (List.mem_of_getElem? (i := 23) (by decide +kernel)) rfl, by decide +kernel, by decide⟩, kgt (List.mem_of_getElem? (i := 749) (by decide +kernel)) rfl, kgt (List.mem_of_getElem? (i := 750) (by decide +kernel)) rfl⟩
theorem hy_X1_lowestBest : kYV yX1_lowestBest cX1_lowestBest 6 (some .int) 2 := ⟨⟨kgt (List.mem_of_getElem? (i := 898) (by decide +kernel)) rfl, kgt (List.mem_of_getElem? (i := 32) (by decide +kernel)) rfl, by decide +kernel, by decide⟩, kgt (List.mem_of_getElem? (i := 897) (by decide +kernel)) rfl, kgt (List.mem_of_getElem? (i := 14) (by decide +kernel)) rfl⟩
theorem hy_X1_sumThrough : kYV yX1_sumThrough cX1_sumThrough 4 (some .int) 3 := ⟨⟨kgt (List.mem_of_getElem? (i := 903) (by decide +kernel)) rfl, kgt (List.mem_of_getElem? (i := 32) (by decide +kernel)) rfl, by decide +kernel, by decide⟩, kgt (List.mem_of_getElem? (i := 902) (by decide +kernel)) rfl, kgt (List.mem_of_getElem? (i := 15) (by decide +kernel)) rfl⟩
theorem hy_X1_fillPurges : kYV yX1_fillPurges cX1_fillPurges 4 none 1 := ⟨⟨kgt (List.mem_of_getElem? (i := 893) (by decide +kernel)) rfl, kgt (List.mem_of_getElem? (i := 32) (by decide +kernel)) rfl, by decide +kernel, by decide⟩, kgt (List.mem_of_getElem? (i := 892) (by decide +kernel)) rfl, kgt (List.mem_of_getElem? (i := 13) (by decide +kernel)) rfl⟩
theorem hy_X1_fillSums : kYV yX1_fillSums cX1_fillSums 5 none 2 := ⟨⟨kgt (List.mem_of_getElem? (i := 889) (by decide +kernel)) rfl, kgt (List.mem_of_getElem? (i := 32) (by decide +kernel)) rfl, by decide +kernel, by decide⟩, kgt (List.mem_of_getElem? (i := 888) (by decide +kernel)) rfl, kgt (List.mem_of_getElem? (i := 12) (by decide +kernel)) rfl⟩
theorem hy_X2_fill : kYV yX2_fill cX2_fill 5 (some .int) 4 := ⟨⟨kgt (List.mem_of_getElem? (i := 776) (by decide +kernel)) rfl, kgt (List.mem_of_getElem? (i := 24) (by decide +kernel)) rfl, by decide +kernel, by decide⟩, kgt (List.mem_of_getElem? (i := 774) (by decide +kernel)) rfl, kgt (List.mem_of_getElem? (i := 775) (by decide +kernel)) rfl⟩
theorem hy_X2_take : kYV yX2_take cX2_take 3 none 2 := ⟨⟨kgt (List.mem_of_getElem? (i := 743) (by decide +kernel)) rfl, kgt (List.mem_of_getElem? (i := 24) (by decide +kernel)) rfl, by decide +kernel, by decide⟩, kgt (List.mem_of_getElem? (i := 741) (by decide +kernel)) rfl, kgt (List.mem_of_getElem? (i := 742) (by decide +kernel)) rfl⟩
theorem hy_X2_dry : kYV yX2_dry cX2_dry 3 none 1 := ⟨⟨kgt (List.mem_of_getElem? (i := 693) (by decide +kernel)) rfl, kgt (List.mem_of_getElem? (i := 24) (by decide +kernel)) rfl, by decide +kernel, by decide⟩, kgt (List.mem_of_getElem? (i := 691) (by decide +kernel)) rfl, kgt (List.mem_of_getElem? (i := 692) (by decide +kernel)) rfl⟩
theorem hy_X2_lackingMinutes : kYV yX2_lackingMinutes cX2_lackingMinutes 3 (some .int) 2 := ⟨⟨kgt (List.mem_of_getElem? (i := 737) (by decide +kernel)) rfl, kgt (List.mem_of_getElem? (i := 24) (by decide +kernel)) rfl, by decide +kernel, by decide⟩, kgt (List.mem_of_getElem? (i := 735) (by decide +kernel)) rfl, kgt (List.mem_of_getElem? (i := 736) (by decide +kernel)) rfl⟩
theorem hy_X2_lowestWith : kYV yX2_lowestWith cX2_lowestWith 3 (some .int) 1 := ⟨⟨kgt (List.mem_of_getElem? (i := 733) (by decide +kernel)) rfl, kgt (List.mem_of_getElem? (i := 24) (by decide +kernel)) rfl, by decide +kernel, by decide⟩, kgt (List.mem_of_getElem? (i := 731) (by decide +kernel)) rfl, kgt (List.mem_of_getElem? (i := 732) (by decide +kernel)) rfl⟩
theorem hy_X2_lowestUsable : kYV yX2_lowestUsable cX2_lowestUsable 5 (some .int) 3 := ⟨⟨kgt (List.mem_of_getElem? (i := 725) (by decide +kernel)) rfl, kgt (List.mem_of_getElem? (i := 24) (by decide +kernel)) rfl, by decide +kernel, by decide⟩, kgt (List.mem_of_getElem? (i := 723) (by decide +kernel)) rfl, kgt (List.mem_of_getElem? (i := 724) (by decide +kernel)) rfl⟩
theorem hy_X3_isHeadRead : kYV yX3_isHeadRead cX3_isHeadRead 2 (some .boolean) 1 := ⟨⟨kgt (List.mem_of_getElem? (i := 1394) (by decide +kernel)) rfl, kgt (List.mem_of_getElem? (i := 30) (by decide +kernel)) rfl, by decide +kernel, by decide⟩, kgt (List.mem_of_getElem? (i := 1393) (by decide +kernel)) rfl, kgt (List.mem_of_getElem? (i := 17) (by decide +kernel)) rfl⟩
theorem hy_X3_isPartRead : kYV yX3_isPartRead cX3_isPartRead 2 (some .boolean) 1 := ⟨⟨kgt (List.mem_of_getElem? (i := 1400) (by decide +kernel)) rfl, kgt (List.mem_of_getElem? (i := 30) (by decide +kernel)) rfl, by decide +kernel, by decide⟩, kgt (List.mem_of_getElem? (i := 1399) (by decide +kernel)) rfl, kgt (List.mem_of_getElem? (i := 18) (by decide +kernel)) rfl⟩
theorem hy_X3_isTailRead : kYV yX3_isTailRead cX3_isTailRead 3 (some .boolean) 1 := ⟨⟨kgt (List.mem_of_getElem? (i := 1404) (by decide +kernel)) rfl, kgt (List.mem_of_getElem? (i := 30) (by decide +kernel)) rfl, by decide +kernel, by decide⟩, kgt (List.mem_of_getElem? (i := 1403) (by decide +kernel)) rfl, kgt (List.mem_of_getElem? (i := 19) (by decide +kernel)) rfl⟩
theorem hy_X3_hasZero : kYV yX3_hasZero cX3_hasZero 2 (some .boolean) 0 := ⟨⟨kgt (List.mem_of_getElem? (i := 1415) (by decide +kernel)) rfl, kgt (List.mem_of_getElem? (i := 30) (by decide +kernel)) rfl, by decide +kernel, by decide⟩, kgt (List.mem_of_getElem? (i := 1413) (by decide +kernel)) rfl, kgt (List.mem_of_getElem? (i := 1414) (by decide +kernel)) rfl⟩
theorem hy_X3_highestPart : kYV yX3_highestPart cX3_highestPart 3 (some .int) 0 := ⟨⟨kgt (List.mem_of_getElem? (i := 1419) (by decide +kernel)) rfl, kgt (List.mem_of_getElem? (i := 30) (by decide +kernel)) rfl, by decide +kernel, by decide⟩, kgt (List.mem_of_getElem? (i := 1417) (by decide +kernel)) rfl, kgt (List.mem_of_getElem? (i := 1418) (by decide +kernel)) rfl⟩
theorem hy_X3_partTwice : kYV yX3_partTwice cX3_partTwice 3 (some .int) 0 := ⟨⟨kgt (List.mem_of_getElem? (i := 1424) (by decide +kernel)) rfl, kgt (List.mem_of_getElem? (i := 30) (by decide +kernel)) rfl, by decide +kernel, by decide⟩, kgt (List.mem_of_getElem? (i := 1422) (by decide +kernel)) rfl, kgt (List.mem_of_getElem? (i := 1423) (by decide +kernel)) rfl⟩
theorem hy_X3_piecesFor : kYV yX3_piecesFor cX3_piecesFor 3 (some .int) 1 := ⟨⟨kgt (List.mem_of_getElem? (i := 1428) (by decide +kernel)) rfl, kgt (List.mem_of_getElem? (i := 30) (by decide +kernel)) rfl, by decide +kernel, by decide⟩, kgt (List.mem_of_getElem? (i := 1426) (by decide +kernel)) rfl, kgt (List.mem_of_getElem? (i := 1427) (by decide +kernel)) rfl⟩
theorem hy_X4_mountFamily : kYV yX4_mountFamily cX4_mountFamily 3 (some .int) 2 := ⟨⟨kgt (List.mem_of_getElem? (i := 680) (by decide +kernel)) rfl, kgt (List.mem_of_getElem? (i := 22) (by decide +kernel)) rfl, by decide +kernel, by decide⟩, kgt (List.mem_of_getElem? (i := 678) (by decide +kernel)) rfl, kgt (List.mem_of_getElem? (i := 679) (by decide +kernel)) rfl⟩
theorem hy_X4_loadDryer : kYV yX4_loadDryer cX4_loadDryer 5 (some .int) 4 := ⟨⟨kgt (List.mem_of_getElem? (i := 772) (by decide +kernel)) rfl, kgt (List.mem_of_getElem? (i := 22) (by decide +kernel)) rfl, by decide +kernel, by decide⟩, kgt (List.mem_of_getElem? (i := 770) (by decide +kernel)) rfl, kgt (List.mem_of_getElem? (i := 771) (by decide +kernel)) rfl⟩
theorem hy_X4_waitMinutes : kYV yX4_waitMinutes cX4_waitMinutes 3 (some .int) 2 := ⟨⟨kgt (List.mem_of_getElem? (i := 768) (by decide +kernel)) rfl, kgt (List.mem_of_getElem? (i := 22) (by decide +kernel)) rfl, by decide +kernel, by decide⟩, kgt (List.mem_of_getElem? (i := 766) (by decide +kernel)) rfl, kgt (List.mem_of_getElem? (i := 767) (by decide +kernel)) rfl⟩
theorem hy_X4_runShots : kYV yX4_runShots cX4_runShots 7 (some .int) 3 := ⟨⟨kgt (List.mem_of_getElem? (i := 710) (by decide +kernel)) rfl, kgt (List.mem_of_getElem? (i := 22) (by decide +kernel)) rfl, by decide +kernel, by decide⟩, kgt (List.mem_of_getElem? (i := 708) (by decide +kernel)) rfl, kgt (List.mem_of_getElem? (i := 709) (by decide +kernel)) rfl⟩
theorem hy_X4_refuseForDryers : kYV yX4_refuseForDryers cX4_refuseForDryers 6 (some .int) 3 := ⟨⟨kgt (List.mem_of_getElem? (i := 729) (by decide +kernel)) rfl, kgt (List.mem_of_getElem? (i := 22) (by decide +kernel)) rfl, by decide +kernel, by decide⟩, kgt (List.mem_of_getElem? (i := 728) (by decide +kernel)) rfl, kgt (List.mem_of_getElem? (i := 9) (by decide +kernel)) rfl⟩
theorem hy_X4_putPieces : kYV yX4_putPieces cX4_putPieces 5 none 2 := ⟨⟨kgt (List.mem_of_getElem? (i := 747) (by decide +kernel)) rfl, kgt (List.mem_of_getElem? (i := 22) (by decide +kernel)) rfl, by decide +kernel, by decide⟩, kgt (List.mem_of_getElem? (i := 746) (by decide +kernel)) rfl, kgt (List.mem_of_getElem? (i := 10) (by decide +kernel)) rfl⟩
theorem hy_X4_pass : kYV yX4_pass cX4_pass 5 (some .int) 1 := ⟨⟨kgt (List.mem_of_getElem? (i := 689) (by decide +kernel)) rfl, kgt (List.mem_of_getElem? (i := 22) (by decide +kernel)) rfl, by decide +kernel, by decide⟩, kgt (List.mem_of_getElem? (i := 688) (by decide +kernel)) rfl, kgt (List.mem_of_getElem? (i := 8) (by decide +kernel)) rfl⟩
theorem hy_X6_isOrder : kYV yX6_isOrder cX6_isOrder 2 (some .boolean) 1 := ⟨⟨kgt (List.mem_of_getElem? (i := 850) (by decide +kernel)) rfl, kgt (List.mem_of_getElem? (i := 26) (by decide +kernel)) rfl, by decide +kernel, by decide⟩, kgt (List.mem_of_getElem? (i := 848) (by decide +kernel)) rfl, kgt (List.mem_of_getElem? (i := 849) (by decide +kernel)) rfl⟩
theorem hy_X6_isOpen : kYV yX6_isOpen cX6_isOpen 2 (some .boolean) 1 := ⟨⟨kgt (List.mem_of_getElem? (i := 702) (by decide +kernel)) rfl, kgt (List.mem_of_getElem? (i := 26) (by decide +kernel)) rfl, by decide +kernel, by decide⟩, kgt (List.mem_of_getElem? (i := 700) (by decide +kernel)) rfl, kgt (List.mem_of_getElem? (i := 701) (by decide +kernel)) rfl⟩
theorem hy_X6_add : kYV yX6_add cX6_add 6 (some .int) 5 := ⟨⟨kgt (List.mem_of_getElem? (i := 833) (by decide +kernel)) rfl, kgt (List.mem_of_getElem? (i := 26) (by decide +kernel)) rfl, by decide +kernel, by decide⟩, kgt (List.mem_of_getElem? (i := 831) (by decide +kernel)) rfl, kgt (List.mem_of_getElem? (i := 832) (by decide +kernel)) rfl⟩
theorem hy_X6_endWeek : kYV yX6_endWeek cX6_endWeek 4 none 2 := ⟨⟨kgt (List.mem_of_getElem? (i := 698) (by decide +kernel)) rfl, kgt (List.mem_of_getElem? (i := 26) (by decide +kernel)) rfl, by decide +kernel, by decide⟩, kgt (List.mem_of_getElem? (i := 696) (by decide +kernel)) rfl, kgt (List.mem_of_getElem? (i := 697) (by decide +kernel)) rfl⟩
theorem hy_X6_countOf : kYV yX6_countOf cX6_countOf 4 (some .int) 1 := ⟨⟨kgt (List.mem_of_getElem? (i := 854) (by decide +kernel)) rfl, kgt (List.mem_of_getElem? (i := 26) (by decide +kernel)) rfl, by decide +kernel, by decide⟩, kgt (List.mem_of_getElem? (i := 852) (by decide +kernel)) rfl, kgt (List.mem_of_getElem? (i := 853) (by decide +kernel)) rfl⟩
theorem hy_X7_areCommandsRead : kYV yX7_areCommandsRead cX7_areCommandsRead 3 (some .boolean) 1 := ⟨⟨kgt (List.mem_of_getElem? (i := 611) (by decide +kernel)) rfl, kgt (List.mem_of_getElem? (i := 31) (by decide +kernel)) rfl, by decide +kernel, by decide⟩, kgt (List.mem_of_getElem? (i := 610) (by decide +kernel)) rfl, kgt (List.mem_of_getElem? (i := 3) (by decide +kernel)) rfl⟩
theorem hy_X7_isCommandRead : kYV yX7_isCommandRead cX7_isCommandRead 4 (some .boolean) 2 := ⟨⟨kgt (List.mem_of_getElem? (i := 623) (by decide +kernel)) rfl, kgt (List.mem_of_getElem? (i := 31) (by decide +kernel)) rfl, by decide +kernel, by decide⟩, kgt (List.mem_of_getElem? (i := 622) (by decide +kernel)) rfl, kgt (List.mem_of_getElem? (i := 4) (by decide +kernel)) rfl⟩
theorem hy_X7_isNumberRead : kYV yX7_isNumberRead cX7_isNumberRead 6 (some .boolean) 4 := ⟨⟨kgt (List.mem_of_getElem? (i := 627) (by decide +kernel)) rfl, kgt (List.mem_of_getElem? (i := 31) (by decide +kernel)) rfl, by decide +kernel, by decide⟩, kgt (List.mem_of_getElem? (i := 626) (by decide +kernel)) rfl, kgt (List.mem_of_getElem? (i := 5) (by decide +kernel)) rfl⟩
theorem hy_X7_kindOf : kYV yX7_kindOf cX7_kindOf 2 (some .int) 1 := ⟨⟨kgt (List.mem_of_getElem? (i := 676) (by decide +kernel)) rfl, kgt (List.mem_of_getElem? (i := 31) (by decide +kernel)) rfl, by decide +kernel, by decide⟩, kgt (List.mem_of_getElem? (i := 674) (by decide +kernel)) rfl, kgt (List.mem_of_getElem? (i := 675) (by decide +kernel)) rfl⟩
theorem hy_X7_numberOf : kYV yX7_numberOf cX7_numberOf 3 (some .int) 2 := ⟨⟨kgt (List.mem_of_getElem? (i := 671) (by decide +kernel)) rfl, kgt (List.mem_of_getElem? (i := 31) (by decide +kernel)) rfl, by decide +kernel, by decide⟩, kgt (List.mem_of_getElem? (i := 669) (by decide +kernel)) rfl, kgt (List.mem_of_getElem? (i := 670) (by decide +kernel)) rfl⟩
theorem hy_X8_refuse : kYV yX8_refuse cX8_refuse 3 (some .int) 2 := ⟨⟨kgt (List.mem_of_getElem? (i := 552) (by decide +kernel)) rfl, kgt (List.mem_of_getElem? (i := 28) (by decide +kernel)) rfl, by decide +kernel, by decide⟩, kgt (List.mem_of_getElem? (i := 550) (by decide +kernel)) rfl, kgt (List.mem_of_getElem? (i := 551) (by decide +kernel)) rfl⟩
theorem hy_X8_putBehind : kYV yX8_putBehind cX8_putBehind 3 none 2 := ⟨⟨kgt (List.mem_of_getElem? (i := 556) (by decide +kernel)) rfl, kgt (List.mem_of_getElem? (i := 28) (by decide +kernel)) rfl, by decide +kernel, by decide⟩, kgt (List.mem_of_getElem? (i := 554) (by decide +kernel)) rfl, kgt (List.mem_of_getElem? (i := 555) (by decide +kernel)) rfl⟩
theorem hy_X9_addScrap : kYV yX9_addScrap cX9_addScrap 3 none 2 := ⟨⟨kgt (List.mem_of_getElem? (i := 760) (by decide +kernel)) rfl, kgt (List.mem_of_getElem? (i := 25) (by decide +kernel)) rfl, by decide +kernel, by decide⟩, kgt (List.mem_of_getElem? (i := 758) (by decide +kernel)) rfl, kgt (List.mem_of_getElem? (i := 759) (by decide +kernel)) rfl⟩
theorem hy_X9_addPieces : kYV yX9_addPieces cX9_addPieces 6 none 4 := ⟨⟨kgt (List.mem_of_getElem? (i := 764) (by decide +kernel)) rfl, kgt (List.mem_of_getElem? (i := 25) (by decide +kernel)) rfl, by decide +kernel, by decide⟩, kgt (List.mem_of_getElem? (i := 762) (by decide +kernel)) rfl, kgt (List.mem_of_getElem? (i := 763) (by decide +kernel)) rfl⟩
theorem hy_X9_isDelivered : kYV yX9_isDelivered cX9_isDelivered 5 (some .boolean) 3 := ⟨⟨kgt (List.mem_of_getElem? (i := 706) (by decide +kernel)) rfl, kgt (List.mem_of_getElem? (i := 25) (by decide +kernel)) rfl, by decide +kernel, by decide⟩, kgt (List.mem_of_getElem? (i := 704) (by decide +kernel)) rfl, kgt (List.mem_of_getElem? (i := 705) (by decide +kernel)) rfl⟩
theorem hy_X10_start : kYV yX10_start cX10_start 1 none 0 := ⟨⟨kgt (List.mem_of_getElem? (i := 607) (by decide +kernel)) rfl, kgt (List.mem_of_getElem? (i := 29) (by decide +kernel)) rfl, by decide +kernel, by decide⟩, kgt (List.mem_of_getElem? (i := 605) (by decide +kernel)) rfl, kgt (List.mem_of_getElem? (i := 606) (by decide +kernel)) rfl⟩
theorem hy_X10_isAtEnd : kYV yX10_isAtEnd cX10_isAtEnd 1 (some .boolean) 0 := ⟨⟨kgt (List.mem_of_getElem? (i := 619) (by decide +kernel)) rfl, kgt (List.mem_of_getElem? (i := 29) (by decide +kernel)) rfl, by decide +kernel, by decide⟩, kgt (List.mem_of_getElem? (i := 617) (by decide +kernel)) rfl, kgt (List.mem_of_getElem? (i := 618) (by decide +kernel)) rfl⟩
theorem hy_X10_skip : kYV yX10_skip cX10_skip 2 (some .boolean) 1 := ⟨⟨kgt (List.mem_of_getElem? (i := 615) (by decide +kernel)) rfl, kgt (List.mem_of_getElem? (i := 29) (by decide +kernel)) rfl, by decide +kernel, by decide⟩, kgt (List.mem_of_getElem? (i := 613) (by decide +kernel)) rfl, kgt (List.mem_of_getElem? (i := 614) (by decide +kernel)) rfl⟩
theorem hy_X10_number : kYV yX10_number cX10_number 4 (some .int) 1 := ⟨⟨kgt (List.mem_of_getElem? (i := 631) (by decide +kernel)) rfl, kgt (List.mem_of_getElem? (i := 29) (by decide +kernel)) rfl, by decide +kernel, by decide⟩, kgt (List.mem_of_getElem? (i := 629) (by decide +kernel)) rfl, kgt (List.mem_of_getElem? (i := 630) (by decide +kernel)) rfl⟩
theorem hy_X10_isAtDigit : kYV yX10_isAtDigit cX10_isAtDigit 1 (some .boolean) 0 := ⟨⟨kgt (List.mem_of_getElem? (i := 635) (by decide +kernel)) rfl, kgt (List.mem_of_getElem? (i := 29) (by decide +kernel)) rfl, by decide +kernel, by decide⟩, kgt (List.mem_of_getElem? (i := 634) (by decide +kernel)) rfl, kgt (List.mem_of_getElem? (i := 6) (by decide +kernel)) rfl⟩
theorem hy_X10_end : kYV yX10_end cX10_end 2 (some .boolean) 1 := ⟨⟨kgt (List.mem_of_getElem? (i := 643) (by decide +kernel)) rfl, kgt (List.mem_of_getElem? (i := 29) (by decide +kernel)) rfl, by decide +kernel, by decide⟩, kgt (List.mem_of_getElem? (i := 641) (by decide +kernel)) rfl, kgt (List.mem_of_getElem? (i := 642) (by decide +kernel)) rfl⟩
theorem hy_X11_isWithin : kYS yX11_isWithin cX11_isWithin 3 (some .boolean) 3 := ⟨⟨kgt (List.mem_of_getElem? (i := 548) (by decide +kernel)) rfl, kgt (List.mem_of_getElem? (i := 21) (by decide +kernel)) rfl, by decide +kernel, by decide⟩, kgt (List.mem_of_getElem? (i := 547) (by decide +kernel)) rfl⟩
