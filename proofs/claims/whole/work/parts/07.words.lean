/-! the words of the tables -/
theorem kin_X0 : ∀ z ∈ u_ws RX0 TX0 9, z ∈ kGT := kgt_all (by decide +kernel)
theorem kin_X1 : ∀ z ∈ u_ws RX1 TX1 2, z ∈ kGT := kgt_all (by decide +kernel)
theorem kin_X2 : ∀ z ∈ u_ws RX2 TX2 3, z ∈ kGT := kgt_all (by decide +kernel)
theorem kin_X3 : ∀ z ∈ u_ws RX3 TX3 5, z ∈ kGT := kgt_all (by decide +kernel)
theorem kin_X4 : ∀ z ∈ u_ws RX4 TX4 12, z ∈ kGT := kgt_all (by decide +kernel)
theorem kin_X5 : ∀ z ∈ u_ws RX5 TX5 3, z ∈ kGT := kgt_all (by decide +kernel)
theorem kin_X6 : ∀ z ∈ u_ws RX6 TX6 7, z ∈ kGT := kgt_all (by decide +kernel)
theorem kin_X7 : ∀ z ∈ u_ws RX7 TX7 3, z ∈ kGT := kgt_all (by decide +kernel)
theorem kin_X8 : ∀ z ∈ u_ws RX8 TX8 3, z ∈ kGT := kgt_all (by decide +kernel)
theorem kin_X9 : ∀ z ∈ u_ws RX9 TX9 5, z ∈ kGT := kgt_all (by decide +kernel)
theorem kin_X10 : ∀ z ∈ u_ws RX10 TX10 4, z ∈ kGT := kgt_all (by decide +kernel)
theorem kin_X11 : ∀ z ∈ u_ws RX11 TX11 9, z ∈ kGT := kgt_all (by decide +kernel)
theorem kin_X12 : ∀ z ∈ u_ws RX12 TX12 19, z ∈ kGT := kgt_all (by decide +kernel)
theorem wf_X11_12 : Cond.fieldLink RX11 12 "MouldFloor" "floor" "LMouldFloor$Floor;" ∈ kGT := kgt (List.mem_of_getElem? (i := 399) (by decide +kernel)) rfl
theorem wf_X11_29 : Cond.fieldLink RX11 29 "MouldFloor" "reasons" "LMouldFloor$Reasons;" ∈ kGT := kgt (List.mem_of_getElem? (i := 402) (by decide +kernel)) rfl
theorem wf_X11_36 : Cond.fieldLink RX11 36 "MouldFloor" "text" "LMouldFloor$Text;" ∈ kGT := kgt (List.mem_of_getElem? (i := 403) (by decide +kernel)) rfl
theorem wf_X11_50 : Cond.fieldLink RX11 50 "MouldFloor" "programText" "LMouldFloor$ProgramText;" ∈ kGT := kgt (List.mem_of_getElem? (i := 405) (by decide +kernel)) rfl
theorem wf_X11_134 : Cond.fieldLink RX11 134 "MouldFloor$Text" "fault" "I" ∈ kGT := kgt (List.mem_of_getElem? (i := 334) (by decide +kernel)) rfl
theorem wf_X0_9 : Cond.fieldLink RX0 9 "MouldFloor$Catalogue" "shades" "[I" ∈ kGT := kgt (List.mem_of_getElem? (i := 113) (by decide +kernel)) rfl
theorem wf_X0_15 : Cond.fieldLink RX0 15 "MouldFloor$Catalogue" "crateSizes" "[I" ∈ kGT := kgt (List.mem_of_getElem? (i := 114) (by decide +kernel)) rfl
theorem wf_X0_18 : Cond.fieldLink RX0 18 "MouldFloor$Catalogue" "cycles" "[I" ∈ kGT := kgt (List.mem_of_getElem? (i := 117) (by decide +kernel)) rfl
theorem wf_X0_21 : Cond.fieldLink RX0 21 "MouldFloor$Catalogue" "weights" "[I" ∈ kGT := kgt (List.mem_of_getElem? (i := 120) (by decide +kernel)) rfl
theorem wf_X0_24 : Cond.fieldLink RX0 24 "MouldFloor$Catalogue" "piecesOfShot" "[I" ∈ kGT := kgt (List.mem_of_getElem? (i := 123) (by decide +kernel)) rfl
theorem wf_X0_27 : Cond.fieldLink RX0 27 "MouldFloor$Catalogue" "settings" "[I" ∈ kGT := kgt (List.mem_of_getElem? (i := 124) (by decide +kernel)) rfl
theorem wf_X0_30 : Cond.fieldLink RX0 30 "MouldFloor$Catalogue" "colourCount" "I" ∈ kGT := kgt (List.mem_of_getElem? (i := 106) (by decide +kernel)) rfl
theorem wf_X0_34 : Cond.fieldLink RX0 34 "MouldFloor$Catalogue" "partCount" "I" ∈ kGT := kgt (List.mem_of_getElem? (i := 108) (by decide +kernel)) rfl
theorem wf_X0_37 : Cond.fieldLink RX0 37 "MouldFloor$Catalogue" "familyCount" "I" ∈ kGT := kgt (List.mem_of_getElem? (i := 111) (by decide +kernel)) rfl
theorem wf_X0_71 : Cond.fieldLink RX0 71 "MouldFloor$FamilyText" "cycle" "I" ∈ kGT := kgt (List.mem_of_getElem? (i := 355) (by decide +kernel)) rfl
theorem wf_X0_74 : Cond.fieldLink RX0 74 "MouldFloor$FamilyText" "weight" "I" ∈ kGT := kgt (List.mem_of_getElem? (i := 357) (by decide +kernel)) rfl
theorem wf_X1_11 : Cond.fieldLink RX1 11 "MouldFloor$ColourOrders" "purges" "[I" ∈ kGT := kgt (List.mem_of_getElem? (i := 392) (by decide +kernel)) rfl
theorem wf_X1_15 : Cond.fieldLink RX1 15 "MouldFloor$ColourOrders" "sums" "[I" ∈ kGT := kgt (List.mem_of_getElem? (i := 393) (by decide +kernel)) rfl
theorem wf_X1_18 : Cond.fieldLink RX1 18 "MouldFloor$Floor" "catalogue" "LMouldFloor$Catalogue;" ∈ kGT := kgt (List.mem_of_getElem? (i := 235) (by decide +kernel)) rfl
theorem wf_X1_28 : Cond.fieldLink RX1 28 "MouldFloor$Floor" "colour" "I" ∈ kGT := kgt (List.mem_of_getElem? (i := 249) (by decide +kernel)) rfl
theorem wf_X2_9 : Cond.fieldLink RX2 9 "MouldFloor$Dryers" "colours" "[I" ∈ kGT := kgt (List.mem_of_getElem? (i := 153) (by decide +kernel)) rfl
theorem wf_X2_15 : Cond.fieldLink RX2 15 "MouldFloor$Dryers" "grams" "[I" ∈ kGT := kgt (List.mem_of_getElem? (i := 155) (by decide +kernel)) rfl
theorem wf_X2_18 : Cond.fieldLink RX2 18 "MouldFloor$Dryers" "dried" "[I" ∈ kGT := kgt (List.mem_of_getElem? (i := 158) (by decide +kernel)) rfl
theorem wf_X3_9 : Cond.fieldLink RX3 9 "MouldFloor$FamilyText" "parts" "[I" ∈ kGT := kgt (List.mem_of_getElem? (i := 351) (by decide +kernel)) rfl
theorem wf_X3_15 : Cond.fieldLink RX3 15 "MouldFloor$FamilyText" "pieces" "[I" ∈ kGT := kgt (List.mem_of_getElem? (i := 352) (by decide +kernel)) rfl
theorem wf_X3_37 : Cond.fieldLink RX3 37 "MouldFloor$FamilyText" "count" "I" ∈ kGT := kgt (List.mem_of_getElem? (i := 353) (by decide +kernel)) rfl
theorem wf_X3_45 : Cond.fieldLink RX3 45 "MouldFloor$FamilyText" "cycle" "I" ∈ kGT := kgt (List.mem_of_getElem? (i := 354) (by decide +kernel)) rfl
theorem wf_X3_52 : Cond.fieldLink RX3 52 "MouldFloor$FamilyText" "weight" "I" ∈ kGT := kgt (List.mem_of_getElem? (i := 356) (by decide +kernel)) rfl
theorem wf_X4_12 : Cond.fieldLink RX4 12 "MouldFloor$Floor" "catalogue" "LMouldFloor$Catalogue;" ∈ kGT := kgt (List.mem_of_getElem? (i := 234) (by decide +kernel)) rfl
theorem wf_X4_21 : Cond.fieldLink RX4 21 "MouldFloor$Floor" "dryers" "LMouldFloor$Dryers;" ∈ kGT := kgt (List.mem_of_getElem? (i := 237) (by decide +kernel)) rfl
theorem wf_X4_28 : Cond.fieldLink RX4 28 "MouldFloor$Floor" "stock" "LMouldFloor$Stock;" ∈ kGT := kgt (List.mem_of_getElem? (i := 239) (by decide +kernel)) rfl
theorem wf_X4_35 : Cond.fieldLink RX4 35 "MouldFloor$Floor" "orders" "LMouldFloor$Orders;" ∈ kGT := kgt (List.mem_of_getElem? (i := 241) (by decide +kernel)) rfl
theorem wf_X4_39 : Cond.fieldLink RX4 39 "MouldFloor$Floor" "colour" "I" ∈ kGT := kgt (List.mem_of_getElem? (i := 248) (by decide +kernel)) rfl
theorem wf_X4_43 : Cond.fieldLink RX4 43 "MouldFloor$Floor" "mounted" "I" ∈ kGT := kgt (List.mem_of_getElem? (i := 251) (by decide +kernel)) rfl
theorem wf_X4_59 : Cond.fieldLink RX4 59 "MouldFloor$Floor" "now" "I" ∈ kGT := kgt (List.mem_of_getElem? (i := 243) (by decide +kernel)) rfl
theorem wf_X4_62 : Cond.fieldLink RX4 62 "MouldFloor$Floor" "week" "I" ∈ kGT := kgt (List.mem_of_getElem? (i := 245) (by decide +kernel)) rfl
theorem wf_X4_65 : Cond.fieldLink RX4 65 "MouldFloor$Floor" "minutesOfWeek" "I" ∈ kGT := kgt (List.mem_of_getElem? (i := 247) (by decide +kernel)) rfl
theorem wf_X4_68 : Cond.fieldLink RX4 68 "MouldFloor$Floor" "gramsTaken" "I" ∈ kGT := kgt (List.mem_of_getElem? (i := 253) (by decide +kernel)) rfl
theorem wf_X4_71 : Cond.fieldLink RX4 71 "MouldFloor$Floor" "shotsOfRuns" "I" ∈ kGT := kgt (List.mem_of_getElem? (i := 255) (by decide +kernel)) rfl
theorem wf_X4_74 : Cond.fieldLink RX4 74 "MouldFloor$Floor" "shotsOfPurges" "I" ∈ kGT := kgt (List.mem_of_getElem? (i := 257) (by decide +kernel)) rfl
theorem wf_X4_87 : Cond.fieldLink RX4 87 "MouldFloor$Catalogue" "settings" "[I" ∈ kGT := kgt (List.mem_of_getElem? (i := 125) (by decide +kernel)) rfl
theorem wf_X4_116 : Cond.fieldLink RX4 116 "MouldFloor$Catalogue" "weights" "[I" ∈ kGT := kgt (List.mem_of_getElem? (i := 121) (by decide +kernel)) rfl
theorem wf_X4_131 : Cond.fieldLink RX4 131 "MouldFloor$Catalogue" "cycles" "[I" ∈ kGT := kgt (List.mem_of_getElem? (i := 118) (by decide +kernel)) rfl
theorem wf_X4_146 : Cond.fieldLink RX4 146 "MouldFloor$Dryers" "grams" "[I" ∈ kGT := kgt (List.mem_of_getElem? (i := 156) (by decide +kernel)) rfl
theorem wf_X4_149 : Cond.fieldLink RX4 149 "MouldFloor$Catalogue" "partCount" "I" ∈ kGT := kgt (List.mem_of_getElem? (i := 109) (by decide +kernel)) rfl
theorem wf_X4_158 : Cond.fieldLink RX4 158 "MouldFloor$Catalogue" "crateSizes" "[I" ∈ kGT := kgt (List.mem_of_getElem? (i := 115) (by decide +kernel)) rfl
theorem wf_X4_178 : Cond.fieldLink RX4 178 "MouldFloor$Orders" "parts" "[I" ∈ kGT := kgt (List.mem_of_getElem? (i := 205) (by decide +kernel)) rfl
theorem wf_X4_181 : Cond.fieldLink RX4 181 "MouldFloor$Orders" "colours" "[I" ∈ kGT := kgt (List.mem_of_getElem? (i := 208) (by decide +kernel)) rfl
theorem wf_X4_184 : Cond.fieldLink RX4 184 "MouldFloor$Orders" "crates" "[I" ∈ kGT := kgt (List.mem_of_getElem? (i := 211) (by decide +kernel)) rfl
theorem wf_X4_187 : Cond.fieldLink RX4 187 "MouldFloor$Stock" "closed" "[I" ∈ kGT := kgt (List.mem_of_getElem? (i := 174) (by decide +kernel)) rfl
theorem wf_X4_190 : Cond.fieldLink RX4 190 "MouldFloor$Stock" "open" "[I" ∈ kGT := kgt (List.mem_of_getElem? (i := 177) (by decide +kernel)) rfl
theorem wf_X5_26 : Cond.fieldLink RX5 26 "MouldFloor$History" "count" "I" ∈ kGT := kgt (List.mem_of_getElem? (i := 295) (by decide +kernel)) rfl
theorem wf_X5_30 : Cond.fieldLink RX5 30 "MouldFloor$History" "oldest" "I" ∈ kGT := kgt (List.mem_of_getElem? (i := 294) (by decide +kernel)) rfl
theorem wf_X6_9 : Cond.fieldLink RX6 9 "MouldFloor$Orders" "parts" "[I" ∈ kGT := kgt (List.mem_of_getElem? (i := 204) (by decide +kernel)) rfl
theorem wf_X6_15 : Cond.fieldLink RX6 15 "MouldFloor$Orders" "colours" "[I" ∈ kGT := kgt (List.mem_of_getElem? (i := 207) (by decide +kernel)) rfl
theorem wf_X6_18 : Cond.fieldLink RX6 18 "MouldFloor$Orders" "crates" "[I" ∈ kGT := kgt (List.mem_of_getElem? (i := 210) (by decide +kernel)) rfl
theorem wf_X6_21 : Cond.fieldLink RX6 21 "MouldFloor$Orders" "weeks" "[I" ∈ kGT := kgt (List.mem_of_getElem? (i := 213) (by decide +kernel)) rfl
theorem wf_X6_24 : Cond.fieldLink RX6 24 "MouldFloor$Orders" "states" "[I" ∈ kGT := kgt (List.mem_of_getElem? (i := 215) (by decide +kernel)) rfl
theorem wf_X6_27 : Cond.fieldLink RX6 27 "MouldFloor$Orders" "lateWeeks" "[I" ∈ kGT := kgt (List.mem_of_getElem? (i := 217) (by decide +kernel)) rfl
theorem wf_X6_30 : Cond.fieldLink RX6 30 "MouldFloor$Orders" "count" "I" ∈ kGT := kgt (List.mem_of_getElem? (i := 202) (by decide +kernel)) rfl
theorem wf_X7_11 : Cond.fieldLink RX7 11 "MouldFloor$ProgramText" "kinds" "[I" ∈ kGT := kgt (List.mem_of_getElem? (i := 375) (by decide +kernel)) rfl
theorem wf_X7_15 : Cond.fieldLink RX7 15 "MouldFloor$ProgramText" "numbers" "[I" ∈ kGT := kgt (List.mem_of_getElem? (i := 376) (by decide +kernel)) rfl
theorem wf_X7_23 : Cond.fieldLink RX7 23 "MouldFloor$ProgramText" "count" "I" ∈ kGT := kgt (List.mem_of_getElem? (i := 377) (by decide +kernel)) rfl
theorem wf_X8_9 : Cond.fieldLink RX8 9 "MouldFloor$Reasons" "numbers" "[I" ∈ kGT := kgt (List.mem_of_getElem? (i := 310) (by decide +kernel)) rfl
theorem wf_X8_15 : Cond.fieldLink RX8 15 "MouldFloor$Reasons" "details" "[I" ∈ kGT := kgt (List.mem_of_getElem? (i := 312) (by decide +kernel)) rfl
theorem wf_X8_18 : Cond.fieldLink RX8 18 "MouldFloor$Reasons" "count" "I" ∈ kGT := kgt (List.mem_of_getElem? (i := 314) (by decide +kernel)) rfl
theorem wf_X9_9 : Cond.fieldLink RX9 9 "MouldFloor$Stock" "closed" "[I" ∈ kGT := kgt (List.mem_of_getElem? (i := 173) (by decide +kernel)) rfl
theorem wf_X9_15 : Cond.fieldLink RX9 15 "MouldFloor$Stock" "open" "[I" ∈ kGT := kgt (List.mem_of_getElem? (i := 176) (by decide +kernel)) rfl
theorem wf_X9_18 : Cond.fieldLink RX9 18 "MouldFloor$Stock" "delivered" "[I" ∈ kGT := kgt (List.mem_of_getElem? (i := 179) (by decide +kernel)) rfl
theorem wf_X9_21 : Cond.fieldLink RX9 21 "MouldFloor$Stock" "pieces" "[I" ∈ kGT := kgt (List.mem_of_getElem? (i := 181) (by decide +kernel)) rfl
theorem wf_X9_24 : Cond.fieldLink RX9 24 "MouldFloor$Stock" "scrapPieces" "[I" ∈ kGT := kgt (List.mem_of_getElem? (i := 183) (by decide +kernel)) rfl
theorem wf_X10_9 : Cond.fieldLink RX10 9 "MouldFloor$Text" "characters" "[C" ∈ kGT := kgt (List.mem_of_getElem? (i := 329) (by decide +kernel)) rfl
theorem wf_X10_15 : Cond.fieldLink RX10 15 "MouldFloor$Text" "fault" "I" ∈ kGT := kgt (List.mem_of_getElem? (i := 333) (by decide +kernel)) rfl
theorem wf_X10_19 : Cond.fieldLink RX10 19 "MouldFloor$Text" "length" "I" ∈ kGT := kgt (List.mem_of_getElem? (i := 331) (by decide +kernel)) rfl
theorem wf_X10_22 : Cond.fieldLink RX10 22 "MouldFloor$Text" "next" "I" ∈ kGT := kgt (List.mem_of_getElem? (i := 330) (by decide +kernel)) rfl
theorem wf_X12_9 : Cond.fieldLink RX12 9 "MouldFloorModel" "now" "[I" ∈ kGT := kgt (List.mem_of_getElem? (i := 1315) (by decide +kernel)) rfl
theorem wf_X12_13 : Cond.fieldLink RX12 13 "MouldFloorModel" "tried" "[I" ∈ kGT := kgt (List.mem_of_getElem? (i := 1316) (by decide +kernel)) rfl
theorem wf_X12_16 : Cond.fieldLink RX12 16 "MouldFloorModel" "kept" "[I" ∈ kGT := kgt (List.mem_of_getElem? (i := 1317) (by decide +kernel)) rfl
theorem wf_X12_19 : Cond.fieldLink RX12 19 "MouldFloorModel" "saved" "[I" ∈ kGT := kgt (List.mem_of_getElem? (i := 1319) (by decide +kernel)) rfl
theorem wf_X12_22 : Cond.fieldLink RX12 22 "MouldFloorModel" "text" "[C" ∈ kGT := kgt (List.mem_of_getElem? (i := 1321) (by decide +kernel)) rfl
theorem wf_X12_26 : Cond.fieldLink RX12 26 "MouldFloorModel" "fault" "I" ∈ kGT := kgt (List.mem_of_getElem? (i := 1324) (by decide +kernel)) rfl
theorem wf_X12_30 : Cond.fieldLink RX12 30 "MouldFloorModel" "why" "[I" ∈ kGT := kgt (List.mem_of_getElem? (i := 1326) (by decide +kernel)) rfl
theorem wf_X12_33 : Cond.fieldLink RX12 33 "MouldFloorModel" "more" "[I" ∈ kGT := kgt (List.mem_of_getElem? (i := 1327) (by decide +kernel)) rfl
theorem wf_X12_36 : Cond.fieldLink RX12 36 "MouldFloorModel" "told" "[I" ∈ kGT := kgt (List.mem_of_getElem? (i := 1329) (by decide +kernel)) rfl
theorem wf_X12_39 : Cond.fieldLink RX12 39 "MouldFloorModel" "bestRow" "[I" ∈ kGT := kgt (List.mem_of_getElem? (i := 1331) (by decide +kernel)) rfl
theorem wf_X12_42 : Cond.fieldLink RX12 42 "MouldFloorModel" "row" "[I" ∈ kGT := kgt (List.mem_of_getElem? (i := 1332) (by decide +kernel)) rfl
theorem wf_X12_45 : Cond.fieldLink RX12 45 "MouldFloorModel" "thrown" "I" ∈ kGT := kgt (List.mem_of_getElem? (i := 1333) (by decide +kernel)) rfl
theorem wf_X12_48 : Cond.fieldLink RX12 48 "MouldFloorModel" "undos" "I" ∈ kGT := kgt (List.mem_of_getElem? (i := 1318) (by decide +kernel)) rfl
theorem wf_X12_51 : Cond.fieldLink RX12 51 "MouldFloorModel" "reasons" "I" ∈ kGT := kgt (List.mem_of_getElem? (i := 1325) (by decide +kernel)) rfl
theorem wf_X12_61 : Cond.fieldLink RX12 61 "MouldFloorModel" "answer" "I" ∈ kGT := kgt (List.mem_of_getElem? (i := 1328) (by decide +kernel)) rfl
theorem wf_X12_128 : Cond.fieldLink RX12 128 "MouldFloorModel" "length" "I" ∈ kGT := kgt (List.mem_of_getElem? (i := 1322) (by decide +kernel)) rfl
theorem wf_X12_169 : Cond.fieldLink RX12 169 "MouldFloorModel" "at" "I" ∈ kGT := kgt (List.mem_of_getElem? (i := 1323) (by decide +kernel)) rfl
theorem wf_X12_195 : Cond.fieldLink RX12 195 "MouldFloorModel" "bestSum" "I" ∈ kGT := kgt (List.mem_of_getElem? (i := 1330) (by decide +kernel)) rfl
theorem wf_X12_213 : Cond.fieldLink RX12 213 "MouldFloorModel" "isSaved" "Z" ∈ kGT := kgt (List.mem_of_getElem? (i := 1320) (by decide +kernel)) rfl
theorem wc_X1_44 : Cond.constant RX1 44 1000000 ∈ kGT := kgt (List.mem_of_getElem? (i := 1044) (by decide +kernel)) rfl
theorem wc_X2_25 : Cond.constant RX2 25 99999 ∈ kGT := kgt (List.mem_of_getElem? (i := 853) (by decide +kernel)) rfl
theorem wc_X12_98 : Cond.constant RX12 98 99999 ∈ kGT := kgt (List.mem_of_getElem? (i := 1462) (by decide +kernel)) rfl
theorem wc_J6_265 : Cond.constant RJ6 265 1431655765 ∈ kGT := kgt (List.mem_of_getElem? (i := 1075) (by decide +kernel)) rfl
theorem wc_J6_266 : Cond.constant RJ6 266 858993459 ∈ kGT := kgt (List.mem_of_getElem? (i := 1076) (by decide +kernel)) rfl
theorem wc_J6_267 : Cond.constant RJ6 267 252645135 ∈ kGT := kgt (List.mem_of_getElem? (i := 1077) (by decide +kernel)) rfl
theorem wm_X11_137 : Cond.methodLink RX11 137 yX4_mountFamily ∈ kGT := kgt (List.mem_of_getElem? (i := 757) (by decide +kernel)) rfl
theorem wm_X11_140 : Cond.methodLink RX11 140 yX4_loadDryer ∈ kGT := kgt (List.mem_of_getElem? (i := 845) (by decide +kernel)) rfl
theorem wm_X11_153 : Cond.methodLink RX11 153 yX4_waitMinutes ∈ kGT := kgt (List.mem_of_getElem? (i := 841) (by decide +kernel)) rfl
theorem wm_X11_156 : Cond.methodLink RX11 156 yX4_runShots ∈ kGT := kgt (List.mem_of_getElem? (i := 787) (by decide +kernel)) rfl
theorem wm_X11_435 : Cond.methodLink RX11 435 yX7_numberOf ∈ kGT := kgt (List.mem_of_getElem? (i := 748) (by decide +kernel)) rfl
theorem wm_X11_438 : Cond.methodLink RX11 438 yX7_kindOf ∈ kGT := kgt (List.mem_of_getElem? (i := 753) (by decide +kernel)) rfl
theorem wm_X0_48 : Cond.methodLink RX0 48 yX8_refuse ∈ kGT := kgt (List.mem_of_getElem? (i := 575) (by decide +kernel)) rfl
theorem wm_X0_54 : Cond.methodLink RX0 54 yX3_hasZero ∈ kGT := kgt (List.mem_of_getElem? (i := 694) (by decide +kernel)) rfl
theorem wm_X0_60 : Cond.methodLink RX0 60 yX3_highestPart ∈ kGT := kgt (List.mem_of_getElem? (i := 698) (by decide +kernel)) rfl
theorem wm_X0_64 : Cond.methodLink RX0 64 yX0_isPart ∈ kGT := kgt (List.mem_of_getElem? (i := 703) (by decide +kernel)) rfl
theorem wm_X0_68 : Cond.methodLink RX0 68 yX3_partTwice ∈ kGT := kgt (List.mem_of_getElem? (i := 707) (by decide +kernel)) rfl
theorem wm_X0_77 : Cond.methodLink RX0 77 yX3_piecesFor ∈ kGT := kgt (List.mem_of_getElem? (i := 711) (by decide +kernel)) rfl
theorem wm_X0_87 : Cond.methodLink RX0 87 yX0_isColour ∈ kGT := kgt (List.mem_of_getElem? (i := 800) (by decide +kernel)) rfl
theorem wm_X0_95 : Cond.methodLink RX0 95 yX0_isFamily ∈ kGT := kgt (List.mem_of_getElem? (i := 832) (by decide +kernel)) rfl
theorem wm_X0_98 : Cond.methodLink RX0 98 yX0_piecesOf ∈ kGT := kgt (List.mem_of_getElem? (i := 1110) (by decide +kernel)) rfl
theorem wm_X1_24 : Cond.methodLink RX1 24 yX1_fillSums ∈ kGT := kgt (List.mem_of_getElem? (i := 1031) (by decide +kernel)) rfl
theorem wm_X1_32 : Cond.methodLink RX1 32 yX1_fillPurges ∈ kGT := kgt (List.mem_of_getElem? (i := 1035) (by decide +kernel)) rfl
theorem wm_X1_36 : Cond.methodLink RX1 36 yX1_tried ∈ kGT := kgt (List.mem_of_getElem? (i := 1060) (by decide +kernel)) rfl
theorem wm_X1_40 : Cond.methodLink RX1 40 yX1_lowestBest ∈ kGT := kgt (List.mem_of_getElem? (i := 1040) (by decide +kernel)) rfl
theorem wm_X1_45 : Cond.methodLink RX1 45 yX1_sumThrough ∈ kGT := kgt (List.mem_of_getElem? (i := 1045) (by decide +kernel)) rfl
theorem wm_X1_49 : Cond.methodLink RX1 49 yX0_purgeShots ∈ kGT := kgt (List.mem_of_getElem? (i := 1039) (by decide +kernel)) rfl
theorem wm_X2_30 : Cond.methodLink RX2 30 yX8_refuse ∈ kGT := kgt (List.mem_of_getElem? (i := 855) (by decide +kernel)) rfl
theorem wm_X2_36 : Cond.methodLink RX2 36 yX2_take ∈ kGT := kgt (List.mem_of_getElem? (i := 891) (by decide +kernel)) rfl
theorem wm_X3_18 : Cond.methodLink RX3 18 yX10_start ∈ kGT := kgt (List.mem_of_getElem? (i := 630) (by decide +kernel)) rfl
theorem wm_X3_23 : Cond.methodLink RX3 23 yX3_isHeadRead ∈ kGT := kgt (List.mem_of_getElem? (i := 634) (by decide +kernel)) rfl
theorem wm_X3_27 : Cond.methodLink RX3 27 yX3_isPartRead ∈ kGT := kgt (List.mem_of_getElem? (i := 657) (by decide +kernel)) rfl
theorem wm_X3_30 : Cond.methodLink RX3 30 yX3_isTailRead ∈ kGT := kgt (List.mem_of_getElem? (i := 661) (by decide +kernel)) rfl
theorem wm_X3_33 : Cond.methodLink RX3 33 yX10_end ∈ kGT := kgt (List.mem_of_getElem? (i := 666) (by decide +kernel)) rfl
theorem wm_X3_41 : Cond.methodLink RX3 41 yX10_number ∈ kGT := kgt (List.mem_of_getElem? (i := 638) (by decide +kernel)) rfl
theorem wm_X3_48 : Cond.methodLink RX3 48 yX10_skip ∈ kGT := kgt (List.mem_of_getElem? (i := 649) (by decide +kernel)) rfl
theorem wm_X3_55 : Cond.methodLink RX3 55 yX10_isAtEnd ∈ kGT := kgt (List.mem_of_getElem? (i := 665) (by decide +kernel)) rfl
theorem wm_X4_77 : Cond.methodLink RX4 77 yX0_isFamily ∈ kGT := kgt (List.mem_of_getElem? (i := 761) (by decide +kernel)) rfl
theorem wm_X4_81 : Cond.methodLink RX4 81 yX8_refuse ∈ kGT := kgt (List.mem_of_getElem? (i := 765) (by decide +kernel)) rfl
theorem wm_X4_91 : Cond.methodLink RX4 91 yX4_pass ∈ kGT := kgt (List.mem_of_getElem? (i := 766) (by decide +kernel)) rfl
theorem wm_X4_99 : Cond.methodLink RX4 99 yX0_isColour ∈ kGT := kgt (List.mem_of_getElem? (i := 791) (by decide +kernel)) rfl
theorem wm_X4_102 : Cond.methodLink RX4 102 yX2_fill ∈ kGT := kgt (List.mem_of_getElem? (i := 849) (by decide +kernel)) rfl
theorem wm_X4_106 : Cond.methodLink RX4 106 yX0_isPart ∈ kGT := kgt (List.mem_of_getElem? (i := 917) (by decide +kernel)) rfl
theorem wm_X4_109 : Cond.methodLink RX4 109 yX6_add ∈ kGT := kgt (List.mem_of_getElem? (i := 918) (by decide +kernel)) rfl
theorem wm_X4_113 : Cond.methodLink RX4 113 yX0_purgeShots ∈ kGT := kgt (List.mem_of_getElem? (i := 796) (by decide +kernel)) rfl
theorem wm_X4_119 : Cond.methodLink RX4 119 yX2_lowestUsable ∈ kGT := kgt (List.mem_of_getElem? (i := 802) (by decide +kernel)) rfl
theorem wm_X4_123 : Cond.methodLink RX4 123 yX4_refuseForDryers ∈ kGT := kgt (List.mem_of_getElem? (i := 806) (by decide +kernel)) rfl
theorem wm_X4_127 : Cond.methodLink RX4 127 yX2_take ∈ kGT := kgt (List.mem_of_getElem? (i := 820) (by decide +kernel)) rfl
theorem wm_X4_134 : Cond.methodLink RX4 134 yX4_putPieces ∈ kGT := kgt (List.mem_of_getElem? (i := 824) (by decide +kernel)) rfl
theorem wm_X4_137 : Cond.methodLink RX4 137 yX2_lowestWith ∈ kGT := kgt (List.mem_of_getElem? (i := 810) (by decide +kernel)) rfl
theorem wm_X4_140 : Cond.methodLink RX4 140 yX2_lackingMinutes ∈ kGT := kgt (List.mem_of_getElem? (i := 814) (by decide +kernel)) rfl
theorem wm_X4_143 : Cond.methodLink RX4 143 yX8_putBehind ∈ kGT := kgt (List.mem_of_getElem? (i := 819) (by decide +kernel)) rfl
theorem wm_X4_152 : Cond.methodLink RX4 152 yX0_piecesOf ∈ kGT := kgt (List.mem_of_getElem? (i := 828) (by decide +kernel)) rfl
theorem wm_X4_155 : Cond.methodLink RX4 155 yX9_addScrap ∈ kGT := kgt (List.mem_of_getElem? (i := 833) (by decide +kernel)) rfl
theorem wm_X4_161 : Cond.methodLink RX4 161 yX9_addPieces ∈ kGT := kgt (List.mem_of_getElem? (i := 837) (by decide +kernel)) rfl
theorem wm_X4_165 : Cond.methodLink RX4 165 yX2_dry ∈ kGT := kgt (List.mem_of_getElem? (i := 770) (by decide +kernel)) rfl
theorem wm_X4_174 : Cond.methodLink RX4 174 yX6_endWeek ∈ kGT := kgt (List.mem_of_getElem? (i := 775) (by decide +kernel)) rfl
theorem wm_X6_42 : Cond.methodLink RX6 42 yX8_refuse ∈ kGT := kgt (List.mem_of_getElem? (i := 923) (by decide +kernel)) rfl
theorem wm_X6_48 : Cond.methodLink RX6 48 yX6_isOrder ∈ kGT := kgt (List.mem_of_getElem? (i := 935) (by decide +kernel)) rfl
theorem wm_X6_52 : Cond.methodLink RX6 52 yX6_isOpen ∈ kGT := kgt (List.mem_of_getElem? (i := 779) (by decide +kernel)) rfl
theorem wm_X6_55 : Cond.methodLink RX6 55 yX6_countOf ∈ kGT := kgt (List.mem_of_getElem? (i := 939) (by decide +kernel)) rfl
theorem wm_X6_59 : Cond.methodLink RX6 59 yX9_isDelivered ∈ kGT := kgt (List.mem_of_getElem? (i := 783) (by decide +kernel)) rfl
theorem wm_X7_18 : Cond.methodLink RX7 18 yX10_start ∈ kGT := kgt (List.mem_of_getElem? (i := 726) (by decide +kernel)) rfl
theorem wm_X7_27 : Cond.methodLink RX7 27 yX7_areCommandsRead ∈ kGT := kgt (List.mem_of_getElem? (i := 727) (by decide +kernel)) rfl
theorem wm_X7_31 : Cond.methodLink RX7 31 yX10_end ∈ kGT := kgt (List.mem_of_getElem? (i := 742) (by decide +kernel)) rfl
theorem wm_X7_35 : Cond.methodLink RX7 35 yX10_skip ∈ kGT := kgt (List.mem_of_getElem? (i := 731) (by decide +kernel)) rfl
theorem wm_X7_39 : Cond.methodLink RX7 39 yX7_isCommandRead ∈ kGT := kgt (List.mem_of_getElem? (i := 732) (by decide +kernel)) rfl
theorem wm_X7_43 : Cond.methodLink RX7 43 yX10_isAtEnd ∈ kGT := kgt (List.mem_of_getElem? (i := 741) (by decide +kernel)) rfl
theorem wm_X7_47 : Cond.methodLink RX7 47 yX7_isNumberRead ∈ kGT := kgt (List.mem_of_getElem? (i := 736) (by decide +kernel)) rfl
theorem wm_X7_51 : Cond.methodLink RX7 51 yX10_number ∈ kGT := kgt (List.mem_of_getElem? (i := 740) (by decide +kernel)) rfl
theorem wm_X8_22 : Cond.methodLink RX8 22 yX8_putBehind ∈ kGT := kgt (List.mem_of_getElem? (i := 579) (by decide +kernel)) rfl
theorem wm_X10_25 : Cond.methodLink RX10 25 yX10_isAtEnd ∈ kGT := kgt (List.mem_of_getElem? (i := 653) (by decide +kernel)) rfl
theorem wm_X10_29 : Cond.methodLink RX10 29 yX10_isAtDigit ∈ kGT := kgt (List.mem_of_getElem? (i := 642) (by decide +kernel)) rfl
theorem wm_X12_54 : Cond.methodLink RX12 54 yX12_raises ∈ kGT := kgt (List.mem_of_getElem? (i := 1381) (by decide +kernel)) rfl
theorem wm_X12_58 : Cond.methodLink RX12 58 yX12_keeps ∈ kGT := kgt (List.mem_of_getElem? (i := 1412) (by decide +kernel)) rfl
theorem wm_X12_64 : Cond.methodLink RX12 64 yX12_in ∈ kGT := kgt (List.mem_of_getElem? (i := 1397) (by decide +kernel)) rfl
theorem wm_X12_68 : Cond.methodLink RX12 68 yX12_place ∈ kGT := kgt (List.mem_of_getElem? (i := 1444) (by decide +kernel)) rfl
theorem wm_X12_72 : Cond.methodLink RX12 72 yX12_weekEnds ∈ kGT := kgt (List.mem_of_getElem? (i := 1440) (by decide +kernel)) rfl
theorem wm_X12_75 : Cond.methodLink RX12 75 yX12_refuses ∈ kGT := kgt (List.mem_of_getElem? (i := 1400) (by decide +kernel)) rfl
theorem wm_X12_79 : Cond.methodLink RX12 79 yX12_is ∈ kGT := kgt (List.mem_of_getElem? (i := 1404) (by decide +kernel)) rfl
theorem wm_X12_83 : Cond.methodLink RX12 83 yX12_isPart ∈ kGT := kgt (List.mem_of_getElem? (i := 1512) (by decide +kernel)) rfl
theorem wm_X12_86 : Cond.methodLink RX12 86 yX12_isFamily ∈ kGT := kgt (List.mem_of_getElem? (i := 1432) (by decide +kernel)) rfl
theorem wm_X12_89 : Cond.methodLink RX12 89 yX12_passes ∈ kGT := kgt (List.mem_of_getElem? (i := 1436) (by decide +kernel)) rfl
theorem wm_X12_92 : Cond.methodLink RX12 92 yX12_isDryer ∈ kGT := kgt (List.mem_of_getElem? (i := 1455) (by decide +kernel)) rfl
theorem wm_X12_95 : Cond.methodLink RX12 95 yX12_isColour ∈ kGT := kgt (List.mem_of_getElem? (i := 1458) (by decide +kernel)) rfl
theorem wm_X12_99 : Cond.methodLink RX12 99 yX12_becomesEmpty ∈ kGT := kgt (List.mem_of_getElem? (i := 1471) (by decide +kernel)) rfl
theorem wm_X12_108 : Cond.methodLink RX12 108 yX12_purgeOf ∈ kGT := kgt (List.mem_of_getElem? (i := 1491) (by decide +kernel)) rfl
theorem wm_X12_111 : Cond.methodLink RX12 111 yX12_of ∈ kGT := kgt (List.mem_of_getElem? (i := 1496) (by decide +kernel)) rfl
theorem wm_X12_114 : Cond.methodLink RX12 114 yX12_behind ∈ kGT := kgt (List.mem_of_getElem? (i := 1500) (by decide +kernel)) rfl
theorem wm_X12_118 : Cond.methodLink RX12 118 yX12_ordered ∈ kGT := kgt (List.mem_of_getElem? (i := 1528) (by decide +kernel)) rfl
theorem wm_X12_121 : Cond.methodLink RX12 121 yX12_isOrder ∈ kGT := kgt (List.mem_of_getElem? (i := 1524) (by decide +kernel)) rfl
theorem wm_X12_124 : Cond.methodLink RX12 124 yX12_opens ∈ kGT := kgt (List.mem_of_getElem? (i := 1532) (by decide +kernel)) rfl
theorem wm_X12_131 : Cond.methodLink RX12 131 yX12_tries ∈ kGT := kgt (List.mem_of_getElem? (i := 1389) (by decide +kernel)) rfl
theorem wm_X12_134 : Cond.methodLink RX12 134 yX12_doesColour ∈ kGT := kgt (List.mem_of_getElem? (i := 1393) (by decide +kernel)) rfl
theorem wm_X12_137 : Cond.methodLink RX12 137 yX12_ends ∈ kGT := kgt (List.mem_of_getElem? (i := 1408) (by decide +kernel)) rfl
theorem wm_X12_141 : Cond.methodLink RX12 141 yX12_doesPart ∈ kGT := kgt (List.mem_of_getElem? (i := 1420) (by decide +kernel)) rfl
theorem wm_X12_144 : Cond.methodLink RX12 144 yX12_doesMount ∈ kGT := kgt (List.mem_of_getElem? (i := 1428) (by decide +kernel)) rfl
theorem wm_X12_147 : Cond.methodLink RX12 147 yX12_doesLoad ∈ kGT := kgt (List.mem_of_getElem? (i := 1451) (by decide +kernel)) rfl
theorem wm_X12_150 : Cond.methodLink RX12 150 yX12_doesEmpty ∈ kGT := kgt (List.mem_of_getElem? (i := 1467) (by decide +kernel)) rfl
theorem wm_X12_153 : Cond.methodLink RX12 153 yX12_doesPause ∈ kGT := kgt (List.mem_of_getElem? (i := 1479) (by decide +kernel)) rfl
theorem wm_X12_156 : Cond.methodLink RX12 156 yX12_doesRun ∈ kGT := kgt (List.mem_of_getElem? (i := 1487) (by decide +kernel)) rfl
theorem wm_X12_159 : Cond.methodLink RX12 159 yX12_doesOrder ∈ kGT := kgt (List.mem_of_getElem? (i := 1508) (by decide +kernel)) rfl
theorem wm_X12_163 : Cond.methodLink RX12 163 yX12_doesCallOff ∈ kGT := kgt (List.mem_of_getElem? (i := 1520) (by decide +kernel)) rfl
theorem wm_X12_166 : Cond.methodLink RX12 166 yX12_doesSet ∈ kGT := kgt (List.mem_of_getElem? (i := 1540) (by decide +kernel)) rfl
theorem wm_X12_172 : Cond.methodLink RX12 172 yX12_number ∈ kGT := kgt (List.mem_of_getElem? (i := 1552) (by decide +kernel)) rfl
theorem wm_X12_175 : Cond.methodLink RX12 175 yX12_takes ∈ kGT := kgt (List.mem_of_getElem? (i := 1556) (by decide +kernel)) rfl
theorem wm_X12_179 : Cond.methodLink RX12 179 yX12_isFamilyText ∈ kGT := kgt (List.mem_of_getElem? (i := 1548) (by decide +kernel)) rfl
theorem wm_X12_183 : Cond.methodLink RX12 183 yX12_doesFamily ∈ kGT := kgt (List.mem_of_getElem? (i := 1560) (by decide +kernel)) rfl
theorem wm_X12_186 : Cond.methodLink RX12 186 yX12_isCommand ∈ kGT := kgt (List.mem_of_getElem? (i := 1568) (by decide +kernel)) rfl
theorem wm_X12_189 : Cond.methodLink RX12 189 yX12_does ∈ kGT := kgt (List.mem_of_getElem? (i := 1572) (by decide +kernel)) rfl
theorem wm_X12_192 : Cond.methodLink RX12 192 yX12_comesBack ∈ kGT := kgt (List.mem_of_getElem? (i := 1576) (by decide +kernel)) rfl
theorem wm_X12_198 : Cond.methodLink RX12 198 yX12_orders ∈ kGT := kgt (List.mem_of_getElem? (i := 1600) (by decide +kernel)) rfl
theorem wm_X12_202 : Cond.methodLink RX12 202 yX12_isSet ∈ kGT := kgt (List.mem_of_getElem? (i := 1596) (by decide +kernel)) rfl
theorem wm_X12_205 : Cond.methodLink RX12 205 yJ6_bitCount_0f7a4 ∈ kGT := kgt (List.mem_of_getElem? (i := 1612) (by decide +kernel)) rfl
theorem wm_X12_210 : Cond.methodLink RX12 210 yX12_piecesOf ∈ kGT := kgt (List.mem_of_getElem? (i := 1621) (by decide +kernel)) rfl
theorem wm_X0_90 : Cond.methodLink RX0 90 Lib.Math.max.name ∈ kGT := kgt (List.mem_of_getElem? (i := 801) (by decide +kernel)) rfl
theorem wm_X1_54 : Cond.methodLink RX1 54 Lib.Math.min.name ∈ kGT := kgt (List.mem_of_getElem? (i := 1063) (by decide +kernel)) rfl
theorem wm_X2_40 : Cond.methodLink RX2 40 Lib.Math.max.name ∈ kGT := kgt (List.mem_of_getElem? (i := 818) (by decide +kernel)) rfl
theorem wm_X3_59 : Cond.methodLink RX3 59 Lib.Math.max.name ∈ kGT := kgt (List.mem_of_getElem? (i := 702) (by decide +kernel)) rfl
theorem wm_X4_169 : Cond.methodLink RX4 169 Lib.Math.max.name ∈ kGT := kgt (List.mem_of_getElem? (i := 774) (by decide +kernel)) rfl
theorem wm_X8_26 : Cond.methodLink RX8 26 Lib.Math.min.name ∈ kGT := kgt (List.mem_of_getElem? (i := 860) (by decide +kernel)) rfl
theorem wm_X10_32 : Cond.methodLink RX10 32 Lib.Math.max.name ∈ kGT := kgt (List.mem_of_getElem? (i := 646) (by decide +kernel)) rfl
theorem wm_X12_103 : Cond.methodLink RX12 103 Lib.Math.max.name ∈ kGT := kgt (List.mem_of_getElem? (i := 1495) (by decide +kernel)) rfl
theorem hy_X0_isColour : kYV yX0_isColour cX0_isColour 2 (some .boolean) 1 := ⟨⟨kgt (List.mem_of_getElem? (i := 794) (by decide +kernel)) rfl, kgt (List.mem_of_getElem? (i := 61) (by decide +kernel)) rfl, by decide +kernel, by decide⟩, kgt (List.mem_of_getElem? (i := 792) (by decide +kernel)) rfl, kgt (List.mem_of_getElem? (i := 793) (by decide +kernel)) rfl⟩
theorem hy_X0_isPart : kYV yX0_isPart cX0_isPart 2 (some .boolean) 1 := ⟨⟨kgt (List.mem_of_getElem? (i := 706) (by decide +kernel)) rfl, kgt (List.mem_of_getElem? (i := 61) (by decide +kernel)) rfl, by decide +kernel, by decide⟩, kgt (List.mem_of_getElem? (i := 704) (by decide +kernel)) rfl, kgt (List.mem_of_getElem? (i := 705) (by decide +kernel)) rfl⟩
theorem hy_X0_isFamily : kYV yX0_isFamily cX0_isFamily 2 (some .boolean) 1 := ⟨⟨kgt (List.mem_of_getElem? (i := 764) (by decide +kernel)) rfl, kgt (List.mem_of_getElem? (i := 61) (by decide +kernel)) rfl, by decide +kernel, by decide⟩, kgt (List.mem_of_getElem? (i := 762) (by decide +kernel)) rfl, kgt (List.mem_of_getElem? (i := 763) (by decide +kernel)) rfl⟩
theorem hy_X0_purgeShots : kYV yX0_purgeShots cX0_purgeShots 3 (some .int) 2 := ⟨⟨kgt (List.mem_of_getElem? (i := 799) (by decide +kernel)) rfl, kgt (List.mem_of_getElem? (i := 61) (by decide +kernel)) rfl, by decide +kernel, by decide⟩, kgt (List.mem_of_getElem? (i := 797) (by decide +kernel)) rfl, kgt (List.mem_of_getElem? (i := 798) (by decide +kernel)) rfl⟩
theorem hy_X0_piecesOf : kYV yX0_piecesOf cX0_piecesOf 3 (some .int) 2 := ⟨⟨kgt (List.mem_of_getElem? (i := 831) (by decide +kernel)) rfl, kgt (List.mem_of_getElem? (i := 61) (by decide +kernel)) rfl, by decide +kernel, by decide⟩, kgt (List.mem_of_getElem? (i := 829) (by decide +kernel)) rfl, kgt (List.mem_of_getElem? (i := 830) (by decide +kernel)) rfl⟩
theorem hy_X1_lowestBest : kYV yX1_lowestBest cX1_lowestBest 6 (some .int) 2 := ⟨⟨kgt (List.mem_of_getElem? (i := 1043) (by decide +kernel)) rfl, kgt (List.mem_of_getElem? (i := 70) (by decide +kernel)) rfl, by decide +kernel, by decide⟩, kgt (List.mem_of_getElem? (i := 1042) (by decide +kernel)) rfl, kgt (List.mem_of_getElem? (i := 17) (by decide +kernel)) rfl⟩
theorem hy_X1_sumThrough : kYV yX1_sumThrough cX1_sumThrough 4 (some .int) 3 := ⟨⟨kgt (List.mem_of_getElem? (i := 1048) (by decide +kernel)) rfl, kgt (List.mem_of_getElem? (i := 70) (by decide +kernel)) rfl, by decide +kernel, by decide⟩, kgt (List.mem_of_getElem? (i := 1047) (by decide +kernel)) rfl, kgt (List.mem_of_getElem? (i := 18) (by decide +kernel)) rfl⟩
theorem hy_X1_fillPurges : kYV yX1_fillPurges cX1_fillPurges 4 none 1 := ⟨⟨kgt (List.mem_of_getElem? (i := 1038) (by decide +kernel)) rfl, kgt (List.mem_of_getElem? (i := 70) (by decide +kernel)) rfl, by decide +kernel, by decide⟩, kgt (List.mem_of_getElem? (i := 1037) (by decide +kernel)) rfl, kgt (List.mem_of_getElem? (i := 16) (by decide +kernel)) rfl⟩
theorem hy_X1_fillSums : kYV yX1_fillSums cX1_fillSums 5 none 2 := ⟨⟨kgt (List.mem_of_getElem? (i := 1034) (by decide +kernel)) rfl, kgt (List.mem_of_getElem? (i := 70) (by decide +kernel)) rfl, by decide +kernel, by decide⟩, kgt (List.mem_of_getElem? (i := 1033) (by decide +kernel)) rfl, kgt (List.mem_of_getElem? (i := 15) (by decide +kernel)) rfl⟩
theorem hy_X1_tried : kYS yX1_tried cX1_tried 7 (some .int) 4 := ⟨⟨kgt (List.mem_of_getElem? (i := 1062) (by decide +kernel)) rfl, kgt (List.mem_of_getElem? (i := 70) (by decide +kernel)) rfl, by decide +kernel, by decide⟩, kgt (List.mem_of_getElem? (i := 1061) (by decide +kernel)) rfl⟩
theorem hy_X2_fill : kYV yX2_fill cX2_fill 5 (some .int) 4 := ⟨⟨kgt (List.mem_of_getElem? (i := 852) (by decide +kernel)) rfl, kgt (List.mem_of_getElem? (i := 62) (by decide +kernel)) rfl, by decide +kernel, by decide⟩, kgt (List.mem_of_getElem? (i := 850) (by decide +kernel)) rfl, kgt (List.mem_of_getElem? (i := 851) (by decide +kernel)) rfl⟩
theorem hy_X2_take : kYV yX2_take cX2_take 3 none 2 := ⟨⟨kgt (List.mem_of_getElem? (i := 823) (by decide +kernel)) rfl, kgt (List.mem_of_getElem? (i := 62) (by decide +kernel)) rfl, by decide +kernel, by decide⟩, kgt (List.mem_of_getElem? (i := 821) (by decide +kernel)) rfl, kgt (List.mem_of_getElem? (i := 822) (by decide +kernel)) rfl⟩
theorem hy_X2_dry : kYV yX2_dry cX2_dry 3 none 1 := ⟨⟨kgt (List.mem_of_getElem? (i := 773) (by decide +kernel)) rfl, kgt (List.mem_of_getElem? (i := 62) (by decide +kernel)) rfl, by decide +kernel, by decide⟩, kgt (List.mem_of_getElem? (i := 771) (by decide +kernel)) rfl, kgt (List.mem_of_getElem? (i := 772) (by decide +kernel)) rfl⟩
theorem hy_X2_lackingMinutes : kYV yX2_lackingMinutes cX2_lackingMinutes 3 (some .int) 2 := ⟨⟨kgt (List.mem_of_getElem? (i := 817) (by decide +kernel)) rfl, kgt (List.mem_of_getElem? (i := 62) (by decide +kernel)) rfl, by decide +kernel, by decide⟩, kgt (List.mem_of_getElem? (i := 815) (by decide +kernel)) rfl, kgt (List.mem_of_getElem? (i := 816) (by decide +kernel)) rfl⟩
theorem hy_X2_lowestWith : kYV yX2_lowestWith cX2_lowestWith 3 (some .int) 1 := ⟨⟨kgt (List.mem_of_getElem? (i := 813) (by decide +kernel)) rfl, kgt (List.mem_of_getElem? (i := 62) (by decide +kernel)) rfl, by decide +kernel, by decide⟩, kgt (List.mem_of_getElem? (i := 811) (by decide +kernel)) rfl, kgt (List.mem_of_getElem? (i := 812) (by decide +kernel)) rfl⟩
theorem hy_X2_lowestUsable : kYV yX2_lowestUsable cX2_lowestUsable 5 (some .int) 3 := ⟨⟨kgt (List.mem_of_getElem? (i := 805) (by decide +kernel)) rfl, kgt (List.mem_of_getElem? (i := 62) (by decide +kernel)) rfl, by decide +kernel, by decide⟩, kgt (List.mem_of_getElem? (i := 803) (by decide +kernel)) rfl, kgt (List.mem_of_getElem? (i := 804) (by decide +kernel)) rfl⟩
theorem hy_X3_isHeadRead : kYV yX3_isHeadRead cX3_isHeadRead 2 (some .boolean) 1 := ⟨⟨kgt (List.mem_of_getElem? (i := 637) (by decide +kernel)) rfl, kgt (List.mem_of_getElem? (i := 68) (by decide +kernel)) rfl, by decide +kernel, by decide⟩, kgt (List.mem_of_getElem? (i := 636) (by decide +kernel)) rfl, kgt (List.mem_of_getElem? (i := 3) (by decide +kernel)) rfl⟩
theorem hy_X3_isPartRead : kYV yX3_isPartRead cX3_isPartRead 2 (some .boolean) 1 := ⟨⟨kgt (List.mem_of_getElem? (i := 660) (by decide +kernel)) rfl, kgt (List.mem_of_getElem? (i := 68) (by decide +kernel)) rfl, by decide +kernel, by decide⟩, kgt (List.mem_of_getElem? (i := 659) (by decide +kernel)) rfl, kgt (List.mem_of_getElem? (i := 5) (by decide +kernel)) rfl⟩
theorem hy_X3_isTailRead : kYV yX3_isTailRead cX3_isTailRead 3 (some .boolean) 1 := ⟨⟨kgt (List.mem_of_getElem? (i := 664) (by decide +kernel)) rfl, kgt (List.mem_of_getElem? (i := 68) (by decide +kernel)) rfl, by decide +kernel, by decide⟩, kgt (List.mem_of_getElem? (i := 663) (by decide +kernel)) rfl, kgt (List.mem_of_getElem? (i := 6) (by decide +kernel)) rfl⟩
theorem hy_X3_hasZero : kYV yX3_hasZero cX3_hasZero 2 (some .boolean) 0 := ⟨⟨kgt (List.mem_of_getElem? (i := 697) (by decide +kernel)) rfl, kgt (List.mem_of_getElem? (i := 68) (by decide +kernel)) rfl, by decide +kernel, by decide⟩, kgt (List.mem_of_getElem? (i := 695) (by decide +kernel)) rfl, kgt (List.mem_of_getElem? (i := 696) (by decide +kernel)) rfl⟩
theorem hy_X3_highestPart : kYV yX3_highestPart cX3_highestPart 3 (some .int) 0 := ⟨⟨kgt (List.mem_of_getElem? (i := 701) (by decide +kernel)) rfl, kgt (List.mem_of_getElem? (i := 68) (by decide +kernel)) rfl, by decide +kernel, by decide⟩, kgt (List.mem_of_getElem? (i := 699) (by decide +kernel)) rfl, kgt (List.mem_of_getElem? (i := 700) (by decide +kernel)) rfl⟩
theorem hy_X3_partTwice : kYV yX3_partTwice cX3_partTwice 3 (some .int) 0 := ⟨⟨kgt (List.mem_of_getElem? (i := 710) (by decide +kernel)) rfl, kgt (List.mem_of_getElem? (i := 68) (by decide +kernel)) rfl, by decide +kernel, by decide⟩, kgt (List.mem_of_getElem? (i := 708) (by decide +kernel)) rfl, kgt (List.mem_of_getElem? (i := 709) (by decide +kernel)) rfl⟩
theorem hy_X3_piecesFor : kYV yX3_piecesFor cX3_piecesFor 3 (some .int) 1 := ⟨⟨kgt (List.mem_of_getElem? (i := 714) (by decide +kernel)) rfl, kgt (List.mem_of_getElem? (i := 68) (by decide +kernel)) rfl, by decide +kernel, by decide⟩, kgt (List.mem_of_getElem? (i := 712) (by decide +kernel)) rfl, kgt (List.mem_of_getElem? (i := 713) (by decide +kernel)) rfl⟩
theorem hy_X4_mountFamily : kYV yX4_mountFamily cX4_mountFamily 3 (some .int) 2 := ⟨⟨kgt (List.mem_of_getElem? (i := 760) (by decide +kernel)) rfl, kgt (List.mem_of_getElem? (i := 60) (by decide +kernel)) rfl, by decide +kernel, by decide⟩, kgt (List.mem_of_getElem? (i := 758) (by decide +kernel)) rfl, kgt (List.mem_of_getElem? (i := 759) (by decide +kernel)) rfl⟩
theorem hy_X4_loadDryer : kYV yX4_loadDryer cX4_loadDryer 5 (some .int) 4 := ⟨⟨kgt (List.mem_of_getElem? (i := 848) (by decide +kernel)) rfl, kgt (List.mem_of_getElem? (i := 60) (by decide +kernel)) rfl, by decide +kernel, by decide⟩, kgt (List.mem_of_getElem? (i := 846) (by decide +kernel)) rfl, kgt (List.mem_of_getElem? (i := 847) (by decide +kernel)) rfl⟩
theorem hy_X4_waitMinutes : kYV yX4_waitMinutes cX4_waitMinutes 3 (some .int) 2 := ⟨⟨kgt (List.mem_of_getElem? (i := 844) (by decide +kernel)) rfl, kgt (List.mem_of_getElem? (i := 60) (by decide +kernel)) rfl, by decide +kernel, by decide⟩, kgt (List.mem_of_getElem? (i := 842) (by decide +kernel)) rfl, kgt (List.mem_of_getElem? (i := 843) (by decide +kernel)) rfl⟩
theorem hy_X4_runShots : kYV yX4_runShots cX4_runShots 7 (some .int) 3 := ⟨⟨kgt (List.mem_of_getElem? (i := 790) (by decide +kernel)) rfl, kgt (List.mem_of_getElem? (i := 60) (by decide +kernel)) rfl, by decide +kernel, by decide⟩, kgt (List.mem_of_getElem? (i := 788) (by decide +kernel)) rfl, kgt (List.mem_of_getElem? (i := 789) (by decide +kernel)) rfl⟩
theorem hy_X4_refuseForDryers : kYV yX4_refuseForDryers cX4_refuseForDryers 6 (some .int) 3 := ⟨⟨kgt (List.mem_of_getElem? (i := 809) (by decide +kernel)) rfl, kgt (List.mem_of_getElem? (i := 60) (by decide +kernel)) rfl, by decide +kernel, by decide⟩, kgt (List.mem_of_getElem? (i := 808) (by decide +kernel)) rfl, kgt (List.mem_of_getElem? (i := 12) (by decide +kernel)) rfl⟩
theorem hy_X4_putPieces : kYV yX4_putPieces cX4_putPieces 5 none 2 := ⟨⟨kgt (List.mem_of_getElem? (i := 827) (by decide +kernel)) rfl, kgt (List.mem_of_getElem? (i := 60) (by decide +kernel)) rfl, by decide +kernel, by decide⟩, kgt (List.mem_of_getElem? (i := 826) (by decide +kernel)) rfl, kgt (List.mem_of_getElem? (i := 13) (by decide +kernel)) rfl⟩
theorem hy_X4_pass : kYV yX4_pass cX4_pass 5 (some .int) 1 := ⟨⟨kgt (List.mem_of_getElem? (i := 769) (by decide +kernel)) rfl, kgt (List.mem_of_getElem? (i := 60) (by decide +kernel)) rfl, by decide +kernel, by decide⟩, kgt (List.mem_of_getElem? (i := 768) (by decide +kernel)) rfl, kgt (List.mem_of_getElem? (i := 11) (by decide +kernel)) rfl⟩
theorem hy_X6_isOrder : kYV yX6_isOrder cX6_isOrder 2 (some .boolean) 1 := ⟨⟨kgt (List.mem_of_getElem? (i := 938) (by decide +kernel)) rfl, kgt (List.mem_of_getElem? (i := 64) (by decide +kernel)) rfl, by decide +kernel, by decide⟩, kgt (List.mem_of_getElem? (i := 936) (by decide +kernel)) rfl, kgt (List.mem_of_getElem? (i := 937) (by decide +kernel)) rfl⟩
theorem hy_X6_isOpen : kYV yX6_isOpen cX6_isOpen 2 (some .boolean) 1 := ⟨⟨kgt (List.mem_of_getElem? (i := 782) (by decide +kernel)) rfl, kgt (List.mem_of_getElem? (i := 64) (by decide +kernel)) rfl, by decide +kernel, by decide⟩, kgt (List.mem_of_getElem? (i := 780) (by decide +kernel)) rfl, kgt (List.mem_of_getElem? (i := 781) (by decide +kernel)) rfl⟩
theorem hy_X6_add : kYV yX6_add cX6_add 6 (some .int) 5 := ⟨⟨kgt (List.mem_of_getElem? (i := 921) (by decide +kernel)) rfl, kgt (List.mem_of_getElem? (i := 64) (by decide +kernel)) rfl, by decide +kernel, by decide⟩, kgt (List.mem_of_getElem? (i := 919) (by decide +kernel)) rfl, kgt (List.mem_of_getElem? (i := 920) (by decide +kernel)) rfl⟩
theorem hy_X6_endWeek : kYV yX6_endWeek cX6_endWeek 4 none 2 := ⟨⟨kgt (List.mem_of_getElem? (i := 778) (by decide +kernel)) rfl, kgt (List.mem_of_getElem? (i := 64) (by decide +kernel)) rfl, by decide +kernel, by decide⟩, kgt (List.mem_of_getElem? (i := 776) (by decide +kernel)) rfl, kgt (List.mem_of_getElem? (i := 777) (by decide +kernel)) rfl⟩
theorem hy_X6_countOf : kYV yX6_countOf cX6_countOf 4 (some .int) 1 := ⟨⟨kgt (List.mem_of_getElem? (i := 942) (by decide +kernel)) rfl, kgt (List.mem_of_getElem? (i := 64) (by decide +kernel)) rfl, by decide +kernel, by decide⟩, kgt (List.mem_of_getElem? (i := 940) (by decide +kernel)) rfl, kgt (List.mem_of_getElem? (i := 941) (by decide +kernel)) rfl⟩
theorem hy_X7_areCommandsRead : kYV yX7_areCommandsRead cX7_areCommandsRead 3 (some .boolean) 1 := ⟨⟨kgt (List.mem_of_getElem? (i := 730) (by decide +kernel)) rfl, kgt (List.mem_of_getElem? (i := 69) (by decide +kernel)) rfl, by decide +kernel, by decide⟩, kgt (List.mem_of_getElem? (i := 729) (by decide +kernel)) rfl, kgt (List.mem_of_getElem? (i := 7) (by decide +kernel)) rfl⟩
theorem hy_X7_isCommandRead : kYV yX7_isCommandRead cX7_isCommandRead 4 (some .boolean) 2 := ⟨⟨kgt (List.mem_of_getElem? (i := 735) (by decide +kernel)) rfl, kgt (List.mem_of_getElem? (i := 69) (by decide +kernel)) rfl, by decide +kernel, by decide⟩, kgt (List.mem_of_getElem? (i := 734) (by decide +kernel)) rfl, kgt (List.mem_of_getElem? (i := 8) (by decide +kernel)) rfl⟩
theorem hy_X7_isNumberRead : kYV yX7_isNumberRead cX7_isNumberRead 6 (some .boolean) 4 := ⟨⟨kgt (List.mem_of_getElem? (i := 739) (by decide +kernel)) rfl, kgt (List.mem_of_getElem? (i := 69) (by decide +kernel)) rfl, by decide +kernel, by decide⟩, kgt (List.mem_of_getElem? (i := 738) (by decide +kernel)) rfl, kgt (List.mem_of_getElem? (i := 9) (by decide +kernel)) rfl⟩
theorem hy_X7_kindOf : kYV yX7_kindOf cX7_kindOf 2 (some .int) 1 := ⟨⟨kgt (List.mem_of_getElem? (i := 756) (by decide +kernel)) rfl, kgt (List.mem_of_getElem? (i := 69) (by decide +kernel)) rfl, by decide +kernel, by decide⟩, kgt (List.mem_of_getElem? (i := 754) (by decide +kernel)) rfl, kgt (List.mem_of_getElem? (i := 755) (by decide +kernel)) rfl⟩
theorem hy_X7_numberOf : kYV yX7_numberOf cX7_numberOf 3 (some .int) 2 := ⟨⟨kgt (List.mem_of_getElem? (i := 751) (by decide +kernel)) rfl, kgt (List.mem_of_getElem? (i := 69) (by decide +kernel)) rfl, by decide +kernel, by decide⟩, kgt (List.mem_of_getElem? (i := 749) (by decide +kernel)) rfl, kgt (List.mem_of_getElem? (i := 750) (by decide +kernel)) rfl⟩
theorem hy_X8_refuse : kYV yX8_refuse cX8_refuse 3 (some .int) 2 := ⟨⟨kgt (List.mem_of_getElem? (i := 578) (by decide +kernel)) rfl, kgt (List.mem_of_getElem? (i := 66) (by decide +kernel)) rfl, by decide +kernel, by decide⟩, kgt (List.mem_of_getElem? (i := 576) (by decide +kernel)) rfl, kgt (List.mem_of_getElem? (i := 577) (by decide +kernel)) rfl⟩
theorem hy_X8_putBehind : kYV yX8_putBehind cX8_putBehind 3 none 2 := ⟨⟨kgt (List.mem_of_getElem? (i := 582) (by decide +kernel)) rfl, kgt (List.mem_of_getElem? (i := 66) (by decide +kernel)) rfl, by decide +kernel, by decide⟩, kgt (List.mem_of_getElem? (i := 580) (by decide +kernel)) rfl, kgt (List.mem_of_getElem? (i := 581) (by decide +kernel)) rfl⟩
theorem hy_X9_addScrap : kYV yX9_addScrap cX9_addScrap 3 none 2 := ⟨⟨kgt (List.mem_of_getElem? (i := 836) (by decide +kernel)) rfl, kgt (List.mem_of_getElem? (i := 63) (by decide +kernel)) rfl, by decide +kernel, by decide⟩, kgt (List.mem_of_getElem? (i := 834) (by decide +kernel)) rfl, kgt (List.mem_of_getElem? (i := 835) (by decide +kernel)) rfl⟩
theorem hy_X9_addPieces : kYV yX9_addPieces cX9_addPieces 6 none 4 := ⟨⟨kgt (List.mem_of_getElem? (i := 840) (by decide +kernel)) rfl, kgt (List.mem_of_getElem? (i := 63) (by decide +kernel)) rfl, by decide +kernel, by decide⟩, kgt (List.mem_of_getElem? (i := 838) (by decide +kernel)) rfl, kgt (List.mem_of_getElem? (i := 839) (by decide +kernel)) rfl⟩
theorem hy_X9_isDelivered : kYV yX9_isDelivered cX9_isDelivered 5 (some .boolean) 3 := ⟨⟨kgt (List.mem_of_getElem? (i := 786) (by decide +kernel)) rfl, kgt (List.mem_of_getElem? (i := 63) (by decide +kernel)) rfl, by decide +kernel, by decide⟩, kgt (List.mem_of_getElem? (i := 784) (by decide +kernel)) rfl, kgt (List.mem_of_getElem? (i := 785) (by decide +kernel)) rfl⟩
theorem hy_X10_start : kYV yX10_start cX10_start 1 none 0 := ⟨⟨kgt (List.mem_of_getElem? (i := 633) (by decide +kernel)) rfl, kgt (List.mem_of_getElem? (i := 67) (by decide +kernel)) rfl, by decide +kernel, by decide⟩, kgt (List.mem_of_getElem? (i := 631) (by decide +kernel)) rfl, kgt (List.mem_of_getElem? (i := 632) (by decide +kernel)) rfl⟩
theorem hy_X10_isAtEnd : kYV yX10_isAtEnd cX10_isAtEnd 1 (some .boolean) 0 := ⟨⟨kgt (List.mem_of_getElem? (i := 656) (by decide +kernel)) rfl, kgt (List.mem_of_getElem? (i := 67) (by decide +kernel)) rfl, by decide +kernel, by decide⟩, kgt (List.mem_of_getElem? (i := 654) (by decide +kernel)) rfl, kgt (List.mem_of_getElem? (i := 655) (by decide +kernel)) rfl⟩
theorem hy_X10_skip : kYV yX10_skip cX10_skip 2 (some .boolean) 1 := ⟨⟨kgt (List.mem_of_getElem? (i := 652) (by decide +kernel)) rfl, kgt (List.mem_of_getElem? (i := 67) (by decide +kernel)) rfl, by decide +kernel, by decide⟩, kgt (List.mem_of_getElem? (i := 650) (by decide +kernel)) rfl, kgt (List.mem_of_getElem? (i := 651) (by decide +kernel)) rfl⟩
theorem hy_X10_number : kYV yX10_number cX10_number 4 (some .int) 1 := ⟨⟨kgt (List.mem_of_getElem? (i := 641) (by decide +kernel)) rfl, kgt (List.mem_of_getElem? (i := 67) (by decide +kernel)) rfl, by decide +kernel, by decide⟩, kgt (List.mem_of_getElem? (i := 639) (by decide +kernel)) rfl, kgt (List.mem_of_getElem? (i := 640) (by decide +kernel)) rfl⟩
theorem hy_X10_isAtDigit : kYV yX10_isAtDigit cX10_isAtDigit 1 (some .boolean) 0 := ⟨⟨kgt (List.mem_of_getElem? (i := 645) (by decide +kernel)) rfl, kgt (List.mem_of_getElem? (i := 67) (by decide +kernel)) rfl, by decide +kernel, by decide⟩, kgt (List.mem_of_getElem? (i := 644) (by decide +kernel)) rfl, kgt (List.mem_of_getElem? (i := 4) (by decide +kernel)) rfl⟩
theorem hy_X10_end : kYV yX10_end cX10_end 2 (some .boolean) 1 := ⟨⟨kgt (List.mem_of_getElem? (i := 669) (by decide +kernel)) rfl, kgt (List.mem_of_getElem? (i := 67) (by decide +kernel)) rfl, by decide +kernel, by decide⟩, kgt (List.mem_of_getElem? (i := 667) (by decide +kernel)) rfl, kgt (List.mem_of_getElem? (i := 668) (by decide +kernel)) rfl⟩
theorem hy_X11_isWithin : kYS yX11_isWithin cX11_isWithin 3 (some .boolean) 3 := ⟨⟨kgt (List.mem_of_getElem? (i := 574) (by decide +kernel)) rfl, kgt (List.mem_of_getElem? (i := 59) (by decide +kernel)) rfl, by decide +kernel, by decide⟩, kgt (List.mem_of_getElem? (i := 573) (by decide +kernel)) rfl⟩
theorem hy_X12_raises : kYV yX12_raises cX12_raises 2 (some .int) 1 := ⟨⟨kgt (List.mem_of_getElem? (i := 1384) (by decide +kernel)) rfl, kgt (List.mem_of_getElem? (i := 71) (by decide +kernel)) rfl, by decide +kernel, by decide⟩, kgt (List.mem_of_getElem? (i := 1383) (by decide +kernel)) rfl, kgt (List.mem_of_getElem? (i := 20) (by decide +kernel)) rfl⟩
theorem hy_X12_in : kYS yX12_in cX12_in 3 (some .boolean) 3 := ⟨⟨kgt (List.mem_of_getElem? (i := 1399) (by decide +kernel)) rfl, kgt (List.mem_of_getElem? (i := 71) (by decide +kernel)) rfl, by decide +kernel, by decide⟩, kgt (List.mem_of_getElem? (i := 1398) (by decide +kernel)) rfl⟩
theorem hy_X12_tries : kYV yX12_tries cX12_tries 2 none 0 := ⟨⟨kgt (List.mem_of_getElem? (i := 1392) (by decide +kernel)) rfl, kgt (List.mem_of_getElem? (i := 71) (by decide +kernel)) rfl, by decide +kernel, by decide⟩, kgt (List.mem_of_getElem? (i := 1391) (by decide +kernel)) rfl, kgt (List.mem_of_getElem? (i := 21) (by decide +kernel)) rfl⟩
theorem hy_X12_comesBack : kYV yX12_comesBack cX12_comesBack 2 none 0 := ⟨⟨kgt (List.mem_of_getElem? (i := 1579) (by decide +kernel)) rfl, kgt (List.mem_of_getElem? (i := 71) (by decide +kernel)) rfl, by decide +kernel, by decide⟩, kgt (List.mem_of_getElem? (i := 1578) (by decide +kernel)) rfl, kgt (List.mem_of_getElem? (i := 54) (by decide +kernel)) rfl⟩
theorem hy_X12_keeps : kYV yX12_keeps cX12_keeps 2 none 0 := ⟨⟨kgt (List.mem_of_getElem? (i := 1415) (by decide +kernel)) rfl, kgt (List.mem_of_getElem? (i := 71) (by decide +kernel)) rfl, by decide +kernel, by decide⟩, kgt (List.mem_of_getElem? (i := 1414) (by decide +kernel)) rfl, kgt (List.mem_of_getElem? (i := 26) (by decide +kernel)) rfl⟩
theorem hy_X12_refuses : kYV yX12_refuses cX12_refuses 3 (some .boolean) 2 := ⟨⟨kgt (List.mem_of_getElem? (i := 1403) (by decide +kernel)) rfl, kgt (List.mem_of_getElem? (i := 71) (by decide +kernel)) rfl, by decide +kernel, by decide⟩, kgt (List.mem_of_getElem? (i := 1402) (by decide +kernel)) rfl, kgt (List.mem_of_getElem? (i := 23) (by decide +kernel)) rfl⟩
theorem hy_X12_behind : kYV yX12_behind cX12_behind 3 none 2 := ⟨⟨kgt (List.mem_of_getElem? (i := 1503) (by decide +kernel)) rfl, kgt (List.mem_of_getElem? (i := 71) (by decide +kernel)) rfl, by decide +kernel, by decide⟩, kgt (List.mem_of_getElem? (i := 1502) (by decide +kernel)) rfl, kgt (List.mem_of_getElem? (i := 40) (by decide +kernel)) rfl⟩
theorem hy_X12_ends : kYV yX12_ends cX12_ends 2 (some .int) 1 := ⟨⟨kgt (List.mem_of_getElem? (i := 1411) (by decide +kernel)) rfl, kgt (List.mem_of_getElem? (i := 71) (by decide +kernel)) rfl, by decide +kernel, by decide⟩, kgt (List.mem_of_getElem? (i := 1410) (by decide +kernel)) rfl, kgt (List.mem_of_getElem? (i := 25) (by decide +kernel)) rfl⟩
theorem hy_X12_is : kYV yX12_is cX12_is 2 (some .boolean) 1 := ⟨⟨kgt (List.mem_of_getElem? (i := 1407) (by decide +kernel)) rfl, kgt (List.mem_of_getElem? (i := 71) (by decide +kernel)) rfl, by decide +kernel, by decide⟩, kgt (List.mem_of_getElem? (i := 1406) (by decide +kernel)) rfl, kgt (List.mem_of_getElem? (i := 24) (by decide +kernel)) rfl⟩
theorem hy_X12_isColour : kYV yX12_isColour cX12_isColour 2 (some .boolean) 1 := ⟨⟨kgt (List.mem_of_getElem? (i := 1461) (by decide +kernel)) rfl, kgt (List.mem_of_getElem? (i := 71) (by decide +kernel)) rfl, by decide +kernel, by decide⟩, kgt (List.mem_of_getElem? (i := 1460) (by decide +kernel)) rfl, kgt (List.mem_of_getElem? (i := 33) (by decide +kernel)) rfl⟩
theorem hy_X12_isPart : kYV yX12_isPart cX12_isPart 2 (some .boolean) 1 := ⟨⟨kgt (List.mem_of_getElem? (i := 1515) (by decide +kernel)) rfl, kgt (List.mem_of_getElem? (i := 71) (by decide +kernel)) rfl, by decide +kernel, by decide⟩, kgt (List.mem_of_getElem? (i := 1514) (by decide +kernel)) rfl, kgt (List.mem_of_getElem? (i := 42) (by decide +kernel)) rfl⟩
theorem hy_X12_isFamily : kYV yX12_isFamily cX12_isFamily 2 (some .boolean) 1 := ⟨⟨kgt (List.mem_of_getElem? (i := 1435) (by decide +kernel)) rfl, kgt (List.mem_of_getElem? (i := 71) (by decide +kernel)) rfl, by decide +kernel, by decide⟩, kgt (List.mem_of_getElem? (i := 1434) (by decide +kernel)) rfl, kgt (List.mem_of_getElem? (i := 29) (by decide +kernel)) rfl⟩
theorem hy_X12_isDryer : kYS yX12_isDryer cX12_isDryer 1 (some .boolean) 1 := ⟨⟨kgt (List.mem_of_getElem? (i := 1457) (by decide +kernel)) rfl, kgt (List.mem_of_getElem? (i := 71) (by decide +kernel)) rfl, by decide +kernel, by decide⟩, kgt (List.mem_of_getElem? (i := 1456) (by decide +kernel)) rfl⟩
theorem hy_X12_isOrder : kYV yX12_isOrder cX12_isOrder 2 (some .boolean) 1 := ⟨⟨kgt (List.mem_of_getElem? (i := 1527) (by decide +kernel)) rfl, kgt (List.mem_of_getElem? (i := 71) (by decide +kernel)) rfl, by decide +kernel, by decide⟩, kgt (List.mem_of_getElem? (i := 1526) (by decide +kernel)) rfl, kgt (List.mem_of_getElem? (i := 44) (by decide +kernel)) rfl⟩
theorem hy_X12_of : kYV yX12_of cX12_of 3 (some .int) 2 := ⟨⟨kgt (List.mem_of_getElem? (i := 1499) (by decide +kernel)) rfl, kgt (List.mem_of_getElem? (i := 71) (by decide +kernel)) rfl, by decide +kernel, by decide⟩, kgt (List.mem_of_getElem? (i := 1498) (by decide +kernel)) rfl, kgt (List.mem_of_getElem? (i := 39) (by decide +kernel)) rfl⟩
theorem hy_X12_ordered : kYV yX12_ordered cX12_ordered 3 (some .int) 2 := ⟨⟨kgt (List.mem_of_getElem? (i := 1531) (by decide +kernel)) rfl, kgt (List.mem_of_getElem? (i := 71) (by decide +kernel)) rfl, by decide +kernel, by decide⟩, kgt (List.mem_of_getElem? (i := 1530) (by decide +kernel)) rfl, kgt (List.mem_of_getElem? (i := 45) (by decide +kernel)) rfl⟩
theorem hy_X12_place : kYS yX12_place cX12_place 2 (some .int) 2 := ⟨⟨kgt (List.mem_of_getElem? (i := 1446) (by decide +kernel)) rfl, kgt (List.mem_of_getElem? (i := 71) (by decide +kernel)) rfl, by decide +kernel, by decide⟩, kgt (List.mem_of_getElem? (i := 1445) (by decide +kernel)) rfl⟩
theorem hy_X12_weekEnds : kYV yX12_weekEnds cX12_weekEnds 4 none 0 := ⟨⟨kgt (List.mem_of_getElem? (i := 1443) (by decide +kernel)) rfl, kgt (List.mem_of_getElem? (i := 71) (by decide +kernel)) rfl, by decide +kernel, by decide⟩, kgt (List.mem_of_getElem? (i := 1442) (by decide +kernel)) rfl, kgt (List.mem_of_getElem? (i := 31) (by decide +kernel)) rfl⟩
theorem hy_X12_passes : kYV yX12_passes cX12_passes 4 (some .int) 1 := ⟨⟨kgt (List.mem_of_getElem? (i := 1439) (by decide +kernel)) rfl, kgt (List.mem_of_getElem? (i := 71) (by decide +kernel)) rfl, by decide +kernel, by decide⟩, kgt (List.mem_of_getElem? (i := 1438) (by decide +kernel)) rfl, kgt (List.mem_of_getElem? (i := 30) (by decide +kernel)) rfl⟩
theorem hy_X12_doesColour : kYV yX12_doesColour cX12_doesColour 2 (some .boolean) 1 := ⟨⟨kgt (List.mem_of_getElem? (i := 1396) (by decide +kernel)) rfl, kgt (List.mem_of_getElem? (i := 71) (by decide +kernel)) rfl, by decide +kernel, by decide⟩, kgt (List.mem_of_getElem? (i := 1395) (by decide +kernel)) rfl, kgt (List.mem_of_getElem? (i := 22) (by decide +kernel)) rfl⟩
theorem hy_X12_doesPart : kYV yX12_doesPart cX12_doesPart 2 (some .boolean) 1 := ⟨⟨kgt (List.mem_of_getElem? (i := 1423) (by decide +kernel)) rfl, kgt (List.mem_of_getElem? (i := 71) (by decide +kernel)) rfl, by decide +kernel, by decide⟩, kgt (List.mem_of_getElem? (i := 1422) (by decide +kernel)) rfl, kgt (List.mem_of_getElem? (i := 27) (by decide +kernel)) rfl⟩
theorem hy_X12_doesFamily : kYV yX12_doesFamily cX12_doesFamily 5 (some .boolean) 0 := ⟨⟨kgt (List.mem_of_getElem? (i := 1563) (by decide +kernel)) rfl, kgt (List.mem_of_getElem? (i := 71) (by decide +kernel)) rfl, by decide +kernel, by decide⟩, kgt (List.mem_of_getElem? (i := 1562) (by decide +kernel)) rfl, kgt (List.mem_of_getElem? (i := 51) (by decide +kernel)) rfl⟩
theorem hy_X12_doesMount : kYV yX12_doesMount cX12_doesMount 2 (some .boolean) 1 := ⟨⟨kgt (List.mem_of_getElem? (i := 1431) (by decide +kernel)) rfl, kgt (List.mem_of_getElem? (i := 71) (by decide +kernel)) rfl, by decide +kernel, by decide⟩, kgt (List.mem_of_getElem? (i := 1430) (by decide +kernel)) rfl, kgt (List.mem_of_getElem? (i := 28) (by decide +kernel)) rfl⟩
theorem hy_X12_doesLoad : kYV yX12_doesLoad cX12_doesLoad 5 (some .boolean) 3 := ⟨⟨kgt (List.mem_of_getElem? (i := 1454) (by decide +kernel)) rfl, kgt (List.mem_of_getElem? (i := 71) (by decide +kernel)) rfl, by decide +kernel, by decide⟩, kgt (List.mem_of_getElem? (i := 1453) (by decide +kernel)) rfl, kgt (List.mem_of_getElem? (i := 32) (by decide +kernel)) rfl⟩
theorem hy_X12_becomesEmpty : kYV yX12_becomesEmpty cX12_becomesEmpty 2 none 1 := ⟨⟨kgt (List.mem_of_getElem? (i := 1474) (by decide +kernel)) rfl, kgt (List.mem_of_getElem? (i := 71) (by decide +kernel)) rfl, by decide +kernel, by decide⟩, kgt (List.mem_of_getElem? (i := 1473) (by decide +kernel)) rfl, kgt (List.mem_of_getElem? (i := 35) (by decide +kernel)) rfl⟩
theorem hy_X12_doesEmpty : kYV yX12_doesEmpty cX12_doesEmpty 4 (some .boolean) 1 := ⟨⟨kgt (List.mem_of_getElem? (i := 1470) (by decide +kernel)) rfl, kgt (List.mem_of_getElem? (i := 71) (by decide +kernel)) rfl, by decide +kernel, by decide⟩, kgt (List.mem_of_getElem? (i := 1469) (by decide +kernel)) rfl, kgt (List.mem_of_getElem? (i := 34) (by decide +kernel)) rfl⟩
theorem hy_X12_doesPause : kYV yX12_doesPause cX12_doesPause 2 (some .boolean) 1 := ⟨⟨kgt (List.mem_of_getElem? (i := 1482) (by decide +kernel)) rfl, kgt (List.mem_of_getElem? (i := 71) (by decide +kernel)) rfl, by decide +kernel, by decide⟩, kgt (List.mem_of_getElem? (i := 1481) (by decide +kernel)) rfl, kgt (List.mem_of_getElem? (i := 36) (by decide +kernel)) rfl⟩
theorem hy_X12_purgeOf : kYV yX12_purgeOf cX12_purgeOf 3 (some .int) 2 := ⟨⟨kgt (List.mem_of_getElem? (i := 1494) (by decide +kernel)) rfl, kgt (List.mem_of_getElem? (i := 71) (by decide +kernel)) rfl, by decide +kernel, by decide⟩, kgt (List.mem_of_getElem? (i := 1493) (by decide +kernel)) rfl, kgt (List.mem_of_getElem? (i := 38) (by decide +kernel)) rfl⟩
theorem hy_X12_doesRun : kYV yX12_doesRun cX12_doesRun 13 (some .boolean) 2 := ⟨⟨kgt (List.mem_of_getElem? (i := 1490) (by decide +kernel)) rfl, kgt (List.mem_of_getElem? (i := 71) (by decide +kernel)) rfl, by decide +kernel, by decide⟩, kgt (List.mem_of_getElem? (i := 1489) (by decide +kernel)) rfl, kgt (List.mem_of_getElem? (i := 37) (by decide +kernel)) rfl⟩
theorem hy_X12_doesOrder : kYV yX12_doesOrder cX12_doesOrder 6 (some .boolean) 4 := ⟨⟨kgt (List.mem_of_getElem? (i := 1511) (by decide +kernel)) rfl, kgt (List.mem_of_getElem? (i := 71) (by decide +kernel)) rfl, by decide +kernel, by decide⟩, kgt (List.mem_of_getElem? (i := 1510) (by decide +kernel)) rfl, kgt (List.mem_of_getElem? (i := 41) (by decide +kernel)) rfl⟩
theorem hy_X12_opens : kYV yX12_opens cX12_opens 3 (some .int) 0 := ⟨⟨kgt (List.mem_of_getElem? (i := 1535) (by decide +kernel)) rfl, kgt (List.mem_of_getElem? (i := 71) (by decide +kernel)) rfl, by decide +kernel, by decide⟩, kgt (List.mem_of_getElem? (i := 1534) (by decide +kernel)) rfl, kgt (List.mem_of_getElem? (i := 46) (by decide +kernel)) rfl⟩
theorem hy_X12_doesCallOff : kYV yX12_doesCallOff cX12_doesCallOff 2 (some .boolean) 1 := ⟨⟨kgt (List.mem_of_getElem? (i := 1523) (by decide +kernel)) rfl, kgt (List.mem_of_getElem? (i := 71) (by decide +kernel)) rfl, by decide +kernel, by decide⟩, kgt (List.mem_of_getElem? (i := 1522) (by decide +kernel)) rfl, kgt (List.mem_of_getElem? (i := 43) (by decide +kernel)) rfl⟩
theorem hy_X12_doesSet : kYV yX12_doesSet cX12_doesSet 6 (some .boolean) 2 := ⟨⟨kgt (List.mem_of_getElem? (i := 1543) (by decide +kernel)) rfl, kgt (List.mem_of_getElem? (i := 71) (by decide +kernel)) rfl, by decide +kernel, by decide⟩, kgt (List.mem_of_getElem? (i := 1542) (by decide +kernel)) rfl, kgt (List.mem_of_getElem? (i := 47) (by decide +kernel)) rfl⟩
theorem hy_X12_takes : kYV yX12_takes cX12_takes 2 (some .boolean) 1 := ⟨⟨kgt (List.mem_of_getElem? (i := 1559) (by decide +kernel)) rfl, kgt (List.mem_of_getElem? (i := 71) (by decide +kernel)) rfl, by decide +kernel, by decide⟩, kgt (List.mem_of_getElem? (i := 1558) (by decide +kernel)) rfl, kgt (List.mem_of_getElem? (i := 50) (by decide +kernel)) rfl⟩
theorem hy_X12_number : kYV yX12_number cX12_number 5 (some .boolean) 2 := ⟨⟨kgt (List.mem_of_getElem? (i := 1555) (by decide +kernel)) rfl, kgt (List.mem_of_getElem? (i := 71) (by decide +kernel)) rfl, by decide +kernel, by decide⟩, kgt (List.mem_of_getElem? (i := 1554) (by decide +kernel)) rfl, kgt (List.mem_of_getElem? (i := 49) (by decide +kernel)) rfl⟩
theorem hy_X12_isFamilyText : kYV yX12_isFamilyText cX12_isFamilyText 2 (some .boolean) 0 := ⟨⟨kgt (List.mem_of_getElem? (i := 1551) (by decide +kernel)) rfl, kgt (List.mem_of_getElem? (i := 71) (by decide +kernel)) rfl, by decide +kernel, by decide⟩, kgt (List.mem_of_getElem? (i := 1550) (by decide +kernel)) rfl, kgt (List.mem_of_getElem? (i := 48) (by decide +kernel)) rfl⟩
theorem hy_X12_isCommand : kYV yX12_isCommand cX12_isCommand 3 (some .boolean) 1 := ⟨⟨kgt (List.mem_of_getElem? (i := 1571) (by decide +kernel)) rfl, kgt (List.mem_of_getElem? (i := 71) (by decide +kernel)) rfl, by decide +kernel, by decide⟩, kgt (List.mem_of_getElem? (i := 1570) (by decide +kernel)) rfl, kgt (List.mem_of_getElem? (i := 52) (by decide +kernel)) rfl⟩
theorem hy_X12_does : kYV yX12_does cX12_does 2 (some .boolean) 1 := ⟨⟨kgt (List.mem_of_getElem? (i := 1575) (by decide +kernel)) rfl, kgt (List.mem_of_getElem? (i := 71) (by decide +kernel)) rfl, by decide +kernel, by decide⟩, kgt (List.mem_of_getElem? (i := 1574) (by decide +kernel)) rfl, kgt (List.mem_of_getElem? (i := 53) (by decide +kernel)) rfl⟩
theorem hy_X12_orders : kYV yX12_orders cX12_orders 5 none 3 := ⟨⟨kgt (List.mem_of_getElem? (i := 1603) (by decide +kernel)) rfl, kgt (List.mem_of_getElem? (i := 71) (by decide +kernel)) rfl, by decide +kernel, by decide⟩, kgt (List.mem_of_getElem? (i := 1602) (by decide +kernel)) rfl, kgt (List.mem_of_getElem? (i := 56) (by decide +kernel)) rfl⟩
theorem hy_X12_isSet : kYV yX12_isSet cX12_isSet 2 (some .boolean) 1 := ⟨⟨kgt (List.mem_of_getElem? (i := 1599) (by decide +kernel)) rfl, kgt (List.mem_of_getElem? (i := 71) (by decide +kernel)) rfl, by decide +kernel, by decide⟩, kgt (List.mem_of_getElem? (i := 1598) (by decide +kernel)) rfl, kgt (List.mem_of_getElem? (i := 55) (by decide +kernel)) rfl⟩
theorem hy_X12_piecesOf : kYV yX12_piecesOf cX12_piecesOf 4 (some .int) 2 := ⟨⟨kgt (List.mem_of_getElem? (i := 1624) (by decide +kernel)) rfl, kgt (List.mem_of_getElem? (i := 71) (by decide +kernel)) rfl, by decide +kernel, by decide⟩, kgt (List.mem_of_getElem? (i := 1623) (by decide +kernel)) rfl, kgt (List.mem_of_getElem? (i := 57) (by decide +kernel)) rfl⟩
theorem hy_J6_bitCount_0f7a4 : kYS yJ6_bitCount_0f7a4 cJ6_bitCount_0f7a4 1 (some .int) 1 := ⟨⟨kgt (List.mem_of_getElem? (i := 1074) (by decide +kernel)) rfl, kgt (List.mem_of_getElem? (i := 83) (by decide +kernel)) rfl, by decide +kernel, by decide⟩, kgt (List.mem_of_getElem? (i := 1073) (by decide +kernel)) rfl⟩
