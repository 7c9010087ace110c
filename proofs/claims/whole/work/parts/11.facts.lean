/-! the words that the methods need, by their pool entries -/
set_option maxRecDepth 100000 in
theorem FX0_9 : FLD RX0 9 0 0 := ⟨by decide, by decide, Or.inl (gdI (i := 205) (by decide +kernel) rfl)⟩
set_option maxRecDepth 100000 in
theorem FX0_15 : FLD RX0 15 0 1 := ⟨by decide, by decide, Or.inl (gdI (i := 208) (by decide +kernel) rfl)⟩
set_option maxRecDepth 100000 in
theorem FX0_18 : FLD RX0 18 0 2 := ⟨by decide, by decide, Or.inl (gdI (i := 211) (by decide +kernel) rfl)⟩
set_option maxRecDepth 100000 in
theorem FX0_21 : FLD RX0 21 0 3 := ⟨by decide, by decide, Or.inl (gdI (i := 214) (by decide +kernel) rfl)⟩
set_option maxRecDepth 100000 in
theorem FX0_24 : FLD RX0 24 0 4 := ⟨by decide, by decide, Or.inl (gdI (i := 217) (by decide +kernel) rfl)⟩
set_option maxRecDepth 100000 in
theorem FX3_21 : FLD RX3 21 3 0 := ⟨by decide, by decide, Or.inl (gdI (i := 131) (by decide +kernel) rfl)⟩
set_option maxRecDepth 100000 in
theorem FX3_24 : FLD RX3 24 3 1 := ⟨by decide, by decide, Or.inl (gdI (i := 134) (by decide +kernel) rfl)⟩
set_option maxRecDepth 100000 in
theorem FX3_27 : FLD RX3 27 3 2 := ⟨by decide, by decide, Or.inl (gdI (i := 136) (by decide +kernel) rfl)⟩
set_option maxRecDepth 100000 in
theorem FX3_30 : FLD RX3 30 3 3 := ⟨by decide, by decide, Or.inl (gdI (i := 139) (by decide +kernel) rfl)⟩
set_option maxRecDepth 100000 in
theorem FX3_33 : FLD RX3 33 3 4 := ⟨by decide, by decide, Or.inl (gdI (i := 142) (by decide +kernel) rfl)⟩
set_option maxRecDepth 100000 in
theorem FX3_42 : FLD RX3 42 3 5 := ⟨by decide, by decide, Or.inl (gdI (i := 145) (by decide +kernel) rfl)⟩
set_option maxRecDepth 100000 in
theorem FX3_9 : FLD RX3 9 3 6 := ⟨by decide, by decide, Or.inl (gdI (i := 148) (by decide +kernel) rfl)⟩
set_option maxRecDepth 100000 in
theorem FX3_15 : FLD RX3 15 3 7 := ⟨by decide, by decide, Or.inl (gdI (i := 151) (by decide +kernel) rfl)⟩
set_option maxRecDepth 100000 in
theorem FX3_18 : FLD RX3 18 3 8 := ⟨by decide, by decide, Or.inl (gdI (i := 154) (by decide +kernel) rfl)⟩
set_option maxRecDepth 100000 in
theorem FX3_36 : FLD RX3 36 3 9 := ⟨by decide, by decide, Or.inl (gdI (i := 157) (by decide +kernel) rfl)⟩
set_option maxRecDepth 100000 in
theorem FX2_9 : FLD RX2 9 2 0 := ⟨by decide, by decide, Or.inl (gdI (i := 527) (by decide +kernel) rfl)⟩
set_option maxRecDepth 100000 in
theorem FX2_15 : FLD RX2 15 2 1 := ⟨by decide, by decide, Or.inl (gdI (i := 529) (by decide +kernel) rfl)⟩
set_option maxRecDepth 100000 in
theorem FX2_19 : FLD RX2 19 2 2 := ⟨by decide, by decide, Or.inl (gdI (i := 531) (by decide +kernel) rfl)⟩
set_option maxRecDepth 100000 in
theorem FX2_22 : FLD RX2 22 2 3 := ⟨by decide, by decide, Or.inl (gdI (i := 534) (by decide +kernel) rfl)⟩
set_option maxRecDepth 100000 in
theorem FX2_25 : FLD RX2 25 2 4 := ⟨by decide, by decide, Or.inl (gdI (i := 537) (by decide +kernel) rfl)⟩
set_option maxRecDepth 100000 in
theorem FX2_28 : FLD RX2 28 2 5 := ⟨by decide, by decide, Or.inl (gdI (i := 540) (by decide +kernel) rfl)⟩
set_option maxRecDepth 100000 in
theorem FX2_31 : FLD RX2 31 2 6 := ⟨by decide, by decide, Or.inl (gdI (i := 544) (by decide +kernel) rfl)⟩
set_option maxRecDepth 100000 in
theorem MX3_39 : MLK RX3 39 yX3_setOpen := gdI (i := 797) (by decide +kernel) rfl
set_option maxRecDepth 100000 in
theorem YX3_setOpen : MY yX3_setOpen cX3_setOpen 1 none 0 := ⟨gdI (i := 78) (by decide +kernel) rfl, gdI (i := 800) (by decide +kernel) rfl, by decide +kernel, by decide +kernel, by decide +kernel⟩
set_option maxRecDepth 100000 in
theorem IX3_setOpen : Cond.instanceMethod yX3_setOpen ∈ lw_gd := gdI (i := 798) (by decide +kernel) rfl
set_option maxRecDepth 100000 in
theorem SX3_setOpen : Cond.selects yX3_setOpen.cls yX3_setOpen yX3_setOpen ∈ lw_gd := gdI (i := 799) (by decide +kernel) rfl
set_option maxRecDepth 100000 in
theorem MX3_45 : MLK RX3 45 yX3_tripHours := gdI (i := 574) (by decide +kernel) rfl
set_option maxRecDepth 100000 in
theorem YX3_tripHours : MY yX3_tripHours cX3_tripHours 1 (some .int) 0 := ⟨gdI (i := 78) (by decide +kernel) rfl, gdI (i := 486) (by decide +kernel) rfl, by decide +kernel, by decide +kernel, by decide +kernel⟩
set_option maxRecDepth 100000 in
theorem IX3_tripHours : Cond.instanceMethod yX3_tripHours ∈ lw_gd := gdI (i := 484) (by decide +kernel) rfl
set_option maxRecDepth 100000 in
theorem SX3_tripHours : Cond.selects yX3_tripHours.cls yX3_tripHours yX3_tripHours ∈ lw_gd := gdI (i := 485) (by decide +kernel) rfl
set_option maxRecDepth 100000 in
theorem MX3_49 : MLK RX3 49 Lib.Math.min.name := gdI (i := 975) (by decide +kernel) rfl
set_option maxRecDepth 100000 in
theorem MMmina : Cond.static Lib.Math.min.name ∈ lw_gd := gdI (i := 413) (by decide +kernel) rfl
set_option maxRecDepth 100000 in
theorem MMminc : Cond.code Lib.Math.min.name Lib.Math.min.code 2 (some .int) ∈ lw_gd := gdI (i := 414) (by decide +kernel) rfl
set_option maxRecDepth 100000 in
theorem MMi : Cond.initialized "java/lang/Math" ∈ lw_gd := gdI (i := 89) (by decide +kernel) rfl
set_option maxRecDepth 100000 in
theorem FX7_7 : FLD RX7 7 7 0 := ⟨by decide, by decide, Or.inl (gdI (i := 333) (by decide +kernel) rfl)⟩
set_option maxRecDepth 100000 in
theorem FX7_13 : FLD RX7 13 7 1 := ⟨by decide, by decide, Or.inl (gdI (i := 336) (by decide +kernel) rfl)⟩
set_option maxRecDepth 100000 in
theorem FX7_16 : FLD RX7 16 7 2 := ⟨by decide, by decide, Or.inl (gdI (i := 339) (by decide +kernel) rfl)⟩
set_option maxRecDepth 100000 in
theorem FX4_9 : FLD RX4 9 4 0 := ⟨by decide, by decide, Or.inl (gdI (i := 187) (by decide +kernel) rfl)⟩
set_option maxRecDepth 100000 in
theorem FX4_15 : FLD RX4 15 4 1 := ⟨by decide, by decide, Or.inl (gdI (i := 190) (by decide +kernel) rfl)⟩
set_option maxRecDepth 100000 in
theorem FX4_18 : FLD RX4 18 4 2 := ⟨by decide, by decide, Or.inl (gdI (i := 192) (by decide +kernel) rfl)⟩
set_option maxRecDepth 100000 in
theorem MX4_24 : MLK RX4 24 yX2_init := gdI (i := 523) (by decide +kernel) rfl
set_option maxRecDepth 100000 in
theorem YX2_init : MY yX2_init cX2_init 7 none 6 := ⟨gdI (i := 96) (by decide +kernel) rfl, gdI (i := 525) (by decide +kernel) rfl, by decide +kernel, by decide +kernel, by decide +kernel⟩
set_option maxRecDepth 100000 in
theorem IX2_init : Cond.instanceMethod yX2_init ∈ lw_gd := gdI (i := 524) (by decide +kernel) rfl
set_option maxRecDepth 100000 in
theorem FX4_27 : FLD RX4 27 2 0 := ⟨by decide, by decide, Or.inr ⟨"PilotRoster", nwI (i := 528) (by decide +kernel) rfl⟩⟩
set_option maxRecDepth 100000 in
theorem FX4_30 : FLD RX4 30 2 1 := ⟨by decide, by decide, Or.inr ⟨"PilotRoster", nwI (i := 530) (by decide +kernel) rfl⟩⟩
set_option maxRecDepth 100000 in
theorem FX4_33 : FLD RX4 33 2 5 := ⟨by decide, by decide, Or.inr ⟨"PilotRoster", nwI (i := 541) (by decide +kernel) rfl⟩⟩
set_option maxRecDepth 100000 in
theorem FX4_36 : FLD RX4 36 2 6 := ⟨by decide, by decide, Or.inr ⟨"PilotRoster", nwI (i := 545) (by decide +kernel) rfl⟩⟩
set_option maxRecDepth 100000 in
theorem FX4_39 : FLD RX4 39 2 2 := ⟨by decide, by decide, Or.inr ⟨"PilotRoster", nwI (i := 532) (by decide +kernel) rfl⟩⟩
set_option maxRecDepth 100000 in
theorem FX4_42 : FLD RX4 42 2 3 := ⟨by decide, by decide, Or.inr ⟨"PilotRoster", nwI (i := 535) (by decide +kernel) rfl⟩⟩
set_option maxRecDepth 100000 in
theorem FX4_45 : FLD RX4 45 2 4 := ⟨by decide, by decide, Or.inr ⟨"PilotRoster", nwI (i := 538) (by decide +kernel) rfl⟩⟩
set_option maxRecDepth 100000 in
theorem MX4_48 : MLK RX4 48 Lib.Math.min.name := gdI (i := 1005) (by decide +kernel) rfl
set_option maxRecDepth 100000 in
theorem MX4_54 : MLK RX4 54 yX4_legAt := gdI (i := 1042) (by decide +kernel) rfl
set_option maxRecDepth 100000 in
theorem YX4_legAt : MY yX4_legAt cX4_legAt 3 (some (.object "PilotRoster$Leg")) 1 := ⟨gdI (i := 79) (by decide +kernel) rfl, gdI (i := 1017) (by decide +kernel) rfl, by decide +kernel, by decide +kernel, by decide +kernel⟩
set_option maxRecDepth 100000 in
theorem IX4_legAt : Cond.instanceMethod yX4_legAt ∈ lw_gd := gdI (i := 1015) (by decide +kernel) rfl
set_option maxRecDepth 100000 in
theorem SX4_legAt : Cond.selects yX4_legAt.cls yX4_legAt yX4_legAt ∈ lw_gd := gdI (i := 1016) (by decide +kernel) rfl
set_option maxRecDepth 100000 in
theorem FX6_15 : FLD RX6 15 6 1 := ⟨by decide, by decide, Or.inl (gdI (i := 295) (by decide +kernel) rfl)⟩
set_option maxRecDepth 100000 in
theorem FX6_9 : FLD RX6 9 6 0 := ⟨by decide, by decide, Or.inl (gdI (i := 294) (by decide +kernel) rfl)⟩
set_option maxRecDepth 100000 in
theorem FX6_19 : FLD RX6 19 6 2 := ⟨by decide, by decide, Or.inl (gdI (i := 297) (by decide +kernel) rfl)⟩
set_option maxRecDepth 100000 in
theorem MX6_33 : MLK RX6 33 yX6_peek := gdI (i := 1182) (by decide +kernel) rfl
set_option maxRecDepth 100000 in
theorem YX6_peek : MY yX6_peek cX6_peek 1 (some .char) 0 := ⟨gdI (i := 82) (by decide +kernel) rfl, gdI (i := 1185) (by decide +kernel) rfl, by decide +kernel, by decide +kernel, by decide +kernel⟩
set_option maxRecDepth 100000 in
theorem IX6_peek : Cond.instanceMethod yX6_peek ∈ lw_gd := gdI (i := 1184) (by decide +kernel) rfl
set_option maxRecDepth 100000 in
theorem SX6_peek : Cond.selects yX6_peek.cls yX6_peek yX6_peek ∈ lw_gd := gdI (i := 6) (by decide +kernel) rfl
set_option maxRecDepth 100000 in
theorem MX6_60 : MLK RX6 60 yX6_isDigit := gdI (i := 1198) (by decide +kernel) rfl
set_option maxRecDepth 100000 in
theorem YX6_isDigit : MY yX6_isDigit cX6_isDigit 1 (some .boolean) 1 := ⟨gdI (i := 82) (by decide +kernel) rfl, gdI (i := 1200) (by decide +kernel) rfl, by decide +kernel, by decide +kernel, by decide +kernel⟩
set_option maxRecDepth 100000 in
theorem IX6_isDigit : Cond.static yX6_isDigit ∈ lw_gd := gdI (i := 1199) (by decide +kernel) rfl
set_option maxRecDepth 100000 in
theorem MX6_63 : MLK RX6 63 Lib.Math.max.name := gdI (i := 1201) (by decide +kernel) rfl
set_option maxRecDepth 100000 in
theorem MMmaxa : Cond.static Lib.Math.max.name ∈ lw_gd := gdI (i := 464) (by decide +kernel) rfl
set_option maxRecDepth 100000 in
theorem MMmaxc : Cond.code Lib.Math.max.name Lib.Math.max.code 2 (some .int) ∈ lw_gd := gdI (i := 465) (by decide +kernel) rfl
set_option maxRecDepth 100000 in
theorem FX6_43 : FLD RX6 43 6 3 := ⟨by decide, by decide, Or.inl (gdI (i := 299) (by decide +kernel) rfl)⟩
set_option maxRecDepth 100000 in
theorem MX6_29 : MLK RX6 29 yX6_accept := gdI (i := 1190) (by decide +kernel) rfl
set_option maxRecDepth 100000 in
theorem YX6_accept : MY yX6_accept cX6_accept 2 (some .boolean) 1 := ⟨gdI (i := 82) (by decide +kernel) rfl, gdI (i := 1193) (by decide +kernel) rfl, by decide +kernel, by decide +kernel, by decide +kernel⟩
set_option maxRecDepth 100000 in
theorem IX6_accept : Cond.instanceMethod yX6_accept ∈ lw_gd := gdI (i := 1192) (by decide +kernel) rfl
set_option maxRecDepth 100000 in
theorem SX6_accept : Cond.selects yX6_accept.cls yX6_accept yX6_accept ∈ lw_gd := gdI (i := 8) (by decide +kernel) rfl
set_option maxRecDepth 100000 in
theorem MX6_47 : MLK RX6 47 yX6_readNumber := gdI (i := 1194) (by decide +kernel) rfl
set_option maxRecDepth 100000 in
theorem YX6_readNumber : MY yX6_readNumber cX6_readNumber 3 (some .int) 0 := ⟨gdI (i := 82) (by decide +kernel) rfl, gdI (i := 1197) (by decide +kernel) rfl, by decide +kernel, by decide +kernel, by decide +kernel⟩
set_option maxRecDepth 100000 in
theorem IX6_readNumber : Cond.instanceMethod yX6_readNumber ∈ lw_gd := gdI (i := 1196) (by decide +kernel) rfl
set_option maxRecDepth 100000 in
theorem SX6_readNumber : Cond.selects yX6_readNumber.cls yX6_readNumber yX6_readNumber ∈ lw_gd := gdI (i := 9) (by decide +kernel) rfl
set_option maxRecDepth 100000 in
theorem FX6_51 : FLD RX6 51 6 5 := ⟨by decide, by decide, Or.inl (gdI (i := 303) (by decide +kernel) rfl)⟩
set_option maxRecDepth 100000 in
theorem FX6_54 : FLD RX6 54 6 6 := ⟨by decide, by decide, Or.inl (gdI (i := 305) (by decide +kernel) rfl)⟩
set_option maxRecDepth 100000 in
theorem FX6_57 : FLD RX6 57 6 7 := ⟨by decide, by decide, Or.inl (gdI (i := 307) (by decide +kernel) rfl)⟩
set_option maxRecDepth 100000 in
theorem FX6_37 : FLD RX6 37 6 4 := ⟨by decide, by decide, Or.inl (gdI (i := 301) (by decide +kernel) rfl)⟩
set_option maxRecDepth 100000 in
theorem MX6_40 : MLK RX6 40 yX6_readOrder := gdI (i := 1186) (by decide +kernel) rfl
set_option maxRecDepth 100000 in
theorem YX6_readOrder : MY yX6_readOrder cX6_readOrder 1 (some .boolean) 0 := ⟨gdI (i := 82) (by decide +kernel) rfl, gdI (i := 1189) (by decide +kernel) rfl, by decide +kernel, by decide +kernel, by decide +kernel⟩
set_option maxRecDepth 100000 in
theorem IX6_readOrder : Cond.instanceMethod yX6_readOrder ∈ lw_gd := gdI (i := 1188) (by decide +kernel) rfl
set_option maxRecDepth 100000 in
theorem SX6_readOrder : Cond.selects yX6_readOrder.cls yX6_readOrder yX6_readOrder ∈ lw_gd := gdI (i := 7) (by decide +kernel) rfl
set_option maxRecDepth 100000 in
theorem MX6_22 : MLK RX6 22 yX6_rewind := gdI (i := 1174) (by decide +kernel) rfl
set_option maxRecDepth 100000 in
theorem YX6_rewind : MY yX6_rewind cX6_rewind 1 none 0 := ⟨gdI (i := 82) (by decide +kernel) rfl, gdI (i := 1177) (by decide +kernel) rfl, by decide +kernel, by decide +kernel, by decide +kernel⟩
set_option maxRecDepth 100000 in
theorem IX6_rewind : Cond.instanceMethod yX6_rewind ∈ lw_gd := gdI (i := 1175) (by decide +kernel) rfl
set_option maxRecDepth 100000 in
theorem SX6_rewind : Cond.selects yX6_rewind.cls yX6_rewind yX6_rewind ∈ lw_gd := gdI (i := 1176) (by decide +kernel) rfl
set_option maxRecDepth 100000 in
theorem MX6_25 : MLK RX6 25 yX6_readItem := gdI (i := 1178) (by decide +kernel) rfl
set_option maxRecDepth 100000 in
theorem YX6_readItem : MY yX6_readItem cX6_readItem 2 (some .boolean) 0 := ⟨gdI (i := 82) (by decide +kernel) rfl, gdI (i := 1181) (by decide +kernel) rfl, by decide +kernel, by decide +kernel, by decide +kernel⟩
set_option maxRecDepth 100000 in
theorem IX6_readItem : Cond.instanceMethod yX6_readItem ∈ lw_gd := gdI (i := 1180) (by decide +kernel) rfl
set_option maxRecDepth 100000 in
theorem SX6_readItem : Cond.selects yX6_readItem.cls yX6_readItem yX6_readItem ∈ lw_gd := gdI (i := 5) (by decide +kernel) rfl
set_option maxRecDepth 100000 in
theorem FX5_51 : FLD RX5 51 5 5 := ⟨by decide, by decide, Or.inl (gdI (i := 241) (by decide +kernel) rfl)⟩
set_option maxRecDepth 100000 in
theorem FX5_55 : FLD RX5 55 5 6 := ⟨by decide, by decide, Or.inl (gdI (i := 243) (by decide +kernel) rfl)⟩
set_option maxRecDepth 100000 in
theorem FX5_58 : FLD RX5 58 5 7 := ⟨by decide, by decide, Or.inl (gdI (i := 245) (by decide +kernel) rfl)⟩
set_option maxRecDepth 100000 in
theorem FX5_61 : FLD RX5 61 5 8 := ⟨by decide, by decide, Or.inl (gdI (i := 247) (by decide +kernel) rfl)⟩
set_option maxRecDepth 100000 in
theorem FX5_9 : FLD RX5 9 5 0 := ⟨by decide, by decide, Or.inl (gdI (i := 231) (by decide +kernel) rfl)⟩
set_option maxRecDepth 100000 in
theorem MX5_39 : MLK RX5 39 arraycopyName := gdI (i := 121) (by decide +kernel) rfl
set_option maxRecDepth 100000 in
theorem ACnative : Cond.native arraycopyName ∈ lw_gd := gdI (i := 123) (by decide +kernel) rfl
set_option maxRecDepth 100000 in
theorem ACstatic : Cond.static arraycopyName ∈ lw_gd := gdI (i := 122) (by decide +kernel) rfl
set_option maxRecDepth 100000 in
theorem ACi : Cond.initialized "java/lang/System" ∈ lw_gd := gdI (i := 77) (by decide +kernel) rfl
set_option maxRecDepth 100000 in
theorem FX5_15 : FLD RX5 15 5 1 := ⟨by decide, by decide, Or.inl (gdI (i := 233) (by decide +kernel) rfl)⟩
set_option maxRecDepth 100000 in
theorem FX5_20 : FLD RX5 20 5 2 := ⟨by decide, by decide, Or.inl (gdI (i := 235) (by decide +kernel) rfl)⟩
set_option maxRecDepth 100000 in
theorem MX5_64 : MLK RX5 64 yX3_copyFrom := gdI (i := 396) (by decide +kernel) rfl
set_option maxRecDepth 100000 in
theorem YX3_copyFrom : MY yX3_copyFrom cX3_copyFrom 2 none 1 := ⟨gdI (i := 78) (by decide +kernel) rfl, gdI (i := 399) (by decide +kernel) rfl, by decide +kernel, by decide +kernel, by decide +kernel⟩
set_option maxRecDepth 100000 in
theorem IX3_copyFrom : Cond.instanceMethod yX3_copyFrom ∈ lw_gd := gdI (i := 397) (by decide +kernel) rfl
set_option maxRecDepth 100000 in
theorem SX3_copyFrom : Cond.selects yX3_copyFrom.cls yX3_copyFrom yX3_copyFrom ∈ lw_gd := gdI (i := 398) (by decide +kernel) rfl
set_option maxRecDepth 100000 in
theorem FX5_26 : FLD RX5 26 5 3 := ⟨by decide, by decide, Or.inl (gdI (i := 237) (by decide +kernel) rfl)⟩
set_option maxRecDepth 100000 in
theorem MX5_68 : MLK RX5 68 yX4_copyFrom := gdI (i := 400) (by decide +kernel) rfl
set_option maxRecDepth 100000 in
theorem YX4_copyFrom : MY yX4_copyFrom cX4_copyFrom 2 none 1 := ⟨gdI (i := 79) (by decide +kernel) rfl, gdI (i := 403) (by decide +kernel) rfl, by decide +kernel, by decide +kernel, by decide +kernel⟩
set_option maxRecDepth 100000 in
theorem IX4_copyFrom : Cond.instanceMethod yX4_copyFrom ∈ lw_gd := gdI (i := 401) (by decide +kernel) rfl
set_option maxRecDepth 100000 in
theorem SX4_copyFrom : Cond.selects yX4_copyFrom.cls yX4_copyFrom yX4_copyFrom ∈ lw_gd := gdI (i := 402) (by decide +kernel) rfl
set_option maxRecDepth 100000 in
theorem FX5_32 : FLD RX5 32 5 4 := ⟨by decide, by decide, Or.inl (gdI (i := 239) (by decide +kernel) rfl)⟩
set_option maxRecDepth 100000 in
theorem MX5_71 : MLK RX5 71 yX0_copyFrom := gdI (i := 404) (by decide +kernel) rfl
set_option maxRecDepth 100000 in
theorem YX0_copyFrom : MY yX0_copyFrom cX0_copyFrom 2 none 1 := ⟨gdI (i := 80) (by decide +kernel) rfl, gdI (i := 407) (by decide +kernel) rfl, by decide +kernel, by decide +kernel, by decide +kernel⟩
set_option maxRecDepth 100000 in
theorem IX0_copyFrom : Cond.instanceMethod yX0_copyFrom ∈ lw_gd := gdI (i := 405) (by decide +kernel) rfl
set_option maxRecDepth 100000 in
theorem SX0_copyFrom : Cond.selects yX0_copyFrom.cls yX0_copyFrom yX0_copyFrom ∈ lw_gd := gdI (i := 406) (by decide +kernel) rfl
set_option maxRecDepth 100000 in
theorem MX5_74 : MLK RX5 74 yX4_start := gdI (i := 755) (by decide +kernel) rfl
set_option maxRecDepth 100000 in
theorem YX4_start : MY yX4_start cX4_start 2 none 1 := ⟨gdI (i := 79) (by decide +kernel) rfl, gdI (i := 758) (by decide +kernel) rfl, by decide +kernel, by decide +kernel, by decide +kernel⟩
set_option maxRecDepth 100000 in
theorem IX4_start : Cond.instanceMethod yX4_start ∈ lw_gd := gdI (i := 756) (by decide +kernel) rfl
set_option maxRecDepth 100000 in
theorem SX4_start : Cond.selects yX4_start.cls yX4_start yX4_start ∈ lw_gd := gdI (i := 757) (by decide +kernel) rfl
set_option maxRecDepth 100000 in
theorem MX5_78 : MLK RX5 78 yX0_start := gdI (i := 772) (by decide +kernel) rfl
set_option maxRecDepth 100000 in
theorem YX0_start : MY yX0_start cX0_start 2 none 1 := ⟨gdI (i := 80) (by decide +kernel) rfl, gdI (i := 775) (by decide +kernel) rfl, by decide +kernel, by decide +kernel, by decide +kernel⟩
set_option maxRecDepth 100000 in
theorem IX0_start : Cond.instanceMethod yX0_start ∈ lw_gd := gdI (i := 773) (by decide +kernel) rfl
set_option maxRecDepth 100000 in
theorem SX0_start : Cond.selects yX0_start.cls yX0_start yX0_start ∈ lw_gd := gdI (i := 774) (by decide +kernel) rfl
set_option maxRecDepth 100000 in
theorem MX5_79 : MLK RX5 79 yX3_start := gdI (i := 793) (by decide +kernel) rfl
set_option maxRecDepth 100000 in
theorem YX3_start : MY yX3_start cX3_start 6 none 5 := ⟨gdI (i := 78) (by decide +kernel) rfl, gdI (i := 796) (by decide +kernel) rfl, by decide +kernel, by decide +kernel, by decide +kernel⟩
set_option maxRecDepth 100000 in
theorem IX3_start : Cond.instanceMethod yX3_start ∈ lw_gd := gdI (i := 794) (by decide +kernel) rfl
set_option maxRecDepth 100000 in
theorem SX3_start : Cond.selects yX3_start.cls yX3_start yX3_start ∈ lw_gd := gdI (i := 795) (by decide +kernel) rfl
set_option maxRecDepth 100000 in
theorem MX5_82 : MLK RX5 82 yJ9_floorMod_7cf53 := gdI (i := 491) (by decide +kernel) rfl
set_option maxRecDepth 100000 in
theorem YJ9_floorMod_7cf53 : MY yJ9_floorMod_7cf53 cJ9_floorMod_7cf53 3 (some .int) 2 := ⟨gdI (i := 89) (by decide +kernel) rfl, gdI (i := 493) (by decide +kernel) rfl, by decide +kernel, by decide +kernel, by decide +kernel⟩
set_option maxRecDepth 100000 in
theorem IJ9_floorMod_7cf53 : Cond.static yJ9_floorMod_7cf53 ∈ lw_gd := gdI (i := 492) (by decide +kernel) rfl
set_option maxRecDepth 100000 in
theorem MX5_88 : MLK RX5 88 yX3_tripHours := gdI (i := 483) (by decide +kernel) rfl
set_option maxRecDepth 100000 in
theorem MX5_92 : MLK RX5 92 yX5_depthAt := gdI (i := 487) (by decide +kernel) rfl
set_option maxRecDepth 100000 in
theorem YX5_depthAt : MY yX5_depthAt cX5_depthAt 2 (some .int) 1 := ⟨gdI (i := 76) (by decide +kernel) rfl, gdI (i := 490) (by decide +kernel) rfl, by decide +kernel, by decide +kernel, by decide +kernel⟩
set_option maxRecDepth 100000 in
theorem IX5_depthAt : Cond.instanceMethod yX5_depthAt ∈ lw_gd := gdI (i := 488) (by decide +kernel) rfl
set_option maxRecDepth 100000 in
theorem SX5_depthAt : Cond.selects yX5_depthAt.cls yX5_depthAt yX5_depthAt ∈ lw_gd := gdI (i := 489) (by decide +kernel) rfl
set_option maxRecDepth 100000 in
theorem FX5_96 : FLD RX5 96 3 2 := ⟨by decide, by decide, Or.inr ⟨"PilotRoster", nwI (i := 138) (by decide +kernel) rfl⟩⟩
set_option maxRecDepth 100000 in
theorem FX5_99 : FLD RX5 99 3 3 := ⟨by decide, by decide, Or.inr ⟨"PilotRoster", nwI (i := 141) (by decide +kernel) rfl⟩⟩
set_option maxRecDepth 100000 in
theorem MX5_102 : MLK RX5 102 Lib.Math.max.name := gdI (i := 463) (by decide +kernel) rfl
set_option maxRecDepth 100000 in
theorem FX5_105 : FLD RX5 105 3 4 := ⟨by decide, by decide, Or.inr ⟨"PilotRoster", nwI (i := 144) (by decide +kernel) rfl⟩⟩
set_option maxRecDepth 100000 in
theorem MX5_108 : MLK RX5 108 Lib.Math.min.name := gdI (i := 466) (by decide +kernel) rfl
set_option maxRecDepth 100000 in
theorem MX5_111 : MLK RX5 111 yX5_isDeepEnough := gdI (i := 479) (by decide +kernel) rfl
set_option maxRecDepth 100000 in
theorem YX5_isDeepEnough : MY yX5_isDeepEnough cX5_isDeepEnough 5 (some .boolean) 2 := ⟨gdI (i := 76) (by decide +kernel) rfl, gdI (i := 482) (by decide +kernel) rfl, by decide +kernel, by decide +kernel, by decide +kernel⟩
set_option maxRecDepth 100000 in
theorem IX5_isDeepEnough : Cond.instanceMethod yX5_isDeepEnough ∈ lw_gd := gdI (i := 480) (by decide +kernel) rfl
set_option maxRecDepth 100000 in
theorem SX5_isDeepEnough : Cond.selects yX5_isDeepEnough.cls yX5_isDeepEnough yX5_isDeepEnough ∈ lw_gd := gdI (i := 481) (by decide +kernel) rfl
set_option maxRecDepth 100000 in
theorem MX5_115 : MLK RX5 115 yX4_lastTrip := gdI (i := 455) (by decide +kernel) rfl
set_option maxRecDepth 100000 in
theorem YX4_lastTrip : MY yX4_lastTrip cX4_lastTrip 2 (some (.object "PilotRoster$Leg")) 0 := ⟨gdI (i := 79) (by decide +kernel) rfl, gdI (i := 458) (by decide +kernel) rfl, by decide +kernel, by decide +kernel, by decide +kernel⟩
set_option maxRecDepth 100000 in
theorem IX4_lastTrip : Cond.instanceMethod yX4_lastTrip ∈ lw_gd := gdI (i := 456) (by decide +kernel) rfl
set_option maxRecDepth 100000 in
theorem SX4_lastTrip : Cond.selects yX4_lastTrip.cls yX4_lastTrip yX4_lastTrip ∈ lw_gd := gdI (i := 457) (by decide +kernel) rfl
set_option maxRecDepth 100000 in
theorem FX5_119 : FLD RX5 119 2 5 := ⟨by decide, by decide, Or.inr ⟨"PilotRoster", nwI (i := 542) (by decide +kernel) rfl⟩⟩
set_option maxRecDepth 100000 in
theorem MX5_124 : MLK RX5 124 yX2_touchesNight := gdI (i := 459) (by decide +kernel) rfl
set_option maxRecDepth 100000 in
theorem YX2_touchesNight : MY yX2_touchesNight cX2_touchesNight 2 (some .boolean) 0 := ⟨gdI (i := 96) (by decide +kernel) rfl, gdI (i := 462) (by decide +kernel) rfl, by decide +kernel, by decide +kernel, by decide +kernel⟩
set_option maxRecDepth 100000 in
theorem IX2_touchesNight : Cond.instanceMethod yX2_touchesNight ∈ lw_gd := gdI (i := 460) (by decide +kernel) rfl
set_option maxRecDepth 100000 in
theorem SX2_touchesNight : Cond.selects yX2_touchesNight.cls yX2_touchesNight yX2_touchesNight ∈ lw_gd := gdI (i := 461) (by decide +kernel) rfl
set_option maxRecDepth 100000 in
theorem FX5_128 : FLD RX5 128 3 5 := ⟨by decide, by decide, Or.inr ⟨"PilotRoster", nwI (i := 147) (by decide +kernel) rfl⟩⟩
set_option maxRecDepth 100000 in
theorem FX5_131 : FLD RX5 131 4 0 := ⟨by decide, by decide, Or.inr ⟨"PilotRoster", nwI (i := 188) (by decide +kernel) rfl⟩⟩
set_option maxRecDepth 100000 in
theorem FX5_134 : FLD RX5 134 3 0 := ⟨by decide, by decide, Or.inr ⟨"PilotRoster", nwI (i := 133) (by decide +kernel) rfl⟩⟩
set_option maxRecDepth 100000 in
theorem MX5_137 : MLK RX5 137 yX4_freeFrom := gdI (i := 447) (by decide +kernel) rfl
set_option maxRecDepth 100000 in
theorem YX4_freeFrom : MY yX4_freeFrom cX4_freeFrom 1 (some .int) 0 := ⟨gdI (i := 79) (by decide +kernel) rfl, gdI (i := 450) (by decide +kernel) rfl, by decide +kernel, by decide +kernel, by decide +kernel⟩
set_option maxRecDepth 100000 in
theorem IX4_freeFrom : Cond.instanceMethod yX4_freeFrom ∈ lw_gd := gdI (i := 448) (by decide +kernel) rfl
set_option maxRecDepth 100000 in
theorem SX4_freeFrom : Cond.selects yX4_freeFrom.cls yX4_freeFrom yX4_freeFrom ∈ lw_gd := gdI (i := 449) (by decide +kernel) rfl
set_option maxRecDepth 100000 in
theorem MX5_140 : MLK RX5 140 yX4_lastGoal := gdI (i := 439) (by decide +kernel) rfl
set_option maxRecDepth 100000 in
theorem YX4_lastGoal : MY yX4_lastGoal cX4_lastGoal 1 (some .int) 0 := ⟨gdI (i := 79) (by decide +kernel) rfl, gdI (i := 442) (by decide +kernel) rfl, by decide +kernel, by decide +kernel, by decide +kernel⟩
set_option maxRecDepth 100000 in
theorem IX4_lastGoal : Cond.instanceMethod yX4_lastGoal ∈ lw_gd := gdI (i := 440) (by decide +kernel) rfl
set_option maxRecDepth 100000 in
theorem SX4_lastGoal : Cond.selects yX4_lastGoal.cls yX4_lastGoal yX4_lastGoal ∈ lw_gd := gdI (i := 441) (by decide +kernel) rfl
set_option maxRecDepth 100000 in
theorem MX5_143 : MLK RX5 143 yX3_origin := gdI (i := 443) (by decide +kernel) rfl
set_option maxRecDepth 100000 in
theorem YX3_origin : MY yX3_origin cX3_origin 1 (some .int) 0 := ⟨gdI (i := 78) (by decide +kernel) rfl, gdI (i := 446) (by decide +kernel) rfl, by decide +kernel, by decide +kernel, by decide +kernel⟩
set_option maxRecDepth 100000 in
theorem IX3_origin : Cond.instanceMethod yX3_origin ∈ lw_gd := gdI (i := 444) (by decide +kernel) rfl
set_option maxRecDepth 100000 in
theorem SX3_origin : Cond.selects yX3_origin.cls yX3_origin yX3_origin ∈ lw_gd := gdI (i := 445) (by decide +kernel) rfl
set_option maxRecDepth 100000 in
theorem MX5_146 : MLK RX5 146 yX5_restedFrom := gdI (i := 451) (by decide +kernel) rfl
set_option maxRecDepth 100000 in
theorem YX5_restedFrom : MY yX5_restedFrom cX5_restedFrom 3 (some .int) 1 := ⟨gdI (i := 76) (by decide +kernel) rfl, gdI (i := 454) (by decide +kernel) rfl, by decide +kernel, by decide +kernel, by decide +kernel⟩
set_option maxRecDepth 100000 in
theorem IX5_restedFrom : Cond.instanceMethod yX5_restedFrom ∈ lw_gd := gdI (i := 452) (by decide +kernel) rfl
set_option maxRecDepth 100000 in
theorem SX5_restedFrom : Cond.selects yX5_restedFrom.cls yX5_restedFrom yX5_restedFrom ∈ lw_gd := gdI (i := 453) (by decide +kernel) rfl
set_option maxRecDepth 100000 in
theorem MX5_150 : MLK RX5 150 yX5_hasOrder := gdI (i := 427) (by decide +kernel) rfl
set_option maxRecDepth 100000 in
theorem YX5_hasOrder : MY yX5_hasOrder cX5_hasOrder 2 (some .boolean) 1 := ⟨gdI (i := 76) (by decide +kernel) rfl, gdI (i := 430) (by decide +kernel) rfl, by decide +kernel, by decide +kernel, by decide +kernel⟩
set_option maxRecDepth 100000 in
theorem IX5_hasOrder : Cond.instanceMethod yX5_hasOrder ∈ lw_gd := gdI (i := 428) (by decide +kernel) rfl
set_option maxRecDepth 100000 in
theorem SX5_hasOrder : Cond.selects yX5_hasOrder.cls yX5_hasOrder yX5_hasOrder ∈ lw_gd := gdI (i := 429) (by decide +kernel) rfl
set_option maxRecDepth 100000 in
theorem MX5_154 : MLK RX5 154 yX5_hasPilot := gdI (i := 566) (by decide +kernel) rfl
set_option maxRecDepth 100000 in
theorem YX5_hasPilot : MY yX5_hasPilot cX5_hasPilot 2 (some .boolean) 1 := ⟨gdI (i := 76) (by decide +kernel) rfl, gdI (i := 569) (by decide +kernel) rfl, by decide +kernel, by decide +kernel, by decide +kernel⟩
set_option maxRecDepth 100000 in
theorem IX5_hasPilot : Cond.instanceMethod yX5_hasPilot ∈ lw_gd := gdI (i := 567) (by decide +kernel) rfl
set_option maxRecDepth 100000 in
theorem SX5_hasPilot : Cond.selects yX5_hasPilot.cls yX5_hasPilot yX5_hasPilot ∈ lw_gd := gdI (i := 568) (by decide +kernel) rfl
set_option maxRecDepth 100000 in
theorem MX5_157 : MLK RX5 157 yX3_setPlanned := gdI (i := 570) (by decide +kernel) rfl
set_option maxRecDepth 100000 in
theorem YX3_setPlanned : MY yX3_setPlanned cX3_setPlanned 3 none 2 := ⟨gdI (i := 78) (by decide +kernel) rfl, gdI (i := 573) (by decide +kernel) rfl, by decide +kernel, by decide +kernel, by decide +kernel⟩
set_option maxRecDepth 100000 in
theorem IX3_setPlanned : Cond.instanceMethod yX3_setPlanned ∈ lw_gd := gdI (i := 571) (by decide +kernel) rfl
set_option maxRecDepth 100000 in
theorem SX3_setPlanned : Cond.selects yX3_setPlanned.cls yX3_setPlanned yX3_setPlanned ∈ lw_gd := gdI (i := 572) (by decide +kernel) rfl
set_option maxRecDepth 100000 in
theorem FX5_161 : FLD RX5 161 3 8 := ⟨by decide, by decide, Or.inr ⟨"PilotRoster", nwI (i := 156) (by decide +kernel) rfl⟩⟩
set_option maxRecDepth 100000 in
theorem MX5_162 : MLK RX5 162 yX3_goal := gdI (i := 575) (by decide +kernel) rfl
set_option maxRecDepth 100000 in
theorem YX3_goal : MY yX3_goal cX3_goal 1 (some .int) 0 := ⟨gdI (i := 78) (by decide +kernel) rfl, gdI (i := 578) (by decide +kernel) rfl, by decide +kernel, by decide +kernel, by decide +kernel⟩
set_option maxRecDepth 100000 in
theorem IX3_goal : Cond.instanceMethod yX3_goal ∈ lw_gd := gdI (i := 576) (by decide +kernel) rfl
set_option maxRecDepth 100000 in
theorem SX3_goal : Cond.selects yX3_goal.cls yX3_goal yX3_goal ∈ lw_gd := gdI (i := 577) (by decide +kernel) rfl
set_option maxRecDepth 100000 in
theorem MX5_165 : MLK RX5 165 yX4_add := gdI (i := 517) (by decide +kernel) rfl
set_option maxRecDepth 100000 in
theorem YX4_add : MY yX4_add cX4_add 6 none 5 := ⟨gdI (i := 79) (by decide +kernel) rfl, gdI (i := 520) (by decide +kernel) rfl, by decide +kernel, by decide +kernel, by decide +kernel⟩
set_option maxRecDepth 100000 in
theorem IX4_add : Cond.instanceMethod yX4_add ∈ lw_gd := gdI (i := 518) (by decide +kernel) rfl
set_option maxRecDepth 100000 in
theorem SX4_add : Cond.selects yX4_add.cls yX4_add yX4_add ∈ lw_gd := gdI (i := 519) (by decide +kernel) rfl
set_option maxRecDepth 100000 in
theorem FX5_168 : FLD RX5 168 3 7 := ⟨by decide, by decide, Or.inr ⟨"PilotRoster", nwI (i := 153) (by decide +kernel) rfl⟩⟩
set_option maxRecDepth 100000 in
theorem FX5_171 : FLD RX5 171 3 6 := ⟨by decide, by decide, Or.inr ⟨"PilotRoster", nwI (i := 150) (by decide +kernel) rfl⟩⟩
set_option maxRecDepth 100000 in
theorem MX5_174 : MLK RX5 174 yX4_endsWithTripFor := gdI (i := 943) (by decide +kernel) rfl
set_option maxRecDepth 100000 in
theorem YX4_endsWithTripFor : MY yX4_endsWithTripFor cX4_endsWithTripFor 2 (some .boolean) 1 := ⟨gdI (i := 79) (by decide +kernel) rfl, gdI (i := 946) (by decide +kernel) rfl, by decide +kernel, by decide +kernel, by decide +kernel⟩
set_option maxRecDepth 100000 in
theorem IX4_endsWithTripFor : Cond.instanceMethod yX4_endsWithTripFor ∈ lw_gd := gdI (i := 944) (by decide +kernel) rfl
set_option maxRecDepth 100000 in
theorem SX4_endsWithTripFor : Cond.selects yX4_endsWithTripFor.cls yX4_endsWithTripFor yX4_endsWithTripFor ∈ lw_gd := gdI (i := 945) (by decide +kernel) rfl
set_option maxRecDepth 100000 in
theorem MX5_177 : MLK RX5 177 yX4_removeLast := gdI (i := 951) (by decide +kernel) rfl
set_option maxRecDepth 100000 in
theorem YX4_removeLast : MY yX4_removeLast cX4_removeLast 1 none 0 := ⟨gdI (i := 79) (by decide +kernel) rfl, gdI (i := 954) (by decide +kernel) rfl, by decide +kernel, by decide +kernel, by decide +kernel⟩
set_option maxRecDepth 100000 in
theorem IX4_removeLast : Cond.instanceMethod yX4_removeLast ∈ lw_gd := gdI (i := 952) (by decide +kernel) rfl
set_option maxRecDepth 100000 in
theorem SX4_removeLast : Cond.selects yX4_removeLast.cls yX4_removeLast yX4_removeLast ∈ lw_gd := gdI (i := 953) (by decide +kernel) rfl
set_option maxRecDepth 100000 in
theorem MX5_180 : MLK RX5 180 yX3_setOpen := gdI (i := 955) (by decide +kernel) rfl
set_option maxRecDepth 100000 in
theorem FX5_183 : FLD RX5 183 0 3 := ⟨by decide, by decide, Or.inr ⟨"PilotRoster", nwI (i := 216) (by decide +kernel) rfl⟩⟩
set_option maxRecDepth 100000 in
theorem MX5_185 : MLK RX5 185 yJ6_bitCount_0f7a4 := gdI (i := 909) (by decide +kernel) rfl
set_option maxRecDepth 100000 in
theorem YJ6_bitCount_0f7a4 : MY yJ6_bitCount_0f7a4 cJ6_bitCount_0f7a4 1 (some .int) 1 := ⟨gdI (i := 97) (by decide +kernel) rfl, gdI (i := 911) (by decide +kernel) rfl, by decide +kernel, by decide +kernel, by decide +kernel⟩
set_option maxRecDepth 100000 in
theorem IJ6_bitCount_0f7a4 : Cond.static yJ6_bitCount_0f7a4 ∈ lw_gd := gdI (i := 910) (by decide +kernel) rfl
set_option maxRecDepth 100000 in
theorem FX5_190 : FLD RX5 190 0 0 := ⟨by decide, by decide, Or.inr ⟨"PilotRoster", nwI (i := 206) (by decide +kernel) rfl⟩⟩
set_option maxRecDepth 100000 in
theorem MX5_193 : MLK RX5 193 yX5_isRider := gdI (i := 514) (by decide +kernel) rfl
set_option maxRecDepth 100000 in
theorem YX5_isRider : MY yX5_isRider cX5_isRider 2 (some .boolean) 2 := ⟨gdI (i := 76) (by decide +kernel) rfl, gdI (i := 516) (by decide +kernel) rfl, by decide +kernel, by decide +kernel, by decide +kernel⟩
set_option maxRecDepth 100000 in
theorem IX5_isRider : Cond.static yX5_isRider ∈ lw_gd := gdI (i := 515) (by decide +kernel) rfl
set_option maxRecDepth 100000 in
theorem FX5_197 : FLD RX5 197 0 2 := ⟨by decide, by decide, Or.inr ⟨"PilotRoster", nwI (i := 212) (by decide +kernel) rfl⟩⟩
set_option maxRecDepth 100000 in
theorem MX5_200 : MLK RX5 200 yX5_hasBoat := gdI (i := 510) (by decide +kernel) rfl
set_option maxRecDepth 100000 in
theorem YX5_hasBoat : MY yX5_hasBoat cX5_hasBoat 2 (some .boolean) 1 := ⟨gdI (i := 76) (by decide +kernel) rfl, gdI (i := 513) (by decide +kernel) rfl, by decide +kernel, by decide +kernel, by decide +kernel⟩
set_option maxRecDepth 100000 in
theorem IX5_hasBoat : Cond.instanceMethod yX5_hasBoat ∈ lw_gd := gdI (i := 511) (by decide +kernel) rfl
set_option maxRecDepth 100000 in
theorem SX5_hasBoat : Cond.selects yX5_hasBoat.cls yX5_hasBoat yX5_hasBoat ∈ lw_gd := gdI (i := 512) (by decide +kernel) rfl
set_option maxRecDepth 100000 in
theorem MX5_203 : MLK RX5 203 yX0_goal := gdI (i := 471) (by decide +kernel) rfl
set_option maxRecDepth 100000 in
theorem YX0_goal : MY yX0_goal cX0_goal 1 (some .int) 0 := ⟨gdI (i := 80) (by decide +kernel) rfl, gdI (i := 474) (by decide +kernel) rfl, by decide +kernel, by decide +kernel, by decide +kernel⟩
set_option maxRecDepth 100000 in
theorem IX0_goal : Cond.instanceMethod yX0_goal ∈ lw_gd := gdI (i := 472) (by decide +kernel) rfl
set_option maxRecDepth 100000 in
theorem SX0_goal : Cond.selects yX0_goal.cls yX0_goal yX0_goal ∈ lw_gd := gdI (i := 473) (by decide +kernel) rfl
set_option maxRecDepth 100000 in
theorem FX5_207 : FLD RX5 207 0 1 := ⟨by decide, by decide, Or.inr ⟨"PilotRoster", nwI (i := 209) (by decide +kernel) rfl⟩⟩
set_option maxRecDepth 100000 in
theorem FX5_204 : FLD RX5 204 0 4 := ⟨by decide, by decide, Or.inr ⟨"PilotRoster", nwI (i := 218) (by decide +kernel) rfl⟩⟩
set_option maxRecDepth 100000 in
theorem MX5_210 : MLK RX5 210 yX5_fromWithoutRide := gdI (i := 435) (by decide +kernel) rfl
set_option maxRecDepth 100000 in
theorem YX5_fromWithoutRide : MY yX5_fromWithoutRide cX5_fromWithoutRide 3 (some .int) 2 := ⟨gdI (i := 76) (by decide +kernel) rfl, gdI (i := 438) (by decide +kernel) rfl, by decide +kernel, by decide +kernel, by decide +kernel⟩
set_option maxRecDepth 100000 in
theorem IX5_fromWithoutRide : Cond.instanceMethod yX5_fromWithoutRide ∈ lw_gd := gdI (i := 436) (by decide +kernel) rfl
set_option maxRecDepth 100000 in
theorem SX5_fromWithoutRide : Cond.selects yX5_fromWithoutRide.cls yX5_fromWithoutRide yX5_fromWithoutRide ∈ lw_gd := gdI (i := 437) (by decide +kernel) rfl
set_option maxRecDepth 100000 in
theorem MX5_214 : MLK RX5 214 yX5_fromWithRide := gdI (i := 467) (by decide +kernel) rfl
set_option maxRecDepth 100000 in
theorem YX5_fromWithRide : MY yX5_fromWithRide cX5_fromWithRide 5 (some .int) 3 := ⟨gdI (i := 76) (by decide +kernel) rfl, gdI (i := 470) (by decide +kernel) rfl, by decide +kernel, by decide +kernel, by decide +kernel⟩
set_option maxRecDepth 100000 in
theorem IX5_fromWithRide : Cond.instanceMethod yX5_fromWithRide ∈ lw_gd := gdI (i := 468) (by decide +kernel) rfl
set_option maxRecDepth 100000 in
theorem SX5_fromWithRide : Cond.selects yX5_fromWithRide.cls yX5_fromWithRide yX5_fromWithRide ∈ lw_gd := gdI (i := 469) (by decide +kernel) rfl
set_option maxRecDepth 100000 in
theorem MX5_230 : MLK RX5 230 yX7_set := gdI (i := 498) (by decide +kernel) rfl
set_option maxRecDepth 100000 in
theorem YX7_set : MY yX7_set cX7_set 4 none 3 := ⟨gdI (i := 83) (by decide +kernel) rfl, gdI (i := 501) (by decide +kernel) rfl, by decide +kernel, by decide +kernel, by decide +kernel⟩
set_option maxRecDepth 100000 in
theorem IX7_set : Cond.instanceMethod yX7_set ∈ lw_gd := gdI (i := 499) (by decide +kernel) rfl
set_option maxRecDepth 100000 in
theorem SX7_set : Cond.selects yX7_set.cls yX7_set yX7_set ∈ lw_gd := gdI (i := 500) (by decide +kernel) rfl
set_option maxRecDepth 100000 in
theorem MX5_218 : MLK RX5 218 yX5_fromAnyWay := gdI (i := 431) (by decide +kernel) rfl
set_option maxRecDepth 100000 in
theorem YX5_fromAnyWay : MY yX5_fromAnyWay cX5_fromAnyWay 5 (some .int) 1 := ⟨gdI (i := 76) (by decide +kernel) rfl, gdI (i := 434) (by decide +kernel) rfl, by decide +kernel, by decide +kernel, by decide +kernel⟩
set_option maxRecDepth 100000 in
theorem IX5_fromAnyWay : Cond.instanceMethod yX5_fromAnyWay ∈ lw_gd := gdI (i := 432) (by decide +kernel) rfl
set_option maxRecDepth 100000 in
theorem SX5_fromAnyWay : Cond.selects yX5_fromAnyWay.cls yX5_fromAnyWay yX5_fromAnyWay ∈ lw_gd := gdI (i := 433) (by decide +kernel) rfl
set_option maxRecDepth 100000 in
theorem MX5_222 : MLK RX5 222 yX5_firstOfWindow := gdI (i := 475) (by decide +kernel) rfl
set_option maxRecDepth 100000 in
theorem YX5_firstOfWindow : MY yX5_firstOfWindow cX5_firstOfWindow 6 (some .int) 2 := ⟨gdI (i := 76) (by decide +kernel) rfl, gdI (i := 478) (by decide +kernel) rfl, by decide +kernel, by decide +kernel, by decide +kernel⟩
set_option maxRecDepth 100000 in
theorem IX5_firstOfWindow : Cond.instanceMethod yX5_firstOfWindow ∈ lw_gd := gdI (i := 476) (by decide +kernel) rfl
set_option maxRecDepth 100000 in
theorem SX5_firstOfWindow : Cond.selects yX5_firstOfWindow.cls yX5_firstOfWindow yX5_firstOfWindow ∈ lw_gd := gdI (i := 477) (by decide +kernel) rfl
set_option maxRecDepth 100000 in
theorem MX5_226 : MLK RX5 226 yX5_chooseWay := gdI (i := 494) (by decide +kernel) rfl
set_option maxRecDepth 100000 in
theorem YX5_chooseWay : MY yX5_chooseWay cX5_chooseWay 6 (some .boolean) 3 := ⟨gdI (i := 76) (by decide +kernel) rfl, gdI (i := 497) (by decide +kernel) rfl, by decide +kernel, by decide +kernel, by decide +kernel⟩
set_option maxRecDepth 100000 in
theorem IX5_chooseWay : Cond.instanceMethod yX5_chooseWay ∈ lw_gd := gdI (i := 495) (by decide +kernel) rfl
set_option maxRecDepth 100000 in
theorem SX5_chooseWay : Cond.selects yX5_chooseWay.cls yX5_chooseWay yX5_chooseWay ∈ lw_gd := gdI (i := 496) (by decide +kernel) rfl
set_option maxRecDepth 100000 in
theorem FX5_236 : FLD RX5 236 7 2 := ⟨by decide, by decide, Or.inr ⟨"PilotRoster", nwI (i := 341) (by decide +kernel) rfl⟩⟩
set_option maxRecDepth 100000 in
theorem FX5_239 : FLD RX5 239 7 0 := ⟨by decide, by decide, Or.inr ⟨"PilotRoster", nwI (i := 335) (by decide +kernel) rfl⟩⟩
set_option maxRecDepth 100000 in
theorem FX5_242 : FLD RX5 242 7 1 := ⟨by decide, by decide, Or.inr ⟨"PilotRoster", nwI (i := 338) (by decide +kernel) rfl⟩⟩
set_option maxRecDepth 100000 in
theorem MX5_243 : MLK RX5 243 yX5_addRun := gdI (i := 506) (by decide +kernel) rfl
set_option maxRecDepth 100000 in
theorem YX5_addRun : MY yX5_addRun cX5_addRun 7 none 3 := ⟨gdI (i := 76) (by decide +kernel) rfl, gdI (i := 509) (by decide +kernel) rfl, by decide +kernel, by decide +kernel, by decide +kernel⟩
set_option maxRecDepth 100000 in
theorem IX5_addRun : Cond.instanceMethod yX5_addRun ∈ lw_gd := gdI (i := 507) (by decide +kernel) rfl
set_option maxRecDepth 100000 in
theorem SX5_addRun : Cond.selects yX5_addRun.cls yX5_addRun yX5_addRun ∈ lw_gd := gdI (i := 508) (by decide +kernel) rfl
set_option maxRecDepth 100000 in
theorem MX5_246 : MLK RX5 246 yX5_addTrip := gdI (i := 562) (by decide +kernel) rfl
set_option maxRecDepth 100000 in
theorem YX5_addTrip : MY yX5_addTrip cX5_addTrip 5 none 3 := ⟨gdI (i := 76) (by decide +kernel) rfl, gdI (i := 565) (by decide +kernel) rfl, by decide +kernel, by decide +kernel, by decide +kernel⟩
set_option maxRecDepth 100000 in
theorem IX5_addTrip : Cond.instanceMethod yX5_addTrip ∈ lw_gd := gdI (i := 563) (by decide +kernel) rfl
set_option maxRecDepth 100000 in
theorem SX5_addTrip : Cond.selects yX5_addTrip.cls yX5_addTrip yX5_addTrip ∈ lw_gd := gdI (i := 564) (by decide +kernel) rfl
set_option maxRecDepth 100000 in
theorem MX5_249 : MLK RX5 249 yX3_isMoreUrgentThan := gdI (i := 419) (by decide +kernel) rfl
set_option maxRecDepth 100000 in
theorem YX3_isMoreUrgentThan : MY yX3_isMoreUrgentThan cX3_isMoreUrgentThan 2 (some .boolean) 1 := ⟨gdI (i := 78) (by decide +kernel) rfl, gdI (i := 422) (by decide +kernel) rfl, by decide +kernel, by decide +kernel, by decide +kernel⟩
set_option maxRecDepth 100000 in
theorem IX3_isMoreUrgentThan : Cond.instanceMethod yX3_isMoreUrgentThan ∈ lw_gd := gdI (i := 420) (by decide +kernel) rfl
set_option maxRecDepth 100000 in
theorem SX3_isMoreUrgentThan : Cond.selects yX3_isMoreUrgentThan.cls yX3_isMoreUrgentThan yX3_isMoreUrgentThan ∈ lw_gd := gdI (i := 421) (by decide +kernel) rfl
set_option maxRecDepth 100000 in
theorem MX5_260 : MLK RX5 260 yX4_credit := gdI (i := 1074) (by decide +kernel) rfl
set_option maxRecDepth 100000 in
theorem YX4_credit : MY yX4_credit cX4_credit 3 none 2 := ⟨gdI (i := 79) (by decide +kernel) rfl, gdI (i := 1077) (by decide +kernel) rfl, by decide +kernel, by decide +kernel, by decide +kernel⟩
set_option maxRecDepth 100000 in
theorem IX4_credit : Cond.instanceMethod yX4_credit ∈ lw_gd := gdI (i := 1075) (by decide +kernel) rfl
set_option maxRecDepth 100000 in
theorem SX4_credit : Cond.selects yX4_credit.cls yX4_credit yX4_credit ∈ lw_gd := gdI (i := 1076) (by decide +kernel) rfl
set_option maxRecDepth 100000 in
theorem MX5_253 : MLK RX5 253 yX5_firstEnded := gdI (i := 1066) (by decide +kernel) rfl
set_option maxRecDepth 100000 in
theorem YX5_firstEnded : MY yX5_firstEnded cX5_firstEnded 3 (some (.object "PilotRoster$Order")) 0 := ⟨gdI (i := 76) (by decide +kernel) rfl, gdI (i := 1069) (by decide +kernel) rfl, by decide +kernel, by decide +kernel, by decide +kernel⟩
set_option maxRecDepth 100000 in
theorem IX5_firstEnded : Cond.instanceMethod yX5_firstEnded ∈ lw_gd := gdI (i := 1067) (by decide +kernel) rfl
set_option maxRecDepth 100000 in
theorem SX5_firstEnded : Cond.selects yX5_firstEnded.cls yX5_firstEnded yX5_firstEnded ∈ lw_gd := gdI (i := 1068) (by decide +kernel) rfl
set_option maxRecDepth 100000 in
theorem MX5_257 : MLK RX5 257 yX5_finish := gdI (i := 1070) (by decide +kernel) rfl
set_option maxRecDepth 100000 in
theorem YX5_finish : MY yX5_finish cX5_finish 2 none 1 := ⟨gdI (i := 76) (by decide +kernel) rfl, gdI (i := 1073) (by decide +kernel) rfl, by decide +kernel, by decide +kernel, by decide +kernel⟩
set_option maxRecDepth 100000 in
theorem IX5_finish : Cond.instanceMethod yX5_finish ∈ lw_gd := gdI (i := 1071) (by decide +kernel) rfl
set_option maxRecDepth 100000 in
theorem SX5_finish : Cond.selects yX5_finish.cls yX5_finish yX5_finish ∈ lw_gd := gdI (i := 1072) (by decide +kernel) rfl
set_option maxRecDepth 100000 in
theorem MX5_263 : MLK RX5 263 yX3_hasTrip := gdI (i := 1101) (by decide +kernel) rfl
set_option maxRecDepth 100000 in
theorem YX3_hasTrip : MY yX3_hasTrip cX3_hasTrip 1 (some .boolean) 0 := ⟨gdI (i := 78) (by decide +kernel) rfl, gdI (i := 1104) (by decide +kernel) rfl, by decide +kernel, by decide +kernel, by decide +kernel⟩
set_option maxRecDepth 100000 in
theorem IX3_hasTrip : Cond.instanceMethod yX3_hasTrip ∈ lw_gd := gdI (i := 1102) (by decide +kernel) rfl
set_option maxRecDepth 100000 in
theorem SX3_hasTrip : Cond.selects yX3_hasTrip.cls yX3_hasTrip yX3_hasTrip ∈ lw_gd := gdI (i := 1103) (by decide +kernel) rfl
set_option maxRecDepth 100000 in
theorem FX5_266 : FLD RX5 266 3 9 := ⟨by decide, by decide, Or.inr ⟨"PilotRoster", nwI (i := 159) (by decide +kernel) rfl⟩⟩
set_option maxRecDepth 100000 in
theorem MX5_269 : MLK RX5 269 yX4_placeAt := gdI (i := 1113) (by decide +kernel) rfl
set_option maxRecDepth 100000 in
theorem YX4_placeAt : MY yX4_placeAt cX4_placeAt 3 (some .int) 1 := ⟨gdI (i := 79) (by decide +kernel) rfl, gdI (i := 1030) (by decide +kernel) rfl, by decide +kernel, by decide +kernel, by decide +kernel⟩
set_option maxRecDepth 100000 in
theorem IX4_placeAt : Cond.instanceMethod yX4_placeAt ∈ lw_gd := gdI (i := 1028) (by decide +kernel) rfl
set_option maxRecDepth 100000 in
theorem SX4_placeAt : Cond.selects yX4_placeAt.cls yX4_placeAt yX4_placeAt ∈ lw_gd := gdI (i := 1029) (by decide +kernel) rfl
set_option maxRecDepth 100000 in
theorem FX1_13 : FLD RX1 13 1 0 := ⟨by decide, by decide, Or.inl (gdI (i := 277) (by decide +kernel) rfl)⟩
set_option maxRecDepth 100000 in
theorem FX1_25 : FLD RX1 25 1 1 := ⟨by decide, by decide, Or.inl (gdI (i := 278) (by decide +kernel) rfl)⟩
set_option maxRecDepth 100000 in
theorem MX1_29 : MLK RX1 29 yX5_copyFrom := gdI (i := 392) (by decide +kernel) rfl
set_option maxRecDepth 100000 in
theorem YX5_copyFrom : MY yX5_copyFrom cX5_copyFrom 3 none 1 := ⟨gdI (i := 76) (by decide +kernel) rfl, gdI (i := 395) (by decide +kernel) rfl, by decide +kernel, by decide +kernel, by decide +kernel⟩
set_option maxRecDepth 100000 in
theorem IX5_copyFrom : Cond.instanceMethod yX5_copyFrom ∈ lw_gd := gdI (i := 393) (by decide +kernel) rfl
set_option maxRecDepth 100000 in
theorem SX5_copyFrom : Cond.selects yX5_copyFrom.cls yX5_copyFrom yX5_copyFrom ∈ lw_gd := gdI (i := 394) (by decide +kernel) rfl
set_option maxRecDepth 100000 in
theorem FX1_32 : FLD RX1 32 1 2 := ⟨by decide, by decide, Or.inl (gdI (i := 279) (by decide +kernel) rfl)⟩
set_option maxRecDepth 100000 in
theorem MX1_35 : MLK RX1 35 Lib.Math.min.name := gdI (i := 412) (by decide +kernel) rfl
set_option maxRecDepth 100000 in
theorem MX1_18 : MLK RX1 18 yX1_prepare := gdI (i := 388) (by decide +kernel) rfl
set_option maxRecDepth 100000 in
theorem YX1_prepare : MY yX1_prepare cX1_prepare 2 none 1 := ⟨gdI (i := 81) (by decide +kernel) rfl, gdI (i := 391) (by decide +kernel) rfl, by decide +kernel, by decide +kernel, by decide +kernel⟩
set_option maxRecDepth 100000 in
theorem IX1_prepare : Cond.instanceMethod yX1_prepare ∈ lw_gd := gdI (i := 389) (by decide +kernel) rfl
set_option maxRecDepth 100000 in
theorem SX1_prepare : Cond.selects yX1_prepare.cls yX1_prepare yX1_prepare ∈ lw_gd := gdI (i := 390) (by decide +kernel) rfl
set_option maxRecDepth 100000 in
theorem MX1_22 : MLK RX1 22 yX1_commit := gdI (i := 408) (by decide +kernel) rfl
set_option maxRecDepth 100000 in
theorem YX1_commit : MY yX1_commit cX1_commit 1 none 0 := ⟨gdI (i := 81) (by decide +kernel) rfl, gdI (i := 411) (by decide +kernel) rfl, by decide +kernel, by decide +kernel, by decide +kernel⟩
set_option maxRecDepth 100000 in
theorem IX1_commit : Cond.instanceMethod yX1_commit ∈ lw_gd := gdI (i := 409) (by decide +kernel) rfl
set_option maxRecDepth 100000 in
theorem SX1_commit : Cond.selects yX1_commit.cls yX1_commit yX1_commit ∈ lw_gd := gdI (i := 410) (by decide +kernel) rfl
set_option maxRecDepth 100000 in
theorem MX1_41 : MLK RX1 41 yX1_takeBack := gdI (i := 1263) (by decide +kernel) rfl
set_option maxRecDepth 100000 in
theorem YX1_takeBack : MY yX1_takeBack cX1_takeBack 2 none 1 := ⟨gdI (i := 81) (by decide +kernel) rfl, gdI (i := 1232) (by decide +kernel) rfl, by decide +kernel, by decide +kernel, by decide +kernel⟩
set_option maxRecDepth 100000 in
theorem IX1_takeBack : Cond.instanceMethod yX1_takeBack ∈ lw_gd := gdI (i := 1230) (by decide +kernel) rfl
set_option maxRecDepth 100000 in
theorem SX1_takeBack : Cond.selects yX1_takeBack.cls yX1_takeBack yX1_takeBack ∈ lw_gd := gdI (i := 1231) (by decide +kernel) rfl
set_option maxRecDepth 100000 in
theorem TX8_51_53_55 : THR RX8 "java/lang/IllegalArgumentException" "no such rule" 51 53 55 := ⟨gdI (i := 592) (by decide +kernel) rfl, gdI (i := 88) (by decide +kernel) rfl, tbI (i := 637) (by decide +kernel), idxAll [85, 614, 623, 631, 634, 636, 615, 616, 105, 106, 617, 622, 632, 652, 604, 653, 606, 654, 608, 618, 620, 610, 648, 649, 651, 610, 639, 640, 641, 642, 596, 642, 643, 644, 645, 598, 645, 646, 647, 648, 600, 638, 593, 594, 601, 602, 603, 605, 607, 609, 613, 612, 611] (by decide +kernel) (by decide +kernel), by decide +kernel, by decide⟩
set_option maxRecDepth 100000 in
theorem SFX8_58 : SFL RX8 58 0 := ⟨by decide, gdI (i := 664) (by decide +kernel) rfl⟩
set_option maxRecDepth 100000 in
theorem TX8_51_64_55 : THR RX8 "java/lang/IllegalArgumentException" "no such number for the rule" 51 64 55 := ⟨gdI (i := 592) (by decide +kernel) rfl, gdI (i := 88) (by decide +kernel) rfl, tbI (i := 668) (by decide +kernel), idxAll [85, 614, 623, 631, 634, 636, 615, 616, 105, 106, 617, 622, 632, 652, 604, 653, 606, 654, 608, 618, 620, 610, 648, 649, 651, 610, 639, 640, 641, 642, 596, 642, 643, 644, 645, 598, 645, 646, 647, 648, 600, 638, 593, 594, 601, 602, 603, 605, 607, 609, 613, 612, 611] (by decide +kernel) (by decide +kernel), by decide +kernel, by decide⟩
set_option maxRecDepth 100000 in
theorem SFX8_61 : SFL RX8 61 1 := ⟨by decide, gdI (i := 666) (by decide +kernel) rfl⟩
set_option maxRecDepth 100000 in
theorem FX8_22 : FLD RX8 22 8 2 := ⟨by decide, by decide, Or.inl (gdI (i := 351) (by decide +kernel) rfl)⟩
set_option maxRecDepth 100000 in
theorem FX8_10 : FLD RX8 10 8 0 := ⟨by decide, by decide, Or.inl (gdI (i := 349) (by decide +kernel) rfl)⟩
set_option maxRecDepth 100000 in
theorem MX8_66 : MLK RX8 66 yX1_add := gdI (i := 384) (by decide +kernel) rfl
set_option maxRecDepth 100000 in
theorem YX1_add : MY yX1_add cX1_add 2 none 1 := ⟨gdI (i := 81) (by decide +kernel) rfl, gdI (i := 387) (by decide +kernel) rfl, by decide +kernel, by decide +kernel, by decide +kernel⟩
set_option maxRecDepth 100000 in
theorem IX1_add : Cond.instanceMethod yX1_add ∈ lw_gd := gdI (i := 385) (by decide +kernel) rfl
set_option maxRecDepth 100000 in
theorem SX1_add : Cond.selects yX1_add.cls yX1_add yX1_add ∈ lw_gd := gdI (i := 386) (by decide +kernel) rfl
set_option maxRecDepth 100000 in
theorem FX8_70 : FLD RX8 70 5 0 := ⟨by decide, by decide, Or.inr ⟨"PilotRoster", nwI (i := 232) (by decide +kernel) rfl⟩⟩
set_option maxRecDepth 100000 in
theorem TX8_51_73_55 : THR RX8 "java/lang/IllegalArgumentException" "no such tide" 51 73 55 := ⟨gdI (i := 592) (by decide +kernel) rfl, gdI (i := 88) (by decide +kernel) rfl, tbI (i := 676) (by decide +kernel), idxAll [85, 614, 623, 631, 634, 636, 615, 616, 105, 106, 617, 622, 632, 652, 604, 653, 606, 654, 608, 618, 620, 610, 648, 649, 651, 610, 639, 640, 641, 642, 596, 642, 643, 644, 645, 598, 645, 646, 647, 648, 600, 638, 593, 594, 601, 602, 603, 605, 607, 609, 613, 612, 611] (by decide +kernel) (by decide +kernel), by decide +kernel, by decide⟩
set_option maxRecDepth 100000 in
theorem TX8_51_75_55 : THR RX8 "java/lang/IllegalArgumentException" "no such height" 51 75 55 := ⟨gdI (i := 592) (by decide +kernel) rfl, gdI (i := 88) (by decide +kernel) rfl, tbI (i := 677) (by decide +kernel), idxAll [85, 614, 623, 631, 634, 636, 615, 616, 105, 106, 617, 622, 632, 652, 604, 653, 606, 654, 608, 618, 620, 610, 648, 649, 651, 610, 639, 640, 641, 642, 596, 642, 643, 644, 645, 598, 645, 646, 647, 648, 600, 638, 593, 594, 601, 602, 603, 605, 607, 609, 613, 612, 611] (by decide +kernel) (by decide +kernel), by decide +kernel, by decide⟩
set_option maxRecDepth 100000 in
theorem FX8_77 : FLD RX8 77 5 1 := ⟨by decide, by decide, Or.inr ⟨"PilotRoster", nwI (i := 234) (by decide +kernel) rfl⟩⟩
set_option maxRecDepth 100000 in
theorem TX8_202_477_206 : THR RX8 "java/lang/IndexOutOfBoundsException" "no such hour" 202 477 206 := ⟨gdI (i := 712) (by decide +kernel) rfl, gdI (i := 90) (by decide +kernel) rfl, tbI (i := 721) (by decide +kernel), idxAll [85, 614, 623, 631, 634, 636, 615, 616, 105, 106, 617, 622, 632, 652, 604, 653, 606, 654, 608, 618, 620, 610, 648, 649, 651, 610, 686, 687, 688, 642, 596, 642, 643, 644, 645, 598, 645, 646, 647, 648, 600, 722, 713, 714, 715, 628, 716, 717, 718, 719, 613, 612, 720] (by decide +kernel) (by decide +kernel), by decide +kernel, by decide⟩
set_option maxRecDepth 100000 in
theorem MX8_80 : MLK RX8 80 yX8_requireHour := gdI (i := 709) (by decide +kernel) rfl
set_option maxRecDepth 100000 in
theorem YX8_requireHour : MY yX8_requireHour cX8_requireHour 1 none 1 := ⟨gdI (i := 75) (by decide +kernel) rfl, gdI (i := 711) (by decide +kernel) rfl, by decide +kernel, by decide +kernel, by decide +kernel⟩
set_option maxRecDepth 100000 in
theorem IX8_requireHour : Cond.static yX8_requireHour ∈ lw_gd := gdI (i := 710) (by decide +kernel) rfl
set_option maxRecDepth 100000 in
theorem MX8_84 : MLK RX8 84 yX5_depthAt := gdI (i := 725) (by decide +kernel) rfl
set_option maxRecDepth 100000 in
theorem TX8_51_88_55 : THR RX8 "java/lang/IllegalArgumentException" "no such licence" 51 88 55 := ⟨gdI (i := 592) (by decide +kernel) rfl, gdI (i := 88) (by decide +kernel) rfl, tbI (i := 734) (by decide +kernel), idxAll [85, 614, 623, 631, 634, 636, 615, 616, 105, 106, 617, 622, 632, 652, 604, 653, 606, 654, 608, 618, 620, 610, 648, 649, 651, 610, 639, 640, 641, 642, 596, 642, 643, 644, 645, 598, 645, 646, 647, 648, 600, 638, 593, 594, 601, 602, 603, 605, 607, 609, 613, 612, 611] (by decide +kernel) (by decide +kernel), by decide +kernel, by decide⟩
set_option maxRecDepth 100000 in
theorem FX8_90 : FLD RX8 90 5 7 := ⟨by decide, by decide, Or.inr ⟨"PilotRoster", nwI (i := 246) (by decide +kernel) rfl⟩⟩
set_option maxRecDepth 100000 in
theorem MX8_98 : MLK RX8 98 yX5_makePilot := gdI (i := 751) (by decide +kernel) rfl
set_option maxRecDepth 100000 in
theorem YX5_makePilot : MY yX5_makePilot cX5_makePilot 3 (some .int) 1 := ⟨gdI (i := 76) (by decide +kernel) rfl, gdI (i := 754) (by decide +kernel) rfl, by decide +kernel, by decide +kernel, by decide +kernel⟩
set_option maxRecDepth 100000 in
theorem IX5_makePilot : Cond.instanceMethod yX5_makePilot ∈ lw_gd := gdI (i := 752) (by decide +kernel) rfl
set_option maxRecDepth 100000 in
theorem SX5_makePilot : Cond.selects yX5_makePilot.cls yX5_makePilot yX5_makePilot ∈ lw_gd := gdI (i := 753) (by decide +kernel) rfl
set_option maxRecDepth 100000 in
theorem TX8_93_95_97 : THR RX8 "java/lang/IllegalStateException" "no more pilots" 93 95 97 := ⟨gdI (i := 735) (by decide +kernel) rfl, gdI (i := 93) (by decide +kernel) rfl, tbI (i := 744) (by decide +kernel), idxAll [85, 614, 623, 631, 634, 636, 615, 616, 105, 106, 617, 622, 632, 652, 604, 653, 606, 654, 608, 618, 620, 610, 648, 649, 651, 610, 746, 747, 748, 642, 596, 642, 643, 644, 645, 598, 645, 646, 647, 648, 600, 745, 736, 737, 738, 627, 739, 740, 741, 742, 613, 612, 743] (by decide +kernel) (by decide +kernel), by decide +kernel, by decide⟩
set_option maxRecDepth 100000 in
theorem TX8_51_101_55 : THR RX8 "java/lang/IllegalArgumentException" "no such room" 51 101 55 := ⟨gdI (i := 592) (by decide +kernel) rfl, gdI (i := 88) (by decide +kernel) rfl, tbI (i := 766) (by decide +kernel), idxAll [85, 614, 623, 631, 634, 636, 615, 616, 105, 106, 617, 622, 632, 652, 604, 653, 606, 654, 608, 618, 620, 610, 648, 649, 651, 610, 639, 640, 641, 642, 596, 642, 643, 644, 645, 598, 645, 646, 647, 648, 600, 638, 593, 594, 601, 602, 603, 605, 607, 609, 613, 612, 611] (by decide +kernel) (by decide +kernel), by decide +kernel, by decide⟩
set_option maxRecDepth 100000 in
theorem FX8_103 : FLD RX8 103 5 8 := ⟨by decide, by decide, Or.inr ⟨"PilotRoster", nwI (i := 248) (by decide +kernel) rfl⟩⟩
set_option maxRecDepth 100000 in
theorem MX8_108 : MLK RX8 108 yX5_makeBoat := gdI (i := 768) (by decide +kernel) rfl
set_option maxRecDepth 100000 in
theorem YX5_makeBoat : MY yX5_makeBoat cX5_makeBoat 3 (some .int) 1 := ⟨gdI (i := 76) (by decide +kernel) rfl, gdI (i := 771) (by decide +kernel) rfl, by decide +kernel, by decide +kernel, by decide +kernel⟩
set_option maxRecDepth 100000 in
theorem IX5_makeBoat : Cond.instanceMethod yX5_makeBoat ∈ lw_gd := gdI (i := 769) (by decide +kernel) rfl
set_option maxRecDepth 100000 in
theorem SX5_makeBoat : Cond.selects yX5_makeBoat.cls yX5_makeBoat yX5_makeBoat ∈ lw_gd := gdI (i := 770) (by decide +kernel) rfl
set_option maxRecDepth 100000 in
theorem TX8_93_106_97 : THR RX8 "java/lang/IllegalStateException" "no more boats" 93 106 97 := ⟨gdI (i := 735) (by decide +kernel) rfl, gdI (i := 93) (by decide +kernel) rfl, tbI (i := 767) (by decide +kernel), idxAll [85, 614, 623, 631, 634, 636, 615, 616, 105, 106, 617, 622, 632, 652, 604, 653, 606, 654, 608, 618, 620, 610, 648, 649, 651, 610, 746, 747, 748, 642, 596, 642, 643, 644, 645, 598, 645, 646, 647, 648, 600, 745, 736, 737, 738, 627, 739, 740, 741, 742, 613, 612, 743] (by decide +kernel) (by decide +kernel), by decide +kernel, by decide⟩
set_option maxRecDepth 100000 in
theorem MX8_111 : MLK RX8 111 yX5_isOrder := gdI (i := 783) (by decide +kernel) rfl
set_option maxRecDepth 100000 in
theorem YX5_isOrder : MY yX5_isOrder cX5_isOrder 5 (some .boolean) 4 := ⟨gdI (i := 76) (by decide +kernel) rfl, gdI (i := 786) (by decide +kernel) rfl, by decide +kernel, by decide +kernel, by decide +kernel⟩
set_option maxRecDepth 100000 in
theorem IX5_isOrder : Cond.instanceMethod yX5_isOrder ∈ lw_gd := gdI (i := 784) (by decide +kernel) rfl
set_option maxRecDepth 100000 in
theorem SX5_isOrder : Cond.selects yX5_isOrder.cls yX5_isOrder yX5_isOrder ∈ lw_gd := gdI (i := 785) (by decide +kernel) rfl
set_option maxRecDepth 100000 in
theorem FX8_117 : FLD RX8 117 5 6 := ⟨by decide, by decide, Or.inr ⟨"PilotRoster", nwI (i := 244) (by decide +kernel) rfl⟩⟩
set_option maxRecDepth 100000 in
theorem TX8_93_120_97 : THR RX8 "java/lang/IllegalStateException" "no more orders" 93 120 97 := ⟨gdI (i := 735) (by decide +kernel) rfl, gdI (i := 93) (by decide +kernel) rfl, tbI (i := 788) (by decide +kernel), idxAll [85, 614, 623, 631, 634, 636, 615, 616, 105, 106, 617, 622, 632, 652, 604, 653, 606, 654, 608, 618, 620, 610, 648, 649, 651, 610, 746, 747, 748, 642, 596, 642, 643, 644, 645, 598, 645, 646, 647, 648, 600, 745, 736, 737, 738, 627, 739, 740, 741, 742, 613, 612, 743] (by decide +kernel) (by decide +kernel), by decide +kernel, by decide⟩
set_option maxRecDepth 100000 in
theorem TX8_51_115_55 : THR RX8 "java/lang/IllegalArgumentException" "no such order can be made" 51 115 55 := ⟨gdI (i := 592) (by decide +kernel) rfl, gdI (i := 88) (by decide +kernel) rfl, tbI (i := 787) (by decide +kernel), idxAll [85, 614, 623, 631, 634, 636, 615, 616, 105, 106, 617, 622, 632, 652, 604, 653, 606, 654, 608, 618, 620, 610, 648, 649, 651, 610, 639, 640, 641, 642, 596, 642, 643, 644, 645, 598, 645, 646, 647, 648, 600, 638, 593, 594, 601, 602, 603, 605, 607, 609, 613, 612, 611] (by decide +kernel) (by decide +kernel), by decide +kernel, by decide⟩
set_option maxRecDepth 100000 in
theorem MX8_122 : MLK RX8 122 yX5_makeOrder := gdI (i := 789) (by decide +kernel) rfl
set_option maxRecDepth 100000 in
theorem YX5_makeOrder : MY yX5_makeOrder cX5_makeOrder 7 (some .int) 5 := ⟨gdI (i := 76) (by decide +kernel) rfl, gdI (i := 792) (by decide +kernel) rfl, by decide +kernel, by decide +kernel, by decide +kernel⟩
set_option maxRecDepth 100000 in
theorem IX5_makeOrder : Cond.instanceMethod yX5_makeOrder ∈ lw_gd := gdI (i := 790) (by decide +kernel) rfl
set_option maxRecDepth 100000 in
theorem SX5_makeOrder : Cond.selects yX5_makeOrder.cls yX5_makeOrder yX5_makeOrder ∈ lw_gd := gdI (i := 791) (by decide +kernel) rfl
set_option maxRecDepth 100000 in
theorem MX8_467 : MLK RX8 467 yX5_hasOrder := gdI (i := 812) (by decide +kernel) rfl
set_option maxRecDepth 100000 in
theorem TX8_202_470_206 : THR RX8 "java/lang/IndexOutOfBoundsException" "no such order" 202 470 206 := ⟨gdI (i := 712) (by decide +kernel) rfl, gdI (i := 90) (by decide +kernel) rfl, tbI (i := 813) (by decide +kernel), idxAll [85, 614, 623, 631, 634, 636, 615, 616, 105, 106, 617, 622, 632, 652, 604, 653, 606, 654, 608, 618, 620, 610, 648, 649, 651, 610, 686, 687, 688, 642, 596, 642, 643, 644, 645, 598, 645, 646, 647, 648, 600, 722, 713, 714, 715, 628, 716, 717, 718, 719, 613, 612, 720] (by decide +kernel) (by decide +kernel), by decide +kernel, by decide⟩
set_option maxRecDepth 100000 in
theorem MX8_126 : MLK RX8 126 yX8_requireOrder := gdI (i := 808) (by decide +kernel) rfl
set_option maxRecDepth 100000 in
theorem YX8_requireOrder : MY yX8_requireOrder cX8_requireOrder 2 none 1 := ⟨gdI (i := 75) (by decide +kernel) rfl, gdI (i := 811) (by decide +kernel) rfl, by decide +kernel, by decide +kernel, by decide +kernel⟩
set_option maxRecDepth 100000 in
theorem IX8_requireOrder : Cond.instanceMethod yX8_requireOrder ∈ lw_gd := gdI (i := 810) (by decide +kernel) rfl
set_option maxRecDepth 100000 in
theorem SX8_requireOrder : Cond.selects yX8_requireOrder.cls yX8_requireOrder yX8_requireOrder ∈ lw_gd := gdI (i := 1) (by decide +kernel) rfl
set_option maxRecDepth 100000 in
theorem FX8_129 : FLD RX8 129 5 2 := ⟨by decide, by decide, Or.inr ⟨"PilotRoster", nwI (i := 236) (by decide +kernel) rfl⟩⟩
set_option maxRecDepth 100000 in
theorem FX8_133 : FLD RX8 133 3 0 := ⟨by decide, by decide, Or.inr ⟨"PilotRoster", nwI (i := 132) (by decide +kernel) rfl⟩⟩
set_option maxRecDepth 100000 in
theorem FX8_138 : FLD RX8 138 3 1 := ⟨by decide, by decide, Or.inr ⟨"PilotRoster", nwI (i := 135) (by decide +kernel) rfl⟩⟩
set_option maxRecDepth 100000 in
theorem FX8_141 : FLD RX8 141 3 2 := ⟨by decide, by decide, Or.inr ⟨"PilotRoster", nwI (i := 137) (by decide +kernel) rfl⟩⟩
set_option maxRecDepth 100000 in
theorem FX8_144 : FLD RX8 144 3 3 := ⟨by decide, by decide, Or.inr ⟨"PilotRoster", nwI (i := 140) (by decide +kernel) rfl⟩⟩
set_option maxRecDepth 100000 in
theorem FX8_147 : FLD RX8 147 3 4 := ⟨by decide, by decide, Or.inr ⟨"PilotRoster", nwI (i := 143) (by decide +kernel) rfl⟩⟩
set_option maxRecDepth 100000 in
theorem FX8_150 : FLD RX8 150 3 5 := ⟨by decide, by decide, Or.inr ⟨"PilotRoster", nwI (i := 146) (by decide +kernel) rfl⟩⟩
set_option maxRecDepth 100000 in
theorem FX8_153 : FLD RX8 153 3 6 := ⟨by decide, by decide, Or.inr ⟨"PilotRoster", nwI (i := 149) (by decide +kernel) rfl⟩⟩
set_option maxRecDepth 100000 in
theorem FX8_156 : FLD RX8 156 3 7 := ⟨by decide, by decide, Or.inr ⟨"PilotRoster", nwI (i := 152) (by decide +kernel) rfl⟩⟩
set_option maxRecDepth 100000 in
theorem FX8_159 : FLD RX8 159 3 8 := ⟨by decide, by decide, Or.inr ⟨"PilotRoster", nwI (i := 155) (by decide +kernel) rfl⟩⟩
set_option maxRecDepth 100000 in
theorem FX8_162 : FLD RX8 162 3 9 := ⟨by decide, by decide, Or.inr ⟨"PilotRoster", nwI (i := 158) (by decide +kernel) rfl⟩⟩
set_option maxRecDepth 100000 in
theorem MX8_165 : MLK RX8 165 yX5_hoursOfWindow := gdI (i := 814) (by decide +kernel) rfl
set_option maxRecDepth 100000 in
theorem YX5_hoursOfWindow : MY yX5_hoursOfWindow cX5_hoursOfWindow 4 (some .int) 1 := ⟨gdI (i := 76) (by decide +kernel) rfl, gdI (i := 817) (by decide +kernel) rfl, by decide +kernel, by decide +kernel, by decide +kernel⟩
set_option maxRecDepth 100000 in
theorem IX5_hoursOfWindow : Cond.instanceMethod yX5_hoursOfWindow ∈ lw_gd := gdI (i := 815) (by decide +kernel) rfl
set_option maxRecDepth 100000 in
theorem SX5_hoursOfWindow : Cond.selects yX5_hoursOfWindow.cls yX5_hoursOfWindow yX5_hoursOfWindow ∈ lw_gd := gdI (i := 816) (by decide +kernel) rfl
set_option maxRecDepth 100000 in
theorem TX8_51_169_55 : THR RX8 "java/lang/IllegalArgumentException" "no such number of an order" 51 169 55 := ⟨gdI (i := 592) (by decide +kernel) rfl, gdI (i := 88) (by decide +kernel) rfl, tbI (i := 818) (by decide +kernel), idxAll [85, 614, 623, 631, 634, 636, 615, 616, 105, 106, 617, 622, 632, 652, 604, 653, 606, 654, 608, 618, 620, 610, 648, 649, 651, 610, 639, 640, 641, 642, 596, 642, 643, 644, 645, 598, 645, 646, 647, 648, 600, 638, 593, 594, 601, 602, 603, 605, 607, 609, 613, 612, 611] (by decide +kernel) (by decide +kernel), by decide +kernel, by decide⟩
set_option maxRecDepth 100000 in
theorem MX8_171 : MLK RX8 171 yX5_firstOfWindow := gdI (i := 827) (by decide +kernel) rfl
set_option maxRecDepth 100000 in
theorem TX8_175_177_179 : THR RX8 "java/util/NoSuchElementException" "no such hour in the window" 175 177 179 := ⟨gdI (i := 828) (by decide +kernel) rfl, gdI (i := 94) (by decide +kernel) rfl, tbI (i := 837) (by decide +kernel), idxAll [85, 614, 623, 631, 634, 636, 615, 616, 105, 106, 617, 622, 632, 652, 604, 653, 606, 654, 608, 618, 620, 610, 648, 649, 651, 610, 839, 840, 841, 642, 596, 642, 643, 644, 645, 598, 645, 646, 647, 648, 600, 838, 829, 830, 831, 630, 832, 833, 834, 835, 613, 612, 836] (by decide +kernel) (by decide +kernel), by decide +kernel, by decide⟩
set_option maxRecDepth 100000 in
theorem MX8_472 : MLK RX8 472 yX5_hasPilot := gdI (i := 855) (by decide +kernel) rfl
set_option maxRecDepth 100000 in
theorem TX8_202_475_206 : THR RX8 "java/lang/IndexOutOfBoundsException" "no such pilot" 202 475 206 := ⟨gdI (i := 712) (by decide +kernel) rfl, gdI (i := 90) (by decide +kernel) rfl, tbI (i := 856) (by decide +kernel), idxAll [85, 614, 623, 631, 634, 636, 615, 616, 105, 106, 617, 622, 632, 652, 604, 653, 606, 654, 608, 618, 620, 610, 648, 649, 651, 610, 686, 687, 688, 642, 596, 642, 643, 644, 645, 598, 645, 646, 647, 648, 600, 722, 713, 714, 715, 628, 716, 717, 718, 719, 613, 612, 720] (by decide +kernel) (by decide +kernel), by decide +kernel, by decide⟩
set_option maxRecDepth 100000 in
theorem MX8_180 : MLK RX8 180 yX8_requirePilot := gdI (i := 851) (by decide +kernel) rfl
set_option maxRecDepth 100000 in
theorem YX8_requirePilot : MY yX8_requirePilot cX8_requirePilot 2 none 1 := ⟨gdI (i := 75) (by decide +kernel) rfl, gdI (i := 854) (by decide +kernel) rfl, by decide +kernel, by decide +kernel, by decide +kernel⟩
set_option maxRecDepth 100000 in
theorem IX8_requirePilot : Cond.instanceMethod yX8_requirePilot ∈ lw_gd := gdI (i := 853) (by decide +kernel) rfl
set_option maxRecDepth 100000 in
theorem SX8_requirePilot : Cond.selects yX8_requirePilot.cls yX8_requirePilot yX8_requirePilot ∈ lw_gd := gdI (i := 2) (by decide +kernel) rfl
set_option maxRecDepth 100000 in
theorem FX8_183 : FLD RX8 183 5 3 := ⟨by decide, by decide, Or.inr ⟨"PilotRoster", nwI (i := 238) (by decide +kernel) rfl⟩⟩
set_option maxRecDepth 100000 in
theorem MX8_187 : MLK RX8 187 yX5_reasonAgainstTrip := gdI (i := 857) (by decide +kernel) rfl
set_option maxRecDepth 100000 in
theorem YX5_reasonAgainstTrip : MY yX5_reasonAgainstTrip cX5_reasonAgainstTrip 4 (some .int) 3 := ⟨gdI (i := 76) (by decide +kernel) rfl, gdI (i := 860) (by decide +kernel) rfl, by decide +kernel, by decide +kernel, by decide +kernel⟩
set_option maxRecDepth 100000 in
theorem IX5_reasonAgainstTrip : Cond.instanceMethod yX5_reasonAgainstTrip ∈ lw_gd := gdI (i := 858) (by decide +kernel) rfl
set_option maxRecDepth 100000 in
theorem SX5_reasonAgainstTrip : Cond.selects yX5_reasonAgainstTrip.cls yX5_reasonAgainstTrip yX5_reasonAgainstTrip ∈ lw_gd := gdI (i := 859) (by decide +kernel) rfl
set_option maxRecDepth 100000 in
theorem FX8_48 : FLD RX8 48 8 8 := ⟨by decide, by decide, Or.inl (gdI (i := 357) (by decide +kernel) rfl)⟩
set_option maxRecDepth 100000 in
theorem FX8_450 : FLD RX8 450 8 9 := ⟨by decide, by decide, Or.inl (gdI (i := 358) (by decide +kernel) rfl)⟩
set_option maxRecDepth 100000 in
theorem MX8_434 : MLK RX8 434 yX8_keepRefusal := gdI (i := 873) (by decide +kernel) rfl
set_option maxRecDepth 100000 in
theorem YX8_keepRefusal : MY yX8_keepRefusal cX8_keepRefusal 3 none 2 := ⟨gdI (i := 75) (by decide +kernel) rfl, gdI (i := 876) (by decide +kernel) rfl, by decide +kernel, by decide +kernel, by decide +kernel⟩
set_option maxRecDepth 100000 in
theorem IX8_keepRefusal : Cond.instanceMethod yX8_keepRefusal ∈ lw_gd := gdI (i := 875) (by decide +kernel) rfl
set_option maxRecDepth 100000 in
theorem SX8_keepRefusal : Cond.selects yX8_keepRefusal.cls yX8_keepRefusal yX8_keepRefusal ∈ lw_gd := gdI (i := 4) (by decide +kernel) rfl
set_option maxRecDepth 100000 in
theorem TX8_438_479_442 : THR RX8 "java/lang/UnsupportedOperationException" "refused" 438 479 442 := ⟨gdI (i := 877) (by decide +kernel) rfl, gdI (i := 95) (by decide +kernel) rfl, tbI (i := 886) (by decide +kernel), idxAll [85, 614, 623, 631, 634, 636, 615, 616, 105, 106, 617, 622, 632, 652, 604, 653, 606, 654, 608, 618, 620, 610, 648, 649, 651, 610, 888, 889, 890, 642, 596, 642, 643, 644, 645, 598, 645, 646, 647, 648, 600, 887, 878, 879, 880, 629, 881, 882, 883, 884, 613, 612, 885] (by decide +kernel) (by decide +kernel), by decide +kernel, by decide⟩
set_option maxRecDepth 100000 in
theorem MX8_191 : MLK RX8 191 yX8_refuseFor := gdI (i := 869) (by decide +kernel) rfl
set_option maxRecDepth 100000 in
theorem YX8_refuseFor : MY yX8_refuseFor cX8_refuseFor 2 none 1 := ⟨gdI (i := 75) (by decide +kernel) rfl, gdI (i := 872) (by decide +kernel) rfl, by decide +kernel, by decide +kernel, by decide +kernel⟩
set_option maxRecDepth 100000 in
theorem IX8_refuseFor : Cond.instanceMethod yX8_refuseFor ∈ lw_gd := gdI (i := 871) (by decide +kernel) rfl
set_option maxRecDepth 100000 in
theorem SX8_refuseFor : Cond.selects yX8_refuseFor.cls yX8_refuseFor yX8_refuseFor ∈ lw_gd := gdI (i := 3) (by decide +kernel) rfl
set_option maxRecDepth 100000 in
theorem MX8_194 : MLK RX8 194 yX5_addTrip := gdI (i := 893) (by decide +kernel) rfl
set_option maxRecDepth 100000 in
theorem MX8_198 : MLK RX8 198 yX5_hasBoat := gdI (i := 901) (by decide +kernel) rfl
set_option maxRecDepth 100000 in
theorem TX8_202_207_206 : THR RX8 "java/lang/IndexOutOfBoundsException" "no such hour for a run" 202 207 206 := ⟨gdI (i := 712) (by decide +kernel) rfl, gdI (i := 90) (by decide +kernel) rfl, tbI (i := 903) (by decide +kernel), idxAll [85, 614, 623, 631, 634, 636, 615, 616, 105, 106, 617, 622, 632, 652, 604, 653, 606, 654, 608, 618, 620, 610, 648, 649, 651, 610, 686, 687, 688, 642, 596, 642, 643, 644, 645, 598, 645, 646, 647, 648, 600, 722, 713, 714, 715, 628, 716, 717, 718, 719, 613, 612, 720] (by decide +kernel) (by decide +kernel), by decide +kernel, by decide⟩
set_option maxRecDepth 100000 in
theorem FX8_211 : FLD RX8 211 5 4 := ⟨by decide, by decide, Or.inr ⟨"PilotRoster", nwI (i := 240) (by decide +kernel) rfl⟩⟩
set_option maxRecDepth 100000 in
theorem MX8_215 : MLK RX8 215 yX5_reasonAgainstRun := gdI (i := 905) (by decide +kernel) rfl
set_option maxRecDepth 100000 in
theorem YX5_reasonAgainstRun : MY yX5_reasonAgainstRun cX5_reasonAgainstRun 5 (some .int) 3 := ⟨gdI (i := 76) (by decide +kernel) rfl, gdI (i := 908) (by decide +kernel) rfl, by decide +kernel, by decide +kernel, by decide +kernel⟩
set_option maxRecDepth 100000 in
theorem IX5_reasonAgainstRun : Cond.instanceMethod yX5_reasonAgainstRun ∈ lw_gd := gdI (i := 906) (by decide +kernel) rfl
set_option maxRecDepth 100000 in
theorem SX5_reasonAgainstRun : Cond.selects yX5_reasonAgainstRun.cls yX5_reasonAgainstRun yX5_reasonAgainstRun ∈ lw_gd := gdI (i := 907) (by decide +kernel) rfl
set_option maxRecDepth 100000 in
theorem MX8_219 : MLK RX8 219 yX5_addRun := gdI (i := 915) (by decide +kernel) rfl
set_option maxRecDepth 100000 in
theorem FX8_222 : FLD RX8 222 0 3 := ⟨by decide, by decide, Or.inr ⟨"PilotRoster", nwI (i := 215) (by decide +kernel) rfl⟩⟩
set_option maxRecDepth 100000 in
theorem TX8_51_209_55 : THR RX8 "java/lang/IllegalArgumentException" "no such pilots" 51 209 55 := ⟨gdI (i := 592) (by decide +kernel) rfl, gdI (i := 88) (by decide +kernel) rfl, tbI (i := 904) (by decide +kernel), idxAll [85, 614, 623, 631, 634, 636, 615, 616, 105, 106, 617, 622, 632, 652, 604, 653, 606, 654, 608, 618, 620, 610, 648, 649, 651, 610, 639, 640, 641, 642, 596, 642, 643, 644, 645, 598, 645, 646, 647, 648, 600, 638, 593, 594, 601, 602, 603, 605, 607, 609, 613, 612, 611] (by decide +kernel) (by decide +kernel), by decide +kernel, by decide⟩
set_option maxRecDepth 100000 in
theorem TX8_202_204_206 : THR RX8 "java/lang/IndexOutOfBoundsException" "no such boat" 202 204 206 := ⟨gdI (i := 712) (by decide +kernel) rfl, gdI (i := 90) (by decide +kernel) rfl, tbI (i := 902) (by decide +kernel), idxAll [85, 614, 623, 631, 634, 636, 615, 616, 105, 106, 617, 622, 632, 652, 604, 653, 606, 654, 608, 618, 620, 610, 648, 649, 651, 610, 686, 687, 688, 642, 596, 642, 643, 644, 645, 598, 645, 646, 647, 648, 600, 722, 713, 714, 715, 628, 716, 717, 718, 719, 613, 612, 720] (by decide +kernel) (by decide +kernel), by decide +kernel, by decide⟩
set_option maxRecDepth 100000 in
theorem TX8_51_227_55 : THR RX8 "java/lang/IllegalArgumentException" "no such number of a serving" 51 227 55 := ⟨gdI (i := 592) (by decide +kernel) rfl, gdI (i := 88) (by decide +kernel) rfl, tbI (i := 923) (by decide +kernel), idxAll [85, 614, 623, 631, 634, 636, 615, 616, 105, 106, 617, 622, 632, 652, 604, 653, 606, 654, 608, 618, 620, 610, 648, 649, 651, 610, 639, 640, 641, 642, 596, 642, 643, 644, 645, 598, 645, 646, 647, 648, 600, 638, 593, 594, 601, 602, 603, 605, 607, 609, 613, 612, 611] (by decide +kernel) (by decide +kernel), by decide +kernel, by decide⟩
set_option maxRecDepth 100000 in
theorem FX8_36 : FLD RX8 36 8 4 := ⟨by decide, by decide, Or.inl (gdI (i := 353) (by decide +kernel) rfl)⟩
set_option maxRecDepth 100000 in
theorem MX8_229 : MLK RX8 229 yX5_reasonAgainstServing := gdI (i := 423) (by decide +kernel) rfl
set_option maxRecDepth 100000 in
theorem YX5_reasonAgainstServing : MY yX5_reasonAgainstServing cX5_reasonAgainstServing 5 (some .int) 2 := ⟨gdI (i := 76) (by decide +kernel) rfl, gdI (i := 426) (by decide +kernel) rfl, by decide +kernel, by decide +kernel, by decide +kernel⟩
set_option maxRecDepth 100000 in
theorem IX5_reasonAgainstServing : Cond.instanceMethod yX5_reasonAgainstServing ∈ lw_gd := gdI (i := 424) (by decide +kernel) rfl
set_option maxRecDepth 100000 in
theorem SX5_reasonAgainstServing : Cond.selects yX5_reasonAgainstServing.cls yX5_reasonAgainstServing yX5_reasonAgainstServing ∈ lw_gd := gdI (i := 425) (by decide +kernel) rfl
set_option maxRecDepth 100000 in
theorem FX8_239 : FLD RX8 239 7 2 := ⟨by decide, by decide, Or.inr ⟨"PilotRoster", nwI (i := 340) (by decide +kernel) rfl⟩⟩
set_option maxRecDepth 100000 in
theorem FX8_238 : FLD RX8 238 7 1 := ⟨by decide, by decide, Or.inr ⟨"PilotRoster", nwI (i := 337) (by decide +kernel) rfl⟩⟩
set_option maxRecDepth 100000 in
theorem FX8_235 : FLD RX8 235 7 0 := ⟨by decide, by decide, Or.inr ⟨"PilotRoster", nwI (i := 334) (by decide +kernel) rfl⟩⟩
set_option maxRecDepth 100000 in
theorem TX8_175_233_179 : THR RX8 "java/util/NoSuchElementException" "no way to serve the order" 175 233 179 := ⟨gdI (i := 828) (by decide +kernel) rfl, gdI (i := 94) (by decide +kernel) rfl, tbI (i := 924) (by decide +kernel), idxAll [85, 614, 623, 631, 634, 636, 615, 616, 105, 106, 617, 622, 632, 652, 604, 653, 606, 654, 608, 618, 620, 610, 648, 649, 651, 610, 839, 840, 841, 642, 596, 642, 643, 644, 645, 598, 645, 646, 647, 648, 600, 838, 829, 830, 831, 630, 832, 833, 834, 835, 613, 612, 836] (by decide +kernel) (by decide +kernel), by decide +kernel, by decide⟩
set_option maxRecDepth 100000 in
theorem MX8_242 : MLK RX8 242 yX5_take := gdI (i := 502) (by decide +kernel) rfl
set_option maxRecDepth 100000 in
theorem YX5_take : MY yX5_take cX5_take 3 none 2 := ⟨gdI (i := 76) (by decide +kernel) rfl, gdI (i := 505) (by decide +kernel) rfl, by decide +kernel, by decide +kernel, by decide +kernel⟩
set_option maxRecDepth 100000 in
theorem IX5_take : Cond.instanceMethod yX5_take ∈ lw_gd := gdI (i := 503) (by decide +kernel) rfl
set_option maxRecDepth 100000 in
theorem SX5_take : Cond.selects yX5_take.cls yX5_take yX5_take ∈ lw_gd := gdI (i := 504) (by decide +kernel) rfl
set_option maxRecDepth 100000 in
theorem FX8_40 : FLD RX8 40 8 5 := ⟨by decide, by decide, Or.inl (gdI (i := 354) (by decide +kernel) rfl)⟩
set_option maxRecDepth 100000 in
theorem MX8_246 : MLK RX8 246 yX5_lineUp := gdI (i := 415) (by decide +kernel) rfl
set_option maxRecDepth 100000 in
theorem YX5_lineUp : MY yX5_lineUp cX5_lineUp 5 (some .int) 1 := ⟨gdI (i := 76) (by decide +kernel) rfl, gdI (i := 418) (by decide +kernel) rfl, by decide +kernel, by decide +kernel, by decide +kernel⟩
set_option maxRecDepth 100000 in
theorem IX5_lineUp : Cond.instanceMethod yX5_lineUp ∈ lw_gd := gdI (i := 416) (by decide +kernel) rfl
set_option maxRecDepth 100000 in
theorem SX5_lineUp : Cond.selects yX5_lineUp.cls yX5_lineUp yX5_lineUp ∈ lw_gd := gdI (i := 417) (by decide +kernel) rfl
set_option maxRecDepth 100000 in
theorem MX8_250 : MLK RX8 250 yX5_reasonAgainstRelease := gdI (i := 939) (by decide +kernel) rfl
set_option maxRecDepth 100000 in
theorem YX5_reasonAgainstRelease : MY yX5_reasonAgainstRelease cX5_reasonAgainstRelease 3 (some .int) 1 := ⟨gdI (i := 76) (by decide +kernel) rfl, gdI (i := 942) (by decide +kernel) rfl, by decide +kernel, by decide +kernel, by decide +kernel⟩
set_option maxRecDepth 100000 in
theorem IX5_reasonAgainstRelease : Cond.instanceMethod yX5_reasonAgainstRelease ∈ lw_gd := gdI (i := 940) (by decide +kernel) rfl
set_option maxRecDepth 100000 in
theorem SX5_reasonAgainstRelease : Cond.selects yX5_reasonAgainstRelease.cls yX5_reasonAgainstRelease yX5_reasonAgainstRelease ∈ lw_gd := gdI (i := 941) (by decide +kernel) rfl
set_option maxRecDepth 100000 in
theorem MX8_253 : MLK RX8 253 yX5_removeTrip := gdI (i := 947) (by decide +kernel) rfl
set_option maxRecDepth 100000 in
theorem YX5_removeTrip : MY yX5_removeTrip cX5_removeTrip 2 none 1 := ⟨gdI (i := 76) (by decide +kernel) rfl, gdI (i := 950) (by decide +kernel) rfl, by decide +kernel, by decide +kernel, by decide +kernel⟩
set_option maxRecDepth 100000 in
theorem IX5_removeTrip : Cond.instanceMethod yX5_removeTrip ∈ lw_gd := gdI (i := 948) (by decide +kernel) rfl
set_option maxRecDepth 100000 in
theorem SX5_removeTrip : Cond.selects yX5_removeTrip.cls yX5_removeTrip yX5_removeTrip ∈ lw_gd := gdI (i := 949) (by decide +kernel) rfl
set_option maxRecDepth 100000 in
theorem MX8_256 : MLK RX8 256 yX8_canPutOffBy := gdI (i := 963) (by decide +kernel) rfl
set_option maxRecDepth 100000 in
theorem YX8_canPutOffBy : MY yX8_canPutOffBy cX8_canPutOffBy 1 (some .boolean) 1 := ⟨gdI (i := 75) (by decide +kernel) rfl, gdI (i := 965) (by decide +kernel) rfl, by decide +kernel, by decide +kernel, by decide +kernel⟩
set_option maxRecDepth 100000 in
theorem IX8_canPutOffBy : Cond.static yX8_canPutOffBy ∈ lw_gd := gdI (i := 964) (by decide +kernel) rfl
set_option maxRecDepth 100000 in
theorem MX8_261 : MLK RX8 261 yX3_reasonAgainstDelay := gdI (i := 967) (by decide +kernel) rfl
set_option maxRecDepth 100000 in
theorem YX3_reasonAgainstDelay : MY yX3_reasonAgainstDelay cX3_reasonAgainstDelay 1 (some .int) 0 := ⟨gdI (i := 78) (by decide +kernel) rfl, gdI (i := 970) (by decide +kernel) rfl, by decide +kernel, by decide +kernel, by decide +kernel⟩
set_option maxRecDepth 100000 in
theorem IX3_reasonAgainstDelay : Cond.instanceMethod yX3_reasonAgainstDelay ∈ lw_gd := gdI (i := 968) (by decide +kernel) rfl
set_option maxRecDepth 100000 in
theorem SX3_reasonAgainstDelay : Cond.selects yX3_reasonAgainstDelay.cls yX3_reasonAgainstDelay yX3_reasonAgainstDelay ∈ lw_gd := gdI (i := 969) (by decide +kernel) rfl
set_option maxRecDepth 100000 in
theorem MX8_265 : MLK RX8 265 yX3_delay := gdI (i := 971) (by decide +kernel) rfl
set_option maxRecDepth 100000 in
theorem YX3_delay : MY yX3_delay cX3_delay 2 none 1 := ⟨gdI (i := 78) (by decide +kernel) rfl, gdI (i := 974) (by decide +kernel) rfl, by decide +kernel, by decide +kernel, by decide +kernel⟩
set_option maxRecDepth 100000 in
theorem IX3_delay : Cond.instanceMethod yX3_delay ∈ lw_gd := gdI (i := 972) (by decide +kernel) rfl
set_option maxRecDepth 100000 in
theorem SX3_delay : Cond.selects yX3_delay.cls yX3_delay yX3_delay ∈ lw_gd := gdI (i := 973) (by decide +kernel) rfl
set_option maxRecDepth 100000 in
theorem TX8_51_259_55 : THR RX8 "java/lang/IllegalArgumentException" "no such number of hours" 51 259 55 := ⟨gdI (i := 592) (by decide +kernel) rfl, gdI (i := 88) (by decide +kernel) rfl, tbI (i := 966) (by decide +kernel), idxAll [85, 614, 623, 631, 634, 636, 615, 616, 105, 106, 617, 622, 632, 652, 604, 653, 606, 654, 608, 618, 620, 610, 648, 649, 651, 610, 639, 640, 641, 642, 596, 642, 643, 644, 645, 598, 645, 646, 647, 648, 600, 638, 593, 594, 601, 602, 603, 605, 607, 609, 613, 612, 611] (by decide +kernel) (by decide +kernel), by decide +kernel, by decide⟩
set_option maxRecDepth 100000 in
theorem TX8_175_268_179 : THR RX8 "java/util/NoSuchElementException" "no such place" 175 268 179 := ⟨gdI (i := 828) (by decide +kernel) rfl, gdI (i := 94) (by decide +kernel) rfl, tbI (i := 983) (by decide +kernel), idxAll [85, 614, 623, 631, 634, 636, 615, 616, 105, 106, 617, 622, 632, 652, 604, 653, 606, 654, 608, 618, 620, 610, 648, 649, 651, 610, 839, 840, 841, 642, 596, 642, 643, 644, 645, 598, 645, 646, 647, 648, 600, 838, 829, 830, 831, 630, 832, 833, 834, 835, 613, 612, 836] (by decide +kernel) (by decide +kernel), by decide +kernel, by decide⟩
set_option maxRecDepth 100000 in
theorem FX8_270 : FLD RX8 270 4 0 := ⟨by decide, by decide, Or.inr ⟨"PilotRoster", nwI (i := 189) (by decide +kernel) rfl⟩⟩
set_option maxRecDepth 100000 in
theorem FX8_275 : FLD RX8 275 4 1 := ⟨by decide, by decide, Or.inr ⟨"PilotRoster", nwI (i := 191) (by decide +kernel) rfl⟩⟩
set_option maxRecDepth 100000 in
theorem MX8_278 : MLK RX8 278 yX5_tripsDone := gdI (i := 991) (by decide +kernel) rfl
set_option maxRecDepth 100000 in
theorem YX5_tripsDone : MY yX5_tripsDone cX5_tripsDone 4 (some .int) 1 := ⟨gdI (i := 76) (by decide +kernel) rfl, gdI (i := 994) (by decide +kernel) rfl, by decide +kernel, by decide +kernel, by decide +kernel⟩
set_option maxRecDepth 100000 in
theorem IX5_tripsDone : Cond.instanceMethod yX5_tripsDone ∈ lw_gd := gdI (i := 992) (by decide +kernel) rfl
set_option maxRecDepth 100000 in
theorem SX5_tripsDone : Cond.selects yX5_tripsDone.cls yX5_tripsDone yX5_tripsDone ∈ lw_gd := gdI (i := 993) (by decide +kernel) rfl
set_option maxRecDepth 100000 in
theorem MX8_281 : MLK RX8 281 yX4_legs := gdI (i := 995) (by decide +kernel) rfl
set_option maxRecDepth 100000 in
theorem YX4_legs : MY yX4_legs cX4_legs 1 (some .int) 0 := ⟨gdI (i := 79) (by decide +kernel) rfl, gdI (i := 998) (by decide +kernel) rfl, by decide +kernel, by decide +kernel, by decide +kernel⟩
set_option maxRecDepth 100000 in
theorem IX4_legs : Cond.instanceMethod yX4_legs ∈ lw_gd := gdI (i := 996) (by decide +kernel) rfl
set_option maxRecDepth 100000 in
theorem SX4_legs : Cond.selects yX4_legs.cls yX4_legs yX4_legs ∈ lw_gd := gdI (i := 997) (by decide +kernel) rfl
set_option maxRecDepth 100000 in
theorem MX8_284 : MLK RX8 284 yX4_freeFrom := gdI (i := 999) (by decide +kernel) rfl
set_option maxRecDepth 100000 in
theorem MX8_286 : MLK RX8 286 yX5_restedFrom := gdI (i := 1000) (by decide +kernel) rfl
set_option maxRecDepth 100000 in
theorem MX8_290 : MLK RX8 290 yX4_tripHours := gdI (i := 1001) (by decide +kernel) rfl
set_option maxRecDepth 100000 in
theorem YX4_tripHours : MY yX4_tripHours cX4_tripHours 4 (some .int) 1 := ⟨gdI (i := 79) (by decide +kernel) rfl, gdI (i := 1004) (by decide +kernel) rfl, by decide +kernel, by decide +kernel, by decide +kernel⟩
set_option maxRecDepth 100000 in
theorem IX4_tripHours : Cond.instanceMethod yX4_tripHours ∈ lw_gd := gdI (i := 1002) (by decide +kernel) rfl
set_option maxRecDepth 100000 in
theorem SX4_tripHours : Cond.selects yX4_tripHours.cls yX4_tripHours yX4_tripHours ∈ lw_gd := gdI (i := 1003) (by decide +kernel) rfl
set_option maxRecDepth 100000 in
theorem TX8_51_293_55 : THR RX8 "java/lang/IllegalArgumentException" "no such number of a pilot" 51 293 55 := ⟨gdI (i := 592) (by decide +kernel) rfl, gdI (i := 88) (by decide +kernel) rfl, tbI (i := 1006) (by decide +kernel), idxAll [85, 614, 623, 631, 634, 636, 615, 616, 105, 106, 617, 622, 632, 652, 604, 653, 606, 654, 608, 618, 620, 610, 648, 649, 651, 610, 639, 640, 641, 642, 596, 642, 643, 644, 645, 598, 645, 646, 647, 648, 600, 638, 593, 594, 601, 602, 603, 605, 607, 609, 613, 612, 611] (by decide +kernel) (by decide +kernel), by decide +kernel, by decide⟩
set_option maxRecDepth 100000 in
theorem MX8_295 : MLK RX8 295 yX4_legAt := gdI (i := 1014) (by decide +kernel) rfl
set_option maxRecDepth 100000 in
theorem FX8_301 : FLD RX8 301 2 2 := ⟨by decide, by decide, Or.inr ⟨"PilotRoster", nwI (i := 533) (by decide +kernel) rfl⟩⟩
set_option maxRecDepth 100000 in
theorem FX8_306 : FLD RX8 306 2 4 := ⟨by decide, by decide, Or.inr ⟨"PilotRoster", nwI (i := 539) (by decide +kernel) rfl⟩⟩
set_option maxRecDepth 100000 in
theorem FX8_307 : FLD RX8 307 2 5 := ⟨by decide, by decide, Or.inr ⟨"PilotRoster", nwI (i := 543) (by decide +kernel) rfl⟩⟩
set_option maxRecDepth 100000 in
theorem FX8_308 : FLD RX8 308 2 3 := ⟨by decide, by decide, Or.inr ⟨"PilotRoster", nwI (i := 536) (by decide +kernel) rfl⟩⟩
set_option maxRecDepth 100000 in
theorem FX8_311 : FLD RX8 311 2 6 := ⟨by decide, by decide, Or.inr ⟨"PilotRoster", nwI (i := 546) (by decide +kernel) rfl⟩⟩
set_option maxRecDepth 100000 in
theorem TX8_51_314_55 : THR RX8 "java/lang/IllegalArgumentException" "no such number of a trip or ride" 51 314 55 := ⟨gdI (i := 592) (by decide +kernel) rfl, gdI (i := 88) (by decide +kernel) rfl, tbI (i := 1019) (by decide +kernel), idxAll [85, 614, 623, 631, 634, 636, 615, 616, 105, 106, 617, 622, 632, 652, 604, 653, 606, 654, 608, 618, 620, 610, 648, 649, 651, 610, 639, 640, 641, 642, 596, 642, 643, 644, 645, 598, 645, 646, 647, 648, 600, 638, 593, 594, 601, 602, 603, 605, 607, 609, 613, 612, 611] (by decide +kernel) (by decide +kernel), by decide +kernel, by decide⟩
set_option maxRecDepth 100000 in
theorem TX8_175_299_179 : THR RX8 "java/util/NoSuchElementException" "no such place in the plan" 175 299 179 := ⟨gdI (i := 828) (by decide +kernel) rfl, gdI (i := 94) (by decide +kernel) rfl, tbI (i := 1018) (by decide +kernel), idxAll [85, 614, 623, 631, 634, 636, 615, 616, 105, 106, 617, 622, 632, 652, 604, 653, 606, 654, 608, 618, 620, 610, 648, 649, 651, 610, 839, 840, 841, 642, 596, 642, 643, 644, 645, 598, 645, 646, 647, 648, 600, 838, 829, 830, 831, 630, 832, 833, 834, 835, 613, 612, 836] (by decide +kernel) (by decide +kernel), by decide +kernel, by decide⟩
set_option maxRecDepth 100000 in
theorem MX8_316 : MLK RX8 316 yX4_placeAt := gdI (i := 1027) (by decide +kernel) rfl
set_option maxRecDepth 100000 in
theorem MX8_319 : MLK RX8 319 yX4_placeHourByHour := gdI (i := 1038) (by decide +kernel) rfl
set_option maxRecDepth 100000 in
theorem YX4_placeHourByHour : MY yX4_placeHourByHour cX4_placeHourByHour 5 (some .int) 1 := ⟨gdI (i := 79) (by decide +kernel) rfl, gdI (i := 1041) (by decide +kernel) rfl, by decide +kernel, by decide +kernel, by decide +kernel⟩
set_option maxRecDepth 100000 in
theorem IX4_placeHourByHour : Cond.instanceMethod yX4_placeHourByHour ∈ lw_gd := gdI (i := 1039) (by decide +kernel) rfl
set_option maxRecDepth 100000 in
theorem SX4_placeHourByHour : Cond.selects yX4_placeHourByHour.cls yX4_placeHourByHour yX4_placeHourByHour ∈ lw_gd := gdI (i := 1040) (by decide +kernel) rfl
set_option maxRecDepth 100000 in
theorem FX8_322 : FLD RX8 322 0 0 := ⟨by decide, by decide, Or.inr ⟨"PilotRoster", nwI (i := 207) (by decide +kernel) rfl⟩⟩
set_option maxRecDepth 100000 in
theorem FX8_325 : FLD RX8 325 0 1 := ⟨by decide, by decide, Or.inr ⟨"PilotRoster", nwI (i := 210) (by decide +kernel) rfl⟩⟩
set_option maxRecDepth 100000 in
theorem FX8_328 : FLD RX8 328 0 2 := ⟨by decide, by decide, Or.inr ⟨"PilotRoster", nwI (i := 213) (by decide +kernel) rfl⟩⟩
set_option maxRecDepth 100000 in
theorem FX8_331 : FLD RX8 331 0 4 := ⟨by decide, by decide, Or.inr ⟨"PilotRoster", nwI (i := 219) (by decide +kernel) rfl⟩⟩
set_option maxRecDepth 100000 in
theorem TX8_51_334_55 : THR RX8 "java/lang/IllegalArgumentException" "no such number of a boat" 51 334 55 := ⟨gdI (i := 592) (by decide +kernel) rfl, gdI (i := 88) (by decide +kernel) rfl, tbI (i := 1050) (by decide +kernel), idxAll [85, 614, 623, 631, 634, 636, 615, 616, 105, 106, 617, 622, 632, 652, 604, 653, 606, 654, 608, 618, 620, 610, 648, 649, 651, 610, 639, 640, 641, 642, 596, 642, 643, 644, 645, 598, 645, 646, 647, 648, 600, 638, 593, 594, 601, 602, 603, 605, 607, 609, 613, 612, 611] (by decide +kernel) (by decide +kernel), by decide +kernel, by decide⟩
set_option maxRecDepth 100000 in
theorem MX8_336 : MLK RX8 336 yX8_canPassBy := gdI (i := 1058) (by decide +kernel) rfl
set_option maxRecDepth 100000 in
theorem YX8_canPassBy : MY yX8_canPassBy cX8_canPassBy 1 (some .boolean) 1 := ⟨gdI (i := 75) (by decide +kernel) rfl, gdI (i := 1060) (by decide +kernel) rfl, by decide +kernel, by decide +kernel, by decide +kernel⟩
set_option maxRecDepth 100000 in
theorem IX8_canPassBy : Cond.static yX8_canPassBy ∈ lw_gd := gdI (i := 1059) (by decide +kernel) rfl
set_option maxRecDepth 100000 in
theorem FX8_339 : FLD RX8 339 5 5 := ⟨by decide, by decide, Or.inr ⟨"PilotRoster", nwI (i := 242) (by decide +kernel) rfl⟩⟩
set_option maxRecDepth 100000 in
theorem MX8_344 : MLK RX8 344 yX5_advance := gdI (i := 1062) (by decide +kernel) rfl
set_option maxRecDepth 100000 in
theorem YX5_advance : MY yX5_advance cX5_advance 4 (some .int) 1 := ⟨gdI (i := 76) (by decide +kernel) rfl, gdI (i := 1065) (by decide +kernel) rfl, by decide +kernel, by decide +kernel, by decide +kernel⟩
set_option maxRecDepth 100000 in
theorem IX5_advance : Cond.instanceMethod yX5_advance ∈ lw_gd := gdI (i := 1063) (by decide +kernel) rfl
set_option maxRecDepth 100000 in
theorem SX5_advance : Cond.selects yX5_advance.cls yX5_advance yX5_advance ∈ lw_gd := gdI (i := 1064) (by decide +kernel) rfl
set_option maxRecDepth 100000 in
theorem TX8_93_342_97 : THR RX8 "java/lang/IllegalStateException" "no hour so late" 93 342 97 := ⟨gdI (i := 735) (by decide +kernel) rfl, gdI (i := 93) (by decide +kernel) rfl, tbI (i := 1061) (by decide +kernel), idxAll [85, 614, 623, 631, 634, 636, 615, 616, 105, 106, 617, 622, 632, 652, 604, 653, 606, 654, 608, 618, 620, 610, 648, 649, 651, 610, 746, 747, 748, 642, 596, 642, 643, 644, 645, 598, 645, 646, 647, 648, 600, 745, 736, 737, 738, 627, 739, 740, 741, 742, 613, 612, 743] (by decide +kernel) (by decide +kernel), by decide +kernel, by decide⟩
set_option maxRecDepth 100000 in
theorem MX8_347 : MLK RX8 347 yX5_ordersIn := gdI (i := 1085) (by decide +kernel) rfl
set_option maxRecDepth 100000 in
theorem YX5_ordersIn : MY yX5_ordersIn cX5_ordersIn 4 (some .int) 1 := ⟨gdI (i := 76) (by decide +kernel) rfl, gdI (i := 1088) (by decide +kernel) rfl, by decide +kernel, by decide +kernel, by decide +kernel⟩
set_option maxRecDepth 100000 in
theorem IX5_ordersIn : Cond.instanceMethod yX5_ordersIn ∈ lw_gd := gdI (i := 1086) (by decide +kernel) rfl
set_option maxRecDepth 100000 in
theorem SX5_ordersIn : Cond.selects yX5_ordersIn.cls yX5_ordersIn yX5_ordersIn ∈ lw_gd := gdI (i := 1087) (by decide +kernel) rfl
set_option maxRecDepth 100000 in
theorem MX8_350 : MLK RX8 350 yX5_allRuns := gdI (i := 1089) (by decide +kernel) rfl
set_option maxRecDepth 100000 in
theorem YX5_allRuns : MY yX5_allRuns cX5_allRuns 3 (some .int) 0 := ⟨gdI (i := 76) (by decide +kernel) rfl, gdI (i := 1092) (by decide +kernel) rfl, by decide +kernel, by decide +kernel, by decide +kernel⟩
set_option maxRecDepth 100000 in
theorem IX5_allRuns : Cond.instanceMethod yX5_allRuns ∈ lw_gd := gdI (i := 1090) (by decide +kernel) rfl
set_option maxRecDepth 100000 in
theorem SX5_allRuns : Cond.selects yX5_allRuns.cls yX5_allRuns yX5_allRuns ∈ lw_gd := gdI (i := 1091) (by decide +kernel) rfl
set_option maxRecDepth 100000 in
theorem MX8_353 : MLK RX8 353 yX5_allRides := gdI (i := 1093) (by decide +kernel) rfl
set_option maxRecDepth 100000 in
theorem YX5_allRides : MY yX5_allRides cX5_allRides 3 (some .int) 0 := ⟨gdI (i := 76) (by decide +kernel) rfl, gdI (i := 1096) (by decide +kernel) rfl, by decide +kernel, by decide +kernel, by decide +kernel⟩
set_option maxRecDepth 100000 in
theorem IX5_allRides : Cond.instanceMethod yX5_allRides ∈ lw_gd := gdI (i := 1094) (by decide +kernel) rfl
set_option maxRecDepth 100000 in
theorem SX5_allRides : Cond.selects yX5_allRides.cls yX5_allRides yX5_allRides ∈ lw_gd := gdI (i := 1095) (by decide +kernel) rfl
set_option maxRecDepth 100000 in
theorem MX8_356 : MLK RX8 356 yX5_allTripHours := gdI (i := 1097) (by decide +kernel) rfl
set_option maxRecDepth 100000 in
theorem YX5_allTripHours : MY yX5_allTripHours cX5_allTripHours 3 (some .int) 0 := ⟨gdI (i := 76) (by decide +kernel) rfl, gdI (i := 1100) (by decide +kernel) rfl, by decide +kernel, by decide +kernel, by decide +kernel⟩
set_option maxRecDepth 100000 in
theorem IX5_allTripHours : Cond.instanceMethod yX5_allTripHours ∈ lw_gd := gdI (i := 1098) (by decide +kernel) rfl
set_option maxRecDepth 100000 in
theorem SX5_allTripHours : Cond.selects yX5_allTripHours.cls yX5_allTripHours yX5_allTripHours ∈ lw_gd := gdI (i := 1099) (by decide +kernel) rfl
set_option maxRecDepth 100000 in
theorem MX8_359 : MLK RX8 359 yX5_allPutOffs := gdI (i := 1105) (by decide +kernel) rfl
set_option maxRecDepth 100000 in
theorem YX5_allPutOffs : MY yX5_allPutOffs cX5_allPutOffs 3 (some .int) 0 := ⟨gdI (i := 76) (by decide +kernel) rfl, gdI (i := 1108) (by decide +kernel) rfl, by decide +kernel, by decide +kernel, by decide +kernel⟩
set_option maxRecDepth 100000 in
theorem IX5_allPutOffs : Cond.instanceMethod yX5_allPutOffs ∈ lw_gd := gdI (i := 1106) (by decide +kernel) rfl
set_option maxRecDepth 100000 in
theorem SX5_allPutOffs : Cond.selects yX5_allPutOffs.cls yX5_allPutOffs yX5_allPutOffs ∈ lw_gd := gdI (i := 1107) (by decide +kernel) rfl
set_option maxRecDepth 100000 in
theorem MX8_362 : MLK RX8 362 yX5_pilotsUnderWay := gdI (i := 1109) (by decide +kernel) rfl
set_option maxRecDepth 100000 in
theorem YX5_pilotsUnderWay : MY yX5_pilotsUnderWay cX5_pilotsUnderWay 3 (some .int) 0 := ⟨gdI (i := 76) (by decide +kernel) rfl, gdI (i := 1112) (by decide +kernel) rfl, by decide +kernel, by decide +kernel, by decide +kernel⟩
set_option maxRecDepth 100000 in
theorem IX5_pilotsUnderWay : Cond.instanceMethod yX5_pilotsUnderWay ∈ lw_gd := gdI (i := 1110) (by decide +kernel) rfl
set_option maxRecDepth 100000 in
theorem SX5_pilotsUnderWay : Cond.selects yX5_pilotsUnderWay.cls yX5_pilotsUnderWay yX5_pilotsUnderWay ∈ lw_gd := gdI (i := 1111) (by decide +kernel) rfl
set_option maxRecDepth 100000 in
theorem FX8_365 : FLD RX8 365 1 2 := ⟨by decide, by decide, Or.inr ⟨"PilotRoster", nwI (i := 280) (by decide +kernel) rfl⟩⟩
set_option maxRecDepth 100000 in
theorem FX8_29 : FLD RX8 29 8 3 := ⟨by decide, by decide, Or.inl (gdI (i := 352) (by decide +kernel) rfl)⟩
set_option maxRecDepth 100000 in
theorem FX8_368 : FLD RX8 368 6 1 := ⟨by decide, by decide, Or.inr ⟨"PilotRoster", nwI (i := 296) (by decide +kernel) rfl⟩⟩
set_option maxRecDepth 100000 in
theorem TX8_51_371_55 : THR RX8 "java/lang/IllegalArgumentException" "no such number" 51 371 55 := ⟨gdI (i := 592) (by decide +kernel) rfl, gdI (i := 88) (by decide +kernel) rfl, tbI (i := 1114) (by decide +kernel), idxAll [85, 614, 623, 631, 634, 636, 615, 616, 105, 106, 617, 622, 632, 652, 604, 653, 606, 654, 608, 618, 620, 610, 648, 649, 651, 610, 639, 640, 641, 642, 596, 642, 643, 644, 645, 598, 645, 646, 647, 648, 600, 638, 593, 594, 601, 602, 603, 605, 607, 609, 613, 612, 611] (by decide +kernel) (by decide +kernel), by decide +kernel, by decide⟩
set_option maxRecDepth 100000 in
theorem MX8_378 : MLK RX8 378 yX5_allWaits := gdI (i := 1139) (by decide +kernel) rfl
set_option maxRecDepth 100000 in
theorem YX5_allWaits : MY yX5_allWaits cX5_allWaits 3 (some .int) 0 := ⟨gdI (i := 76) (by decide +kernel) rfl, gdI (i := 1142) (by decide +kernel) rfl, by decide +kernel, by decide +kernel, by decide +kernel⟩
set_option maxRecDepth 100000 in
theorem IX5_allWaits : Cond.instanceMethod yX5_allWaits ∈ lw_gd := gdI (i := 1140) (by decide +kernel) rfl
set_option maxRecDepth 100000 in
theorem SX5_allWaits : Cond.selects yX5_allWaits.cls yX5_allWaits yX5_allWaits ∈ lw_gd := gdI (i := 1141) (by decide +kernel) rfl
set_option maxRecDepth 100000 in
theorem TX8_373_375_377 : THR RX8 "java/lang/ArithmeticException" "no trips" 373 375 377 := ⟨gdI (i := 1136) (by decide +kernel) rfl, gdI (i := 98) (by decide +kernel) rfl, tbI (i := 1137) (by decide +kernel), idxAll [85, 614, 623, 631, 634, 636, 615, 616, 105, 106, 617, 622, 632, 652, 604, 653, 606, 654, 608, 618, 620, 610, 648, 649, 651, 610, 1120, 1121, 1122, 642, 596, 642, 643, 644, 645, 598, 645, 646, 647, 648, 600, 1138, 1119, 1130, 1131, 625, 1125, 1126, 1128, 1124, 613, 612, 1123] (by decide +kernel) (by decide +kernel), by decide +kernel, by decide⟩
set_option maxRecDepth 100000 in
theorem TX8_373_381_377 : THR RX8 "java/lang/ArithmeticException" "no hours" 373 381 377 := ⟨gdI (i := 1136) (by decide +kernel) rfl, gdI (i := 98) (by decide +kernel) rfl, tbI (i := 1150) (by decide +kernel), idxAll [85, 614, 623, 631, 634, 636, 615, 616, 105, 106, 617, 622, 632, 652, 604, 653, 606, 654, 608, 618, 620, 610, 648, 649, 651, 610, 1120, 1121, 1122, 642, 596, 642, 643, 644, 645, 598, 645, 646, 647, 648, 600, 1138, 1119, 1130, 1131, 625, 1125, 1126, 1128, 1124, 613, 612, 1123] (by decide +kernel) (by decide +kernel), by decide +kernel, by decide⟩
set_option maxRecDepth 100000 in
theorem MX8_385 : MLK RX8 385 yX6_append := gdI (i := 1159) (by decide +kernel) rfl
set_option maxRecDepth 100000 in
theorem YX6_append : MY yX6_append cX6_append 2 none 1 := ⟨gdI (i := 82) (by decide +kernel) rfl, gdI (i := 1162) (by decide +kernel) rfl, by decide +kernel, by decide +kernel, by decide +kernel⟩
set_option maxRecDepth 100000 in
theorem IX6_append : Cond.instanceMethod yX6_append ∈ lw_gd := gdI (i := 1160) (by decide +kernel) rfl
set_option maxRecDepth 100000 in
theorem SX6_append : Cond.selects yX6_append.cls yX6_append yX6_append ∈ lw_gd := gdI (i := 1161) (by decide +kernel) rfl
set_option maxRecDepth 100000 in
theorem TX8_93_383_97 : THR RX8 "java/lang/IllegalStateException" "the input is full" 93 383 97 := ⟨gdI (i := 735) (by decide +kernel) rfl, gdI (i := 93) (by decide +kernel) rfl, tbI (i := 1158) (by decide +kernel), idxAll [85, 614, 623, 631, 634, 636, 615, 616, 105, 106, 617, 622, 632, 652, 604, 653, 606, 654, 608, 618, 620, 610, 648, 649, 651, 610, 746, 747, 748, 642, 596, 642, 643, 644, 645, 598, 645, 646, 647, 648, 600, 745, 736, 737, 738, 627, 739, 740, 741, 742, 613, 612, 743] (by decide +kernel) (by decide +kernel), by decide +kernel, by decide⟩
set_option maxRecDepth 100000 in
theorem FX8_481 : FLD RX8 481 6 4 := ⟨by decide, by decide, Or.inr ⟨"PilotRoster", nwI (i := 302) (by decide +kernel) rfl⟩⟩
set_option maxRecDepth 100000 in
theorem FX8_412 : FLD RX8 412 6 5 := ⟨by decide, by decide, Or.inr ⟨"PilotRoster", nwI (i := 304) (by decide +kernel) rfl⟩⟩
set_option maxRecDepth 100000 in
theorem FX8_418 : FLD RX8 418 6 6 := ⟨by decide, by decide, Or.inr ⟨"PilotRoster", nwI (i := 306) (by decide +kernel) rfl⟩⟩
set_option maxRecDepth 100000 in
theorem FX8_482 : FLD RX8 482 6 7 := ⟨by decide, by decide, Or.inr ⟨"PilotRoster", nwI (i := 308) (by decide +kernel) rfl⟩⟩
set_option maxRecDepth 100000 in
theorem MX8_389 : MLK RX8 389 yX6_countItems := gdI (i := 1170) (by decide +kernel) rfl
set_option maxRecDepth 100000 in
theorem YX6_countItems : MY yX6_countItems cX6_countItems 2 (some .int) 0 := ⟨gdI (i := 82) (by decide +kernel) rfl, gdI (i := 1173) (by decide +kernel) rfl, by decide +kernel, by decide +kernel, by decide +kernel⟩
set_option maxRecDepth 100000 in
theorem IX6_countItems : Cond.instanceMethod yX6_countItems ∈ lw_gd := gdI (i := 1171) (by decide +kernel) rfl
set_option maxRecDepth 100000 in
theorem SX6_countItems : Cond.selects yX6_countItems.cls yX6_countItems yX6_countItems ∈ lw_gd := gdI (i := 1172) (by decide +kernel) rfl
set_option maxRecDepth 100000 in
theorem MX8_400 : MLK RX8 400 yX1_prepare := gdI (i := 1207) (by decide +kernel) rfl
set_option maxRecDepth 100000 in
theorem MX8_403 : MLK RX8 403 yX6_rewind := gdI (i := 1208) (by decide +kernel) rfl
set_option maxRecDepth 100000 in
theorem FX8_392 : FLD RX8 392 6 2 := ⟨by decide, by decide, Or.inr ⟨"PilotRoster", nwI (i := 298) (by decide +kernel) rfl⟩⟩
set_option maxRecDepth 100000 in
theorem FX8_44 : FLD RX8 44 8 7 := ⟨by decide, by decide, Or.inl (gdI (i := 356) (by decide +kernel) rfl)⟩
set_option maxRecDepth 100000 in
theorem MX8_395 : MLK RX8 395 yX6_clear := gdI (i := 1202) (by decide +kernel) rfl
set_option maxRecDepth 100000 in
theorem YX6_clear : MY yX6_clear cX6_clear 1 none 0 := ⟨gdI (i := 82) (by decide +kernel) rfl, gdI (i := 1205) (by decide +kernel) rfl, by decide +kernel, by decide +kernel, by decide +kernel⟩
set_option maxRecDepth 100000 in
theorem IX6_clear : Cond.instanceMethod yX6_clear ∈ lw_gd := gdI (i := 1203) (by decide +kernel) rfl
set_option maxRecDepth 100000 in
theorem SX6_clear : Cond.selects yX6_clear.cls yX6_clear yX6_clear ∈ lw_gd := gdI (i := 1204) (by decide +kernel) rfl
set_option maxRecDepth 100000 in
theorem TX8_51_398_55 : THR RX8 "java/lang/IllegalArgumentException" "no text" 51 398 55 := ⟨gdI (i := 592) (by decide +kernel) rfl, gdI (i := 88) (by decide +kernel) rfl, tbI (i := 1206) (by decide +kernel), idxAll [85, 614, 623, 631, 634, 636, 615, 616, 105, 106, 617, 622, 632, 652, 604, 653, 606, 654, 608, 618, 620, 610, 648, 649, 651, 610, 639, 640, 641, 642, 596, 642, 643, 644, 645, 598, 645, 646, 647, 648, 600, 638, 593, 594, 601, 602, 603, 605, 607, 609, 613, 612, 611] (by decide +kernel) (by decide +kernel), by decide +kernel, by decide⟩
set_option maxRecDepth 100000 in
theorem MX8_406 : MLK RX8 406 yX6_nextItem := gdI (i := 1209) (by decide +kernel) rfl
set_option maxRecDepth 100000 in
theorem YX6_nextItem : MY yX6_nextItem cX6_nextItem 1 none 0 := ⟨gdI (i := 82) (by decide +kernel) rfl, gdI (i := 1212) (by decide +kernel) rfl, by decide +kernel, by decide +kernel, by decide +kernel⟩
set_option maxRecDepth 100000 in
theorem IX6_nextItem : Cond.instanceMethod yX6_nextItem ∈ lw_gd := gdI (i := 1210) (by decide +kernel) rfl
set_option maxRecDepth 100000 in
theorem SX6_nextItem : Cond.selects yX6_nextItem.cls yX6_nextItem yX6_nextItem ∈ lw_gd := gdI (i := 1211) (by decide +kernel) rfl
set_option maxRecDepth 100000 in
theorem FX8_409 : FLD RX8 409 6 3 := ⟨by decide, by decide, Or.inr ⟨"PilotRoster", nwI (i := 300) (by decide +kernel) rfl⟩⟩
set_option maxRecDepth 100000 in
theorem MX8_421 : MLK RX8 421 yX8_carryOutPutOff := gdI (i := 1217) (by decide +kernel) rfl
set_option maxRecDepth 100000 in
theorem YX8_carryOutPutOff : MY yX8_carryOutPutOff cX8_carryOutPutOff 4 (some .int) 2 := ⟨gdI (i := 75) (by decide +kernel) rfl, gdI (i := 1220) (by decide +kernel) rfl, by decide +kernel, by decide +kernel, by decide +kernel⟩
set_option maxRecDepth 100000 in
theorem IX8_carryOutPutOff : Cond.instanceMethod yX8_carryOutPutOff ∈ lw_gd := gdI (i := 1219) (by decide +kernel) rfl
set_option maxRecDepth 100000 in
theorem SX8_carryOutPutOff : Cond.selects yX8_carryOutPutOff.cls yX8_carryOutPutOff yX8_carryOutPutOff ∈ lw_gd := gdI (i := 11) (by decide +kernel) rfl
set_option maxRecDepth 100000 in
theorem MX8_415 : MLK RX8 415 yX8_carryOutServe := gdI (i := 1213) (by decide +kernel) rfl
set_option maxRecDepth 100000 in
theorem YX8_carryOutServe : MY yX8_carryOutServe cX8_carryOutServe 3 (some .int) 1 := ⟨gdI (i := 75) (by decide +kernel) rfl, gdI (i := 1216) (by decide +kernel) rfl, by decide +kernel, by decide +kernel, by decide +kernel⟩
set_option maxRecDepth 100000 in
theorem IX8_carryOutServe : Cond.instanceMethod yX8_carryOutServe ∈ lw_gd := gdI (i := 1215) (by decide +kernel) rfl
set_option maxRecDepth 100000 in
theorem SX8_carryOutServe : Cond.selects yX8_carryOutServe.cls yX8_carryOutServe yX8_carryOutServe ∈ lw_gd := gdI (i := 10) (by decide +kernel) rfl
set_option maxRecDepth 100000 in
theorem MX8_425 : MLK RX8 425 yX8_carryOutPass := gdI (i := 1221) (by decide +kernel) rfl
set_option maxRecDepth 100000 in
theorem YX8_carryOutPass : MY yX8_carryOutPass cX8_carryOutPass 2 (some .int) 1 := ⟨gdI (i := 75) (by decide +kernel) rfl, gdI (i := 1224) (by decide +kernel) rfl, by decide +kernel, by decide +kernel, by decide +kernel⟩
set_option maxRecDepth 100000 in
theorem IX8_carryOutPass : Cond.instanceMethod yX8_carryOutPass ∈ lw_gd := gdI (i := 1223) (by decide +kernel) rfl
set_option maxRecDepth 100000 in
theorem SX8_carryOutPass : Cond.selects yX8_carryOutPass.cls yX8_carryOutPass yX8_carryOutPass ∈ lw_gd := gdI (i := 12) (by decide +kernel) rfl
set_option maxRecDepth 100000 in
theorem MX8_428 : MLK RX8 428 yX8_carryOutOrder := gdI (i := 1225) (by decide +kernel) rfl
set_option maxRecDepth 100000 in
theorem YX8_carryOutOrder : MY yX8_carryOutOrder cX8_carryOutOrder 2 (some .int) 1 := ⟨gdI (i := 75) (by decide +kernel) rfl, gdI (i := 1228) (by decide +kernel) rfl, by decide +kernel, by decide +kernel, by decide +kernel⟩
set_option maxRecDepth 100000 in
theorem IX8_carryOutOrder : Cond.instanceMethod yX8_carryOutOrder ∈ lw_gd := gdI (i := 1227) (by decide +kernel) rfl
set_option maxRecDepth 100000 in
theorem SX8_carryOutOrder : Cond.selects yX8_carryOutOrder.cls yX8_carryOutOrder yX8_carryOutOrder ∈ lw_gd := gdI (i := 13) (by decide +kernel) rfl
set_option maxRecDepth 100000 in
theorem MX8_443 : MLK RX8 443 yX1_commit := gdI (i := 1234) (by decide +kernel) rfl
set_option maxRecDepth 100000 in
theorem MX8_431 : MLK RX8 431 yX1_takeBack := gdI (i := 1229) (by decide +kernel) rfl
set_option maxRecDepth 100000 in
theorem TX8_438_440_442 : THR RX8 "java/lang/UnsupportedOperationException" "an item is refused" 438 440 442 := ⟨gdI (i := 877) (by decide +kernel) rfl, gdI (i := 95) (by decide +kernel) rfl, tbI (i := 1233) (by decide +kernel), idxAll [85, 614, 623, 631, 634, 636, 615, 616, 105, 106, 617, 622, 632, 652, 604, 653, 606, 654, 608, 618, 620, 610, 648, 649, 651, 610, 888, 889, 890, 642, 596, 642, 643, 644, 645, 598, 645, 646, 647, 648, 600, 887, 878, 879, 880, 629, 881, 882, 883, 884, 613, 612, 885] (by decide +kernel) (by decide +kernel), by decide +kernel, by decide⟩
set_option maxRecDepth 100000 in
theorem TX8_175_446_179 : THR RX8 "java/util/NoSuchElementException" "no fault" 175 446 179 := ⟨gdI (i := 828) (by decide +kernel) rfl, gdI (i := 94) (by decide +kernel) rfl, tbI (i := 1242) (by decide +kernel), idxAll [85, 614, 623, 631, 634, 636, 615, 616, 105, 106, 617, 622, 632, 652, 604, 653, 606, 654, 608, 618, 620, 610, 648, 649, 651, 610, 839, 840, 841, 642, 596, 642, 643, 644, 645, 598, 645, 646, 647, 648, 600, 838, 829, 830, 831, 630, 832, 833, 834, 835, 613, 612, 836] (by decide +kernel) (by decide +kernel), by decide +kernel, by decide⟩
set_option maxRecDepth 100000 in
theorem TX8_175_448_179 : THR RX8 "java/util/NoSuchElementException" "no refusal" 175 448 179 := ⟨gdI (i := 828) (by decide +kernel) rfl, gdI (i := 94) (by decide +kernel) rfl, tbI (i := 1250) (by decide +kernel), idxAll [85, 614, 623, 631, 634, 636, 615, 616, 105, 106, 617, 622, 632, 652, 604, 653, 606, 654, 608, 618, 620, 610, 648, 649, 651, 610, 839, 840, 841, 642, 596, 642, 643, 644, 645, 598, 645, 646, 647, 648, 600, 838, 829, 830, 831, 630, 832, 833, 834, 835, 613, 612, 836] (by decide +kernel) (by decide +kernel), by decide +kernel, by decide⟩
set_option maxRecDepth 100000 in
theorem MX8_455 : MLK RX8 455 yX1_stepBack := gdI (i := 1259) (by decide +kernel) rfl
set_option maxRecDepth 100000 in
theorem YX1_stepBack : MY yX1_stepBack cX1_stepBack 2 none 1 := ⟨gdI (i := 81) (by decide +kernel) rfl, gdI (i := 1262) (by decide +kernel) rfl, by decide +kernel, by decide +kernel, by decide +kernel⟩
set_option maxRecDepth 100000 in
theorem IX1_stepBack : Cond.instanceMethod yX1_stepBack ∈ lw_gd := gdI (i := 1260) (by decide +kernel) rfl
set_option maxRecDepth 100000 in
theorem SX1_stepBack : Cond.selects yX1_stepBack.cls yX1_stepBack yX1_stepBack ∈ lw_gd := gdI (i := 1261) (by decide +kernel) rfl
set_option maxRecDepth 100000 in
theorem TX8_93_453_97 : THR RX8 "java/lang/IllegalStateException" "nothing to undo" 93 453 97 := ⟨gdI (i := 735) (by decide +kernel) rfl, gdI (i := 93) (by decide +kernel) rfl, tbI (i := 1258) (by decide +kernel), idxAll [85, 614, 623, 631, 634, 636, 615, 616, 105, 106, 617, 622, 632, 652, 604, 653, 606, 654, 608, 618, 620, 610, 648, 649, 651, 610, 746, 747, 748, 642, 596, 642, 643, 644, 645, 598, 645, 646, 647, 648, 600, 745, 736, 737, 738, 627, 739, 740, 741, 742, 613, 612, 743] (by decide +kernel) (by decide +kernel), by decide +kernel, by decide⟩
set_option maxRecDepth 100000 in
theorem FX8_16 : FLD RX8 16 8 1 := ⟨by decide, by decide, Or.inl (gdI (i := 350) (by decide +kernel) rfl)⟩
set_option maxRecDepth 100000 in
theorem MX8_458 : MLK RX8 458 yX5_copyFrom := gdI (i := 583) (by decide +kernel) rfl
set_option maxRecDepth 100000 in
theorem FX8_461 : FLD RX8 461 8 6 := ⟨by decide, by decide, Or.inl (gdI (i := 355) (by decide +kernel) rfl)⟩
set_option maxRecDepth 100000 in
theorem TX8_93_465_97 : THR RX8 "java/lang/IllegalStateException" "no snapshot" 93 465 97 := ⟨gdI (i := 735) (by decide +kernel) rfl, gdI (i := 93) (by decide +kernel) rfl, tbI (i := 1271) (by decide +kernel), idxAll [85, 614, 623, 631, 634, 636, 615, 616, 105, 106, 617, 622, 632, 652, 604, 653, 606, 654, 608, 618, 620, 610, 648, 649, 651, 610, 746, 747, 748, 642, 596, 642, 643, 644, 645, 598, 645, 646, 647, 648, 600, 745, 736, 737, 738, 627, 739, 740, 741, 742, 613, 612, 743] (by decide +kernel) (by decide +kernel), by decide +kernel, by decide⟩
set_option maxRecDepth 100000 in
theorem FX9_87 : FLD RX9 87 9 0 := ⟨by decide, by decide, Or.inl (gdI (i := 1278) (by decide +kernel) rfl)⟩
set_option maxRecDepth 100000 in
theorem MX9_90 : MLK RX9 90 yX9_isBetween := gdI (i := 1425) (by decide +kernel) rfl
set_option maxRecDepth 100000 in
theorem YX9_isBetween : MY yX9_isBetween cX9_isBetween 3 (some .boolean) 3 := ⟨gdI (i := 84) (by decide +kernel) rfl, gdI (i := 1427) (by decide +kernel) rfl, by decide +kernel, by decide +kernel, by decide +kernel⟩
set_option maxRecDepth 100000 in
theorem IX9_isBetween : Cond.static yX9_isBetween ∈ lw_gd := gdI (i := 1426) (by decide +kernel) rfl
set_option maxRecDepth 100000 in
theorem FX9_94 : FLD RX9 94 9 20 := ⟨by decide, by decide, Or.inl (gdI (i := 1298) (by decide +kernel) rfl)⟩
set_option maxRecDepth 100000 in
theorem FX9_97 : FLD RX9 97 9 21 := ⟨by decide, by decide, Or.inl (gdI (i := 1299) (by decide +kernel) rfl)⟩
set_option maxRecDepth 100000 in
theorem FX9_100 : FLD RX9 100 9 22 := ⟨by decide, by decide, Or.inl (gdI (i := 1300) (by decide +kernel) rfl)⟩
set_option maxRecDepth 100000 in
theorem FX9_16 : FLD RX9 16 9 3 := ⟨by decide, by decide, Or.inl (gdI (i := 1281) (by decide +kernel) rfl)⟩
set_option maxRecDepth 100000 in
theorem FX9_37 : FLD RX9 37 9 10 := ⟨by decide, by decide, Or.inl (gdI (i := 1288) (by decide +kernel) rfl)⟩
set_option maxRecDepth 100000 in
theorem MX9_103 : MLK RX9 103 yX9_length := gdI (i := 1499) (by decide +kernel) rfl
set_option maxRecDepth 100000 in
theorem YX9_length : MY yX9_length cX9_length 2 (some .int) 1 := ⟨gdI (i := 84) (by decide +kernel) rfl, gdI (i := 1502) (by decide +kernel) rfl, by decide +kernel, by decide +kernel, by decide +kernel⟩
set_option maxRecDepth 100000 in
theorem IX9_length : Cond.instanceMethod yX9_length ∈ lw_gd := gdI (i := 1501) (by decide +kernel) rfl
set_option maxRecDepth 100000 in
theorem SX9_length : Cond.selects yX9_length.cls yX9_length yX9_length ∈ lw_gd := gdI (i := 24) (by decide +kernel) rfl
set_option maxRecDepth 100000 in
theorem FX9_31 : FLD RX9 31 9 8 := ⟨by decide, by decide, Or.inl (gdI (i := 1286) (by decide +kernel) rfl)⟩
set_option maxRecDepth 100000 in
theorem MX9_107 : MLK RX9 107 yX9_hasTrip := gdI (i := 1491) (by decide +kernel) rfl
set_option maxRecDepth 100000 in
theorem YX9_hasTrip : MY yX9_hasTrip cX9_hasTrip 2 (some .boolean) 1 := ⟨gdI (i := 84) (by decide +kernel) rfl, gdI (i := 1494) (by decide +kernel) rfl, by decide +kernel, by decide +kernel, by decide +kernel⟩
set_option maxRecDepth 100000 in
theorem IX9_hasTrip : Cond.instanceMethod yX9_hasTrip ∈ lw_gd := gdI (i := 1493) (by decide +kernel) rfl
set_option maxRecDepth 100000 in
theorem SX9_hasTrip : Cond.selects yX9_hasTrip.cls yX9_hasTrip yX9_hasTrip ∈ lw_gd := gdI (i := 22) (by decide +kernel) rfl
set_option maxRecDepth 100000 in
theorem FX9_34 : FLD RX9 34 9 9 := ⟨by decide, by decide, Or.inl (gdI (i := 1287) (by decide +kernel) rfl)⟩
set_option maxRecDepth 100000 in
theorem FX9_19 : FLD RX9 19 9 4 := ⟨by decide, by decide, Or.inl (gdI (i := 1282) (by decide +kernel) rfl)⟩
set_option maxRecDepth 100000 in
theorem FX9_7 : FLD RX9 7 9 1 := ⟨by decide, by decide, Or.inl (gdI (i := 1279) (by decide +kernel) rfl)⟩
set_option maxRecDepth 100000 in
theorem FX9_13 : FLD RX9 13 9 2 := ⟨by decide, by decide, Or.inl (gdI (i := 1280) (by decide +kernel) rfl)⟩
set_option maxRecDepth 100000 in
theorem MX9_111 : MLK RX9 111 yX9_depthAt := gdI (i := 1467) (by decide +kernel) rfl
set_option maxRecDepth 100000 in
theorem YX9_depthAt : MY yX9_depthAt cX9_depthAt 2 (some .int) 1 := ⟨gdI (i := 84) (by decide +kernel) rfl, gdI (i := 1470) (by decide +kernel) rfl, by decide +kernel, by decide +kernel, by decide +kernel⟩
set_option maxRecDepth 100000 in
theorem IX9_depthAt : Cond.instanceMethod yX9_depthAt ∈ lw_gd := gdI (i := 1469) (by decide +kernel) rfl
set_option maxRecDepth 100000 in
theorem SX9_depthAt : Cond.selects yX9_depthAt.cls yX9_depthAt yX9_depthAt ∈ lw_gd := gdI (i := 20) (by decide +kernel) rfl
set_option maxRecDepth 100000 in
theorem FX9_22 : FLD RX9 22 9 5 := ⟨by decide, by decide, Or.inl (gdI (i := 1283) (by decide +kernel) rfl)⟩
set_option maxRecDepth 100000 in
theorem FX9_118 : FLD RX9 118 9 24 := ⟨by decide, by decide, Or.inl (gdI (i := 1302) (by decide +kernel) rfl)⟩
set_option maxRecDepth 100000 in
theorem FX9_121 : FLD RX9 121 9 25 := ⟨by decide, by decide, Or.inl (gdI (i := 1303) (by decide +kernel) rfl)⟩
set_option maxRecDepth 100000 in
theorem MX9_124 : MLK RX9 124 yX9_isTripOf := gdI (i := 1531) (by decide +kernel) rfl
set_option maxRecDepth 100000 in
theorem YX9_isTripOf : MY yX9_isTripOf cX9_isTripOf 3 (some .boolean) 2 := ⟨gdI (i := 84) (by decide +kernel) rfl, gdI (i := 1534) (by decide +kernel) rfl, by decide +kernel, by decide +kernel, by decide +kernel⟩
set_option maxRecDepth 100000 in
theorem IX9_isTripOf : Cond.instanceMethod yX9_isTripOf ∈ lw_gd := gdI (i := 1533) (by decide +kernel) rfl
set_option maxRecDepth 100000 in
theorem SX9_isTripOf : Cond.selects yX9_isTripOf.cls yX9_isTripOf yX9_isTripOf ∈ lw_gd := gdI (i := 30) (by decide +kernel) rfl
set_option maxRecDepth 100000 in
theorem MX9_127 : MLK RX9 127 yX9_end := gdI (i := 1495) (by decide +kernel) rfl
set_option maxRecDepth 100000 in
theorem YX9_end : MY yX9_end cX9_end 2 (some .int) 1 := ⟨gdI (i := 84) (by decide +kernel) rfl, gdI (i := 1498) (by decide +kernel) rfl, by decide +kernel, by decide +kernel, by decide +kernel⟩
set_option maxRecDepth 100000 in
theorem IX9_end : Cond.instanceMethod yX9_end ∈ lw_gd := gdI (i := 1497) (by decide +kernel) rfl
set_option maxRecDepth 100000 in
theorem SX9_end : Cond.selects yX9_end.cls yX9_end yX9_end ∈ lw_gd := gdI (i := 23) (by decide +kernel) rfl
set_option maxRecDepth 100000 in
theorem MX9_130 : MLK RX9 130 yX9_goalOf := gdI (i := 1535) (by decide +kernel) rfl
set_option maxRecDepth 100000 in
theorem YX9_goalOf : MY yX9_goalOf cX9_goalOf 2 (some .int) 1 := ⟨gdI (i := 84) (by decide +kernel) rfl, gdI (i := 1538) (by decide +kernel) rfl, by decide +kernel, by decide +kernel, by decide +kernel⟩
set_option maxRecDepth 100000 in
theorem IX9_goalOf : Cond.instanceMethod yX9_goalOf ∈ lw_gd := gdI (i := 1537) (by decide +kernel) rfl
set_option maxRecDepth 100000 in
theorem SX9_goalOf : Cond.selects yX9_goalOf.cls yX9_goalOf yX9_goalOf ∈ lw_gd := gdI (i := 31) (by decide +kernel) rfl
set_option maxRecDepth 100000 in
theorem MX9_133 : MLK RX9 133 yX9_looks := gdI (i := 1539) (by decide +kernel) rfl
set_option maxRecDepth 100000 in
theorem YX9_looks : MY yX9_looks cX9_looks 3 none 2 := ⟨gdI (i := 84) (by decide +kernel) rfl, gdI (i := 1542) (by decide +kernel) rfl, by decide +kernel, by decide +kernel, by decide +kernel⟩
set_option maxRecDepth 100000 in
theorem IX9_looks : Cond.instanceMethod yX9_looks ∈ lw_gd := gdI (i := 1541) (by decide +kernel) rfl
set_option maxRecDepth 100000 in
theorem SX9_looks : Cond.selects yX9_looks.cls yX9_looks yX9_looks ∈ lw_gd := gdI (i := 32) (by decide +kernel) rfl
set_option maxRecDepth 100000 in
theorem FX9_137 : FLD RX9 137 9 23 := ⟨by decide, by decide, Or.inl (gdI (i := 1301) (by decide +kernel) rfl)⟩
set_option maxRecDepth 100000 in
theorem FX9_61 : FLD RX9 61 9 18 := ⟨by decide, by decide, Or.inl (gdI (i := 1296) (by decide +kernel) rfl)⟩
set_option maxRecDepth 100000 in
theorem MX9_140 : MLK RX9 140 yX9_has := gdI (i := 1543) (by decide +kernel) rfl
set_option maxRecDepth 100000 in
theorem YX9_has : MY yX9_has cX9_has 2 (some .boolean) 2 := ⟨gdI (i := 84) (by decide +kernel) rfl, gdI (i := 1545) (by decide +kernel) rfl, by decide +kernel, by decide +kernel, by decide +kernel⟩
set_option maxRecDepth 100000 in
theorem IX9_has : Cond.static yX9_has ∈ lw_gd := gdI (i := 1544) (by decide +kernel) rfl
set_option maxRecDepth 100000 in
theorem MX9_143 : MLK RX9 143 yX9_endOf := gdI (i := 1546) (by decide +kernel) rfl
set_option maxRecDepth 100000 in
theorem YX9_endOf : MY yX9_endOf cX9_endOf 1 (some .int) 1 := ⟨gdI (i := 84) (by decide +kernel) rfl, gdI (i := 1548) (by decide +kernel) rfl, by decide +kernel, by decide +kernel, by decide +kernel⟩
set_option maxRecDepth 100000 in
theorem IX9_endOf : Cond.static yX9_endOf ∈ lw_gd := gdI (i := 1547) (by decide +kernel) rfl
set_option maxRecDepth 100000 in
theorem MX9_146 : MLK RX9 146 yX9_toOf := gdI (i := 1549) (by decide +kernel) rfl
set_option maxRecDepth 100000 in
theorem YX9_toOf : MY yX9_toOf cX9_toOf 1 (some .int) 1 := ⟨gdI (i := 84) (by decide +kernel) rfl, gdI (i := 1551) (by decide +kernel) rfl, by decide +kernel, by decide +kernel, by decide +kernel⟩
set_option maxRecDepth 100000 in
theorem IX9_toOf : Cond.static yX9_toOf ∈ lw_gd := gdI (i := 1550) (by decide +kernel) rfl
set_option maxRecDepth 100000 in
theorem MX9_149 : MLK RX9 149 yX9_isNight := gdI (i := 1568) (by decide +kernel) rfl
set_option maxRecDepth 100000 in
theorem YX9_isNight : MY yX9_isNight cX9_isNight 1 (some .boolean) 1 := ⟨gdI (i := 84) (by decide +kernel) rfl, gdI (i := 1570) (by decide +kernel) rfl, by decide +kernel, by decide +kernel, by decide +kernel⟩
set_option maxRecDepth 100000 in
theorem IX9_isNight : Cond.static yX9_isNight ∈ lw_gd := gdI (i := 1569) (by decide +kernel) rfl
set_option maxRecDepth 100000 in
theorem MX9_152 : MLK RX9 152 yX9_isInNight := gdI (i := 1564) (by decide +kernel) rfl
set_option maxRecDepth 100000 in
theorem YX9_isInNight : MY yX9_isInNight cX9_isInNight 3 (some .boolean) 1 := ⟨gdI (i := 84) (by decide +kernel) rfl, gdI (i := 1567) (by decide +kernel) rfl, by decide +kernel, by decide +kernel, by decide +kernel⟩
set_option maxRecDepth 100000 in
theorem IX9_isInNight : Cond.instanceMethod yX9_isInNight ∈ lw_gd := gdI (i := 1566) (by decide +kernel) rfl
set_option maxRecDepth 100000 in
theorem SX9_isInNight : Cond.selects yX9_isInNight.cls yX9_isInNight yX9_isInNight ∈ lw_gd := gdI (i := 36) (by decide +kernel) rfl
set_option maxRecDepth 100000 in
theorem FX9_155 : FLD RX9 155 9 19 := ⟨by decide, by decide, Or.inl (gdI (i := 1297) (by decide +kernel) rfl)⟩
set_option maxRecDepth 100000 in
theorem FX9_25 : FLD RX9 25 9 6 := ⟨by decide, by decide, Or.inl (gdI (i := 1284) (by decide +kernel) rfl)⟩
set_option maxRecDepth 100000 in
theorem FX9_28 : FLD RX9 28 9 7 := ⟨by decide, by decide, Or.inl (gdI (i := 1285) (by decide +kernel) rfl)⟩
set_option maxRecDepth 100000 in
theorem MX9_114 : MLK RX9 114 yX9_isDeep := gdI (i := 1507) (by decide +kernel) rfl
set_option maxRecDepth 100000 in
theorem YX9_isDeep : MY yX9_isDeep cX9_isDeep 4 (some .boolean) 2 := ⟨gdI (i := 84) (by decide +kernel) rfl, gdI (i := 1510) (by decide +kernel) rfl, by decide +kernel, by decide +kernel, by decide +kernel⟩
set_option maxRecDepth 100000 in
theorem IX9_isDeep : Cond.instanceMethod yX9_isDeep ∈ lw_gd := gdI (i := 1509) (by decide +kernel) rfl
set_option maxRecDepth 100000 in
theorem SX9_isDeep : Cond.selects yX9_isDeep.cls yX9_isDeep yX9_isDeep ∈ lw_gd := gdI (i := 26) (by decide +kernel) rfl
set_option maxRecDepth 100000 in
theorem FX9_43 : FLD RX9 43 9 12 := ⟨by decide, by decide, Or.inl (gdI (i := 1290) (by decide +kernel) rfl)⟩
set_option maxRecDepth 100000 in
theorem MX9_158 : MLK RX9 158 yX9_startOf := gdI (i := 1556) (by decide +kernel) rfl
set_option maxRecDepth 100000 in
theorem YX9_startOf : MY yX9_startOf cX9_startOf 2 (some .int) 1 := ⟨gdI (i := 84) (by decide +kernel) rfl, gdI (i := 1559) (by decide +kernel) rfl, by decide +kernel, by decide +kernel, by decide +kernel⟩
set_option maxRecDepth 100000 in
theorem IX9_startOf : Cond.instanceMethod yX9_startOf ∈ lw_gd := gdI (i := 1558) (by decide +kernel) rfl
set_option maxRecDepth 100000 in
theorem SX9_startOf : Cond.selects yX9_startOf.cls yX9_startOf yX9_startOf ∈ lw_gd := gdI (i := 34) (by decide +kernel) rfl
set_option maxRecDepth 100000 in
theorem MX9_161 : MLK RX9 161 yX9_restedFrom := gdI (i := 1560) (by decide +kernel) rfl
set_option maxRecDepth 100000 in
theorem YX9_restedFrom : MY yX9_restedFrom cX9_restedFrom 4 (some .int) 1 := ⟨gdI (i := 84) (by decide +kernel) rfl, gdI (i := 1563) (by decide +kernel) rfl, by decide +kernel, by decide +kernel, by decide +kernel⟩
set_option maxRecDepth 100000 in
theorem IX9_restedFrom : Cond.instanceMethod yX9_restedFrom ∈ lw_gd := gdI (i := 1562) (by decide +kernel) rfl
set_option maxRecDepth 100000 in
theorem SX9_restedFrom : Cond.selects yX9_restedFrom.cls yX9_restedFrom yX9_restedFrom ∈ lw_gd := gdI (i := 35) (by decide +kernel) rfl
set_option maxRecDepth 100000 in
theorem MX9_164 : MLK RX9 164 yX9_findLast := gdI (i := 1527) (by decide +kernel) rfl
set_option maxRecDepth 100000 in
theorem YX9_findLast : MY yX9_findLast cX9_findLast 3 none 1 := ⟨gdI (i := 84) (by decide +kernel) rfl, gdI (i := 1530) (by decide +kernel) rfl, by decide +kernel, by decide +kernel, by decide +kernel⟩
set_option maxRecDepth 100000 in
theorem IX9_findLast : Cond.instanceMethod yX9_findLast ∈ lw_gd := gdI (i := 1529) (by decide +kernel) rfl
set_option maxRecDepth 100000 in
theorem SX9_findLast : Cond.selects yX9_findLast.cls yX9_findLast yX9_findLast ∈ lw_gd := gdI (i := 29) (by decide +kernel) rfl
set_option maxRecDepth 100000 in
theorem MX9_168 : MLK RX9 168 yX9_whyNot := gdI (i := 1552) (by decide +kernel) rfl
set_option maxRecDepth 100000 in
theorem YX9_whyNot : MY yX9_whyNot cX9_whyNot 6 (some .int) 5 := ⟨gdI (i := 84) (by decide +kernel) rfl, gdI (i := 1555) (by decide +kernel) rfl, by decide +kernel, by decide +kernel, by decide +kernel⟩
set_option maxRecDepth 100000 in
theorem IX9_whyNot : Cond.instanceMethod yX9_whyNot ∈ lw_gd := gdI (i := 1554) (by decide +kernel) rfl
set_option maxRecDepth 100000 in
theorem SX9_whyNot : Cond.selects yX9_whyNot.cls yX9_whyNot yX9_whyNot ∈ lw_gd := gdI (i := 33) (by decide +kernel) rfl
set_option maxRecDepth 100000 in
theorem FX9_55 : FLD RX9 55 9 16 := ⟨by decide, by decide, Or.inl (gdI (i := 1294) (by decide +kernel) rfl)⟩
set_option maxRecDepth 100000 in
theorem FX9_58 : FLD RX9 58 9 17 := ⟨by decide, by decide, Or.inl (gdI (i := 1295) (by decide +kernel) rfl)⟩
set_option maxRecDepth 100000 in
theorem MX9_172 : MLK RX9 172 yX9_bits := gdI (i := 1595) (by decide +kernel) rfl
set_option maxRecDepth 100000 in
theorem YX9_bits : MY yX9_bits cX9_bits 3 (some .int) 1 := ⟨gdI (i := 84) (by decide +kernel) rfl, gdI (i := 1597) (by decide +kernel) rfl, by decide +kernel, by decide +kernel, by decide +kernel⟩
set_option maxRecDepth 100000 in
theorem IX9_bits : Cond.static yX9_bits ∈ lw_gd := gdI (i := 1596) (by decide +kernel) rfl
set_option maxRecDepth 100000 in
theorem FX9_52 : FLD RX9 52 9 15 := ⟨by decide, by decide, Or.inl (gdI (i := 1293) (by decide +kernel) rfl)⟩
set_option maxRecDepth 100000 in
theorem MX9_175 : MLK RX9 175 yX9_placeOfBoat := gdI (i := 1598) (by decide +kernel) rfl
set_option maxRecDepth 100000 in
theorem YX9_placeOfBoat : MY yX9_placeOfBoat cX9_placeOfBoat 2 (some .int) 1 := ⟨gdI (i := 84) (by decide +kernel) rfl, gdI (i := 1601) (by decide +kernel) rfl, by decide +kernel, by decide +kernel, by decide +kernel⟩
set_option maxRecDepth 100000 in
theorem IX9_placeOfBoat : Cond.instanceMethod yX9_placeOfBoat ∈ lw_gd := gdI (i := 1600) (by decide +kernel) rfl
set_option maxRecDepth 100000 in
theorem SX9_placeOfBoat : Cond.selects yX9_placeOfBoat.cls yX9_placeOfBoat yX9_placeOfBoat ∈ lw_gd := gdI (i := 41) (by decide +kernel) rfl
set_option maxRecDepth 100000 in
theorem MX9_178 : MLK RX9 178 yX9_packed := gdI (i := 1606) (by decide +kernel) rfl
set_option maxRecDepth 100000 in
theorem YX9_packed : MY yX9_packed cX9_packed 5 (some .int) 5 := ⟨gdI (i := 84) (by decide +kernel) rfl, gdI (i := 1608) (by decide +kernel) rfl, by decide +kernel, by decide +kernel, by decide +kernel⟩
set_option maxRecDepth 100000 in
theorem IX9_packed : Cond.static yX9_packed ∈ lw_gd := gdI (i := 1607) (by decide +kernel) rfl
set_option maxRecDepth 100000 in
theorem FX9_181 : FLD RX9 181 9 26 := ⟨by decide, by decide, Or.inl (gdI (i := 1304) (by decide +kernel) rfl)⟩
set_option maxRecDepth 100000 in
theorem FX9_184 : FLD RX9 184 9 27 := ⟨by decide, by decide, Or.inl (gdI (i := 1305) (by decide +kernel) rfl)⟩
set_option maxRecDepth 100000 in
theorem FX9_187 : FLD RX9 187 9 28 := ⟨by decide, by decide, Or.inl (gdI (i := 1306) (by decide +kernel) rfl)⟩
set_option maxRecDepth 100000 in
theorem MX9_190 : MLK RX9 190 yX9_whyNotRun := gdI (i := 1591) (by decide +kernel) rfl
set_option maxRecDepth 100000 in
theorem YX9_whyNotRun : MY yX9_whyNotRun cX9_whyNotRun 5 (some .int) 3 := ⟨gdI (i := 84) (by decide +kernel) rfl, gdI (i := 1594) (by decide +kernel) rfl, by decide +kernel, by decide +kernel, by decide +kernel⟩
set_option maxRecDepth 100000 in
theorem IX9_whyNotRun : Cond.instanceMethod yX9_whyNotRun ∈ lw_gd := gdI (i := 1593) (by decide +kernel) rfl
set_option maxRecDepth 100000 in
theorem SX9_whyNotRun : Cond.selects yX9_whyNotRun.cls yX9_whyNotRun yX9_whyNotRun ∈ lw_gd := gdI (i := 40) (by decide +kernel) rfl
set_option maxRecDepth 100000 in
theorem MX9_194 : MLK RX9 194 yX9_whyNotTrip := gdI (i := 1523) (by decide +kernel) rfl
set_option maxRecDepth 100000 in
theorem YX9_whyNotTrip : MY yX9_whyNotTrip cX9_whyNotTrip 4 (some .int) 3 := ⟨gdI (i := 84) (by decide +kernel) rfl, gdI (i := 1526) (by decide +kernel) rfl, by decide +kernel, by decide +kernel, by decide +kernel⟩
set_option maxRecDepth 100000 in
theorem IX9_whyNotTrip : Cond.instanceMethod yX9_whyNotTrip ∈ lw_gd := gdI (i := 1525) (by decide +kernel) rfl
set_option maxRecDepth 100000 in
theorem SX9_whyNotTrip : Cond.selects yX9_whyNotTrip.cls yX9_whyNotTrip yX9_whyNotTrip ∈ lw_gd := gdI (i := 28) (by decide +kernel) rfl
set_option maxRecDepth 100000 in
theorem MX9_197 : MLK RX9 197 yX9_finds := gdI (i := 1621) (by decide +kernel) rfl
set_option maxRecDepth 100000 in
theorem YX9_finds : MY yX9_finds cX9_finds 4 (some .boolean) 3 := ⟨gdI (i := 84) (by decide +kernel) rfl, gdI (i := 1624) (by decide +kernel) rfl, by decide +kernel, by decide +kernel, by decide +kernel⟩
set_option maxRecDepth 100000 in
theorem IX9_finds : Cond.instanceMethod yX9_finds ∈ lw_gd := gdI (i := 1623) (by decide +kernel) rfl
set_option maxRecDepth 100000 in
theorem SX9_finds : Cond.selects yX9_finds.cls yX9_finds yX9_finds ∈ lw_gd := gdI (i := 45) (by decide +kernel) rfl
set_option maxRecDepth 100000 in
theorem MX9_200 : MLK RX9 200 yX9_canRide := gdI (i := 1625) (by decide +kernel) rfl
set_option maxRecDepth 100000 in
theorem YX9_canRide : MY yX9_canRide cX9_canRide 6 (some .boolean) 4 := ⟨gdI (i := 84) (by decide +kernel) rfl, gdI (i := 1628) (by decide +kernel) rfl, by decide +kernel, by decide +kernel, by decide +kernel⟩
set_option maxRecDepth 100000 in
theorem IX9_canRide : Cond.instanceMethod yX9_canRide ∈ lw_gd := gdI (i := 1627) (by decide +kernel) rfl
set_option maxRecDepth 100000 in
theorem SX9_canRide : Cond.selects yX9_canRide.cls yX9_canRide yX9_canRide ∈ lw_gd := gdI (i := 46) (by decide +kernel) rfl
set_option maxRecDepth 100000 in
theorem MX9_204 : MLK RX9 204 yX9_findsAt := gdI (i := 1617) (by decide +kernel) rfl
set_option maxRecDepth 100000 in
theorem YX9_findsAt : MY yX9_findsAt cX9_findsAt 5 (some .boolean) 2 := ⟨gdI (i := 84) (by decide +kernel) rfl, gdI (i := 1620) (by decide +kernel) rfl, by decide +kernel, by decide +kernel, by decide +kernel⟩
set_option maxRecDepth 100000 in
theorem IX9_findsAt : Cond.instanceMethod yX9_findsAt ∈ lw_gd := gdI (i := 1619) (by decide +kernel) rfl
set_option maxRecDepth 100000 in
theorem SX9_findsAt : Cond.selects yX9_findsAt.cls yX9_findsAt yX9_findsAt ∈ lw_gd := gdI (i := 44) (by decide +kernel) rfl
set_option maxRecDepth 100000 in
theorem MX9_207 : MLK RX9 207 yX9_goes := gdI (i := 1602) (by decide +kernel) rfl
set_option maxRecDepth 100000 in
theorem YX9_goes : MY yX9_goes cX9_goes 5 (some .int) 3 := ⟨gdI (i := 84) (by decide +kernel) rfl, gdI (i := 1605) (by decide +kernel) rfl, by decide +kernel, by decide +kernel, by decide +kernel⟩
set_option maxRecDepth 100000 in
theorem IX9_goes : Cond.instanceMethod yX9_goes ∈ lw_gd := gdI (i := 1604) (by decide +kernel) rfl
set_option maxRecDepth 100000 in
theorem SX9_goes : Cond.selects yX9_goes.cls yX9_goes yX9_goes ∈ lw_gd := gdI (i := 42) (by decide +kernel) rfl
set_option maxRecDepth 100000 in
theorem MX9_210 : MLK RX9 210 yX9_plans := gdI (i := 1579) (by decide +kernel) rfl
set_option maxRecDepth 100000 in
theorem YX9_plans : MY yX9_plans cX9_plans 4 none 3 := ⟨gdI (i := 84) (by decide +kernel) rfl, gdI (i := 1582) (by decide +kernel) rfl, by decide +kernel, by decide +kernel, by decide +kernel⟩
set_option maxRecDepth 100000 in
theorem IX9_plans : Cond.instanceMethod yX9_plans ∈ lw_gd := gdI (i := 1581) (by decide +kernel) rfl
set_option maxRecDepth 100000 in
theorem SX9_plans : Cond.selects yX9_plans.cls yX9_plans yX9_plans ∈ lw_gd := gdI (i := 38) (by decide +kernel) rfl
set_option maxRecDepth 100000 in
theorem FX9_322 : FLD RX9 322 9 41 := ⟨by decide, by decide, Or.inl (gdI (i := 1319) (by decide +kernel) rfl)⟩
set_option maxRecDepth 100000 in
theorem FX9_78 : FLD RX9 78 9 38 := ⟨by decide, by decide, Or.inl (gdI (i := 1316) (by decide +kernel) rfl)⟩
set_option maxRecDepth 100000 in
theorem FX9_378 : FLD RX9 378 9 44 := ⟨by decide, by decide, Or.inl (gdI (i := 1322) (by decide +kernel) rfl)⟩
set_option maxRecDepth 100000 in
theorem FX9_381 : FLD RX9 381 9 42 := ⟨by decide, by decide, Or.inl (gdI (i := 1320) (by decide +kernel) rfl)⟩
set_option maxRecDepth 100000 in
theorem MX9_384 : MLK RX9 384 yX9_moves := gdI (i := 1448) (by decide +kernel) rfl
set_option maxRecDepth 100000 in
theorem YX9_moves : MY yX9_moves cX9_moves 4 none 2 := ⟨gdI (i := 84) (by decide +kernel) rfl, gdI (i := 1451) (by decide +kernel) rfl, by decide +kernel, by decide +kernel, by decide +kernel⟩
set_option maxRecDepth 100000 in
theorem IX9_moves : Cond.instanceMethod yX9_moves ∈ lw_gd := gdI (i := 1450) (by decide +kernel) rfl
set_option maxRecDepth 100000 in
theorem SX9_moves : Cond.selects yX9_moves.cls yX9_moves yX9_moves ∈ lw_gd := gdI (i := 18) (by decide +kernel) rfl
set_option maxRecDepth 100000 in
theorem FX9_40 : FLD RX9 40 9 11 := ⟨by decide, by decide, Or.inl (gdI (i := 1289) (by decide +kernel) rfl)⟩
set_option maxRecDepth 100000 in
theorem FX9_46 : FLD RX9 46 9 13 := ⟨by decide, by decide, Or.inl (gdI (i := 1291) (by decide +kernel) rfl)⟩
set_option maxRecDepth 100000 in
theorem FX9_49 : FLD RX9 49 9 14 := ⟨by decide, by decide, Or.inl (gdI (i := 1292) (by decide +kernel) rfl)⟩
set_option maxRecDepth 100000 in
theorem MX9_388 : MLK RX9 388 yX9_move := gdI (i := 1452) (by decide +kernel) rfl
set_option maxRecDepth 100000 in
theorem YX9_move : MY yX9_move cX9_move 4 (some .int) 2 := ⟨gdI (i := 84) (by decide +kernel) rfl, gdI (i := 1455) (by decide +kernel) rfl, by decide +kernel, by decide +kernel, by decide +kernel⟩
set_option maxRecDepth 100000 in
theorem IX9_move : Cond.instanceMethod yX9_move ∈ lw_gd := gdI (i := 1454) (by decide +kernel) rfl
set_option maxRecDepth 100000 in
theorem SX9_move : Cond.selects yX9_move.cls yX9_move yX9_move ∈ lw_gd := gdI (i := 19) (by decide +kernel) rfl
set_option maxRecDepth 100000 in
theorem FX9_235 : FLD RX9 235 9 45 := ⟨by decide, by decide, Or.inl (gdI (i := 1323) (by decide +kernel) rfl)⟩
set_option maxRecDepth 100000 in
theorem MX9_375 : MLK RX9 375 yX9_makesRoom := gdI (i := 1440) (by decide +kernel) rfl
set_option maxRecDepth 100000 in
theorem YX9_makesRoom : MY yX9_makesRoom cX9_makesRoom 2 none 0 := ⟨gdI (i := 84) (by decide +kernel) rfl, gdI (i := 1443) (by decide +kernel) rfl, by decide +kernel, by decide +kernel, by decide +kernel⟩
set_option maxRecDepth 100000 in
theorem IX9_makesRoom : Cond.instanceMethod yX9_makesRoom ∈ lw_gd := gdI (i := 1442) (by decide +kernel) rfl
set_option maxRecDepth 100000 in
theorem SX9_makesRoom : Cond.selects yX9_makesRoom.cls yX9_makesRoom yX9_makesRoom ∈ lw_gd := gdI (i := 16) (by decide +kernel) rfl
set_option maxRecDepth 100000 in
theorem MX9_368 : MLK RX9 368 yX9_passAll := gdI (i := 1444) (by decide +kernel) rfl
set_option maxRecDepth 100000 in
theorem YX9_passAll : MY yX9_passAll cX9_passAll 4 none 3 := ⟨gdI (i := 84) (by decide +kernel) rfl, gdI (i := 1447) (by decide +kernel) rfl, by decide +kernel, by decide +kernel, by decide +kernel⟩
set_option maxRecDepth 100000 in
theorem IX9_passAll : Cond.instanceMethod yX9_passAll ∈ lw_gd := gdI (i := 1446) (by decide +kernel) rfl
set_option maxRecDepth 100000 in
theorem SX9_passAll : Cond.selects yX9_passAll.cls yX9_passAll yX9_passAll ∈ lw_gd := gdI (i := 17) (by decide +kernel) rfl
set_option maxRecDepth 100000 in
theorem MX9_220 : MLK RX9 220 yX9_fails := gdI (i := 1432) (by decide +kernel) rfl
set_option maxRecDepth 100000 in
theorem YX9_fails : MY yX9_fails cX9_fails 2 (some .int) 1 := ⟨gdI (i := 84) (by decide +kernel) rfl, gdI (i := 1435) (by decide +kernel) rfl, by decide +kernel, by decide +kernel, by decide +kernel⟩
set_option maxRecDepth 100000 in
theorem IX9_fails : Cond.instanceMethod yX9_fails ∈ lw_gd := gdI (i := 1434) (by decide +kernel) rfl
set_option maxRecDepth 100000 in
theorem SX9_fails : Cond.selects yX9_fails.cls yX9_fails yX9_fails ∈ lw_gd := gdI (i := 14) (by decide +kernel) rfl
set_option maxRecDepth 100000 in
theorem SFX9_214 : SFL RX9 214 4 := ⟨by decide, gdI (i := 1428) (by decide +kernel) rfl⟩
set_option maxRecDepth 100000 in
theorem SFX9_217 : SFL RX9 217 5 := ⟨by decide, gdI (i := 1430) (by decide +kernel) rfl⟩
set_option maxRecDepth 100000 in
theorem MX9_223 : MLK RX9 223 yX9_remembers := gdI (i := 1436) (by decide +kernel) rfl
set_option maxRecDepth 100000 in
theorem YX9_remembers : MY yX9_remembers cX9_remembers 1 none 0 := ⟨gdI (i := 84) (by decide +kernel) rfl, gdI (i := 1439) (by decide +kernel) rfl, by decide +kernel, by decide +kernel, by decide +kernel⟩
set_option maxRecDepth 100000 in
theorem IX9_remembers : Cond.instanceMethod yX9_remembers ∈ lw_gd := gdI (i := 1438) (by decide +kernel) rfl
set_option maxRecDepth 100000 in
theorem SX9_remembers : Cond.selects yX9_remembers.cls yX9_remembers yX9_remembers ∈ lw_gd := gdI (i := 15) (by decide +kernel) rfl
set_option maxRecDepth 100000 in
theorem MX9_226 : MLK RX9 226 yX9_isHour := gdI (i := 1464) (by decide +kernel) rfl
set_option maxRecDepth 100000 in
theorem YX9_isHour : MY yX9_isHour cX9_isHour 1 (some .boolean) 1 := ⟨gdI (i := 84) (by decide +kernel) rfl, gdI (i := 1466) (by decide +kernel) rfl, by decide +kernel, by decide +kernel, by decide +kernel⟩
set_option maxRecDepth 100000 in
theorem IX9_isHour : Cond.static yX9_isHour ∈ lw_gd := gdI (i := 1465) (by decide +kernel) rfl
set_option maxRecDepth 100000 in
theorem MX9_229 : MLK RX9 229 yX9_isOrder := gdI (i := 1487) (by decide +kernel) rfl
set_option maxRecDepth 100000 in
theorem YX9_isOrder : MY yX9_isOrder cX9_isOrder 2 (some .boolean) 1 := ⟨gdI (i := 84) (by decide +kernel) rfl, gdI (i := 1490) (by decide +kernel) rfl, by decide +kernel, by decide +kernel, by decide +kernel⟩
set_option maxRecDepth 100000 in
theorem IX9_isOrder : Cond.instanceMethod yX9_isOrder ∈ lw_gd := gdI (i := 1489) (by decide +kernel) rfl
set_option maxRecDepth 100000 in
theorem SX9_isOrder : Cond.selects yX9_isOrder.cls yX9_isOrder yX9_isOrder ∈ lw_gd := gdI (i := 21) (by decide +kernel) rfl
set_option maxRecDepth 100000 in
theorem MX9_232 : MLK RX9 232 yX9_windowHours := gdI (i := 1503) (by decide +kernel) rfl
set_option maxRecDepth 100000 in
theorem YX9_windowHours : MY yX9_windowHours cX9_windowHours 4 (some .int) 1 := ⟨gdI (i := 84) (by decide +kernel) rfl, gdI (i := 1506) (by decide +kernel) rfl, by decide +kernel, by decide +kernel, by decide +kernel⟩
set_option maxRecDepth 100000 in
theorem IX9_windowHours : Cond.instanceMethod yX9_windowHours ∈ lw_gd := gdI (i := 1505) (by decide +kernel) rfl
set_option maxRecDepth 100000 in
theorem SX9_windowHours : Cond.selects yX9_windowHours.cls yX9_windowHours yX9_windowHours ∈ lw_gd := gdI (i := 25) (by decide +kernel) rfl
set_option maxRecDepth 100000 in
theorem FX9_239 : FLD RX9 239 9 30 := ⟨by decide, by decide, Or.inl (gdI (i := 1308) (by decide +kernel) rfl)⟩
set_option maxRecDepth 100000 in
theorem FX9_242 : FLD RX9 242 9 29 := ⟨by decide, by decide, Or.inl (gdI (i := 1307) (by decide +kernel) rfl)⟩
set_option maxRecDepth 100000 in
theorem MX9_245 : MLK RX9 245 yX9_isPilot := gdI (i := 1519) (by decide +kernel) rfl
set_option maxRecDepth 100000 in
theorem YX9_isPilot : MY yX9_isPilot cX9_isPilot 2 (some .boolean) 1 := ⟨gdI (i := 84) (by decide +kernel) rfl, gdI (i := 1522) (by decide +kernel) rfl, by decide +kernel, by decide +kernel, by decide +kernel⟩
set_option maxRecDepth 100000 in
theorem IX9_isPilot : Cond.instanceMethod yX9_isPilot ∈ lw_gd := gdI (i := 1521) (by decide +kernel) rfl
set_option maxRecDepth 100000 in
theorem SX9_isPilot : Cond.selects yX9_isPilot.cls yX9_isPilot yX9_isPilot ∈ lw_gd := gdI (i := 27) (by decide +kernel) rfl
set_option maxRecDepth 100000 in
theorem MX9_248 : MLK RX9 248 yX9_refuses := gdI (i := 1575) (by decide +kernel) rfl
set_option maxRecDepth 100000 in
theorem YX9_refuses : MY yX9_refuses cX9_refuses 3 (some .int) 2 := ⟨gdI (i := 84) (by decide +kernel) rfl, gdI (i := 1578) (by decide +kernel) rfl, by decide +kernel, by decide +kernel, by decide +kernel⟩
set_option maxRecDepth 100000 in
theorem IX9_refuses : Cond.instanceMethod yX9_refuses ∈ lw_gd := gdI (i := 1577) (by decide +kernel) rfl
set_option maxRecDepth 100000 in
theorem SX9_refuses : Cond.selects yX9_refuses.cls yX9_refuses yX9_refuses ∈ lw_gd := gdI (i := 37) (by decide +kernel) rfl
set_option maxRecDepth 100000 in
theorem MX9_252 : MLK RX9 252 yX9_isBoat := gdI (i := 1587) (by decide +kernel) rfl
set_option maxRecDepth 100000 in
theorem YX9_isBoat : MY yX9_isBoat cX9_isBoat 2 (some .boolean) 1 := ⟨gdI (i := 84) (by decide +kernel) rfl, gdI (i := 1590) (by decide +kernel) rfl, by decide +kernel, by decide +kernel, by decide +kernel⟩
set_option maxRecDepth 100000 in
theorem IX9_isBoat : Cond.instanceMethod yX9_isBoat ∈ lw_gd := gdI (i := 1589) (by decide +kernel) rfl
set_option maxRecDepth 100000 in
theorem SX9_isBoat : Cond.selects yX9_isBoat.cls yX9_isBoat yX9_isBoat ∈ lw_gd := gdI (i := 39) (by decide +kernel) rfl
set_option maxRecDepth 100000 in
theorem MX9_255 : MLK RX9 255 yX9_canServe := gdI (i := 1613) (by decide +kernel) rfl
set_option maxRecDepth 100000 in
theorem YX9_canServe : MY yX9_canServe cX9_canServe 3 (some .boolean) 1 := ⟨gdI (i := 84) (by decide +kernel) rfl, gdI (i := 1616) (by decide +kernel) rfl, by decide +kernel, by decide +kernel, by decide +kernel⟩
set_option maxRecDepth 100000 in
theorem IX9_canServe : Cond.instanceMethod yX9_canServe ∈ lw_gd := gdI (i := 1615) (by decide +kernel) rfl
set_option maxRecDepth 100000 in
theorem SX9_canServe : Cond.selects yX9_canServe.cls yX9_canServe yX9_canServe ∈ lw_gd := gdI (i := 43) (by decide +kernel) rfl
set_option maxRecDepth 100000 in
theorem MX9_258 : MLK RX9 258 yX9_serves := gdI (i := 1633) (by decide +kernel) rfl
set_option maxRecDepth 100000 in
theorem YX9_serves : MY yX9_serves cX9_serves 3 (some .int) 1 := ⟨gdI (i := 84) (by decide +kernel) rfl, gdI (i := 1636) (by decide +kernel) rfl, by decide +kernel, by decide +kernel, by decide +kernel⟩
set_option maxRecDepth 100000 in
theorem IX9_serves : Cond.instanceMethod yX9_serves ∈ lw_gd := gdI (i := 1635) (by decide +kernel) rfl
set_option maxRecDepth 100000 in
theorem SX9_serves : Cond.selects yX9_serves.cls yX9_serves yX9_serves ∈ lw_gd := gdI (i := 47) (by decide +kernel) rfl
set_option maxRecDepth 100000 in
theorem MX9_261 : MLK RX9 261 yX9_isAhead := gdI (i := 1645) (by decide +kernel) rfl
set_option maxRecDepth 100000 in
theorem YX9_isAhead : MY yX9_isAhead cX9_isAhead 3 (some .boolean) 2 := ⟨gdI (i := 84) (by decide +kernel) rfl, gdI (i := 1648) (by decide +kernel) rfl, by decide +kernel, by decide +kernel, by decide +kernel⟩
set_option maxRecDepth 100000 in
theorem IX9_isAhead : Cond.instanceMethod yX9_isAhead ∈ lw_gd := gdI (i := 1647) (by decide +kernel) rfl
set_option maxRecDepth 100000 in
theorem SX9_isAhead : Cond.selects yX9_isAhead.cls yX9_isAhead yX9_isAhead ∈ lw_gd := gdI (i := 49) (by decide +kernel) rfl
set_option maxRecDepth 100000 in
theorem MX9_264 : MLK RX9 264 yX9_nextUrgent := gdI (i := 1641) (by decide +kernel) rfl
set_option maxRecDepth 100000 in
theorem YX9_nextUrgent : MY yX9_nextUrgent cX9_nextUrgent 4 (some .int) 1 := ⟨gdI (i := 84) (by decide +kernel) rfl, gdI (i := 1644) (by decide +kernel) rfl, by decide +kernel, by decide +kernel, by decide +kernel⟩
set_option maxRecDepth 100000 in
theorem IX9_nextUrgent : Cond.instanceMethod yX9_nextUrgent ∈ lw_gd := gdI (i := 1643) (by decide +kernel) rfl
set_option maxRecDepth 100000 in
theorem SX9_nextUrgent : Cond.selects yX9_nextUrgent.cls yX9_nextUrgent yX9_nextUrgent ∈ lw_gd := gdI (i := 48) (by decide +kernel) rfl
set_option maxRecDepth 100000 in
theorem MX9_267 : MLK RX9 267 yX9_trips := gdI (i := 1665) (by decide +kernel) rfl
set_option maxRecDepth 100000 in
theorem YX9_trips : MY yX9_trips cX9_trips 4 (some .int) 1 := ⟨gdI (i := 84) (by decide +kernel) rfl, gdI (i := 1668) (by decide +kernel) rfl, by decide +kernel, by decide +kernel, by decide +kernel⟩
set_option maxRecDepth 100000 in
theorem IX9_trips : Cond.instanceMethod yX9_trips ∈ lw_gd := gdI (i := 1667) (by decide +kernel) rfl
set_option maxRecDepth 100000 in
theorem SX9_trips : Cond.selects yX9_trips.cls yX9_trips yX9_trips ∈ lw_gd := gdI (i := 50) (by decide +kernel) rfl
set_option maxRecDepth 100000 in
theorem MX9_270 : MLK RX9 270 yX9_rides := gdI (i := 1669) (by decide +kernel) rfl
set_option maxRecDepth 100000 in
theorem YX9_rides : MY yX9_rides cX9_rides 4 (some .int) 1 := ⟨gdI (i := 84) (by decide +kernel) rfl, gdI (i := 1672) (by decide +kernel) rfl, by decide +kernel, by decide +kernel, by decide +kernel⟩
set_option maxRecDepth 100000 in
theorem IX9_rides : Cond.instanceMethod yX9_rides ∈ lw_gd := gdI (i := 1671) (by decide +kernel) rfl
set_option maxRecDepth 100000 in
theorem SX9_rides : Cond.selects yX9_rides.cls yX9_rides yX9_rides ∈ lw_gd := gdI (i := 51) (by decide +kernel) rfl
set_option maxRecDepth 100000 in
theorem MX9_273 : MLK RX9 273 yX9_freeOf := gdI (i := 1673) (by decide +kernel) rfl
set_option maxRecDepth 100000 in
theorem YX9_freeOf : MY yX9_freeOf cX9_freeOf 2 (some .int) 1 := ⟨gdI (i := 84) (by decide +kernel) rfl, gdI (i := 1676) (by decide +kernel) rfl, by decide +kernel, by decide +kernel, by decide +kernel⟩
set_option maxRecDepth 100000 in
theorem IX9_freeOf : Cond.instanceMethod yX9_freeOf ∈ lw_gd := gdI (i := 1675) (by decide +kernel) rfl
set_option maxRecDepth 100000 in
theorem SX9_freeOf : Cond.selects yX9_freeOf.cls yX9_freeOf yX9_freeOf ∈ lw_gd := gdI (i := 52) (by decide +kernel) rfl
set_option maxRecDepth 100000 in
theorem MX9_276 : MLK RX9 276 yX9_tripHours := gdI (i := 1677) (by decide +kernel) rfl
set_option maxRecDepth 100000 in
theorem YX9_tripHours : MY yX9_tripHours cX9_tripHours 4 (some .int) 1 := ⟨gdI (i := 84) (by decide +kernel) rfl, gdI (i := 1680) (by decide +kernel) rfl, by decide +kernel, by decide +kernel, by decide +kernel⟩
set_option maxRecDepth 100000 in
theorem IX9_tripHours : Cond.instanceMethod yX9_tripHours ∈ lw_gd := gdI (i := 1679) (by decide +kernel) rfl
set_option maxRecDepth 100000 in
theorem SX9_tripHours : Cond.selects yX9_tripHours.cls yX9_tripHours yX9_tripHours ∈ lw_gd := gdI (i := 53) (by decide +kernel) rfl
set_option maxRecDepth 100000 in
theorem MX9_279 : MLK RX9 279 yX9_hourOf := gdI (i := 1689) (by decide +kernel) rfl
set_option maxRecDepth 100000 in
theorem YX9_hourOf : MY yX9_hourOf cX9_hourOf 1 (some .int) 1 := ⟨gdI (i := 84) (by decide +kernel) rfl, gdI (i := 1691) (by decide +kernel) rfl, by decide +kernel, by decide +kernel, by decide +kernel⟩
set_option maxRecDepth 100000 in
theorem IX9_hourOf : Cond.static yX9_hourOf ∈ lw_gd := gdI (i := 1690) (by decide +kernel) rfl
set_option maxRecDepth 100000 in
theorem MX9_282 : MLK RX9 282 yX9_boatOf := gdI (i := 1704) (by decide +kernel) rfl
set_option maxRecDepth 100000 in
theorem YX9_boatOf : MY yX9_boatOf cX9_boatOf 1 (some .int) 1 := ⟨gdI (i := 84) (by decide +kernel) rfl, gdI (i := 1706) (by decide +kernel) rfl, by decide +kernel, by decide +kernel, by decide +kernel⟩
set_option maxRecDepth 100000 in
theorem IX9_boatOf : Cond.static yX9_boatOf ∈ lw_gd := gdI (i := 1705) (by decide +kernel) rfl
set_option maxRecDepth 100000 in
theorem MX9_285 : MLK RX9 285 yX9_nextOf := gdI (i := 1685) (by decide +kernel) rfl
set_option maxRecDepth 100000 in
theorem YX9_nextOf : MY yX9_nextOf cX9_nextOf 6 (some .int) 2 := ⟨gdI (i := 84) (by decide +kernel) rfl, gdI (i := 1688) (by decide +kernel) rfl, by decide +kernel, by decide +kernel, by decide +kernel⟩
set_option maxRecDepth 100000 in
theorem IX9_nextOf : Cond.instanceMethod yX9_nextOf ∈ lw_gd := gdI (i := 1687) (by decide +kernel) rfl
set_option maxRecDepth 100000 in
theorem SX9_nextOf : Cond.selects yX9_nextOf.cls yX9_nextOf yX9_nextOf ∈ lw_gd := gdI (i := 54) (by decide +kernel) rfl
set_option maxRecDepth 100000 in
theorem MX9_288 : MLK RX9 288 yX9_beginOf := gdI (i := 1692) (by decide +kernel) rfl
set_option maxRecDepth 100000 in
theorem YX9_beginOf : MY yX9_beginOf cX9_beginOf 2 (some .int) 1 := ⟨gdI (i := 84) (by decide +kernel) rfl, gdI (i := 1695) (by decide +kernel) rfl, by decide +kernel, by decide +kernel, by decide +kernel⟩
set_option maxRecDepth 100000 in
theorem IX9_beginOf : Cond.instanceMethod yX9_beginOf ∈ lw_gd := gdI (i := 1694) (by decide +kernel) rfl
set_option maxRecDepth 100000 in
theorem SX9_beginOf : Cond.selects yX9_beginOf.cls yX9_beginOf yX9_beginOf ∈ lw_gd := gdI (i := 55) (by decide +kernel) rfl
set_option maxRecDepth 100000 in
theorem MX9_294 : MLK RX9 294 yX9_ofRide := gdI (i := 1700) (by decide +kernel) rfl
set_option maxRecDepth 100000 in
theorem YX9_ofRide : MY yX9_ofRide cX9_ofRide 3 (some .int) 2 := ⟨gdI (i := 84) (by decide +kernel) rfl, gdI (i := 1703) (by decide +kernel) rfl, by decide +kernel, by decide +kernel, by decide +kernel⟩
set_option maxRecDepth 100000 in
theorem IX9_ofRide : Cond.instanceMethod yX9_ofRide ∈ lw_gd := gdI (i := 1702) (by decide +kernel) rfl
set_option maxRecDepth 100000 in
theorem SX9_ofRide : Cond.selects yX9_ofRide.cls yX9_ofRide yX9_ofRide ∈ lw_gd := gdI (i := 57) (by decide +kernel) rfl
set_option maxRecDepth 100000 in
theorem MX9_291 : MLK RX9 291 yX9_ofTrip := gdI (i := 1696) (by decide +kernel) rfl
set_option maxRecDepth 100000 in
theorem YX9_ofTrip : MY yX9_ofTrip cX9_ofTrip 3 (some .int) 2 := ⟨gdI (i := 84) (by decide +kernel) rfl, gdI (i := 1699) (by decide +kernel) rfl, by decide +kernel, by decide +kernel, by decide +kernel⟩
set_option maxRecDepth 100000 in
theorem IX9_ofTrip : Cond.instanceMethod yX9_ofTrip ∈ lw_gd := gdI (i := 1698) (by decide +kernel) rfl
set_option maxRecDepth 100000 in
theorem SX9_ofTrip : Cond.selects yX9_ofTrip.cls yX9_ofTrip yX9_ofTrip ∈ lw_gd := gdI (i := 56) (by decide +kernel) rfl
set_option maxRecDepth 100000 in
theorem MX9_297 : MLK RX9 297 yX9_placeAt := gdI (i := 1711) (by decide +kernel) rfl
set_option maxRecDepth 100000 in
theorem YX9_placeAt : MY yX9_placeAt cX9_placeAt 7 (some .int) 2 := ⟨gdI (i := 84) (by decide +kernel) rfl, gdI (i := 1714) (by decide +kernel) rfl, by decide +kernel, by decide +kernel, by decide +kernel⟩
set_option maxRecDepth 100000 in
theorem IX9_placeAt : Cond.instanceMethod yX9_placeAt ∈ lw_gd := gdI (i := 1713) (by decide +kernel) rfl
set_option maxRecDepth 100000 in
theorem SX9_placeAt : Cond.selects yX9_placeAt.cls yX9_placeAt yX9_placeAt ∈ lw_gd := gdI (i := 58) (by decide +kernel) rfl
set_option maxRecDepth 100000 in
theorem MX9_300 : MLK RX9 300 yX9_ridesOn := gdI (i := 1723) (by decide +kernel) rfl
set_option maxRecDepth 100000 in
theorem YX9_ridesOn : MY yX9_ridesOn cX9_ridesOn 4 (some .int) 1 := ⟨gdI (i := 84) (by decide +kernel) rfl, gdI (i := 1726) (by decide +kernel) rfl, by decide +kernel, by decide +kernel, by decide +kernel⟩
set_option maxRecDepth 100000 in
theorem IX9_ridesOn : Cond.instanceMethod yX9_ridesOn ∈ lw_gd := gdI (i := 1725) (by decide +kernel) rfl
set_option maxRecDepth 100000 in
theorem SX9_ridesOn : Cond.selects yX9_ridesOn.cls yX9_ridesOn yX9_ridesOn ∈ lw_gd := gdI (i := 59) (by decide +kernel) rfl
set_option maxRecDepth 100000 in
theorem MX9_303 : MLK RX9 303 yX9_nextOver := gdI (i := 1735) (by decide +kernel) rfl
set_option maxRecDepth 100000 in
theorem YX9_nextOver : MY yX9_nextOver cX9_nextOver 3 (some .int) 0 := ⟨gdI (i := 84) (by decide +kernel) rfl, gdI (i := 1738) (by decide +kernel) rfl, by decide +kernel, by decide +kernel, by decide +kernel⟩
set_option maxRecDepth 100000 in
theorem IX9_nextOver : Cond.instanceMethod yX9_nextOver ∈ lw_gd := gdI (i := 1737) (by decide +kernel) rfl
set_option maxRecDepth 100000 in
theorem SX9_nextOver : Cond.selects yX9_nextOver.cls yX9_nextOver yX9_nextOver ∈ lw_gd := gdI (i := 61) (by decide +kernel) rfl
set_option maxRecDepth 100000 in
theorem MX9_307 : MLK RX9 307 yX9_isOver := gdI (i := 1739) (by decide +kernel) rfl
set_option maxRecDepth 100000 in
theorem YX9_isOver : MY yX9_isOver cX9_isOver 3 none 1 := ⟨gdI (i := 84) (by decide +kernel) rfl, gdI (i := 1742) (by decide +kernel) rfl, by decide +kernel, by decide +kernel, by decide +kernel⟩
set_option maxRecDepth 100000 in
theorem IX9_isOver : Cond.instanceMethod yX9_isOver ∈ lw_gd := gdI (i := 1741) (by decide +kernel) rfl
set_option maxRecDepth 100000 in
theorem SX9_isOver : Cond.selects yX9_isOver.cls yX9_isOver yX9_isOver ∈ lw_gd := gdI (i := 62) (by decide +kernel) rfl
set_option maxRecDepth 100000 in
theorem MX9_310 : MLK RX9 310 yX9_passes := gdI (i := 1731) (by decide +kernel) rfl
set_option maxRecDepth 100000 in
theorem YX9_passes : MY yX9_passes cX9_passes 4 (some .int) 1 := ⟨gdI (i := 84) (by decide +kernel) rfl, gdI (i := 1734) (by decide +kernel) rfl, by decide +kernel, by decide +kernel, by decide +kernel⟩
set_option maxRecDepth 100000 in
theorem IX9_passes : Cond.instanceMethod yX9_passes ∈ lw_gd := gdI (i := 1733) (by decide +kernel) rfl
set_option maxRecDepth 100000 in
theorem SX9_passes : Cond.selects yX9_passes.cls yX9_passes yX9_passes ∈ lw_gd := gdI (i := 60) (by decide +kernel) rfl
set_option maxRecDepth 100000 in
theorem MX9_313 : MLK RX9 313 yX9_inState := gdI (i := 1747) (by decide +kernel) rfl
set_option maxRecDepth 100000 in
theorem YX9_inState : MY yX9_inState cX9_inState 4 (some .int) 1 := ⟨gdI (i := 84) (by decide +kernel) rfl, gdI (i := 1750) (by decide +kernel) rfl, by decide +kernel, by decide +kernel, by decide +kernel⟩
set_option maxRecDepth 100000 in
theorem IX9_inState : Cond.instanceMethod yX9_inState ∈ lw_gd := gdI (i := 1749) (by decide +kernel) rfl
set_option maxRecDepth 100000 in
theorem SX9_inState : Cond.selects yX9_inState.cls yX9_inState yX9_inState ∈ lw_gd := gdI (i := 63) (by decide +kernel) rfl
set_option maxRecDepth 100000 in
theorem MX9_316 : MLK RX9 316 yX9_overPilots := gdI (i := 1751) (by decide +kernel) rfl
set_option maxRecDepth 100000 in
theorem YX9_overPilots : MY yX9_overPilots cX9_overPilots 4 (some .int) 1 := ⟨gdI (i := 84) (by decide +kernel) rfl, gdI (i := 1754) (by decide +kernel) rfl, by decide +kernel, by decide +kernel, by decide +kernel⟩
set_option maxRecDepth 100000 in
theorem IX9_overPilots : Cond.instanceMethod yX9_overPilots ∈ lw_gd := gdI (i := 1753) (by decide +kernel) rfl
set_option maxRecDepth 100000 in
theorem SX9_overPilots : Cond.selects yX9_overPilots.cls yX9_overPilots yX9_overPilots ∈ lw_gd := gdI (i := 64) (by decide +kernel) rfl
set_option maxRecDepth 100000 in
theorem MX9_319 : MLK RX9 319 yX9_allPutOffs := gdI (i := 1755) (by decide +kernel) rfl
set_option maxRecDepth 100000 in
theorem YX9_allPutOffs : MY yX9_allPutOffs cX9_allPutOffs 3 (some .int) 0 := ⟨gdI (i := 84) (by decide +kernel) rfl, gdI (i := 1758) (by decide +kernel) rfl, by decide +kernel, by decide +kernel, by decide +kernel⟩
set_option maxRecDepth 100000 in
theorem IX9_allPutOffs : Cond.instanceMethod yX9_allPutOffs ∈ lw_gd := gdI (i := 1757) (by decide +kernel) rfl
set_option maxRecDepth 100000 in
theorem SX9_allPutOffs : Cond.selects yX9_allPutOffs.cls yX9_allPutOffs yX9_allPutOffs ∈ lw_gd := gdI (i := 65) (by decide +kernel) rfl
set_option maxRecDepth 100000 in
theorem FX9_325 : FLD RX9 325 9 34 := ⟨by decide, by decide, Or.inl (gdI (i := 1312) (by decide +kernel) rfl)⟩
set_option maxRecDepth 100000 in
theorem MX9_327 : MLK RX9 327 yX9_hoursBefore := gdI (i := 1767) (by decide +kernel) rfl
set_option maxRecDepth 100000 in
theorem YX9_hoursBefore : MY yX9_hoursBefore cX9_hoursBefore 4 (some .int) 1 := ⟨gdI (i := 84) (by decide +kernel) rfl, gdI (i := 1770) (by decide +kernel) rfl, by decide +kernel, by decide +kernel, by decide +kernel⟩
set_option maxRecDepth 100000 in
theorem IX9_hoursBefore : Cond.instanceMethod yX9_hoursBefore ∈ lw_gd := gdI (i := 1769) (by decide +kernel) rfl
set_option maxRecDepth 100000 in
theorem SX9_hoursBefore : Cond.selects yX9_hoursBefore.cls yX9_hoursBefore yX9_hoursBefore ∈ lw_gd := gdI (i := 66) (by decide +kernel) rfl
set_option maxRecDepth 100000 in
theorem FX9_64 : FLD RX9 64 9 31 := ⟨by decide, by decide, Or.inl (gdI (i := 1309) (by decide +kernel) rfl)⟩
set_option maxRecDepth 100000 in
theorem FX9_330 : FLD RX9 330 9 35 := ⟨by decide, by decide, Or.inl (gdI (i := 1313) (by decide +kernel) rfl)⟩
set_option maxRecDepth 100000 in
theorem MX9_333 : MLK RX9 333 yX9_sign := gdI (i := 1787) (by decide +kernel) rfl
set_option maxRecDepth 100000 in
theorem YX9_sign : MY yX9_sign cX9_sign 1 (some .int) 0 := ⟨gdI (i := 84) (by decide +kernel) rfl, gdI (i := 1790) (by decide +kernel) rfl, by decide +kernel, by decide +kernel, by decide +kernel⟩
set_option maxRecDepth 100000 in
theorem IX9_sign : Cond.instanceMethod yX9_sign ∈ lw_gd := gdI (i := 1789) (by decide +kernel) rfl
set_option maxRecDepth 100000 in
theorem SX9_sign : Cond.selects yX9_sign.cls yX9_sign yX9_sign ∈ lw_gd := gdI (i := 69) (by decide +kernel) rfl
set_option maxRecDepth 100000 in
theorem FX9_71 : FLD RX9 71 9 33 := ⟨by decide, by decide, Or.inl (gdI (i := 1311) (by decide +kernel) rfl)⟩
set_option maxRecDepth 100000 in
theorem FX9_336 : FLD RX9 336 9 36 := ⟨by decide, by decide, Or.inl (gdI (i := 1314) (by decide +kernel) rfl)⟩
set_option maxRecDepth 100000 in
theorem FX9_68 : FLD RX9 68 9 32 := ⟨by decide, by decide, Or.inl (gdI (i := 1310) (by decide +kernel) rfl)⟩
set_option maxRecDepth 100000 in
theorem MX9_339 : MLK RX9 339 yX9_takesNumber := gdI (i := 1795) (by decide +kernel) rfl
set_option maxRecDepth 100000 in
theorem YX9_takesNumber : MY yX9_takesNumber cX9_takesNumber 4 (some .boolean) 1 := ⟨gdI (i := 84) (by decide +kernel) rfl, gdI (i := 1798) (by decide +kernel) rfl, by decide +kernel, by decide +kernel, by decide +kernel⟩
set_option maxRecDepth 100000 in
theorem IX9_takesNumber : Cond.instanceMethod yX9_takesNumber ∈ lw_gd := gdI (i := 1797) (by decide +kernel) rfl
set_option maxRecDepth 100000 in
theorem SX9_takesNumber : Cond.selects yX9_takesNumber.cls yX9_takesNumber yX9_takesNumber ∈ lw_gd := gdI (i := 71) (by decide +kernel) rfl
set_option maxRecDepth 100000 in
theorem MX9_342 : MLK RX9 342 yX9_skips := gdI (i := 1799) (by decide +kernel) rfl
set_option maxRecDepth 100000 in
theorem YX9_skips : MY yX9_skips cX9_skips 2 (some .boolean) 1 := ⟨gdI (i := 84) (by decide +kernel) rfl, gdI (i := 1802) (by decide +kernel) rfl, by decide +kernel, by decide +kernel, by decide +kernel⟩
set_option maxRecDepth 100000 in
theorem IX9_skips : Cond.instanceMethod yX9_skips ∈ lw_gd := gdI (i := 1801) (by decide +kernel) rfl
set_option maxRecDepth 100000 in
theorem SX9_skips : Cond.selects yX9_skips.cls yX9_skips yX9_skips ∈ lw_gd := gdI (i := 72) (by decide +kernel) rfl
set_option maxRecDepth 100000 in
theorem MX9_345 : MLK RX9 345 yX9_takesShip := gdI (i := 1791) (by decide +kernel) rfl
set_option maxRecDepth 100000 in
theorem YX9_takesShip : MY yX9_takesShip cX9_takesShip 1 (some .boolean) 0 := ⟨gdI (i := 84) (by decide +kernel) rfl, gdI (i := 1794) (by decide +kernel) rfl, by decide +kernel, by decide +kernel, by decide +kernel⟩
set_option maxRecDepth 100000 in
theorem IX9_takesShip : Cond.instanceMethod yX9_takesShip ∈ lw_gd := gdI (i := 1793) (by decide +kernel) rfl
set_option maxRecDepth 100000 in
theorem SX9_takesShip : Cond.selects yX9_takesShip.cls yX9_takesShip yX9_takesShip ∈ lw_gd := gdI (i := 70) (by decide +kernel) rfl
set_option maxRecDepth 100000 in
theorem MX9_349 : MLK RX9 349 yX9_takesItem := gdI (i := 1783) (by decide +kernel) rfl
set_option maxRecDepth 100000 in
theorem YX9_takesItem : MY yX9_takesItem cX9_takesItem 2 (some .boolean) 0 := ⟨gdI (i := 84) (by decide +kernel) rfl, gdI (i := 1786) (by decide +kernel) rfl, by decide +kernel, by decide +kernel, by decide +kernel⟩
set_option maxRecDepth 100000 in
theorem IX9_takesItem : Cond.instanceMethod yX9_takesItem ∈ lw_gd := gdI (i := 1785) (by decide +kernel) rfl
set_option maxRecDepth 100000 in
theorem SX9_takesItem : Cond.selects yX9_takesItem.cls yX9_takesItem yX9_takesItem ∈ lw_gd := gdI (i := 68) (by decide +kernel) rfl
set_option maxRecDepth 100000 in
theorem MX9_358 : MLK RX9 358 yX9_pass := gdI (i := 1809) (by decide +kernel) rfl
set_option maxRecDepth 100000 in
theorem YX9_pass : MY yX9_pass cX9_pass 2 (some .int) 1 := ⟨gdI (i := 84) (by decide +kernel) rfl, gdI (i := 1730) (by decide +kernel) rfl, by decide +kernel, by decide +kernel, by decide +kernel⟩
set_option maxRecDepth 100000 in
theorem IX9_pass : Cond.instanceMethod yX9_pass ∈ lw_gd := gdI (i := 1728) (by decide +kernel) rfl
set_option maxRecDepth 100000 in
theorem SX9_pass : Cond.selects yX9_pass.cls yX9_pass yX9_pass ∈ lw_gd := gdI (i := 1729) (by decide +kernel) rfl
set_option maxRecDepth 100000 in
theorem MX9_355 : MLK RX9 355 yX9_putOff := gdI (i := 1808) (by decide +kernel) rfl
set_option maxRecDepth 100000 in
theorem YX9_putOff : MY yX9_putOff cX9_putOff 3 (some .int) 2 := ⟨gdI (i := 84) (by decide +kernel) rfl, gdI (i := 1656) (by decide +kernel) rfl, by decide +kernel, by decide +kernel, by decide +kernel⟩
set_option maxRecDepth 100000 in
theorem IX9_putOff : Cond.instanceMethod yX9_putOff ∈ lw_gd := gdI (i := 1654) (by decide +kernel) rfl
set_option maxRecDepth 100000 in
theorem SX9_putOff : Cond.selects yX9_putOff.cls yX9_putOff yX9_putOff ∈ lw_gd := gdI (i := 1655) (by decide +kernel) rfl
set_option maxRecDepth 100000 in
theorem MX9_352 : MLK RX9 352 yX9_serve := gdI (i := 1807) (by decide +kernel) rfl
set_option maxRecDepth 100000 in
theorem YX9_serve : MY yX9_serve cX9_serve 2 (some .int) 1 := ⟨gdI (i := 84) (by decide +kernel) rfl, gdI (i := 1632) (by decide +kernel) rfl, by decide +kernel, by decide +kernel, by decide +kernel⟩
set_option maxRecDepth 100000 in
theorem IX9_serve : Cond.instanceMethod yX9_serve ∈ lw_gd := gdI (i := 1630) (by decide +kernel) rfl
set_option maxRecDepth 100000 in
theorem SX9_serve : Cond.selects yX9_serve.cls yX9_serve yX9_serve ∈ lw_gd := gdI (i := 1631) (by decide +kernel) rfl
set_option maxRecDepth 100000 in
theorem MX9_361 : MLK RX9 361 yX9_order := gdI (i := 1810) (by decide +kernel) rfl
set_option maxRecDepth 100000 in
theorem YX9_order : MY yX9_order cX9_order 7 (some .int) 5 := ⟨gdI (i := 84) (by decide +kernel) rfl, gdI (i := 1482) (by decide +kernel) rfl, by decide +kernel, by decide +kernel, by decide +kernel⟩
set_option maxRecDepth 100000 in
theorem IX9_order : Cond.instanceMethod yX9_order ∈ lw_gd := gdI (i := 1480) (by decide +kernel) rfl
set_option maxRecDepth 100000 in
theorem SX9_order : Cond.selects yX9_order.cls yX9_order yX9_order ∈ lw_gd := gdI (i := 1481) (by decide +kernel) rfl
set_option maxRecDepth 100000 in
theorem MX9_365 : MLK RX9 365 yX9_takesText := gdI (i := 1779) (by decide +kernel) rfl
set_option maxRecDepth 100000 in
theorem YX9_takesText : MY yX9_takesText cX9_takesText 1 (some .boolean) 0 := ⟨gdI (i := 84) (by decide +kernel) rfl, gdI (i := 1782) (by decide +kernel) rfl, by decide +kernel, by decide +kernel, by decide +kernel⟩
set_option maxRecDepth 100000 in
theorem IX9_takesText : Cond.instanceMethod yX9_takesText ∈ lw_gd := gdI (i := 1781) (by decide +kernel) rfl
set_option maxRecDepth 100000 in
theorem SX9_takesText : Cond.selects yX9_takesText.cls yX9_takesText yX9_takesText ∈ lw_gd := gdI (i := 67) (by decide +kernel) rfl
set_option maxRecDepth 100000 in
theorem FX9_84 : FLD RX9 84 9 40 := ⟨by decide, by decide, Or.inl (gdI (i := 1318) (by decide +kernel) rfl)⟩
set_option maxRecDepth 100000 in
theorem FX9_74 : FLD RX9 74 9 37 := ⟨by decide, by decide, Or.inl (gdI (i := 1315) (by decide +kernel) rfl)⟩
set_option maxRecDepth 100000 in
theorem MX9_372 : MLK RX9 372 yX9_does := gdI (i := 1803) (by decide +kernel) rfl
set_option maxRecDepth 100000 in
theorem YX9_does : MY yX9_does cX9_does 7 (some .int) 1 := ⟨gdI (i := 84) (by decide +kernel) rfl, gdI (i := 1806) (by decide +kernel) rfl, by decide +kernel, by decide +kernel, by decide +kernel⟩
set_option maxRecDepth 100000 in
theorem IX9_does : Cond.instanceMethod yX9_does ∈ lw_gd := gdI (i := 1805) (by decide +kernel) rfl
set_option maxRecDepth 100000 in
theorem SX9_does : Cond.selects yX9_does.cls yX9_does yX9_does ∈ lw_gd := gdI (i := 73) (by decide +kernel) rfl
set_option maxRecDepth 100000 in
theorem FX9_392 : FLD RX9 392 9 43 := ⟨by decide, by decide, Or.inl (gdI (i := 1321) (by decide +kernel) rfl)⟩
set_option maxRecDepth 100000 in
theorem FX9_81 : FLD RX9 81 9 39 := ⟨by decide, by decide, Or.inl (gdI (i := 1317) (by decide +kernel) rfl)⟩
set_option maxRecDepth 100000 in
theorem YX8_rule : MY yX8_rule cX8_rule 4 (some .int) 2 := ⟨gdI (i := 75) (by decide +kernel) rfl, gdI (i := 591) (by decide +kernel) rfl, by decide +kernel, by decide +kernel, by decide +kernel⟩
set_option maxRecDepth 100000 in
theorem IX8_rule : Cond.instanceMethod yX8_rule ∈ lw_gd := gdI (i := 589) (by decide +kernel) rfl
set_option maxRecDepth 100000 in
theorem SX8_rule : Cond.selects yX8_rule.cls yX8_rule yX8_rule ∈ lw_gd := gdI (i := 590) (by decide +kernel) rfl
set_option maxRecDepth 100000 in
theorem YX8_tide : MY yX8_tide cX8_tide 4 (some .int) 2 := ⟨gdI (i := 75) (by decide +kernel) rfl, gdI (i := 675) (by decide +kernel) rfl, by decide +kernel, by decide +kernel, by decide +kernel⟩
set_option maxRecDepth 100000 in
theorem IX8_tide : Cond.instanceMethod yX8_tide ∈ lw_gd := gdI (i := 673) (by decide +kernel) rfl
set_option maxRecDepth 100000 in
theorem SX8_tide : Cond.selects yX8_tide.cls yX8_tide yX8_tide ∈ lw_gd := gdI (i := 674) (by decide +kernel) rfl
set_option maxRecDepth 100000 in
theorem YX8_depth : MY yX8_depth cX8_depth 2 (some .int) 1 := ⟨gdI (i := 75) (by decide +kernel) rfl, gdI (i := 708) (by decide +kernel) rfl, by decide +kernel, by decide +kernel, by decide +kernel⟩
set_option maxRecDepth 100000 in
theorem IX8_depth : Cond.instanceMethod yX8_depth ∈ lw_gd := gdI (i := 706) (by decide +kernel) rfl
set_option maxRecDepth 100000 in
theorem SX8_depth : Cond.selects yX8_depth.cls yX8_depth yX8_depth ∈ lw_gd := gdI (i := 707) (by decide +kernel) rfl
set_option maxRecDepth 100000 in
theorem YX8_addPilot : MY yX8_addPilot cX8_addPilot 2 (some .int) 1 := ⟨gdI (i := 75) (by decide +kernel) rfl, gdI (i := 733) (by decide +kernel) rfl, by decide +kernel, by decide +kernel, by decide +kernel⟩
set_option maxRecDepth 100000 in
theorem IX8_addPilot : Cond.instanceMethod yX8_addPilot ∈ lw_gd := gdI (i := 731) (by decide +kernel) rfl
set_option maxRecDepth 100000 in
theorem SX8_addPilot : Cond.selects yX8_addPilot.cls yX8_addPilot yX8_addPilot ∈ lw_gd := gdI (i := 732) (by decide +kernel) rfl
set_option maxRecDepth 100000 in
theorem YX8_addBoat : MY yX8_addBoat cX8_addBoat 2 (some .int) 1 := ⟨gdI (i := 75) (by decide +kernel) rfl, gdI (i := 765) (by decide +kernel) rfl, by decide +kernel, by decide +kernel, by decide +kernel⟩
set_option maxRecDepth 100000 in
theorem IX8_addBoat : Cond.instanceMethod yX8_addBoat ∈ lw_gd := gdI (i := 763) (by decide +kernel) rfl
set_option maxRecDepth 100000 in
theorem SX8_addBoat : Cond.selects yX8_addBoat.cls yX8_addBoat yX8_addBoat ∈ lw_gd := gdI (i := 764) (by decide +kernel) rfl
set_option maxRecDepth 100000 in
theorem YX8_order : MY yX8_order cX8_order 6 (some .int) 5 := ⟨gdI (i := 75) (by decide +kernel) rfl, gdI (i := 782) (by decide +kernel) rfl, by decide +kernel, by decide +kernel, by decide +kernel⟩
set_option maxRecDepth 100000 in
theorem IX8_order : Cond.instanceMethod yX8_order ∈ lw_gd := gdI (i := 780) (by decide +kernel) rfl
set_option maxRecDepth 100000 in
theorem SX8_order : Cond.selects yX8_order.cls yX8_order yX8_order ∈ lw_gd := gdI (i := 781) (by decide +kernel) rfl
set_option maxRecDepth 100000 in
theorem YX8_orderOf : MY yX8_orderOf cX8_orderOf 4 (some .int) 2 := ⟨gdI (i := 75) (by decide +kernel) rfl, gdI (i := 807) (by decide +kernel) rfl, by decide +kernel, by decide +kernel, by decide +kernel⟩
set_option maxRecDepth 100000 in
theorem IX8_orderOf : Cond.instanceMethod yX8_orderOf ∈ lw_gd := gdI (i := 805) (by decide +kernel) rfl
set_option maxRecDepth 100000 in
theorem SX8_orderOf : Cond.selects yX8_orderOf.cls yX8_orderOf yX8_orderOf ∈ lw_gd := gdI (i := 806) (by decide +kernel) rfl
set_option maxRecDepth 100000 in
theorem YX8_window : MY yX8_window cX8_window 4 (some .int) 2 := ⟨gdI (i := 75) (by decide +kernel) rfl, gdI (i := 826) (by decide +kernel) rfl, by decide +kernel, by decide +kernel, by decide +kernel⟩
set_option maxRecDepth 100000 in
theorem IX8_window : Cond.instanceMethod yX8_window ∈ lw_gd := gdI (i := 824) (by decide +kernel) rfl
set_option maxRecDepth 100000 in
theorem SX8_window : Cond.selects yX8_window.cls yX8_window yX8_window ∈ lw_gd := gdI (i := 825) (by decide +kernel) rfl
set_option maxRecDepth 100000 in
theorem YX8_hinders : MY yX8_hinders cX8_hinders 4 (some .int) 3 := ⟨gdI (i := 75) (by decide +kernel) rfl, gdI (i := 850) (by decide +kernel) rfl, by decide +kernel, by decide +kernel, by decide +kernel⟩
set_option maxRecDepth 100000 in
theorem IX8_hinders : Cond.instanceMethod yX8_hinders ∈ lw_gd := gdI (i := 848) (by decide +kernel) rfl
set_option maxRecDepth 100000 in
theorem SX8_hinders : Cond.selects yX8_hinders.cls yX8_hinders yX8_hinders ∈ lw_gd := gdI (i := 849) (by decide +kernel) rfl
set_option maxRecDepth 100000 in
theorem YX8_plan : MY yX8_plan cX8_plan 4 (some .int) 3 := ⟨gdI (i := 75) (by decide +kernel) rfl, gdI (i := 868) (by decide +kernel) rfl, by decide +kernel, by decide +kernel, by decide +kernel⟩
set_option maxRecDepth 100000 in
theorem IX8_plan : Cond.instanceMethod yX8_plan ∈ lw_gd := gdI (i := 866) (by decide +kernel) rfl
set_option maxRecDepth 100000 in
theorem SX8_plan : Cond.selects yX8_plan.cls yX8_plan yX8_plan ∈ lw_gd := gdI (i := 867) (by decide +kernel) rfl
set_option maxRecDepth 100000 in
theorem YX8_run : MY yX8_run cX8_run 4 (some .int) 3 := ⟨gdI (i := 75) (by decide +kernel) rfl, gdI (i := 900) (by decide +kernel) rfl, by decide +kernel, by decide +kernel, by decide +kernel⟩
set_option maxRecDepth 100000 in
theorem IX8_run : Cond.instanceMethod yX8_run ∈ lw_gd := gdI (i := 898) (by decide +kernel) rfl
set_option maxRecDepth 100000 in
theorem SX8_run : Cond.selects yX8_run.cls yX8_run yX8_run ∈ lw_gd := gdI (i := 899) (by decide +kernel) rfl
set_option maxRecDepth 100000 in
theorem YX8_serving : MY yX8_serving cX8_serving 3 (some .int) 2 := ⟨gdI (i := 75) (by decide +kernel) rfl, gdI (i := 922) (by decide +kernel) rfl, by decide +kernel, by decide +kernel, by decide +kernel⟩
set_option maxRecDepth 100000 in
theorem IX8_serving : Cond.instanceMethod yX8_serving ∈ lw_gd := gdI (i := 920) (by decide +kernel) rfl
set_option maxRecDepth 100000 in
theorem SX8_serving : Cond.selects yX8_serving.cls yX8_serving yX8_serving ∈ lw_gd := gdI (i := 921) (by decide +kernel) rfl
set_option maxRecDepth 100000 in
theorem YX8_serve : MY yX8_serve cX8_serve 2 (some .int) 1 := ⟨gdI (i := 75) (by decide +kernel) rfl, gdI (i := 931) (by decide +kernel) rfl, by decide +kernel, by decide +kernel, by decide +kernel⟩
set_option maxRecDepth 100000 in
theorem IX8_serve : Cond.instanceMethod yX8_serve ∈ lw_gd := gdI (i := 929) (by decide +kernel) rfl
set_option maxRecDepth 100000 in
theorem SX8_serve : Cond.selects yX8_serve.cls yX8_serve yX8_serve ∈ lw_gd := gdI (i := 930) (by decide +kernel) rfl
set_option maxRecDepth 100000 in
theorem YX8_release : MY yX8_release cX8_release 3 (some .int) 1 := ⟨gdI (i := 75) (by decide +kernel) rfl, gdI (i := 938) (by decide +kernel) rfl, by decide +kernel, by decide +kernel, by decide +kernel⟩
set_option maxRecDepth 100000 in
theorem IX8_release : Cond.instanceMethod yX8_release ∈ lw_gd := gdI (i := 936) (by decide +kernel) rfl
set_option maxRecDepth 100000 in
theorem SX8_release : Cond.selects yX8_release.cls yX8_release yX8_release ∈ lw_gd := gdI (i := 937) (by decide +kernel) rfl
set_option maxRecDepth 100000 in
theorem YX8_putOff : MY yX8_putOff cX8_putOff 4 (some .int) 2 := ⟨gdI (i := 75) (by decide +kernel) rfl, gdI (i := 962) (by decide +kernel) rfl, by decide +kernel, by decide +kernel, by decide +kernel⟩
set_option maxRecDepth 100000 in
theorem IX8_putOff : Cond.instanceMethod yX8_putOff ∈ lw_gd := gdI (i := 960) (by decide +kernel) rfl
set_option maxRecDepth 100000 in
theorem SX8_putOff : Cond.selects yX8_putOff.cls yX8_putOff yX8_putOff ∈ lw_gd := gdI (i := 961) (by decide +kernel) rfl
set_option maxRecDepth 100000 in
theorem YX8_urgent : MY yX8_urgent cX8_urgent 3 (some .int) 1 := ⟨gdI (i := 75) (by decide +kernel) rfl, gdI (i := 982) (by decide +kernel) rfl, by decide +kernel, by decide +kernel, by decide +kernel⟩
set_option maxRecDepth 100000 in
theorem IX8_urgent : Cond.instanceMethod yX8_urgent ∈ lw_gd := gdI (i := 980) (by decide +kernel) rfl
set_option maxRecDepth 100000 in
theorem SX8_urgent : Cond.selects yX8_urgent.cls yX8_urgent yX8_urgent ∈ lw_gd := gdI (i := 981) (by decide +kernel) rfl
set_option maxRecDepth 100000 in
theorem YX8_pilot : MY yX8_pilot cX8_pilot 4 (some .int) 2 := ⟨gdI (i := 75) (by decide +kernel) rfl, gdI (i := 990) (by decide +kernel) rfl, by decide +kernel, by decide +kernel, by decide +kernel⟩
set_option maxRecDepth 100000 in
theorem IX8_pilot : Cond.instanceMethod yX8_pilot ∈ lw_gd := gdI (i := 988) (by decide +kernel) rfl
set_option maxRecDepth 100000 in
theorem SX8_pilot : Cond.selects yX8_pilot.cls yX8_pilot yX8_pilot ∈ lw_gd := gdI (i := 989) (by decide +kernel) rfl
set_option maxRecDepth 100000 in
theorem YX8_planOf : MY yX8_planOf cX8_planOf 5 (some .int) 3 := ⟨gdI (i := 75) (by decide +kernel) rfl, gdI (i := 1013) (by decide +kernel) rfl, by decide +kernel, by decide +kernel, by decide +kernel⟩
set_option maxRecDepth 100000 in
theorem IX8_planOf : Cond.instanceMethod yX8_planOf ∈ lw_gd := gdI (i := 1011) (by decide +kernel) rfl
set_option maxRecDepth 100000 in
theorem SX8_planOf : Cond.selects yX8_planOf.cls yX8_planOf yX8_planOf ∈ lw_gd := gdI (i := 1012) (by decide +kernel) rfl
set_option maxRecDepth 100000 in
theorem YX8_place : MY yX8_place cX8_place 3 (some .int) 2 := ⟨gdI (i := 75) (by decide +kernel) rfl, gdI (i := 1026) (by decide +kernel) rfl, by decide +kernel, by decide +kernel, by decide +kernel⟩
set_option maxRecDepth 100000 in
theorem IX8_place : Cond.instanceMethod yX8_place ∈ lw_gd := gdI (i := 1024) (by decide +kernel) rfl
set_option maxRecDepth 100000 in
theorem SX8_place : Cond.selects yX8_place.cls yX8_place yX8_place ∈ lw_gd := gdI (i := 1025) (by decide +kernel) rfl
set_option maxRecDepth 100000 in
theorem YX8_placeAgain : MY yX8_placeAgain cX8_placeAgain 3 (some .int) 2 := ⟨gdI (i := 75) (by decide +kernel) rfl, gdI (i := 1037) (by decide +kernel) rfl, by decide +kernel, by decide +kernel, by decide +kernel⟩
set_option maxRecDepth 100000 in
theorem IX8_placeAgain : Cond.instanceMethod yX8_placeAgain ∈ lw_gd := gdI (i := 1035) (by decide +kernel) rfl
set_option maxRecDepth 100000 in
theorem SX8_placeAgain : Cond.selects yX8_placeAgain.cls yX8_placeAgain yX8_placeAgain ∈ lw_gd := gdI (i := 1036) (by decide +kernel) rfl
set_option maxRecDepth 100000 in
theorem YX8_boat : MY yX8_boat cX8_boat 4 (some .int) 2 := ⟨gdI (i := 75) (by decide +kernel) rfl, gdI (i := 1049) (by decide +kernel) rfl, by decide +kernel, by decide +kernel, by decide +kernel⟩
set_option maxRecDepth 100000 in
theorem IX8_boat : Cond.instanceMethod yX8_boat ∈ lw_gd := gdI (i := 1047) (by decide +kernel) rfl
set_option maxRecDepth 100000 in
theorem SX8_boat : Cond.selects yX8_boat.cls yX8_boat yX8_boat ∈ lw_gd := gdI (i := 1048) (by decide +kernel) rfl
set_option maxRecDepth 100000 in
theorem YX8_pass : MY yX8_pass cX8_pass 2 (some .int) 1 := ⟨gdI (i := 75) (by decide +kernel) rfl, gdI (i := 1057) (by decide +kernel) rfl, by decide +kernel, by decide +kernel, by decide +kernel⟩
set_option maxRecDepth 100000 in
theorem IX8_pass : Cond.instanceMethod yX8_pass ∈ lw_gd := gdI (i := 1055) (by decide +kernel) rfl
set_option maxRecDepth 100000 in
theorem SX8_pass : Cond.selects yX8_pass.cls yX8_pass yX8_pass ∈ lw_gd := gdI (i := 1056) (by decide +kernel) rfl
set_option maxRecDepth 100000 in
theorem YX8_number : MY yX8_number cX8_number 2 (some .int) 1 := ⟨gdI (i := 75) (by decide +kernel) rfl, gdI (i := 1084) (by decide +kernel) rfl, by decide +kernel, by decide +kernel, by decide +kernel⟩
set_option maxRecDepth 100000 in
theorem IX8_number : Cond.instanceMethod yX8_number ∈ lw_gd := gdI (i := 1082) (by decide +kernel) rfl
set_option maxRecDepth 100000 in
theorem SX8_number : Cond.selects yX8_number.cls yX8_number yX8_number ∈ lw_gd := gdI (i := 1083) (by decide +kernel) rfl
set_option maxRecDepth 100000 in
theorem YX8_meanWait : MY yX8_meanWait cX8_meanWait 2 (some .double) 0 := ⟨gdI (i := 75) (by decide +kernel) rfl, gdI (i := 1135) (by decide +kernel) rfl, by decide +kernel, by decide +kernel, by decide +kernel⟩
set_option maxRecDepth 100000 in
theorem IX8_meanWait : Cond.instanceMethod yX8_meanWait ∈ lw_gd := gdI (i := 1133) (by decide +kernel) rfl
set_option maxRecDepth 100000 in
theorem SX8_meanWait : Cond.selects yX8_meanWait.cls yX8_meanWait yX8_meanWait ∈ lw_gd := gdI (i := 1134) (by decide +kernel) rfl
set_option maxRecDepth 100000 in
theorem YX8_share : MY yX8_share cX8_share 2 (some .float) 1 := ⟨gdI (i := 75) (by decide +kernel) rfl, gdI (i := 1149) (by decide +kernel) rfl, by decide +kernel, by decide +kernel, by decide +kernel⟩
set_option maxRecDepth 100000 in
theorem IX8_share : Cond.instanceMethod yX8_share ∈ lw_gd := gdI (i := 1147) (by decide +kernel) rfl
set_option maxRecDepth 100000 in
theorem SX8_share : Cond.selects yX8_share.cls yX8_share yX8_share ∈ lw_gd := gdI (i := 1148) (by decide +kernel) rfl
set_option maxRecDepth 100000 in
theorem YX8_feed : MY yX8_feed cX8_feed 2 (some .int) 1 := ⟨gdI (i := 75) (by decide +kernel) rfl, gdI (i := 1157) (by decide +kernel) rfl, by decide +kernel, by decide +kernel, by decide +kernel⟩
set_option maxRecDepth 100000 in
theorem IX8_feed : Cond.instanceMethod yX8_feed ∈ lw_gd := gdI (i := 1155) (by decide +kernel) rfl
set_option maxRecDepth 100000 in
theorem SX8_feed : Cond.selects yX8_feed.cls yX8_feed yX8_feed ∈ lw_gd := gdI (i := 1156) (by decide +kernel) rfl
set_option maxRecDepth 100000 in
theorem YX8_read : MY yX8_read cX8_read 5 (some .int) 0 := ⟨gdI (i := 75) (by decide +kernel) rfl, gdI (i := 1169) (by decide +kernel) rfl, by decide +kernel, by decide +kernel, by decide +kernel⟩
set_option maxRecDepth 100000 in
theorem IX8_read : Cond.instanceMethod yX8_read ∈ lw_gd := gdI (i := 1167) (by decide +kernel) rfl
set_option maxRecDepth 100000 in
theorem SX8_read : Cond.selects yX8_read.cls yX8_read yX8_read ∈ lw_gd := gdI (i := 1168) (by decide +kernel) rfl
set_option maxRecDepth 100000 in
theorem YX8_faultPosition : MY yX8_faultPosition cX8_faultPosition 1 (some .int) 0 := ⟨gdI (i := 75) (by decide +kernel) rfl, gdI (i := 1241) (by decide +kernel) rfl, by decide +kernel, by decide +kernel, by decide +kernel⟩
set_option maxRecDepth 100000 in
theorem IX8_faultPosition : Cond.instanceMethod yX8_faultPosition ∈ lw_gd := gdI (i := 1239) (by decide +kernel) rfl
set_option maxRecDepth 100000 in
theorem SX8_faultPosition : Cond.selects yX8_faultPosition.cls yX8_faultPosition yX8_faultPosition ∈ lw_gd := gdI (i := 1240) (by decide +kernel) rfl
set_option maxRecDepth 100000 in
theorem YX8_refusal : MY yX8_refusal cX8_refusal 2 (some .int) 1 := ⟨gdI (i := 75) (by decide +kernel) rfl, gdI (i := 1249) (by decide +kernel) rfl, by decide +kernel, by decide +kernel, by decide +kernel⟩
set_option maxRecDepth 100000 in
theorem IX8_refusal : Cond.instanceMethod yX8_refusal ∈ lw_gd := gdI (i := 1247) (by decide +kernel) rfl
set_option maxRecDepth 100000 in
theorem SX8_refusal : Cond.selects yX8_refusal.cls yX8_refusal yX8_refusal ∈ lw_gd := gdI (i := 1248) (by decide +kernel) rfl
set_option maxRecDepth 100000 in
theorem YX8_undo : MY yX8_undo cX8_undo 1 (some .int) 0 := ⟨gdI (i := 75) (by decide +kernel) rfl, gdI (i := 1257) (by decide +kernel) rfl, by decide +kernel, by decide +kernel, by decide +kernel⟩
set_option maxRecDepth 100000 in
theorem IX8_undo : Cond.instanceMethod yX8_undo ∈ lw_gd := gdI (i := 1255) (by decide +kernel) rfl
set_option maxRecDepth 100000 in
theorem SX8_undo : Cond.selects yX8_undo.cls yX8_undo yX8_undo ∈ lw_gd := gdI (i := 1256) (by decide +kernel) rfl
set_option maxRecDepth 100000 in
theorem YX8_restoreSnapshot : MY yX8_restoreSnapshot cX8_restoreSnapshot 1 (some .int) 0 := ⟨gdI (i := 75) (by decide +kernel) rfl, gdI (i := 1270) (by decide +kernel) rfl, by decide +kernel, by decide +kernel, by decide +kernel⟩
set_option maxRecDepth 100000 in
theorem IX8_restoreSnapshot : Cond.instanceMethod yX8_restoreSnapshot ∈ lw_gd := gdI (i := 1268) (by decide +kernel) rfl
set_option maxRecDepth 100000 in
theorem SX8_restoreSnapshot : Cond.selects yX8_restoreSnapshot.cls yX8_restoreSnapshot yX8_restoreSnapshot ∈ lw_gd := gdI (i := 1269) (by decide +kernel) rfl
set_option maxRecDepth 100000 in
theorem YX9_rule : MY yX9_rule cX9_rule 4 (some .int) 2 := ⟨gdI (i := 84) (by decide +kernel) rfl, gdI (i := 1424) (by decide +kernel) rfl, by decide +kernel, by decide +kernel, by decide +kernel⟩
set_option maxRecDepth 100000 in
theorem IX9_rule : Cond.instanceMethod yX9_rule ∈ lw_gd := gdI (i := 1422) (by decide +kernel) rfl
set_option maxRecDepth 100000 in
theorem SX9_rule : Cond.selects yX9_rule.cls yX9_rule yX9_rule ∈ lw_gd := gdI (i := 1423) (by decide +kernel) rfl
set_option maxRecDepth 100000 in
theorem YX9_thrown : MY yX9_thrown cX9_thrown 1 (some .int) 0 := ⟨gdI (i := 84) (by decide +kernel) rfl, gdI (i := 1420) (by decide +kernel) rfl, by decide +kernel, by decide +kernel, by decide +kernel⟩
set_option maxRecDepth 100000 in
theorem IX9_thrown : Cond.instanceMethod yX9_thrown ∈ lw_gd := gdI (i := 1418) (by decide +kernel) rfl
set_option maxRecDepth 100000 in
theorem SX9_thrown : Cond.selects yX9_thrown.cls yX9_thrown yX9_thrown ∈ lw_gd := gdI (i := 1419) (by decide +kernel) rfl
set_option maxRecDepth 100000 in
theorem YX9_tide : MY yX9_tide cX9_tide 4 (some .int) 2 := ⟨gdI (i := 84) (by decide +kernel) rfl, gdI (i := 1459) (by decide +kernel) rfl, by decide +kernel, by decide +kernel, by decide +kernel⟩
set_option maxRecDepth 100000 in
theorem IX9_tide : Cond.instanceMethod yX9_tide ∈ lw_gd := gdI (i := 1457) (by decide +kernel) rfl
set_option maxRecDepth 100000 in
theorem SX9_tide : Cond.selects yX9_tide.cls yX9_tide yX9_tide ∈ lw_gd := gdI (i := 1458) (by decide +kernel) rfl
set_option maxRecDepth 100000 in
theorem YX9_depth : MY yX9_depth cX9_depth 2 (some .int) 1 := ⟨gdI (i := 84) (by decide +kernel) rfl, gdI (i := 1463) (by decide +kernel) rfl, by decide +kernel, by decide +kernel, by decide +kernel⟩
set_option maxRecDepth 100000 in
theorem IX9_depth : Cond.instanceMethod yX9_depth ∈ lw_gd := gdI (i := 1461) (by decide +kernel) rfl
set_option maxRecDepth 100000 in
theorem SX9_depth : Cond.selects yX9_depth.cls yX9_depth yX9_depth ∈ lw_gd := gdI (i := 1462) (by decide +kernel) rfl
set_option maxRecDepth 100000 in
theorem YX9_addPilot : MY yX9_addPilot cX9_addPilot 3 (some .int) 1 := ⟨gdI (i := 84) (by decide +kernel) rfl, gdI (i := 1474) (by decide +kernel) rfl, by decide +kernel, by decide +kernel, by decide +kernel⟩
set_option maxRecDepth 100000 in
theorem IX9_addPilot : Cond.instanceMethod yX9_addPilot ∈ lw_gd := gdI (i := 1472) (by decide +kernel) rfl
set_option maxRecDepth 100000 in
theorem SX9_addPilot : Cond.selects yX9_addPilot.cls yX9_addPilot yX9_addPilot ∈ lw_gd := gdI (i := 1473) (by decide +kernel) rfl
set_option maxRecDepth 100000 in
theorem YX9_addBoat : MY yX9_addBoat cX9_addBoat 3 (some .int) 1 := ⟨gdI (i := 84) (by decide +kernel) rfl, gdI (i := 1478) (by decide +kernel) rfl, by decide +kernel, by decide +kernel, by decide +kernel⟩
set_option maxRecDepth 100000 in
theorem IX9_addBoat : Cond.instanceMethod yX9_addBoat ∈ lw_gd := gdI (i := 1476) (by decide +kernel) rfl
set_option maxRecDepth 100000 in
theorem SX9_addBoat : Cond.selects yX9_addBoat.cls yX9_addBoat yX9_addBoat ∈ lw_gd := gdI (i := 1477) (by decide +kernel) rfl
set_option maxRecDepth 100000 in
theorem YX9_orderOf : MY yX9_orderOf cX9_orderOf 3 (some .int) 2 := ⟨gdI (i := 84) (by decide +kernel) rfl, gdI (i := 1486) (by decide +kernel) rfl, by decide +kernel, by decide +kernel, by decide +kernel⟩
set_option maxRecDepth 100000 in
theorem IX9_orderOf : Cond.instanceMethod yX9_orderOf ∈ lw_gd := gdI (i := 1484) (by decide +kernel) rfl
set_option maxRecDepth 100000 in
theorem SX9_orderOf : Cond.selects yX9_orderOf.cls yX9_orderOf yX9_orderOf ∈ lw_gd := gdI (i := 1485) (by decide +kernel) rfl
set_option maxRecDepth 100000 in
theorem YX9_window : MY yX9_window cX9_window 4 (some .int) 2 := ⟨gdI (i := 84) (by decide +kernel) rfl, gdI (i := 1514) (by decide +kernel) rfl, by decide +kernel, by decide +kernel, by decide +kernel⟩
set_option maxRecDepth 100000 in
theorem IX9_window : Cond.instanceMethod yX9_window ∈ lw_gd := gdI (i := 1512) (by decide +kernel) rfl
set_option maxRecDepth 100000 in
theorem SX9_window : Cond.selects yX9_window.cls yX9_window yX9_window ∈ lw_gd := gdI (i := 1513) (by decide +kernel) rfl
set_option maxRecDepth 100000 in
theorem YX9_hinders : MY yX9_hinders cX9_hinders 4 (some .int) 3 := ⟨gdI (i := 84) (by decide +kernel) rfl, gdI (i := 1518) (by decide +kernel) rfl, by decide +kernel, by decide +kernel, by decide +kernel⟩
set_option maxRecDepth 100000 in
theorem IX9_hinders : Cond.instanceMethod yX9_hinders ∈ lw_gd := gdI (i := 1516) (by decide +kernel) rfl
set_option maxRecDepth 100000 in
theorem SX9_hinders : Cond.selects yX9_hinders.cls yX9_hinders yX9_hinders ∈ lw_gd := gdI (i := 1517) (by decide +kernel) rfl
set_option maxRecDepth 100000 in
theorem YX9_plan : MY yX9_plan cX9_plan 5 (some .int) 3 := ⟨gdI (i := 84) (by decide +kernel) rfl, gdI (i := 1574) (by decide +kernel) rfl, by decide +kernel, by decide +kernel, by decide +kernel⟩
set_option maxRecDepth 100000 in
theorem IX9_plan : Cond.instanceMethod yX9_plan ∈ lw_gd := gdI (i := 1572) (by decide +kernel) rfl
set_option maxRecDepth 100000 in
theorem SX9_plan : Cond.selects yX9_plan.cls yX9_plan yX9_plan ∈ lw_gd := gdI (i := 1573) (by decide +kernel) rfl
set_option maxRecDepth 100000 in
theorem YX9_run : MY yX9_run cX9_run 5 (some .int) 3 := ⟨gdI (i := 84) (by decide +kernel) rfl, gdI (i := 1586) (by decide +kernel) rfl, by decide +kernel, by decide +kernel, by decide +kernel⟩
set_option maxRecDepth 100000 in
theorem IX9_run : Cond.instanceMethod yX9_run ∈ lw_gd := gdI (i := 1584) (by decide +kernel) rfl
set_option maxRecDepth 100000 in
theorem SX9_run : Cond.selects yX9_run.cls yX9_run yX9_run ∈ lw_gd := gdI (i := 1585) (by decide +kernel) rfl
set_option maxRecDepth 100000 in
theorem YX9_serving : MY yX9_serving cX9_serving 3 (some .int) 2 := ⟨gdI (i := 84) (by decide +kernel) rfl, gdI (i := 1612) (by decide +kernel) rfl, by decide +kernel, by decide +kernel, by decide +kernel⟩
set_option maxRecDepth 100000 in
theorem IX9_serving : Cond.instanceMethod yX9_serving ∈ lw_gd := gdI (i := 1610) (by decide +kernel) rfl
set_option maxRecDepth 100000 in
theorem SX9_serving : Cond.selects yX9_serving.cls yX9_serving yX9_serving ∈ lw_gd := gdI (i := 1611) (by decide +kernel) rfl
set_option maxRecDepth 100000 in
theorem YX8_serveAll : MY yX8_serveAll cX8_serveAll 4 (some .int) 0 := ⟨gdI (i := 75) (by decide +kernel) rfl, gdI (i := 383) (by decide +kernel) rfl, by decide +kernel, by decide +kernel, by decide +kernel⟩
set_option maxRecDepth 100000 in
theorem IX8_serveAll : Cond.instanceMethod yX8_serveAll ∈ lw_gd := gdI (i := 381) (by decide +kernel) rfl
set_option maxRecDepth 100000 in
theorem SX8_serveAll : Cond.selects yX8_serveAll.cls yX8_serveAll yX8_serveAll ∈ lw_gd := gdI (i := 382) (by decide +kernel) rfl
set_option maxRecDepth 100000 in
theorem YX9_serveAll : MY yX9_serveAll cX9_serveAll 3 (some .int) 0 := ⟨gdI (i := 84) (by decide +kernel) rfl, gdI (i := 1640) (by decide +kernel) rfl, by decide +kernel, by decide +kernel, by decide +kernel⟩
set_option maxRecDepth 100000 in
theorem IX9_serveAll : Cond.instanceMethod yX9_serveAll ∈ lw_gd := gdI (i := 1638) (by decide +kernel) rfl
set_option maxRecDepth 100000 in
theorem SX9_serveAll : Cond.selects yX9_serveAll.cls yX9_serveAll yX9_serveAll ∈ lw_gd := gdI (i := 1639) (by decide +kernel) rfl
set_option maxRecDepth 100000 in
theorem YX9_release : MY yX9_release cX9_release 2 (some .int) 1 := ⟨gdI (i := 84) (by decide +kernel) rfl, gdI (i := 1652) (by decide +kernel) rfl, by decide +kernel, by decide +kernel, by decide +kernel⟩
set_option maxRecDepth 100000 in
theorem IX9_release : Cond.instanceMethod yX9_release ∈ lw_gd := gdI (i := 1650) (by decide +kernel) rfl
set_option maxRecDepth 100000 in
theorem SX9_release : Cond.selects yX9_release.cls yX9_release yX9_release ∈ lw_gd := gdI (i := 1651) (by decide +kernel) rfl
set_option maxRecDepth 100000 in
theorem YX9_urgent : MY yX9_urgent cX9_urgent 4 (some .int) 1 := ⟨gdI (i := 84) (by decide +kernel) rfl, gdI (i := 1660) (by decide +kernel) rfl, by decide +kernel, by decide +kernel, by decide +kernel⟩
set_option maxRecDepth 100000 in
theorem IX9_urgent : Cond.instanceMethod yX9_urgent ∈ lw_gd := gdI (i := 1658) (by decide +kernel) rfl
set_option maxRecDepth 100000 in
theorem SX9_urgent : Cond.selects yX9_urgent.cls yX9_urgent yX9_urgent ∈ lw_gd := gdI (i := 1659) (by decide +kernel) rfl
set_option maxRecDepth 100000 in
theorem YX9_pilot : MY yX9_pilot cX9_pilot 3 (some .int) 2 := ⟨gdI (i := 84) (by decide +kernel) rfl, gdI (i := 1664) (by decide +kernel) rfl, by decide +kernel, by decide +kernel, by decide +kernel⟩
set_option maxRecDepth 100000 in
theorem IX9_pilot : Cond.instanceMethod yX9_pilot ∈ lw_gd := gdI (i := 1662) (by decide +kernel) rfl
set_option maxRecDepth 100000 in
theorem SX9_pilot : Cond.selects yX9_pilot.cls yX9_pilot yX9_pilot ∈ lw_gd := gdI (i := 1663) (by decide +kernel) rfl
set_option maxRecDepth 100000 in
theorem YX9_planOf : MY yX9_planOf cX9_planOf 6 (some .int) 3 := ⟨gdI (i := 84) (by decide +kernel) rfl, gdI (i := 1684) (by decide +kernel) rfl, by decide +kernel, by decide +kernel, by decide +kernel⟩
set_option maxRecDepth 100000 in
theorem IX9_planOf : Cond.instanceMethod yX9_planOf ∈ lw_gd := gdI (i := 1682) (by decide +kernel) rfl
set_option maxRecDepth 100000 in
theorem SX9_planOf : Cond.selects yX9_planOf.cls yX9_planOf yX9_planOf ∈ lw_gd := gdI (i := 1683) (by decide +kernel) rfl
set_option maxRecDepth 100000 in
theorem YX9_place : MY yX9_place cX9_place 3 (some .int) 2 := ⟨gdI (i := 84) (by decide +kernel) rfl, gdI (i := 1710) (by decide +kernel) rfl, by decide +kernel, by decide +kernel, by decide +kernel⟩
set_option maxRecDepth 100000 in
theorem IX9_place : Cond.instanceMethod yX9_place ∈ lw_gd := gdI (i := 1708) (by decide +kernel) rfl
set_option maxRecDepth 100000 in
theorem SX9_place : Cond.selects yX9_place.cls yX9_place yX9_place ∈ lw_gd := gdI (i := 1709) (by decide +kernel) rfl
set_option maxRecDepth 100000 in
theorem YX9_placeAgain : MY yX9_placeAgain cX9_placeAgain 6 (some .int) 2 := ⟨gdI (i := 84) (by decide +kernel) rfl, gdI (i := 1718) (by decide +kernel) rfl, by decide +kernel, by decide +kernel, by decide +kernel⟩
set_option maxRecDepth 100000 in
theorem IX9_placeAgain : Cond.instanceMethod yX9_placeAgain ∈ lw_gd := gdI (i := 1716) (by decide +kernel) rfl
set_option maxRecDepth 100000 in
theorem SX9_placeAgain : Cond.selects yX9_placeAgain.cls yX9_placeAgain yX9_placeAgain ∈ lw_gd := gdI (i := 1717) (by decide +kernel) rfl
set_option maxRecDepth 100000 in
theorem YX9_boat : MY yX9_boat cX9_boat 3 (some .int) 2 := ⟨gdI (i := 84) (by decide +kernel) rfl, gdI (i := 1722) (by decide +kernel) rfl, by decide +kernel, by decide +kernel, by decide +kernel⟩
set_option maxRecDepth 100000 in
theorem IX9_boat : Cond.instanceMethod yX9_boat ∈ lw_gd := gdI (i := 1720) (by decide +kernel) rfl
set_option maxRecDepth 100000 in
theorem SX9_boat : Cond.selects yX9_boat.cls yX9_boat yX9_boat ∈ lw_gd := gdI (i := 1721) (by decide +kernel) rfl
set_option maxRecDepth 100000 in
theorem YX9_number : MY yX9_number cX9_number 2 (some .int) 1 := ⟨gdI (i := 84) (by decide +kernel) rfl, gdI (i := 1746) (by decide +kernel) rfl, by decide +kernel, by decide +kernel, by decide +kernel⟩
set_option maxRecDepth 100000 in
theorem IX9_number : Cond.instanceMethod yX9_number ∈ lw_gd := gdI (i := 1744) (by decide +kernel) rfl
set_option maxRecDepth 100000 in
theorem SX9_number : Cond.selects yX9_number.cls yX9_number yX9_number ∈ lw_gd := gdI (i := 1745) (by decide +kernel) rfl
set_option maxRecDepth 100000 in
theorem YX9_meanWait : MY yX9_meanWait cX9_meanWait 4 (some .double) 0 := ⟨gdI (i := 84) (by decide +kernel) rfl, gdI (i := 1762) (by decide +kernel) rfl, by decide +kernel, by decide +kernel, by decide +kernel⟩
set_option maxRecDepth 100000 in
theorem IX9_meanWait : Cond.instanceMethod yX9_meanWait ∈ lw_gd := gdI (i := 1760) (by decide +kernel) rfl
set_option maxRecDepth 100000 in
theorem SX9_meanWait : Cond.selects yX9_meanWait.cls yX9_meanWait yX9_meanWait ∈ lw_gd := gdI (i := 1761) (by decide +kernel) rfl
set_option maxRecDepth 100000 in
theorem YX9_share : MY yX9_share cX9_share 2 (some .float) 1 := ⟨gdI (i := 84) (by decide +kernel) rfl, gdI (i := 1766) (by decide +kernel) rfl, by decide +kernel, by decide +kernel, by decide +kernel⟩
set_option maxRecDepth 100000 in
theorem IX9_share : Cond.instanceMethod yX9_share ∈ lw_gd := gdI (i := 1764) (by decide +kernel) rfl
set_option maxRecDepth 100000 in
theorem SX9_share : Cond.selects yX9_share.cls yX9_share yX9_share ∈ lw_gd := gdI (i := 1765) (by decide +kernel) rfl
set_option maxRecDepth 100000 in
theorem YX9_feed : MY yX9_feed cX9_feed 2 (some .int) 1 := ⟨gdI (i := 84) (by decide +kernel) rfl, gdI (i := 1774) (by decide +kernel) rfl, by decide +kernel, by decide +kernel, by decide +kernel⟩
set_option maxRecDepth 100000 in
theorem IX9_feed : Cond.instanceMethod yX9_feed ∈ lw_gd := gdI (i := 1772) (by decide +kernel) rfl
set_option maxRecDepth 100000 in
theorem SX9_feed : Cond.selects yX9_feed.cls yX9_feed yX9_feed ∈ lw_gd := gdI (i := 1773) (by decide +kernel) rfl
set_option maxRecDepth 100000 in
theorem YX9_read : MY yX9_read cX9_read 5 (some .int) 0 := ⟨gdI (i := 84) (by decide +kernel) rfl, gdI (i := 1778) (by decide +kernel) rfl, by decide +kernel, by decide +kernel, by decide +kernel⟩
set_option maxRecDepth 100000 in
theorem IX9_read : Cond.instanceMethod yX9_read ∈ lw_gd := gdI (i := 1776) (by decide +kernel) rfl
set_option maxRecDepth 100000 in
theorem SX9_read : Cond.selects yX9_read.cls yX9_read yX9_read ∈ lw_gd := gdI (i := 1777) (by decide +kernel) rfl
set_option maxRecDepth 100000 in
theorem YX9_faultPosition : MY yX9_faultPosition cX9_faultPosition 1 (some .int) 0 := ⟨gdI (i := 84) (by decide +kernel) rfl, gdI (i := 1814) (by decide +kernel) rfl, by decide +kernel, by decide +kernel, by decide +kernel⟩
set_option maxRecDepth 100000 in
theorem IX9_faultPosition : Cond.instanceMethod yX9_faultPosition ∈ lw_gd := gdI (i := 1812) (by decide +kernel) rfl
set_option maxRecDepth 100000 in
theorem SX9_faultPosition : Cond.selects yX9_faultPosition.cls yX9_faultPosition yX9_faultPosition ∈ lw_gd := gdI (i := 1813) (by decide +kernel) rfl
set_option maxRecDepth 100000 in
theorem YX9_undo : MY yX9_undo cX9_undo 1 (some .int) 0 := ⟨gdI (i := 84) (by decide +kernel) rfl, gdI (i := 1822) (by decide +kernel) rfl, by decide +kernel, by decide +kernel, by decide +kernel⟩
set_option maxRecDepth 100000 in
theorem IX9_undo : Cond.instanceMethod yX9_undo ∈ lw_gd := gdI (i := 1820) (by decide +kernel) rfl
set_option maxRecDepth 100000 in
theorem SX9_undo : Cond.selects yX9_undo.cls yX9_undo yX9_undo ∈ lw_gd := gdI (i := 1821) (by decide +kernel) rfl
set_option maxRecDepth 100000 in
theorem YX8_saveSnapshot : MY yX8_saveSnapshot cX8_saveSnapshot 1 (some .int) 0 := ⟨gdI (i := 75) (by decide +kernel) rfl, gdI (i := 582) (by decide +kernel) rfl, by decide +kernel, by decide +kernel, by decide +kernel⟩
set_option maxRecDepth 100000 in
theorem IX8_saveSnapshot : Cond.instanceMethod yX8_saveSnapshot ∈ lw_gd := gdI (i := 580) (by decide +kernel) rfl
set_option maxRecDepth 100000 in
theorem SX8_saveSnapshot : Cond.selects yX8_saveSnapshot.cls yX8_saveSnapshot yX8_saveSnapshot ∈ lw_gd := gdI (i := 581) (by decide +kernel) rfl
set_option maxRecDepth 100000 in
theorem YX9_saveSnapshot : MY yX9_saveSnapshot cX9_saveSnapshot 1 (some .int) 0 := ⟨gdI (i := 84) (by decide +kernel) rfl, gdI (i := 1826) (by decide +kernel) rfl, by decide +kernel, by decide +kernel, by decide +kernel⟩
set_option maxRecDepth 100000 in
theorem IX9_saveSnapshot : Cond.instanceMethod yX9_saveSnapshot ∈ lw_gd := gdI (i := 1824) (by decide +kernel) rfl
set_option maxRecDepth 100000 in
theorem SX9_saveSnapshot : Cond.selects yX9_saveSnapshot.cls yX9_saveSnapshot yX9_saveSnapshot ∈ lw_gd := gdI (i := 1825) (by decide +kernel) rfl
set_option maxRecDepth 100000 in
theorem YX9_restoreSnapshot : MY yX9_restoreSnapshot cX9_restoreSnapshot 1 (some .int) 0 := ⟨gdI (i := 84) (by decide +kernel) rfl, gdI (i := 1830) (by decide +kernel) rfl, by decide +kernel, by decide +kernel, by decide +kernel⟩
set_option maxRecDepth 100000 in
theorem IX9_restoreSnapshot : Cond.instanceMethod yX9_restoreSnapshot ∈ lw_gd := gdI (i := 1828) (by decide +kernel) rfl
set_option maxRecDepth 100000 in
theorem SX9_restoreSnapshot : Cond.selects yX9_restoreSnapshot.cls yX9_restoreSnapshot yX9_restoreSnapshot ∈ lw_gd := gdI (i := 1829) (by decide +kernel) rfl
set_option maxRecDepth 100000 in
theorem YX9_refusal : MY yX9_refusal cX9_refusal 2 (some .int) 1 := ⟨gdI (i := 84) (by decide +kernel) rfl, gdI (i := 1818) (by decide +kernel) rfl, by decide +kernel, by decide +kernel, by decide +kernel⟩
set_option maxRecDepth 100000 in
theorem IX9_refusal : Cond.instanceMethod yX9_refusal ∈ lw_gd := gdI (i := 1816) (by decide +kernel) rfl
set_option maxRecDepth 100000 in
theorem SX9_refusal : Cond.selects yX9_refusal.cls yX9_refusal yX9_refusal ∈ lw_gd := gdI (i := 1817) (by decide +kernel) rfl
