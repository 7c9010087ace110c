set_option maxRecDepth 100000 in
theorem ML_7 : MLK RL 7 yX8_rule := gdI (i := 588) (by decide +kernel) rfl
set_option maxRecDepth 100000 in
theorem ML_15 : MLK RL 15 yX8_tide := gdI (i := 672) (by decide +kernel) rfl
set_option maxRecDepth 100000 in
theorem ML_18 : MLK RL 18 yX8_depth := gdI (i := 705) (by decide +kernel) rfl
set_option maxRecDepth 100000 in
theorem ML_24 : MLK RL 24 yX8_addPilot := gdI (i := 730) (by decide +kernel) rfl
set_option maxRecDepth 100000 in
theorem ML_29 : MLK RL 29 yX8_addBoat := gdI (i := 762) (by decide +kernel) rfl
set_option maxRecDepth 100000 in
theorem ML_32 : MLK RL 32 yX8_order := gdI (i := 779) (by decide +kernel) rfl
set_option maxRecDepth 100000 in
theorem ML_36 : MLK RL 36 yX8_orderOf := gdI (i := 804) (by decide +kernel) rfl
set_option maxRecDepth 100000 in
theorem ML_39 : MLK RL 39 yX8_window := gdI (i := 823) (by decide +kernel) rfl
set_option maxRecDepth 100000 in
theorem ML_44 : MLK RL 44 yX8_hinders := gdI (i := 847) (by decide +kernel) rfl
set_option maxRecDepth 100000 in
theorem ML_48 : MLK RL 48 yX8_plan := gdI (i := 865) (by decide +kernel) rfl
set_option maxRecDepth 100000 in
theorem ML_53 : MLK RL 53 yX8_run := gdI (i := 897) (by decide +kernel) rfl
set_option maxRecDepth 100000 in
theorem ML_56 : MLK RL 56 yX8_serving := gdI (i := 919) (by decide +kernel) rfl
set_option maxRecDepth 100000 in
theorem ML_59 : MLK RL 59 yX8_serve := gdI (i := 928) (by decide +kernel) rfl
set_option maxRecDepth 100000 in
theorem ML_62 : MLK RL 62 yX8_release := gdI (i := 935) (by decide +kernel) rfl
set_option maxRecDepth 100000 in
theorem ML_65 : MLK RL 65 yX8_putOff := gdI (i := 959) (by decide +kernel) rfl
set_option maxRecDepth 100000 in
theorem ML_68 : MLK RL 68 yX8_urgent := gdI (i := 979) (by decide +kernel) rfl
set_option maxRecDepth 100000 in
theorem ML_71 : MLK RL 71 yX8_pilot := gdI (i := 987) (by decide +kernel) rfl
set_option maxRecDepth 100000 in
theorem ML_74 : MLK RL 74 yX8_planOf := gdI (i := 1010) (by decide +kernel) rfl
set_option maxRecDepth 100000 in
theorem ML_77 : MLK RL 77 yX8_place := gdI (i := 1023) (by decide +kernel) rfl
set_option maxRecDepth 100000 in
theorem ML_80 : MLK RL 80 yX8_placeAgain := gdI (i := 1034) (by decide +kernel) rfl
set_option maxRecDepth 100000 in
theorem ML_83 : MLK RL 83 yX8_boat := gdI (i := 1046) (by decide +kernel) rfl
set_option maxRecDepth 100000 in
theorem ML_86 : MLK RL 86 yX8_pass := gdI (i := 1054) (by decide +kernel) rfl
set_option maxRecDepth 100000 in
theorem ML_89 : MLK RL 89 yX8_number := gdI (i := 1081) (by decide +kernel) rfl
set_option maxRecDepth 100000 in
theorem ML_92 : MLK RL 92 yX8_meanWait := gdI (i := 1132) (by decide +kernel) rfl
set_option maxRecDepth 100000 in
theorem ML_98 : MLK RL 98 yX8_share := gdI (i := 1146) (by decide +kernel) rfl
set_option maxRecDepth 100000 in
theorem ML_102 : MLK RL 102 yX8_feed := gdI (i := 1154) (by decide +kernel) rfl
set_option maxRecDepth 100000 in
theorem ML_106 : MLK RL 106 yX8_read := gdI (i := 1166) (by decide +kernel) rfl
set_option maxRecDepth 100000 in
theorem ML_110 : MLK RL 110 yX8_faultPosition := gdI (i := 1238) (by decide +kernel) rfl
set_option maxRecDepth 100000 in
theorem ML_113 : MLK RL 113 yX8_refusal := gdI (i := 1246) (by decide +kernel) rfl
set_option maxRecDepth 100000 in
theorem ML_117 : MLK RL 117 yX8_undo := gdI (i := 1254) (by decide +kernel) rfl
set_option maxRecDepth 100000 in
theorem ML_120 : MLK RL 120 yX8_restoreSnapshot := gdI (i := 1267) (by decide +kernel) rfl
set_option maxRecDepth 100000 in
theorem ML_127 : MLK RL 127 yL_rule := gdI (i := 584) (by decide +kernel) rfl
set_option maxRecDepth 100000 in
theorem YL_rulei : Cond.initialized yL_rule.cls ∈ lw_gd := gdI (i := 74) (by decide +kernel) rfl
set_option maxRecDepth 100000 in
theorem YL_rulec : Cond.codeWith yL_rule cL_rule 5 (some .int) (jtab yL_rule.cls yL_rule.name) ∈ lw_gd := gdI (i := 586) (by decide +kernel) rfl
set_option maxRecDepth 100000 in
theorem IL_rule : Cond.static yL_rule ∈ lw_gd := gdI (i := 585) (by decide +kernel) rfl
set_option maxRecDepth 100000 in
theorem ML_132 : MLK RL 132 yX9_rule := gdI (i := 1421) (by decide +kernel) rfl
set_option maxRecDepth 100000 in
theorem ML_133 : MLK RL 133 yX9_thrown := gdI (i := 1417) (by decide +kernel) rfl
set_option maxRecDepth 100000 in
theorem ML_136 : MLK RL 136 yL_tide := gdI (i := 669) (by decide +kernel) rfl
set_option maxRecDepth 100000 in
theorem YL_tidei : Cond.initialized yL_tide.cls ∈ lw_gd := gdI (i := 74) (by decide +kernel) rfl
set_option maxRecDepth 100000 in
theorem YL_tidec : Cond.codeWith yL_tide cL_tide 5 (some .int) (jtab yL_tide.cls yL_tide.name) ∈ lw_gd := gdI (i := 671) (by decide +kernel) rfl
set_option maxRecDepth 100000 in
theorem IL_tide : Cond.static yL_tide ∈ lw_gd := gdI (i := 670) (by decide +kernel) rfl
set_option maxRecDepth 100000 in
theorem ML_138 : MLK RL 138 yX9_tide := gdI (i := 1456) (by decide +kernel) rfl
set_option maxRecDepth 100000 in
theorem ML_139 : MLK RL 139 yL_depth := gdI (i := 678) (by decide +kernel) rfl
set_option maxRecDepth 100000 in
theorem YL_depthi : Cond.initialized yL_depth.cls ∈ lw_gd := gdI (i := 74) (by decide +kernel) rfl
set_option maxRecDepth 100000 in
theorem YL_depthc : Cond.codeWith yL_depth cL_depth 4 (some .int) (jtab yL_depth.cls yL_depth.name) ∈ lw_gd := gdI (i := 680) (by decide +kernel) rfl
set_option maxRecDepth 100000 in
theorem IL_depth : Cond.static yL_depth ∈ lw_gd := gdI (i := 679) (by decide +kernel) rfl
set_option maxRecDepth 100000 in
theorem ML_142 : MLK RL 142 yX9_depth := gdI (i := 1460) (by decide +kernel) rfl
set_option maxRecDepth 100000 in
theorem ML_143 : MLK RL 143 yL_addPilot := gdI (i := 726) (by decide +kernel) rfl
set_option maxRecDepth 100000 in
theorem YL_addPiloti : Cond.initialized yL_addPilot.cls ∈ lw_gd := gdI (i := 74) (by decide +kernel) rfl
set_option maxRecDepth 100000 in
theorem YL_addPilotc : Cond.codeWith yL_addPilot cL_addPilot 4 (some .int) (jtab yL_addPilot.cls yL_addPilot.name) ∈ lw_gd := gdI (i := 728) (by decide +kernel) rfl
set_option maxRecDepth 100000 in
theorem IL_addPilot : Cond.static yL_addPilot ∈ lw_gd := gdI (i := 727) (by decide +kernel) rfl
set_option maxRecDepth 100000 in
theorem ML_145 : MLK RL 145 yX9_addPilot := gdI (i := 1471) (by decide +kernel) rfl
set_option maxRecDepth 100000 in
theorem ML_146 : MLK RL 146 yL_addBoat := gdI (i := 759) (by decide +kernel) rfl
set_option maxRecDepth 100000 in
theorem YL_addBoati : Cond.initialized yL_addBoat.cls ∈ lw_gd := gdI (i := 74) (by decide +kernel) rfl
set_option maxRecDepth 100000 in
theorem YL_addBoatc : Cond.codeWith yL_addBoat cL_addBoat 4 (some .int) (jtab yL_addBoat.cls yL_addBoat.name) ∈ lw_gd := gdI (i := 761) (by decide +kernel) rfl
set_option maxRecDepth 100000 in
theorem IL_addBoat : Cond.static yL_addBoat ∈ lw_gd := gdI (i := 760) (by decide +kernel) rfl
set_option maxRecDepth 100000 in
theorem ML_148 : MLK RL 148 yX9_addBoat := gdI (i := 1475) (by decide +kernel) rfl
set_option maxRecDepth 100000 in
theorem ML_153 : MLK RL 153 yL_orderOf := gdI (i := 801) (by decide +kernel) rfl
set_option maxRecDepth 100000 in
theorem YL_orderOfi : Cond.initialized yL_orderOf.cls ∈ lw_gd := gdI (i := 74) (by decide +kernel) rfl
set_option maxRecDepth 100000 in
theorem YL_orderOfc : Cond.codeWith yL_orderOf cL_orderOf 5 (some .int) (jtab yL_orderOf.cls yL_orderOf.name) ∈ lw_gd := gdI (i := 803) (by decide +kernel) rfl
set_option maxRecDepth 100000 in
theorem IL_orderOf : Cond.static yL_orderOf ∈ lw_gd := gdI (i := 802) (by decide +kernel) rfl
set_option maxRecDepth 100000 in
theorem ML_155 : MLK RL 155 yX9_orderOf := gdI (i := 1483) (by decide +kernel) rfl
set_option maxRecDepth 100000 in
theorem ML_156 : MLK RL 156 yL_window := gdI (i := 819) (by decide +kernel) rfl
set_option maxRecDepth 100000 in
theorem YL_windowi : Cond.initialized yL_window.cls ∈ lw_gd := gdI (i := 74) (by decide +kernel) rfl
set_option maxRecDepth 100000 in
theorem YL_windowc : Cond.codeWith yL_window cL_window 5 (some .int) (jtab yL_window.cls yL_window.name) ∈ lw_gd := gdI (i := 821) (by decide +kernel) rfl
set_option maxRecDepth 100000 in
theorem IL_window : Cond.static yL_window ∈ lw_gd := gdI (i := 820) (by decide +kernel) rfl
set_option maxRecDepth 100000 in
theorem ML_158 : MLK RL 158 yX9_window := gdI (i := 1511) (by decide +kernel) rfl
set_option maxRecDepth 100000 in
theorem ML_159 : MLK RL 159 yL_hinders := gdI (i := 844) (by decide +kernel) rfl
set_option maxRecDepth 100000 in
theorem YL_hindersi : Cond.initialized yL_hinders.cls ∈ lw_gd := gdI (i := 74) (by decide +kernel) rfl
set_option maxRecDepth 100000 in
theorem YL_hindersc : Cond.codeWith yL_hinders cL_hinders 6 (some .int) (jtab yL_hinders.cls yL_hinders.name) ∈ lw_gd := gdI (i := 846) (by decide +kernel) rfl
set_option maxRecDepth 100000 in
theorem IL_hinders : Cond.static yL_hinders ∈ lw_gd := gdI (i := 845) (by decide +kernel) rfl
set_option maxRecDepth 100000 in
theorem ML_162 : MLK RL 162 yX9_hinders := gdI (i := 1515) (by decide +kernel) rfl
set_option maxRecDepth 100000 in
theorem ML_163 : MLK RL 163 yL_plan := gdI (i := 861) (by decide +kernel) rfl
set_option maxRecDepth 100000 in
theorem YL_plani : Cond.initialized yL_plan.cls ∈ lw_gd := gdI (i := 74) (by decide +kernel) rfl
set_option maxRecDepth 100000 in
theorem YL_planc : Cond.codeWith yL_plan cL_plan 6 (some .int) (jtab yL_plan.cls yL_plan.name) ∈ lw_gd := gdI (i := 863) (by decide +kernel) rfl
set_option maxRecDepth 100000 in
theorem IL_plan : Cond.static yL_plan ∈ lw_gd := gdI (i := 862) (by decide +kernel) rfl
set_option maxRecDepth 100000 in
theorem ML_165 : MLK RL 165 yX9_plan := gdI (i := 1571) (by decide +kernel) rfl
set_option maxRecDepth 100000 in
theorem ML_166 : MLK RL 166 yL_run := gdI (i := 894) (by decide +kernel) rfl
set_option maxRecDepth 100000 in
theorem YL_runi : Cond.initialized yL_run.cls ∈ lw_gd := gdI (i := 74) (by decide +kernel) rfl
set_option maxRecDepth 100000 in
theorem YL_runc : Cond.codeWith yL_run cL_run 6 (some .int) (jtab yL_run.cls yL_run.name) ∈ lw_gd := gdI (i := 896) (by decide +kernel) rfl
set_option maxRecDepth 100000 in
theorem IL_run : Cond.static yL_run ∈ lw_gd := gdI (i := 895) (by decide +kernel) rfl
set_option maxRecDepth 100000 in
theorem ML_168 : MLK RL 168 yX9_run := gdI (i := 1583) (by decide +kernel) rfl
set_option maxRecDepth 100000 in
theorem ML_169 : MLK RL 169 yL_serving := gdI (i := 916) (by decide +kernel) rfl
set_option maxRecDepth 100000 in
theorem YL_servingi : Cond.initialized yL_serving.cls ∈ lw_gd := gdI (i := 74) (by decide +kernel) rfl
set_option maxRecDepth 100000 in
theorem YL_servingc : Cond.codeWith yL_serving cL_serving 5 (some .int) (jtab yL_serving.cls yL_serving.name) ∈ lw_gd := gdI (i := 918) (by decide +kernel) rfl
set_option maxRecDepth 100000 in
theorem IL_serving : Cond.static yL_serving ∈ lw_gd := gdI (i := 917) (by decide +kernel) rfl
set_option maxRecDepth 100000 in
theorem ML_171 : MLK RL 171 yX9_serving := gdI (i := 1609) (by decide +kernel) rfl
set_option maxRecDepth 100000 in
theorem ML_172 : MLK RL 172 yL_serve := gdI (i := 925) (by decide +kernel) rfl
set_option maxRecDepth 100000 in
theorem YL_servei : Cond.initialized yL_serve.cls ∈ lw_gd := gdI (i := 74) (by decide +kernel) rfl
set_option maxRecDepth 100000 in
theorem YL_servec : Cond.codeWith yL_serve cL_serve 4 (some .int) (jtab yL_serve.cls yL_serve.name) ∈ lw_gd := gdI (i := 927) (by decide +kernel) rfl
set_option maxRecDepth 100000 in
theorem IL_serve : Cond.static yL_serve ∈ lw_gd := gdI (i := 926) (by decide +kernel) rfl
set_option maxRecDepth 100000 in
theorem ML_174 : MLK RL 174 yX9_serve := gdI (i := 1629) (by decide +kernel) rfl
set_option maxRecDepth 100000 in
theorem ML_175 : MLK RL 175 yX8_serveAll := gdI (i := 380) (by decide +kernel) rfl
set_option maxRecDepth 100000 in
theorem ML_178 : MLK RL 178 yX9_serveAll := gdI (i := 1637) (by decide +kernel) rfl
set_option maxRecDepth 100000 in
theorem ML_179 : MLK RL 179 yL_release := gdI (i := 932) (by decide +kernel) rfl
set_option maxRecDepth 100000 in
theorem YL_releasei : Cond.initialized yL_release.cls ∈ lw_gd := gdI (i := 74) (by decide +kernel) rfl
set_option maxRecDepth 100000 in
theorem YL_releasec : Cond.codeWith yL_release cL_release 4 (some .int) (jtab yL_release.cls yL_release.name) ∈ lw_gd := gdI (i := 934) (by decide +kernel) rfl
set_option maxRecDepth 100000 in
theorem IL_release : Cond.static yL_release ∈ lw_gd := gdI (i := 933) (by decide +kernel) rfl
set_option maxRecDepth 100000 in
theorem ML_181 : MLK RL 181 yX9_release := gdI (i := 1649) (by decide +kernel) rfl
set_option maxRecDepth 100000 in
theorem ML_182 : MLK RL 182 yL_putOff := gdI (i := 956) (by decide +kernel) rfl
set_option maxRecDepth 100000 in
theorem YL_putOffi : Cond.initialized yL_putOff.cls ∈ lw_gd := gdI (i := 74) (by decide +kernel) rfl
set_option maxRecDepth 100000 in
theorem YL_putOffc : Cond.codeWith yL_putOff cL_putOff 5 (some .int) (jtab yL_putOff.cls yL_putOff.name) ∈ lw_gd := gdI (i := 958) (by decide +kernel) rfl
set_option maxRecDepth 100000 in
theorem IL_putOff : Cond.static yL_putOff ∈ lw_gd := gdI (i := 957) (by decide +kernel) rfl
set_option maxRecDepth 100000 in
theorem ML_184 : MLK RL 184 yX9_putOff := gdI (i := 1653) (by decide +kernel) rfl
set_option maxRecDepth 100000 in
theorem ML_185 : MLK RL 185 yL_urgent := gdI (i := 976) (by decide +kernel) rfl
set_option maxRecDepth 100000 in
theorem YL_urgenti : Cond.initialized yL_urgent.cls ∈ lw_gd := gdI (i := 74) (by decide +kernel) rfl
set_option maxRecDepth 100000 in
theorem YL_urgentc : Cond.codeWith yL_urgent cL_urgent 4 (some .int) (jtab yL_urgent.cls yL_urgent.name) ∈ lw_gd := gdI (i := 978) (by decide +kernel) rfl
set_option maxRecDepth 100000 in
theorem IL_urgent : Cond.static yL_urgent ∈ lw_gd := gdI (i := 977) (by decide +kernel) rfl
set_option maxRecDepth 100000 in
theorem ML_187 : MLK RL 187 yX9_urgent := gdI (i := 1657) (by decide +kernel) rfl
set_option maxRecDepth 100000 in
theorem ML_188 : MLK RL 188 yL_pilot := gdI (i := 984) (by decide +kernel) rfl
set_option maxRecDepth 100000 in
theorem YL_piloti : Cond.initialized yL_pilot.cls ∈ lw_gd := gdI (i := 74) (by decide +kernel) rfl
set_option maxRecDepth 100000 in
theorem YL_pilotc : Cond.codeWith yL_pilot cL_pilot 5 (some .int) (jtab yL_pilot.cls yL_pilot.name) ∈ lw_gd := gdI (i := 986) (by decide +kernel) rfl
set_option maxRecDepth 100000 in
theorem IL_pilot : Cond.static yL_pilot ∈ lw_gd := gdI (i := 985) (by decide +kernel) rfl
set_option maxRecDepth 100000 in
theorem ML_190 : MLK RL 190 yX9_pilot := gdI (i := 1661) (by decide +kernel) rfl
set_option maxRecDepth 100000 in
theorem ML_191 : MLK RL 191 yL_planOf := gdI (i := 1007) (by decide +kernel) rfl
set_option maxRecDepth 100000 in
theorem YL_planOfi : Cond.initialized yL_planOf.cls ∈ lw_gd := gdI (i := 74) (by decide +kernel) rfl
set_option maxRecDepth 100000 in
theorem YL_planOfc : Cond.codeWith yL_planOf cL_planOf 6 (some .int) (jtab yL_planOf.cls yL_planOf.name) ∈ lw_gd := gdI (i := 1009) (by decide +kernel) rfl
set_option maxRecDepth 100000 in
theorem IL_planOf : Cond.static yL_planOf ∈ lw_gd := gdI (i := 1008) (by decide +kernel) rfl
set_option maxRecDepth 100000 in
theorem ML_193 : MLK RL 193 yX9_planOf := gdI (i := 1681) (by decide +kernel) rfl
set_option maxRecDepth 100000 in
theorem ML_194 : MLK RL 194 yL_place := gdI (i := 1020) (by decide +kernel) rfl
set_option maxRecDepth 100000 in
theorem YL_placei : Cond.initialized yL_place.cls ∈ lw_gd := gdI (i := 74) (by decide +kernel) rfl
set_option maxRecDepth 100000 in
theorem YL_placec : Cond.codeWith yL_place cL_place 5 (some .int) (jtab yL_place.cls yL_place.name) ∈ lw_gd := gdI (i := 1022) (by decide +kernel) rfl
set_option maxRecDepth 100000 in
theorem IL_place : Cond.static yL_place ∈ lw_gd := gdI (i := 1021) (by decide +kernel) rfl
set_option maxRecDepth 100000 in
theorem ML_196 : MLK RL 196 yX9_place := gdI (i := 1707) (by decide +kernel) rfl
set_option maxRecDepth 100000 in
theorem ML_197 : MLK RL 197 yL_placeAgain := gdI (i := 1031) (by decide +kernel) rfl
set_option maxRecDepth 100000 in
theorem YL_placeAgaini : Cond.initialized yL_placeAgain.cls ∈ lw_gd := gdI (i := 74) (by decide +kernel) rfl
set_option maxRecDepth 100000 in
theorem YL_placeAgainc : Cond.codeWith yL_placeAgain cL_placeAgain 5 (some .int) (jtab yL_placeAgain.cls yL_placeAgain.name) ∈ lw_gd := gdI (i := 1033) (by decide +kernel) rfl
set_option maxRecDepth 100000 in
theorem IL_placeAgain : Cond.static yL_placeAgain ∈ lw_gd := gdI (i := 1032) (by decide +kernel) rfl
set_option maxRecDepth 100000 in
theorem ML_199 : MLK RL 199 yX9_placeAgain := gdI (i := 1715) (by decide +kernel) rfl
set_option maxRecDepth 100000 in
theorem ML_200 : MLK RL 200 yL_boat := gdI (i := 1043) (by decide +kernel) rfl
set_option maxRecDepth 100000 in
theorem YL_boati : Cond.initialized yL_boat.cls ∈ lw_gd := gdI (i := 74) (by decide +kernel) rfl
set_option maxRecDepth 100000 in
theorem YL_boatc : Cond.codeWith yL_boat cL_boat 5 (some .int) (jtab yL_boat.cls yL_boat.name) ∈ lw_gd := gdI (i := 1045) (by decide +kernel) rfl
set_option maxRecDepth 100000 in
theorem IL_boat : Cond.static yL_boat ∈ lw_gd := gdI (i := 1044) (by decide +kernel) rfl
set_option maxRecDepth 100000 in
theorem ML_202 : MLK RL 202 yX9_boat := gdI (i := 1719) (by decide +kernel) rfl
set_option maxRecDepth 100000 in
theorem ML_203 : MLK RL 203 yL_pass := gdI (i := 1051) (by decide +kernel) rfl
set_option maxRecDepth 100000 in
theorem YL_passi : Cond.initialized yL_pass.cls ∈ lw_gd := gdI (i := 74) (by decide +kernel) rfl
set_option maxRecDepth 100000 in
theorem YL_passc : Cond.codeWith yL_pass cL_pass 4 (some .int) (jtab yL_pass.cls yL_pass.name) ∈ lw_gd := gdI (i := 1053) (by decide +kernel) rfl
set_option maxRecDepth 100000 in
theorem IL_pass : Cond.static yL_pass ∈ lw_gd := gdI (i := 1052) (by decide +kernel) rfl
set_option maxRecDepth 100000 in
theorem ML_205 : MLK RL 205 yX9_pass := gdI (i := 1727) (by decide +kernel) rfl
set_option maxRecDepth 100000 in
theorem ML_206 : MLK RL 206 yL_number := gdI (i := 1078) (by decide +kernel) rfl
set_option maxRecDepth 100000 in
theorem YL_numberi : Cond.initialized yL_number.cls ∈ lw_gd := gdI (i := 74) (by decide +kernel) rfl
set_option maxRecDepth 100000 in
theorem YL_numberc : Cond.codeWith yL_number cL_number 4 (some .int) (jtab yL_number.cls yL_number.name) ∈ lw_gd := gdI (i := 1080) (by decide +kernel) rfl
set_option maxRecDepth 100000 in
theorem IL_number : Cond.static yL_number ∈ lw_gd := gdI (i := 1079) (by decide +kernel) rfl
set_option maxRecDepth 100000 in
theorem ML_208 : MLK RL 208 yX9_number := gdI (i := 1743) (by decide +kernel) rfl
set_option maxRecDepth 100000 in
theorem ML_209 : MLK RL 209 yL_meanWait := gdI (i := 1115) (by decide +kernel) rfl
set_option maxRecDepth 100000 in
theorem YL_meanWaiti : Cond.initialized yL_meanWait.cls ∈ lw_gd := gdI (i := 74) (by decide +kernel) rfl
set_option maxRecDepth 100000 in
theorem YL_meanWaitc : Cond.codeWith yL_meanWait cL_meanWait 3 (some .int) (jtab yL_meanWait.cls yL_meanWait.name) ∈ lw_gd := gdI (i := 1117) (by decide +kernel) rfl
set_option maxRecDepth 100000 in
theorem IL_meanWait : Cond.static yL_meanWait ∈ lw_gd := gdI (i := 1116) (by decide +kernel) rfl
set_option maxRecDepth 100000 in
theorem ML_212 : MLK RL 212 yX9_meanWait := gdI (i := 1759) (by decide +kernel) rfl
set_option maxRecDepth 100000 in
theorem ML_213 : MLK RL 213 yL_share := gdI (i := 1143) (by decide +kernel) rfl
set_option maxRecDepth 100000 in
theorem YL_sharei : Cond.initialized yL_share.cls ∈ lw_gd := gdI (i := 74) (by decide +kernel) rfl
set_option maxRecDepth 100000 in
theorem YL_sharec : Cond.codeWith yL_share cL_share 4 (some .int) (jtab yL_share.cls yL_share.name) ∈ lw_gd := gdI (i := 1145) (by decide +kernel) rfl
set_option maxRecDepth 100000 in
theorem IL_share : Cond.static yL_share ∈ lw_gd := gdI (i := 1144) (by decide +kernel) rfl
set_option maxRecDepth 100000 in
theorem ML_216 : MLK RL 216 yX9_share := gdI (i := 1763) (by decide +kernel) rfl
set_option maxRecDepth 100000 in
theorem ML_217 : MLK RL 217 yL_feed := gdI (i := 1151) (by decide +kernel) rfl
set_option maxRecDepth 100000 in
theorem YL_feedi : Cond.initialized yL_feed.cls ∈ lw_gd := gdI (i := 74) (by decide +kernel) rfl
set_option maxRecDepth 100000 in
theorem YL_feedc : Cond.codeWith yL_feed cL_feed 4 (some .int) (jtab yL_feed.cls yL_feed.name) ∈ lw_gd := gdI (i := 1153) (by decide +kernel) rfl
set_option maxRecDepth 100000 in
theorem IL_feed : Cond.static yL_feed ∈ lw_gd := gdI (i := 1152) (by decide +kernel) rfl
set_option maxRecDepth 100000 in
theorem ML_220 : MLK RL 220 yX9_feed := gdI (i := 1771) (by decide +kernel) rfl
set_option maxRecDepth 100000 in
theorem ML_221 : MLK RL 221 yL_read := gdI (i := 1163) (by decide +kernel) rfl
set_option maxRecDepth 100000 in
theorem YL_readi : Cond.initialized yL_read.cls ∈ lw_gd := gdI (i := 74) (by decide +kernel) rfl
set_option maxRecDepth 100000 in
theorem YL_readc : Cond.codeWith yL_read cL_read 3 (some .int) (jtab yL_read.cls yL_read.name) ∈ lw_gd := gdI (i := 1165) (by decide +kernel) rfl
set_option maxRecDepth 100000 in
theorem IL_read : Cond.static yL_read ∈ lw_gd := gdI (i := 1164) (by decide +kernel) rfl
set_option maxRecDepth 100000 in
theorem ML_224 : MLK RL 224 yX9_read := gdI (i := 1775) (by decide +kernel) rfl
set_option maxRecDepth 100000 in
theorem ML_225 : MLK RL 225 yL_faultPosition := gdI (i := 1235) (by decide +kernel) rfl
set_option maxRecDepth 100000 in
theorem YL_faultPositioni : Cond.initialized yL_faultPosition.cls ∈ lw_gd := gdI (i := 74) (by decide +kernel) rfl
set_option maxRecDepth 100000 in
theorem YL_faultPositionc : Cond.codeWith yL_faultPosition cL_faultPosition 3 (some .int) (jtab yL_faultPosition.cls yL_faultPosition.name) ∈ lw_gd := gdI (i := 1237) (by decide +kernel) rfl
set_option maxRecDepth 100000 in
theorem IL_faultPosition : Cond.static yL_faultPosition ∈ lw_gd := gdI (i := 1236) (by decide +kernel) rfl
set_option maxRecDepth 100000 in
theorem ML_227 : MLK RL 227 yX9_faultPosition := gdI (i := 1811) (by decide +kernel) rfl
set_option maxRecDepth 100000 in
theorem ML_232 : MLK RL 232 yL_undo := gdI (i := 1251) (by decide +kernel) rfl
set_option maxRecDepth 100000 in
theorem YL_undoi : Cond.initialized yL_undo.cls ∈ lw_gd := gdI (i := 74) (by decide +kernel) rfl
set_option maxRecDepth 100000 in
theorem YL_undoc : Cond.codeWith yL_undo cL_undo 3 (some .int) (jtab yL_undo.cls yL_undo.name) ∈ lw_gd := gdI (i := 1253) (by decide +kernel) rfl
set_option maxRecDepth 100000 in
theorem IL_undo : Cond.static yL_undo ∈ lw_gd := gdI (i := 1252) (by decide +kernel) rfl
set_option maxRecDepth 100000 in
theorem ML_234 : MLK RL 234 yX9_undo := gdI (i := 1819) (by decide +kernel) rfl
set_option maxRecDepth 100000 in
theorem ML_235 : MLK RL 235 yX8_saveSnapshot := gdI (i := 579) (by decide +kernel) rfl
set_option maxRecDepth 100000 in
theorem ML_238 : MLK RL 238 yX9_saveSnapshot := gdI (i := 1823) (by decide +kernel) rfl
set_option maxRecDepth 100000 in
theorem ML_239 : MLK RL 239 yL_restoreSnapshot := gdI (i := 1264) (by decide +kernel) rfl
set_option maxRecDepth 100000 in
theorem YL_restoreSnapshoti : Cond.initialized yL_restoreSnapshot.cls ∈ lw_gd := gdI (i := 74) (by decide +kernel) rfl
set_option maxRecDepth 100000 in
theorem YL_restoreSnapshotc : Cond.codeWith yL_restoreSnapshot cL_restoreSnapshot 3 (some .int) (jtab yL_restoreSnapshot.cls yL_restoreSnapshot.name) ∈ lw_gd := gdI (i := 1266) (by decide +kernel) rfl
set_option maxRecDepth 100000 in
theorem IL_restoreSnapshot : Cond.static yL_restoreSnapshot ∈ lw_gd := gdI (i := 1265) (by decide +kernel) rfl
set_option maxRecDepth 100000 in
theorem ML_241 : MLK RL 241 yX9_restoreSnapshot := gdI (i := 1827) (by decide +kernel) rfl
set_option maxRecDepth 100000 in
theorem ML_149 : MLK RL 149 yL_order := gdI (i := 776) (by decide +kernel) rfl
set_option maxRecDepth 100000 in
theorem YL_orderi : Cond.initialized yL_order.cls ∈ lw_gd := gdI (i := 74) (by decide +kernel) rfl
set_option maxRecDepth 100000 in
theorem YL_orderc : Cond.codeWith yL_order cL_order 8 (some .int) (jtab yL_order.cls yL_order.name) ∈ lw_gd := gdI (i := 778) (by decide +kernel) rfl
set_option maxRecDepth 100000 in
theorem IL_order : Cond.static yL_order ∈ lw_gd := gdI (i := 777) (by decide +kernel) rfl
set_option maxRecDepth 100000 in
theorem ML_152 : MLK RL 152 yX9_order := gdI (i := 1479) (by decide +kernel) rfl
set_option maxRecDepth 100000 in
theorem ML_228 : MLK RL 228 yL_refusal := gdI (i := 1243) (by decide +kernel) rfl
set_option maxRecDepth 100000 in
theorem YL_refusali : Cond.initialized yL_refusal.cls ∈ lw_gd := gdI (i := 74) (by decide +kernel) rfl
set_option maxRecDepth 100000 in
theorem YL_refusalc : Cond.codeWith yL_refusal cL_refusal 4 (some .int) (jtab yL_refusal.cls yL_refusal.name) ∈ lw_gd := gdI (i := 1245) (by decide +kernel) rfl
set_option maxRecDepth 100000 in
theorem IL_refusal : Cond.static yL_refusal ∈ lw_gd := gdI (i := 1244) (by decide +kernel) rfl
set_option maxRecDepth 100000 in
theorem ML_231 : MLK RL 231 yX9_refusal := gdI (i := 1815) (by decide +kernel) rfl
