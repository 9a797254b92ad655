def f_L_law_1462 (L : Nat) (xs : Nat → Int32) (N : Nat) (r_18 : Int32 → am_M → Option (Int32 × am_M)) (x3 : Int32) (μ : am_M) : Option (Int32 × am_M) :=
r_18 (x3 + (6 : Int32)) μ
def f_L_law_18 (L : Nat) (xs : Nat → Int32) (N : Nat) (r_18 : Int32 → am_M → Option (Int32 × am_M)) (x3 : Int32) (μ : am_M) : Option (Int32 × am_M) :=
if ((Int32.ofNat L) - (6 : Int32)) < x3 then (am_z (1 : Int32) μ) else (am_gd x3 L (fun j1 => if ((xs j1) &&& (63 : Int32)) = (0 : Int32) then (am_gd (x3 + (1 : Int32)) L (fun j3 => am_gd (x3 + (2 : Int32)) L (fun j4 => am_gd (x3 + (3 : Int32)) L (fun j5 => am_bd (f_X9_thing N (xs j3) (xs j4) (xs j5) μ) (fun y7 μ6 => am_gd (x3 + (1 : Int32)) L (fun j8 => am_gd (x3 + (2 : Int32)) L (fun j9 => am_gd (x3 + (3 : Int32)) L (fun j10 => am_bd (f_X10_thing N (xs j8) (xs j9) (xs j10) μ6) (fun y12 μ11 => if y7 = y12 then (f_L_law_1462 L xs N r_18 x3 μ11) else (am_z (0 : Int32) μ11)))))))))) else (if ((xs j1) &&& (63 : Int32)) = (1 : Int32) then (am_gd (x3 + (1 : Int32)) L (fun j14 => am_gd (x3 + (2 : Int32)) L (fun j15 => am_gd (x3 + (3 : Int32)) L (fun j16 => am_bd (f_X9_things N (xs j14) (xs j15) (xs j16) μ) (fun y18 μ17 => am_gd (x3 + (1 : Int32)) L (fun j19 => am_gd (x3 + (2 : Int32)) L (fun j20 => am_gd (x3 + (3 : Int32)) L (fun j21 => am_bd (f_X10_things N (xs j19) (xs j20) (xs j21) μ17) (fun y23 μ22 => if y18 = y23 then (f_L_law_1462 L xs N r_18 x3 μ22) else (am_z (0 : Int32) μ22)))))))))) else (if ((xs j1) &&& (63 : Int32)) = (2 : Int32) then (am_gd (x3 + (1 : Int32)) L (fun j25 => am_gd (x3 + (2 : Int32)) L (fun j26 => am_gd (x3 + (3 : Int32)) L (fun j27 => am_bd (f_X9_mend N (xs j25) (xs j26) (xs j27) μ) (fun y29 μ28 => am_gd (x3 + (1 : Int32)) L (fun j30 => am_gd (x3 + (2 : Int32)) L (fun j31 => am_gd (x3 + (3 : Int32)) L (fun j32 => am_bd (f_X10_mend N (xs j30) (xs j31) (xs j32) μ28) (fun y34 μ33 => if y29 = y34 then (f_L_law_1462 L xs N r_18 x3 μ33) else (am_z (0 : Int32) μ33)))))))))) else (if ((xs j1) &&& (63 : Int32)) = (3 : Int32) then (am_gd (x3 + (1 : Int32)) L (fun j36 => am_gd (x3 + (2 : Int32)) L (fun j37 => am_gd (x3 + (3 : Int32)) L (fun j38 => am_bd (f_X9_sort N (xs j36) (xs j37) (xs j38) μ) (fun y40 μ39 => am_gd (x3 + (1 : Int32)) L (fun j41 => am_gd (x3 + (2 : Int32)) L (fun j42 => am_gd (x3 + (3 : Int32)) L (fun j43 => am_bd (f_X10_sort N (xs j41) (xs j42) (xs j43) μ39) (fun y45 μ44 => if y40 = y45 then (f_L_law_1462 L xs N r_18 x3 μ44) else (am_z (0 : Int32) μ44)))))))))) else (if ((xs j1) &&& (63 : Int32)) = (4 : Int32) then (am_gd (x3 + (1 : Int32)) L (fun j47 => am_gd (x3 + (2 : Int32)) L (fun j48 => am_gd (x3 + (3 : Int32)) L (fun j49 => am_bd (f_X9_purse N (xs j47) (xs j48) (xs j49) μ) (fun y51 μ50 => am_gd (x3 + (1 : Int32)) L (fun j52 => am_gd (x3 + (2 : Int32)) L (fun j53 => am_gd (x3 + (3 : Int32)) L (fun j54 => am_bd (f_X10_purse N (xs j52) (xs j53) (xs j54) μ50) (fun y56 μ55 => if y51 = y56 then (f_L_law_1462 L xs N r_18 x3 μ55) else (am_z (0 : Int32) μ55)))))))))) else (if ((xs j1) &&& (63 : Int32)) = (5 : Int32) then (am_gd (x3 + (1 : Int32)) L (fun j58 => am_gd (x3 + (2 : Int32)) L (fun j59 => am_bd (f_X9_of N (xs j58) (xs j59) μ) (fun y61 μ60 => am_gd (x3 + (1 : Int32)) L (fun j62 => am_gd (x3 + (2 : Int32)) L (fun j63 => am_bd (f_X10_of N (xs j62) (xs j63) μ60) (fun y65 μ64 => if y61 = y65 then (f_L_law_1462 L xs N r_18 x3 μ64) else (am_z (0 : Int32) μ64)))))))) else (if ((xs j1) &&& (63 : Int32)) = (6 : Int32) then (am_gd (x3 + (1 : Int32)) L (fun j67 => am_gd (x3 + (2 : Int32)) L (fun j68 => am_bd (f_X9_feed N (xs j67) (xs j68) μ) (fun y70 μ69 => am_gd (x3 + (1 : Int32)) L (fun j71 => am_gd (x3 + (2 : Int32)) L (fun j72 => am_bd (f_X10_feed N (xs j71) (xs j72) μ69) (fun y74 μ73 => if y70 = y74 then (f_L_law_1462 L xs N r_18 x3 μ73) else (am_z (0 : Int32) μ73)))))))) else (if ((xs j1) &&& (63 : Int32)) = (7 : Int32) then (am_bd (f_X9_want N μ) (fun y77 μ76 => am_bd (f_X10_want N μ76) (fun y79 μ78 => if y77 = y79 then (f_L_law_1462 L xs N r_18 x3 μ78) else (am_z (0 : Int32) μ78)))) else (if ((xs j1) &&& (63 : Int32)) = (8 : Int32) then (am_gd (x3 + (1 : Int32)) L (fun j81 => am_gd (x3 + (2 : Int32)) L (fun j82 => am_bd (f_X9_worth N (xs j81) (xs j82) μ) (fun y84 μ83 => am_gd (x3 + (1 : Int32)) L (fun j85 => am_gd (x3 + (2 : Int32)) L (fun j86 => am_bd (f_X10_worth N (xs j85) (xs j86) μ83) (fun y88 μ87 => if y84 = y88 then (f_L_law_1462 L xs N r_18 x3 μ87) else (am_z (0 : Int32) μ87)))))))) else (if ((xs j1) &&& (63 : Int32)) = (9 : Int32) then (am_gd (x3 + (1 : Int32)) L (fun j90 => am_gd (x3 + (2 : Int32)) L (fun j91 => am_bd (f_X9_basket N (xs j90) (xs j91) μ) (fun y93 μ92 => am_gd (x3 + (1 : Int32)) L (fun j94 => am_gd (x3 + (2 : Int32)) L (fun j95 => am_bd (f_X10_basket N (xs j94) (xs j95) μ92) (fun y97 μ96 => if y93 = y97 then (f_L_law_1462 L xs N r_18 x3 μ96) else (am_z (0 : Int32) μ96)))))))) else (if ((xs j1) &&& (63 : Int32)) = (10 : Int32) then (am_gd (x3 + (1 : Int32)) L (fun j99 => am_gd (x3 + (2 : Int32)) L (fun j100 => am_bd (f_X9_wanted N (xs j99) (xs j100) μ) (fun y102 μ101 => am_gd (x3 + (1 : Int32)) L (fun j103 => am_gd (x3 + (2 : Int32)) L (fun j104 => am_bd (f_X10_wanted N (xs j103) (xs j104) μ101) (fun y106 μ105 => if y102 = y106 then (f_L_law_1462 L xs N r_18 x3 μ105) else (am_z (0 : Int32) μ105)))))))) else (if ((xs j1) &&& (63 : Int32)) = (11 : Int32) then (am_gd (x3 + (1 : Int32)) L (fun j108 => am_gd (x3 + (2 : Int32)) L (fun j109 => am_bd (f_X9_led N (xs j108) (xs j109) μ) (fun y111 μ110 => am_gd (x3 + (1 : Int32)) L (fun j112 => am_gd (x3 + (2 : Int32)) L (fun j113 => am_bd (f_X10_led N (xs j112) (xs j113) μ110) (fun y115 μ114 => if y111 = y115 then (f_L_law_1462 L xs N r_18 x3 μ114) else (am_z (0 : Int32) μ114)))))))) else (if ((xs j1) &&& (63 : Int32)) = (12 : Int32) then (am_gd (x3 + (1 : Int32)) L (fun j117 => am_gd (x3 + (2 : Int32)) L (fun j118 => am_bd (f_X9_found N (xs j117) (xs j118) μ) (fun y120 μ119 => am_gd (x3 + (1 : Int32)) L (fun j121 => am_gd (x3 + (2 : Int32)) L (fun j122 => am_bd (f_X10_found N (xs j121) (xs j122) μ119) (fun y124 μ123 => if y120 = y124 then (f_L_law_1462 L xs N r_18 x3 μ123) else (am_z (0 : Int32) μ123)))))))) else (if ((xs j1) &&& (63 : Int32)) = (13 : Int32) then (am_gd (x3 + (1 : Int32)) L (fun j126 => am_bd (f_X9_set N (xs j126) μ) (fun y128 μ127 => am_gd (x3 + (1 : Int32)) L (fun j129 => am_bd (f_X10_set N (xs j129) μ127) (fun y131 μ130 => if y128 = y131 then (f_L_law_1462 L xs N r_18 x3 μ130) else (am_z (0 : Int32) μ130)))))) else (if ((xs j1) &&& (63 : Int32)) = (14 : Int32) then (am_gd (x3 + (1 : Int32)) L (fun j133 => am_gd (x3 + (2 : Int32)) L (fun j134 => am_bd (f_X9_tell N (xs j133) (xs j134) μ) (fun y136 μ135 => am_gd (x3 + (1 : Int32)) L (fun j137 => am_gd (x3 + (2 : Int32)) L (fun j138 => am_bd (f_X10_tell N (xs j137) (xs j138) μ135) (fun y140 μ139 => if y136 = y140 then (f_L_law_1462 L xs N r_18 x3 μ139) else (am_z (0 : Int32) μ139)))))))) else (if ((xs j1) &&& (63 : Int32)) = (15 : Int32) then (am_bd (f_X9_judge N μ) (fun y143 μ142 => am_bd (f_X10_judge N μ142) (fun y145 μ144 => if y143 = y145 then (f_L_law_1462 L xs N r_18 x3 μ144) else (am_z (0 : Int32) μ144)))) else (if ((xs j1) &&& (63 : Int32)) = (16 : Int32) then (am_gd (x3 + (1 : Int32)) L (fun j147 => am_gd (x3 + (2 : Int32)) L (fun j148 => am_gd (x3 + (3 : Int32)) L (fun j149 => am_bd (f_X9_changed N (xs j147) (xs j148) (xs j149) μ) (fun y151 μ150 => am_gd (x3 + (1 : Int32)) L (fun j152 => am_gd (x3 + (2 : Int32)) L (fun j153 => am_gd (x3 + (3 : Int32)) L (fun j154 => am_bd (f_X10_changed N (xs j152) (xs j153) (xs j154) μ150) (fun y156 μ155 => if y151 = y156 then (f_L_law_1462 L xs N r_18 x3 μ155) else (am_z (0 : Int32) μ155)))))))))) else (if ((xs j1) &&& (63 : Int32)) = (17 : Int32) then (am_bd (f_X9_free N μ) (fun y159 μ158 => am_bd (f_X10_free N μ158) (fun y161 μ160 => if y159 = y161 then (f_L_law_1462 L xs N r_18 x3 μ160) else (am_z (0 : Int32) μ160)))) else (if ((xs j1) &&& (63 : Int32)) = (18 : Int32) then (am_gd (x3 + (1 : Int32)) L (fun j163 => am_gd (x3 + (2 : Int32)) L (fun j164 => am_gd (x3 + (3 : Int32)) L (fun j165 => am_bd (f_X9_black N (xs j163) (xs j164) (xs j165) μ) (fun y167 μ166 => am_gd (x3 + (1 : Int32)) L (fun j168 => am_gd (x3 + (2 : Int32)) L (fun j169 => am_gd (x3 + (3 : Int32)) L (fun j170 => am_bd (f_X10_black N (xs j168) (xs j169) (xs j170) μ166) (fun y172 μ171 => if y167 = y172 then (f_L_law_1462 L xs N r_18 x3 μ171) else (am_z (0 : Int32) μ171)))))))))) else (if ((xs j1) &&& (63 : Int32)) = (19 : Int32) then (am_gd (x3 + (1 : Int32)) L (fun j174 => am_gd (x3 + (2 : Int32)) L (fun j175 => am_bd (f_X9_beside N (xs j174) (xs j175) μ) (fun y177 μ176 => am_gd (x3 + (1 : Int32)) L (fun j178 => am_gd (x3 + (2 : Int32)) L (fun j179 => am_bd (f_X10_beside N (xs j178) (xs j179) μ176) (fun y181 μ180 => if y177 = y181 then (f_L_law_1462 L xs N r_18 x3 μ180) else (am_z (0 : Int32) μ180)))))))) else (if ((xs j1) &&& (63 : Int32)) = (20 : Int32) then (am_gd (x3 + (1 : Int32)) L (fun j183 => am_bd (f_X9_loses N (xs j183) μ) (fun y185 μ184 => am_gd (x3 + (1 : Int32)) L (fun j186 => am_bd (f_X10_loses N (xs j186) μ184) (fun y188 μ187 => if y185 = y188 then (f_L_law_1462 L xs N r_18 x3 μ187) else (am_z (0 : Int32) μ187)))))) else (if ((xs j1) &&& (63 : Int32)) = (21 : Int32) then (am_bd (f_X9_fewest N μ) (fun y191 μ190 => am_bd (f_X10_fewest N μ190) (fun y193 μ192 => if y191 = y193 then (f_L_law_1462 L xs N r_18 x3 μ192) else (am_z (0 : Int32) μ192)))) else (if ((xs j1) &&& (63 : Int32)) = (22 : Int32) then (am_gd (x3 + (1 : Int32)) L (fun j195 => am_bd (f_X9_least N (xs j195) μ) (fun y197 μ196 => am_gd (x3 + (1 : Int32)) L (fun j198 => am_bd (f_X10_least N (xs j198) μ196) (fun y200 μ199 => if y197 = y200 then (f_L_law_1462 L xs N r_18 x3 μ199) else (am_z (0 : Int32) μ199)))))) else (if ((xs j1) &&& (63 : Int32)) = (23 : Int32) then (am_gd (x3 + (1 : Int32)) L (fun j202 => am_gd (x3 + (2 : Int32)) L (fun j203 => am_gd (x3 + (3 : Int32)) L (fun j204 => am_gd (x3 + (4 : Int32)) L (fun j205 => am_bd (f_X9_months N (xs j202) (xs j203) (xs j204) (xs j205) μ) (fun y207 μ206 => am_gd (x3 + (1 : Int32)) L (fun j208 => am_gd (x3 + (2 : Int32)) L (fun j209 => am_gd (x3 + (3 : Int32)) L (fun j210 => am_gd (x3 + (4 : Int32)) L (fun j211 => am_bd (f_X10_months N (xs j208) (xs j209) (xs j210) (xs j211) μ206) (fun y213 μ212 => if y207 = y213 then (f_L_law_1462 L xs N r_18 x3 μ212) else (am_z (0 : Int32) μ212)))))))))))) else (if ((xs j1) &&& (63 : Int32)) = (24 : Int32) then (am_gd (x3 + (1 : Int32)) L (fun j215 => am_bd (f_X9_foresight N (xs j215) μ) (fun y217 μ216 => am_gd (x3 + (1 : Int32)) L (fun j218 => am_bd (f_X10_foresight N (xs j218) μ216) (fun y220 μ219 => if y217 = y220 then (f_L_law_1462 L xs N r_18 x3 μ219) else (am_z (0 : Int32) μ219)))))) else (if ((xs j1) &&& (63 : Int32)) = (25 : Int32) then (am_gd (x3 + (1 : Int32)) L (fun j222 => am_bd (f_X9_cheap N (xs j222) μ) (fun y224 μ223 => am_gd (x3 + (1 : Int32)) L (fun j225 => am_bd (f_X10_cheap N (xs j225) μ223) (fun y227 μ226 => if y224 = y227 then (f_L_law_1462 L xs N r_18 x3 μ226) else (am_z (0 : Int32) μ226)))))) else (if ((xs j1) &&& (63 : Int32)) = (26 : Int32) then (am_gd (x3 + (1 : Int32)) L (fun j229 => am_bd (f_X9_wrong N (xs j229) μ) (fun y231 μ230 => am_gd (x3 + (1 : Int32)) L (fun j232 => am_bd (f_X10_wrong N (xs j232) μ230) (fun y234 μ233 => if y231 = y234 then (f_L_law_1462 L xs N r_18 x3 μ233) else (am_z (0 : Int32) μ233)))))) else (if ((xs j1) &&& (63 : Int32)) = (27 : Int32) then (am_bd (f_X9_undo N μ) (fun y237 μ236 => am_bd (f_X10_undo N μ236) (fun y239 μ238 => if y237 = y239 then (f_L_law_1462 L xs N r_18 x3 μ238) else (am_z (0 : Int32) μ238)))) else (if ((xs j1) &&& (63 : Int32)) = (28 : Int32) then (am_bd (f_X9_redo N μ) (fun y242 μ241 => am_bd (f_X10_redo N μ241) (fun y244 μ243 => if y242 = y244 then (f_L_law_1462 L xs N r_18 x3 μ243) else (am_z (0 : Int32) μ243)))) else (if ((xs j1) &&& (63 : Int32)) = (29 : Int32) then (am_gd (x3 + (1 : Int32)) L (fun j246 => am_bd (f_X9_body N (xs j246) μ) (fun y248 μ247 => am_gd (x3 + (1 : Int32)) L (fun j249 => am_bd (f_X10_body N (xs j249) μ247) (fun y251 μ250 => if y248 = y251 then (f_L_law_1462 L xs N r_18 x3 μ250) else (am_z (0 : Int32) μ250)))))) else (if ((xs j1) &&& (63 : Int32)) = (30 : Int32) then (am_gd (x3 + (1 : Int32)) L (fun j253 => am_gd (x3 + (2 : Int32)) L (fun j254 => am_gd (x3 + (3 : Int32)) L (fun j255 => am_bd (f_X9_act N (xs j253) (xs j254) (xs j255) μ) (fun y257 μ256 => am_gd (x3 + (1 : Int32)) L (fun j258 => am_gd (x3 + (2 : Int32)) L (fun j259 => am_gd (x3 + (3 : Int32)) L (fun j260 => am_bd (f_X10_act N (xs j258) (xs j259) (xs j260) μ256) (fun y262 μ261 => if y257 = y262 then (f_L_law_1462 L xs N r_18 x3 μ261) else (am_z (0 : Int32) μ261)))))))))) else (if ((xs j1) &&& (63 : Int32)) = (31 : Int32) then (am_gd (x3 + (1 : Int32)) L (fun j264 => am_bd (f_X9_trace N (xs j264) μ) (fun y266 μ265 => am_gd (x3 + (1 : Int32)) L (fun j267 => am_bd (f_X10_trace N (xs j267) μ265) (fun y269 μ268 => if y266 = y269 then (f_L_law_1462 L xs N r_18 x3 μ268) else (am_z (0 : Int32) μ268)))))) else (if ((xs j1) &&& (63 : Int32)) = (32 : Int32) then (am_gd (x3 + (1 : Int32)) L (fun j271 => am_gd (x3 + (2 : Int32)) L (fun j272 => am_bd (f_X9_keep N (xs j271) (xs j272) μ) (fun y274 μ273 => am_gd (x3 + (1 : Int32)) L (fun j275 => am_gd (x3 + (2 : Int32)) L (fun j276 => am_bd (f_X10_keep N (xs j275) (xs j276) μ273) (fun y278 μ277 => if y274 = y278 then (f_L_law_1462 L xs N r_18 x3 μ277) else (am_z (0 : Int32) μ277)))))))) else (if ((xs j1) &&& (63 : Int32)) = (33 : Int32) then (am_gd (x3 + (1 : Int32)) L (fun j280 => am_gd (x3 + (2 : Int32)) L (fun j281 => am_gd (x3 + (3 : Int32)) L (fun j282 => am_bd (f_X9_row N (xs j280) (xs j281) (xs j282) μ) (fun y284 μ283 => am_gd (x3 + (1 : Int32)) L (fun j285 => am_gd (x3 + (2 : Int32)) L (fun j286 => am_gd (x3 + (3 : Int32)) L (fun j287 => am_bd (f_X10_row N (xs j285) (xs j286) (xs j287) μ283) (fun y289 μ288 => if y284 = y289 then (f_L_law_1462 L xs N r_18 x3 μ288) else (am_z (0 : Int32) μ288)))))))))) else (if ((xs j1) &&& (63 : Int32)) = (34 : Int32) then (am_gd (x3 + (1 : Int32)) L (fun j291 => am_gd (x3 + (2 : Int32)) L (fun j292 => am_gd (x3 + (3 : Int32)) L (fun j293 => am_gd (x3 + (4 : Int32)) L (fun j294 => am_bd (f_X9_put N (xs j291) (xs j292) (((xs j293).toInt64 <<< ((32 : Int32).toInt64 &&& 63)) ||| ((xs j294).toInt64 &&& (4294967295 : Int64))) μ) (fun y296 μ295 => am_gd (x3 + (1 : Int32)) L (fun j297 => am_gd (x3 + (2 : Int32)) L (fun j298 => am_gd (x3 + (3 : Int32)) L (fun j299 => am_gd (x3 + (4 : Int32)) L (fun j300 => am_bd (f_X10_put N (xs j297) (xs j298) (((xs j299).toInt64 <<< ((32 : Int32).toInt64 &&& 63)) ||| ((xs j300).toInt64 &&& (4294967295 : Int64))) μ295) (fun y302 μ301 => if y296 = y302 then (f_L_law_1462 L xs N r_18 x3 μ301) else (am_z (0 : Int32) μ301)))))))))))) else (if ((xs j1) &&& (63 : Int32)) = (35 : Int32) then (am_gd (x3 + (1 : Int32)) L (fun j304 => am_gd (x3 + (2 : Int32)) L (fun j305 => am_bd (f_X9_element N (xs j304) (xs j305) μ) (fun y307 μ306 => am_gd (x3 + (1 : Int32)) L (fun j308 => am_gd (x3 + (2 : Int32)) L (fun j309 => am_bd (f_X10_element N (xs j308) (xs j309) μ306) (fun y311 μ310 => if (lg_cmp y307 y311) = 0 then (f_L_law_1462 L xs N r_18 x3 μ310) else (am_z (0 : Int32) μ310)))))))) else (if ((xs j1) &&& (63 : Int32)) = (36 : Int32) then (am_gd (x3 + (1 : Int32)) L (fun j313 => am_gd (x3 + (2 : Int32)) L (fun j314 => am_gd (x3 + (3 : Int32)) L (fun j315 => am_gd (x3 + (4 : Int32)) L (fun j316 => am_gd (x3 + (5 : Int32)) L (fun j317 => am_bd (f_X9_shift N (xs j313) (xs j314) (xs j315) (xs j316) (xs j317) μ) (fun y319 μ318 => am_gd (x3 + (1 : Int32)) L (fun j320 => am_gd (x3 + (2 : Int32)) L (fun j321 => am_gd (x3 + (3 : Int32)) L (fun j322 => am_gd (x3 + (4 : Int32)) L (fun j323 => am_gd (x3 + (5 : Int32)) L (fun j324 => am_bd (f_X10_shift N (xs j320) (xs j321) (xs j322) (xs j323) (xs j324) μ318) (fun y326 μ325 => if y319 = y326 then (f_L_law_1462 L xs N r_18 x3 μ325) else (am_z (0 : Int32) μ325)))))))))))))) else (if ((xs j1) &&& (63 : Int32)) = (37 : Int32) then (am_gd (x3 + (1 : Int32)) L (fun j328 => am_gd (x3 + (2 : Int32)) L (fun j329 => am_bd (f_X9_taken N (xs j328) (xs j329) μ) (fun y331 μ330 => am_gd (x3 + (1 : Int32)) L (fun j332 => am_gd (x3 + (2 : Int32)) L (fun j333 => am_bd (f_X10_taken N (xs j332) (xs j333) μ330) (fun y335 μ334 => if y331 = y335 then (f_L_law_1462 L xs N r_18 x3 μ334) else (am_z (0 : Int32) μ334)))))))) else (if ((xs j1) &&& (63 : Int32)) = (38 : Int32) then (am_gd (x3 + (1 : Int32)) L (fun j337 => am_bd (f_X9_count N (xs j337) μ) (fun y339 μ338 => am_gd (x3 + (1 : Int32)) L (fun j340 => am_bd (f_X10_count N (xs j340) μ338) (fun y342 μ341 => if y339 = y342 then (f_L_law_1462 L xs N r_18 x3 μ341) else (am_z (0 : Int32) μ341)))))) else (f_L_law_1462 L xs N r_18 x3 μ)))))))))))))))))))))))))))))))))))))))))
def f_L_law_18_lp (L : Nat) (xs : Nat → Int32) (N : Nat) : Nat → Int32 → am_M → Option (Int32 × am_M)
  | 0, _, _ => none
  | n + 1, x3, μ => f_L_law_18 L xs N (f_L_law_18_lp L xs N n) x3 μ
set_option maxHeartbeats 4000000 in
set_option maxRecDepth 100000 in
theorem p_L_law_1462 (G : am_G) (l : Launch) (d : Nat) (hd0 : 406 ≤ d) (N : Nat) (r_18 : Int32 → am_M → Option (Int32 × am_M)) (H_18 : ∀ (x3 : Int32) (μ : am_M), sm_P G l am_ci d me_L_law 18 [(0, .ref (am_b G)), (1, .ref (am_ad G 0 0)), (2, .ref (am_ad G 10 0)), (3, .int x3)] [] μ (r_18 x3 μ)) (x3 : Int32) (μ : am_M) : sm_P G l am_ci d me_L_law 1462 [(0, .ref (am_b G)), (1, .ref (am_ad G 0 0)), (2, .ref (am_ad G 10 0)), (3, .int x3)] [] μ (f_L_law_1462 (am_L G) (am_xs G) N r_18 x3 μ) := by
  unfold f_L_law_1462
  refine sm_iinc (pc := 1462) (v := (x3 + (6 : Int32))) (lv' := [(3, .int (x3 + (6 : Int32))), (0, .ref (am_b G)), (1, .ref (am_ad G 0 0)), (2, .ref (am_ad G 10 0))]) dL_law_1462 3 rfl rfl (by decide) rfl ?_
  refine sm_goto (pc := 1465) (tgt := 18) dL_law_1465 (by decide) ?_
  refine sm_sub [1, 2, 3, 0] rfl ?_
  exact H_18 (x3 + (6 : Int32)) μ
set_option maxHeartbeats 4000000 in
set_option maxRecDepth 100000 in
theorem p_L_law_18 (G : am_G) (l : Launch) (d : Nat) (hd0 : 406 ≤ d) (N : Nat) (r_18 : Int32 → am_M → Option (Int32 × am_M)) (H_18 : ∀ (x3 : Int32) (μ : am_M), sm_P G l am_ci d me_L_law 18 [(0, .ref (am_b G)), (1, .ref (am_ad G 0 0)), (2, .ref (am_ad G 10 0)), (3, .int x3)] [] μ (r_18 x3 μ)) (x3 : Int32) (μ : am_M) : sm_P G l am_ci d me_L_law 18 [(0, .ref (am_b G)), (1, .ref (am_ad G 0 0)), (2, .ref (am_ad G 10 0)), (3, .int x3)] [] μ (f_L_law_18 (am_L G) (am_xs G) N r_18 x3 μ) := by
  unfold f_L_law_18
  refine sm_iload_n (pc := 18) dL_law_18 rfl 3 rfl ?_
  refine sm_aload_n (pc := 19) dL_law_19 rfl 0 rfl ?_
  refine sm_slen (pc := 20) dL_law_20 ?_
  refine sm_bipush (pc := 21) dL_law_21 (v := 6) (by decide) ?_
  refine sm_isub (pc := 23) dL_law_23 ?_
  refine sm_icmp_gt (pc := 24) (tgt := 1468) dL_law_24 (by decide) ?_ ?_
  · refine sm_iconst (pc := 1468) dL_law_1468 (v := 1) (by decide) ?_
    exact sm_zret (pc := 1469) dL_law_1469 rfl
  · refine sm_aload_n (pc := 27) dL_law_27 rfl 0 rfl ?_
    refine sm_iload_n (pc := 28) dL_law_28 rfl 3 rfl ?_
    refine sm_sald (pc := 29) dL_law_29 (fun j1 hj1 => ?_)
    refine sm_bipush (pc := 30) dL_law_30 (v := 63) (by decide) ?_
    refine sm_iand (pc := 32) dL_law_32 ?_
    refine sm_ite (fun e2 => ?_) (fun e2 => ?_)
    · refine sm_tsi (pc := 33) (c1 := 0) (off := 171) (tgt := 204) e2 dL_law_33 (by decide) (by decide) (by decide) (by decide) ?_
      refine sm_aload_n (pc := 204) dL_law_204 rfl 1 rfl ?_
      refine sm_aload_n (pc := 205) dL_law_205 rfl 0 rfl ?_
      refine sm_iload_n (pc := 206) dL_law_206 rfl 3 rfl ?_
      refine sm_iconst (pc := 207) dL_law_207 (v := 1) (by decide) ?_
      refine sm_iadd (pc := 208) dL_law_208 ?_
      refine sm_sald (pc := 209) dL_law_209 (fun j3 hj3 => ?_)
      refine sm_aload_n (pc := 210) dL_law_210 rfl 0 rfl ?_
      refine sm_iload_n (pc := 211) dL_law_211 rfl 3 rfl ?_
      refine sm_iconst (pc := 212) dL_law_212 (v := 2) (by decide) ?_
      refine sm_iadd (pc := 213) dL_law_213 ?_
      refine sm_sald (pc := 214) dL_law_214 (fun j4 hj4 => ?_)
      refine sm_aload_n (pc := 215) dL_law_215 rfl 0 rfl ?_
      refine sm_iload_n (pc := 216) dL_law_216 rfl 3 rfl ?_
      refine sm_iconst (pc := 217) dL_law_217 (v := 3) (by decide) ?_
      refine sm_iadd (pc := 218) dL_law_218 ?_
      refine sm_sald (pc := 219) dL_law_219 (fun j5 hj5 => ?_)
      refine sm_callVi (pc := 220) (As := [.int (am_xs G j3), .int (am_xs G j4), .int (am_xs G j5)]) (rest := []) dL_law_220 (c_X9_thing G l N (am_xs G j3) (am_xs G j4) (am_xs G j5) μ) (by omega) wl_L_13 vm_X9_thing rfl rfl (Nat.le_of_ble_eq_true rfl) (fun y7 μ6 => ?_)
      refine sm_aload_n (pc := 223) dL_law_223 rfl 2 rfl ?_
      refine sm_aload_n (pc := 224) dL_law_224 rfl 0 rfl ?_
      refine sm_iload_n (pc := 225) dL_law_225 rfl 3 rfl ?_
      refine sm_iconst (pc := 226) dL_law_226 (v := 1) (by decide) ?_
      refine sm_iadd (pc := 227) dL_law_227 ?_
      refine sm_sald (pc := 228) dL_law_228 (fun j8 hj8 => ?_)
      refine sm_aload_n (pc := 229) dL_law_229 rfl 0 rfl ?_
      refine sm_iload_n (pc := 230) dL_law_230 rfl 3 rfl ?_
      refine sm_iconst (pc := 231) dL_law_231 (v := 2) (by decide) ?_
      refine sm_iadd (pc := 232) dL_law_232 ?_
      refine sm_sald (pc := 233) dL_law_233 (fun j9 hj9 => ?_)
      refine sm_aload_n (pc := 234) dL_law_234 rfl 0 rfl ?_
      refine sm_iload_n (pc := 235) dL_law_235 rfl 3 rfl ?_
      refine sm_iconst (pc := 236) dL_law_236 (v := 3) (by decide) ?_
      refine sm_iadd (pc := 237) dL_law_237 ?_
      refine sm_sald (pc := 238) dL_law_238 (fun j10 hj10 => ?_)
      refine sm_callVi (pc := 239) (As := [.int (am_xs G j8), .int (am_xs G j9), .int (am_xs G j10)]) (rest := [.int y7]) dL_law_239 (c_X10_thing G l N (am_xs G j8) (am_xs G j9) (am_xs G j10) μ6) (by omega) wl_L_17 vm_X10_thing rfl rfl (Nat.le_of_ble_eq_true rfl) (fun y12 μ11 => ?_)
      refine sm_icmp_eq (pc := 242) (tgt := 1462) dL_law_242 (by decide) ?_ ?_
      · exact p_L_law_1462 G l d hd0 N r_18 H_18 x3 μ11
      · refine sm_iconst (pc := 245) dL_law_245 (v := 0) (by decide) ?_
        exact sm_zret (pc := 246) dL_law_246 rfl
    refine sm_ite (fun e13 => ?_) (fun e13 => ?_)
    · refine sm_tsi (pc := 33) (c1 := 1) (off := 214) (tgt := 247) e13 dL_law_33 (by decide) (by decide) (by decide) (by decide) ?_
      refine sm_aload_n (pc := 247) dL_law_247 rfl 1 rfl ?_
      refine sm_aload_n (pc := 248) dL_law_248 rfl 0 rfl ?_
      refine sm_iload_n (pc := 249) dL_law_249 rfl 3 rfl ?_
      refine sm_iconst (pc := 250) dL_law_250 (v := 1) (by decide) ?_
      refine sm_iadd (pc := 251) dL_law_251 ?_
      refine sm_sald (pc := 252) dL_law_252 (fun j14 hj14 => ?_)
      refine sm_aload_n (pc := 253) dL_law_253 rfl 0 rfl ?_
      refine sm_iload_n (pc := 254) dL_law_254 rfl 3 rfl ?_
      refine sm_iconst (pc := 255) dL_law_255 (v := 2) (by decide) ?_
      refine sm_iadd (pc := 256) dL_law_256 ?_
      refine sm_sald (pc := 257) dL_law_257 (fun j15 hj15 => ?_)
      refine sm_aload_n (pc := 258) dL_law_258 rfl 0 rfl ?_
      refine sm_iload_n (pc := 259) dL_law_259 rfl 3 rfl ?_
      refine sm_iconst (pc := 260) dL_law_260 (v := 3) (by decide) ?_
      refine sm_iadd (pc := 261) dL_law_261 ?_
      refine sm_sald (pc := 262) dL_law_262 (fun j16 hj16 => ?_)
      refine sm_callVi (pc := 263) (As := [.int (am_xs G j14), .int (am_xs G j15), .int (am_xs G j16)]) (rest := []) dL_law_263 (c_X9_things G l N (am_xs G j14) (am_xs G j15) (am_xs G j16) μ) (by omega) wl_L_18 vm_X9_things rfl rfl (Nat.le_of_ble_eq_true rfl) (fun y18 μ17 => ?_)
      refine sm_aload_n (pc := 266) dL_law_266 rfl 2 rfl ?_
      refine sm_aload_n (pc := 267) dL_law_267 rfl 0 rfl ?_
      refine sm_iload_n (pc := 268) dL_law_268 rfl 3 rfl ?_
      refine sm_iconst (pc := 269) dL_law_269 (v := 1) (by decide) ?_
      refine sm_iadd (pc := 270) dL_law_270 ?_
      refine sm_sald (pc := 271) dL_law_271 (fun j19 hj19 => ?_)
      refine sm_aload_n (pc := 272) dL_law_272 rfl 0 rfl ?_
      refine sm_iload_n (pc := 273) dL_law_273 rfl 3 rfl ?_
      refine sm_iconst (pc := 274) dL_law_274 (v := 2) (by decide) ?_
      refine sm_iadd (pc := 275) dL_law_275 ?_
      refine sm_sald (pc := 276) dL_law_276 (fun j20 hj20 => ?_)
      refine sm_aload_n (pc := 277) dL_law_277 rfl 0 rfl ?_
      refine sm_iload_n (pc := 278) dL_law_278 rfl 3 rfl ?_
      refine sm_iconst (pc := 279) dL_law_279 (v := 3) (by decide) ?_
      refine sm_iadd (pc := 280) dL_law_280 ?_
      refine sm_sald (pc := 281) dL_law_281 (fun j21 hj21 => ?_)
      refine sm_callVi (pc := 282) (As := [.int (am_xs G j19), .int (am_xs G j20), .int (am_xs G j21)]) (rest := [.int y18]) dL_law_282 (c_X10_things G l N (am_xs G j19) (am_xs G j20) (am_xs G j21) μ17) (by omega) wl_L_21 vm_X10_things rfl rfl (Nat.le_of_ble_eq_true rfl) (fun y23 μ22 => ?_)
      refine sm_icmp_eq (pc := 285) (tgt := 1462) dL_law_285 (by decide) ?_ ?_
      · exact p_L_law_1462 G l d hd0 N r_18 H_18 x3 μ22
      · refine sm_iconst (pc := 288) dL_law_288 (v := 0) (by decide) ?_
        exact sm_zret (pc := 289) dL_law_289 rfl
    refine sm_ite (fun e24 => ?_) (fun e24 => ?_)
    · refine sm_tsi (pc := 33) (c1 := 2) (off := 257) (tgt := 290) e24 dL_law_33 (by decide) (by decide) (by decide) (by decide) ?_
      refine sm_aload_n (pc := 290) dL_law_290 rfl 1 rfl ?_
      refine sm_aload_n (pc := 291) dL_law_291 rfl 0 rfl ?_
      refine sm_iload_n (pc := 292) dL_law_292 rfl 3 rfl ?_
      refine sm_iconst (pc := 293) dL_law_293 (v := 1) (by decide) ?_
      refine sm_iadd (pc := 294) dL_law_294 ?_
      refine sm_sald (pc := 295) dL_law_295 (fun j25 hj25 => ?_)
      refine sm_aload_n (pc := 296) dL_law_296 rfl 0 rfl ?_
      refine sm_iload_n (pc := 297) dL_law_297 rfl 3 rfl ?_
      refine sm_iconst (pc := 298) dL_law_298 (v := 2) (by decide) ?_
      refine sm_iadd (pc := 299) dL_law_299 ?_
      refine sm_sald (pc := 300) dL_law_300 (fun j26 hj26 => ?_)
      refine sm_aload_n (pc := 301) dL_law_301 rfl 0 rfl ?_
      refine sm_iload_n (pc := 302) dL_law_302 rfl 3 rfl ?_
      refine sm_iconst (pc := 303) dL_law_303 (v := 3) (by decide) ?_
      refine sm_iadd (pc := 304) dL_law_304 ?_
      refine sm_sald (pc := 305) dL_law_305 (fun j27 hj27 => ?_)
      refine sm_callVi (pc := 306) (As := [.int (am_xs G j25), .int (am_xs G j26), .int (am_xs G j27)]) (rest := []) dL_law_306 (c_X9_mend G l N (am_xs G j25) (am_xs G j26) (am_xs G j27) μ) (by omega) wl_L_22 vm_X9_mend rfl rfl (Nat.le_of_ble_eq_true rfl) (fun y29 μ28 => ?_)
      refine sm_aload_n (pc := 309) dL_law_309 rfl 2 rfl ?_
      refine sm_aload_n (pc := 310) dL_law_310 rfl 0 rfl ?_
      refine sm_iload_n (pc := 311) dL_law_311 rfl 3 rfl ?_
      refine sm_iconst (pc := 312) dL_law_312 (v := 1) (by decide) ?_
      refine sm_iadd (pc := 313) dL_law_313 ?_
      refine sm_sald (pc := 314) dL_law_314 (fun j30 hj30 => ?_)
      refine sm_aload_n (pc := 315) dL_law_315 rfl 0 rfl ?_
      refine sm_iload_n (pc := 316) dL_law_316 rfl 3 rfl ?_
      refine sm_iconst (pc := 317) dL_law_317 (v := 2) (by decide) ?_
      refine sm_iadd (pc := 318) dL_law_318 ?_
      refine sm_sald (pc := 319) dL_law_319 (fun j31 hj31 => ?_)
      refine sm_aload_n (pc := 320) dL_law_320 rfl 0 rfl ?_
      refine sm_iload_n (pc := 321) dL_law_321 rfl 3 rfl ?_
      refine sm_iconst (pc := 322) dL_law_322 (v := 3) (by decide) ?_
      refine sm_iadd (pc := 323) dL_law_323 ?_
      refine sm_sald (pc := 324) dL_law_324 (fun j32 hj32 => ?_)
      refine sm_callVi (pc := 325) (As := [.int (am_xs G j30), .int (am_xs G j31), .int (am_xs G j32)]) (rest := [.int y29]) dL_law_325 (c_X10_mend G l N (am_xs G j30) (am_xs G j31) (am_xs G j32) μ28) (by omega) wl_L_25 vm_X10_mend rfl rfl (Nat.le_of_ble_eq_true rfl) (fun y34 μ33 => ?_)
      refine sm_icmp_eq (pc := 328) (tgt := 1462) dL_law_328 (by decide) ?_ ?_
      · exact p_L_law_1462 G l d hd0 N r_18 H_18 x3 μ33
      · refine sm_iconst (pc := 331) dL_law_331 (v := 0) (by decide) ?_
        exact sm_zret (pc := 332) dL_law_332 rfl
    refine sm_ite (fun e35 => ?_) (fun e35 => ?_)
    · refine sm_tsi (pc := 33) (c1 := 3) (off := 300) (tgt := 333) e35 dL_law_33 (by decide) (by decide) (by decide) (by decide) ?_
      refine sm_aload_n (pc := 333) dL_law_333 rfl 1 rfl ?_
      refine sm_aload_n (pc := 334) dL_law_334 rfl 0 rfl ?_
      refine sm_iload_n (pc := 335) dL_law_335 rfl 3 rfl ?_
      refine sm_iconst (pc := 336) dL_law_336 (v := 1) (by decide) ?_
      refine sm_iadd (pc := 337) dL_law_337 ?_
      refine sm_sald (pc := 338) dL_law_338 (fun j36 hj36 => ?_)
      refine sm_aload_n (pc := 339) dL_law_339 rfl 0 rfl ?_
      refine sm_iload_n (pc := 340) dL_law_340 rfl 3 rfl ?_
      refine sm_iconst (pc := 341) dL_law_341 (v := 2) (by decide) ?_
      refine sm_iadd (pc := 342) dL_law_342 ?_
      refine sm_sald (pc := 343) dL_law_343 (fun j37 hj37 => ?_)
      refine sm_aload_n (pc := 344) dL_law_344 rfl 0 rfl ?_
      refine sm_iload_n (pc := 345) dL_law_345 rfl 3 rfl ?_
      refine sm_iconst (pc := 346) dL_law_346 (v := 3) (by decide) ?_
      refine sm_iadd (pc := 347) dL_law_347 ?_
      refine sm_sald (pc := 348) dL_law_348 (fun j38 hj38 => ?_)
      refine sm_callVi (pc := 349) (As := [.int (am_xs G j36), .int (am_xs G j37), .int (am_xs G j38)]) (rest := []) dL_law_349 (c_X9_sort G l N (am_xs G j36) (am_xs G j37) (am_xs G j38) μ) (by omega) wl_L_26 vm_X9_sort rfl rfl (Nat.le_of_ble_eq_true rfl) (fun y40 μ39 => ?_)
      refine sm_aload_n (pc := 352) dL_law_352 rfl 2 rfl ?_
      refine sm_aload_n (pc := 353) dL_law_353 rfl 0 rfl ?_
      refine sm_iload_n (pc := 354) dL_law_354 rfl 3 rfl ?_
      refine sm_iconst (pc := 355) dL_law_355 (v := 1) (by decide) ?_
      refine sm_iadd (pc := 356) dL_law_356 ?_
      refine sm_sald (pc := 357) dL_law_357 (fun j41 hj41 => ?_)
      refine sm_aload_n (pc := 358) dL_law_358 rfl 0 rfl ?_
      refine sm_iload_n (pc := 359) dL_law_359 rfl 3 rfl ?_
      refine sm_iconst (pc := 360) dL_law_360 (v := 2) (by decide) ?_
      refine sm_iadd (pc := 361) dL_law_361 ?_
      refine sm_sald (pc := 362) dL_law_362 (fun j42 hj42 => ?_)
      refine sm_aload_n (pc := 363) dL_law_363 rfl 0 rfl ?_
      refine sm_iload_n (pc := 364) dL_law_364 rfl 3 rfl ?_
      refine sm_iconst (pc := 365) dL_law_365 (v := 3) (by decide) ?_
      refine sm_iadd (pc := 366) dL_law_366 ?_
      refine sm_sald (pc := 367) dL_law_367 (fun j43 hj43 => ?_)
      refine sm_callVi (pc := 368) (As := [.int (am_xs G j41), .int (am_xs G j42), .int (am_xs G j43)]) (rest := [.int y40]) dL_law_368 (c_X10_sort G l N (am_xs G j41) (am_xs G j42) (am_xs G j43) μ39) (by omega) wl_L_29 vm_X10_sort rfl rfl (Nat.le_of_ble_eq_true rfl) (fun y45 μ44 => ?_)
      refine sm_icmp_eq (pc := 371) (tgt := 1462) dL_law_371 (by decide) ?_ ?_
      · exact p_L_law_1462 G l d hd0 N r_18 H_18 x3 μ44
      · refine sm_iconst (pc := 374) dL_law_374 (v := 0) (by decide) ?_
        exact sm_zret (pc := 375) dL_law_375 rfl
    refine sm_ite (fun e46 => ?_) (fun e46 => ?_)
    · refine sm_tsi (pc := 33) (c1 := 4) (off := 343) (tgt := 376) e46 dL_law_33 (by decide) (by decide) (by decide) (by decide) ?_
      refine sm_aload_n (pc := 376) dL_law_376 rfl 1 rfl ?_
      refine sm_aload_n (pc := 377) dL_law_377 rfl 0 rfl ?_
      refine sm_iload_n (pc := 378) dL_law_378 rfl 3 rfl ?_
      refine sm_iconst (pc := 379) dL_law_379 (v := 1) (by decide) ?_
      refine sm_iadd (pc := 380) dL_law_380 ?_
      refine sm_sald (pc := 381) dL_law_381 (fun j47 hj47 => ?_)
      refine sm_aload_n (pc := 382) dL_law_382 rfl 0 rfl ?_
      refine sm_iload_n (pc := 383) dL_law_383 rfl 3 rfl ?_
      refine sm_iconst (pc := 384) dL_law_384 (v := 2) (by decide) ?_
      refine sm_iadd (pc := 385) dL_law_385 ?_
      refine sm_sald (pc := 386) dL_law_386 (fun j48 hj48 => ?_)
      refine sm_aload_n (pc := 387) dL_law_387 rfl 0 rfl ?_
      refine sm_iload_n (pc := 388) dL_law_388 rfl 3 rfl ?_
      refine sm_iconst (pc := 389) dL_law_389 (v := 3) (by decide) ?_
      refine sm_iadd (pc := 390) dL_law_390 ?_
      refine sm_sald (pc := 391) dL_law_391 (fun j49 hj49 => ?_)
      refine sm_callVi (pc := 392) (As := [.int (am_xs G j47), .int (am_xs G j48), .int (am_xs G j49)]) (rest := []) dL_law_392 (c_X9_purse G l N (am_xs G j47) (am_xs G j48) (am_xs G j49) μ) (by omega) wl_L_30 vm_X9_purse rfl rfl (Nat.le_of_ble_eq_true rfl) (fun y51 μ50 => ?_)
      refine sm_aload_n (pc := 395) dL_law_395 rfl 2 rfl ?_
      refine sm_aload_n (pc := 396) dL_law_396 rfl 0 rfl ?_
      refine sm_iload_n (pc := 397) dL_law_397 rfl 3 rfl ?_
      refine sm_iconst (pc := 398) dL_law_398 (v := 1) (by decide) ?_
      refine sm_iadd (pc := 399) dL_law_399 ?_
      refine sm_sald (pc := 400) dL_law_400 (fun j52 hj52 => ?_)
      refine sm_aload_n (pc := 401) dL_law_401 rfl 0 rfl ?_
      refine sm_iload_n (pc := 402) dL_law_402 rfl 3 rfl ?_
      refine sm_iconst (pc := 403) dL_law_403 (v := 2) (by decide) ?_
      refine sm_iadd (pc := 404) dL_law_404 ?_
      refine sm_sald (pc := 405) dL_law_405 (fun j53 hj53 => ?_)
      refine sm_aload_n (pc := 406) dL_law_406 rfl 0 rfl ?_
      refine sm_iload_n (pc := 407) dL_law_407 rfl 3 rfl ?_
      refine sm_iconst (pc := 408) dL_law_408 (v := 3) (by decide) ?_
      refine sm_iadd (pc := 409) dL_law_409 ?_
      refine sm_sald (pc := 410) dL_law_410 (fun j54 hj54 => ?_)
      refine sm_callVi (pc := 411) (As := [.int (am_xs G j52), .int (am_xs G j53), .int (am_xs G j54)]) (rest := [.int y51]) dL_law_411 (c_X10_purse G l N (am_xs G j52) (am_xs G j53) (am_xs G j54) μ50) (by omega) wl_L_33 vm_X10_purse rfl rfl (Nat.le_of_ble_eq_true rfl) (fun y56 μ55 => ?_)
      refine sm_icmp_eq (pc := 414) (tgt := 1462) dL_law_414 (by decide) ?_ ?_
      · exact p_L_law_1462 G l d hd0 N r_18 H_18 x3 μ55
      · refine sm_iconst (pc := 417) dL_law_417 (v := 0) (by decide) ?_
        exact sm_zret (pc := 418) dL_law_418 rfl
    refine sm_ite (fun e57 => ?_) (fun e57 => ?_)
    · refine sm_tsi (pc := 33) (c1 := 5) (off := 386) (tgt := 419) e57 dL_law_33 (by decide) (by decide) (by decide) (by decide) ?_
      refine sm_aload_n (pc := 419) dL_law_419 rfl 1 rfl ?_
      refine sm_aload_n (pc := 420) dL_law_420 rfl 0 rfl ?_
      refine sm_iload_n (pc := 421) dL_law_421 rfl 3 rfl ?_
      refine sm_iconst (pc := 422) dL_law_422 (v := 1) (by decide) ?_
      refine sm_iadd (pc := 423) dL_law_423 ?_
      refine sm_sald (pc := 424) dL_law_424 (fun j58 hj58 => ?_)
      refine sm_aload_n (pc := 425) dL_law_425 rfl 0 rfl ?_
      refine sm_iload_n (pc := 426) dL_law_426 rfl 3 rfl ?_
      refine sm_iconst (pc := 427) dL_law_427 (v := 2) (by decide) ?_
      refine sm_iadd (pc := 428) dL_law_428 ?_
      refine sm_sald (pc := 429) dL_law_429 (fun j59 hj59 => ?_)
      refine sm_callVi (pc := 430) (As := [.int (am_xs G j58), .int (am_xs G j59)]) (rest := []) dL_law_430 (c_X9_of G l N (am_xs G j58) (am_xs G j59) μ) (by omega) wl_L_34 vm_X9_of rfl rfl (Nat.le_of_ble_eq_true rfl) (fun y61 μ60 => ?_)
      refine sm_aload_n (pc := 433) dL_law_433 rfl 2 rfl ?_
      refine sm_aload_n (pc := 434) dL_law_434 rfl 0 rfl ?_
      refine sm_iload_n (pc := 435) dL_law_435 rfl 3 rfl ?_
      refine sm_iconst (pc := 436) dL_law_436 (v := 1) (by decide) ?_
      refine sm_iadd (pc := 437) dL_law_437 ?_
      refine sm_sald (pc := 438) dL_law_438 (fun j62 hj62 => ?_)
      refine sm_aload_n (pc := 439) dL_law_439 rfl 0 rfl ?_
      refine sm_iload_n (pc := 440) dL_law_440 rfl 3 rfl ?_
      refine sm_iconst (pc := 441) dL_law_441 (v := 2) (by decide) ?_
      refine sm_iadd (pc := 442) dL_law_442 ?_
      refine sm_sald (pc := 443) dL_law_443 (fun j63 hj63 => ?_)
      refine sm_callVi (pc := 444) (As := [.int (am_xs G j62), .int (am_xs G j63)]) (rest := [.int y61]) dL_law_444 (c_X10_of G l N (am_xs G j62) (am_xs G j63) μ60) (by omega) wl_L_38 vm_X10_of rfl rfl (Nat.le_of_ble_eq_true rfl) (fun y65 μ64 => ?_)
      refine sm_icmp_eq (pc := 447) (tgt := 1462) dL_law_447 (by decide) ?_ ?_
      · exact p_L_law_1462 G l d hd0 N r_18 H_18 x3 μ64
      · refine sm_iconst (pc := 450) dL_law_450 (v := 0) (by decide) ?_
        exact sm_zret (pc := 451) dL_law_451 rfl
    refine sm_ite (fun e66 => ?_) (fun e66 => ?_)
    · refine sm_tsi (pc := 33) (c1 := 6) (off := 419) (tgt := 452) e66 dL_law_33 (by decide) (by decide) (by decide) (by decide) ?_
      refine sm_aload_n (pc := 452) dL_law_452 rfl 1 rfl ?_
      refine sm_aload_n (pc := 453) dL_law_453 rfl 0 rfl ?_
      refine sm_iload_n (pc := 454) dL_law_454 rfl 3 rfl ?_
      refine sm_iconst (pc := 455) dL_law_455 (v := 1) (by decide) ?_
      refine sm_iadd (pc := 456) dL_law_456 ?_
      refine sm_sald (pc := 457) dL_law_457 (fun j67 hj67 => ?_)
      refine sm_aload_n (pc := 458) dL_law_458 rfl 0 rfl ?_
      refine sm_iload_n (pc := 459) dL_law_459 rfl 3 rfl ?_
      refine sm_iconst (pc := 460) dL_law_460 (v := 2) (by decide) ?_
      refine sm_iadd (pc := 461) dL_law_461 ?_
      refine sm_sald (pc := 462) dL_law_462 (fun j68 hj68 => ?_)
      refine sm_callVi (pc := 463) (As := [.int (am_xs G j67), .int (am_xs G j68)]) (rest := []) dL_law_463 (c_X9_feed G l N (am_xs G j67) (am_xs G j68) μ) (by omega) wl_L_39 vm_X9_feed rfl rfl (Nat.le_of_ble_eq_true rfl) (fun y70 μ69 => ?_)
      refine sm_aload_n (pc := 466) dL_law_466 rfl 2 rfl ?_
      refine sm_aload_n (pc := 467) dL_law_467 rfl 0 rfl ?_
      refine sm_iload_n (pc := 468) dL_law_468 rfl 3 rfl ?_
      refine sm_iconst (pc := 469) dL_law_469 (v := 1) (by decide) ?_
      refine sm_iadd (pc := 470) dL_law_470 ?_
      refine sm_sald (pc := 471) dL_law_471 (fun j71 hj71 => ?_)
      refine sm_aload_n (pc := 472) dL_law_472 rfl 0 rfl ?_
      refine sm_iload_n (pc := 473) dL_law_473 rfl 3 rfl ?_
      refine sm_iconst (pc := 474) dL_law_474 (v := 2) (by decide) ?_
      refine sm_iadd (pc := 475) dL_law_475 ?_
      refine sm_sald (pc := 476) dL_law_476 (fun j72 hj72 => ?_)
      refine sm_callVi (pc := 477) (As := [.int (am_xs G j71), .int (am_xs G j72)]) (rest := [.int y70]) dL_law_477 (c_X10_feed G l N (am_xs G j71) (am_xs G j72) μ69) (by omega) wl_L_42 vm_X10_feed rfl rfl (Nat.le_of_ble_eq_true rfl) (fun y74 μ73 => ?_)
      refine sm_icmp_eq (pc := 480) (tgt := 1462) dL_law_480 (by decide) ?_ ?_
      · exact p_L_law_1462 G l d hd0 N r_18 H_18 x3 μ73
      · refine sm_iconst (pc := 483) dL_law_483 (v := 0) (by decide) ?_
        exact sm_zret (pc := 484) dL_law_484 rfl
    refine sm_ite (fun e75 => ?_) (fun e75 => ?_)
    · refine sm_tsi (pc := 33) (c1 := 7) (off := 452) (tgt := 485) e75 dL_law_33 (by decide) (by decide) (by decide) (by decide) ?_
      refine sm_aload_n (pc := 485) dL_law_485 rfl 1 rfl ?_
      refine sm_callVi (pc := 486) (As := []) (rest := []) dL_law_486 (c_X9_want G l N μ) (by omega) wl_L_43 vm_X9_want rfl rfl (Nat.le_of_ble_eq_true rfl) (fun y77 μ76 => ?_)
      refine sm_aload_n (pc := 489) dL_law_489 rfl 2 rfl ?_
      refine sm_callVi (pc := 490) (As := []) (rest := [.int y77]) dL_law_490 (c_X10_want G l N μ76) (by omega) wl_L_47 vm_X10_want rfl rfl (Nat.le_of_ble_eq_true rfl) (fun y79 μ78 => ?_)
      refine sm_icmp_eq (pc := 493) (tgt := 1462) dL_law_493 (by decide) ?_ ?_
      · exact p_L_law_1462 G l d hd0 N r_18 H_18 x3 μ78
      · refine sm_iconst (pc := 496) dL_law_496 (v := 0) (by decide) ?_
        exact sm_zret (pc := 497) dL_law_497 rfl
    refine sm_ite (fun e80 => ?_) (fun e80 => ?_)
    · refine sm_tsi (pc := 33) (c1 := 8) (off := 465) (tgt := 498) e80 dL_law_33 (by decide) (by decide) (by decide) (by decide) ?_
      refine sm_aload_n (pc := 498) dL_law_498 rfl 1 rfl ?_
      refine sm_aload_n (pc := 499) dL_law_499 rfl 0 rfl ?_
      refine sm_iload_n (pc := 500) dL_law_500 rfl 3 rfl ?_
      refine sm_iconst (pc := 501) dL_law_501 (v := 1) (by decide) ?_
      refine sm_iadd (pc := 502) dL_law_502 ?_
      refine sm_sald (pc := 503) dL_law_503 (fun j81 hj81 => ?_)
      refine sm_aload_n (pc := 504) dL_law_504 rfl 0 rfl ?_
      refine sm_iload_n (pc := 505) dL_law_505 rfl 3 rfl ?_
      refine sm_iconst (pc := 506) dL_law_506 (v := 2) (by decide) ?_
      refine sm_iadd (pc := 507) dL_law_507 ?_
      refine sm_sald (pc := 508) dL_law_508 (fun j82 hj82 => ?_)
      refine sm_callVi (pc := 509) (As := [.int (am_xs G j81), .int (am_xs G j82)]) (rest := []) dL_law_509 (c_X9_worth G l N (am_xs G j81) (am_xs G j82) μ) (by omega) wl_L_48 vm_X9_worth rfl rfl (Nat.le_of_ble_eq_true rfl) (fun y84 μ83 => ?_)
      refine sm_aload_n (pc := 512) dL_law_512 rfl 2 rfl ?_
      refine sm_aload_n (pc := 513) dL_law_513 rfl 0 rfl ?_
      refine sm_iload_n (pc := 514) dL_law_514 rfl 3 rfl ?_
      refine sm_iconst (pc := 515) dL_law_515 (v := 1) (by decide) ?_
      refine sm_iadd (pc := 516) dL_law_516 ?_
      refine sm_sald (pc := 517) dL_law_517 (fun j85 hj85 => ?_)
      refine sm_aload_n (pc := 518) dL_law_518 rfl 0 rfl ?_
      refine sm_iload_n (pc := 519) dL_law_519 rfl 3 rfl ?_
      refine sm_iconst (pc := 520) dL_law_520 (v := 2) (by decide) ?_
      refine sm_iadd (pc := 521) dL_law_521 ?_
      refine sm_sald (pc := 522) dL_law_522 (fun j86 hj86 => ?_)
      refine sm_callVi (pc := 523) (As := [.int (am_xs G j85), .int (am_xs G j86)]) (rest := [.int y84]) dL_law_523 (c_X10_worth G l N (am_xs G j85) (am_xs G j86) μ83) (by omega) wl_L_51 vm_X10_worth rfl rfl (Nat.le_of_ble_eq_true rfl) (fun y88 μ87 => ?_)
      refine sm_icmp_eq (pc := 526) (tgt := 1462) dL_law_526 (by decide) ?_ ?_
      · exact p_L_law_1462 G l d hd0 N r_18 H_18 x3 μ87
      · refine sm_iconst (pc := 529) dL_law_529 (v := 0) (by decide) ?_
        exact sm_zret (pc := 530) dL_law_530 rfl
    refine sm_ite (fun e89 => ?_) (fun e89 => ?_)
    · refine sm_tsi (pc := 33) (c1 := 9) (off := 498) (tgt := 531) e89 dL_law_33 (by decide) (by decide) (by decide) (by decide) ?_
      refine sm_aload_n (pc := 531) dL_law_531 rfl 1 rfl ?_
      refine sm_aload_n (pc := 532) dL_law_532 rfl 0 rfl ?_
      refine sm_iload_n (pc := 533) dL_law_533 rfl 3 rfl ?_
      refine sm_iconst (pc := 534) dL_law_534 (v := 1) (by decide) ?_
      refine sm_iadd (pc := 535) dL_law_535 ?_
      refine sm_sald (pc := 536) dL_law_536 (fun j90 hj90 => ?_)
      refine sm_aload_n (pc := 537) dL_law_537 rfl 0 rfl ?_
      refine sm_iload_n (pc := 538) dL_law_538 rfl 3 rfl ?_
      refine sm_iconst (pc := 539) dL_law_539 (v := 2) (by decide) ?_
      refine sm_iadd (pc := 540) dL_law_540 ?_
      refine sm_sald (pc := 541) dL_law_541 (fun j91 hj91 => ?_)
      refine sm_callVi (pc := 542) (As := [.int (am_xs G j90), .int (am_xs G j91)]) (rest := []) dL_law_542 (c_X9_basket G l N (am_xs G j90) (am_xs G j91) μ) (by omega) wl_L_52 vm_X9_basket rfl rfl (Nat.le_of_ble_eq_true rfl) (fun y93 μ92 => ?_)
      refine sm_aload_n (pc := 545) dL_law_545 rfl 2 rfl ?_
      refine sm_aload_n (pc := 546) dL_law_546 rfl 0 rfl ?_
      refine sm_iload_n (pc := 547) dL_law_547 rfl 3 rfl ?_
      refine sm_iconst (pc := 548) dL_law_548 (v := 1) (by decide) ?_
      refine sm_iadd (pc := 549) dL_law_549 ?_
      refine sm_sald (pc := 550) dL_law_550 (fun j94 hj94 => ?_)
      refine sm_aload_n (pc := 551) dL_law_551 rfl 0 rfl ?_
      refine sm_iload_n (pc := 552) dL_law_552 rfl 3 rfl ?_
      refine sm_iconst (pc := 553) dL_law_553 (v := 2) (by decide) ?_
      refine sm_iadd (pc := 554) dL_law_554 ?_
      refine sm_sald (pc := 555) dL_law_555 (fun j95 hj95 => ?_)
      refine sm_callVi (pc := 556) (As := [.int (am_xs G j94), .int (am_xs G j95)]) (rest := [.int y93]) dL_law_556 (c_X10_basket G l N (am_xs G j94) (am_xs G j95) μ92) (by omega) wl_L_55 vm_X10_basket rfl rfl (Nat.le_of_ble_eq_true rfl) (fun y97 μ96 => ?_)
      refine sm_icmp_eq (pc := 559) (tgt := 1462) dL_law_559 (by decide) ?_ ?_
      · exact p_L_law_1462 G l d hd0 N r_18 H_18 x3 μ96
      · refine sm_iconst (pc := 562) dL_law_562 (v := 0) (by decide) ?_
        exact sm_zret (pc := 563) dL_law_563 rfl
    refine sm_ite (fun e98 => ?_) (fun e98 => ?_)
    · refine sm_tsi (pc := 33) (c1 := 10) (off := 531) (tgt := 564) e98 dL_law_33 (by decide) (by decide) (by decide) (by decide) ?_
      refine sm_aload_n (pc := 564) dL_law_564 rfl 1 rfl ?_
      refine sm_aload_n (pc := 565) dL_law_565 rfl 0 rfl ?_
      refine sm_iload_n (pc := 566) dL_law_566 rfl 3 rfl ?_
      refine sm_iconst (pc := 567) dL_law_567 (v := 1) (by decide) ?_
      refine sm_iadd (pc := 568) dL_law_568 ?_
      refine sm_sald (pc := 569) dL_law_569 (fun j99 hj99 => ?_)
      refine sm_aload_n (pc := 570) dL_law_570 rfl 0 rfl ?_
      refine sm_iload_n (pc := 571) dL_law_571 rfl 3 rfl ?_
      refine sm_iconst (pc := 572) dL_law_572 (v := 2) (by decide) ?_
      refine sm_iadd (pc := 573) dL_law_573 ?_
      refine sm_sald (pc := 574) dL_law_574 (fun j100 hj100 => ?_)
      refine sm_callVi (pc := 575) (As := [.int (am_xs G j99), .int (am_xs G j100)]) (rest := []) dL_law_575 (c_X9_wanted G l N (am_xs G j99) (am_xs G j100) μ) (by omega) wl_L_56 vm_X9_wanted rfl rfl (Nat.le_of_ble_eq_true rfl) (fun y102 μ101 => ?_)
      refine sm_aload_n (pc := 578) dL_law_578 rfl 2 rfl ?_
      refine sm_aload_n (pc := 579) dL_law_579 rfl 0 rfl ?_
      refine sm_iload_n (pc := 580) dL_law_580 rfl 3 rfl ?_
      refine sm_iconst (pc := 581) dL_law_581 (v := 1) (by decide) ?_
      refine sm_iadd (pc := 582) dL_law_582 ?_
      refine sm_sald (pc := 583) dL_law_583 (fun j103 hj103 => ?_)
      refine sm_aload_n (pc := 584) dL_law_584 rfl 0 rfl ?_
      refine sm_iload_n (pc := 585) dL_law_585 rfl 3 rfl ?_
      refine sm_iconst (pc := 586) dL_law_586 (v := 2) (by decide) ?_
      refine sm_iadd (pc := 587) dL_law_587 ?_
      refine sm_sald (pc := 588) dL_law_588 (fun j104 hj104 => ?_)
      refine sm_callVi (pc := 589) (As := [.int (am_xs G j103), .int (am_xs G j104)]) (rest := [.int y102]) dL_law_589 (c_X10_wanted G l N (am_xs G j103) (am_xs G j104) μ101) (by omega) wl_L_59 vm_X10_wanted rfl rfl (Nat.le_of_ble_eq_true rfl) (fun y106 μ105 => ?_)
      refine sm_icmp_eq (pc := 592) (tgt := 1462) dL_law_592 (by decide) ?_ ?_
      · exact p_L_law_1462 G l d hd0 N r_18 H_18 x3 μ105
      · refine sm_iconst (pc := 595) dL_law_595 (v := 0) (by decide) ?_
        exact sm_zret (pc := 596) dL_law_596 rfl
    refine sm_ite (fun e107 => ?_) (fun e107 => ?_)
    · refine sm_tsi (pc := 33) (c1 := 11) (off := 564) (tgt := 597) e107 dL_law_33 (by decide) (by decide) (by decide) (by decide) ?_
      refine sm_aload_n (pc := 597) dL_law_597 rfl 1 rfl ?_
      refine sm_aload_n (pc := 598) dL_law_598 rfl 0 rfl ?_
      refine sm_iload_n (pc := 599) dL_law_599 rfl 3 rfl ?_
      refine sm_iconst (pc := 600) dL_law_600 (v := 1) (by decide) ?_
      refine sm_iadd (pc := 601) dL_law_601 ?_
      refine sm_sald (pc := 602) dL_law_602 (fun j108 hj108 => ?_)
      refine sm_aload_n (pc := 603) dL_law_603 rfl 0 rfl ?_
      refine sm_iload_n (pc := 604) dL_law_604 rfl 3 rfl ?_
      refine sm_iconst (pc := 605) dL_law_605 (v := 2) (by decide) ?_
      refine sm_iadd (pc := 606) dL_law_606 ?_
      refine sm_sald (pc := 607) dL_law_607 (fun j109 hj109 => ?_)
      refine sm_callVi (pc := 608) (As := [.int (am_xs G j108), .int (am_xs G j109)]) (rest := []) dL_law_608 (c_X9_led G l N (am_xs G j108) (am_xs G j109) μ) (by omega) wl_L_60 vm_X9_led rfl rfl (Nat.le_of_ble_eq_true rfl) (fun y111 μ110 => ?_)
      refine sm_aload_n (pc := 611) dL_law_611 rfl 2 rfl ?_
      refine sm_aload_n (pc := 612) dL_law_612 rfl 0 rfl ?_
      refine sm_iload_n (pc := 613) dL_law_613 rfl 3 rfl ?_
      refine sm_iconst (pc := 614) dL_law_614 (v := 1) (by decide) ?_
      refine sm_iadd (pc := 615) dL_law_615 ?_
      refine sm_sald (pc := 616) dL_law_616 (fun j112 hj112 => ?_)
      refine sm_aload_n (pc := 617) dL_law_617 rfl 0 rfl ?_
      refine sm_iload_n (pc := 618) dL_law_618 rfl 3 rfl ?_
      refine sm_iconst (pc := 619) dL_law_619 (v := 2) (by decide) ?_
      refine sm_iadd (pc := 620) dL_law_620 ?_
      refine sm_sald (pc := 621) dL_law_621 (fun j113 hj113 => ?_)
      refine sm_callVi (pc := 622) (As := [.int (am_xs G j112), .int (am_xs G j113)]) (rest := [.int y111]) dL_law_622 (c_X10_led G l N (am_xs G j112) (am_xs G j113) μ110) (by omega) wl_L_63 vm_X10_led rfl rfl (Nat.le_of_ble_eq_true rfl) (fun y115 μ114 => ?_)
      refine sm_icmp_eq (pc := 625) (tgt := 1462) dL_law_625 (by decide) ?_ ?_
      · exact p_L_law_1462 G l d hd0 N r_18 H_18 x3 μ114
      · refine sm_iconst (pc := 628) dL_law_628 (v := 0) (by decide) ?_
        exact sm_zret (pc := 629) dL_law_629 rfl
    refine sm_ite (fun e116 => ?_) (fun e116 => ?_)
    · refine sm_tsi (pc := 33) (c1 := 12) (off := 597) (tgt := 630) e116 dL_law_33 (by decide) (by decide) (by decide) (by decide) ?_
      refine sm_aload_n (pc := 630) dL_law_630 rfl 1 rfl ?_
      refine sm_aload_n (pc := 631) dL_law_631 rfl 0 rfl ?_
      refine sm_iload_n (pc := 632) dL_law_632 rfl 3 rfl ?_
      refine sm_iconst (pc := 633) dL_law_633 (v := 1) (by decide) ?_
      refine sm_iadd (pc := 634) dL_law_634 ?_
      refine sm_sald (pc := 635) dL_law_635 (fun j117 hj117 => ?_)
      refine sm_aload_n (pc := 636) dL_law_636 rfl 0 rfl ?_
      refine sm_iload_n (pc := 637) dL_law_637 rfl 3 rfl ?_
      refine sm_iconst (pc := 638) dL_law_638 (v := 2) (by decide) ?_
      refine sm_iadd (pc := 639) dL_law_639 ?_
      refine sm_sald (pc := 640) dL_law_640 (fun j118 hj118 => ?_)
      refine sm_callVi (pc := 641) (As := [.int (am_xs G j117), .int (am_xs G j118)]) (rest := []) dL_law_641 (c_X9_found G l N (am_xs G j117) (am_xs G j118) μ) (by omega) wl_L_64 vm_X9_found rfl rfl (Nat.le_of_ble_eq_true rfl) (fun y120 μ119 => ?_)
      refine sm_aload_n (pc := 644) dL_law_644 rfl 2 rfl ?_
      refine sm_aload_n (pc := 645) dL_law_645 rfl 0 rfl ?_
      refine sm_iload_n (pc := 646) dL_law_646 rfl 3 rfl ?_
      refine sm_iconst (pc := 647) dL_law_647 (v := 1) (by decide) ?_
      refine sm_iadd (pc := 648) dL_law_648 ?_
      refine sm_sald (pc := 649) dL_law_649 (fun j121 hj121 => ?_)
      refine sm_aload_n (pc := 650) dL_law_650 rfl 0 rfl ?_
      refine sm_iload_n (pc := 651) dL_law_651 rfl 3 rfl ?_
      refine sm_iconst (pc := 652) dL_law_652 (v := 2) (by decide) ?_
      refine sm_iadd (pc := 653) dL_law_653 ?_
      refine sm_sald (pc := 654) dL_law_654 (fun j122 hj122 => ?_)
      refine sm_callVi (pc := 655) (As := [.int (am_xs G j121), .int (am_xs G j122)]) (rest := [.int y120]) dL_law_655 (c_X10_found G l N (am_xs G j121) (am_xs G j122) μ119) (by omega) wl_L_67 vm_X10_found rfl rfl (Nat.le_of_ble_eq_true rfl) (fun y124 μ123 => ?_)
      refine sm_icmp_eq (pc := 658) (tgt := 1462) dL_law_658 (by decide) ?_ ?_
      · exact p_L_law_1462 G l d hd0 N r_18 H_18 x3 μ123
      · refine sm_iconst (pc := 661) dL_law_661 (v := 0) (by decide) ?_
        exact sm_zret (pc := 662) dL_law_662 rfl
    refine sm_ite (fun e125 => ?_) (fun e125 => ?_)
    · refine sm_tsi (pc := 33) (c1 := 13) (off := 630) (tgt := 663) e125 dL_law_33 (by decide) (by decide) (by decide) (by decide) ?_
      refine sm_aload_n (pc := 663) dL_law_663 rfl 1 rfl ?_
      refine sm_aload_n (pc := 664) dL_law_664 rfl 0 rfl ?_
      refine sm_iload_n (pc := 665) dL_law_665 rfl 3 rfl ?_
      refine sm_iconst (pc := 666) dL_law_666 (v := 1) (by decide) ?_
      refine sm_iadd (pc := 667) dL_law_667 ?_
      refine sm_sald (pc := 668) dL_law_668 (fun j126 hj126 => ?_)
      refine sm_callVi (pc := 669) (As := [.int (am_xs G j126)]) (rest := []) dL_law_669 (c_X9_set G l N (am_xs G j126) μ) (by omega) wl_L_68 vm_X9_set rfl rfl (Nat.le_of_ble_eq_true rfl) (fun y128 μ127 => ?_)
      refine sm_aload_n (pc := 672) dL_law_672 rfl 2 rfl ?_
      refine sm_aload_n (pc := 673) dL_law_673 rfl 0 rfl ?_
      refine sm_iload_n (pc := 674) dL_law_674 rfl 3 rfl ?_
      refine sm_iconst (pc := 675) dL_law_675 (v := 1) (by decide) ?_
      refine sm_iadd (pc := 676) dL_law_676 ?_
      refine sm_sald (pc := 677) dL_law_677 (fun j129 hj129 => ?_)
      refine sm_callVi (pc := 678) (As := [.int (am_xs G j129)]) (rest := [.int y128]) dL_law_678 (c_X10_set G l N (am_xs G j129) μ127) (by omega) wl_L_72 vm_X10_set rfl rfl (Nat.le_of_ble_eq_true rfl) (fun y131 μ130 => ?_)
      refine sm_icmp_eq (pc := 681) (tgt := 1462) dL_law_681 (by decide) ?_ ?_
      · exact p_L_law_1462 G l d hd0 N r_18 H_18 x3 μ130
      · refine sm_iconst (pc := 684) dL_law_684 (v := 0) (by decide) ?_
        exact sm_zret (pc := 685) dL_law_685 rfl
    refine sm_ite (fun e132 => ?_) (fun e132 => ?_)
    · refine sm_tsi (pc := 33) (c1 := 14) (off := 653) (tgt := 686) e132 dL_law_33 (by decide) (by decide) (by decide) (by decide) ?_
      refine sm_aload_n (pc := 686) dL_law_686 rfl 1 rfl ?_
      refine sm_aload_n (pc := 687) dL_law_687 rfl 0 rfl ?_
      refine sm_iload_n (pc := 688) dL_law_688 rfl 3 rfl ?_
      refine sm_iconst (pc := 689) dL_law_689 (v := 1) (by decide) ?_
      refine sm_iadd (pc := 690) dL_law_690 ?_
      refine sm_sald (pc := 691) dL_law_691 (fun j133 hj133 => ?_)
      refine sm_aload_n (pc := 692) dL_law_692 rfl 0 rfl ?_
      refine sm_iload_n (pc := 693) dL_law_693 rfl 3 rfl ?_
      refine sm_iconst (pc := 694) dL_law_694 (v := 2) (by decide) ?_
      refine sm_iadd (pc := 695) dL_law_695 ?_
      refine sm_sald (pc := 696) dL_law_696 (fun j134 hj134 => ?_)
      refine sm_callVi (pc := 697) (As := [.int (am_xs G j133), .int (am_xs G j134)]) (rest := []) dL_law_697 (c_X9_tell G l N (am_xs G j133) (am_xs G j134) μ) (by omega) wl_L_73 vm_X9_tell rfl rfl (Nat.le_of_ble_eq_true rfl) (fun y136 μ135 => ?_)
      refine sm_aload_n (pc := 700) dL_law_700 rfl 2 rfl ?_
      refine sm_aload_n (pc := 701) dL_law_701 rfl 0 rfl ?_
      refine sm_iload_n (pc := 702) dL_law_702 rfl 3 rfl ?_
      refine sm_iconst (pc := 703) dL_law_703 (v := 1) (by decide) ?_
      refine sm_iadd (pc := 704) dL_law_704 ?_
      refine sm_sald (pc := 705) dL_law_705 (fun j137 hj137 => ?_)
      refine sm_aload_n (pc := 706) dL_law_706 rfl 0 rfl ?_
      refine sm_iload_n (pc := 707) dL_law_707 rfl 3 rfl ?_
      refine sm_iconst (pc := 708) dL_law_708 (v := 2) (by decide) ?_
      refine sm_iadd (pc := 709) dL_law_709 ?_
      refine sm_sald (pc := 710) dL_law_710 (fun j138 hj138 => ?_)
      refine sm_callVi (pc := 711) (As := [.int (am_xs G j137), .int (am_xs G j138)]) (rest := [.int y136]) dL_law_711 (c_X10_tell G l N (am_xs G j137) (am_xs G j138) μ135) (by omega) wl_L_76 vm_X10_tell rfl rfl (Nat.le_of_ble_eq_true rfl) (fun y140 μ139 => ?_)
      refine sm_icmp_eq (pc := 714) (tgt := 1462) dL_law_714 (by decide) ?_ ?_
      · exact p_L_law_1462 G l d hd0 N r_18 H_18 x3 μ139
      · refine sm_iconst (pc := 717) dL_law_717 (v := 0) (by decide) ?_
        exact sm_zret (pc := 718) dL_law_718 rfl
    refine sm_ite (fun e141 => ?_) (fun e141 => ?_)
    · refine sm_tsi (pc := 33) (c1 := 15) (off := 686) (tgt := 719) e141 dL_law_33 (by decide) (by decide) (by decide) (by decide) ?_
      refine sm_aload_n (pc := 719) dL_law_719 rfl 1 rfl ?_
      refine sm_callVi (pc := 720) (As := []) (rest := []) dL_law_720 (c_X9_judge G l N μ) (by omega) wl_L_77 vm_X9_judge rfl rfl (Nat.le_of_ble_eq_true rfl) (fun y143 μ142 => ?_)
      refine sm_aload_n (pc := 723) dL_law_723 rfl 2 rfl ?_
      refine sm_callVi (pc := 724) (As := []) (rest := [.int y143]) dL_law_724 (c_X10_judge G l N μ142) (by omega) wl_L_80 vm_X10_judge rfl rfl (Nat.le_of_ble_eq_true rfl) (fun y145 μ144 => ?_)
      refine sm_icmp_eq (pc := 727) (tgt := 1462) dL_law_727 (by decide) ?_ ?_
      · exact p_L_law_1462 G l d hd0 N r_18 H_18 x3 μ144
      · refine sm_iconst (pc := 730) dL_law_730 (v := 0) (by decide) ?_
        exact sm_zret (pc := 731) dL_law_731 rfl
    refine sm_ite (fun e146 => ?_) (fun e146 => ?_)
    · refine sm_tsi (pc := 33) (c1 := 16) (off := 699) (tgt := 732) e146 dL_law_33 (by decide) (by decide) (by decide) (by decide) ?_
      refine sm_aload_n (pc := 732) dL_law_732 rfl 1 rfl ?_
      refine sm_aload_n (pc := 733) dL_law_733 rfl 0 rfl ?_
      refine sm_iload_n (pc := 734) dL_law_734 rfl 3 rfl ?_
      refine sm_iconst (pc := 735) dL_law_735 (v := 1) (by decide) ?_
      refine sm_iadd (pc := 736) dL_law_736 ?_
      refine sm_sald (pc := 737) dL_law_737 (fun j147 hj147 => ?_)
      refine sm_aload_n (pc := 738) dL_law_738 rfl 0 rfl ?_
      refine sm_iload_n (pc := 739) dL_law_739 rfl 3 rfl ?_
      refine sm_iconst (pc := 740) dL_law_740 (v := 2) (by decide) ?_
      refine sm_iadd (pc := 741) dL_law_741 ?_
      refine sm_sald (pc := 742) dL_law_742 (fun j148 hj148 => ?_)
      refine sm_aload_n (pc := 743) dL_law_743 rfl 0 rfl ?_
      refine sm_iload_n (pc := 744) dL_law_744 rfl 3 rfl ?_
      refine sm_iconst (pc := 745) dL_law_745 (v := 3) (by decide) ?_
      refine sm_iadd (pc := 746) dL_law_746 ?_
      refine sm_sald (pc := 747) dL_law_747 (fun j149 hj149 => ?_)
      refine sm_callVi (pc := 748) (As := [.int (am_xs G j147), .int (am_xs G j148), .int (am_xs G j149)]) (rest := []) dL_law_748 (c_X9_changed G l N (am_xs G j147) (am_xs G j148) (am_xs G j149) μ) (by omega) wl_L_81 vm_X9_changed rfl rfl (Nat.le_of_ble_eq_true rfl) (fun y151 μ150 => ?_)
      refine sm_aload_n (pc := 751) dL_law_751 rfl 2 rfl ?_
      refine sm_aload_n (pc := 752) dL_law_752 rfl 0 rfl ?_
      refine sm_iload_n (pc := 753) dL_law_753 rfl 3 rfl ?_
      refine sm_iconst (pc := 754) dL_law_754 (v := 1) (by decide) ?_
      refine sm_iadd (pc := 755) dL_law_755 ?_
      refine sm_sald (pc := 756) dL_law_756 (fun j152 hj152 => ?_)
      refine sm_aload_n (pc := 757) dL_law_757 rfl 0 rfl ?_
      refine sm_iload_n (pc := 758) dL_law_758 rfl 3 rfl ?_
      refine sm_iconst (pc := 759) dL_law_759 (v := 2) (by decide) ?_
      refine sm_iadd (pc := 760) dL_law_760 ?_
      refine sm_sald (pc := 761) dL_law_761 (fun j153 hj153 => ?_)
      refine sm_aload_n (pc := 762) dL_law_762 rfl 0 rfl ?_
      refine sm_iload_n (pc := 763) dL_law_763 rfl 3 rfl ?_
      refine sm_iconst (pc := 764) dL_law_764 (v := 3) (by decide) ?_
      refine sm_iadd (pc := 765) dL_law_765 ?_
      refine sm_sald (pc := 766) dL_law_766 (fun j154 hj154 => ?_)
      refine sm_callVi (pc := 767) (As := [.int (am_xs G j152), .int (am_xs G j153), .int (am_xs G j154)]) (rest := [.int y151]) dL_law_767 (c_X10_changed G l N (am_xs G j152) (am_xs G j153) (am_xs G j154) μ150) (by omega) wl_L_84 vm_X10_changed rfl rfl (Nat.le_of_ble_eq_true rfl) (fun y156 μ155 => ?_)
      refine sm_icmp_eq (pc := 770) (tgt := 1462) dL_law_770 (by decide) ?_ ?_
      · exact p_L_law_1462 G l d hd0 N r_18 H_18 x3 μ155
      · refine sm_iconst (pc := 773) dL_law_773 (v := 0) (by decide) ?_
        exact sm_zret (pc := 774) dL_law_774 rfl
    refine sm_ite (fun e157 => ?_) (fun e157 => ?_)
    · refine sm_tsi (pc := 33) (c1 := 17) (off := 742) (tgt := 775) e157 dL_law_33 (by decide) (by decide) (by decide) (by decide) ?_
      refine sm_aload_n (pc := 775) dL_law_775 rfl 1 rfl ?_
      refine sm_callVi (pc := 776) (As := []) (rest := []) dL_law_776 (c_X9_free G l N μ) (by omega) wl_L_85 vm_X9_free rfl rfl (Nat.le_of_ble_eq_true rfl) (fun y159 μ158 => ?_)
      refine sm_aload_n (pc := 779) dL_law_779 rfl 2 rfl ?_
      refine sm_callVi (pc := 780) (As := []) (rest := [.int y159]) dL_law_780 (c_X10_free G l N μ158) (by omega) wl_L_88 vm_X10_free rfl rfl (Nat.le_of_ble_eq_true rfl) (fun y161 μ160 => ?_)
      refine sm_icmp_eq (pc := 783) (tgt := 1462) dL_law_783 (by decide) ?_ ?_
      · exact p_L_law_1462 G l d hd0 N r_18 H_18 x3 μ160
      · refine sm_iconst (pc := 786) dL_law_786 (v := 0) (by decide) ?_
        exact sm_zret (pc := 787) dL_law_787 rfl
    refine sm_ite (fun e162 => ?_) (fun e162 => ?_)
    · refine sm_tsi (pc := 33) (c1 := 18) (off := 755) (tgt := 788) e162 dL_law_33 (by decide) (by decide) (by decide) (by decide) ?_
      refine sm_aload_n (pc := 788) dL_law_788 rfl 1 rfl ?_
      refine sm_aload_n (pc := 789) dL_law_789 rfl 0 rfl ?_
      refine sm_iload_n (pc := 790) dL_law_790 rfl 3 rfl ?_
      refine sm_iconst (pc := 791) dL_law_791 (v := 1) (by decide) ?_
      refine sm_iadd (pc := 792) dL_law_792 ?_
      refine sm_sald (pc := 793) dL_law_793 (fun j163 hj163 => ?_)
      refine sm_aload_n (pc := 794) dL_law_794 rfl 0 rfl ?_
      refine sm_iload_n (pc := 795) dL_law_795 rfl 3 rfl ?_
      refine sm_iconst (pc := 796) dL_law_796 (v := 2) (by decide) ?_
      refine sm_iadd (pc := 797) dL_law_797 ?_
      refine sm_sald (pc := 798) dL_law_798 (fun j164 hj164 => ?_)
      refine sm_aload_n (pc := 799) dL_law_799 rfl 0 rfl ?_
      refine sm_iload_n (pc := 800) dL_law_800 rfl 3 rfl ?_
      refine sm_iconst (pc := 801) dL_law_801 (v := 3) (by decide) ?_
      refine sm_iadd (pc := 802) dL_law_802 ?_
      refine sm_sald (pc := 803) dL_law_803 (fun j165 hj165 => ?_)
      refine sm_callVi (pc := 804) (As := [.int (am_xs G j163), .int (am_xs G j164), .int (am_xs G j165)]) (rest := []) dL_law_804 (c_X9_black G l N (am_xs G j163) (am_xs G j164) (am_xs G j165) μ) (by omega) wl_L_89 vm_X9_black rfl rfl (Nat.le_of_ble_eq_true rfl) (fun y167 μ166 => ?_)
      refine sm_aload_n (pc := 807) dL_law_807 rfl 2 rfl ?_
      refine sm_aload_n (pc := 808) dL_law_808 rfl 0 rfl ?_
      refine sm_iload_n (pc := 809) dL_law_809 rfl 3 rfl ?_
      refine sm_iconst (pc := 810) dL_law_810 (v := 1) (by decide) ?_
      refine sm_iadd (pc := 811) dL_law_811 ?_
      refine sm_sald (pc := 812) dL_law_812 (fun j168 hj168 => ?_)
      refine sm_aload_n (pc := 813) dL_law_813 rfl 0 rfl ?_
      refine sm_iload_n (pc := 814) dL_law_814 rfl 3 rfl ?_
      refine sm_iconst (pc := 815) dL_law_815 (v := 2) (by decide) ?_
      refine sm_iadd (pc := 816) dL_law_816 ?_
      refine sm_sald (pc := 817) dL_law_817 (fun j169 hj169 => ?_)
      refine sm_aload_n (pc := 818) dL_law_818 rfl 0 rfl ?_
      refine sm_iload_n (pc := 819) dL_law_819 rfl 3 rfl ?_
      refine sm_iconst (pc := 820) dL_law_820 (v := 3) (by decide) ?_
      refine sm_iadd (pc := 821) dL_law_821 ?_
      refine sm_sald (pc := 822) dL_law_822 (fun j170 hj170 => ?_)
      refine sm_callVi (pc := 823) (As := [.int (am_xs G j168), .int (am_xs G j169), .int (am_xs G j170)]) (rest := [.int y167]) dL_law_823 (c_X10_black G l N (am_xs G j168) (am_xs G j169) (am_xs G j170) μ166) (by omega) wl_L_92 vm_X10_black rfl rfl (Nat.le_of_ble_eq_true rfl) (fun y172 μ171 => ?_)
      refine sm_icmp_eq (pc := 826) (tgt := 1462) dL_law_826 (by decide) ?_ ?_
      · exact p_L_law_1462 G l d hd0 N r_18 H_18 x3 μ171
      · refine sm_iconst (pc := 829) dL_law_829 (v := 0) (by decide) ?_
        exact sm_zret (pc := 830) dL_law_830 rfl
    refine sm_ite (fun e173 => ?_) (fun e173 => ?_)
    · refine sm_tsi (pc := 33) (c1 := 19) (off := 798) (tgt := 831) e173 dL_law_33 (by decide) (by decide) (by decide) (by decide) ?_
      refine sm_aload_n (pc := 831) dL_law_831 rfl 1 rfl ?_
      refine sm_aload_n (pc := 832) dL_law_832 rfl 0 rfl ?_
      refine sm_iload_n (pc := 833) dL_law_833 rfl 3 rfl ?_
      refine sm_iconst (pc := 834) dL_law_834 (v := 1) (by decide) ?_
      refine sm_iadd (pc := 835) dL_law_835 ?_
      refine sm_sald (pc := 836) dL_law_836 (fun j174 hj174 => ?_)
      refine sm_aload_n (pc := 837) dL_law_837 rfl 0 rfl ?_
      refine sm_iload_n (pc := 838) dL_law_838 rfl 3 rfl ?_
      refine sm_iconst (pc := 839) dL_law_839 (v := 2) (by decide) ?_
      refine sm_iadd (pc := 840) dL_law_840 ?_
      refine sm_sald (pc := 841) dL_law_841 (fun j175 hj175 => ?_)
      refine sm_callVi (pc := 842) (As := [.int (am_xs G j174), .int (am_xs G j175)]) (rest := []) dL_law_842 (c_X9_beside G l N (am_xs G j174) (am_xs G j175) μ) (by omega) wl_L_93 vm_X9_beside rfl rfl (Nat.le_of_ble_eq_true rfl) (fun y177 μ176 => ?_)
      refine sm_aload_n (pc := 845) dL_law_845 rfl 2 rfl ?_
      refine sm_aload_n (pc := 846) dL_law_846 rfl 0 rfl ?_
      refine sm_iload_n (pc := 847) dL_law_847 rfl 3 rfl ?_
      refine sm_iconst (pc := 848) dL_law_848 (v := 1) (by decide) ?_
      refine sm_iadd (pc := 849) dL_law_849 ?_
      refine sm_sald (pc := 850) dL_law_850 (fun j178 hj178 => ?_)
      refine sm_aload_n (pc := 851) dL_law_851 rfl 0 rfl ?_
      refine sm_iload_n (pc := 852) dL_law_852 rfl 3 rfl ?_
      refine sm_iconst (pc := 853) dL_law_853 (v := 2) (by decide) ?_
      refine sm_iadd (pc := 854) dL_law_854 ?_
      refine sm_sald (pc := 855) dL_law_855 (fun j179 hj179 => ?_)
      refine sm_callVi (pc := 856) (As := [.int (am_xs G j178), .int (am_xs G j179)]) (rest := [.int y177]) dL_law_856 (c_X10_beside G l N (am_xs G j178) (am_xs G j179) μ176) (by omega) wl_L_96 vm_X10_beside rfl rfl (Nat.le_of_ble_eq_true rfl) (fun y181 μ180 => ?_)
      refine sm_icmp_eq (pc := 859) (tgt := 1462) dL_law_859 (by decide) ?_ ?_
      · exact p_L_law_1462 G l d hd0 N r_18 H_18 x3 μ180
      · refine sm_iconst (pc := 862) dL_law_862 (v := 0) (by decide) ?_
        exact sm_zret (pc := 863) dL_law_863 rfl
    refine sm_ite (fun e182 => ?_) (fun e182 => ?_)
    · refine sm_tsi (pc := 33) (c1 := 20) (off := 831) (tgt := 864) e182 dL_law_33 (by decide) (by decide) (by decide) (by decide) ?_
      refine sm_aload_n (pc := 864) dL_law_864 rfl 1 rfl ?_
      refine sm_aload_n (pc := 865) dL_law_865 rfl 0 rfl ?_
      refine sm_iload_n (pc := 866) dL_law_866 rfl 3 rfl ?_
      refine sm_iconst (pc := 867) dL_law_867 (v := 1) (by decide) ?_
      refine sm_iadd (pc := 868) dL_law_868 ?_
      refine sm_sald (pc := 869) dL_law_869 (fun j183 hj183 => ?_)
      refine sm_callVi (pc := 870) (As := [.int (am_xs G j183)]) (rest := []) dL_law_870 (c_X9_loses G l N (am_xs G j183) μ) (by omega) wl_L_97 vm_X9_loses rfl rfl (Nat.le_of_ble_eq_true rfl) (fun y185 μ184 => ?_)
      refine sm_aload_n (pc := 873) dL_law_873 rfl 2 rfl ?_
      refine sm_aload_n (pc := 874) dL_law_874 rfl 0 rfl ?_
      refine sm_iload_n (pc := 875) dL_law_875 rfl 3 rfl ?_
      refine sm_iconst (pc := 876) dL_law_876 (v := 1) (by decide) ?_
      refine sm_iadd (pc := 877) dL_law_877 ?_
      refine sm_sald (pc := 878) dL_law_878 (fun j186 hj186 => ?_)
      refine sm_callVi (pc := 879) (As := [.int (am_xs G j186)]) (rest := [.int y185]) dL_law_879 (c_X10_loses G l N (am_xs G j186) μ184) (by omega) wl_L_100 vm_X10_loses rfl rfl (Nat.le_of_ble_eq_true rfl) (fun y188 μ187 => ?_)
      refine sm_icmp_eq (pc := 882) (tgt := 1462) dL_law_882 (by decide) ?_ ?_
      · exact p_L_law_1462 G l d hd0 N r_18 H_18 x3 μ187
      · refine sm_iconst (pc := 885) dL_law_885 (v := 0) (by decide) ?_
        exact sm_zret (pc := 886) dL_law_886 rfl
    refine sm_ite (fun e189 => ?_) (fun e189 => ?_)
    · refine sm_tsi (pc := 33) (c1 := 21) (off := 854) (tgt := 887) e189 dL_law_33 (by decide) (by decide) (by decide) (by decide) ?_
      refine sm_aload_n (pc := 887) dL_law_887 rfl 1 rfl ?_
      refine sm_callVi (pc := 888) (As := []) (rest := []) dL_law_888 (c_X9_fewest G l N μ) (by omega) wl_L_101 vm_X9_fewest rfl rfl (Nat.le_of_ble_eq_true rfl) (fun y191 μ190 => ?_)
      refine sm_aload_n (pc := 891) dL_law_891 rfl 2 rfl ?_
      refine sm_callVi (pc := 892) (As := []) (rest := [.int y191]) dL_law_892 (c_X10_fewest G l N μ190) (by omega) wl_L_104 vm_X10_fewest rfl rfl (Nat.le_of_ble_eq_true rfl) (fun y193 μ192 => ?_)
      refine sm_icmp_eq (pc := 895) (tgt := 1462) dL_law_895 (by decide) ?_ ?_
      · exact p_L_law_1462 G l d hd0 N r_18 H_18 x3 μ192
      · refine sm_iconst (pc := 898) dL_law_898 (v := 0) (by decide) ?_
        exact sm_zret (pc := 899) dL_law_899 rfl
    refine sm_ite (fun e194 => ?_) (fun e194 => ?_)
    · refine sm_tsi (pc := 33) (c1 := 22) (off := 867) (tgt := 900) e194 dL_law_33 (by decide) (by decide) (by decide) (by decide) ?_
      refine sm_aload_n (pc := 900) dL_law_900 rfl 1 rfl ?_
      refine sm_aload_n (pc := 901) dL_law_901 rfl 0 rfl ?_
      refine sm_iload_n (pc := 902) dL_law_902 rfl 3 rfl ?_
      refine sm_iconst (pc := 903) dL_law_903 (v := 1) (by decide) ?_
      refine sm_iadd (pc := 904) dL_law_904 ?_
      refine sm_sald (pc := 905) dL_law_905 (fun j195 hj195 => ?_)
      refine sm_callVi (pc := 906) (As := [.int (am_xs G j195)]) (rest := []) dL_law_906 (c_X9_least G l N (am_xs G j195) μ) (by omega) wl_L_105 vm_X9_least rfl rfl (Nat.le_of_ble_eq_true rfl) (fun y197 μ196 => ?_)
      refine sm_aload_n (pc := 909) dL_law_909 rfl 2 rfl ?_
      refine sm_aload_n (pc := 910) dL_law_910 rfl 0 rfl ?_
      refine sm_iload_n (pc := 911) dL_law_911 rfl 3 rfl ?_
      refine sm_iconst (pc := 912) dL_law_912 (v := 1) (by decide) ?_
      refine sm_iadd (pc := 913) dL_law_913 ?_
      refine sm_sald (pc := 914) dL_law_914 (fun j198 hj198 => ?_)
      refine sm_callVi (pc := 915) (As := [.int (am_xs G j198)]) (rest := [.int y197]) dL_law_915 (c_X10_least G l N (am_xs G j198) μ196) (by omega) wl_L_108 vm_X10_least rfl rfl (Nat.le_of_ble_eq_true rfl) (fun y200 μ199 => ?_)
      refine sm_icmp_eq (pc := 918) (tgt := 1462) dL_law_918 (by decide) ?_ ?_
      · exact p_L_law_1462 G l d hd0 N r_18 H_18 x3 μ199
      · refine sm_iconst (pc := 921) dL_law_921 (v := 0) (by decide) ?_
        exact sm_zret (pc := 922) dL_law_922 rfl
    refine sm_ite (fun e201 => ?_) (fun e201 => ?_)
    · refine sm_tsi (pc := 33) (c1 := 23) (off := 890) (tgt := 923) e201 dL_law_33 (by decide) (by decide) (by decide) (by decide) ?_
      refine sm_aload_n (pc := 923) dL_law_923 rfl 1 rfl ?_
      refine sm_aload_n (pc := 924) dL_law_924 rfl 0 rfl ?_
      refine sm_iload_n (pc := 925) dL_law_925 rfl 3 rfl ?_
      refine sm_iconst (pc := 926) dL_law_926 (v := 1) (by decide) ?_
      refine sm_iadd (pc := 927) dL_law_927 ?_
      refine sm_sald (pc := 928) dL_law_928 (fun j202 hj202 => ?_)
      refine sm_aload_n (pc := 929) dL_law_929 rfl 0 rfl ?_
      refine sm_iload_n (pc := 930) dL_law_930 rfl 3 rfl ?_
      refine sm_iconst (pc := 931) dL_law_931 (v := 2) (by decide) ?_
      refine sm_iadd (pc := 932) dL_law_932 ?_
      refine sm_sald (pc := 933) dL_law_933 (fun j203 hj203 => ?_)
      refine sm_aload_n (pc := 934) dL_law_934 rfl 0 rfl ?_
      refine sm_iload_n (pc := 935) dL_law_935 rfl 3 rfl ?_
      refine sm_iconst (pc := 936) dL_law_936 (v := 3) (by decide) ?_
      refine sm_iadd (pc := 937) dL_law_937 ?_
      refine sm_sald (pc := 938) dL_law_938 (fun j204 hj204 => ?_)
      refine sm_aload_n (pc := 939) dL_law_939 rfl 0 rfl ?_
      refine sm_iload_n (pc := 940) dL_law_940 rfl 3 rfl ?_
      refine sm_iconst (pc := 941) dL_law_941 (v := 4) (by decide) ?_
      refine sm_iadd (pc := 942) dL_law_942 ?_
      refine sm_sald (pc := 943) dL_law_943 (fun j205 hj205 => ?_)
      refine sm_callVi (pc := 944) (As := [.int (am_xs G j202), .int (am_xs G j203), .int (am_xs G j204), .int (am_xs G j205)]) (rest := []) dL_law_944 (c_X9_months G l N (am_xs G j202) (am_xs G j203) (am_xs G j204) (am_xs G j205) μ) (by omega) wl_L_109 vm_X9_months rfl rfl (Nat.le_of_ble_eq_true rfl) (fun y207 μ206 => ?_)
      refine sm_aload_n (pc := 947) dL_law_947 rfl 2 rfl ?_
      refine sm_aload_n (pc := 948) dL_law_948 rfl 0 rfl ?_
      refine sm_iload_n (pc := 949) dL_law_949 rfl 3 rfl ?_
      refine sm_iconst (pc := 950) dL_law_950 (v := 1) (by decide) ?_
      refine sm_iadd (pc := 951) dL_law_951 ?_
      refine sm_sald (pc := 952) dL_law_952 (fun j208 hj208 => ?_)
      refine sm_aload_n (pc := 953) dL_law_953 rfl 0 rfl ?_
      refine sm_iload_n (pc := 954) dL_law_954 rfl 3 rfl ?_
      refine sm_iconst (pc := 955) dL_law_955 (v := 2) (by decide) ?_
      refine sm_iadd (pc := 956) dL_law_956 ?_
      refine sm_sald (pc := 957) dL_law_957 (fun j209 hj209 => ?_)
      refine sm_aload_n (pc := 958) dL_law_958 rfl 0 rfl ?_
      refine sm_iload_n (pc := 959) dL_law_959 rfl 3 rfl ?_
      refine sm_iconst (pc := 960) dL_law_960 (v := 3) (by decide) ?_
      refine sm_iadd (pc := 961) dL_law_961 ?_
      refine sm_sald (pc := 962) dL_law_962 (fun j210 hj210 => ?_)
      refine sm_aload_n (pc := 963) dL_law_963 rfl 0 rfl ?_
      refine sm_iload_n (pc := 964) dL_law_964 rfl 3 rfl ?_
      refine sm_iconst (pc := 965) dL_law_965 (v := 4) (by decide) ?_
      refine sm_iadd (pc := 966) dL_law_966 ?_
      refine sm_sald (pc := 967) dL_law_967 (fun j211 hj211 => ?_)
      refine sm_callVi (pc := 968) (As := [.int (am_xs G j208), .int (am_xs G j209), .int (am_xs G j210), .int (am_xs G j211)]) (rest := [.int y207]) dL_law_968 (c_X10_months G l N (am_xs G j208) (am_xs G j209) (am_xs G j210) (am_xs G j211) μ206) (by omega) wl_L_113 vm_X10_months rfl rfl (Nat.le_of_ble_eq_true rfl) (fun y213 μ212 => ?_)
      refine sm_icmp_eq (pc := 971) (tgt := 1462) dL_law_971 (by decide) ?_ ?_
      · exact p_L_law_1462 G l d hd0 N r_18 H_18 x3 μ212
      · refine sm_iconst (pc := 974) dL_law_974 (v := 0) (by decide) ?_
        exact sm_zret (pc := 975) dL_law_975 rfl
    refine sm_ite (fun e214 => ?_) (fun e214 => ?_)
    · refine sm_tsi (pc := 33) (c1 := 24) (off := 943) (tgt := 976) e214 dL_law_33 (by decide) (by decide) (by decide) (by decide) ?_
      refine sm_aload_n (pc := 976) dL_law_976 rfl 1 rfl ?_
      refine sm_aload_n (pc := 977) dL_law_977 rfl 0 rfl ?_
      refine sm_iload_n (pc := 978) dL_law_978 rfl 3 rfl ?_
      refine sm_iconst (pc := 979) dL_law_979 (v := 1) (by decide) ?_
      refine sm_iadd (pc := 980) dL_law_980 ?_
      refine sm_sald (pc := 981) dL_law_981 (fun j215 hj215 => ?_)
      refine sm_callVi (pc := 982) (As := [.int (am_xs G j215)]) (rest := []) dL_law_982 (c_X9_foresight G l N (am_xs G j215) μ) (by omega) wl_L_114 vm_X9_foresight rfl rfl (Nat.le_of_ble_eq_true rfl) (fun y217 μ216 => ?_)
      refine sm_aload_n (pc := 985) dL_law_985 rfl 2 rfl ?_
      refine sm_aload_n (pc := 986) dL_law_986 rfl 0 rfl ?_
      refine sm_iload_n (pc := 987) dL_law_987 rfl 3 rfl ?_
      refine sm_iconst (pc := 988) dL_law_988 (v := 1) (by decide) ?_
      refine sm_iadd (pc := 989) dL_law_989 ?_
      refine sm_sald (pc := 990) dL_law_990 (fun j218 hj218 => ?_)
      refine sm_callVi (pc := 991) (As := [.int (am_xs G j218)]) (rest := [.int y217]) dL_law_991 (c_X10_foresight G l N (am_xs G j218) μ216) (by omega) wl_L_117 vm_X10_foresight rfl rfl (Nat.le_of_ble_eq_true rfl) (fun y220 μ219 => ?_)
      refine sm_icmp_eq (pc := 994) (tgt := 1462) dL_law_994 (by decide) ?_ ?_
      · exact p_L_law_1462 G l d hd0 N r_18 H_18 x3 μ219
      · refine sm_iconst (pc := 997) dL_law_997 (v := 0) (by decide) ?_
        exact sm_zret (pc := 998) dL_law_998 rfl
    refine sm_ite (fun e221 => ?_) (fun e221 => ?_)
    · refine sm_tsi (pc := 33) (c1 := 25) (off := 966) (tgt := 999) e221 dL_law_33 (by decide) (by decide) (by decide) (by decide) ?_
      refine sm_aload_n (pc := 999) dL_law_999 rfl 1 rfl ?_
      refine sm_aload_n (pc := 1000) dL_law_1000 rfl 0 rfl ?_
      refine sm_iload_n (pc := 1001) dL_law_1001 rfl 3 rfl ?_
      refine sm_iconst (pc := 1002) dL_law_1002 (v := 1) (by decide) ?_
      refine sm_iadd (pc := 1003) dL_law_1003 ?_
      refine sm_sald (pc := 1004) dL_law_1004 (fun j222 hj222 => ?_)
      refine sm_callVi (pc := 1005) (As := [.int (am_xs G j222)]) (rest := []) dL_law_1005 (c_X9_cheap G l N (am_xs G j222) μ) (by omega) wl_L_118 vm_X9_cheap rfl rfl (Nat.le_of_ble_eq_true rfl) (fun y224 μ223 => ?_)
      refine sm_aload_n (pc := 1008) dL_law_1008 rfl 2 rfl ?_
      refine sm_aload_n (pc := 1009) dL_law_1009 rfl 0 rfl ?_
      refine sm_iload_n (pc := 1010) dL_law_1010 rfl 3 rfl ?_
      refine sm_iconst (pc := 1011) dL_law_1011 (v := 1) (by decide) ?_
      refine sm_iadd (pc := 1012) dL_law_1012 ?_
      refine sm_sald (pc := 1013) dL_law_1013 (fun j225 hj225 => ?_)
      refine sm_callVi (pc := 1014) (As := [.int (am_xs G j225)]) (rest := [.int y224]) dL_law_1014 (c_X10_cheap G l N (am_xs G j225) μ223) (by omega) wl_L_121 vm_X10_cheap rfl rfl (Nat.le_of_ble_eq_true rfl) (fun y227 μ226 => ?_)
      refine sm_icmp_eq (pc := 1017) (tgt := 1462) dL_law_1017 (by decide) ?_ ?_
      · exact p_L_law_1462 G l d hd0 N r_18 H_18 x3 μ226
      · refine sm_iconst (pc := 1020) dL_law_1020 (v := 0) (by decide) ?_
        exact sm_zret (pc := 1021) dL_law_1021 rfl
    refine sm_ite (fun e228 => ?_) (fun e228 => ?_)
    · refine sm_tsi (pc := 33) (c1 := 26) (off := 989) (tgt := 1022) e228 dL_law_33 (by decide) (by decide) (by decide) (by decide) ?_
      refine sm_aload_n (pc := 1022) dL_law_1022 rfl 1 rfl ?_
      refine sm_aload_n (pc := 1023) dL_law_1023 rfl 0 rfl ?_
      refine sm_iload_n (pc := 1024) dL_law_1024 rfl 3 rfl ?_
      refine sm_iconst (pc := 1025) dL_law_1025 (v := 1) (by decide) ?_
      refine sm_iadd (pc := 1026) dL_law_1026 ?_
      refine sm_sald (pc := 1027) dL_law_1027 (fun j229 hj229 => ?_)
      refine sm_callVi (pc := 1028) (As := [.int (am_xs G j229)]) (rest := []) dL_law_1028 (c_X9_wrong G l N (am_xs G j229) μ) (by omega) wl_L_122 vm_X9_wrong rfl rfl (Nat.le_of_ble_eq_true rfl) (fun y231 μ230 => ?_)
      refine sm_aload_n (pc := 1031) dL_law_1031 rfl 2 rfl ?_
      refine sm_aload_n (pc := 1032) dL_law_1032 rfl 0 rfl ?_
      refine sm_iload_n (pc := 1033) dL_law_1033 rfl 3 rfl ?_
      refine sm_iconst (pc := 1034) dL_law_1034 (v := 1) (by decide) ?_
      refine sm_iadd (pc := 1035) dL_law_1035 ?_
      refine sm_sald (pc := 1036) dL_law_1036 (fun j232 hj232 => ?_)
      refine sm_callVi (pc := 1037) (As := [.int (am_xs G j232)]) (rest := [.int y231]) dL_law_1037 (c_X10_wrong G l N (am_xs G j232) μ230) (by omega) wl_L_125 vm_X10_wrong rfl rfl (Nat.le_of_ble_eq_true rfl) (fun y234 μ233 => ?_)
      refine sm_icmp_eq (pc := 1040) (tgt := 1462) dL_law_1040 (by decide) ?_ ?_
      · exact p_L_law_1462 G l d hd0 N r_18 H_18 x3 μ233
      · refine sm_iconst (pc := 1043) dL_law_1043 (v := 0) (by decide) ?_
        exact sm_zret (pc := 1044) dL_law_1044 rfl
    refine sm_ite (fun e235 => ?_) (fun e235 => ?_)
    · refine sm_tsi (pc := 33) (c1 := 27) (off := 1012) (tgt := 1045) e235 dL_law_33 (by decide) (by decide) (by decide) (by decide) ?_
      refine sm_aload_n (pc := 1045) dL_law_1045 rfl 1 rfl ?_
      refine sm_callVi (pc := 1046) (As := []) (rest := []) dL_law_1046 (c_X9_undo G l N μ) (by omega) wl_L_126 vm_X9_undo rfl rfl (Nat.le_of_ble_eq_true rfl) (fun y237 μ236 => ?_)
      refine sm_aload_n (pc := 1049) dL_law_1049 rfl 2 rfl ?_
      refine sm_callVi (pc := 1050) (As := []) (rest := [.int y237]) dL_law_1050 (c_X10_undo G l N μ236) (by omega) wl_L_129 vm_X10_undo rfl rfl (Nat.le_of_ble_eq_true rfl) (fun y239 μ238 => ?_)
      refine sm_icmp_eq (pc := 1053) (tgt := 1462) dL_law_1053 (by decide) ?_ ?_
      · exact p_L_law_1462 G l d hd0 N r_18 H_18 x3 μ238
      · refine sm_iconst (pc := 1056) dL_law_1056 (v := 0) (by decide) ?_
        exact sm_zret (pc := 1057) dL_law_1057 rfl
    refine sm_ite (fun e240 => ?_) (fun e240 => ?_)
    · refine sm_tsi (pc := 33) (c1 := 28) (off := 1025) (tgt := 1058) e240 dL_law_33 (by decide) (by decide) (by decide) (by decide) ?_
      refine sm_aload_n (pc := 1058) dL_law_1058 rfl 1 rfl ?_
      refine sm_callVi (pc := 1059) (As := []) (rest := []) dL_law_1059 (c_X9_redo G l N μ) (by omega) wl_L_130 vm_X9_redo rfl rfl (Nat.le_of_ble_eq_true rfl) (fun y242 μ241 => ?_)
      refine sm_aload_n (pc := 1062) dL_law_1062 rfl 2 rfl ?_
      refine sm_callVi (pc := 1063) (As := []) (rest := [.int y242]) dL_law_1063 (c_X10_redo G l N μ241) (by omega) wl_L_133 vm_X10_redo rfl rfl (Nat.le_of_ble_eq_true rfl) (fun y244 μ243 => ?_)
      refine sm_icmp_eq (pc := 1066) (tgt := 1462) dL_law_1066 (by decide) ?_ ?_
      · exact p_L_law_1462 G l d hd0 N r_18 H_18 x3 μ243
      · refine sm_iconst (pc := 1069) dL_law_1069 (v := 0) (by decide) ?_
        exact sm_zret (pc := 1070) dL_law_1070 rfl
    refine sm_ite (fun e245 => ?_) (fun e245 => ?_)
    · refine sm_tsi (pc := 33) (c1 := 29) (off := 1038) (tgt := 1071) e245 dL_law_33 (by decide) (by decide) (by decide) (by decide) ?_
      refine sm_aload_n (pc := 1071) dL_law_1071 rfl 1 rfl ?_
      refine sm_aload_n (pc := 1072) dL_law_1072 rfl 0 rfl ?_
      refine sm_iload_n (pc := 1073) dL_law_1073 rfl 3 rfl ?_
      refine sm_iconst (pc := 1074) dL_law_1074 (v := 1) (by decide) ?_
      refine sm_iadd (pc := 1075) dL_law_1075 ?_
      refine sm_sald (pc := 1076) dL_law_1076 (fun j246 hj246 => ?_)
      refine sm_callVi (pc := 1077) (As := [.int (am_xs G j246)]) (rest := []) dL_law_1077 (c_X9_body G l N (am_xs G j246) μ) (by omega) wl_L_134 vm_X9_body rfl rfl (Nat.le_of_ble_eq_true rfl) (fun y248 μ247 => ?_)
      refine sm_aload_n (pc := 1080) dL_law_1080 rfl 2 rfl ?_
      refine sm_aload_n (pc := 1081) dL_law_1081 rfl 0 rfl ?_
      refine sm_iload_n (pc := 1082) dL_law_1082 rfl 3 rfl ?_
      refine sm_iconst (pc := 1083) dL_law_1083 (v := 1) (by decide) ?_
      refine sm_iadd (pc := 1084) dL_law_1084 ?_
      refine sm_sald (pc := 1085) dL_law_1085 (fun j249 hj249 => ?_)
      refine sm_callVi (pc := 1086) (As := [.int (am_xs G j249)]) (rest := [.int y248]) dL_law_1086 (c_X10_body G l N (am_xs G j249) μ247) (by omega) wl_L_137 vm_X10_body rfl rfl (Nat.le_of_ble_eq_true rfl) (fun y251 μ250 => ?_)
      refine sm_icmp_eq (pc := 1089) (tgt := 1462) dL_law_1089 (by decide) ?_ ?_
      · exact p_L_law_1462 G l d hd0 N r_18 H_18 x3 μ250
      · refine sm_iconst (pc := 1092) dL_law_1092 (v := 0) (by decide) ?_
        exact sm_zret (pc := 1093) dL_law_1093 rfl
    refine sm_ite (fun e252 => ?_) (fun e252 => ?_)
    · refine sm_tsi (pc := 33) (c1 := 30) (off := 1061) (tgt := 1094) e252 dL_law_33 (by decide) (by decide) (by decide) (by decide) ?_
      refine sm_aload_n (pc := 1094) dL_law_1094 rfl 1 rfl ?_
      refine sm_aload_n (pc := 1095) dL_law_1095 rfl 0 rfl ?_
      refine sm_iload_n (pc := 1096) dL_law_1096 rfl 3 rfl ?_
      refine sm_iconst (pc := 1097) dL_law_1097 (v := 1) (by decide) ?_
      refine sm_iadd (pc := 1098) dL_law_1098 ?_
      refine sm_sald (pc := 1099) dL_law_1099 (fun j253 hj253 => ?_)
      refine sm_aload_n (pc := 1100) dL_law_1100 rfl 0 rfl ?_
      refine sm_iload_n (pc := 1101) dL_law_1101 rfl 3 rfl ?_
      refine sm_iconst (pc := 1102) dL_law_1102 (v := 2) (by decide) ?_
      refine sm_iadd (pc := 1103) dL_law_1103 ?_
      refine sm_sald (pc := 1104) dL_law_1104 (fun j254 hj254 => ?_)
      refine sm_aload_n (pc := 1105) dL_law_1105 rfl 0 rfl ?_
      refine sm_iload_n (pc := 1106) dL_law_1106 rfl 3 rfl ?_
      refine sm_iconst (pc := 1107) dL_law_1107 (v := 3) (by decide) ?_
      refine sm_iadd (pc := 1108) dL_law_1108 ?_
      refine sm_sald (pc := 1109) dL_law_1109 (fun j255 hj255 => ?_)
      refine sm_callVi (pc := 1110) (As := [.int (am_xs G j253), .int (am_xs G j254), .int (am_xs G j255)]) (rest := []) dL_law_1110 (c_X9_act G l N (am_xs G j253) (am_xs G j254) (am_xs G j255) μ) (by omega) wl_L_138 vm_X9_act rfl rfl (Nat.le_of_ble_eq_true rfl) (fun y257 μ256 => ?_)
      refine sm_aload_n (pc := 1113) dL_law_1113 rfl 2 rfl ?_
      refine sm_aload_n (pc := 1114) dL_law_1114 rfl 0 rfl ?_
      refine sm_iload_n (pc := 1115) dL_law_1115 rfl 3 rfl ?_
      refine sm_iconst (pc := 1116) dL_law_1116 (v := 1) (by decide) ?_
      refine sm_iadd (pc := 1117) dL_law_1117 ?_
      refine sm_sald (pc := 1118) dL_law_1118 (fun j258 hj258 => ?_)
      refine sm_aload_n (pc := 1119) dL_law_1119 rfl 0 rfl ?_
      refine sm_iload_n (pc := 1120) dL_law_1120 rfl 3 rfl ?_
      refine sm_iconst (pc := 1121) dL_law_1121 (v := 2) (by decide) ?_
      refine sm_iadd (pc := 1122) dL_law_1122 ?_
      refine sm_sald (pc := 1123) dL_law_1123 (fun j259 hj259 => ?_)
      refine sm_aload_n (pc := 1124) dL_law_1124 rfl 0 rfl ?_
      refine sm_iload_n (pc := 1125) dL_law_1125 rfl 3 rfl ?_
      refine sm_iconst (pc := 1126) dL_law_1126 (v := 3) (by decide) ?_
      refine sm_iadd (pc := 1127) dL_law_1127 ?_
      refine sm_sald (pc := 1128) dL_law_1128 (fun j260 hj260 => ?_)
      refine sm_callVi (pc := 1129) (As := [.int (am_xs G j258), .int (am_xs G j259), .int (am_xs G j260)]) (rest := [.int y257]) dL_law_1129 (c_X10_act G l N (am_xs G j258) (am_xs G j259) (am_xs G j260) μ256) (by omega) wl_L_141 vm_X10_act rfl rfl (Nat.le_of_ble_eq_true rfl) (fun y262 μ261 => ?_)
      refine sm_icmp_eq (pc := 1132) (tgt := 1462) dL_law_1132 (by decide) ?_ ?_
      · exact p_L_law_1462 G l d hd0 N r_18 H_18 x3 μ261
      · refine sm_iconst (pc := 1135) dL_law_1135 (v := 0) (by decide) ?_
        exact sm_zret (pc := 1136) dL_law_1136 rfl
    refine sm_ite (fun e263 => ?_) (fun e263 => ?_)
    · refine sm_tsi (pc := 33) (c1 := 31) (off := 1104) (tgt := 1137) e263 dL_law_33 (by decide) (by decide) (by decide) (by decide) ?_
      refine sm_aload_n (pc := 1137) dL_law_1137 rfl 1 rfl ?_
      refine sm_aload_n (pc := 1138) dL_law_1138 rfl 0 rfl ?_
      refine sm_iload_n (pc := 1139) dL_law_1139 rfl 3 rfl ?_
      refine sm_iconst (pc := 1140) dL_law_1140 (v := 1) (by decide) ?_
      refine sm_iadd (pc := 1141) dL_law_1141 ?_
      refine sm_sald (pc := 1142) dL_law_1142 (fun j264 hj264 => ?_)
      refine sm_callVi (pc := 1143) (As := [.int (am_xs G j264)]) (rest := []) dL_law_1143 (c_X9_trace G l N (am_xs G j264) μ) (by omega) wl_L_142 vm_X9_trace rfl rfl (Nat.le_of_ble_eq_true rfl) (fun y266 μ265 => ?_)
      refine sm_aload_n (pc := 1146) dL_law_1146 rfl 2 rfl ?_
      refine sm_aload_n (pc := 1147) dL_law_1147 rfl 0 rfl ?_
      refine sm_iload_n (pc := 1148) dL_law_1148 rfl 3 rfl ?_
      refine sm_iconst (pc := 1149) dL_law_1149 (v := 1) (by decide) ?_
      refine sm_iadd (pc := 1150) dL_law_1150 ?_
      refine sm_sald (pc := 1151) dL_law_1151 (fun j267 hj267 => ?_)
      refine sm_callVi (pc := 1152) (As := [.int (am_xs G j267)]) (rest := [.int y266]) dL_law_1152 (c_X10_trace G l N (am_xs G j267) μ265) (by omega) wl_L_145 vm_X10_trace rfl rfl (Nat.le_of_ble_eq_true rfl) (fun y269 μ268 => ?_)
      refine sm_icmp_eq (pc := 1155) (tgt := 1462) dL_law_1155 (by decide) ?_ ?_
      · exact p_L_law_1462 G l d hd0 N r_18 H_18 x3 μ268
      · refine sm_iconst (pc := 1158) dL_law_1158 (v := 0) (by decide) ?_
        exact sm_zret (pc := 1159) dL_law_1159 rfl
    refine sm_ite (fun e270 => ?_) (fun e270 => ?_)
    · refine sm_tsi (pc := 33) (c1 := 32) (off := 1127) (tgt := 1160) e270 dL_law_33 (by decide) (by decide) (by decide) (by decide) ?_
      refine sm_aload_n (pc := 1160) dL_law_1160 rfl 1 rfl ?_
      refine sm_aload_n (pc := 1161) dL_law_1161 rfl 0 rfl ?_
      refine sm_iload_n (pc := 1162) dL_law_1162 rfl 3 rfl ?_
      refine sm_iconst (pc := 1163) dL_law_1163 (v := 1) (by decide) ?_
      refine sm_iadd (pc := 1164) dL_law_1164 ?_
      refine sm_sald (pc := 1165) dL_law_1165 (fun j271 hj271 => ?_)
      refine sm_aload_n (pc := 1166) dL_law_1166 rfl 0 rfl ?_
      refine sm_iload_n (pc := 1167) dL_law_1167 rfl 3 rfl ?_
      refine sm_iconst (pc := 1168) dL_law_1168 (v := 2) (by decide) ?_
      refine sm_iadd (pc := 1169) dL_law_1169 ?_
      refine sm_sald (pc := 1170) dL_law_1170 (fun j272 hj272 => ?_)
      refine sm_callVi (pc := 1171) (As := [.int (am_xs G j271), .int (am_xs G j272)]) (rest := []) dL_law_1171 (c_X9_keep G l N (am_xs G j271) (am_xs G j272) μ) (by omega) wl_L_146 vm_X9_keep rfl rfl (Nat.le_of_ble_eq_true rfl) (fun y274 μ273 => ?_)
      refine sm_aload_n (pc := 1174) dL_law_1174 rfl 2 rfl ?_
      refine sm_aload_n (pc := 1175) dL_law_1175 rfl 0 rfl ?_
      refine sm_iload_n (pc := 1176) dL_law_1176 rfl 3 rfl ?_
      refine sm_iconst (pc := 1177) dL_law_1177 (v := 1) (by decide) ?_
      refine sm_iadd (pc := 1178) dL_law_1178 ?_
      refine sm_sald (pc := 1179) dL_law_1179 (fun j275 hj275 => ?_)
      refine sm_aload_n (pc := 1180) dL_law_1180 rfl 0 rfl ?_
      refine sm_iload_n (pc := 1181) dL_law_1181 rfl 3 rfl ?_
      refine sm_iconst (pc := 1182) dL_law_1182 (v := 2) (by decide) ?_
      refine sm_iadd (pc := 1183) dL_law_1183 ?_
      refine sm_sald (pc := 1184) dL_law_1184 (fun j276 hj276 => ?_)
      refine sm_callVi (pc := 1185) (As := [.int (am_xs G j275), .int (am_xs G j276)]) (rest := [.int y274]) dL_law_1185 (c_X10_keep G l N (am_xs G j275) (am_xs G j276) μ273) (by omega) wl_L_149 vm_X10_keep rfl rfl (Nat.le_of_ble_eq_true rfl) (fun y278 μ277 => ?_)
      refine sm_icmp_eq (pc := 1188) (tgt := 1462) dL_law_1188 (by decide) ?_ ?_
      · exact p_L_law_1462 G l d hd0 N r_18 H_18 x3 μ277
      · refine sm_iconst (pc := 1191) dL_law_1191 (v := 0) (by decide) ?_
        exact sm_zret (pc := 1192) dL_law_1192 rfl
    refine sm_ite (fun e279 => ?_) (fun e279 => ?_)
    · refine sm_tsi (pc := 33) (c1 := 33) (off := 1160) (tgt := 1193) e279 dL_law_33 (by decide) (by decide) (by decide) (by decide) ?_
      refine sm_aload_n (pc := 1193) dL_law_1193 rfl 1 rfl ?_
      refine sm_aload_n (pc := 1194) dL_law_1194 rfl 0 rfl ?_
      refine sm_iload_n (pc := 1195) dL_law_1195 rfl 3 rfl ?_
      refine sm_iconst (pc := 1196) dL_law_1196 (v := 1) (by decide) ?_
      refine sm_iadd (pc := 1197) dL_law_1197 ?_
      refine sm_sald (pc := 1198) dL_law_1198 (fun j280 hj280 => ?_)
      refine sm_aload_n (pc := 1199) dL_law_1199 rfl 0 rfl ?_
      refine sm_iload_n (pc := 1200) dL_law_1200 rfl 3 rfl ?_
      refine sm_iconst (pc := 1201) dL_law_1201 (v := 2) (by decide) ?_
      refine sm_iadd (pc := 1202) dL_law_1202 ?_
      refine sm_sald (pc := 1203) dL_law_1203 (fun j281 hj281 => ?_)
      refine sm_aload_n (pc := 1204) dL_law_1204 rfl 0 rfl ?_
      refine sm_iload_n (pc := 1205) dL_law_1205 rfl 3 rfl ?_
      refine sm_iconst (pc := 1206) dL_law_1206 (v := 3) (by decide) ?_
      refine sm_iadd (pc := 1207) dL_law_1207 ?_
      refine sm_sald (pc := 1208) dL_law_1208 (fun j282 hj282 => ?_)
      refine sm_callVi (pc := 1209) (As := [.int (am_xs G j280), .int (am_xs G j281), .int (am_xs G j282)]) (rest := []) dL_law_1209 (c_X9_row G l N (am_xs G j280) (am_xs G j281) (am_xs G j282) μ) (by omega) wl_L_150 vm_X9_row rfl rfl (Nat.le_of_ble_eq_true rfl) (fun y284 μ283 => ?_)
      refine sm_aload_n (pc := 1212) dL_law_1212 rfl 2 rfl ?_
      refine sm_aload_n (pc := 1213) dL_law_1213 rfl 0 rfl ?_
      refine sm_iload_n (pc := 1214) dL_law_1214 rfl 3 rfl ?_
      refine sm_iconst (pc := 1215) dL_law_1215 (v := 1) (by decide) ?_
      refine sm_iadd (pc := 1216) dL_law_1216 ?_
      refine sm_sald (pc := 1217) dL_law_1217 (fun j285 hj285 => ?_)
      refine sm_aload_n (pc := 1218) dL_law_1218 rfl 0 rfl ?_
      refine sm_iload_n (pc := 1219) dL_law_1219 rfl 3 rfl ?_
      refine sm_iconst (pc := 1220) dL_law_1220 (v := 2) (by decide) ?_
      refine sm_iadd (pc := 1221) dL_law_1221 ?_
      refine sm_sald (pc := 1222) dL_law_1222 (fun j286 hj286 => ?_)
      refine sm_aload_n (pc := 1223) dL_law_1223 rfl 0 rfl ?_
      refine sm_iload_n (pc := 1224) dL_law_1224 rfl 3 rfl ?_
      refine sm_iconst (pc := 1225) dL_law_1225 (v := 3) (by decide) ?_
      refine sm_iadd (pc := 1226) dL_law_1226 ?_
      refine sm_sald (pc := 1227) dL_law_1227 (fun j287 hj287 => ?_)
      refine sm_callVi (pc := 1228) (As := [.int (am_xs G j285), .int (am_xs G j286), .int (am_xs G j287)]) (rest := [.int y284]) dL_law_1228 (c_X10_row G l N (am_xs G j285) (am_xs G j286) (am_xs G j287) μ283) (by omega) wl_L_153 vm_X10_row rfl rfl (Nat.le_of_ble_eq_true rfl) (fun y289 μ288 => ?_)
      refine sm_icmp_eq (pc := 1231) (tgt := 1462) dL_law_1231 (by decide) ?_ ?_
      · exact p_L_law_1462 G l d hd0 N r_18 H_18 x3 μ288
      · refine sm_iconst (pc := 1234) dL_law_1234 (v := 0) (by decide) ?_
        exact sm_zret (pc := 1235) dL_law_1235 rfl
    refine sm_ite (fun e290 => ?_) (fun e290 => ?_)
    · refine sm_tsi (pc := 33) (c1 := 34) (off := 1203) (tgt := 1236) e290 dL_law_33 (by decide) (by decide) (by decide) (by decide) ?_
      refine sm_aload_n (pc := 1236) dL_law_1236 rfl 1 rfl ?_
      refine sm_aload_n (pc := 1237) dL_law_1237 rfl 0 rfl ?_
      refine sm_iload_n (pc := 1238) dL_law_1238 rfl 3 rfl ?_
      refine sm_iconst (pc := 1239) dL_law_1239 (v := 1) (by decide) ?_
      refine sm_iadd (pc := 1240) dL_law_1240 ?_
      refine sm_sald (pc := 1241) dL_law_1241 (fun j291 hj291 => ?_)
      refine sm_aload_n (pc := 1242) dL_law_1242 rfl 0 rfl ?_
      refine sm_iload_n (pc := 1243) dL_law_1243 rfl 3 rfl ?_
      refine sm_iconst (pc := 1244) dL_law_1244 (v := 2) (by decide) ?_
      refine sm_iadd (pc := 1245) dL_law_1245 ?_
      refine sm_sald (pc := 1246) dL_law_1246 (fun j292 hj292 => ?_)
      refine sm_aload_n (pc := 1247) dL_law_1247 rfl 0 rfl ?_
      refine sm_iload_n (pc := 1248) dL_law_1248 rfl 3 rfl ?_
      refine sm_iconst (pc := 1249) dL_law_1249 (v := 3) (by decide) ?_
      refine sm_iadd (pc := 1250) dL_law_1250 ?_
      refine sm_sald (pc := 1251) dL_law_1251 (fun j293 hj293 => ?_)
      refine sm_i2l (pc := 1252) dL_law_1252 ?_
      refine sm_bipush (pc := 1253) dL_law_1253 (v := 32) (by decide) ?_
      refine sm_lshl (pc := 1255) dL_law_1255 ?_
      refine sm_aload_n (pc := 1256) dL_law_1256 rfl 0 rfl ?_
      refine sm_iload_n (pc := 1257) dL_law_1257 rfl 3 rfl ?_
      refine sm_iconst (pc := 1258) dL_law_1258 (v := 4) (by decide) ?_
      refine sm_iadd (pc := 1259) dL_law_1259 ?_
      refine sm_sald (pc := 1260) dL_law_1260 (fun j294 hj294 => ?_)
      refine sm_i2l (pc := 1261) dL_law_1261 ?_
      refine sm_ldc2 (pc := 1262) dL_law_1262 (v := 4294967295) wk_L_154 ?_
      refine sm_land (pc := 1265) dL_law_1265 ?_
      refine sm_lor (pc := 1266) dL_law_1266 ?_
      refine sm_callVi (pc := 1267) (As := [.int (am_xs G j291), .int (am_xs G j292), .long (((am_xs G j293).toInt64 <<< ((32 : Int32).toInt64 &&& 63)) ||| ((am_xs G j294).toInt64 &&& (4294967295 : Int64)))]) (rest := []) dL_law_1267 (c_X9_put G l N (am_xs G j291) (am_xs G j292) (((am_xs G j293).toInt64 <<< ((32 : Int32).toInt64 &&& 63)) ||| ((am_xs G j294).toInt64 &&& (4294967295 : Int64))) μ) (by omega) wl_L_156 vm_X9_put rfl rfl (Nat.le_of_ble_eq_true rfl) (fun y296 μ295 => ?_)
      refine sm_aload_n (pc := 1270) dL_law_1270 rfl 2 rfl ?_
      refine sm_aload_n (pc := 1271) dL_law_1271 rfl 0 rfl ?_
      refine sm_iload_n (pc := 1272) dL_law_1272 rfl 3 rfl ?_
      refine sm_iconst (pc := 1273) dL_law_1273 (v := 1) (by decide) ?_
      refine sm_iadd (pc := 1274) dL_law_1274 ?_
      refine sm_sald (pc := 1275) dL_law_1275 (fun j297 hj297 => ?_)
      refine sm_aload_n (pc := 1276) dL_law_1276 rfl 0 rfl ?_
      refine sm_iload_n (pc := 1277) dL_law_1277 rfl 3 rfl ?_
      refine sm_iconst (pc := 1278) dL_law_1278 (v := 2) (by decide) ?_
      refine sm_iadd (pc := 1279) dL_law_1279 ?_
      refine sm_sald (pc := 1280) dL_law_1280 (fun j298 hj298 => ?_)
      refine sm_aload_n (pc := 1281) dL_law_1281 rfl 0 rfl ?_
      refine sm_iload_n (pc := 1282) dL_law_1282 rfl 3 rfl ?_
      refine sm_iconst (pc := 1283) dL_law_1283 (v := 3) (by decide) ?_
      refine sm_iadd (pc := 1284) dL_law_1284 ?_
      refine sm_sald (pc := 1285) dL_law_1285 (fun j299 hj299 => ?_)
      refine sm_i2l (pc := 1286) dL_law_1286 ?_
      refine sm_bipush (pc := 1287) dL_law_1287 (v := 32) (by decide) ?_
      refine sm_lshl (pc := 1289) dL_law_1289 ?_
      refine sm_aload_n (pc := 1290) dL_law_1290 rfl 0 rfl ?_
      refine sm_iload_n (pc := 1291) dL_law_1291 rfl 3 rfl ?_
      refine sm_iconst (pc := 1292) dL_law_1292 (v := 4) (by decide) ?_
      refine sm_iadd (pc := 1293) dL_law_1293 ?_
      refine sm_sald (pc := 1294) dL_law_1294 (fun j300 hj300 => ?_)
      refine sm_i2l (pc := 1295) dL_law_1295 ?_
      refine sm_ldc2 (pc := 1296) dL_law_1296 (v := 4294967295) wk_L_154 ?_
      refine sm_land (pc := 1299) dL_law_1299 ?_
      refine sm_lor (pc := 1300) dL_law_1300 ?_
      refine sm_callVi (pc := 1301) (As := [.int (am_xs G j297), .int (am_xs G j298), .long (((am_xs G j299).toInt64 <<< ((32 : Int32).toInt64 &&& 63)) ||| ((am_xs G j300).toInt64 &&& (4294967295 : Int64)))]) (rest := [.int y296]) dL_law_1301 (c_X10_put G l N (am_xs G j297) (am_xs G j298) (((am_xs G j299).toInt64 <<< ((32 : Int32).toInt64 &&& 63)) ||| ((am_xs G j300).toInt64 &&& (4294967295 : Int64))) μ295) (by omega) wl_L_160 vm_X10_put rfl rfl (Nat.le_of_ble_eq_true rfl) (fun y302 μ301 => ?_)
      refine sm_icmp_eq (pc := 1304) (tgt := 1462) dL_law_1304 (by decide) ?_ ?_
      · exact p_L_law_1462 G l d hd0 N r_18 H_18 x3 μ301
      · refine sm_iconst (pc := 1307) dL_law_1307 (v := 0) (by decide) ?_
        exact sm_zret (pc := 1308) dL_law_1308 rfl
    refine sm_ite (fun e303 => ?_) (fun e303 => ?_)
    · refine sm_tsi (pc := 33) (c1 := 35) (off := 1276) (tgt := 1309) e303 dL_law_33 (by decide) (by decide) (by decide) (by decide) ?_
      refine sm_aload_n (pc := 1309) dL_law_1309 rfl 1 rfl ?_
      refine sm_aload_n (pc := 1310) dL_law_1310 rfl 0 rfl ?_
      refine sm_iload_n (pc := 1311) dL_law_1311 rfl 3 rfl ?_
      refine sm_iconst (pc := 1312) dL_law_1312 (v := 1) (by decide) ?_
      refine sm_iadd (pc := 1313) dL_law_1313 ?_
      refine sm_sald (pc := 1314) dL_law_1314 (fun j304 hj304 => ?_)
      refine sm_aload_n (pc := 1315) dL_law_1315 rfl 0 rfl ?_
      refine sm_iload_n (pc := 1316) dL_law_1316 rfl 3 rfl ?_
      refine sm_iconst (pc := 1317) dL_law_1317 (v := 2) (by decide) ?_
      refine sm_iadd (pc := 1318) dL_law_1318 ?_
      refine sm_sald (pc := 1319) dL_law_1319 (fun j305 hj305 => ?_)
      refine sm_callVl (pc := 1320) (As := [.int (am_xs G j304), .int (am_xs G j305)]) (rest := []) dL_law_1320 (c_X9_element G l N (am_xs G j304) (am_xs G j305) μ) (by omega) wl_L_161 vm_X9_element rfl rfl (Nat.le_of_ble_eq_true rfl) (fun y307 μ306 => ?_)
      refine sm_aload_n (pc := 1323) dL_law_1323 rfl 2 rfl ?_
      refine sm_aload_n (pc := 1324) dL_law_1324 rfl 0 rfl ?_
      refine sm_iload_n (pc := 1325) dL_law_1325 rfl 3 rfl ?_
      refine sm_iconst (pc := 1326) dL_law_1326 (v := 1) (by decide) ?_
      refine sm_iadd (pc := 1327) dL_law_1327 ?_
      refine sm_sald (pc := 1328) dL_law_1328 (fun j308 hj308 => ?_)
      refine sm_aload_n (pc := 1329) dL_law_1329 rfl 0 rfl ?_
      refine sm_iload_n (pc := 1330) dL_law_1330 rfl 3 rfl ?_
      refine sm_iconst (pc := 1331) dL_law_1331 (v := 2) (by decide) ?_
      refine sm_iadd (pc := 1332) dL_law_1332 ?_
      refine sm_sald (pc := 1333) dL_law_1333 (fun j309 hj309 => ?_)
      refine sm_callVl (pc := 1334) (As := [.int (am_xs G j308), .int (am_xs G j309)]) (rest := [.long y307]) dL_law_1334 (c_X10_element G l N (am_xs G j308) (am_xs G j309) μ306) (by omega) wl_L_165 vm_X10_element rfl rfl (Nat.le_of_ble_eq_true rfl) (fun y311 μ310 => ?_)
      refine sm_lcmp (pc := 1337) dL_law_1337 ?_
      refine sm_if_eq (pc := 1338) (tgt := 1462) dL_law_1338 (by decide) ?_ ?_
      · exact p_L_law_1462 G l d hd0 N r_18 H_18 x3 μ310
      · refine sm_iconst (pc := 1341) dL_law_1341 (v := 0) (by decide) ?_
        exact sm_zret (pc := 1342) dL_law_1342 rfl
    refine sm_ite (fun e312 => ?_) (fun e312 => ?_)
    · refine sm_tsi (pc := 33) (c1 := 36) (off := 1310) (tgt := 1343) e312 dL_law_33 (by decide) (by decide) (by decide) (by decide) ?_
      refine sm_aload_n (pc := 1343) dL_law_1343 rfl 1 rfl ?_
      refine sm_aload_n (pc := 1344) dL_law_1344 rfl 0 rfl ?_
      refine sm_iload_n (pc := 1345) dL_law_1345 rfl 3 rfl ?_
      refine sm_iconst (pc := 1346) dL_law_1346 (v := 1) (by decide) ?_
      refine sm_iadd (pc := 1347) dL_law_1347 ?_
      refine sm_sald (pc := 1348) dL_law_1348 (fun j313 hj313 => ?_)
      refine sm_aload_n (pc := 1349) dL_law_1349 rfl 0 rfl ?_
      refine sm_iload_n (pc := 1350) dL_law_1350 rfl 3 rfl ?_
      refine sm_iconst (pc := 1351) dL_law_1351 (v := 2) (by decide) ?_
      refine sm_iadd (pc := 1352) dL_law_1352 ?_
      refine sm_sald (pc := 1353) dL_law_1353 (fun j314 hj314 => ?_)
      refine sm_aload_n (pc := 1354) dL_law_1354 rfl 0 rfl ?_
      refine sm_iload_n (pc := 1355) dL_law_1355 rfl 3 rfl ?_
      refine sm_iconst (pc := 1356) dL_law_1356 (v := 3) (by decide) ?_
      refine sm_iadd (pc := 1357) dL_law_1357 ?_
      refine sm_sald (pc := 1358) dL_law_1358 (fun j315 hj315 => ?_)
      refine sm_aload_n (pc := 1359) dL_law_1359 rfl 0 rfl ?_
      refine sm_iload_n (pc := 1360) dL_law_1360 rfl 3 rfl ?_
      refine sm_iconst (pc := 1361) dL_law_1361 (v := 4) (by decide) ?_
      refine sm_iadd (pc := 1362) dL_law_1362 ?_
      refine sm_sald (pc := 1363) dL_law_1363 (fun j316 hj316 => ?_)
      refine sm_aload_n (pc := 1364) dL_law_1364 rfl 0 rfl ?_
      refine sm_iload_n (pc := 1365) dL_law_1365 rfl 3 rfl ?_
      refine sm_iconst (pc := 1366) dL_law_1366 (v := 5) (by decide) ?_
      refine sm_iadd (pc := 1367) dL_law_1367 ?_
      refine sm_sald (pc := 1368) dL_law_1368 (fun j317 hj317 => ?_)
      refine sm_callVi (pc := 1369) (As := [.int (am_xs G j313), .int (am_xs G j314), .int (am_xs G j315), .int (am_xs G j316), .int (am_xs G j317)]) (rest := []) dL_law_1369 (c_X9_shift G l N (am_xs G j313) (am_xs G j314) (am_xs G j315) (am_xs G j316) (am_xs G j317) μ) (by omega) wl_L_166 vm_X9_shift rfl rfl (Nat.le_of_ble_eq_true rfl) (fun y319 μ318 => ?_)
      refine sm_aload_n (pc := 1372) dL_law_1372 rfl 2 rfl ?_
      refine sm_aload_n (pc := 1373) dL_law_1373 rfl 0 rfl ?_
      refine sm_iload_n (pc := 1374) dL_law_1374 rfl 3 rfl ?_
      refine sm_iconst (pc := 1375) dL_law_1375 (v := 1) (by decide) ?_
      refine sm_iadd (pc := 1376) dL_law_1376 ?_
      refine sm_sald (pc := 1377) dL_law_1377 (fun j320 hj320 => ?_)
      refine sm_aload_n (pc := 1378) dL_law_1378 rfl 0 rfl ?_
      refine sm_iload_n (pc := 1379) dL_law_1379 rfl 3 rfl ?_
      refine sm_iconst (pc := 1380) dL_law_1380 (v := 2) (by decide) ?_
      refine sm_iadd (pc := 1381) dL_law_1381 ?_
      refine sm_sald (pc := 1382) dL_law_1382 (fun j321 hj321 => ?_)
      refine sm_aload_n (pc := 1383) dL_law_1383 rfl 0 rfl ?_
      refine sm_iload_n (pc := 1384) dL_law_1384 rfl 3 rfl ?_
      refine sm_iconst (pc := 1385) dL_law_1385 (v := 3) (by decide) ?_
      refine sm_iadd (pc := 1386) dL_law_1386 ?_
      refine sm_sald (pc := 1387) dL_law_1387 (fun j322 hj322 => ?_)
      refine sm_aload_n (pc := 1388) dL_law_1388 rfl 0 rfl ?_
      refine sm_iload_n (pc := 1389) dL_law_1389 rfl 3 rfl ?_
      refine sm_iconst (pc := 1390) dL_law_1390 (v := 4) (by decide) ?_
      refine sm_iadd (pc := 1391) dL_law_1391 ?_
      refine sm_sald (pc := 1392) dL_law_1392 (fun j323 hj323 => ?_)
      refine sm_aload_n (pc := 1393) dL_law_1393 rfl 0 rfl ?_
      refine sm_iload_n (pc := 1394) dL_law_1394 rfl 3 rfl ?_
      refine sm_iconst (pc := 1395) dL_law_1395 (v := 5) (by decide) ?_
      refine sm_iadd (pc := 1396) dL_law_1396 ?_
      refine sm_sald (pc := 1397) dL_law_1397 (fun j324 hj324 => ?_)
      refine sm_callVi (pc := 1398) (As := [.int (am_xs G j320), .int (am_xs G j321), .int (am_xs G j322), .int (am_xs G j323), .int (am_xs G j324)]) (rest := [.int y319]) dL_law_1398 (c_X10_shift G l N (am_xs G j320) (am_xs G j321) (am_xs G j322) (am_xs G j323) (am_xs G j324) μ318) (by omega) wl_L_170 vm_X10_shift rfl rfl (Nat.le_of_ble_eq_true rfl) (fun y326 μ325 => ?_)
      refine sm_icmp_eq (pc := 1401) (tgt := 1462) dL_law_1401 (by decide) ?_ ?_
      · exact p_L_law_1462 G l d hd0 N r_18 H_18 x3 μ325
      · refine sm_iconst (pc := 1404) dL_law_1404 (v := 0) (by decide) ?_
        exact sm_zret (pc := 1405) dL_law_1405 rfl
    refine sm_ite (fun e327 => ?_) (fun e327 => ?_)
    · refine sm_tsi (pc := 33) (c1 := 37) (off := 1373) (tgt := 1406) e327 dL_law_33 (by decide) (by decide) (by decide) (by decide) ?_
      refine sm_aload_n (pc := 1406) dL_law_1406 rfl 1 rfl ?_
      refine sm_aload_n (pc := 1407) dL_law_1407 rfl 0 rfl ?_
      refine sm_iload_n (pc := 1408) dL_law_1408 rfl 3 rfl ?_
      refine sm_iconst (pc := 1409) dL_law_1409 (v := 1) (by decide) ?_
      refine sm_iadd (pc := 1410) dL_law_1410 ?_
      refine sm_sald (pc := 1411) dL_law_1411 (fun j328 hj328 => ?_)
      refine sm_aload_n (pc := 1412) dL_law_1412 rfl 0 rfl ?_
      refine sm_iload_n (pc := 1413) dL_law_1413 rfl 3 rfl ?_
      refine sm_iconst (pc := 1414) dL_law_1414 (v := 2) (by decide) ?_
      refine sm_iadd (pc := 1415) dL_law_1415 ?_
      refine sm_sald (pc := 1416) dL_law_1416 (fun j329 hj329 => ?_)
      refine sm_callVi (pc := 1417) (As := [.int (am_xs G j328), .int (am_xs G j329)]) (rest := []) dL_law_1417 (c_X9_taken G l N (am_xs G j328) (am_xs G j329) μ) (by omega) wl_L_171 vm_X9_taken rfl rfl (Nat.le_of_ble_eq_true rfl) (fun y331 μ330 => ?_)
      refine sm_aload_n (pc := 1420) dL_law_1420 rfl 2 rfl ?_
      refine sm_aload_n (pc := 1421) dL_law_1421 rfl 0 rfl ?_
      refine sm_iload_n (pc := 1422) dL_law_1422 rfl 3 rfl ?_
      refine sm_iconst (pc := 1423) dL_law_1423 (v := 1) (by decide) ?_
      refine sm_iadd (pc := 1424) dL_law_1424 ?_
      refine sm_sald (pc := 1425) dL_law_1425 (fun j332 hj332 => ?_)
      refine sm_aload_n (pc := 1426) dL_law_1426 rfl 0 rfl ?_
      refine sm_iload_n (pc := 1427) dL_law_1427 rfl 3 rfl ?_
      refine sm_iconst (pc := 1428) dL_law_1428 (v := 2) (by decide) ?_
      refine sm_iadd (pc := 1429) dL_law_1429 ?_
      refine sm_sald (pc := 1430) dL_law_1430 (fun j333 hj333 => ?_)
      refine sm_callVi (pc := 1431) (As := [.int (am_xs G j332), .int (am_xs G j333)]) (rest := [.int y331]) dL_law_1431 (c_X10_taken G l N (am_xs G j332) (am_xs G j333) μ330) (by omega) wl_L_174 vm_X10_taken rfl rfl (Nat.le_of_ble_eq_true rfl) (fun y335 μ334 => ?_)
      refine sm_icmp_eq (pc := 1434) (tgt := 1462) dL_law_1434 (by decide) ?_ ?_
      · exact p_L_law_1462 G l d hd0 N r_18 H_18 x3 μ334
      · refine sm_iconst (pc := 1437) dL_law_1437 (v := 0) (by decide) ?_
        exact sm_zret (pc := 1438) dL_law_1438 rfl
    refine sm_ite (fun e336 => ?_) (fun e336 => ?_)
    · refine sm_tsi (pc := 33) (c1 := 38) (off := 1406) (tgt := 1439) e336 dL_law_33 (by decide) (by decide) (by decide) (by decide) ?_
      refine sm_aload_n (pc := 1439) dL_law_1439 rfl 1 rfl ?_
      refine sm_aload_n (pc := 1440) dL_law_1440 rfl 0 rfl ?_
      refine sm_iload_n (pc := 1441) dL_law_1441 rfl 3 rfl ?_
      refine sm_iconst (pc := 1442) dL_law_1442 (v := 1) (by decide) ?_
      refine sm_iadd (pc := 1443) dL_law_1443 ?_
      refine sm_sald (pc := 1444) dL_law_1444 (fun j337 hj337 => ?_)
      refine sm_callVi (pc := 1445) (As := [.int (am_xs G j337)]) (rest := []) dL_law_1445 (c_X9_count G l N (am_xs G j337) μ) (by omega) wl_L_175 vm_X9_count rfl rfl (Nat.le_of_ble_eq_true rfl) (fun y339 μ338 => ?_)
      refine sm_aload_n (pc := 1448) dL_law_1448 rfl 2 rfl ?_
      refine sm_aload_n (pc := 1449) dL_law_1449 rfl 0 rfl ?_
      refine sm_iload_n (pc := 1450) dL_law_1450 rfl 3 rfl ?_
      refine sm_iconst (pc := 1451) dL_law_1451 (v := 1) (by decide) ?_
      refine sm_iadd (pc := 1452) dL_law_1452 ?_
      refine sm_sald (pc := 1453) dL_law_1453 (fun j340 hj340 => ?_)
      refine sm_callVi (pc := 1454) (As := [.int (am_xs G j340)]) (rest := [.int y339]) dL_law_1454 (c_X10_count G l N (am_xs G j340) μ338) (by omega) wl_L_178 vm_X10_count rfl rfl (Nat.le_of_ble_eq_true rfl) (fun y342 μ341 => ?_)
      refine sm_icmp_eq (pc := 1457) (tgt := 1462) dL_law_1457 (by decide) ?_ ?_
      · exact p_L_law_1462 G l d hd0 N r_18 H_18 x3 μ341
      · refine sm_iconst (pc := 1460) dL_law_1460 (v := 0) (by decide) ?_
        exact sm_zret (pc := 1461) dL_law_1461 rfl
    replace e2 := am_ne (n := 0) (by decide) e2
    replace e13 := am_ne (n := 1) (by decide) e13
    replace e24 := am_ne (n := 2) (by decide) e24
    replace e35 := am_ne (n := 3) (by decide) e35
    replace e46 := am_ne (n := 4) (by decide) e46
    replace e57 := am_ne (n := 5) (by decide) e57
    replace e66 := am_ne (n := 6) (by decide) e66
    replace e75 := am_ne (n := 7) (by decide) e75
    replace e80 := am_ne (n := 8) (by decide) e80
    replace e89 := am_ne (n := 9) (by decide) e89
    replace e98 := am_ne (n := 10) (by decide) e98
    replace e107 := am_ne (n := 11) (by decide) e107
    replace e116 := am_ne (n := 12) (by decide) e116
    replace e125 := am_ne (n := 13) (by decide) e125
    replace e132 := am_ne (n := 14) (by decide) e132
    replace e141 := am_ne (n := 15) (by decide) e141
    replace e146 := am_ne (n := 16) (by decide) e146
    replace e157 := am_ne (n := 17) (by decide) e157
    replace e162 := am_ne (n := 18) (by decide) e162
    replace e173 := am_ne (n := 19) (by decide) e173
    replace e182 := am_ne (n := 20) (by decide) e182
    replace e189 := am_ne (n := 21) (by decide) e189
    replace e194 := am_ne (n := 22) (by decide) e194
    replace e201 := am_ne (n := 23) (by decide) e201
    replace e214 := am_ne (n := 24) (by decide) e214
    replace e221 := am_ne (n := 25) (by decide) e221
    replace e228 := am_ne (n := 26) (by decide) e228
    replace e235 := am_ne (n := 27) (by decide) e235
    replace e240 := am_ne (n := 28) (by decide) e240
    replace e245 := am_ne (n := 29) (by decide) e245
    replace e252 := am_ne (n := 30) (by decide) e252
    replace e263 := am_ne (n := 31) (by decide) e263
    replace e270 := am_ne (n := 32) (by decide) e270
    replace e279 := am_ne (n := 33) (by decide) e279
    replace e290 := am_ne (n := 34) (by decide) e290
    replace e303 := am_ne (n := 35) (by decide) e303
    replace e312 := am_ne (n := 36) (by decide) e312
    replace e327 := am_ne (n := 37) (by decide) e327
    replace e336 := am_ne (n := 38) (by decide) e336
    refine sm_tso (pc := 33) (tgt := 1462) dL_law_33 (by omega) (by decide) ?_
    exact p_L_law_1462 G l d hd0 N r_18 H_18 x3 μ
theorem p_L_law_18_lp (G : am_G) (l : Launch) (d : Nat) (hd0 : 406 ≤ d) (N : Nat) : ∀ (n : Nat) (x3 : Int32) (μ : am_M), sm_P G l am_ci d me_L_law 18 [(0, .ref (am_b G)), (1, .ref (am_ad G 0 0)), (2, .ref (am_ad G 10 0)), (3, .int x3)] [] μ (f_L_law_18_lp (am_L G) (am_xs G) N n x3 μ) := by
  intro n
  induction n with
  | zero => intros; exact sm_none
  | succ n ih => exact fun x3 μ => p_L_law_18 G l d hd0 N (f_L_law_18_lp (am_L G) (am_xs G) N n) ih x3 μ
