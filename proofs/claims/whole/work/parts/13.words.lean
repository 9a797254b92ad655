def am_ush (x y : Int32) : Int32 := (x.toUInt32 >>> (y.toUInt32 &&& Int32.toUInt32 31)).toInt32
def am_tab (j : Nat) : List Int32 := ((am_st[j]?).map (fun q => q.2)).getD []
section SMD
variable {α : Type} {G : am_G} {l : Launch} {cv : α → Option Value} {d : Nat} {mi : am_Me} {pc : Nat} {lv : List (Nat × Value)} {st : List Value} {μ : am_M} {o : Option (α × am_M)}
theorem sm_iushr {x y : Int32} (hd : decode mi.2.1 pc = .ok (.iushr, 1)) (k : sm_P G l cv d mi (pc + 1) lv (.int (am_ush x y) :: st) μ o) : sm_P G l cv d mi pc lv (.int y :: .int x :: st) μ o := sm_one (fun p e R s m args below meth c H locs cells slots Q ls hx hb hown hts hl w => lv_iushr hx hb hd rfl w) k
theorem sm_ldcw {i : Nat} {v : Int32} (hd : decode mi.2.1 pc = .ok (.ldc_w i, 3)) (hw : Cond.constant mi.1.cls i v ∈ lw_tbl) (k : sm_P G l cv d mi (pc + 3) lv (.int v :: st) μ o) : sm_P G l cv d mi pc lv st μ o := sm_one (fun p e R s m args below meth c H locs cells slots Q ls hx hb hown hts hl w => lv_ldcw hx hb hown (hts _ (am_g hw rfl)) hd w) k
theorem am_lkd : ∀ (ps : List (Int × Int)) (dflt key : Int), ps.all (fun q => q.1 != key) = true → Op.lookupswitch.offset ps dflt key = dflt
  | [], _, _, _ => rfl
  | (a, o) :: r, dflt, key, h => by
    simp only [List.all_cons, Bool.and_eq_true, bne_iff_ne, ne_eq] at h
    rw [Op.lookupswitch.offset_cons, if_neg h.1]
    exact am_lkd r dflt key h.2
theorem sm_callVi {mc : am_Me} {dc idx k ci n : Nat} {fs : List (Option Nat)} {As rest st0 : List Value} {f : Option (Int32 × am_M)} {kk : Int32 → am_M → Option (α × am_M)} (hd : decode mi.2.1 pc = .ok (.invokevirtual idx, 3)) (hC : ct_P G l am_ci dc mc (.ref (am_ad G k 0) :: As) μ f) (hdd : dc + 1 ≤ d) (hlk : Cond.methodLink mi.1.cls idx mc.1 ∈ lw_tbl) (hm : am_vm mc n k ci fs) (hn : As.length = n) (hst : st0 = As.reverse ++ .ref (am_ad G k 0) :: rest) (hrs : (rest.map fun v => v.category).sum ≤ 8) (k1 : ∀ (b : Int32) (μ' : am_M), sm_P G l cv d mi (pc + 3) lv (.int b :: rest) μ' (kk b μ')) : sm_P G l cv d mi pc lv st0 μ (am_bd f kk) := sm_callV hd hC hdd hlk hm hn hst hrs k1
theorem sm_callVl {mc : am_Me} {dc idx k ci n : Nat} {fs : List (Option Nat)} {As rest st0 : List Value} {f : Option (Int64 × am_M)} {kk : Int64 → am_M → Option (α × am_M)} (hd : decode mi.2.1 pc = .ok (.invokevirtual idx, 3)) (hC : ct_P G l am_cl dc mc (.ref (am_ad G k 0) :: As) μ f) (hdd : dc + 1 ≤ d) (hlk : Cond.methodLink mi.1.cls idx mc.1 ∈ lw_tbl) (hm : am_vm mc n k ci fs) (hn : As.length = n) (hst : st0 = As.reverse ++ .ref (am_ad G k 0) :: rest) (hrs : (rest.map fun v => v.category).sum ≤ 8) (k1 : ∀ (b : Int64) (μ' : am_M), sm_P G l cv d mi (pc + 3) lv (.long b :: rest) μ' (kk b μ')) : sm_P G l cv d mi pc lv st0 μ (am_bd f kk) := sm_callV hd hC hdd hlk hm hn hst hrs k1
theorem sm_callVv {mc : am_Me} {dc idx k ci n : Nat} {fs : List (Option Nat)} {As rest st0 : List Value} {f : Option (Unit × am_M)} {kk : Unit → am_M → Option (α × am_M)} (hd : decode mi.2.1 pc = .ok (.invokevirtual idx, 3)) (hC : ct_P G l am_cu dc mc (.ref (am_ad G k 0) :: As) μ f) (hdd : dc + 1 ≤ d) (hlk : Cond.methodLink mi.1.cls idx mc.1 ∈ lw_tbl) (hm : am_vm mc n k ci fs) (hn : As.length = n) (hst : st0 = As.reverse ++ .ref (am_ad G k 0) :: rest) (hrs : (rest.map fun v => v.category).sum ≤ 8) (k1 : ∀ (b : Unit) (μ' : am_M), sm_P G l cv d mi (pc + 3) lv (rest) μ' (kk b μ')) : sm_P G l cv d mi pc lv st0 μ (am_bd f kk) := sm_callV hd hC hdd hlk hm hn hst hrs k1
theorem sm_callSi {mc : am_Me} {dc idx n : Nat} {As rest st0 : List Value} {f : Option (Int32 × am_M)} {kk : Int32 → am_M → Option (α × am_M)} (hd : decode mi.2.1 pc = .ok (.invokestatic idx, 3)) (hC : ct_P G l am_ci dc mc As μ f) (hdd : dc + 1 ≤ d) (hlk : Cond.methodLink mi.1.cls idx mc.1 ∈ lw_tbl) (hm : am_sm mc n) (hn : As.length = n) (hst : st0 = As.reverse ++ rest) (hrs : (rest.map fun v => v.category).sum ≤ 8) (k1 : ∀ (b : Int32) (μ' : am_M), sm_P G l cv d mi (pc + 3) lv (.int b :: rest) μ' (kk b μ')) : sm_P G l cv d mi pc lv st0 μ (am_bd f kk) := sm_callS hd hC hdd hlk hm hn hst hrs k1
theorem sm_callSl {mc : am_Me} {dc idx n : Nat} {As rest st0 : List Value} {f : Option (Int64 × am_M)} {kk : Int64 → am_M → Option (α × am_M)} (hd : decode mi.2.1 pc = .ok (.invokestatic idx, 3)) (hC : ct_P G l am_cl dc mc As μ f) (hdd : dc + 1 ≤ d) (hlk : Cond.methodLink mi.1.cls idx mc.1 ∈ lw_tbl) (hm : am_sm mc n) (hn : As.length = n) (hst : st0 = As.reverse ++ rest) (hrs : (rest.map fun v => v.category).sum ≤ 8) (k1 : ∀ (b : Int64) (μ' : am_M), sm_P G l cv d mi (pc + 3) lv (.long b :: rest) μ' (kk b μ')) : sm_P G l cv d mi pc lv st0 μ (am_bd f kk) := sm_callS hd hC hdd hlk hm hn hst hrs k1
theorem sm_callSv {mc : am_Me} {dc idx n : Nat} {As rest st0 : List Value} {f : Option (Unit × am_M)} {kk : Unit → am_M → Option (α × am_M)} (hd : decode mi.2.1 pc = .ok (.invokestatic idx, 3)) (hC : ct_P G l am_cu dc mc As μ f) (hdd : dc + 1 ≤ d) (hlk : Cond.methodLink mi.1.cls idx mc.1 ∈ lw_tbl) (hm : am_sm mc n) (hn : As.length = n) (hst : st0 = As.reverse ++ rest) (hrs : (rest.map fun v => v.category).sum ≤ 8) (k1 : ∀ (b : Unit) (μ' : am_M), sm_P G l cv d mi (pc + 3) lv (rest) μ' (kk b μ')) : sm_P G l cv d mi pc lv st0 μ (am_bd f kk) := sm_callS hd hC hdd hlk hm hn hst hrs k1
theorem sm_callNi {mc : am_Me} {dc idx n : Nat} {As rest st0 : List Value} {host : String} {f : Option (Int32 × am_M)} {kk : Int32 → am_M → Option (α × am_M)} (hd : decode mi.2.1 pc = .ok (.invokestatic idx, 3)) (hC : ct_P G l am_ci dc mc As μ f) (hdd : dc + 1 ≤ d) (hlk : Cond.methodLinkNest mi.1.cls idx mc.1 host ∈ lw_tbl) (hm : am_sm mc n) (hn : As.length = n) (hst : st0 = As.reverse ++ rest) (hrs : (rest.map fun v => v.category).sum ≤ 8) (k1 : ∀ (b : Int32) (μ' : am_M), sm_P G l cv d mi (pc + 3) lv (.int b :: rest) μ' (kk b μ')) : sm_P G l cv d mi pc lv st0 μ (am_bd f kk) := sm_callN hd hC hdd hlk hm hn hst hrs k1
theorem sm_callNl {mc : am_Me} {dc idx n : Nat} {As rest st0 : List Value} {host : String} {f : Option (Int64 × am_M)} {kk : Int64 → am_M → Option (α × am_M)} (hd : decode mi.2.1 pc = .ok (.invokestatic idx, 3)) (hC : ct_P G l am_cl dc mc As μ f) (hdd : dc + 1 ≤ d) (hlk : Cond.methodLinkNest mi.1.cls idx mc.1 host ∈ lw_tbl) (hm : am_sm mc n) (hn : As.length = n) (hst : st0 = As.reverse ++ rest) (hrs : (rest.map fun v => v.category).sum ≤ 8) (k1 : ∀ (b : Int64) (μ' : am_M), sm_P G l cv d mi (pc + 3) lv (.long b :: rest) μ' (kk b μ')) : sm_P G l cv d mi pc lv st0 μ (am_bd f kk) := sm_callN hd hC hdd hlk hm hn hst hrs k1
theorem sm_callNv {mc : am_Me} {dc idx n : Nat} {As rest st0 : List Value} {host : String} {f : Option (Unit × am_M)} {kk : Unit → am_M → Option (α × am_M)} (hd : decode mi.2.1 pc = .ok (.invokestatic idx, 3)) (hC : ct_P G l am_cu dc mc As μ f) (hdd : dc + 1 ≤ d) (hlk : Cond.methodLinkNest mi.1.cls idx mc.1 host ∈ lw_tbl) (hm : am_sm mc n) (hn : As.length = n) (hst : st0 = As.reverse ++ rest) (hrs : (rest.map fun v => v.category).sum ≤ 8) (k1 : ∀ (b : Unit) (μ' : am_M), sm_P G l cv d mi (pc + 3) lv (rest) μ' (kk b μ')) : sm_P G l cv d mi pc lv st0 μ (am_bd f kk) := sm_callN hd hC hdd hlk hm hn hst hrs k1
end SMD
theorem in_X0 : ∀ w ∈ u_ws RX0 TX0 5, w ∈ am_tb := am_in [294, 296, 298, 300, 302] (by decide +kernel) (by decide +kernel)
theorem in_X1 : ∀ w ∈ u_ws RX1 TX1 7, w ∈ am_tb := am_in [128, 130, 132, 134, 136, 138, 140] (by decide +kernel) (by decide +kernel)
theorem in_X2 : ∀ w ∈ u_ws RX2 TX2 8, w ∈ am_tb := am_in [264, 266, 268, 270, 272, 274, 276, 278] (by decide +kernel) (by decide +kernel)
theorem in_X3 : ∀ w ∈ u_ws RX3 TX3 6, w ∈ am_tb := am_in [319, 321, 323, 325, 327, 329] (by decide +kernel) (by decide +kernel)
theorem in_X4 : ∀ w ∈ u_ws RX4 TX4 3, w ∈ am_tb := am_in [343, 345, 347] (by decide +kernel) (by decide +kernel)
theorem in_X5 : ∀ w ∈ u_ws RX5 TX5 3, w ∈ am_tb := am_in [106, 108, 110] (by decide +kernel) (by decide +kernel)
theorem in_X6 : ∀ w ∈ u_ws RX6 TX6 5, w ∈ am_tb := am_in [155, 157, 159, 161, 163] (by decide +kernel) (by decide +kernel)
theorem in_X7 : ∀ w ∈ u_ws RX7 TX7 13, w ∈ am_tb := am_in [220, 222, 224, 226, 228, 230, 232, 234, 236, 238, 240, 242, 244] (by decide +kernel) (by decide +kernel)
theorem in_X8 : ∀ w ∈ u_ws RX8 TX8 6, w ∈ am_tb := am_in [179, 181, 183, 185, 187, 189] (by decide +kernel) (by decide +kernel)
theorem in_X9 : ∀ w ∈ u_ws RX9 TX9 9, w ∈ am_tb := am_in [360, 362, 364, 366, 368, 370, 372, 374, 376] (by decide +kernel) (by decide +kernel)
theorem in_X10 : ∀ w ∈ u_ws RX10 TX10 55, w ∈ am_tb := am_in [1093, 1095, 1097, 1099, 1101, 1103, 1105, 1107, 1109, 1111, 1113, 1115, 1117, 1119, 1121, 1123, 1125, 1127, 1129, 1131, 1133, 1135, 1137, 1139, 1141, 1143, 1145, 1147, 1149, 1151, 1153, 1155, 1157, 1159, 1161, 1163, 1165, 1167, 1169, 1171, 1173, 1175, 1177, 1179, 1181, 1183, 1185, 1187, 1189, 1191, 1193, 1195, 1197, 1199, 1201] (by decide +kernel) (by decide +kernel)
theorem ly_16 : ((16, 3, 9, 1, [some 316]) : am_Q) ∈ am_ly := List.mem_of_getElem? (i := 11) rfl
theorem ly_33 : ((33, 1, 40, 1, []) : am_Q) ∈ am_ly := List.mem_of_getElem? (i := 13) rfl
theorem ly_34 : ((34, 1, 40, 1, []) : am_Q) ∈ am_ly := List.mem_of_getElem? (i := 14) rfl
theorem ly_35 : ((35, 1, 40, 1, []) : am_Q) ∈ am_ly := List.mem_of_getElem? (i := 15) rfl
theorem ly_36 : ((36, 1, 40, 1, []) : am_Q) ∈ am_ly := List.mem_of_getElem? (i := 16) rfl
theorem ly_48 : ((48, 1, 120, 1, []) : am_Q) ∈ am_ly := List.mem_of_getElem? (i := 17) rfl
theorem ly_51 : ((51, 1, 121, 1, []) : am_Q) ∈ am_ly := List.mem_of_getElem? (i := 18) rfl
theorem ly_64 : ((64, 3, 4, 1, [some 364]) : am_Q) ∈ am_ly := List.mem_of_getElem? (i := 19) rfl
theorem ly_65 : ((65, 1, 4, 1, []) : am_Q) ∈ am_ly := List.mem_of_getElem? (i := 21) rfl
theorem ly_67 : ((67, 1, 128, 1, []) : am_Q) ∈ am_ly := List.mem_of_getElem? (i := 22) rfl
theorem ly_68 : ((68, 1, 121, 1, []) : am_Q) ∈ am_ly := List.mem_of_getElem? (i := 23) rfl
theorem ly_82 : ((82, 1, 6, 1, []) : am_Q) ∈ am_ly := List.mem_of_getElem? (i := 24) rfl
theorem ly_83 : ((83, 1, 6, 1, []) : am_Q) ∈ am_ly := List.mem_of_getElem? (i := 25) rfl
theorem ly_84 : ((84, 3, 6, 1, [some 384]) : am_Q) ∈ am_ly := List.mem_of_getElem? (i := 26) rfl
theorem ly_85 : ((85, 1, 7, 1, []) : am_Q) ∈ am_ly := List.mem_of_getElem? (i := 28) rfl
theorem ly_98 : ((98, 1, 6, 1, []) : am_Q) ∈ am_ly := List.mem_of_getElem? (i := 29) rfl
theorem ly_99 : ((99, 1, 5, 1, []) : am_Q) ∈ am_ly := List.mem_of_getElem? (i := 30) rfl
theorem ly_100 : ((100, 1, 6, 1, []) : am_Q) ∈ am_ly := List.mem_of_getElem? (i := 31) rfl
theorem ly_114 : ((114, 1, 259, 1, []) : am_Q) ∈ am_ly := List.mem_of_getElem? (i := 32) rfl
theorem ly_128 : ((128, 1, 50, 1, []) : am_Q) ∈ am_ly := List.mem_of_getElem? (i := 33) rfl
theorem ly_130 : ((130, 1, 24, 1, []) : am_Q) ∈ am_ly := List.mem_of_getElem? (i := 34) rfl
theorem ly_144 : ((144, 1, 6, 1, []) : am_Q) ∈ am_ly := List.mem_of_getElem? (i := 35) rfl
theorem ly_145 : ((145, 1, 6, 1, []) : am_Q) ∈ am_ly := List.mem_of_getElem? (i := 36) rfl
theorem ly_146 : ((146, 4, 6, 1, [some 446]) : am_Q) ∈ am_ly := List.mem_of_getElem? (i := 37) rfl
theorem ly_160 : ((160, 1, 28, 1, []) : am_Q) ∈ am_ly := List.mem_of_getElem? (i := 39) rfl
theorem ly_161 : ((161, 1, 40, 1, []) : am_Q) ∈ am_ly := List.mem_of_getElem? (i := 40) rfl
theorem ly_162 : ((162, 1, 40, 1, []) : am_Q) ∈ am_ly := List.mem_of_getElem? (i := 41) rfl
theorem ly_163 : ((163, 1, 40, 1, []) : am_Q) ∈ am_ly := List.mem_of_getElem? (i := 42) rfl
theorem ly_167 : ((167, 1, 6, 1, []) : am_Q) ∈ am_ly := List.mem_of_getElem? (i := 43) rfl
theorem ly_169 : ((169, 1, 5, 1, []) : am_Q) ∈ am_ly := List.mem_of_getElem? (i := 44) rfl
theorem ly_170 : ((170, 1, 5, 1, []) : am_Q) ∈ am_ly := List.mem_of_getElem? (i := 45) rfl
theorem ly_171 : ((171, 1, 5, 1, []) : am_Q) ∈ am_ly := List.mem_of_getElem? (i := 46) rfl
theorem ly_172 : ((172, 1, 5, 1, []) : am_Q) ∈ am_ly := List.mem_of_getElem? (i := 47) rfl
theorem ly_173 : ((173, 1, 120, 1, []) : am_Q) ∈ am_ly := List.mem_of_getElem? (i := 48) rfl
theorem ly_176 : ((176, 1, 480, 1, []) : am_Q) ∈ am_ly := List.mem_of_getElem? (i := 49) rfl
theorem ly_177 : ((177, 1, 4, 1, []) : am_Q) ∈ am_ly := List.mem_of_getElem? (i := 50) rfl
theorem ly_183 : ((183, 1, 7, 1, []) : am_Q) ∈ am_ly := List.mem_of_getElem? (i := 51) rfl
theorem ly_184 : ((184, 1, 24, 1, []) : am_Q) ∈ am_ly := List.mem_of_getElem? (i := 52) rfl
theorem ly_185 : ((185, 1, 6, 1, []) : am_Q) ∈ am_ly := List.mem_of_getElem? (i := 53) rfl
theorem ly_193 : ((193, 1, 6, 1, []) : am_Q) ∈ am_ly := List.mem_of_getElem? (i := 54) rfl
theorem ly_194 : ((194, 1, 30, 1, []) : am_Q) ∈ am_ly := List.mem_of_getElem? (i := 55) rfl
theorem ly_199 : ((199, 1, 6, 1, []) : am_Q) ∈ am_ly := List.mem_of_getElem? (i := 56) rfl
theorem ly_200 : ((200, 1, 6, 1, []) : am_Q) ∈ am_ly := List.mem_of_getElem? (i := 57) rfl
theorem ly_201 : ((201, 1, 6, 1, []) : am_Q) ∈ am_ly := List.mem_of_getElem? (i := 58) rfl
theorem ly_204 : ((204, 1, 1783, 1, []) : am_Q) ∈ am_ly := List.mem_of_getElem? (i := 59) rfl
theorem ly_206 : ((206, 1, 50, 1, []) : am_Q) ∈ am_ly := List.mem_of_getElem? (i := 60) rfl
theorem ly_207 : ((207, 1, 24, 1, []) : am_Q) ∈ am_ly := List.mem_of_getElem? (i := 61) rfl
theorem ly_211 : ((211, 1, 6, 1, []) : am_Q) ∈ am_ly := List.mem_of_getElem? (i := 62) rfl
theorem ly_212 : ((212, 1, 6, 1, []) : am_Q) ∈ am_ly := List.mem_of_getElem? (i := 63) rfl
theorem ly_213 : ((213, 2, 360, 1, []) : am_Q) ∈ am_ly := List.mem_of_getElem? (i := 64) rfl
theorem ly_214 : ((214, 2, 60, 1, []) : am_Q) ∈ am_ly := List.mem_of_getElem? (i := 65) rfl
theorem ly_316 : ((316, 1, 6, 9, []) : am_Q) ∈ am_ly := List.mem_of_getElem? (i := 12) rfl
theorem ly_364 : ((364, 1, 121, 4, []) : am_Q) ∈ am_ly := List.mem_of_getElem? (i := 20) rfl
theorem ly_384 : ((384, 1, 4, 6, []) : am_Q) ∈ am_ly := List.mem_of_getElem? (i := 27) rfl
theorem ly_446 : ((446, 2, 60, 6, []) : am_Q) ∈ am_ly := List.mem_of_getElem? (i := 38) rfl
theorem fi_X9_12 : am_fi RX9 12 0 0 (some 1) := ⟨9, 9, _, RX9, TX9, tyX9, List.mem_of_getElem? (i := 0) rfl, rfl, in_X9, tyX9_ok, nmX9, by decide, rfl, List.mem_of_getElem? (i := 351) (by decide +kernel), fun h => by cases h⟩
theorem fi_X9_21 : am_fi RX9 21 0 1 (some 2) := ⟨9, 9, _, RX9, TX9, tyX9, List.mem_of_getElem? (i := 0) rfl, rfl, in_X9, tyX9_ok, nmX9, by decide, rfl, List.mem_of_getElem? (i := 352) (by decide +kernel), fun h => by cases h⟩
theorem fi_X9_28 : am_fi RX9 28 0 2 (some 3) := ⟨9, 9, _, RX9, TX9, tyX9, List.mem_of_getElem? (i := 0) rfl, rfl, in_X9, tyX9_ok, nmX9, by decide, rfl, List.mem_of_getElem? (i := 353) (by decide +kernel), fun h => by cases h⟩
theorem fi_X9_35 : am_fi RX9 35 0 3 (some 4) := ⟨9, 9, _, RX9, TX9, tyX9, List.mem_of_getElem? (i := 0) rfl, rfl, in_X9, tyX9_ok, nmX9, by decide, rfl, List.mem_of_getElem? (i := 354) (by decide +kernel), fun h => by cases h⟩
theorem fi_X9_44 : am_fi RX9 44 0 4 (some 5) := ⟨9, 9, _, RX9, TX9, tyX9, List.mem_of_getElem? (i := 0) rfl, rfl, in_X9, tyX9_ok, nmX9, by decide, rfl, List.mem_of_getElem? (i := 355) (by decide +kernel), fun h => by cases h⟩
theorem fi_X9_53 : am_fi RX9 53 0 5 (some 6) := ⟨9, 9, _, RX9, TX9, tyX9, List.mem_of_getElem? (i := 0) rfl, rfl, in_X9, tyX9_ok, nmX9, by decide, rfl, List.mem_of_getElem? (i := 356) (by decide +kernel), fun h => by cases h⟩
theorem fi_X9_60 : am_fi RX9 60 0 6 (some 7) := ⟨9, 9, _, RX9, TX9, tyX9, List.mem_of_getElem? (i := 0) rfl, rfl, in_X9, tyX9_ok, nmX9, by decide, rfl, List.mem_of_getElem? (i := 357) (by decide +kernel), fun h => by cases h⟩
theorem fi_X9_67 : am_fi RX9 67 0 7 (some 8) := ⟨9, 9, _, RX9, TX9, tyX9, List.mem_of_getElem? (i := 0) rfl, rfl, in_X9, tyX9_ok, nmX9, by decide, rfl, List.mem_of_getElem? (i := 358) (by decide +kernel), fun h => by cases h⟩
theorem fi_X9_74 : am_fi RX9 74 0 8 (some 9) := ⟨9, 9, _, RX9, TX9, tyX9, List.mem_of_getElem? (i := 0) rfl, rfl, in_X9, tyX9_ok, nmX9, by decide, rfl, List.mem_of_getElem? (i := 359) (by decide +kernel), fun h => by cases h⟩
theorem fi_X9_152 : am_fi RX9 152 5 12 (none) := ⟨7, 13, _, RX7, TX7, tyX7, List.mem_of_getElem? (i := 5) rfl, rfl, in_X7, tyX7_ok, nmX7, by decide, rfl, List.mem_of_getElem? (i := 219) (by decide +kernel), fun _ => ⟨rfl, by decide +kernel⟩⟩
theorem fi_X9_156 : am_fi RX9 156 5 9 (none) := ⟨7, 13, _, RX7, TX7, tyX7, List.mem_of_getElem? (i := 5) rfl, rfl, in_X7, tyX7_ok, nmX7, by decide, rfl, List.mem_of_getElem? (i := 210) (by decide +kernel), fun _ => ⟨rfl, by decide +kernel⟩⟩
theorem fi_X9_159 : am_fi RX9 159 5 10 (none) := ⟨7, 13, _, RX7, TX7, tyX7, List.mem_of_getElem? (i := 5) rfl, rfl, in_X7, tyX7_ok, nmX7, by decide, rfl, List.mem_of_getElem? (i := 213) (by decide +kernel), fun _ => ⟨rfl, by decide +kernel⟩⟩
theorem fi_X9_162 : am_fi RX9 162 5 11 (none) := ⟨7, 13, _, RX7, TX7, tyX7, List.mem_of_getElem? (i := 5) rfl, rfl, in_X7, tyX7_ok, nmX7, by decide, rfl, List.mem_of_getElem? (i := 216) (by decide +kernel), fun _ => ⟨rfl, by decide +kernel⟩⟩
theorem fi_X9_181 : am_fi RX9 181 1 1 (none) := ⟨5, 3, _, RX5, TX5, tyX5, List.mem_of_getElem? (i := 1) rfl, rfl, in_X5, tyX5_ok, nmX5, by decide, rfl, List.mem_of_getElem? (i := 101) (by decide +kernel), fun _ => ⟨rfl, by decide +kernel⟩⟩
theorem fi_X9_187 : am_fi RX9 187 6 5 (none) := ⟨2, 8, _, RX2, TX2, tyX2, List.mem_of_getElem? (i := 6) rfl, rfl, in_X2, tyX2_ok, nmX2, by decide, rfl, List.mem_of_getElem? (i := 259) (by decide +kernel), fun _ => ⟨rfl, by decide +kernel⟩⟩
theorem fi_X9_190 : am_fi RX9 190 6 6 (none) := ⟨2, 8, _, RX2, TX2, tyX2, List.mem_of_getElem? (i := 6) rfl, rfl, in_X2, tyX2_ok, nmX2, by decide, rfl, List.mem_of_getElem? (i := 261) (by decide +kernel), fun _ => ⟨rfl, by decide +kernel⟩⟩
theorem fi_X9_193 : am_fi RX9 193 6 7 (none) := ⟨2, 8, _, RX2, TX2, tyX2, List.mem_of_getElem? (i := 6) rfl, rfl, in_X2, tyX2_ok, nmX2, by decide, rfl, List.mem_of_getElem? (i := 263) (by decide +kernel), fun _ => ⟨rfl, by decide +kernel⟩⟩
theorem fi_X9_251 : am_fi RX9 251 7 3 (none) := ⟨0, 5, _, RX0, TX0, tyX0, List.mem_of_getElem? (i := 7) rfl, rfl, in_X0, tyX0_ok, nmX0, by decide, rfl, List.mem_of_getElem? (i := 291) (by decide +kernel), fun _ => ⟨rfl, by decide +kernel⟩⟩
theorem fi_X9_254 : am_fi RX9 254 7 4 (none) := ⟨0, 5, _, RX0, TX0, tyX0, List.mem_of_getElem? (i := 7) rfl, rfl, in_X0, tyX0_ok, nmX0, by decide, rfl, List.mem_of_getElem? (i := 293) (by decide +kernel), fun _ => ⟨rfl, by decide +kernel⟩⟩
theorem fi_X9_330 : am_fi RX9 330 1 2 (none) := ⟨5, 3, _, RX5, TX5, tyX5, List.mem_of_getElem? (i := 1) rfl, rfl, in_X5, tyX5_ok, nmX5, by decide, rfl, List.mem_of_getElem? (i := 105) (by decide +kernel), fun _ => ⟨rfl, by decide +kernel⟩⟩
theorem fi_X9_333 : am_fi RX9 333 3 1 (none) := ⟨6, 5, _, RX6, TX6, tyX6, List.mem_of_getElem? (i := 3) rfl, rfl, in_X6, tyX6_ok, nmX6, by decide, rfl, List.mem_of_getElem? (i := 151) (by decide +kernel), fun _ => ⟨rfl, by decide +kernel⟩⟩
theorem fi_X9_336 : am_fi RX9 336 2 5 (none) := ⟨1, 7, _, RX1, TX1, tyX1, List.mem_of_getElem? (i := 2) rfl, rfl, in_X1, tyX1_ok, nmX1, by decide, rfl, List.mem_of_getElem? (i := 126) (by decide +kernel), fun _ => ⟨rfl, by decide +kernel⟩⟩
theorem fi_X9_339 : am_fi RX9 339 8 1 (none) := ⟨3, 6, _, RX3, TX3, tyX3, List.mem_of_getElem? (i := 8) rfl, rfl, in_X3, tyX3_ok, nmX3, by decide, rfl, List.mem_of_getElem? (i := 313) (by decide +kernel), fun _ => ⟨rfl, by decide +kernel⟩⟩
theorem fi_X9_342 : am_fi RX9 342 8 3 (none) := ⟨3, 6, _, RX3, TX3, tyX3, List.mem_of_getElem? (i := 8) rfl, rfl, in_X3, tyX3_ok, nmX3, by decide, rfl, List.mem_of_getElem? (i := 316) (by decide +kernel), fun _ => ⟨rfl, by decide +kernel⟩⟩
theorem fi_X0_9 : am_fi RX0 9 7 2 (some 114) := ⟨0, 5, _, RX0, TX0, tyX0, List.mem_of_getElem? (i := 7) rfl, rfl, in_X0, tyX0_ok, nmX0, by decide, rfl, List.mem_of_getElem? (i := 289) (by decide +kernel), fun h => by cases h⟩
theorem fi_X0_15 : am_fi RX0 15 7 0 (some 1) := ⟨0, 5, _, RX0, TX0, tyX0, List.mem_of_getElem? (i := 7) rfl, rfl, in_X0, tyX0_ok, nmX0, by decide, rfl, List.mem_of_getElem? (i := 287) (by decide +kernel), fun h => by cases h⟩
theorem fi_X0_19 : am_fi RX0 19 7 1 (some 5) := ⟨0, 5, _, RX0, TX0, tyX0, List.mem_of_getElem? (i := 7) rfl, rfl, in_X0, tyX0_ok, nmX0, by decide, rfl, List.mem_of_getElem? (i := 288) (by decide +kernel), fun h => by cases h⟩
theorem fi_X0_35 : am_fi RX0 35 5 9 (none) := ⟨7, 13, _, RX7, TX7, tyX7, List.mem_of_getElem? (i := 5) rfl, rfl, in_X7, tyX7_ok, nmX7, by decide, rfl, List.mem_of_getElem? (i := 208) (by decide +kernel), fun _ => ⟨rfl, by decide +kernel⟩⟩
theorem fi_X0_39 : am_fi RX0 39 1 1 (none) := ⟨5, 3, _, RX5, TX5, tyX5, List.mem_of_getElem? (i := 1) rfl, rfl, in_X5, tyX5_ok, nmX5, by decide, rfl, List.mem_of_getElem? (i := 99) (by decide +kernel), fun _ => ⟨rfl, by decide +kernel⟩⟩
theorem fi_X0_65 : am_fi RX0 65 1 2 (none) := ⟨5, 3, _, RX5, TX5, tyX5, List.mem_of_getElem? (i := 1) rfl, rfl, in_X5, tyX5_ok, nmX5, by decide, rfl, List.mem_of_getElem? (i := 104) (by decide +kernel), fun _ => ⟨rfl, by decide +kernel⟩⟩
theorem fi_X0_72 : am_fi RX0 72 5 11 (none) := ⟨7, 13, _, RX7, TX7, tyX7, List.mem_of_getElem? (i := 5) rfl, rfl, in_X7, tyX7_ok, nmX7, by decide, rfl, List.mem_of_getElem? (i := 214) (by decide +kernel), fun _ => ⟨rfl, by decide +kernel⟩⟩
theorem fi_X0_99 : am_fi RX0 99 7 3 (none) := ⟨0, 5, _, RX0, TX0, tyX0, List.mem_of_getElem? (i := 7) rfl, rfl, in_X0, tyX0_ok, nmX0, by decide, rfl, List.mem_of_getElem? (i := 290) (by decide +kernel), fun _ => ⟨rfl, by decide +kernel⟩⟩
theorem fi_X0_102 : am_fi RX0 102 7 4 (none) := ⟨0, 5, _, RX0, TX0, tyX0, List.mem_of_getElem? (i := 7) rfl, rfl, in_X0, tyX0_ok, nmX0, by decide, rfl, List.mem_of_getElem? (i := 292) (by decide +kernel), fun _ => ⟨rfl, by decide +kernel⟩⟩
theorem fi_X1_9 : am_fi RX1 9 2 1 (some 33) := ⟨1, 7, _, RX1, TX1, tyX1, List.mem_of_getElem? (i := 2) rfl, rfl, in_X1, tyX1_ok, nmX1, by decide, rfl, List.mem_of_getElem? (i := 121) (by decide +kernel), fun h => by cases h⟩
theorem fi_X1_15 : am_fi RX1 15 2 2 (some 34) := ⟨1, 7, _, RX1, TX1, tyX1, List.mem_of_getElem? (i := 2) rfl, rfl, in_X1, tyX1_ok, nmX1, by decide, rfl, List.mem_of_getElem? (i := 122) (by decide +kernel), fun h => by cases h⟩
theorem fi_X1_18 : am_fi RX1 18 2 3 (some 35) := ⟨1, 7, _, RX1, TX1, tyX1, List.mem_of_getElem? (i := 2) rfl, rfl, in_X1, tyX1_ok, nmX1, by decide, rfl, List.mem_of_getElem? (i := 123) (by decide +kernel), fun h => by cases h⟩
theorem fi_X1_21 : am_fi RX1 21 2 4 (some 36) := ⟨1, 7, _, RX1, TX1, tyX1, List.mem_of_getElem? (i := 2) rfl, rfl, in_X1, tyX1_ok, nmX1, by decide, rfl, List.mem_of_getElem? (i := 124) (by decide +kernel), fun h => by cases h⟩
theorem fi_X1_24 : am_fi RX1 24 2 0 (some 1) := ⟨1, 7, _, RX1, TX1, tyX1, List.mem_of_getElem? (i := 2) rfl, rfl, in_X1, tyX1_ok, nmX1, by decide, rfl, List.mem_of_getElem? (i := 120) (by decide +kernel), fun h => by cases h⟩
theorem fi_X1_42 : am_fi RX1 42 2 5 (none) := ⟨1, 7, _, RX1, TX1, tyX1, List.mem_of_getElem? (i := 2) rfl, rfl, in_X1, tyX1_ok, nmX1, by decide, rfl, List.mem_of_getElem? (i := 125) (by decide +kernel), fun _ => ⟨rfl, by decide +kernel⟩⟩
theorem fi_X1_46 : am_fi RX1 46 2 6 (none) := ⟨1, 7, _, RX1, TX1, tyX1, List.mem_of_getElem? (i := 2) rfl, rfl, in_X1, tyX1_ok, nmX1, by decide, rfl, List.mem_of_getElem? (i := 127) (by decide +kernel), fun _ => ⟨rfl, by decide +kernel⟩⟩
theorem fi_X2_9 : am_fi RX2 9 6 2 (some 98) := ⟨2, 8, _, RX2, TX2, tyX2, List.mem_of_getElem? (i := 6) rfl, rfl, in_X2, tyX2_ok, nmX2, by decide, rfl, List.mem_of_getElem? (i := 255) (by decide +kernel), fun h => by cases h⟩
theorem fi_X2_15 : am_fi RX2 15 6 3 (some 99) := ⟨2, 8, _, RX2, TX2, tyX2, List.mem_of_getElem? (i := 6) rfl, rfl, in_X2, tyX2_ok, nmX2, by decide, rfl, List.mem_of_getElem? (i := 256) (by decide +kernel), fun h => by cases h⟩
theorem fi_X2_18 : am_fi RX2 18 6 4 (some 100) := ⟨2, 8, _, RX2, TX2, tyX2, List.mem_of_getElem? (i := 6) rfl, rfl, in_X2, tyX2_ok, nmX2, by decide, rfl, List.mem_of_getElem? (i := 257) (by decide +kernel), fun h => by cases h⟩
theorem fi_X2_21 : am_fi RX2 21 6 0 (some 1) := ⟨2, 8, _, RX2, TX2, tyX2, List.mem_of_getElem? (i := 6) rfl, rfl, in_X2, tyX2_ok, nmX2, by decide, rfl, List.mem_of_getElem? (i := 253) (by decide +kernel), fun h => by cases h⟩
theorem fi_X2_25 : am_fi RX2 25 6 1 (some 5) := ⟨2, 8, _, RX2, TX2, tyX2, List.mem_of_getElem? (i := 6) rfl, rfl, in_X2, tyX2_ok, nmX2, by decide, rfl, List.mem_of_getElem? (i := 254) (by decide +kernel), fun h => by cases h⟩
theorem fi_X2_29 : am_fi RX2 29 1 1 (none) := ⟨5, 3, _, RX5, TX5, tyX5, List.mem_of_getElem? (i := 1) rfl, rfl, in_X5, tyX5_ok, nmX5, by decide, rfl, List.mem_of_getElem? (i := 98) (by decide +kernel), fun _ => ⟨rfl, by decide +kernel⟩⟩
theorem fi_X2_35 : am_fi RX2 35 1 2 (none) := ⟨5, 3, _, RX5, TX5, tyX5, List.mem_of_getElem? (i := 1) rfl, rfl, in_X5, tyX5_ok, nmX5, by decide, rfl, List.mem_of_getElem? (i := 102) (by decide +kernel), fun _ => ⟨rfl, by decide +kernel⟩⟩
theorem fi_X2_51 : am_fi RX2 51 5 12 (none) := ⟨7, 13, _, RX7, TX7, tyX7, List.mem_of_getElem? (i := 5) rfl, rfl, in_X7, tyX7_ok, nmX7, by decide, rfl, List.mem_of_getElem? (i := 217) (by decide +kernel), fun _ => ⟨rfl, by decide +kernel⟩⟩
theorem fi_X2_79 : am_fi RX2 79 6 5 (none) := ⟨2, 8, _, RX2, TX2, tyX2, List.mem_of_getElem? (i := 6) rfl, rfl, in_X2, tyX2_ok, nmX2, by decide, rfl, List.mem_of_getElem? (i := 258) (by decide +kernel), fun _ => ⟨rfl, by decide +kernel⟩⟩
theorem fi_X2_93 : am_fi RX2 93 6 6 (none) := ⟨2, 8, _, RX2, TX2, tyX2, List.mem_of_getElem? (i := 6) rfl, rfl, in_X2, tyX2_ok, nmX2, by decide, rfl, List.mem_of_getElem? (i := 260) (by decide +kernel), fun _ => ⟨rfl, by decide +kernel⟩⟩
theorem fi_X2_96 : am_fi RX2 96 6 7 (none) := ⟨2, 8, _, RX2, TX2, tyX2, List.mem_of_getElem? (i := 6) rfl, rfl, in_X2, tyX2_ok, nmX2, by decide, rfl, List.mem_of_getElem? (i := 262) (by decide +kernel), fun _ => ⟨rfl, by decide +kernel⟩⟩
theorem fi_X2_127 : am_fi RX2 127 5 9 (none) := ⟨7, 13, _, RX7, TX7, tyX7, List.mem_of_getElem? (i := 5) rfl, rfl, in_X7, tyX7_ok, nmX7, by decide, rfl, List.mem_of_getElem? (i := 211) (by decide +kernel), fun _ => ⟨rfl, by decide +kernel⟩⟩
theorem fi_X3_9 : am_fi RX3 9 8 0 (some 128) := ⟨3, 6, _, RX3, TX3, tyX3, List.mem_of_getElem? (i := 8) rfl, rfl, in_X3, tyX3_ok, nmX3, by decide, rfl, List.mem_of_getElem? (i := 311) (by decide +kernel), fun h => by cases h⟩
theorem fi_X3_15 : am_fi RX3 15 8 2 (some 130) := ⟨3, 6, _, RX3, TX3, tyX3, List.mem_of_getElem? (i := 8) rfl, rfl, in_X3, tyX3_ok, nmX3, by decide, rfl, List.mem_of_getElem? (i := 314) (by decide +kernel), fun h => by cases h⟩
theorem fi_X3_18 : am_fi RX3 18 8 1 (none) := ⟨3, 6, _, RX3, TX3, tyX3, List.mem_of_getElem? (i := 8) rfl, rfl, in_X3, tyX3_ok, nmX3, by decide, rfl, List.mem_of_getElem? (i := 312) (by decide +kernel), fun _ => ⟨rfl, by decide +kernel⟩⟩
theorem fi_X3_34 : am_fi RX3 34 8 3 (none) := ⟨3, 6, _, RX3, TX3, tyX3, List.mem_of_getElem? (i := 8) rfl, rfl, in_X3, tyX3_ok, nmX3, by decide, rfl, List.mem_of_getElem? (i := 315) (by decide +kernel), fun _ => ⟨rfl, by decide +kernel⟩⟩
theorem fi_X3_43 : am_fi RX3 43 8 4 (none) := ⟨3, 6, _, RX3, TX3, tyX3, List.mem_of_getElem? (i := 8) rfl, rfl, in_X3, tyX3_ok, nmX3, by decide, rfl, List.mem_of_getElem? (i := 317) (by decide +kernel), fun _ => ⟨rfl, by decide +kernel⟩⟩
theorem fi_X3_49 : am_fi RX3 49 8 5 (none) := ⟨3, 6, _, RX3, TX3, tyX3, List.mem_of_getElem? (i := 8) rfl, rfl, in_X3, tyX3_ok, nmX3, by decide, rfl, List.mem_of_getElem? (i := 318) (by decide +kernel), fun _ => ⟨rfl, by decide +kernel⟩⟩
theorem fi_X4_9 : am_fi RX4 9 9 0 (some 144) := ⟨4, 3, _, RX4, TX4, tyX4, List.mem_of_getElem? (i := 9) rfl, rfl, in_X4, tyX4_ok, nmX4, by decide, rfl, List.mem_of_getElem? (i := 340) (by decide +kernel), fun h => by cases h⟩
theorem fi_X4_15 : am_fi RX4 15 9 1 (some 145) := ⟨4, 3, _, RX4, TX4, tyX4, List.mem_of_getElem? (i := 9) rfl, rfl, in_X4, tyX4_ok, nmX4, by decide, rfl, List.mem_of_getElem? (i := 341) (by decide +kernel), fun h => by cases h⟩
theorem fi_X4_20 : am_fi RX4 20 9 2 (some 146) := ⟨4, 3, _, RX4, TX4, tyX4, List.mem_of_getElem? (i := 9) rfl, rfl, in_X4, tyX4_ok, nmX4, by decide, rfl, List.mem_of_getElem? (i := 342) (by decide +kernel), fun h => by cases h⟩
theorem fi_X5_11 : am_fi RX5 11 1 0 (some 16) := ⟨5, 3, _, RX5, TX5, tyX5, List.mem_of_getElem? (i := 1) rfl, rfl, in_X5, tyX5_ok, nmX5, by decide, rfl, List.mem_of_getElem? (i := 96) (by decide +kernel), fun h => by cases h⟩
theorem fi_X5_16 : am_fi RX5 16 1 1 (none) := ⟨5, 3, _, RX5, TX5, tyX5, List.mem_of_getElem? (i := 1) rfl, rfl, in_X5, tyX5_ok, nmX5, by decide, rfl, List.mem_of_getElem? (i := 97) (by decide +kernel), fun _ => ⟨rfl, by decide +kernel⟩⟩
theorem fi_X5_24 : am_fi RX5 24 1 2 (none) := ⟨5, 3, _, RX5, TX5, tyX5, List.mem_of_getElem? (i := 1) rfl, rfl, in_X5, tyX5_ok, nmX5, by decide, rfl, List.mem_of_getElem? (i := 103) (by decide +kernel), fun _ => ⟨rfl, by decide +kernel⟩⟩
theorem fi_X6_9 : am_fi RX6 9 3 0 (some 48) := ⟨6, 5, _, RX6, TX6, tyX6, List.mem_of_getElem? (i := 3) rfl, rfl, in_X6, tyX6_ok, nmX6, by decide, rfl, List.mem_of_getElem? (i := 149) (by decide +kernel), fun h => by cases h⟩
theorem fi_X6_15 : am_fi RX6 15 3 3 (some 51) := ⟨6, 5, _, RX6, TX6, tyX6, List.mem_of_getElem? (i := 3) rfl, rfl, in_X6, tyX6_ok, nmX6, by decide, rfl, List.mem_of_getElem? (i := 153) (by decide +kernel), fun h => by cases h⟩
theorem fi_X6_18 : am_fi RX6 18 3 1 (none) := ⟨6, 5, _, RX6, TX6, tyX6, List.mem_of_getElem? (i := 3) rfl, rfl, in_X6, tyX6_ok, nmX6, by decide, rfl, List.mem_of_getElem? (i := 150) (by decide +kernel), fun _ => ⟨rfl, by decide +kernel⟩⟩
theorem fi_X6_22 : am_fi RX6 22 3 2 (none) := ⟨6, 5, _, RX6, TX6, tyX6, List.mem_of_getElem? (i := 3) rfl, rfl, in_X6, tyX6_ok, nmX6, by decide, rfl, List.mem_of_getElem? (i := 152) (by decide +kernel), fun _ => ⟨rfl, by decide +kernel⟩⟩
theorem fi_X6_25 : am_fi RX6 25 3 4 (none) := ⟨6, 5, _, RX6, TX6, tyX6, List.mem_of_getElem? (i := 3) rfl, rfl, in_X6, tyX6_ok, nmX6, by decide, rfl, List.mem_of_getElem? (i := 154) (by decide +kernel), fun _ => ⟨rfl, by decide +kernel⟩⟩
theorem fi_X7_9 : am_fi RX7 9 5 2 (some 82) := ⟨7, 13, _, RX7, TX7, tyX7, List.mem_of_getElem? (i := 5) rfl, rfl, in_X7, tyX7_ok, nmX7, by decide, rfl, List.mem_of_getElem? (i := 201) (by decide +kernel), fun h => by cases h⟩
theorem fi_X7_15 : am_fi RX7 15 5 3 (some 83) := ⟨7, 13, _, RX7, TX7, tyX7, List.mem_of_getElem? (i := 5) rfl, rfl, in_X7, tyX7_ok, nmX7, by decide, rfl, List.mem_of_getElem? (i := 202) (by decide +kernel), fun h => by cases h⟩
theorem fi_X7_20 : am_fi RX7 20 5 4 (some 84) := ⟨7, 13, _, RX7, TX7, tyX7, List.mem_of_getElem? (i := 5) rfl, rfl, in_X7, tyX7_ok, nmX7, by decide, rfl, List.mem_of_getElem? (i := 203) (by decide +kernel), fun h => by cases h⟩
theorem fi_X7_23 : am_fi RX7 23 5 5 (some 85) := ⟨7, 13, _, RX7, TX7, tyX7, List.mem_of_getElem? (i := 5) rfl, rfl, in_X7, tyX7_ok, nmX7, by decide, rfl, List.mem_of_getElem? (i := 204) (by decide +kernel), fun h => by cases h⟩
theorem fi_X7_26 : am_fi RX7 26 5 0 (some 1) := ⟨7, 13, _, RX7, TX7, tyX7, List.mem_of_getElem? (i := 5) rfl, rfl, in_X7, tyX7_ok, nmX7, by decide, rfl, List.mem_of_getElem? (i := 199) (by decide +kernel), fun h => by cases h⟩
theorem fi_X7_30 : am_fi RX7 30 5 1 (some 4) := ⟨7, 13, _, RX7, TX7, tyX7, List.mem_of_getElem? (i := 5) rfl, rfl, in_X7, tyX7_ok, nmX7, by decide, rfl, List.mem_of_getElem? (i := 200) (by decide +kernel), fun h => by cases h⟩
theorem fi_X7_50 : am_fi RX7 50 1 1 (none) := ⟨5, 3, _, RX5, TX5, tyX5, List.mem_of_getElem? (i := 1) rfl, rfl, in_X5, tyX5_ok, nmX5, by decide, rfl, List.mem_of_getElem? (i := 100) (by decide +kernel), fun _ => ⟨rfl, by decide +kernel⟩⟩
theorem fi_X7_83 : am_fi RX7 83 5 6 (none) := ⟨7, 13, _, RX7, TX7, tyX7, List.mem_of_getElem? (i := 5) rfl, rfl, in_X7, tyX7_ok, nmX7, by decide, rfl, List.mem_of_getElem? (i := 205) (by decide +kernel), fun _ => ⟨rfl, by decide +kernel⟩⟩
theorem fi_X7_86 : am_fi RX7 86 5 7 (none) := ⟨7, 13, _, RX7, TX7, tyX7, List.mem_of_getElem? (i := 5) rfl, rfl, in_X7, tyX7_ok, nmX7, by decide, rfl, List.mem_of_getElem? (i := 206) (by decide +kernel), fun _ => ⟨rfl, by decide +kernel⟩⟩
theorem fi_X7_89 : am_fi RX7 89 5 8 (none) := ⟨7, 13, _, RX7, TX7, tyX7, List.mem_of_getElem? (i := 5) rfl, rfl, in_X7, tyX7_ok, nmX7, by decide, rfl, List.mem_of_getElem? (i := 207) (by decide +kernel), fun _ => ⟨rfl, by decide +kernel⟩⟩
theorem fi_X7_92 : am_fi RX7 92 5 9 (none) := ⟨7, 13, _, RX7, TX7, tyX7, List.mem_of_getElem? (i := 5) rfl, rfl, in_X7, tyX7_ok, nmX7, by decide, rfl, List.mem_of_getElem? (i := 209) (by decide +kernel), fun _ => ⟨rfl, by decide +kernel⟩⟩
theorem fi_X7_95 : am_fi RX7 95 5 10 (none) := ⟨7, 13, _, RX7, TX7, tyX7, List.mem_of_getElem? (i := 5) rfl, rfl, in_X7, tyX7_ok, nmX7, by decide, rfl, List.mem_of_getElem? (i := 212) (by decide +kernel), fun _ => ⟨rfl, by decide +kernel⟩⟩
theorem fi_X7_98 : am_fi RX7 98 5 11 (none) := ⟨7, 13, _, RX7, TX7, tyX7, List.mem_of_getElem? (i := 5) rfl, rfl, in_X7, tyX7_ok, nmX7, by decide, rfl, List.mem_of_getElem? (i := 215) (by decide +kernel), fun _ => ⟨rfl, by decide +kernel⟩⟩
theorem fi_X7_101 : am_fi RX7 101 5 12 (none) := ⟨7, 13, _, RX7, TX7, tyX7, List.mem_of_getElem? (i := 5) rfl, rfl, in_X7, tyX7_ok, nmX7, by decide, rfl, List.mem_of_getElem? (i := 218) (by decide +kernel), fun _ => ⟨rfl, by decide +kernel⟩⟩
theorem fi_X8_11 : am_fi RX8 11 4 0 (some 64) := ⟨8, 6, _, RX8, TX8, tyX8, List.mem_of_getElem? (i := 4) rfl, rfl, in_X8, tyX8_ok, nmX8, by decide, rfl, List.mem_of_getElem? (i := 173) (by decide +kernel), fun h => by cases h⟩
theorem fi_X8_16 : am_fi RX8 16 4 1 (some 65) := ⟨8, 6, _, RX8, TX8, tyX8, List.mem_of_getElem? (i := 4) rfl, rfl, in_X8, tyX8_ok, nmX8, by decide, rfl, List.mem_of_getElem? (i := 174) (by decide +kernel), fun h => by cases h⟩
theorem fi_X8_20 : am_fi RX8 20 4 3 (some 67) := ⟨8, 6, _, RX8, TX8, tyX8, List.mem_of_getElem? (i := 4) rfl, rfl, in_X8, tyX8_ok, nmX8, by decide, rfl, List.mem_of_getElem? (i := 176) (by decide +kernel), fun h => by cases h⟩
theorem fi_X8_23 : am_fi RX8 23 4 4 (some 68) := ⟨8, 6, _, RX8, TX8, tyX8, List.mem_of_getElem? (i := 4) rfl, rfl, in_X8, tyX8_ok, nmX8, by decide, rfl, List.mem_of_getElem? (i := 177) (by decide +kernel), fun h => by cases h⟩
theorem fi_X8_26 : am_fi RX8 26 4 2 (none) := ⟨8, 6, _, RX8, TX8, tyX8, List.mem_of_getElem? (i := 4) rfl, rfl, in_X8, tyX8_ok, nmX8, by decide, rfl, List.mem_of_getElem? (i := 175) (by decide +kernel), fun _ => ⟨rfl, by decide +kernel⟩⟩
theorem fi_X8_50 : am_fi RX8 50 4 5 (none) := ⟨8, 6, _, RX8, TX8, tyX8, List.mem_of_getElem? (i := 4) rfl, rfl, in_X8, tyX8_ok, nmX8, by decide, rfl, List.mem_of_getElem? (i := 178) (by decide +kernel), fun _ => ⟨rfl, by decide +kernel⟩⟩
theorem fi_X10_9 : am_fi RX10 9 10 0 (some 160) := ⟨10, 55, _, RX10, TX10, tyX10, List.mem_of_getElem? (i := 10) rfl, rfl, in_X10, tyX10_ok, nmX10, by decide, rfl, List.mem_of_getElem? (i := 1038) (by decide +kernel), fun h => by cases h⟩
theorem fi_X10_13 : am_fi RX10 13 10 1 (some 161) := ⟨10, 55, _, RX10, TX10, tyX10, List.mem_of_getElem? (i := 10) rfl, rfl, in_X10, tyX10_ok, nmX10, by decide, rfl, List.mem_of_getElem? (i := 1039) (by decide +kernel), fun h => by cases h⟩
theorem fi_X10_16 : am_fi RX10 16 10 2 (some 162) := ⟨10, 55, _, RX10, TX10, tyX10, List.mem_of_getElem? (i := 10) rfl, rfl, in_X10, tyX10_ok, nmX10, by decide, rfl, List.mem_of_getElem? (i := 1040) (by decide +kernel), fun h => by cases h⟩
theorem fi_X10_19 : am_fi RX10 19 10 3 (some 163) := ⟨10, 55, _, RX10, TX10, tyX10, List.mem_of_getElem? (i := 10) rfl, rfl, in_X10, tyX10_ok, nmX10, by decide, rfl, List.mem_of_getElem? (i := 1041) (by decide +kernel), fun h => by cases h⟩
theorem fi_X10_22 : am_fi RX10 22 10 7 (some 167) := ⟨10, 55, _, RX10, TX10, tyX10, List.mem_of_getElem? (i := 10) rfl, rfl, in_X10, tyX10_ok, nmX10, by decide, rfl, List.mem_of_getElem? (i := 1045) (by decide +kernel), fun h => by cases h⟩
theorem fi_X10_25 : am_fi RX10 25 10 9 (some 169) := ⟨10, 55, _, RX10, TX10, tyX10, List.mem_of_getElem? (i := 10) rfl, rfl, in_X10, tyX10_ok, nmX10, by decide, rfl, List.mem_of_getElem? (i := 1047) (by decide +kernel), fun h => by cases h⟩
theorem fi_X10_28 : am_fi RX10 28 10 10 (some 170) := ⟨10, 55, _, RX10, TX10, tyX10, List.mem_of_getElem? (i := 10) rfl, rfl, in_X10, tyX10_ok, nmX10, by decide, rfl, List.mem_of_getElem? (i := 1048) (by decide +kernel), fun h => by cases h⟩
theorem fi_X10_31 : am_fi RX10 31 10 11 (some 171) := ⟨10, 55, _, RX10, TX10, tyX10, List.mem_of_getElem? (i := 10) rfl, rfl, in_X10, tyX10_ok, nmX10, by decide, rfl, List.mem_of_getElem? (i := 1049) (by decide +kernel), fun h => by cases h⟩
theorem fi_X10_34 : am_fi RX10 34 10 12 (some 172) := ⟨10, 55, _, RX10, TX10, tyX10, List.mem_of_getElem? (i := 10) rfl, rfl, in_X10, tyX10_ok, nmX10, by decide, rfl, List.mem_of_getElem? (i := 1050) (by decide +kernel), fun h => by cases h⟩
theorem fi_X10_37 : am_fi RX10 37 10 13 (some 173) := ⟨10, 55, _, RX10, TX10, tyX10, List.mem_of_getElem? (i := 10) rfl, rfl, in_X10, tyX10_ok, nmX10, by decide, rfl, List.mem_of_getElem? (i := 1051) (by decide +kernel), fun h => by cases h⟩
theorem fi_X10_40 : am_fi RX10 40 10 16 (some 176) := ⟨10, 55, _, RX10, TX10, tyX10, List.mem_of_getElem? (i := 10) rfl, rfl, in_X10, tyX10_ok, nmX10, by decide, rfl, List.mem_of_getElem? (i := 1054) (by decide +kernel), fun h => by cases h⟩
theorem fi_X10_43 : am_fi RX10 43 10 17 (some 177) := ⟨10, 55, _, RX10, TX10, tyX10, List.mem_of_getElem? (i := 10) rfl, rfl, in_X10, tyX10_ok, nmX10, by decide, rfl, List.mem_of_getElem? (i := 1055) (by decide +kernel), fun h => by cases h⟩
theorem fi_X10_46 : am_fi RX10 46 10 23 (some 183) := ⟨10, 55, _, RX10, TX10, tyX10, List.mem_of_getElem? (i := 10) rfl, rfl, in_X10, tyX10_ok, nmX10, by decide, rfl, List.mem_of_getElem? (i := 1061) (by decide +kernel), fun h => by cases h⟩
theorem fi_X10_49 : am_fi RX10 49 10 24 (some 184) := ⟨10, 55, _, RX10, TX10, tyX10, List.mem_of_getElem? (i := 10) rfl, rfl, in_X10, tyX10_ok, nmX10, by decide, rfl, List.mem_of_getElem? (i := 1062) (by decide +kernel), fun h => by cases h⟩
theorem fi_X10_52 : am_fi RX10 52 10 25 (some 185) := ⟨10, 55, _, RX10, TX10, tyX10, List.mem_of_getElem? (i := 10) rfl, rfl, in_X10, tyX10_ok, nmX10, by decide, rfl, List.mem_of_getElem? (i := 1063) (by decide +kernel), fun h => by cases h⟩
theorem fi_X10_55 : am_fi RX10 55 10 29 (none) := ⟨10, 55, _, RX10, TX10, tyX10, List.mem_of_getElem? (i := 10) rfl, rfl, in_X10, tyX10_ok, nmX10, by decide, rfl, List.mem_of_getElem? (i := 1067) (by decide +kernel), fun _ => ⟨rfl, by decide +kernel⟩⟩
theorem fi_X10_59 : am_fi RX10 59 10 33 (some 193) := ⟨10, 55, _, RX10, TX10, tyX10, List.mem_of_getElem? (i := 10) rfl, rfl, in_X10, tyX10_ok, nmX10, by decide, rfl, List.mem_of_getElem? (i := 1071) (by decide +kernel), fun h => by cases h⟩
theorem fi_X10_62 : am_fi RX10 62 10 34 (some 194) := ⟨10, 55, _, RX10, TX10, tyX10, List.mem_of_getElem? (i := 10) rfl, rfl, in_X10, tyX10_ok, nmX10, by decide, rfl, List.mem_of_getElem? (i := 1072) (by decide +kernel), fun h => by cases h⟩
theorem fi_X10_65 : am_fi RX10 65 10 39 (some 199) := ⟨10, 55, _, RX10, TX10, tyX10, List.mem_of_getElem? (i := 10) rfl, rfl, in_X10, tyX10_ok, nmX10, by decide, rfl, List.mem_of_getElem? (i := 1077) (by decide +kernel), fun h => by cases h⟩
theorem fi_X10_68 : am_fi RX10 68 10 40 (some 200) := ⟨10, 55, _, RX10, TX10, tyX10, List.mem_of_getElem? (i := 10) rfl, rfl, in_X10, tyX10_ok, nmX10, by decide, rfl, List.mem_of_getElem? (i := 1078) (by decide +kernel), fun h => by cases h⟩
theorem fi_X10_71 : am_fi RX10 71 10 41 (some 201) := ⟨10, 55, _, RX10, TX10, tyX10, List.mem_of_getElem? (i := 10) rfl, rfl, in_X10, tyX10_ok, nmX10, by decide, rfl, List.mem_of_getElem? (i := 1079) (by decide +kernel), fun h => by cases h⟩
theorem fi_X10_74 : am_fi RX10 74 10 44 (some 204) := ⟨10, 55, _, RX10, TX10, tyX10, List.mem_of_getElem? (i := 10) rfl, rfl, in_X10, tyX10_ok, nmX10, by decide, rfl, List.mem_of_getElem? (i := 1082) (by decide +kernel), fun h => by cases h⟩
theorem fi_X10_77 : am_fi RX10 77 10 46 (some 206) := ⟨10, 55, _, RX10, TX10, tyX10, List.mem_of_getElem? (i := 10) rfl, rfl, in_X10, tyX10_ok, nmX10, by decide, rfl, List.mem_of_getElem? (i := 1084) (by decide +kernel), fun h => by cases h⟩
theorem fi_X10_80 : am_fi RX10 80 10 47 (some 207) := ⟨10, 55, _, RX10, TX10, tyX10, List.mem_of_getElem? (i := 10) rfl, rfl, in_X10, tyX10_ok, nmX10, by decide, rfl, List.mem_of_getElem? (i := 1085) (by decide +kernel), fun h => by cases h⟩
theorem fi_X10_83 : am_fi RX10 83 10 51 (some 211) := ⟨10, 55, _, RX10, TX10, tyX10, List.mem_of_getElem? (i := 10) rfl, rfl, in_X10, tyX10_ok, nmX10, by decide, rfl, List.mem_of_getElem? (i := 1089) (by decide +kernel), fun h => by cases h⟩
theorem fi_X10_86 : am_fi RX10 86 10 52 (some 212) := ⟨10, 55, _, RX10, TX10, tyX10, List.mem_of_getElem? (i := 10) rfl, rfl, in_X10, tyX10_ok, nmX10, by decide, rfl, List.mem_of_getElem? (i := 1090) (by decide +kernel), fun h => by cases h⟩
theorem fi_X10_89 : am_fi RX10 89 10 53 (some 213) := ⟨10, 55, _, RX10, TX10, tyX10, List.mem_of_getElem? (i := 10) rfl, rfl, in_X10, tyX10_ok, nmX10, by decide, rfl, List.mem_of_getElem? (i := 1091) (by decide +kernel), fun h => by cases h⟩
theorem fi_X10_93 : am_fi RX10 93 10 54 (some 214) := ⟨10, 55, _, RX10, TX10, tyX10, List.mem_of_getElem? (i := 10) rfl, rfl, in_X10, tyX10_ok, nmX10, by decide, rfl, List.mem_of_getElem? (i := 1092) (by decide +kernel), fun h => by cases h⟩
theorem fi_X10_96 : am_fi RX10 96 10 5 (none) := ⟨10, 55, _, RX10, TX10, tyX10, List.mem_of_getElem? (i := 10) rfl, rfl, in_X10, tyX10_ok, nmX10, by decide, rfl, List.mem_of_getElem? (i := 1043) (by decide +kernel), fun _ => ⟨rfl, by decide +kernel⟩⟩
theorem fi_X10_99 : am_fi RX10 99 10 4 (none) := ⟨10, 55, _, RX10, TX10, tyX10, List.mem_of_getElem? (i := 10) rfl, rfl, in_X10, tyX10_ok, nmX10, by decide, rfl, List.mem_of_getElem? (i := 1042) (by decide +kernel), fun _ => ⟨rfl, by decide +kernel⟩⟩
theorem fi_X10_102 : am_fi RX10 102 10 6 (none) := ⟨10, 55, _, RX10, TX10, tyX10, List.mem_of_getElem? (i := 10) rfl, rfl, in_X10, tyX10_ok, nmX10, by decide, rfl, List.mem_of_getElem? (i := 1044) (by decide +kernel), fun _ => ⟨rfl, by decide +kernel⟩⟩
theorem fi_X10_109 : am_fi RX10 109 10 8 (none) := ⟨10, 55, _, RX10, TX10, tyX10, List.mem_of_getElem? (i := 10) rfl, rfl, in_X10, tyX10_ok, nmX10, by decide, rfl, List.mem_of_getElem? (i := 1046) (by decide +kernel), fun _ => ⟨rfl, by decide +kernel⟩⟩
theorem fi_X10_141 : am_fi RX10 141 10 15 (none) := ⟨10, 55, _, RX10, TX10, tyX10, List.mem_of_getElem? (i := 10) rfl, rfl, in_X10, tyX10_ok, nmX10, by decide, rfl, List.mem_of_getElem? (i := 1053) (by decide +kernel), fun _ => ⟨rfl, by decide +kernel⟩⟩
theorem fi_X10_158 : am_fi RX10 158 10 14 (none) := ⟨10, 55, _, RX10, TX10, tyX10, List.mem_of_getElem? (i := 10) rfl, rfl, in_X10, tyX10_ok, nmX10, by decide, rfl, List.mem_of_getElem? (i := 1052) (by decide +kernel), fun _ => ⟨rfl, by decide +kernel⟩⟩
theorem fi_X10_161 : am_fi RX10 161 10 19 (none) := ⟨10, 55, _, RX10, TX10, tyX10, List.mem_of_getElem? (i := 10) rfl, rfl, in_X10, tyX10_ok, nmX10, by decide, rfl, List.mem_of_getElem? (i := 1057) (by decide +kernel), fun _ => ⟨rfl, by decide +kernel⟩⟩
theorem fi_X10_164 : am_fi RX10 164 10 20 (none) := ⟨10, 55, _, RX10, TX10, tyX10, List.mem_of_getElem? (i := 10) rfl, rfl, in_X10, tyX10_ok, nmX10, by decide, rfl, List.mem_of_getElem? (i := 1058) (by decide +kernel), fun _ => ⟨rfl, by decide +kernel⟩⟩
theorem fi_X10_167 : am_fi RX10 167 10 18 (none) := ⟨10, 55, _, RX10, TX10, tyX10, List.mem_of_getElem? (i := 10) rfl, rfl, in_X10, tyX10_ok, nmX10, by decide, rfl, List.mem_of_getElem? (i := 1056) (by decide +kernel), fun _ => ⟨rfl, by decide +kernel⟩⟩
theorem fi_X10_170 : am_fi RX10 170 10 21 (none) := ⟨10, 55, _, RX10, TX10, tyX10, List.mem_of_getElem? (i := 10) rfl, rfl, in_X10, tyX10_ok, nmX10, by decide, rfl, List.mem_of_getElem? (i := 1059) (by decide +kernel), fun _ => ⟨rfl, by decide +kernel⟩⟩
theorem fi_X10_194 : am_fi RX10 194 10 22 (none) := ⟨10, 55, _, RX10, TX10, tyX10, List.mem_of_getElem? (i := 10) rfl, rfl, in_X10, tyX10_ok, nmX10, by decide, rfl, List.mem_of_getElem? (i := 1060) (by decide +kernel), fun _ => ⟨rfl, by decide +kernel⟩⟩
theorem fi_X10_213 : am_fi RX10 213 10 26 (none) := ⟨10, 55, _, RX10, TX10, tyX10, List.mem_of_getElem? (i := 10) rfl, rfl, in_X10, tyX10_ok, nmX10, by decide, rfl, List.mem_of_getElem? (i := 1064) (by decide +kernel), fun _ => ⟨rfl, by decide +kernel⟩⟩
theorem fi_X10_216 : am_fi RX10 216 10 27 (none) := ⟨10, 55, _, RX10, TX10, tyX10, List.mem_of_getElem? (i := 10) rfl, rfl, in_X10, tyX10_ok, nmX10, by decide, rfl, List.mem_of_getElem? (i := 1065) (by decide +kernel), fun _ => ⟨rfl, by decide +kernel⟩⟩
theorem fi_X10_219 : am_fi RX10 219 10 28 (none) := ⟨10, 55, _, RX10, TX10, tyX10, List.mem_of_getElem? (i := 10) rfl, rfl, in_X10, tyX10_ok, nmX10, by decide, rfl, List.mem_of_getElem? (i := 1066) (by decide +kernel), fun _ => ⟨rfl, by decide +kernel⟩⟩
theorem fi_X10_232 : am_fi RX10 232 10 30 (none) := ⟨10, 55, _, RX10, TX10, tyX10, List.mem_of_getElem? (i := 10) rfl, rfl, in_X10, tyX10_ok, nmX10, by decide, rfl, List.mem_of_getElem? (i := 1068) (by decide +kernel), fun _ => ⟨rfl, by decide +kernel⟩⟩
theorem fi_X10_235 : am_fi RX10 235 10 31 (none) := ⟨10, 55, _, RX10, TX10, tyX10, List.mem_of_getElem? (i := 10) rfl, rfl, in_X10, tyX10_ok, nmX10, by decide, rfl, List.mem_of_getElem? (i := 1069) (by decide +kernel), fun _ => ⟨rfl, by decide +kernel⟩⟩
theorem fi_X10_238 : am_fi RX10 238 10 32 (none) := ⟨10, 55, _, RX10, TX10, tyX10, List.mem_of_getElem? (i := 10) rfl, rfl, in_X10, tyX10_ok, nmX10, by decide, rfl, List.mem_of_getElem? (i := 1070) (by decide +kernel), fun _ => ⟨rfl, by decide +kernel⟩⟩
theorem fi_X10_263 : am_fi RX10 263 10 35 (none) := ⟨10, 55, _, RX10, TX10, tyX10, List.mem_of_getElem? (i := 10) rfl, rfl, in_X10, tyX10_ok, nmX10, by decide, rfl, List.mem_of_getElem? (i := 1073) (by decide +kernel), fun _ => ⟨rfl, by decide +kernel⟩⟩
theorem fi_X10_266 : am_fi RX10 266 10 36 (none) := ⟨10, 55, _, RX10, TX10, tyX10, List.mem_of_getElem? (i := 10) rfl, rfl, in_X10, tyX10_ok, nmX10, by decide, rfl, List.mem_of_getElem? (i := 1074) (by decide +kernel), fun _ => ⟨rfl, by decide +kernel⟩⟩
theorem fi_X10_269 : am_fi RX10 269 10 37 (none) := ⟨10, 55, _, RX10, TX10, tyX10, List.mem_of_getElem? (i := 10) rfl, rfl, in_X10, tyX10_ok, nmX10, by decide, rfl, List.mem_of_getElem? (i := 1075) (by decide +kernel), fun _ => ⟨rfl, by decide +kernel⟩⟩
theorem fi_X10_272 : am_fi RX10 272 10 38 (none) := ⟨10, 55, _, RX10, TX10, tyX10, List.mem_of_getElem? (i := 10) rfl, rfl, in_X10, tyX10_ok, nmX10, by decide, rfl, List.mem_of_getElem? (i := 1076) (by decide +kernel), fun _ => ⟨rfl, by decide +kernel⟩⟩
theorem fi_X10_294 : am_fi RX10 294 10 42 (none) := ⟨10, 55, _, RX10, TX10, tyX10, List.mem_of_getElem? (i := 10) rfl, rfl, in_X10, tyX10_ok, nmX10, by decide, rfl, List.mem_of_getElem? (i := 1080) (by decide +kernel), fun _ => ⟨rfl, by decide +kernel⟩⟩
theorem fi_X10_297 : am_fi RX10 297 10 43 (none) := ⟨10, 55, _, RX10, TX10, tyX10, List.mem_of_getElem? (i := 10) rfl, rfl, in_X10, tyX10_ok, nmX10, by decide, rfl, List.mem_of_getElem? (i := 1081) (by decide +kernel), fun _ => ⟨rfl, by decide +kernel⟩⟩
theorem fi_X10_327 : am_fi RX10 327 10 45 (none) := ⟨10, 55, _, RX10, TX10, tyX10, List.mem_of_getElem? (i := 10) rfl, rfl, in_X10, tyX10_ok, nmX10, by decide, rfl, List.mem_of_getElem? (i := 1083) (by decide +kernel), fun _ => ⟨rfl, by decide +kernel⟩⟩
theorem fi_X10_332 : am_fi RX10 332 10 48 (none) := ⟨10, 55, _, RX10, TX10, tyX10, List.mem_of_getElem? (i := 10) rfl, rfl, in_X10, tyX10_ok, nmX10, by decide, rfl, List.mem_of_getElem? (i := 1086) (by decide +kernel), fun _ => ⟨rfl, by decide +kernel⟩⟩
theorem fi_X10_341 : am_fi RX10 341 10 50 (none) := ⟨10, 55, _, RX10, TX10, tyX10, List.mem_of_getElem? (i := 10) rfl, rfl, in_X10, tyX10_ok, nmX10, by decide, rfl, List.mem_of_getElem? (i := 1088) (by decide +kernel), fun _ => ⟨rfl, by decide +kernel⟩⟩
theorem fi_X10_347 : am_fi RX10 347 10 49 (none) := ⟨10, 55, _, RX10, TX10, tyX10, List.mem_of_getElem? (i := 10) rfl, rfl, in_X10, tyX10_ok, nmX10, by decide, rfl, List.mem_of_getElem? (i := 1087) (by decide +kernel), fun _ => ⟨rfl, by decide +kernel⟩⟩
abbrev me_X9_isWithin : am_Me := (yX9_isWithin, cX9_isWithin, 3, some .boolean)
abbrev me_X5_at : am_Me := (yX5_at, cX5_at, 3, some .int)
abbrev me_X7_recall : am_Me := (yX7_recall, cX7_recall, 2, none)
abbrev me_X8_name : am_Me := (yX8_name, cX8_name, 3, none)
abbrev me_X7_coinOf : am_Me := (yX7_coinOf, cX7_coinOf, 2, some .int)
abbrev me_X7_pointsOf : am_Me := (yX7_pointsOf, cX7_pointsOf, 2, some .int)
abbrev me_X8_pop : am_Me := (yX8_pop, cX8_pop, 1, some .int)
abbrev me_X8_push : am_Me := (yX8_push, cX8_push, 2, none)
abbrev me_X6_isName : am_Me := (yX6_isName, cX6_isName, 1, some .boolean)
abbrev me_X8_joined : am_Me := (yX8_joined, cX8_joined, 3, some .int)
abbrev me_X8_doStep : am_Me := (yX8_doStep, cX8_doStep, 3, none)
abbrev me_X8_workOut : am_Me := (yX8_workOut, cX8_workOut, 5, some .int)
abbrev me_X7_worthOf : am_Me := (yX7_worthOf, cX7_worthOf, 4, some .int)
abbrev me_X7_weigh : am_Me := (yX7_weigh, cX7_weigh, 4, none)
abbrev me_X5_pointsInAll : am_Me := (yX5_pointsInAll, cX5_pointsInAll, 2, some .int)
abbrev me_X7_compare : am_Me := (yX7_compare, cX7_compare, 6, none)
abbrev me_X7_isPayable : am_Me := (yX7_isPayable, cX7_isPayable, 4, some .boolean)
abbrev me_X7_descend : am_Me := (yX7_descend, cX7_descend, 9, none)
abbrev me_X7_search : am_Me := (yX7_search, cX7_search, 4, none)
abbrev me_X7_choose : am_Me := (yX7_choose, cX7_choose, 2, none)
abbrev me_X0_plainWorth : am_Me := (yX0_plainWorth, cX0_plainWorth, 2, some .int)
abbrev me_X7_think : am_Me := (yX7_think, cX7_think, 4, none)
abbrev me_X0_exchange : am_Me := (yX0_exchange, cX0_exchange, 5, none)
abbrev me_X0_pointsThere : am_Me := (yX0_pointsThere, cX0_pointsThere, 3, some .int)
abbrev me_X0_pointsTaken : am_Me := (yX0_pointsTaken, cX0_pointsTaken, 4, some .int)
abbrev me_X0_byStealth : am_Me := (yX0_byStealth, cX0_byStealth, 6, some .int)
abbrev me_X5_allHeads : am_Me := (yX5_allHeads, cX5_allHeads, 3, some .int)
abbrev me_X7_worthOfFirst : am_Me := (yX7_worthOfFirst, cX7_worthOfFirst, 3, some .int)
abbrev me_X0_equalWorth : am_Me := (yX0_equalWorth, cX0_equalWorth, 5, some .int)
abbrev me_X0_coinWorth : am_Me := (yX0_coinWorth, cX0_coinWorth, 4, some .int)
abbrev me_X0_otherwise : am_Me := (yX0_otherwise, cX0_otherwise, 3, some .int)
abbrev me_X0_losers : am_Me := (yX0_losers, cX0_losers, 4, some .int)
abbrev me_X0_live : am_Me := (yX0_live, cX0_live, 8, none)
abbrev me_X0_spread : am_Me := (yX0_spread, cX0_spread, 9, none)
abbrev me_X0_reachAll : am_Me := (yX0_reachAll, cX0_reachAll, 3, none)
abbrev me_X0_gainByForesight : am_Me := (yX0_gainByForesight, cX0_gainByForesight, 6, some .int)
abbrev me_X1_dropFirst : am_Me := (yX1_dropFirst, cX1_dropFirst, 2, none)
abbrev me_X1_note : am_Me := (yX1_note, cX1_note, 5, none)
abbrev me_X5_write : am_Me := (yX5_write, cX5_write, 4, none)
abbrev me_X1_change : am_Me := (yX1_change, cX1_change, 5, some .int)
abbrev me_X1_goBack : am_Me := (yX1_goBack, cX1_goBack, 1, some .int)
abbrev me_X1_goOn : am_Me := (yX1_goOn, cX1_goOn, 1, some .int)
abbrev me_X5_digitOf : am_Me := (yX5_digitOf, cX5_digitOf, 5, some .int)
abbrev me_X2_wantAll : am_Me := (yX2_wantAll, cX2_wantAll, 3, none)
abbrev me_X2_wantedOf : am_Me := (yX2_wantedOf, cX2_wantedOf, 2, some .int)
abbrev me_X2_overOf : am_Me := (yX2_overOf, cX2_overOf, 2, some .int)
abbrev me_X2_bothTogether : am_Me := (yX2_bothTogether, cX2_bothTogether, 3, some .int)
abbrev me_X2_keepLeast : am_Me := (yX2_keepLeast, cX2_keepLeast, 2, none)
abbrev me_J_compare : am_Me := (⟨"java/lang/Integer", "compare", "(II)I"⟩, prog_13_method_40_code, 2, some .int)
abbrev me_X2_movePoints : am_Me := (yX2_movePoints, cX2_movePoints, 5, some .boolean)
abbrev me_X2_findPoints : am_Me := (yX2_findPoints, cX2_findPoints, 3, none)
abbrev me_X2_leastPointsOf : am_Me := (yX2_leastPointsOf, cX2_leastPointsOf, 2, some .int)
abbrev me_X2_hear : am_Me := (yX2_hear, cX2_hear, 4, some .int)
abbrev me_X2_faultOf : am_Me := (yX2_faultOf, cX2_faultOf, 7, some .int)
abbrev me_X2_toldOf : am_Me := (yX2_toldOf, cX2_toldOf, 4, some .int)
abbrev me_X2_judged : am_Me := (yX2_judged, cX2_judged, 3, some .int)
abbrev me_X2_servesAll : am_Me := (yX2_servesAll, cX2_servesAll, 3, some .boolean)
abbrev me_X2_takersOf : am_Me := (yX2_takersOf, cX2_takersOf, 4, some .int)
abbrev me_X2_cheapest : am_Me := (yX2_cheapest, cX2_cheapest, 5, some .int)
abbrev me_X2_offOf : am_Me := (yX2_offOf, cX2_offOf, 3, some .int)
abbrev me_X2_findWorst : am_Me := (yX2_findWorst, cX2_findWorst, 3, some .int)
abbrev me_X3_has : am_Me := (yX3_has, cX3_has, 2, some .boolean)
abbrev me_X3_add : am_Me := (yX3_add, cX3_add, 2, some .int)
abbrev me_X3_kindOf : am_Me := (yX3_kindOf, cX3_kindOf, 2, some .int)
abbrev me_X3_aboveOf : am_Me := (yX3_aboveOf, cX3_aboveOf, 1, some .int)
abbrev me_X3_isUnder : am_Me := (yX3_isUnder, cX3_isUnder, 5, some .boolean)
abbrev me_X3_forget : am_Me := (yX3_forget, cX3_forget, 1, none)
abbrev me_X3_traced : am_Me := (yX3_traced, cX3_traced, 2, some .int)
abbrev me_X3_bodyOf : am_Me := (yX3_bodyOf, cX3_bodyOf, 2, some .int)
abbrev me_X3_run : am_Me := (yX3_run, cX3_run, 7, some .int)
abbrev me_X3_runBody : am_Me := (yX3_runBody, cX3_runBody, 5, some .int)
abbrev me_X3_start : am_Me := (yX3_start, cX3_start, 4, some .int)
abbrev me_X4_isShelf : am_Me := (yX4_isShelf, cX4_isShelf, 2, some .boolean)
abbrev me_X4_heldOn : am_Me := (yX4_heldOn, cX4_heldOn, 2, some .int)
abbrev me_X4_sizeOn : am_Me := (yX4_sizeOn, cX4_sizeOn, 2, some .int)
abbrev me_X4_hold : am_Me := (yX4_hold, cX4_hold, 5, none)
abbrev me_X4_holdsPart : am_Me := (yX4_holdsPart, cX4_holdsPart, 4, some .boolean)
abbrev me_X4_refusalOf : am_Me := (yX4_refusalOf, cX4_refusalOf, 3, some .int)
abbrev me_X4_refusalOfTwo : am_Me := (yX4_refusalOfTwo, cX4_refusalOfTwo, 3, some .int)
abbrev me_X4_read : am_Me := (yX4_read, cX4_read, 3, some .long)
abbrev me_X4_lowest : am_Me := (yX4_lowest, cX4_lowest, 3, some .long)
abbrev me_X4_write : am_Me := (yX4_write, cX4_write, 5, none)
abbrev me_X4_copy : am_Me := (yX4_copy, cX4_copy, 6, none)
abbrev me_X5_hasThing : am_Me := (yX5_hasThing, cX5_hasThing, 2, some .boolean)
abbrev me_X5_hasSort : am_Me := (yX5_hasSort, cX5_hasSort, 2, some .boolean)
abbrev me_X5_addThing : am_Me := (yX5_addThing, cX5_addThing, 5, some .int)
abbrev me_X5_addSort : am_Me := (yX5_addSort, cX5_addSort, 4, some .int)
abbrev me_X5_isBasket : am_Me := (yX5_isBasket, cX5_isBasket, 4, some .boolean)
abbrev me_X6_take : am_Me := (yX6_take, cX6_take, 4, some .int)
abbrev me_X6_empty : am_Me := (yX6_empty, cX6_empty, 1, none)
abbrev me_X6_place : am_Me := (yX6_place, cX6_place, 1, some .int)
abbrev me_X6_size : am_Me := (yX6_size, cX6_size, 1, some .int)
abbrev me_X6_stepAt : am_Me := (yX6_stepAt, cX6_stepAt, 2, some .int)
abbrev me_X6_here : am_Me := (yX6_here, cX6_here, 1, some .int)
abbrev me_X6_write : am_Me := (yX6_write, cX6_write, 2, none)
abbrev me_X6_readNumber : am_Me := (yX6_readNumber, cX6_readNumber, 3, none)
abbrev me_X6_levelOf : am_Me := (yX6_levelOf, cX6_levelOf, 1, some .int)
abbrev me_X6_readInside : am_Me := (yX6_readInside, cX6_readInside, 2, some .boolean)
abbrev me_X6_readLevel : am_Me := (yX6_readLevel, cX6_readLevel, 7, some .boolean)
abbrev me_X6_readOne : am_Me := (yX6_readOne, cX6_readOne, 3, some .boolean)
abbrev me_X6_readSigned : am_Me := (yX6_readSigned, cX6_readSigned, 4, some .boolean)
abbrev me_X6_readLine : am_Me := (yX6_readLine, cX6_readLine, 2, some .boolean)
abbrev me_X6_reads : am_Me := (yX6_reads, cX6_reads, 3, some .boolean)
abbrev me_X8_known : am_Me := (yX8_known, cX8_known, 1, some .int)
abbrev me_X8_learn : am_Me := (yX8_learn, cX8_learn, 4, some .int)
abbrev me_X9_thing : am_Me := (yX9_thing, cX9_thing, 4, some .int)
abbrev me_X9_comesFrom : am_Me := (yX9_comesFrom, cX9_comesFrom, 8, some .boolean)
abbrev me_X9_things : am_Me := (yX9_things, cX9_things, 6, some .int)
abbrev me_X9_mend : am_Me := (yX9_mend, cX9_mend, 4, some .int)
abbrev me_X9_sort : am_Me := (yX9_sort, cX9_sort, 4, some .int)
abbrev me_X9_purse : am_Me := (yX9_purse, cX9_purse, 4, some .int)
abbrev me_X9_of : am_Me := (yX9_of, cX9_of, 3, some .int)
abbrev me_X9_feed : am_Me := (yX9_feed, cX9_feed, 3, some .int)
abbrev me_X9_want : am_Me := (yX9_want, cX9_want, 3, some .int)
abbrev me_X9_worth : am_Me := (yX9_worth, cX9_worth, 3, some .int)
abbrev me_X9_basket : am_Me := (yX9_basket, cX9_basket, 3, some .int)
abbrev me_X9_wanted : am_Me := (yX9_wanted, cX9_wanted, 4, some .int)
abbrev me_X9_led : am_Me := (yX9_led, cX9_led, 3, some .int)
abbrev me_X9_found : am_Me := (yX9_found, cX9_found, 3, some .int)
abbrev me_X9_set : am_Me := (yX9_set, cX9_set, 3, some .int)
abbrev me_X9_tell : am_Me := (yX9_tell, cX9_tell, 3, some .int)
abbrev me_X9_judge : am_Me := (yX9_judge, cX9_judge, 1, some .int)
abbrev me_X9_changed : am_Me := (yX9_changed, cX9_changed, 5, some .int)
abbrev me_X9_free : am_Me := (yX9_free, cX9_free, 3, some .int)
abbrev me_X9_black : am_Me := (yX9_black, cX9_black, 4, some .int)
abbrev me_X9_isShare : am_Me := (yX9_isShare, cX9_isShare, 1, some .boolean)
abbrev me_X9_beside : am_Me := (yX9_beside, cX9_beside, 3, some .int)
abbrev me_X9_loses : am_Me := (yX9_loses, cX9_loses, 2, some .int)
abbrev me_J_bitCount : am_Me := (⟨"java/lang/Integer", "bitCount", "(I)I"⟩, prog_13_method_49_code, 1, some .int)
abbrev me_X9_fewest : am_Me := (yX9_fewest, cX9_fewest, 3, some .int)
abbrev me_X9_least : am_Me := (yX9_least, cX9_least, 2, some .int)
abbrev me_X9_months : am_Me := (yX9_months, cX9_months, 5, some .int)
abbrev me_X9_foresight : am_Me := (yX9_foresight, cX9_foresight, 2, some .int)
abbrev me_X9_cheap : am_Me := (yX9_cheap, cX9_cheap, 2, some .int)
abbrev me_X9_wrong : am_Me := (yX9_wrong, cX9_wrong, 3, some .int)
abbrev me_X9_undo : am_Me := (yX9_undo, cX9_undo, 1, some .int)
abbrev me_X9_redo : am_Me := (yX9_redo, cX9_redo, 1, some .int)
abbrev me_X9_body : am_Me := (yX9_body, cX9_body, 2, some .int)
abbrev me_X9_act : am_Me := (yX9_act, cX9_act, 4, some .int)
abbrev me_X9_trace : am_Me := (yX9_trace, cX9_trace, 2, some .int)
abbrev me_X9_keep : am_Me := (yX9_keep, cX9_keep, 3, some .int)
abbrev me_X9_row : am_Me := (yX9_row, cX9_row, 4, some .int)
abbrev me_X9_put : am_Me := (yX9_put, cX9_put, 6, some .int)
abbrev me_X9_element : am_Me := (yX9_element, cX9_element, 3, some .long)
abbrev me_X9_shift : am_Me := (yX9_shift, cX9_shift, 7, some .int)
abbrev me_X9_taken : am_Me := (yX9_taken, cX9_taken, 5, some .int)
abbrev me_X9_count : am_Me := (yX9_count, cX9_count, 2, some .int)
abbrev me_X10_within : am_Me := (yX10_within, cX10_within, 6, some .boolean)
abbrev me_X10_size : am_Me := (yX10_size, cX10_size, 1, some .int)
abbrev me_X10_becomes : am_Me := (yX10_becomes, cX10_becomes, 5, some .int)
abbrev me_X10_undo : am_Me := (yX10_undo, cX10_undo, 1, some .int)
abbrev me_X10_redo : am_Me := (yX10_redo, cX10_redo, 1, some .int)
abbrev me_X10_isThing : am_Me := (yX10_isThing, cX10_isThing, 2, some .boolean)
abbrev me_X10_isSort : am_Me := (yX10_isSort, cX10_isSort, 2, some .boolean)
abbrev me_X10_isTwo : am_Me := (yX10_isTwo, cX10_isTwo, 2, some .boolean)
abbrev me_X10_adds : am_Me := (yX10_adds, cX10_adds, 5, none)
abbrev me_X10_thing : am_Me := (yX10_thing, cX10_thing, 4, some .int)
abbrev me_X10_isShelf : am_Me := (yX10_isShelf, cX10_isShelf, 1, some .boolean)
abbrev me_X10_things : am_Me := (yX10_things, cX10_things, 7, some .int)
abbrev me_X10_mend : am_Me := (yX10_mend, cX10_mend, 4, some .int)
abbrev me_X10_sort : am_Me := (yX10_sort, cX10_sort, 4, some .int)
abbrev me_X10_purse : am_Me := (yX10_purse, cX10_purse, 4, some .int)
abbrev me_X10_purseOf : am_Me := (yX10_purseOf, cX10_purseOf, 2, some .int)
abbrev me_X10_pointsInAll : am_Me := (yX10_pointsInAll, cX10_pointsInAll, 2, some .int)
abbrev me_X10_of : am_Me := (yX10_of, cX10_of, 3, some .int)
abbrev me_X10_feed : am_Me := (yX10_feed, cX10_feed, 4, some .int)
abbrev me_X10_byteAt : am_Me := (yX10_byteAt, cX10_byteAt, 1, some .int)
abbrev me_X10_fails : am_Me := (yX10_fails, cX10_fails, 1, some .int)
abbrev me_X10_takes : am_Me := (yX10_takes, cX10_takes, 2, some .boolean)
abbrev me_X10_nameOf : am_Me := (yX10_nameOf, cX10_nameOf, 1, some .int)
abbrev me_X10_both : am_Me := (yX10_both, cX10_both, 3, some .int)
abbrev me_X10_compared : am_Me := (yX10_compared, cX10_compared, 4, some .int)
abbrev me_X10_either : am_Me := (yX10_either, cX10_either, 3, some .int)
abbrev me_X10_one : am_Me := (yX10_one, cX10_one, 5, some .int)
abbrev me_X10_product : am_Me := (yX10_product, cX10_product, 4, some .int)
abbrev me_X10_sums : am_Me := (yX10_sums, cX10_sums, 4, some .int)
abbrev me_X10_workOut : am_Me := (yX10_workOut, cX10_workOut, 8, some .int)
abbrev me_X10_want : am_Me := (yX10_want, cX10_want, 4, some .int)
abbrev me_X10_worthOf : am_Me := (yX10_worthOf, cX10_worthOf, 5, some .int)
abbrev me_X10_worth : am_Me := (yX10_worth, cX10_worth, 3, some .int)
abbrev me_X10_layWorths : am_Me := (yX10_layWorths, cX10_layWorths, 4, none)
abbrev me_X10_baskets : am_Me := (yX10_baskets, cX10_baskets, 1, some .int)
abbrev me_X10_unpack : am_Me := (yX10_unpack, cX10_unpack, 4, none)
abbrev me_X10_findBest : am_Me := (yX10_findBest, cX10_findBest, 7, some .int)
abbrev me_X10_bestOf : am_Me := (yX10_bestOf, cX10_bestOf, 2, some .int)
abbrev me_X10_digitsNow : am_Me := (yX10_digitsNow, cX10_digitsNow, 3, some .int)
abbrev me_X10_basket : am_Me := (yX10_basket, cX10_basket, 4, some .int)
abbrev me_X10_findWanted : am_Me := (yX10_findWanted, cX10_findWanted, 4, none)
abbrev me_X10_over : am_Me := (yX10_over, cX10_over, 2, some .int)
abbrev me_X10_bothOver : am_Me := (yX10_bothOver, cX10_bothOver, 3, some .int)
abbrev me_X10_wanted : am_Me := (yX10_wanted, cX10_wanted, 4, some .int)
abbrev me_X10_led : am_Me := (yX10_led, cX10_led, 3, some .int)
abbrev me_X10_keepsLeast : am_Me := (yX10_keepsLeast, cX10_keepsLeast, 3, none)
abbrev me_X10_goRounds : am_Me := (yX10_goRounds, cX10_goRounds, 7, none)
abbrev me_X10_areRounds : am_Me := (yX10_areRounds, cX10_areRounds, 1, some .boolean)
abbrev me_X10_found : am_Me := (yX10_found, cX10_found, 3, some .int)
abbrev me_X10_set : am_Me := (yX10_set, cX10_set, 5, some .int)
abbrev me_X10_areDigits : am_Me := (yX10_areDigits, cX10_areDigits, 4, some .boolean)
abbrev me_X10_tell : am_Me := (yX10_tell, cX10_tell, 4, some .int)
abbrev me_X10_packed : am_Me := (yX10_packed, cX10_packed, 5, some .int)
abbrev me_X10_judge : am_Me := (yX10_judge, cX10_judge, 4, some .int)
abbrev me_X10_findChanged : am_Me := (yX10_findChanged, cX10_findChanged, 8, none)
abbrev me_X10_isRate : am_Me := (yX10_isRate, cX10_isRate, 1, some .boolean)
abbrev me_X10_changed : am_Me := (yX10_changed, cX10_changed, 5, some .int)
abbrev me_X10_free : am_Me := (yX10_free, cX10_free, 4, some .int)
abbrev me_X10_black : am_Me := (yX10_black, cX10_black, 8, some .int)
abbrev me_X10_isHow : am_Me := (yX10_isHow, cX10_isHow, 1, some .boolean)
abbrev me_X10_besideOf : am_Me := (yX10_besideOf, cX10_besideOf, 7, some .int)
abbrev me_X10_beside : am_Me := (yX10_beside, cX10_beside, 3, some .int)
abbrev me_X10_loses : am_Me := (yX10_loses, cX10_loses, 6, some .int)
abbrev me_X10_bitsOf : am_Me := (yX10_bitsOf, cX10_bitsOf, 3, some .int)
abbrev me_X10_isGone : am_Me := (yX10_isGone, cX10_isGone, 2, some .boolean)
abbrev me_X10_fewest : am_Me := (yX10_fewest, cX10_fewest, 4, some .int)
abbrev me_X10_least : am_Me := (yX10_least, cX10_least, 4, some .int)
abbrev me_X10_months : am_Me := (yX10_months, cX10_months, 12, some .int)
abbrev me_X10_foresight : am_Me := (yX10_foresight, cX10_foresight, 9, some .int)
abbrev me_X10_cheap : am_Me := (yX10_cheap, cX10_cheap, 4, some .int)
abbrev me_X10_wrong : am_Me := (yX10_wrong, cX10_wrong, 6, some .int)
abbrev me_X10_isBody : am_Me := (yX10_isBody, cX10_isBody, 2, some .boolean)
abbrev me_X10_kindOf : am_Me := (yX10_kindOf, cX10_kindOf, 2, some .int)
abbrev me_X10_body : am_Me := (yX10_body, cX10_body, 2, some .int)
abbrev me_X10_above : am_Me := (yX10_above, cX10_above, 1, some .int)
abbrev me_X10_begins : am_Me := (yX10_begins, cX10_begins, 2, none)
abbrev me_X10_buysAs : am_Me := (yX10_buysAs, cX10_buysAs, 3, some .int)
abbrev me_X10_lendsAs : am_Me := (yX10_lendsAs, cX10_lendsAs, 4, some .int)
abbrev me_X10_keepsAs : am_Me := (yX10_keepsAs, cX10_keepsAs, 4, some .int)
abbrev me_X10_tellsAs : am_Me := (yX10_tellsAs, cX10_tellsAs, 4, some .int)
abbrev me_X10_act : am_Me := (yX10_act, cX10_act, 4, some .int)
abbrev me_X10_trace : am_Me := (yX10_trace, cX10_trace, 2, some .int)
abbrev me_X10_keep : am_Me := (yX10_keep, cX10_keep, 3, some .int)
abbrev me_X10_row : am_Me := (yX10_row, cX10_row, 5, some .int)
abbrev me_X10_refusal : am_Me := (yX10_refusal, cX10_refusal, 3, some .int)
abbrev me_X10_asSort : am_Me := (yX10_asSort, cX10_asSort, 3, some .long)
abbrev me_X10_put : am_Me := (yX10_put, cX10_put, 6, some .int)
abbrev me_X10_element : am_Me := (yX10_element, cX10_element, 3, some .long)
abbrev me_X10_shift : am_Me := (yX10_shift, cX10_shift, 7, some .int)
abbrev me_X10_taken : am_Me := (yX10_taken, cX10_taken, 4, some .int)
abbrev me_X10_count : am_Me := (yX10_count, cX10_count, 2, some .int)
abbrev me_L_law : am_Me := (x, code, 4, ret)
set_option maxRecDepth 100000 in
theorem st_X9_isWithin : am_sm me_X9_isWithin 3 := ⟨⟨List.mem_of_getElem? (i := 385) (by rfl), List.mem_of_getElem? (i := 66) (by decide +kernel), ⟨by decide +kernel, by decide +kernel, by decide +kernel⟩, by decide, by decide +kernel⟩, List.mem_of_getElem? (i := 384) (by decide +kernel)⟩
set_option maxRecDepth 100000 in
theorem vm_X5_at : am_vm me_X5_at 2 1 5 [some 16, none, none] := ⟨⟨List.mem_of_getElem? (i := 436) (by rfl), List.mem_of_getElem? (i := 67) (by decide +kernel), ⟨by decide +kernel, by decide +kernel, by decide +kernel⟩, by decide, by decide +kernel⟩, List.mem_of_getElem? (i := 434) (by decide +kernel), List.mem_of_getElem? (i := 435) (by decide +kernel), List.mem_of_getElem? (i := 1) rfl, TX5, 3, rfl⟩
set_option maxRecDepth 100000 in
theorem vm_X7_recall : am_vm me_X7_recall 0 5 7 [some 1, some 4, some 82, some 83, some 84, some 85, none, none, none, none, none, none, none] := ⟨⟨List.mem_of_getElem? (i := 561) (by rfl), List.mem_of_getElem? (i := 71) (by decide +kernel), ⟨by decide +kernel, by decide +kernel, by decide +kernel⟩, by decide, by decide +kernel⟩, List.mem_of_getElem? (i := 559) (by decide +kernel), List.mem_of_getElem? (i := 560) (by decide +kernel), List.mem_of_getElem? (i := 5) rfl, TX7, 13, rfl⟩
set_option maxRecDepth 100000 in
theorem vm_X8_name : am_vm me_X8_name 2 4 8 [some 64, some 65, none, some 67, some 68, none] := ⟨⟨List.mem_of_getElem? (i := 570) (by rfl), List.mem_of_getElem? (i := 70) (by decide +kernel), ⟨by decide +kernel, by decide +kernel, by decide +kernel⟩, by decide, by decide +kernel⟩, List.mem_of_getElem? (i := 568) (by decide +kernel), List.mem_of_getElem? (i := 569) (by decide +kernel), List.mem_of_getElem? (i := 4) rfl, TX8, 6, rfl⟩
set_option maxRecDepth 100000 in
theorem vm_X7_coinOf : am_vm me_X7_coinOf 1 5 7 [some 1, some 4, some 82, some 83, some 84, some 85, none, none, none, none, none, none, none] := ⟨⟨List.mem_of_getElem? (i := 574) (by rfl), List.mem_of_getElem? (i := 71) (by decide +kernel), ⟨by decide +kernel, by decide +kernel, by decide +kernel⟩, by decide, by decide +kernel⟩, List.mem_of_getElem? (i := 572) (by decide +kernel), List.mem_of_getElem? (i := 573) (by decide +kernel), List.mem_of_getElem? (i := 5) rfl, TX7, 13, rfl⟩
set_option maxRecDepth 100000 in
theorem vm_X7_pointsOf : am_vm me_X7_pointsOf 1 5 7 [some 1, some 4, some 82, some 83, some 84, some 85, none, none, none, none, none, none, none] := ⟨⟨List.mem_of_getElem? (i := 579) (by rfl), List.mem_of_getElem? (i := 71) (by decide +kernel), ⟨by decide +kernel, by decide +kernel, by decide +kernel⟩, by decide, by decide +kernel⟩, List.mem_of_getElem? (i := 577) (by decide +kernel), List.mem_of_getElem? (i := 578) (by decide +kernel), List.mem_of_getElem? (i := 5) rfl, TX7, 13, rfl⟩
set_option maxRecDepth 100000 in
theorem vm_X8_pop : am_vm me_X8_pop 0 4 8 [some 64, some 65, none, some 67, some 68, none] := ⟨⟨List.mem_of_getElem? (i := 588) (by rfl), List.mem_of_getElem? (i := 70) (by decide +kernel), ⟨by decide +kernel, by decide +kernel, by decide +kernel⟩, by decide, by decide +kernel⟩, List.mem_of_getElem? (i := 587) (by decide +kernel), List.mem_of_getElem? (i := 11) (by decide +kernel), List.mem_of_getElem? (i := 4) rfl, TX8, 6, rfl⟩
set_option maxRecDepth 100000 in
theorem vm_X8_push : am_vm me_X8_push 1 4 8 [some 64, some 65, none, some 67, some 68, none] := ⟨⟨List.mem_of_getElem? (i := 596) (by rfl), List.mem_of_getElem? (i := 70) (by decide +kernel), ⟨by decide +kernel, by decide +kernel, by decide +kernel⟩, by decide, by decide +kernel⟩, List.mem_of_getElem? (i := 595) (by decide +kernel), List.mem_of_getElem? (i := 13) (by decide +kernel), List.mem_of_getElem? (i := 4) rfl, TX8, 6, rfl⟩
set_option maxRecDepth 100000 in
theorem st_X6_isName : am_sm me_X6_isName 1 := ⟨⟨List.mem_of_getElem? (i := 519) (by rfl), List.mem_of_getElem? (i := 69) (by decide +kernel), ⟨by decide +kernel, by decide +kernel, by decide +kernel⟩, by decide, by decide +kernel⟩, List.mem_of_getElem? (i := 518) (by decide +kernel)⟩
set_option maxRecDepth 100000 in
theorem st_X8_joined : am_sm me_X8_joined 3 := ⟨⟨List.mem_of_getElem? (i := 600) (by rfl), List.mem_of_getElem? (i := 70) (by decide +kernel), ⟨by decide +kernel, by decide +kernel, by decide +kernel⟩, by decide, by decide +kernel⟩, List.mem_of_getElem? (i := 599) (by decide +kernel)⟩
set_option maxRecDepth 100000 in
theorem vm_X8_doStep : am_vm me_X8_doStep 1 4 8 [some 64, some 65, none, some 67, some 68, none] := ⟨⟨List.mem_of_getElem? (i := 592) (by rfl), List.mem_of_getElem? (i := 70) (by decide +kernel), ⟨by decide +kernel, by decide +kernel, by decide +kernel⟩, by decide, by decide +kernel⟩, List.mem_of_getElem? (i := 591) (by decide +kernel), List.mem_of_getElem? (i := 12) (by decide +kernel), List.mem_of_getElem? (i := 4) rfl, TX8, 6, rfl⟩
set_option maxRecDepth 100000 in
theorem vm_X8_workOut : am_vm me_X8_workOut 1 4 8 [some 64, some 65, none, some 67, some 68, none] := ⟨⟨List.mem_of_getElem? (i := 583) (by rfl), List.mem_of_getElem? (i := 70) (by decide +kernel), ⟨by decide +kernel, by decide +kernel, by decide +kernel⟩, by decide, by decide +kernel⟩, List.mem_of_getElem? (i := 581) (by decide +kernel), List.mem_of_getElem? (i := 582) (by decide +kernel), List.mem_of_getElem? (i := 4) rfl, TX8, 6, rfl⟩
set_option maxRecDepth 100000 in
theorem vm_X7_worthOf : am_vm me_X7_worthOf 3 5 7 [some 1, some 4, some 82, some 83, some 84, some 85, none, none, none, none, none, none, none] := ⟨⟨List.mem_of_getElem? (i := 566) (by rfl), List.mem_of_getElem? (i := 71) (by decide +kernel), ⟨by decide +kernel, by decide +kernel, by decide +kernel⟩, by decide, by decide +kernel⟩, List.mem_of_getElem? (i := 564) (by decide +kernel), List.mem_of_getElem? (i := 565) (by decide +kernel), List.mem_of_getElem? (i := 5) rfl, TX7, 13, rfl⟩
set_option maxRecDepth 100000 in
theorem vm_X7_weigh : am_vm me_X7_weigh 1 5 7 [some 1, some 4, some 82, some 83, some 84, some 85, none, none, none, none, none, none, none] := ⟨⟨List.mem_of_getElem? (i := 612) (by rfl), List.mem_of_getElem? (i := 71) (by decide +kernel), ⟨by decide +kernel, by decide +kernel, by decide +kernel⟩, by decide, by decide +kernel⟩, List.mem_of_getElem? (i := 610) (by decide +kernel), List.mem_of_getElem? (i := 611) (by decide +kernel), List.mem_of_getElem? (i := 5) rfl, TX7, 13, rfl⟩
set_option maxRecDepth 100000 in
theorem vm_X5_pointsInAll : am_vm me_X5_pointsInAll 1 1 5 [some 16, none, none] := ⟨⟨List.mem_of_getElem? (i := 474) (by rfl), List.mem_of_getElem? (i := 67) (by decide +kernel), ⟨by decide +kernel, by decide +kernel, by decide +kernel⟩, by decide, by decide +kernel⟩, List.mem_of_getElem? (i := 472) (by decide +kernel), List.mem_of_getElem? (i := 473) (by decide +kernel), List.mem_of_getElem? (i := 1) rfl, TX5, 3, rfl⟩
set_option maxRecDepth 100000 in
theorem vm_X7_compare : am_vm me_X7_compare 4 5 7 [some 1, some 4, some 82, some 83, some 84, some 85, none, none, none, none, none, none, none] := ⟨⟨List.mem_of_getElem? (i := 629) (by rfl), List.mem_of_getElem? (i := 71) (by decide +kernel), ⟨by decide +kernel, by decide +kernel, by decide +kernel⟩, by decide, by decide +kernel⟩, List.mem_of_getElem? (i := 628) (by decide +kernel), List.mem_of_getElem? (i := 14) (by decide +kernel), List.mem_of_getElem? (i := 5) rfl, TX7, 13, rfl⟩
set_option maxRecDepth 100000 in
theorem vm_X7_isPayable : am_vm me_X7_isPayable 2 5 7 [some 1, some 4, some 82, some 83, some 84, some 85, none, none, none, none, none, none, none] := ⟨⟨List.mem_of_getElem? (i := 633) (by rfl), List.mem_of_getElem? (i := 71) (by decide +kernel), ⟨by decide +kernel, by decide +kernel, by decide +kernel⟩, by decide, by decide +kernel⟩, List.mem_of_getElem? (i := 631) (by decide +kernel), List.mem_of_getElem? (i := 632) (by decide +kernel), List.mem_of_getElem? (i := 5) rfl, TX7, 13, rfl⟩
set_option maxRecDepth 100000 in
theorem st_X7_descend : am_sm me_X7_descend 6 := ⟨⟨List.mem_of_getElem? (i := 625) (by rfl), List.mem_of_getElem? (i := 71) (by decide +kernel), ⟨by decide +kernel, by decide +kernel, by decide +kernel⟩, by decide, by decide +kernel⟩, List.mem_of_getElem? (i := 624) (by decide +kernel)⟩
set_option maxRecDepth 100000 in
theorem vm_X7_search : am_vm me_X7_search 3 5 7 [some 1, some 4, some 82, some 83, some 84, some 85, none, none, none, none, none, none, none] := ⟨⟨List.mem_of_getElem? (i := 622) (by rfl), List.mem_of_getElem? (i := 71) (by decide +kernel), ⟨by decide +kernel, by decide +kernel, by decide +kernel⟩, by decide, by decide +kernel⟩, List.mem_of_getElem? (i := 620) (by decide +kernel), List.mem_of_getElem? (i := 621) (by decide +kernel), List.mem_of_getElem? (i := 5) rfl, TX7, 13, rfl⟩
set_option maxRecDepth 100000 in
theorem vm_X7_choose : am_vm me_X7_choose 1 5 7 [some 1, some 4, some 82, some 83, some 84, some 85, none, none, none, none, none, none, none] := ⟨⟨List.mem_of_getElem? (i := 617) (by rfl), List.mem_of_getElem? (i := 71) (by decide +kernel), ⟨by decide +kernel, by decide +kernel, by decide +kernel⟩, by decide, by decide +kernel⟩, List.mem_of_getElem? (i := 615) (by decide +kernel), List.mem_of_getElem? (i := 616) (by decide +kernel), List.mem_of_getElem? (i := 5) rfl, TX7, 13, rfl⟩
set_option maxRecDepth 100000 in
theorem vm_X0_plainWorth : am_vm me_X0_plainWorth 1 7 0 [some 1, some 5, some 114, none, none] := ⟨⟨List.mem_of_getElem? (i := 762) (by rfl), List.mem_of_getElem? (i := 73) (by decide +kernel), ⟨by decide +kernel, by decide +kernel, by decide +kernel⟩, by decide, by decide +kernel⟩, List.mem_of_getElem? (i := 760) (by decide +kernel), List.mem_of_getElem? (i := 761) (by decide +kernel), List.mem_of_getElem? (i := 7) rfl, TX0, 5, rfl⟩
set_option maxRecDepth 100000 in
theorem vm_X7_think : am_vm me_X7_think 3 5 7 [some 1, some 4, some 82, some 83, some 84, some 85, none, none, none, none, none, none, none] := ⟨⟨List.mem_of_getElem? (i := 700) (by rfl), List.mem_of_getElem? (i := 71) (by decide +kernel), ⟨by decide +kernel, by decide +kernel, by decide +kernel⟩, by decide, by decide +kernel⟩, List.mem_of_getElem? (i := 698) (by decide +kernel), List.mem_of_getElem? (i := 699) (by decide +kernel), List.mem_of_getElem? (i := 5) rfl, TX7, 13, rfl⟩
set_option maxRecDepth 100000 in
theorem vm_X0_exchange : am_vm me_X0_exchange 2 7 0 [some 1, some 5, some 114, none, none] := ⟨⟨List.mem_of_getElem? (i := 750) (by rfl), List.mem_of_getElem? (i := 73) (by decide +kernel), ⟨by decide +kernel, by decide +kernel, by decide +kernel⟩, by decide, by decide +kernel⟩, List.mem_of_getElem? (i := 748) (by decide +kernel), List.mem_of_getElem? (i := 749) (by decide +kernel), List.mem_of_getElem? (i := 7) rfl, TX0, 5, rfl⟩
set_option maxRecDepth 100000 in
theorem vm_X0_pointsThere : am_vm me_X0_pointsThere 0 7 0 [some 1, some 5, some 114, none, none] := ⟨⟨List.mem_of_getElem? (i := 771) (by rfl), List.mem_of_getElem? (i := 73) (by decide +kernel), ⟨by decide +kernel, by decide +kernel, by decide +kernel⟩, by decide, by decide +kernel⟩, List.mem_of_getElem? (i := 769) (by decide +kernel), List.mem_of_getElem? (i := 770) (by decide +kernel), List.mem_of_getElem? (i := 7) rfl, TX0, 5, rfl⟩
set_option maxRecDepth 100000 in
theorem vm_X0_pointsTaken : am_vm me_X0_pointsTaken 1 7 0 [some 1, some 5, some 114, none, none] := ⟨⟨List.mem_of_getElem? (i := 775) (by rfl), List.mem_of_getElem? (i := 73) (by decide +kernel), ⟨by decide +kernel, by decide +kernel, by decide +kernel⟩, by decide, by decide +kernel⟩, List.mem_of_getElem? (i := 773) (by decide +kernel), List.mem_of_getElem? (i := 774) (by decide +kernel), List.mem_of_getElem? (i := 7) rfl, TX0, 5, rfl⟩
set_option maxRecDepth 100000 in
theorem vm_X0_byStealth : am_vm me_X0_byStealth 4 7 0 [some 1, some 5, some 114, none, none] := ⟨⟨List.mem_of_getElem? (i := 784) (by rfl), List.mem_of_getElem? (i := 73) (by decide +kernel), ⟨by decide +kernel, by decide +kernel, by decide +kernel⟩, by decide, by decide +kernel⟩, List.mem_of_getElem? (i := 782) (by decide +kernel), List.mem_of_getElem? (i := 783) (by decide +kernel), List.mem_of_getElem? (i := 7) rfl, TX0, 5, rfl⟩
set_option maxRecDepth 100000 in
theorem vm_X5_allHeads : am_vm me_X5_allHeads 0 1 5 [some 16, none, none] := ⟨⟨List.mem_of_getElem? (i := 803) (by rfl), List.mem_of_getElem? (i := 67) (by decide +kernel), ⟨by decide +kernel, by decide +kernel, by decide +kernel⟩, by decide, by decide +kernel⟩, List.mem_of_getElem? (i := 801) (by decide +kernel), List.mem_of_getElem? (i := 802) (by decide +kernel), List.mem_of_getElem? (i := 1) rfl, TX5, 3, rfl⟩
set_option maxRecDepth 100000 in
theorem vm_X7_worthOfFirst : am_vm me_X7_worthOfFirst 2 5 7 [some 1, some 4, some 82, some 83, some 84, some 85, none, none, none, none, none, none, none] := ⟨⟨List.mem_of_getElem? (i := 737) (by rfl), List.mem_of_getElem? (i := 71) (by decide +kernel), ⟨by decide +kernel, by decide +kernel, by decide +kernel⟩, by decide, by decide +kernel⟩, List.mem_of_getElem? (i := 735) (by decide +kernel), List.mem_of_getElem? (i := 736) (by decide +kernel), List.mem_of_getElem? (i := 5) rfl, TX7, 13, rfl⟩
set_option maxRecDepth 100000 in
theorem vm_X0_equalWorth : am_vm me_X0_equalWorth 0 7 0 [some 1, some 5, some 114, none, none] := ⟨⟨List.mem_of_getElem? (i := 799) (by rfl), List.mem_of_getElem? (i := 73) (by decide +kernel), ⟨by decide +kernel, by decide +kernel, by decide +kernel⟩, by decide, by decide +kernel⟩, List.mem_of_getElem? (i := 798) (by decide +kernel), List.mem_of_getElem? (i := 19) (by decide +kernel), List.mem_of_getElem? (i := 7) rfl, TX0, 5, rfl⟩
set_option maxRecDepth 100000 in
theorem vm_X0_coinWorth : am_vm me_X0_coinWorth 2 7 0 [some 1, some 5, some 114, none, none] := ⟨⟨List.mem_of_getElem? (i := 809) (by rfl), List.mem_of_getElem? (i := 73) (by decide +kernel), ⟨by decide +kernel, by decide +kernel, by decide +kernel⟩, by decide, by decide +kernel⟩, List.mem_of_getElem? (i := 808) (by decide +kernel), List.mem_of_getElem? (i := 20) (by decide +kernel), List.mem_of_getElem? (i := 7) rfl, TX0, 5, rfl⟩
set_option maxRecDepth 100000 in
theorem vm_X0_otherwise : am_vm me_X0_otherwise 2 7 0 [some 1, some 5, some 114, none, none] := ⟨⟨List.mem_of_getElem? (i := 795) (by rfl), List.mem_of_getElem? (i := 73) (by decide +kernel), ⟨by decide +kernel, by decide +kernel, by decide +kernel⟩, by decide, by decide +kernel⟩, List.mem_of_getElem? (i := 793) (by decide +kernel), List.mem_of_getElem? (i := 794) (by decide +kernel), List.mem_of_getElem? (i := 7) rfl, TX0, 5, rfl⟩
set_option maxRecDepth 100000 in
theorem vm_X0_losers : am_vm me_X0_losers 1 7 0 [some 1, some 5, some 114, none, none] := ⟨⟨List.mem_of_getElem? (i := 817) (by rfl), List.mem_of_getElem? (i := 73) (by decide +kernel), ⟨by decide +kernel, by decide +kernel, by decide +kernel⟩, by decide, by decide +kernel⟩, List.mem_of_getElem? (i := 815) (by decide +kernel), List.mem_of_getElem? (i := 816) (by decide +kernel), List.mem_of_getElem? (i := 7) rfl, TX0, 5, rfl⟩
set_option maxRecDepth 100000 in
theorem vm_X0_live : am_vm me_X0_live 3 7 0 [some 1, some 5, some 114, none, none] := ⟨⟨List.mem_of_getElem? (i := 849) (by rfl), List.mem_of_getElem? (i := 73) (by decide +kernel), ⟨by decide +kernel, by decide +kernel, by decide +kernel⟩, by decide, by decide +kernel⟩, List.mem_of_getElem? (i := 847) (by decide +kernel), List.mem_of_getElem? (i := 848) (by decide +kernel), List.mem_of_getElem? (i := 7) rfl, TX0, 5, rfl⟩
set_option maxRecDepth 100000 in
theorem st_X0_spread : am_sm me_X0_spread 5 := ⟨⟨List.mem_of_getElem? (i := 864) (by rfl), List.mem_of_getElem? (i := 73) (by decide +kernel), ⟨by decide +kernel, by decide +kernel, by decide +kernel⟩, by decide, by decide +kernel⟩, List.mem_of_getElem? (i := 863) (by decide +kernel)⟩
set_option maxRecDepth 100000 in
theorem vm_X0_reachAll : am_vm me_X0_reachAll 1 7 0 [some 1, some 5, some 114, none, none] := ⟨⟨List.mem_of_getElem? (i := 861) (by rfl), List.mem_of_getElem? (i := 73) (by decide +kernel), ⟨by decide +kernel, by decide +kernel, by decide +kernel⟩, by decide, by decide +kernel⟩, List.mem_of_getElem? (i := 860) (by decide +kernel), List.mem_of_getElem? (i := 21) (by decide +kernel), List.mem_of_getElem? (i := 7) rfl, TX0, 5, rfl⟩
set_option maxRecDepth 100000 in
theorem vm_X0_gainByForesight : am_vm me_X0_gainByForesight 1 7 0 [some 1, some 5, some 114, none, none] := ⟨⟨List.mem_of_getElem? (i := 857) (by rfl), List.mem_of_getElem? (i := 73) (by decide +kernel), ⟨by decide +kernel, by decide +kernel, by decide +kernel⟩, by decide, by decide +kernel⟩, List.mem_of_getElem? (i := 855) (by decide +kernel), List.mem_of_getElem? (i := 856) (by decide +kernel), List.mem_of_getElem? (i := 7) rfl, TX0, 5, rfl⟩
set_option maxRecDepth 100000 in
theorem vm_X1_dropFirst : am_vm me_X1_dropFirst 0 2 1 [some 1, some 33, some 34, some 35, some 36, none, none] := ⟨⟨List.mem_of_getElem? (i := 444) (by rfl), List.mem_of_getElem? (i := 68) (by decide +kernel), ⟨by decide +kernel, by decide +kernel, by decide +kernel⟩, by decide, by decide +kernel⟩, List.mem_of_getElem? (i := 443) (by decide +kernel), List.mem_of_getElem? (i := 2) (by decide +kernel), List.mem_of_getElem? (i := 2) rfl, TX1, 7, rfl⟩
set_option maxRecDepth 100000 in
theorem vm_X1_note : am_vm me_X1_note 4 2 1 [some 1, some 33, some 34, some 35, some 36, none, none] := ⟨⟨List.mem_of_getElem? (i := 440) (by rfl), List.mem_of_getElem? (i := 68) (by decide +kernel), ⟨by decide +kernel, by decide +kernel, by decide +kernel⟩, by decide, by decide +kernel⟩, List.mem_of_getElem? (i := 439) (by decide +kernel), List.mem_of_getElem? (i := 1) (by decide +kernel), List.mem_of_getElem? (i := 2) rfl, TX1, 7, rfl⟩
set_option maxRecDepth 100000 in
theorem vm_X5_write : am_vm me_X5_write 3 1 5 [some 16, none, none] := ⟨⟨List.mem_of_getElem? (i := 393) (by rfl), List.mem_of_getElem? (i := 67) (by decide +kernel), ⟨by decide +kernel, by decide +kernel, by decide +kernel⟩, by decide, by decide +kernel⟩, List.mem_of_getElem? (i := 391) (by decide +kernel), List.mem_of_getElem? (i := 392) (by decide +kernel), List.mem_of_getElem? (i := 1) rfl, TX5, 3, rfl⟩
set_option maxRecDepth 100000 in
theorem vm_X1_change : am_vm me_X1_change 3 2 1 [some 1, some 33, some 34, some 35, some 36, none, none] := ⟨⟨List.mem_of_getElem? (i := 432) (by rfl), List.mem_of_getElem? (i := 68) (by decide +kernel), ⟨by decide +kernel, by decide +kernel, by decide +kernel⟩, by decide, by decide +kernel⟩, List.mem_of_getElem? (i := 430) (by decide +kernel), List.mem_of_getElem? (i := 431) (by decide +kernel), List.mem_of_getElem? (i := 2) rfl, TX1, 7, rfl⟩
set_option maxRecDepth 100000 in
theorem vm_X1_goBack : am_vm me_X1_goBack 0 2 1 [some 1, some 33, some 34, some 35, some 36, none, none] := ⟨⟨List.mem_of_getElem? (i := 895) (by rfl), List.mem_of_getElem? (i := 68) (by decide +kernel), ⟨by decide +kernel, by decide +kernel, by decide +kernel⟩, by decide, by decide +kernel⟩, List.mem_of_getElem? (i := 893) (by decide +kernel), List.mem_of_getElem? (i := 894) (by decide +kernel), List.mem_of_getElem? (i := 2) rfl, TX1, 7, rfl⟩
set_option maxRecDepth 100000 in
theorem vm_X1_goOn : am_vm me_X1_goOn 0 2 1 [some 1, some 33, some 34, some 35, some 36, none, none] := ⟨⟨List.mem_of_getElem? (i := 903) (by rfl), List.mem_of_getElem? (i := 68) (by decide +kernel), ⟨by decide +kernel, by decide +kernel, by decide +kernel⟩, by decide, by decide +kernel⟩, List.mem_of_getElem? (i := 901) (by decide +kernel), List.mem_of_getElem? (i := 902) (by decide +kernel), List.mem_of_getElem? (i := 2) rfl, TX1, 7, rfl⟩
set_option maxRecDepth 100000 in
theorem vm_X5_digitOf : am_vm me_X5_digitOf 2 1 5 [some 16, none, none] := ⟨⟨List.mem_of_getElem? (i := 649) (by rfl), List.mem_of_getElem? (i := 67) (by decide +kernel), ⟨by decide +kernel, by decide +kernel, by decide +kernel⟩, by decide, by decide +kernel⟩, List.mem_of_getElem? (i := 647) (by decide +kernel), List.mem_of_getElem? (i := 648) (by decide +kernel), List.mem_of_getElem? (i := 1) rfl, TX5, 3, rfl⟩
set_option maxRecDepth 100000 in
theorem vm_X2_wantAll : am_vm me_X2_wantAll 0 6 2 [some 1, some 5, some 98, some 99, some 100, none, none, none] := ⟨⟨List.mem_of_getElem? (i := 642) (by rfl), List.mem_of_getElem? (i := 72) (by decide +kernel), ⟨by decide +kernel, by decide +kernel, by decide +kernel⟩, by decide, by decide +kernel⟩, List.mem_of_getElem? (i := 640) (by decide +kernel), List.mem_of_getElem? (i := 641) (by decide +kernel), List.mem_of_getElem? (i := 6) rfl, TX2, 8, rfl⟩
set_option maxRecDepth 100000 in
theorem vm_X2_wantedOf : am_vm me_X2_wantedOf 1 6 2 [some 1, some 5, some 98, some 99, some 100, none, none, none] := ⟨⟨List.mem_of_getElem? (i := 661) (by rfl), List.mem_of_getElem? (i := 72) (by decide +kernel), ⟨by decide +kernel, by decide +kernel, by decide +kernel⟩, by decide, by decide +kernel⟩, List.mem_of_getElem? (i := 659) (by decide +kernel), List.mem_of_getElem? (i := 660) (by decide +kernel), List.mem_of_getElem? (i := 6) rfl, TX2, 8, rfl⟩
set_option maxRecDepth 100000 in
theorem vm_X2_overOf : am_vm me_X2_overOf 1 6 2 [some 1, some 5, some 98, some 99, some 100, none, none, none] := ⟨⟨List.mem_of_getElem? (i := 657) (by rfl), List.mem_of_getElem? (i := 72) (by decide +kernel), ⟨by decide +kernel, by decide +kernel, by decide +kernel⟩, by decide, by decide +kernel⟩, List.mem_of_getElem? (i := 655) (by decide +kernel), List.mem_of_getElem? (i := 656) (by decide +kernel), List.mem_of_getElem? (i := 6) rfl, TX2, 8, rfl⟩
set_option maxRecDepth 100000 in
theorem vm_X2_bothTogether : am_vm me_X2_bothTogether 0 6 2 [some 1, some 5, some 98, some 99, some 100, none, none, none] := ⟨⟨List.mem_of_getElem? (i := 653) (by rfl), List.mem_of_getElem? (i := 72) (by decide +kernel), ⟨by decide +kernel, by decide +kernel, by decide +kernel⟩, by decide, by decide +kernel⟩, List.mem_of_getElem? (i := 651) (by decide +kernel), List.mem_of_getElem? (i := 652) (by decide +kernel), List.mem_of_getElem? (i := 6) rfl, TX2, 8, rfl⟩
set_option maxRecDepth 100000 in
theorem vm_X2_keepLeast : am_vm me_X2_keepLeast 0 6 2 [some 1, some 5, some 98, some 99, some 100, none, none, none] := ⟨⟨List.mem_of_getElem? (i := 686) (by rfl), List.mem_of_getElem? (i := 72) (by decide +kernel), ⟨by decide +kernel, by decide +kernel, by decide +kernel⟩, by decide, by decide +kernel⟩, List.mem_of_getElem? (i := 685) (by decide +kernel), List.mem_of_getElem? (i := 15) (by decide +kernel), List.mem_of_getElem? (i := 6) rfl, TX2, 8, rfl⟩
set_option maxRecDepth 100000 in
theorem st_J_compare : am_sm me_J_compare 2 := ⟨⟨List.mem_of_getElem? (i := 695) (by rfl), List.mem_of_getElem? (i := 78) (by decide +kernel), ⟨by decide +kernel, by decide +kernel, by decide +kernel⟩, by decide, by decide +kernel⟩, List.mem_of_getElem? (i := 694) (by decide +kernel)⟩
set_option maxRecDepth 100000 in
theorem vm_X2_movePoints : am_vm me_X2_movePoints 0 6 2 [some 1, some 5, some 98, some 99, some 100, none, none, none] := ⟨⟨List.mem_of_getElem? (i := 692) (by rfl), List.mem_of_getElem? (i := 72) (by decide +kernel), ⟨by decide +kernel, by decide +kernel, by decide +kernel⟩, by decide, by decide +kernel⟩, List.mem_of_getElem? (i := 691) (by decide +kernel), List.mem_of_getElem? (i := 16) (by decide +kernel), List.mem_of_getElem? (i := 6) rfl, TX2, 8, rfl⟩
set_option maxRecDepth 100000 in
theorem vm_X2_findPoints : am_vm me_X2_findPoints 1 6 2 [some 1, some 5, some 98, some 99, some 100, none, none, none] := ⟨⟨List.mem_of_getElem? (i := 680) (by rfl), List.mem_of_getElem? (i := 72) (by decide +kernel), ⟨by decide +kernel, by decide +kernel, by decide +kernel⟩, by decide, by decide +kernel⟩, List.mem_of_getElem? (i := 678) (by decide +kernel), List.mem_of_getElem? (i := 679) (by decide +kernel), List.mem_of_getElem? (i := 6) rfl, TX2, 8, rfl⟩
set_option maxRecDepth 100000 in
theorem vm_X2_leastPointsOf : am_vm me_X2_leastPointsOf 1 6 2 [some 1, some 5, some 98, some 99, some 100, none, none, none] := ⟨⟨List.mem_of_getElem? (i := 709) (by rfl), List.mem_of_getElem? (i := 72) (by decide +kernel), ⟨by decide +kernel, by decide +kernel, by decide +kernel⟩, by decide, by decide +kernel⟩, List.mem_of_getElem? (i := 707) (by decide +kernel), List.mem_of_getElem? (i := 708) (by decide +kernel), List.mem_of_getElem? (i := 6) rfl, TX2, 8, rfl⟩
set_option maxRecDepth 100000 in
theorem vm_X2_hear : am_vm me_X2_hear 2 6 2 [some 1, some 5, some 98, some 99, some 100, none, none, none] := ⟨⟨List.mem_of_getElem? (i := 721) (by rfl), List.mem_of_getElem? (i := 72) (by decide +kernel), ⟨by decide +kernel, by decide +kernel, by decide +kernel⟩, by decide, by decide +kernel⟩, List.mem_of_getElem? (i := 719) (by decide +kernel), List.mem_of_getElem? (i := 720) (by decide +kernel), List.mem_of_getElem? (i := 6) rfl, TX2, 8, rfl⟩
set_option maxRecDepth 100000 in
theorem vm_X2_faultOf : am_vm me_X2_faultOf 1 6 2 [some 1, some 5, some 98, some 99, some 100, none, none, none] := ⟨⟨List.mem_of_getElem? (i := 733) (by rfl), List.mem_of_getElem? (i := 72) (by decide +kernel), ⟨by decide +kernel, by decide +kernel, by decide +kernel⟩, by decide, by decide +kernel⟩, List.mem_of_getElem? (i := 732) (by decide +kernel), List.mem_of_getElem? (i := 17) (by decide +kernel), List.mem_of_getElem? (i := 6) rfl, TX2, 8, rfl⟩
set_option maxRecDepth 100000 in
theorem vm_X2_toldOf : am_vm me_X2_toldOf 1 6 2 [some 1, some 5, some 98, some 99, some 100, none, none, none] := ⟨⟨List.mem_of_getElem? (i := 742) (by rfl), List.mem_of_getElem? (i := 72) (by decide +kernel), ⟨by decide +kernel, by decide +kernel, by decide +kernel⟩, by decide, by decide +kernel⟩, List.mem_of_getElem? (i := 741) (by decide +kernel), List.mem_of_getElem? (i := 18) (by decide +kernel), List.mem_of_getElem? (i := 6) rfl, TX2, 8, rfl⟩
set_option maxRecDepth 100000 in
theorem vm_X2_judged : am_vm me_X2_judged 0 6 2 [some 1, some 5, some 98, some 99, some 100, none, none, none] := ⟨⟨List.mem_of_getElem? (i := 729) (by rfl), List.mem_of_getElem? (i := 72) (by decide +kernel), ⟨by decide +kernel, by decide +kernel, by decide +kernel⟩, by decide, by decide +kernel⟩, List.mem_of_getElem? (i := 727) (by decide +kernel), List.mem_of_getElem? (i := 728) (by decide +kernel), List.mem_of_getElem? (i := 6) rfl, TX2, 8, rfl⟩
set_option maxRecDepth 100000 in
theorem vm_X2_servesAll : am_vm me_X2_servesAll 1 6 2 [some 1, some 5, some 98, some 99, some 100, none, none, none] := ⟨⟨List.mem_of_getElem? (i := 833) (by rfl), List.mem_of_getElem? (i := 72) (by decide +kernel), ⟨by decide +kernel, by decide +kernel, by decide +kernel⟩, by decide, by decide +kernel⟩, List.mem_of_getElem? (i := 831) (by decide +kernel), List.mem_of_getElem? (i := 832) (by decide +kernel), List.mem_of_getElem? (i := 6) rfl, TX2, 8, rfl⟩
set_option maxRecDepth 100000 in
theorem vm_X2_takersOf : am_vm me_X2_takersOf 1 6 2 [some 1, some 5, some 98, some 99, some 100, none, none, none] := ⟨⟨List.mem_of_getElem? (i := 841) (by rfl), List.mem_of_getElem? (i := 72) (by decide +kernel), ⟨by decide +kernel, by decide +kernel, by decide +kernel⟩, by decide, by decide +kernel⟩, List.mem_of_getElem? (i := 839) (by decide +kernel), List.mem_of_getElem? (i := 840) (by decide +kernel), List.mem_of_getElem? (i := 6) rfl, TX2, 8, rfl⟩
set_option maxRecDepth 100000 in
theorem vm_X2_cheapest : am_vm me_X2_cheapest 1 6 2 [some 1, some 5, some 98, some 99, some 100, none, none, none] := ⟨⟨List.mem_of_getElem? (i := 873) (by rfl), List.mem_of_getElem? (i := 72) (by decide +kernel), ⟨by decide +kernel, by decide +kernel, by decide +kernel⟩, by decide, by decide +kernel⟩, List.mem_of_getElem? (i := 871) (by decide +kernel), List.mem_of_getElem? (i := 872) (by decide +kernel), List.mem_of_getElem? (i := 6) rfl, TX2, 8, rfl⟩
set_option maxRecDepth 100000 in
theorem vm_X2_offOf : am_vm me_X2_offOf 1 6 2 [some 1, some 5, some 98, some 99, some 100, none, none, none] := ⟨⟨List.mem_of_getElem? (i := 885) (by rfl), List.mem_of_getElem? (i := 72) (by decide +kernel), ⟨by decide +kernel, by decide +kernel, by decide +kernel⟩, by decide, by decide +kernel⟩, List.mem_of_getElem? (i := 883) (by decide +kernel), List.mem_of_getElem? (i := 884) (by decide +kernel), List.mem_of_getElem? (i := 6) rfl, TX2, 8, rfl⟩
set_option maxRecDepth 100000 in
theorem vm_X2_findWorst : am_vm me_X2_findWorst 0 6 2 [some 1, some 5, some 98, some 99, some 100, none, none, none] := ⟨⟨List.mem_of_getElem? (i := 881) (by rfl), List.mem_of_getElem? (i := 72) (by decide +kernel), ⟨by decide +kernel, by decide +kernel, by decide +kernel⟩, by decide, by decide +kernel⟩, List.mem_of_getElem? (i := 879) (by decide +kernel), List.mem_of_getElem? (i := 880) (by decide +kernel), List.mem_of_getElem? (i := 6) rfl, TX2, 8, rfl⟩
set_option maxRecDepth 100000 in
theorem vm_X3_has : am_vm me_X3_has 1 8 3 [some 128, none, some 130, none, none, none] := ⟨⟨List.mem_of_getElem? (i := 923) (by rfl), List.mem_of_getElem? (i := 74) (by decide +kernel), ⟨by decide +kernel, by decide +kernel, by decide +kernel⟩, by decide, by decide +kernel⟩, List.mem_of_getElem? (i := 921) (by decide +kernel), List.mem_of_getElem? (i := 922) (by decide +kernel), List.mem_of_getElem? (i := 8) rfl, TX3, 6, rfl⟩
set_option maxRecDepth 100000 in
theorem vm_X3_add : am_vm me_X3_add 1 8 3 [some 128, none, some 130, none, none, none] := ⟨⟨List.mem_of_getElem? (i := 911) (by rfl), List.mem_of_getElem? (i := 74) (by decide +kernel), ⟨by decide +kernel, by decide +kernel, by decide +kernel⟩, by decide, by decide +kernel⟩, List.mem_of_getElem? (i := 909) (by decide +kernel), List.mem_of_getElem? (i := 910) (by decide +kernel), List.mem_of_getElem? (i := 8) rfl, TX3, 6, rfl⟩
set_option maxRecDepth 100000 in
theorem vm_X3_kindOf : am_vm me_X3_kindOf 1 8 3 [some 128, none, some 130, none, none, none] := ⟨⟨List.mem_of_getElem? (i := 932) (by rfl), List.mem_of_getElem? (i := 74) (by decide +kernel), ⟨by decide +kernel, by decide +kernel, by decide +kernel⟩, by decide, by decide +kernel⟩, List.mem_of_getElem? (i := 930) (by decide +kernel), List.mem_of_getElem? (i := 931) (by decide +kernel), List.mem_of_getElem? (i := 8) rfl, TX3, 6, rfl⟩
set_option maxRecDepth 100000 in
theorem st_X3_aboveOf : am_sm me_X3_aboveOf 1 := ⟨⟨List.mem_of_getElem? (i := 951) (by rfl), List.mem_of_getElem? (i := 74) (by decide +kernel), ⟨by decide +kernel, by decide +kernel, by decide +kernel⟩, by decide, by decide +kernel⟩, List.mem_of_getElem? (i := 950) (by decide +kernel)⟩
set_option maxRecDepth 100000 in
theorem vm_X3_isUnder : am_vm me_X3_isUnder 2 8 3 [some 128, none, some 130, none, none, none] := ⟨⟨List.mem_of_getElem? (i := 1027) (by rfl), List.mem_of_getElem? (i := 74) (by decide +kernel), ⟨by decide +kernel, by decide +kernel, by decide +kernel⟩, by decide, by decide +kernel⟩, List.mem_of_getElem? (i := 1025) (by decide +kernel), List.mem_of_getElem? (i := 1026) (by decide +kernel), List.mem_of_getElem? (i := 8) rfl, TX3, 6, rfl⟩
set_option maxRecDepth 100000 in
theorem vm_X3_forget : am_vm me_X3_forget 0 8 3 [some 128, none, some 130, none, none, none] := ⟨⟨List.mem_of_getElem? (i := 919) (by rfl), List.mem_of_getElem? (i := 74) (by decide +kernel), ⟨by decide +kernel, by decide +kernel, by decide +kernel⟩, by decide, by decide +kernel⟩, List.mem_of_getElem? (i := 917) (by decide +kernel), List.mem_of_getElem? (i := 918) (by decide +kernel), List.mem_of_getElem? (i := 8) rfl, TX3, 6, rfl⟩
set_option maxRecDepth 100000 in
theorem vm_X3_traced : am_vm me_X3_traced 1 8 3 [some 128, none, some 130, none, none, none] := ⟨⟨List.mem_of_getElem? (i := 965) (by rfl), List.mem_of_getElem? (i := 74) (by decide +kernel), ⟨by decide +kernel, by decide +kernel, by decide +kernel⟩, by decide, by decide +kernel⟩, List.mem_of_getElem? (i := 963) (by decide +kernel), List.mem_of_getElem? (i := 964) (by decide +kernel), List.mem_of_getElem? (i := 8) rfl, TX3, 6, rfl⟩
set_option maxRecDepth 100000 in
theorem st_X3_bodyOf : am_sm me_X3_bodyOf 2 := ⟨⟨List.mem_of_getElem? (i := 940) (by rfl), List.mem_of_getElem? (i := 74) (by decide +kernel), ⟨by decide +kernel, by decide +kernel, by decide +kernel⟩, by decide, by decide +kernel⟩, List.mem_of_getElem? (i := 939) (by decide +kernel)⟩
set_option maxRecDepth 100000 in
theorem vm_X3_run : am_vm me_X3_run 4 8 3 [some 128, none, some 130, none, none, none] := ⟨⟨List.mem_of_getElem? (i := 937) (by rfl), List.mem_of_getElem? (i := 74) (by decide +kernel), ⟨by decide +kernel, by decide +kernel, by decide +kernel⟩, by decide, by decide +kernel⟩, List.mem_of_getElem? (i := 936) (by decide +kernel), List.mem_of_getElem? (i := 22) (by decide +kernel), List.mem_of_getElem? (i := 8) rfl, TX3, 6, rfl⟩
set_option maxRecDepth 100000 in
theorem vm_X3_runBody : am_vm me_X3_runBody 4 8 3 [some 128, none, some 130, none, none, none] := ⟨⟨List.mem_of_getElem? (i := 957) (by rfl), List.mem_of_getElem? (i := 74) (by decide +kernel), ⟨by decide +kernel, by decide +kernel, by decide +kernel⟩, by decide, by decide +kernel⟩, List.mem_of_getElem? (i := 956) (by decide +kernel), List.mem_of_getElem? (i := 23) (by decide +kernel), List.mem_of_getElem? (i := 8) rfl, TX3, 6, rfl⟩
set_option maxRecDepth 100000 in
theorem vm_X3_start : am_vm me_X3_start 3 8 3 [some 128, none, some 130, none, none, none] := ⟨⟨List.mem_of_getElem? (i := 928) (by rfl), List.mem_of_getElem? (i := 74) (by decide +kernel), ⟨by decide +kernel, by decide +kernel, by decide +kernel⟩, by decide, by decide +kernel⟩, List.mem_of_getElem? (i := 926) (by decide +kernel), List.mem_of_getElem? (i := 927) (by decide +kernel), List.mem_of_getElem? (i := 8) rfl, TX3, 6, rfl⟩
set_option maxRecDepth 100000 in
theorem vm_X4_isShelf : am_vm me_X4_isShelf 1 9 4 [some 144, some 145, some 146] := ⟨⟨List.mem_of_getElem? (i := 402) (by rfl), List.mem_of_getElem? (i := 75) (by decide +kernel), ⟨by decide +kernel, by decide +kernel, by decide +kernel⟩, by decide, by decide +kernel⟩, List.mem_of_getElem? (i := 400) (by decide +kernel), List.mem_of_getElem? (i := 401) (by decide +kernel), List.mem_of_getElem? (i := 9) rfl, TX4, 3, rfl⟩
set_option maxRecDepth 100000 in
theorem vm_X4_heldOn : am_vm me_X4_heldOn 1 9 4 [some 144, some 145, some 146] := ⟨⟨List.mem_of_getElem? (i := 407) (by rfl), List.mem_of_getElem? (i := 75) (by decide +kernel), ⟨by decide +kernel, by decide +kernel, by decide +kernel⟩, by decide, by decide +kernel⟩, List.mem_of_getElem? (i := 405) (by decide +kernel), List.mem_of_getElem? (i := 406) (by decide +kernel), List.mem_of_getElem? (i := 9) rfl, TX4, 3, rfl⟩
set_option maxRecDepth 100000 in
theorem vm_X4_sizeOn : am_vm me_X4_sizeOn 1 9 4 [some 144, some 145, some 146] := ⟨⟨List.mem_of_getElem? (i := 1022) (by rfl), List.mem_of_getElem? (i := 75) (by decide +kernel), ⟨by decide +kernel, by decide +kernel, by decide +kernel⟩, by decide, by decide +kernel⟩, List.mem_of_getElem? (i := 1020) (by decide +kernel), List.mem_of_getElem? (i := 1021) (by decide +kernel), List.mem_of_getElem? (i := 9) rfl, TX4, 3, rfl⟩
set_option maxRecDepth 100000 in
theorem vm_X4_hold : am_vm me_X4_hold 3 9 4 [some 144, some 145, some 146] := ⟨⟨List.mem_of_getElem? (i := 974) (by rfl), List.mem_of_getElem? (i := 75) (by decide +kernel), ⟨by decide +kernel, by decide +kernel, by decide +kernel⟩, by decide, by decide +kernel⟩, List.mem_of_getElem? (i := 972) (by decide +kernel), List.mem_of_getElem? (i := 973) (by decide +kernel), List.mem_of_getElem? (i := 9) rfl, TX4, 3, rfl⟩
set_option maxRecDepth 100000 in
theorem vm_X4_holdsPart : am_vm me_X4_holdsPart 3 9 4 [some 144, some 145, some 146] := ⟨⟨List.mem_of_getElem? (i := 416) (by rfl), List.mem_of_getElem? (i := 75) (by decide +kernel), ⟨by decide +kernel, by decide +kernel, by decide +kernel⟩, by decide, by decide +kernel⟩, List.mem_of_getElem? (i := 414) (by decide +kernel), List.mem_of_getElem? (i := 415) (by decide +kernel), List.mem_of_getElem? (i := 9) rfl, TX4, 3, rfl⟩
set_option maxRecDepth 100000 in
theorem vm_X4_refusalOf : am_vm me_X4_refusalOf 2 9 4 [some 144, some 145, some 146] := ⟨⟨List.mem_of_getElem? (i := 986) (by rfl), List.mem_of_getElem? (i := 75) (by decide +kernel), ⟨by decide +kernel, by decide +kernel, by decide +kernel⟩, by decide, by decide +kernel⟩, List.mem_of_getElem? (i := 984) (by decide +kernel), List.mem_of_getElem? (i := 985) (by decide +kernel), List.mem_of_getElem? (i := 9) rfl, TX4, 3, rfl⟩
set_option maxRecDepth 100000 in
theorem vm_X4_refusalOfTwo : am_vm me_X4_refusalOfTwo 2 9 4 [some 144, some 145, some 146] := ⟨⟨List.mem_of_getElem? (i := 1007) (by rfl), List.mem_of_getElem? (i := 75) (by decide +kernel), ⟨by decide +kernel, by decide +kernel, by decide +kernel⟩, by decide, by decide +kernel⟩, List.mem_of_getElem? (i := 1005) (by decide +kernel), List.mem_of_getElem? (i := 1006) (by decide +kernel), List.mem_of_getElem? (i := 9) rfl, TX4, 3, rfl⟩
set_option maxRecDepth 100000 in
theorem vm_X4_read : am_vm me_X4_read 2 9 4 [some 144, some 145, some 146] := ⟨⟨List.mem_of_getElem? (i := 420) (by rfl), List.mem_of_getElem? (i := 75) (by decide +kernel), ⟨by decide +kernel, by decide +kernel, by decide +kernel⟩, by decide, by decide +kernel⟩, List.mem_of_getElem? (i := 418) (by decide +kernel), List.mem_of_getElem? (i := 419) (by decide +kernel), List.mem_of_getElem? (i := 9) rfl, TX4, 3, rfl⟩
set_option maxRecDepth 100000 in
theorem st_X4_lowest : am_sm me_X4_lowest 2 := ⟨⟨List.mem_of_getElem? (i := 994) (by rfl), List.mem_of_getElem? (i := 75) (by decide +kernel), ⟨by decide +kernel, by decide +kernel, by decide +kernel⟩, by decide, by decide +kernel⟩, List.mem_of_getElem? (i := 993) (by decide +kernel)⟩
set_option maxRecDepth 100000 in
theorem vm_X4_write : am_vm me_X4_write 3 9 4 [some 144, some 145, some 146] := ⟨⟨List.mem_of_getElem? (i := 991) (by rfl), List.mem_of_getElem? (i := 75) (by decide +kernel), ⟨by decide +kernel, by decide +kernel, by decide +kernel⟩, by decide, by decide +kernel⟩, List.mem_of_getElem? (i := 989) (by decide +kernel), List.mem_of_getElem? (i := 990) (by decide +kernel), List.mem_of_getElem? (i := 9) rfl, TX4, 3, rfl⟩
set_option maxRecDepth 100000 in
theorem vm_X4_copy : am_vm me_X4_copy 5 9 4 [some 144, some 145, some 146] := ⟨⟨List.mem_of_getElem? (i := 1011) (by rfl), List.mem_of_getElem? (i := 75) (by decide +kernel), ⟨by decide +kernel, by decide +kernel, by decide +kernel⟩, by decide, by decide +kernel⟩, List.mem_of_getElem? (i := 1009) (by decide +kernel), List.mem_of_getElem? (i := 1010) (by decide +kernel), List.mem_of_getElem? (i := 9) rfl, TX4, 3, rfl⟩
set_option maxRecDepth 100000 in
theorem vm_X5_hasThing : am_vm me_X5_hasThing 1 1 5 [some 16, none, none] := ⟨⟨List.mem_of_getElem? (i := 428) (by rfl), List.mem_of_getElem? (i := 67) (by decide +kernel), ⟨by decide +kernel, by decide +kernel, by decide +kernel⟩, by decide, by decide +kernel⟩, List.mem_of_getElem? (i := 426) (by decide +kernel), List.mem_of_getElem? (i := 427) (by decide +kernel), List.mem_of_getElem? (i := 1) rfl, TX5, 3, rfl⟩
set_option maxRecDepth 100000 in
theorem vm_X5_hasSort : am_vm me_X5_hasSort 1 1 5 [some 16, none, none] := ⟨⟨List.mem_of_getElem? (i := 465) (by rfl), List.mem_of_getElem? (i := 67) (by decide +kernel), ⟨by decide +kernel, by decide +kernel, by decide +kernel⟩, by decide, by decide +kernel⟩, List.mem_of_getElem? (i := 463) (by decide +kernel), List.mem_of_getElem? (i := 464) (by decide +kernel), List.mem_of_getElem? (i := 1) rfl, TX5, 3, rfl⟩
set_option maxRecDepth 100000 in
theorem vm_X5_addThing : am_vm me_X5_addThing 4 1 5 [some 16, none, none] := ⟨⟨List.mem_of_getElem? (i := 389) (by rfl), List.mem_of_getElem? (i := 67) (by decide +kernel), ⟨by decide +kernel, by decide +kernel, by decide +kernel⟩, by decide, by decide +kernel⟩, List.mem_of_getElem? (i := 387) (by decide +kernel), List.mem_of_getElem? (i := 388) (by decide +kernel), List.mem_of_getElem? (i := 1) rfl, TX5, 3, rfl⟩
set_option maxRecDepth 100000 in
theorem vm_X5_addSort : am_vm me_X5_addSort 3 1 5 [some 16, none, none] := ⟨⟨List.mem_of_getElem? (i := 457) (by rfl), List.mem_of_getElem? (i := 67) (by decide +kernel), ⟨by decide +kernel, by decide +kernel, by decide +kernel⟩, by decide, by decide +kernel⟩, List.mem_of_getElem? (i := 455) (by decide +kernel), List.mem_of_getElem? (i := 456) (by decide +kernel), List.mem_of_getElem? (i := 1) rfl, TX5, 3, rfl⟩
set_option maxRecDepth 100000 in
theorem vm_X5_isBasket : am_vm me_X5_isBasket 1 1 5 [some 16, none, none] := ⟨⟨List.mem_of_getElem? (i := 717) (by rfl), List.mem_of_getElem? (i := 67) (by decide +kernel), ⟨by decide +kernel, by decide +kernel, by decide +kernel⟩, by decide, by decide +kernel⟩, List.mem_of_getElem? (i := 715) (by decide +kernel), List.mem_of_getElem? (i := 716) (by decide +kernel), List.mem_of_getElem? (i := 1) rfl, TX5, 3, rfl⟩
set_option maxRecDepth 100000 in
theorem vm_X6_take : am_vm me_X6_take 2 3 6 [some 48, none, none, some 51, none] := ⟨⟨List.mem_of_getElem? (i := 483) (by rfl), List.mem_of_getElem? (i := 69) (by decide +kernel), ⟨by decide +kernel, by decide +kernel, by decide +kernel⟩, by decide, by decide +kernel⟩, List.mem_of_getElem? (i := 481) (by decide +kernel), List.mem_of_getElem? (i := 482) (by decide +kernel), List.mem_of_getElem? (i := 3) rfl, TX6, 5, rfl⟩
set_option maxRecDepth 100000 in
theorem vm_X6_empty : am_vm me_X6_empty 0 3 6 [some 48, none, none, some 51, none] := ⟨⟨List.mem_of_getElem? (i := 553) (by rfl), List.mem_of_getElem? (i := 69) (by decide +kernel), ⟨by decide +kernel, by decide +kernel, by decide +kernel⟩, by decide, by decide +kernel⟩, List.mem_of_getElem? (i := 551) (by decide +kernel), List.mem_of_getElem? (i := 552) (by decide +kernel), List.mem_of_getElem? (i := 3) rfl, TX6, 5, rfl⟩
set_option maxRecDepth 100000 in
theorem vm_X6_place : am_vm me_X6_place 0 3 6 [some 48, none, none, some 51, none] := ⟨⟨List.mem_of_getElem? (i := 549) (by rfl), List.mem_of_getElem? (i := 69) (by decide +kernel), ⟨by decide +kernel, by decide +kernel, by decide +kernel⟩, by decide, by decide +kernel⟩, List.mem_of_getElem? (i := 547) (by decide +kernel), List.mem_of_getElem? (i := 548) (by decide +kernel), List.mem_of_getElem? (i := 3) rfl, TX6, 5, rfl⟩
set_option maxRecDepth 100000 in
theorem vm_X6_size : am_vm me_X6_size 0 3 6 [some 48, none, none, some 51, none] := ⟨⟨List.mem_of_getElem? (i := 538) (by rfl), List.mem_of_getElem? (i := 69) (by decide +kernel), ⟨by decide +kernel, by decide +kernel, by decide +kernel⟩, by decide, by decide +kernel⟩, List.mem_of_getElem? (i := 536) (by decide +kernel), List.mem_of_getElem? (i := 537) (by decide +kernel), List.mem_of_getElem? (i := 3) rfl, TX6, 5, rfl⟩
set_option maxRecDepth 100000 in
theorem vm_X6_stepAt : am_vm me_X6_stepAt 1 3 6 [some 48, none, none, some 51, none] := ⟨⟨List.mem_of_getElem? (i := 545) (by rfl), List.mem_of_getElem? (i := 69) (by decide +kernel), ⟨by decide +kernel, by decide +kernel, by decide +kernel⟩, by decide, by decide +kernel⟩, List.mem_of_getElem? (i := 543) (by decide +kernel), List.mem_of_getElem? (i := 544) (by decide +kernel), List.mem_of_getElem? (i := 3) rfl, TX6, 5, rfl⟩
set_option maxRecDepth 100000 in
theorem vm_X6_here : am_vm me_X6_here 0 3 6 [some 48, none, none, some 51, none] := ⟨⟨List.mem_of_getElem? (i := 507) (by rfl), List.mem_of_getElem? (i := 69) (by decide +kernel), ⟨by decide +kernel, by decide +kernel, by decide +kernel⟩, by decide, by decide +kernel⟩, List.mem_of_getElem? (i := 506) (by decide +kernel), List.mem_of_getElem? (i := 6) (by decide +kernel), List.mem_of_getElem? (i := 3) rfl, TX6, 5, rfl⟩
set_option maxRecDepth 100000 in
theorem vm_X6_write : am_vm me_X6_write 1 3 6 [some 48, none, none, some 51, none] := ⟨⟨List.mem_of_getElem? (i := 516) (by rfl), List.mem_of_getElem? (i := 69) (by decide +kernel), ⟨by decide +kernel, by decide +kernel, by decide +kernel⟩, by decide, by decide +kernel⟩, List.mem_of_getElem? (i := 515) (by decide +kernel), List.mem_of_getElem? (i := 8) (by decide +kernel), List.mem_of_getElem? (i := 3) rfl, TX6, 5, rfl⟩
set_option maxRecDepth 100000 in
theorem vm_X6_readNumber : am_vm me_X6_readNumber 0 3 6 [some 48, none, none, some 51, none] := ⟨⟨List.mem_of_getElem? (i := 512) (by rfl), List.mem_of_getElem? (i := 69) (by decide +kernel), ⟨by decide +kernel, by decide +kernel, by decide +kernel⟩, by decide, by decide +kernel⟩, List.mem_of_getElem? (i := 511) (by decide +kernel), List.mem_of_getElem? (i := 7) (by decide +kernel), List.mem_of_getElem? (i := 3) rfl, TX6, 5, rfl⟩
set_option maxRecDepth 100000 in
theorem st_X6_levelOf : am_sm me_X6_levelOf 1 := ⟨⟨List.mem_of_getElem? (i := 530) (by rfl), List.mem_of_getElem? (i := 69) (by decide +kernel), ⟨by decide +kernel, by decide +kernel, by decide +kernel⟩, by decide, by decide +kernel⟩, List.mem_of_getElem? (i := 529) (by decide +kernel)⟩
set_option maxRecDepth 100000 in
theorem vm_X6_readInside : am_vm me_X6_readInside 1 3 6 [some 48, none, none, some 51, none] := ⟨⟨List.mem_of_getElem? (i := 523) (by rfl), List.mem_of_getElem? (i := 69) (by decide +kernel), ⟨by decide +kernel, by decide +kernel, by decide +kernel⟩, by decide, by decide +kernel⟩, List.mem_of_getElem? (i := 522) (by decide +kernel), List.mem_of_getElem? (i := 9) (by decide +kernel), List.mem_of_getElem? (i := 3) rfl, TX6, 5, rfl⟩
set_option maxRecDepth 100000 in
theorem vm_X6_readLevel : am_vm me_X6_readLevel 2 3 6 [some 48, none, none, some 51, none] := ⟨⟨List.mem_of_getElem? (i := 499) (by rfl), List.mem_of_getElem? (i := 69) (by decide +kernel), ⟨by decide +kernel, by decide +kernel, by decide +kernel⟩, by decide, by decide +kernel⟩, List.mem_of_getElem? (i := 498) (by decide +kernel), List.mem_of_getElem? (i := 4) (by decide +kernel), List.mem_of_getElem? (i := 3) rfl, TX6, 5, rfl⟩
set_option maxRecDepth 100000 in
theorem vm_X6_readOne : am_vm me_X6_readOne 1 3 6 [some 48, none, none, some 51, none] := ⟨⟨List.mem_of_getElem? (i := 503) (by rfl), List.mem_of_getElem? (i := 69) (by decide +kernel), ⟨by decide +kernel, by decide +kernel, by decide +kernel⟩, by decide, by decide +kernel⟩, List.mem_of_getElem? (i := 502) (by decide +kernel), List.mem_of_getElem? (i := 5) (by decide +kernel), List.mem_of_getElem? (i := 3) rfl, TX6, 5, rfl⟩
set_option maxRecDepth 100000 in
theorem vm_X6_readSigned : am_vm me_X6_readSigned 2 3 6 [some 48, none, none, some 51, none] := ⟨⟨List.mem_of_getElem? (i := 527) (by rfl), List.mem_of_getElem? (i := 69) (by decide +kernel), ⟨by decide +kernel, by decide +kernel, by decide +kernel⟩, by decide, by decide +kernel⟩, List.mem_of_getElem? (i := 526) (by decide +kernel), List.mem_of_getElem? (i := 10) (by decide +kernel), List.mem_of_getElem? (i := 3) rfl, TX6, 5, rfl⟩
set_option maxRecDepth 100000 in
theorem vm_X6_readLine : am_vm me_X6_readLine 0 3 6 [some 48, none, none, some 51, none] := ⟨⟨List.mem_of_getElem? (i := 495) (by rfl), List.mem_of_getElem? (i := 69) (by decide +kernel), ⟨by decide +kernel, by decide +kernel, by decide +kernel⟩, by decide, by decide +kernel⟩, List.mem_of_getElem? (i := 494) (by decide +kernel), List.mem_of_getElem? (i := 3) (by decide +kernel), List.mem_of_getElem? (i := 3) rfl, TX6, 5, rfl⟩
set_option maxRecDepth 100000 in
theorem vm_X6_reads : am_vm me_X6_reads 0 3 6 [some 48, none, none, some 51, none] := ⟨⟨List.mem_of_getElem? (i := 491) (by rfl), List.mem_of_getElem? (i := 69) (by decide +kernel), ⟨by decide +kernel, by decide +kernel, by decide +kernel⟩, by decide, by decide +kernel⟩, List.mem_of_getElem? (i := 489) (by decide +kernel), List.mem_of_getElem? (i := 490) (by decide +kernel), List.mem_of_getElem? (i := 3) rfl, TX6, 5, rfl⟩
set_option maxRecDepth 100000 in
theorem vm_X8_known : am_vm me_X8_known 0 4 8 [some 64, some 65, none, some 67, some 68, none] := ⟨⟨List.mem_of_getElem? (i := 453) (by rfl), List.mem_of_getElem? (i := 70) (by decide +kernel), ⟨by decide +kernel, by decide +kernel, by decide +kernel⟩, by decide, by decide +kernel⟩, List.mem_of_getElem? (i := 451) (by decide +kernel), List.mem_of_getElem? (i := 452) (by decide +kernel), List.mem_of_getElem? (i := 4) rfl, TX8, 6, rfl⟩
set_option maxRecDepth 100000 in
theorem vm_X8_learn : am_vm me_X8_learn 1 4 8 [some 64, some 65, none, some 67, some 68, none] := ⟨⟨List.mem_of_getElem? (i := 534) (by rfl), List.mem_of_getElem? (i := 70) (by decide +kernel), ⟨by decide +kernel, by decide +kernel, by decide +kernel⟩, by decide, by decide +kernel⟩, List.mem_of_getElem? (i := 532) (by decide +kernel), List.mem_of_getElem? (i := 533) (by decide +kernel), List.mem_of_getElem? (i := 4) rfl, TX8, 6, rfl⟩
set_option maxRecDepth 100000 in
theorem vm_X9_thing : am_vm me_X9_thing 3 0 9 [some 1, some 2, some 3, some 4, some 5, some 6, some 7, some 8, some 9] := ⟨⟨List.mem_of_getElem? (i := 382) (by rfl), List.mem_of_getElem? (i := 66) (by decide +kernel), ⟨by decide +kernel, by decide +kernel, by decide +kernel⟩, by decide, by decide +kernel⟩, List.mem_of_getElem? (i := 380) (by decide +kernel), List.mem_of_getElem? (i := 381) (by decide +kernel), List.mem_of_getElem? (i := 0) rfl, TX9, 9, rfl⟩
set_option maxRecDepth 100000 in
theorem vm_X9_comesFrom : am_vm me_X9_comesFrom 2 0 9 [some 1, some 2, some 3, some 4, some 5, some 6, some 7, some 8, some 9] := ⟨⟨List.mem_of_getElem? (i := 412) (by rfl), List.mem_of_getElem? (i := 66) (by decide +kernel), ⟨by decide +kernel, by decide +kernel, by decide +kernel⟩, by decide, by decide +kernel⟩, List.mem_of_getElem? (i := 411) (by decide +kernel), List.mem_of_getElem? (i := 0) (by decide +kernel), List.mem_of_getElem? (i := 0) rfl, TX9, 9, rfl⟩
set_option maxRecDepth 100000 in
theorem vm_X9_things : am_vm me_X9_things 3 0 9 [some 1, some 2, some 3, some 4, some 5, some 6, some 7, some 8, some 9] := ⟨⟨List.mem_of_getElem? (i := 398) (by rfl), List.mem_of_getElem? (i := 66) (by decide +kernel), ⟨by decide +kernel, by decide +kernel, by decide +kernel⟩, by decide, by decide +kernel⟩, List.mem_of_getElem? (i := 396) (by decide +kernel), List.mem_of_getElem? (i := 397) (by decide +kernel), List.mem_of_getElem? (i := 0) rfl, TX9, 9, rfl⟩
set_option maxRecDepth 100000 in
theorem vm_X9_mend : am_vm me_X9_mend 3 0 9 [some 1, some 2, some 3, some 4, some 5, some 6, some 7, some 8, some 9] := ⟨⟨List.mem_of_getElem? (i := 424) (by rfl), List.mem_of_getElem? (i := 66) (by decide +kernel), ⟨by decide +kernel, by decide +kernel, by decide +kernel⟩, by decide, by decide +kernel⟩, List.mem_of_getElem? (i := 422) (by decide +kernel), List.mem_of_getElem? (i := 423) (by decide +kernel), List.mem_of_getElem? (i := 0) rfl, TX9, 9, rfl⟩
set_option maxRecDepth 100000 in
theorem vm_X9_sort : am_vm me_X9_sort 3 0 9 [some 1, some 2, some 3, some 4, some 5, some 6, some 7, some 8, some 9] := ⟨⟨List.mem_of_getElem? (i := 449) (by rfl), List.mem_of_getElem? (i := 66) (by decide +kernel), ⟨by decide +kernel, by decide +kernel, by decide +kernel⟩, by decide, by decide +kernel⟩, List.mem_of_getElem? (i := 447) (by decide +kernel), List.mem_of_getElem? (i := 448) (by decide +kernel), List.mem_of_getElem? (i := 0) rfl, TX9, 9, rfl⟩
set_option maxRecDepth 100000 in
theorem vm_X9_purse : am_vm me_X9_purse 3 0 9 [some 1, some 2, some 3, some 4, some 5, some 6, some 7, some 8, some 9] := ⟨⟨List.mem_of_getElem? (i := 461) (by rfl), List.mem_of_getElem? (i := 66) (by decide +kernel), ⟨by decide +kernel, by decide +kernel, by decide +kernel⟩, by decide, by decide +kernel⟩, List.mem_of_getElem? (i := 459) (by decide +kernel), List.mem_of_getElem? (i := 460) (by decide +kernel), List.mem_of_getElem? (i := 0) rfl, TX9, 9, rfl⟩
set_option maxRecDepth 100000 in
theorem vm_X9_of : am_vm me_X9_of 2 0 9 [some 1, some 2, some 3, some 4, some 5, some 6, some 7, some 8, some 9] := ⟨⟨List.mem_of_getElem? (i := 469) (by rfl), List.mem_of_getElem? (i := 66) (by decide +kernel), ⟨by decide +kernel, by decide +kernel, by decide +kernel⟩, by decide, by decide +kernel⟩, List.mem_of_getElem? (i := 467) (by decide +kernel), List.mem_of_getElem? (i := 468) (by decide +kernel), List.mem_of_getElem? (i := 0) rfl, TX9, 9, rfl⟩
set_option maxRecDepth 100000 in
theorem vm_X9_feed : am_vm me_X9_feed 2 0 9 [some 1, some 2, some 3, some 4, some 5, some 6, some 7, some 8, some 9] := ⟨⟨List.mem_of_getElem? (i := 479) (by rfl), List.mem_of_getElem? (i := 66) (by decide +kernel), ⟨by decide +kernel, by decide +kernel, by decide +kernel⟩, by decide, by decide +kernel⟩, List.mem_of_getElem? (i := 477) (by decide +kernel), List.mem_of_getElem? (i := 478) (by decide +kernel), List.mem_of_getElem? (i := 0) rfl, TX9, 9, rfl⟩
set_option maxRecDepth 100000 in
theorem vm_X9_want : am_vm me_X9_want 0 0 9 [some 1, some 2, some 3, some 4, some 5, some 6, some 7, some 8, some 9] := ⟨⟨List.mem_of_getElem? (i := 487) (by rfl), List.mem_of_getElem? (i := 66) (by decide +kernel), ⟨by decide +kernel, by decide +kernel, by decide +kernel⟩, by decide, by decide +kernel⟩, List.mem_of_getElem? (i := 485) (by decide +kernel), List.mem_of_getElem? (i := 486) (by decide +kernel), List.mem_of_getElem? (i := 0) rfl, TX9, 9, rfl⟩
set_option maxRecDepth 100000 in
theorem vm_X9_worth : am_vm me_X9_worth 2 0 9 [some 1, some 2, some 3, some 4, some 5, some 6, some 7, some 8, some 9] := ⟨⟨List.mem_of_getElem? (i := 557) (by rfl), List.mem_of_getElem? (i := 66) (by decide +kernel), ⟨by decide +kernel, by decide +kernel, by decide +kernel⟩, by decide, by decide +kernel⟩, List.mem_of_getElem? (i := 555) (by decide +kernel), List.mem_of_getElem? (i := 556) (by decide +kernel), List.mem_of_getElem? (i := 0) rfl, TX9, 9, rfl⟩
set_option maxRecDepth 100000 in
theorem vm_X9_basket : am_vm me_X9_basket 2 0 9 [some 1, some 2, some 3, some 4, some 5, some 6, some 7, some 8, some 9] := ⟨⟨List.mem_of_getElem? (i := 608) (by rfl), List.mem_of_getElem? (i := 66) (by decide +kernel), ⟨by decide +kernel, by decide +kernel, by decide +kernel⟩, by decide, by decide +kernel⟩, List.mem_of_getElem? (i := 606) (by decide +kernel), List.mem_of_getElem? (i := 607) (by decide +kernel), List.mem_of_getElem? (i := 0) rfl, TX9, 9, rfl⟩
set_option maxRecDepth 100000 in
theorem vm_X9_wanted : am_vm me_X9_wanted 2 0 9 [some 1, some 2, some 3, some 4, some 5, some 6, some 7, some 8, some 9] := ⟨⟨List.mem_of_getElem? (i := 637) (by rfl), List.mem_of_getElem? (i := 66) (by decide +kernel), ⟨by decide +kernel, by decide +kernel, by decide +kernel⟩, by decide, by decide +kernel⟩, List.mem_of_getElem? (i := 635) (by decide +kernel), List.mem_of_getElem? (i := 636) (by decide +kernel), List.mem_of_getElem? (i := 0) rfl, TX9, 9, rfl⟩
set_option maxRecDepth 100000 in
theorem vm_X9_led : am_vm me_X9_led 2 0 9 [some 1, some 2, some 3, some 4, some 5, some 6, some 7, some 8, some 9] := ⟨⟨List.mem_of_getElem? (i := 671) (by rfl), List.mem_of_getElem? (i := 66) (by decide +kernel), ⟨by decide +kernel, by decide +kernel, by decide +kernel⟩, by decide, by decide +kernel⟩, List.mem_of_getElem? (i := 669) (by decide +kernel), List.mem_of_getElem? (i := 670) (by decide +kernel), List.mem_of_getElem? (i := 0) rfl, TX9, 9, rfl⟩
set_option maxRecDepth 100000 in
theorem vm_X9_found : am_vm me_X9_found 2 0 9 [some 1, some 2, some 3, some 4, some 5, some 6, some 7, some 8, some 9] := ⟨⟨List.mem_of_getElem? (i := 676) (by rfl), List.mem_of_getElem? (i := 66) (by decide +kernel), ⟨by decide +kernel, by decide +kernel, by decide +kernel⟩, by decide, by decide +kernel⟩, List.mem_of_getElem? (i := 674) (by decide +kernel), List.mem_of_getElem? (i := 675) (by decide +kernel), List.mem_of_getElem? (i := 0) rfl, TX9, 9, rfl⟩
set_option maxRecDepth 100000 in
theorem vm_X9_set : am_vm me_X9_set 1 0 9 [some 1, some 2, some 3, some 4, some 5, some 6, some 7, some 8, some 9] := ⟨⟨List.mem_of_getElem? (i := 705) (by rfl), List.mem_of_getElem? (i := 66) (by decide +kernel), ⟨by decide +kernel, by decide +kernel, by decide +kernel⟩, by decide, by decide +kernel⟩, List.mem_of_getElem? (i := 703) (by decide +kernel), List.mem_of_getElem? (i := 704) (by decide +kernel), List.mem_of_getElem? (i := 0) rfl, TX9, 9, rfl⟩
set_option maxRecDepth 100000 in
theorem vm_X9_tell : am_vm me_X9_tell 2 0 9 [some 1, some 2, some 3, some 4, some 5, some 6, some 7, some 8, some 9] := ⟨⟨List.mem_of_getElem? (i := 713) (by rfl), List.mem_of_getElem? (i := 66) (by decide +kernel), ⟨by decide +kernel, by decide +kernel, by decide +kernel⟩, by decide, by decide +kernel⟩, List.mem_of_getElem? (i := 711) (by decide +kernel), List.mem_of_getElem? (i := 712) (by decide +kernel), List.mem_of_getElem? (i := 0) rfl, TX9, 9, rfl⟩
set_option maxRecDepth 100000 in
theorem vm_X9_judge : am_vm me_X9_judge 0 0 9 [some 1, some 2, some 3, some 4, some 5, some 6, some 7, some 8, some 9] := ⟨⟨List.mem_of_getElem? (i := 725) (by rfl), List.mem_of_getElem? (i := 66) (by decide +kernel), ⟨by decide +kernel, by decide +kernel, by decide +kernel⟩, by decide, by decide +kernel⟩, List.mem_of_getElem? (i := 723) (by decide +kernel), List.mem_of_getElem? (i := 724) (by decide +kernel), List.mem_of_getElem? (i := 0) rfl, TX9, 9, rfl⟩
set_option maxRecDepth 100000 in
theorem vm_X9_changed : am_vm me_X9_changed 3 0 9 [some 1, some 2, some 3, some 4, some 5, some 6, some 7, some 8, some 9] := ⟨⟨List.mem_of_getElem? (i := 746) (by rfl), List.mem_of_getElem? (i := 66) (by decide +kernel), ⟨by decide +kernel, by decide +kernel, by decide +kernel⟩, by decide, by decide +kernel⟩, List.mem_of_getElem? (i := 744) (by decide +kernel), List.mem_of_getElem? (i := 745) (by decide +kernel), List.mem_of_getElem? (i := 0) rfl, TX9, 9, rfl⟩
set_option maxRecDepth 100000 in
theorem vm_X9_free : am_vm me_X9_free 0 0 9 [some 1, some 2, some 3, some 4, some 5, some 6, some 7, some 8, some 9] := ⟨⟨List.mem_of_getElem? (i := 767) (by rfl), List.mem_of_getElem? (i := 66) (by decide +kernel), ⟨by decide +kernel, by decide +kernel, by decide +kernel⟩, by decide, by decide +kernel⟩, List.mem_of_getElem? (i := 765) (by decide +kernel), List.mem_of_getElem? (i := 766) (by decide +kernel), List.mem_of_getElem? (i := 0) rfl, TX9, 9, rfl⟩
set_option maxRecDepth 100000 in
theorem vm_X9_black : am_vm me_X9_black 3 0 9 [some 1, some 2, some 3, some 4, some 5, some 6, some 7, some 8, some 9] := ⟨⟨List.mem_of_getElem? (i := 780) (by rfl), List.mem_of_getElem? (i := 66) (by decide +kernel), ⟨by decide +kernel, by decide +kernel, by decide +kernel⟩, by decide, by decide +kernel⟩, List.mem_of_getElem? (i := 778) (by decide +kernel), List.mem_of_getElem? (i := 779) (by decide +kernel), List.mem_of_getElem? (i := 0) rfl, TX9, 9, rfl⟩
set_option maxRecDepth 100000 in
theorem st_X9_isShare : am_sm me_X9_isShare 1 := ⟨⟨List.mem_of_getElem? (i := 791) (by rfl), List.mem_of_getElem? (i := 66) (by decide +kernel), ⟨by decide +kernel, by decide +kernel, by decide +kernel⟩, by decide, by decide +kernel⟩, List.mem_of_getElem? (i := 790) (by decide +kernel)⟩
set_option maxRecDepth 100000 in
theorem vm_X9_beside : am_vm me_X9_beside 2 0 9 [some 1, some 2, some 3, some 4, some 5, some 6, some 7, some 8, some 9] := ⟨⟨List.mem_of_getElem? (i := 788) (by rfl), List.mem_of_getElem? (i := 66) (by decide +kernel), ⟨by decide +kernel, by decide +kernel, by decide +kernel⟩, by decide, by decide +kernel⟩, List.mem_of_getElem? (i := 786) (by decide +kernel), List.mem_of_getElem? (i := 787) (by decide +kernel), List.mem_of_getElem? (i := 0) rfl, TX9, 9, rfl⟩
set_option maxRecDepth 100000 in
theorem vm_X9_loses : am_vm me_X9_loses 1 0 9 [some 1, some 2, some 3, some 4, some 5, some 6, some 7, some 8, some 9] := ⟨⟨List.mem_of_getElem? (i := 813) (by rfl), List.mem_of_getElem? (i := 66) (by decide +kernel), ⟨by decide +kernel, by decide +kernel, by decide +kernel⟩, by decide, by decide +kernel⟩, List.mem_of_getElem? (i := 811) (by decide +kernel), List.mem_of_getElem? (i := 812) (by decide +kernel), List.mem_of_getElem? (i := 0) rfl, TX9, 9, rfl⟩
set_option maxRecDepth 100000 in
theorem st_J_bitCount : am_sm me_J_bitCount 1 := ⟨⟨List.mem_of_getElem? (i := 826) (by rfl), List.mem_of_getElem? (i := 78) (by decide +kernel), ⟨by decide +kernel, by decide +kernel, by decide +kernel⟩, by decide, by decide +kernel⟩, List.mem_of_getElem? (i := 825) (by decide +kernel)⟩
set_option maxRecDepth 100000 in
theorem vm_X9_fewest : am_vm me_X9_fewest 0 0 9 [some 1, some 2, some 3, some 4, some 5, some 6, some 7, some 8, some 9] := ⟨⟨List.mem_of_getElem? (i := 823) (by rfl), List.mem_of_getElem? (i := 66) (by decide +kernel), ⟨by decide +kernel, by decide +kernel, by decide +kernel⟩, by decide, by decide +kernel⟩, List.mem_of_getElem? (i := 821) (by decide +kernel), List.mem_of_getElem? (i := 822) (by decide +kernel), List.mem_of_getElem? (i := 0) rfl, TX9, 9, rfl⟩
set_option maxRecDepth 100000 in
theorem vm_X9_least : am_vm me_X9_least 1 0 9 [some 1, some 2, some 3, some 4, some 5, some 6, some 7, some 8, some 9] := ⟨⟨List.mem_of_getElem? (i := 837) (by rfl), List.mem_of_getElem? (i := 66) (by decide +kernel), ⟨by decide +kernel, by decide +kernel, by decide +kernel⟩, by decide, by decide +kernel⟩, List.mem_of_getElem? (i := 835) (by decide +kernel), List.mem_of_getElem? (i := 836) (by decide +kernel), List.mem_of_getElem? (i := 0) rfl, TX9, 9, rfl⟩
set_option maxRecDepth 100000 in
theorem vm_X9_months : am_vm me_X9_months 4 0 9 [some 1, some 2, some 3, some 4, some 5, some 6, some 7, some 8, some 9] := ⟨⟨List.mem_of_getElem? (i := 845) (by rfl), List.mem_of_getElem? (i := 66) (by decide +kernel), ⟨by decide +kernel, by decide +kernel, by decide +kernel⟩, by decide, by decide +kernel⟩, List.mem_of_getElem? (i := 843) (by decide +kernel), List.mem_of_getElem? (i := 844) (by decide +kernel), List.mem_of_getElem? (i := 0) rfl, TX9, 9, rfl⟩
set_option maxRecDepth 100000 in
theorem vm_X9_foresight : am_vm me_X9_foresight 1 0 9 [some 1, some 2, some 3, some 4, some 5, some 6, some 7, some 8, some 9] := ⟨⟨List.mem_of_getElem? (i := 853) (by rfl), List.mem_of_getElem? (i := 66) (by decide +kernel), ⟨by decide +kernel, by decide +kernel, by decide +kernel⟩, by decide, by decide +kernel⟩, List.mem_of_getElem? (i := 851) (by decide +kernel), List.mem_of_getElem? (i := 852) (by decide +kernel), List.mem_of_getElem? (i := 0) rfl, TX9, 9, rfl⟩
set_option maxRecDepth 100000 in
theorem vm_X9_cheap : am_vm me_X9_cheap 1 0 9 [some 1, some 2, some 3, some 4, some 5, some 6, some 7, some 8, some 9] := ⟨⟨List.mem_of_getElem? (i := 869) (by rfl), List.mem_of_getElem? (i := 66) (by decide +kernel), ⟨by decide +kernel, by decide +kernel, by decide +kernel⟩, by decide, by decide +kernel⟩, List.mem_of_getElem? (i := 867) (by decide +kernel), List.mem_of_getElem? (i := 868) (by decide +kernel), List.mem_of_getElem? (i := 0) rfl, TX9, 9, rfl⟩
set_option maxRecDepth 100000 in
theorem vm_X9_wrong : am_vm me_X9_wrong 1 0 9 [some 1, some 2, some 3, some 4, some 5, some 6, some 7, some 8, some 9] := ⟨⟨List.mem_of_getElem? (i := 877) (by rfl), List.mem_of_getElem? (i := 66) (by decide +kernel), ⟨by decide +kernel, by decide +kernel, by decide +kernel⟩, by decide, by decide +kernel⟩, List.mem_of_getElem? (i := 875) (by decide +kernel), List.mem_of_getElem? (i := 876) (by decide +kernel), List.mem_of_getElem? (i := 0) rfl, TX9, 9, rfl⟩
set_option maxRecDepth 100000 in
theorem vm_X9_undo : am_vm me_X9_undo 0 0 9 [some 1, some 2, some 3, some 4, some 5, some 6, some 7, some 8, some 9] := ⟨⟨List.mem_of_getElem? (i := 891) (by rfl), List.mem_of_getElem? (i := 66) (by decide +kernel), ⟨by decide +kernel, by decide +kernel, by decide +kernel⟩, by decide, by decide +kernel⟩, List.mem_of_getElem? (i := 889) (by decide +kernel), List.mem_of_getElem? (i := 890) (by decide +kernel), List.mem_of_getElem? (i := 0) rfl, TX9, 9, rfl⟩
set_option maxRecDepth 100000 in
theorem vm_X9_redo : am_vm me_X9_redo 0 0 9 [some 1, some 2, some 3, some 4, some 5, some 6, some 7, some 8, some 9] := ⟨⟨List.mem_of_getElem? (i := 899) (by rfl), List.mem_of_getElem? (i := 66) (by decide +kernel), ⟨by decide +kernel, by decide +kernel, by decide +kernel⟩, by decide, by decide +kernel⟩, List.mem_of_getElem? (i := 897) (by decide +kernel), List.mem_of_getElem? (i := 898) (by decide +kernel), List.mem_of_getElem? (i := 0) rfl, TX9, 9, rfl⟩
set_option maxRecDepth 100000 in
theorem vm_X9_body : am_vm me_X9_body 1 0 9 [some 1, some 2, some 3, some 4, some 5, some 6, some 7, some 8, some 9] := ⟨⟨List.mem_of_getElem? (i := 907) (by rfl), List.mem_of_getElem? (i := 66) (by decide +kernel), ⟨by decide +kernel, by decide +kernel, by decide +kernel⟩, by decide, by decide +kernel⟩, List.mem_of_getElem? (i := 905) (by decide +kernel), List.mem_of_getElem? (i := 906) (by decide +kernel), List.mem_of_getElem? (i := 0) rfl, TX9, 9, rfl⟩
set_option maxRecDepth 100000 in
theorem vm_X9_act : am_vm me_X9_act 3 0 9 [some 1, some 2, some 3, some 4, some 5, some 6, some 7, some 8, some 9] := ⟨⟨List.mem_of_getElem? (i := 915) (by rfl), List.mem_of_getElem? (i := 66) (by decide +kernel), ⟨by decide +kernel, by decide +kernel, by decide +kernel⟩, by decide, by decide +kernel⟩, List.mem_of_getElem? (i := 913) (by decide +kernel), List.mem_of_getElem? (i := 914) (by decide +kernel), List.mem_of_getElem? (i := 0) rfl, TX9, 9, rfl⟩
set_option maxRecDepth 100000 in
theorem vm_X9_trace : am_vm me_X9_trace 1 0 9 [some 1, some 2, some 3, some 4, some 5, some 6, some 7, some 8, some 9] := ⟨⟨List.mem_of_getElem? (i := 961) (by rfl), List.mem_of_getElem? (i := 66) (by decide +kernel), ⟨by decide +kernel, by decide +kernel, by decide +kernel⟩, by decide, by decide +kernel⟩, List.mem_of_getElem? (i := 959) (by decide +kernel), List.mem_of_getElem? (i := 960) (by decide +kernel), List.mem_of_getElem? (i := 0) rfl, TX9, 9, rfl⟩
set_option maxRecDepth 100000 in
theorem vm_X9_keep : am_vm me_X9_keep 2 0 9 [some 1, some 2, some 3, some 4, some 5, some 6, some 7, some 8, some 9] := ⟨⟨List.mem_of_getElem? (i := 970) (by rfl), List.mem_of_getElem? (i := 66) (by decide +kernel), ⟨by decide +kernel, by decide +kernel, by decide +kernel⟩, by decide, by decide +kernel⟩, List.mem_of_getElem? (i := 968) (by decide +kernel), List.mem_of_getElem? (i := 969) (by decide +kernel), List.mem_of_getElem? (i := 0) rfl, TX9, 9, rfl⟩
set_option maxRecDepth 100000 in
theorem vm_X9_row : am_vm me_X9_row 3 0 9 [some 1, some 2, some 3, some 4, some 5, some 6, some 7, some 8, some 9] := ⟨⟨List.mem_of_getElem? (i := 978) (by rfl), List.mem_of_getElem? (i := 66) (by decide +kernel), ⟨by decide +kernel, by decide +kernel, by decide +kernel⟩, by decide, by decide +kernel⟩, List.mem_of_getElem? (i := 976) (by decide +kernel), List.mem_of_getElem? (i := 977) (by decide +kernel), List.mem_of_getElem? (i := 0) rfl, TX9, 9, rfl⟩
set_option maxRecDepth 100000 in
theorem vm_X9_put : am_vm me_X9_put 3 0 9 [some 1, some 2, some 3, some 4, some 5, some 6, some 7, some 8, some 9] := ⟨⟨List.mem_of_getElem? (i := 982) (by rfl), List.mem_of_getElem? (i := 66) (by decide +kernel), ⟨by decide +kernel, by decide +kernel, by decide +kernel⟩, by decide, by decide +kernel⟩, List.mem_of_getElem? (i := 980) (by decide +kernel), List.mem_of_getElem? (i := 981) (by decide +kernel), List.mem_of_getElem? (i := 0) rfl, TX9, 9, rfl⟩
set_option maxRecDepth 100000 in
theorem vm_X9_element : am_vm me_X9_element 2 0 9 [some 1, some 2, some 3, some 4, some 5, some 6, some 7, some 8, some 9] := ⟨⟨List.mem_of_getElem? (i := 998) (by rfl), List.mem_of_getElem? (i := 66) (by decide +kernel), ⟨by decide +kernel, by decide +kernel, by decide +kernel⟩, by decide, by decide +kernel⟩, List.mem_of_getElem? (i := 996) (by decide +kernel), List.mem_of_getElem? (i := 997) (by decide +kernel), List.mem_of_getElem? (i := 0) rfl, TX9, 9, rfl⟩
set_option maxRecDepth 100000 in
theorem vm_X9_shift : am_vm me_X9_shift 5 0 9 [some 1, some 2, some 3, some 4, some 5, some 6, some 7, some 8, some 9] := ⟨⟨List.mem_of_getElem? (i := 1003) (by rfl), List.mem_of_getElem? (i := 66) (by decide +kernel), ⟨by decide +kernel, by decide +kernel, by decide +kernel⟩, by decide, by decide +kernel⟩, List.mem_of_getElem? (i := 1001) (by decide +kernel), List.mem_of_getElem? (i := 1002) (by decide +kernel), List.mem_of_getElem? (i := 0) rfl, TX9, 9, rfl⟩
set_option maxRecDepth 100000 in
theorem vm_X9_taken : am_vm me_X9_taken 2 0 9 [some 1, some 2, some 3, some 4, some 5, some 6, some 7, some 8, some 9] := ⟨⟨List.mem_of_getElem? (i := 1018) (by rfl), List.mem_of_getElem? (i := 66) (by decide +kernel), ⟨by decide +kernel, by decide +kernel, by decide +kernel⟩, by decide, by decide +kernel⟩, List.mem_of_getElem? (i := 1016) (by decide +kernel), List.mem_of_getElem? (i := 1017) (by decide +kernel), List.mem_of_getElem? (i := 0) rfl, TX9, 9, rfl⟩
set_option maxRecDepth 100000 in
theorem vm_X9_count : am_vm me_X9_count 1 0 9 [some 1, some 2, some 3, some 4, some 5, some 6, some 7, some 8, some 9] := ⟨⟨List.mem_of_getElem? (i := 1031) (by rfl), List.mem_of_getElem? (i := 66) (by decide +kernel), ⟨by decide +kernel, by decide +kernel, by decide +kernel⟩, by decide, by decide +kernel⟩, List.mem_of_getElem? (i := 1029) (by decide +kernel), List.mem_of_getElem? (i := 1030) (by decide +kernel), List.mem_of_getElem? (i := 0) rfl, TX9, 9, rfl⟩
set_option maxRecDepth 100000 in
theorem st_X10_within : am_sm me_X10_within 3 := ⟨⟨List.mem_of_getElem? (i := 1219) (by rfl), List.mem_of_getElem? (i := 76) (by decide +kernel), ⟨by decide +kernel, by decide +kernel, by decide +kernel⟩, by decide, by decide +kernel⟩, List.mem_of_getElem? (i := 1218) (by decide +kernel)⟩
set_option maxRecDepth 100000 in
theorem st_X10_size : am_sm me_X10_size 1 := ⟨⟨List.mem_of_getElem? (i := 1383) (by rfl), List.mem_of_getElem? (i := 76) (by decide +kernel), ⟨by decide +kernel, by decide +kernel, by decide +kernel⟩, by decide, by decide +kernel⟩, List.mem_of_getElem? (i := 1382) (by decide +kernel)⟩
set_option maxRecDepth 100000 in
theorem vm_X10_becomes : am_vm me_X10_becomes 2 10 10 [some 160, some 161, some 162, some 163, none, none, none, some 167, none, some 169, some 170, some 171, some 172, some 173, none, none, some 176, some 177, none, none, none, none, none, some 183, some 184, some 185, none, none, none, none, none, none, none, some 193, some 194, none, none, none, none, some 199, some 200, some 201, none, none, some 204, none, some 206, some 207, none, none, none, some 211, some 212, some 213, some 214] := ⟨⟨List.mem_of_getElem? (i := 1250) (by rfl), List.mem_of_getElem? (i := 76) (by decide +kernel), ⟨by decide +kernel, by decide +kernel, by decide +kernel⟩, by decide, by decide +kernel⟩, List.mem_of_getElem? (i := 1249) (by decide +kernel), List.mem_of_getElem? (i := 26) (by decide +kernel), List.mem_of_getElem? (i := 10) rfl, TX10, 55, rfl⟩
set_option maxRecDepth 100000 in
theorem vm_X10_undo : am_vm me_X10_undo 0 10 10 [some 160, some 161, some 162, some 163, none, none, none, some 167, none, some 169, some 170, some 171, some 172, some 173, none, none, some 176, some 177, none, none, none, none, none, some 183, some 184, some 185, none, none, none, none, none, none, none, some 193, some 194, none, none, none, none, some 199, some 200, some 201, none, none, some 204, none, some 206, some 207, none, none, none, some 211, some 212, some 213, some 214] := ⟨⟨List.mem_of_getElem? (i := 1207) (by rfl), List.mem_of_getElem? (i := 76) (by decide +kernel), ⟨by decide +kernel, by decide +kernel, by decide +kernel⟩, by decide, by decide +kernel⟩, List.mem_of_getElem? (i := 1205) (by decide +kernel), List.mem_of_getElem? (i := 1206) (by decide +kernel), List.mem_of_getElem? (i := 10) rfl, TX10, 55, rfl⟩
set_option maxRecDepth 100000 in
theorem vm_X10_redo : am_vm me_X10_redo 0 10 10 [some 160, some 161, some 162, some 163, none, none, none, some 167, none, some 169, some 170, some 171, some 172, some 173, none, none, some 176, some 177, none, none, none, none, none, some 183, some 184, some 185, none, none, none, none, none, none, none, some 193, some 194, none, none, none, none, some 199, some 200, some 201, none, none, some 204, none, some 206, some 207, none, none, none, some 211, some 212, some 213, some 214] := ⟨⟨List.mem_of_getElem? (i := 1211) (by rfl), List.mem_of_getElem? (i := 76) (by decide +kernel), ⟨by decide +kernel, by decide +kernel, by decide +kernel⟩, by decide, by decide +kernel⟩, List.mem_of_getElem? (i := 1209) (by decide +kernel), List.mem_of_getElem? (i := 1210) (by decide +kernel), List.mem_of_getElem? (i := 10) rfl, TX10, 55, rfl⟩
set_option maxRecDepth 100000 in
theorem vm_X10_isThing : am_vm me_X10_isThing 1 10 10 [some 160, some 161, some 162, some 163, none, none, none, some 167, none, some 169, some 170, some 171, some 172, some 173, none, none, some 176, some 177, none, none, none, none, none, some 183, some 184, some 185, none, none, none, none, none, none, none, some 193, some 194, none, none, none, none, some 199, some 200, some 201, none, none, some 204, none, some 206, some 207, none, none, none, some 211, some 212, some 213, some 214] := ⟨⟨List.mem_of_getElem? (i := 1245) (by rfl), List.mem_of_getElem? (i := 76) (by decide +kernel), ⟨by decide +kernel, by decide +kernel, by decide +kernel⟩, by decide, by decide +kernel⟩, List.mem_of_getElem? (i := 1244) (by decide +kernel), List.mem_of_getElem? (i := 25) (by decide +kernel), List.mem_of_getElem? (i := 10) rfl, TX10, 55, rfl⟩
set_option maxRecDepth 100000 in
theorem vm_X10_isSort : am_vm me_X10_isSort 1 10 10 [some 160, some 161, some 162, some 163, none, none, none, some 167, none, some 169, some 170, some 171, some 172, some 173, none, none, some 176, some 177, none, none, none, none, none, some 183, some 184, some 185, none, none, none, none, none, none, none, some 193, some 194, none, none, none, none, some 199, some 200, some 201, none, none, some 204, none, some 206, some 207, none, none, none, some 211, some 212, some 213, some 214] := ⟨⟨List.mem_of_getElem? (i := 1262) (by rfl), List.mem_of_getElem? (i := 76) (by decide +kernel), ⟨by decide +kernel, by decide +kernel, by decide +kernel⟩, by decide, by decide +kernel⟩, List.mem_of_getElem? (i := 1261) (by decide +kernel), List.mem_of_getElem? (i := 27) (by decide +kernel), List.mem_of_getElem? (i := 10) rfl, TX10, 55, rfl⟩
set_option maxRecDepth 100000 in
theorem st_X10_isTwo : am_sm me_X10_isTwo 1 := ⟨⟨List.mem_of_getElem? (i := 1223) (by rfl), List.mem_of_getElem? (i := 76) (by decide +kernel), ⟨by decide +kernel, by decide +kernel, by decide +kernel⟩, by decide, by decide +kernel⟩, List.mem_of_getElem? (i := 1222) (by decide +kernel)⟩
set_option maxRecDepth 100000 in
theorem vm_X10_adds : am_vm me_X10_adds 4 10 10 [some 160, some 161, some 162, some 163, none, none, none, some 167, none, some 169, some 170, some 171, some 172, some 173, none, none, some 176, some 177, none, none, none, none, none, some 183, some 184, some 185, none, none, none, none, none, none, none, some 193, some 194, none, none, none, none, some 199, some 200, some 201, none, none, some 204, none, some 206, some 207, none, none, none, some 211, some 212, some 213, some 214] := ⟨⟨List.mem_of_getElem? (i := 1228) (by rfl), List.mem_of_getElem? (i := 76) (by decide +kernel), ⟨by decide +kernel, by decide +kernel, by decide +kernel⟩, by decide, by decide +kernel⟩, List.mem_of_getElem? (i := 1227) (by decide +kernel), List.mem_of_getElem? (i := 24) (by decide +kernel), List.mem_of_getElem? (i := 10) rfl, TX10, 55, rfl⟩
set_option maxRecDepth 100000 in
theorem vm_X10_thing : am_vm me_X10_thing 3 10 10 [some 160, some 161, some 162, some 163, none, none, none, some 167, none, some 169, some 170, some 171, some 172, some 173, none, none, some 176, some 177, none, none, none, none, none, some 183, some 184, some 185, none, none, none, none, none, none, none, some 193, some 194, none, none, none, none, some 199, some 200, some 201, none, none, some 204, none, some 206, some 207, none, none, none, some 211, some 212, some 213, some 214] := ⟨⟨List.mem_of_getElem? (i := 1215) (by rfl), List.mem_of_getElem? (i := 76) (by decide +kernel), ⟨by decide +kernel, by decide +kernel, by decide +kernel⟩, by decide, by decide +kernel⟩, List.mem_of_getElem? (i := 1213) (by decide +kernel), List.mem_of_getElem? (i := 1214) (by decide +kernel), List.mem_of_getElem? (i := 10) rfl, TX10, 55, rfl⟩
set_option maxRecDepth 100000 in
theorem st_X10_isShelf : am_sm me_X10_isShelf 1 := ⟨⟨List.mem_of_getElem? (i := 1235) (by rfl), List.mem_of_getElem? (i := 76) (by decide +kernel), ⟨by decide +kernel, by decide +kernel, by decide +kernel⟩, by decide, by decide +kernel⟩, List.mem_of_getElem? (i := 1234) (by decide +kernel)⟩
set_option maxRecDepth 100000 in
theorem vm_X10_things : am_vm me_X10_things 3 10 10 [some 160, some 161, some 162, some 163, none, none, none, some 167, none, some 169, some 170, some 171, some 172, some 173, none, none, some 176, some 177, none, none, none, none, none, some 183, some 184, some 185, none, none, none, none, none, none, none, some 193, some 194, none, none, none, none, some 199, some 200, some 201, none, none, some 204, none, some 206, some 207, none, none, none, some 211, some 212, some 213, some 214] := ⟨⟨List.mem_of_getElem? (i := 1232) (by rfl), List.mem_of_getElem? (i := 76) (by decide +kernel), ⟨by decide +kernel, by decide +kernel, by decide +kernel⟩, by decide, by decide +kernel⟩, List.mem_of_getElem? (i := 1230) (by decide +kernel), List.mem_of_getElem? (i := 1231) (by decide +kernel), List.mem_of_getElem? (i := 10) rfl, TX10, 55, rfl⟩
set_option maxRecDepth 100000 in
theorem vm_X10_mend : am_vm me_X10_mend 3 10 10 [some 160, some 161, some 162, some 163, none, none, none, some 167, none, some 169, some 170, some 171, some 172, some 173, none, none, some 176, some 177, none, none, none, none, none, some 183, some 184, some 185, none, none, none, none, none, none, none, some 193, some 194, none, none, none, none, some 199, some 200, some 201, none, none, some 204, none, some 206, some 207, none, none, none, some 211, some 212, some 213, some 214] := ⟨⟨List.mem_of_getElem? (i := 1241) (by rfl), List.mem_of_getElem? (i := 76) (by decide +kernel), ⟨by decide +kernel, by decide +kernel, by decide +kernel⟩, by decide, by decide +kernel⟩, List.mem_of_getElem? (i := 1239) (by decide +kernel), List.mem_of_getElem? (i := 1240) (by decide +kernel), List.mem_of_getElem? (i := 10) rfl, TX10, 55, rfl⟩
set_option maxRecDepth 100000 in
theorem vm_X10_sort : am_vm me_X10_sort 3 10 10 [some 160, some 161, some 162, some 163, none, none, none, some 167, none, some 169, some 170, some 171, some 172, some 173, none, none, some 176, some 177, none, none, none, none, none, some 183, some 184, some 185, none, none, none, none, none, none, none, some 193, some 194, none, none, none, none, some 199, some 200, some 201, none, none, some 204, none, some 206, some 207, none, none, none, some 211, some 212, some 213, some 214] := ⟨⟨List.mem_of_getElem? (i := 1254) (by rfl), List.mem_of_getElem? (i := 76) (by decide +kernel), ⟨by decide +kernel, by decide +kernel, by decide +kernel⟩, by decide, by decide +kernel⟩, List.mem_of_getElem? (i := 1252) (by decide +kernel), List.mem_of_getElem? (i := 1253) (by decide +kernel), List.mem_of_getElem? (i := 10) rfl, TX10, 55, rfl⟩
set_option maxRecDepth 100000 in
theorem vm_X10_purse : am_vm me_X10_purse 3 10 10 [some 160, some 161, some 162, some 163, none, none, none, some 167, none, some 169, some 170, some 171, some 172, some 173, none, none, some 176, some 177, none, none, none, none, none, some 183, some 184, some 185, none, none, none, none, none, none, none, some 193, some 194, none, none, none, none, some 199, some 200, some 201, none, none, some 204, none, some 206, some 207, none, none, none, some 211, some 212, some 213, some 214] := ⟨⟨List.mem_of_getElem? (i := 1258) (by rfl), List.mem_of_getElem? (i := 76) (by decide +kernel), ⟨by decide +kernel, by decide +kernel, by decide +kernel⟩, by decide, by decide +kernel⟩, List.mem_of_getElem? (i := 1256) (by decide +kernel), List.mem_of_getElem? (i := 1257) (by decide +kernel), List.mem_of_getElem? (i := 10) rfl, TX10, 55, rfl⟩
set_option maxRecDepth 100000 in
theorem vm_X10_purseOf : am_vm me_X10_purseOf 1 10 10 [some 160, some 161, some 162, some 163, none, none, none, some 167, none, some 169, some 170, some 171, some 172, some 173, none, none, some 176, some 177, none, none, none, none, none, some 183, some 184, some 185, none, none, none, none, none, none, none, some 193, some 194, none, none, none, none, some 199, some 200, some 201, none, none, some 204, none, some 206, some 207, none, none, none, some 211, some 212, some 213, some 214] := ⟨⟨List.mem_of_getElem? (i := 1271) (by rfl), List.mem_of_getElem? (i := 76) (by decide +kernel), ⟨by decide +kernel, by decide +kernel, by decide +kernel⟩, by decide, by decide +kernel⟩, List.mem_of_getElem? (i := 1270) (by decide +kernel), List.mem_of_getElem? (i := 28) (by decide +kernel), List.mem_of_getElem? (i := 10) rfl, TX10, 55, rfl⟩
set_option maxRecDepth 100000 in
theorem vm_X10_pointsInAll : am_vm me_X10_pointsInAll 1 10 10 [some 160, some 161, some 162, some 163, none, none, none, some 167, none, some 169, some 170, some 171, some 172, some 173, none, none, some 176, some 177, none, none, none, none, none, some 183, some 184, some 185, none, none, none, none, none, none, none, some 193, some 194, none, none, none, none, some 199, some 200, some 201, none, none, some 204, none, some 206, some 207, none, none, none, some 211, some 212, some 213, some 214] := ⟨⟨List.mem_of_getElem? (i := 1275) (by rfl), List.mem_of_getElem? (i := 76) (by decide +kernel), ⟨by decide +kernel, by decide +kernel, by decide +kernel⟩, by decide, by decide +kernel⟩, List.mem_of_getElem? (i := 1274) (by decide +kernel), List.mem_of_getElem? (i := 29) (by decide +kernel), List.mem_of_getElem? (i := 10) rfl, TX10, 55, rfl⟩
set_option maxRecDepth 100000 in
theorem vm_X10_of : am_vm me_X10_of 2 10 10 [some 160, some 161, some 162, some 163, none, none, none, some 167, none, some 169, some 170, some 171, some 172, some 173, none, none, some 176, some 177, none, none, none, none, none, some 183, some 184, some 185, none, none, none, none, none, none, none, some 193, some 194, none, none, none, none, some 199, some 200, some 201, none, none, some 204, none, some 206, some 207, none, none, none, some 211, some 212, some 213, some 214] := ⟨⟨List.mem_of_getElem? (i := 1266) (by rfl), List.mem_of_getElem? (i := 76) (by decide +kernel), ⟨by decide +kernel, by decide +kernel, by decide +kernel⟩, by decide, by decide +kernel⟩, List.mem_of_getElem? (i := 1264) (by decide +kernel), List.mem_of_getElem? (i := 1265) (by decide +kernel), List.mem_of_getElem? (i := 10) rfl, TX10, 55, rfl⟩
set_option maxRecDepth 100000 in
theorem vm_X10_feed : am_vm me_X10_feed 2 10 10 [some 160, some 161, some 162, some 163, none, none, none, some 167, none, some 169, some 170, some 171, some 172, some 173, none, none, some 176, some 177, none, none, none, none, none, some 183, some 184, some 185, none, none, none, none, none, none, none, some 193, some 194, none, none, none, none, some 199, some 200, some 201, none, none, some 204, none, some 206, some 207, none, none, none, some 211, some 212, some 213, some 214] := ⟨⟨List.mem_of_getElem? (i := 1279) (by rfl), List.mem_of_getElem? (i := 76) (by decide +kernel), ⟨by decide +kernel, by decide +kernel, by decide +kernel⟩, by decide, by decide +kernel⟩, List.mem_of_getElem? (i := 1277) (by decide +kernel), List.mem_of_getElem? (i := 1278) (by decide +kernel), List.mem_of_getElem? (i := 10) rfl, TX10, 55, rfl⟩
set_option maxRecDepth 100000 in
theorem vm_X10_byteAt : am_vm me_X10_byteAt 0 10 10 [some 160, some 161, some 162, some 163, none, none, none, some 167, none, some 169, some 170, some 171, some 172, some 173, none, none, some 176, some 177, none, none, none, none, none, some 183, some 184, some 185, none, none, none, none, none, none, none, some 193, some 194, none, none, none, none, some 199, some 200, some 201, none, none, some 204, none, some 206, some 207, none, none, none, some 211, some 212, some 213, some 214] := ⟨⟨List.mem_of_getElem? (i := 1316) (by rfl), List.mem_of_getElem? (i := 76) (by decide +kernel), ⟨by decide +kernel, by decide +kernel, by decide +kernel⟩, by decide, by decide +kernel⟩, List.mem_of_getElem? (i := 1315) (by decide +kernel), List.mem_of_getElem? (i := 37) (by decide +kernel), List.mem_of_getElem? (i := 10) rfl, TX10, 55, rfl⟩
set_option maxRecDepth 100000 in
theorem vm_X10_fails : am_vm me_X10_fails 0 10 10 [some 160, some 161, some 162, some 163, none, none, none, some 167, none, some 169, some 170, some 171, some 172, some 173, none, none, some 176, some 177, none, none, none, none, none, some 183, some 184, some 185, none, none, none, none, none, none, none, some 193, some 194, none, none, none, none, some 199, some 200, some 201, none, none, some 204, none, some 206, some 207, none, none, none, some 211, some 212, some 213, some 214] := ⟨⟨List.mem_of_getElem? (i := 1320) (by rfl), List.mem_of_getElem? (i := 76) (by decide +kernel), ⟨by decide +kernel, by decide +kernel, by decide +kernel⟩, by decide, by decide +kernel⟩, List.mem_of_getElem? (i := 1319) (by decide +kernel), List.mem_of_getElem? (i := 38) (by decide +kernel), List.mem_of_getElem? (i := 10) rfl, TX10, 55, rfl⟩
set_option maxRecDepth 100000 in
theorem vm_X10_takes : am_vm me_X10_takes 1 10 10 [some 160, some 161, some 162, some 163, none, none, none, some 167, none, some 169, some 170, some 171, some 172, some 173, none, none, some 176, some 177, none, none, none, none, none, some 183, some 184, some 185, none, none, none, none, none, none, none, some 193, some 194, none, none, none, none, some 199, some 200, some 201, none, none, some 204, none, some 206, some 207, none, none, none, some 211, some 212, some 213, some 214] := ⟨⟨List.mem_of_getElem? (i := 1324) (by rfl), List.mem_of_getElem? (i := 76) (by decide +kernel), ⟨by decide +kernel, by decide +kernel, by decide +kernel⟩, by decide, by decide +kernel⟩, List.mem_of_getElem? (i := 1323) (by decide +kernel), List.mem_of_getElem? (i := 39) (by decide +kernel), List.mem_of_getElem? (i := 10) rfl, TX10, 55, rfl⟩
set_option maxRecDepth 100000 in
theorem st_X10_nameOf : am_sm me_X10_nameOf 1 := ⟨⟨List.mem_of_getElem? (i := 1327) (by rfl), List.mem_of_getElem? (i := 76) (by decide +kernel), ⟨by decide +kernel, by decide +kernel, by decide +kernel⟩, by decide, by decide +kernel⟩, List.mem_of_getElem? (i := 1326) (by decide +kernel)⟩
set_option maxRecDepth 100000 in
theorem vm_X10_both : am_vm me_X10_both 0 10 10 [some 160, some 161, some 162, some 163, none, none, none, some 167, none, some 169, some 170, some 171, some 172, some 173, none, none, some 176, some 177, none, none, none, none, none, some 183, some 184, some 185, none, none, none, none, none, none, none, some 193, some 194, none, none, none, none, some 199, some 200, some 201, none, none, some 204, none, some 206, some 207, none, none, none, some 211, some 212, some 213, some 214] := ⟨⟨List.mem_of_getElem? (i := 1296) (by rfl), List.mem_of_getElem? (i := 76) (by decide +kernel), ⟨by decide +kernel, by decide +kernel, by decide +kernel⟩, by decide, by decide +kernel⟩, List.mem_of_getElem? (i := 1295) (by decide +kernel), List.mem_of_getElem? (i := 32) (by decide +kernel), List.mem_of_getElem? (i := 10) rfl, TX10, 55, rfl⟩
set_option maxRecDepth 100000 in
theorem vm_X10_compared : am_vm me_X10_compared 0 10 10 [some 160, some 161, some 162, some 163, none, none, none, some 167, none, some 169, some 170, some 171, some 172, some 173, none, none, some 176, some 177, none, none, none, none, none, some 183, some 184, some 185, none, none, none, none, none, none, none, some 193, some 194, none, none, none, none, some 199, some 200, some 201, none, none, some 204, none, some 206, some 207, none, none, none, some 211, some 212, some 213, some 214] := ⟨⟨List.mem_of_getElem? (i := 1300) (by rfl), List.mem_of_getElem? (i := 76) (by decide +kernel), ⟨by decide +kernel, by decide +kernel, by decide +kernel⟩, by decide, by decide +kernel⟩, List.mem_of_getElem? (i := 1299) (by decide +kernel), List.mem_of_getElem? (i := 33) (by decide +kernel), List.mem_of_getElem? (i := 10) rfl, TX10, 55, rfl⟩
set_option maxRecDepth 100000 in
theorem vm_X10_either : am_vm me_X10_either 0 10 10 [some 160, some 161, some 162, some 163, none, none, none, some 167, none, some 169, some 170, some 171, some 172, some 173, none, none, some 176, some 177, none, none, none, none, none, some 183, some 184, some 185, none, none, none, none, none, none, none, some 193, some 194, none, none, none, none, some 199, some 200, some 201, none, none, some 204, none, some 206, some 207, none, none, none, some 211, some 212, some 213, some 214] := ⟨⟨List.mem_of_getElem? (i := 1292) (by rfl), List.mem_of_getElem? (i := 76) (by decide +kernel), ⟨by decide +kernel, by decide +kernel, by decide +kernel⟩, by decide, by decide +kernel⟩, List.mem_of_getElem? (i := 1291) (by decide +kernel), List.mem_of_getElem? (i := 31) (by decide +kernel), List.mem_of_getElem? (i := 10) rfl, TX10, 55, rfl⟩
set_option maxRecDepth 100000 in
theorem vm_X10_one : am_vm me_X10_one 0 10 10 [some 160, some 161, some 162, some 163, none, none, none, some 167, none, some 169, some 170, some 171, some 172, some 173, none, none, some 176, some 177, none, none, none, none, none, some 183, some 184, some 185, none, none, none, none, none, none, none, some 193, some 194, none, none, none, none, some 199, some 200, some 201, none, none, some 204, none, some 206, some 207, none, none, none, some 211, some 212, some 213, some 214] := ⟨⟨List.mem_of_getElem? (i := 1312) (by rfl), List.mem_of_getElem? (i := 76) (by decide +kernel), ⟨by decide +kernel, by decide +kernel, by decide +kernel⟩, by decide, by decide +kernel⟩, List.mem_of_getElem? (i := 1311) (by decide +kernel), List.mem_of_getElem? (i := 36) (by decide +kernel), List.mem_of_getElem? (i := 10) rfl, TX10, 55, rfl⟩
set_option maxRecDepth 100000 in
theorem vm_X10_product : am_vm me_X10_product 0 10 10 [some 160, some 161, some 162, some 163, none, none, none, some 167, none, some 169, some 170, some 171, some 172, some 173, none, none, some 176, some 177, none, none, none, none, none, some 183, some 184, some 185, none, none, none, none, none, none, none, some 193, some 194, none, none, none, none, some 199, some 200, some 201, none, none, some 204, none, some 206, some 207, none, none, none, some 211, some 212, some 213, some 214] := ⟨⟨List.mem_of_getElem? (i := 1308) (by rfl), List.mem_of_getElem? (i := 76) (by decide +kernel), ⟨by decide +kernel, by decide +kernel, by decide +kernel⟩, by decide, by decide +kernel⟩, List.mem_of_getElem? (i := 1307) (by decide +kernel), List.mem_of_getElem? (i := 35) (by decide +kernel), List.mem_of_getElem? (i := 10) rfl, TX10, 55, rfl⟩
set_option maxRecDepth 100000 in
theorem vm_X10_sums : am_vm me_X10_sums 0 10 10 [some 160, some 161, some 162, some 163, none, none, none, some 167, none, some 169, some 170, some 171, some 172, some 173, none, none, some 176, some 177, none, none, none, none, none, some 183, some 184, some 185, none, none, none, none, none, none, none, some 193, some 194, none, none, none, none, some 199, some 200, some 201, none, none, some 204, none, some 206, some 207, none, none, none, some 211, some 212, some 213, some 214] := ⟨⟨List.mem_of_getElem? (i := 1304) (by rfl), List.mem_of_getElem? (i := 76) (by decide +kernel), ⟨by decide +kernel, by decide +kernel, by decide +kernel⟩, by decide, by decide +kernel⟩, List.mem_of_getElem? (i := 1303) (by decide +kernel), List.mem_of_getElem? (i := 34) (by decide +kernel), List.mem_of_getElem? (i := 10) rfl, TX10, 55, rfl⟩
set_option maxRecDepth 100000 in
theorem vm_X10_workOut : am_vm me_X10_workOut 2 10 10 [some 160, some 161, some 162, some 163, none, none, none, some 167, none, some 169, some 170, some 171, some 172, some 173, none, none, some 176, some 177, none, none, none, none, none, some 183, some 184, some 185, none, none, none, none, none, none, none, some 193, some 194, none, none, none, none, some 199, some 200, some 201, none, none, some 204, none, some 206, some 207, none, none, none, some 211, some 212, some 213, some 214] := ⟨⟨List.mem_of_getElem? (i := 1288) (by rfl), List.mem_of_getElem? (i := 76) (by decide +kernel), ⟨by decide +kernel, by decide +kernel, by decide +kernel⟩, by decide, by decide +kernel⟩, List.mem_of_getElem? (i := 1287) (by decide +kernel), List.mem_of_getElem? (i := 30) (by decide +kernel), List.mem_of_getElem? (i := 10) rfl, TX10, 55, rfl⟩
set_option maxRecDepth 100000 in
theorem vm_X10_want : am_vm me_X10_want 0 10 10 [some 160, some 161, some 162, some 163, none, none, none, some 167, none, some 169, some 170, some 171, some 172, some 173, none, none, some 176, some 177, none, none, none, none, none, some 183, some 184, some 185, none, none, none, none, none, none, none, some 193, some 194, none, none, none, none, some 199, some 200, some 201, none, none, some 204, none, some 206, some 207, none, none, none, some 211, some 212, some 213, some 214] := ⟨⟨List.mem_of_getElem? (i := 1284) (by rfl), List.mem_of_getElem? (i := 76) (by decide +kernel), ⟨by decide +kernel, by decide +kernel, by decide +kernel⟩, by decide, by decide +kernel⟩, List.mem_of_getElem? (i := 1282) (by decide +kernel), List.mem_of_getElem? (i := 1283) (by decide +kernel), List.mem_of_getElem? (i := 10) rfl, TX10, 55, rfl⟩
set_option maxRecDepth 100000 in
theorem vm_X10_worthOf : am_vm me_X10_worthOf 3 10 10 [some 160, some 161, some 162, some 163, none, none, none, some 167, none, some 169, some 170, some 171, some 172, some 173, none, none, some 176, some 177, none, none, none, none, none, some 183, some 184, some 185, none, none, none, none, none, none, none, some 193, some 194, none, none, none, none, some 199, some 200, some 201, none, none, some 204, none, some 206, some 207, none, none, none, some 211, some 212, some 213, some 214] := ⟨⟨List.mem_of_getElem? (i := 1335) (by rfl), List.mem_of_getElem? (i := 76) (by decide +kernel), ⟨by decide +kernel, by decide +kernel, by decide +kernel⟩, by decide, by decide +kernel⟩, List.mem_of_getElem? (i := 1334) (by decide +kernel), List.mem_of_getElem? (i := 40) (by decide +kernel), List.mem_of_getElem? (i := 10) rfl, TX10, 55, rfl⟩
set_option maxRecDepth 100000 in
theorem vm_X10_worth : am_vm me_X10_worth 2 10 10 [some 160, some 161, some 162, some 163, none, none, none, some 167, none, some 169, some 170, some 171, some 172, some 173, none, none, some 176, some 177, none, none, none, none, none, some 183, some 184, some 185, none, none, none, none, none, none, none, some 193, some 194, none, none, none, none, some 199, some 200, some 201, none, none, some 204, none, some 206, some 207, none, none, none, some 211, some 212, some 213, some 214] := ⟨⟨List.mem_of_getElem? (i := 1331) (by rfl), List.mem_of_getElem? (i := 76) (by decide +kernel), ⟨by decide +kernel, by decide +kernel, by decide +kernel⟩, by decide, by decide +kernel⟩, List.mem_of_getElem? (i := 1329) (by decide +kernel), List.mem_of_getElem? (i := 1330) (by decide +kernel), List.mem_of_getElem? (i := 10) rfl, TX10, 55, rfl⟩
set_option maxRecDepth 100000 in
theorem vm_X10_layWorths : am_vm me_X10_layWorths 1 10 10 [some 160, some 161, some 162, some 163, none, none, none, some 167, none, some 169, some 170, some 171, some 172, some 173, none, none, some 176, some 177, none, none, none, none, none, some 183, some 184, some 185, none, none, none, none, none, none, none, some 193, some 194, none, none, none, none, some 199, some 200, some 201, none, none, some 204, none, some 206, some 207, none, none, none, some 211, some 212, some 213, some 214] := ⟨⟨List.mem_of_getElem? (i := 1351) (by rfl), List.mem_of_getElem? (i := 76) (by decide +kernel), ⟨by decide +kernel, by decide +kernel, by decide +kernel⟩, by decide, by decide +kernel⟩, List.mem_of_getElem? (i := 1350) (by decide +kernel), List.mem_of_getElem? (i := 43) (by decide +kernel), List.mem_of_getElem? (i := 10) rfl, TX10, 55, rfl⟩
set_option maxRecDepth 100000 in
theorem vm_X10_baskets : am_vm me_X10_baskets 0 10 10 [some 160, some 161, some 162, some 163, none, none, none, some 167, none, some 169, some 170, some 171, some 172, some 173, none, none, some 176, some 177, none, none, none, none, none, some 183, some 184, some 185, none, none, none, none, none, none, none, some 193, some 194, none, none, none, none, some 199, some 200, some 201, none, none, some 204, none, some 206, some 207, none, none, none, some 211, some 212, some 213, some 214] := ⟨⟨List.mem_of_getElem? (i := 1355) (by rfl), List.mem_of_getElem? (i := 76) (by decide +kernel), ⟨by decide +kernel, by decide +kernel, by decide +kernel⟩, by decide, by decide +kernel⟩, List.mem_of_getElem? (i := 1354) (by decide +kernel), List.mem_of_getElem? (i := 44) (by decide +kernel), List.mem_of_getElem? (i := 10) rfl, TX10, 55, rfl⟩
set_option maxRecDepth 100000 in
theorem vm_X10_unpack : am_vm me_X10_unpack 1 10 10 [some 160, some 161, some 162, some 163, none, none, none, some 167, none, some 169, some 170, some 171, some 172, some 173, none, none, some 176, some 177, none, none, none, none, none, some 183, some 184, some 185, none, none, none, none, none, none, none, some 193, some 194, none, none, none, none, some 199, some 200, some 201, none, none, some 204, none, some 206, some 207, none, none, none, some 211, some 212, some 213, some 214] := ⟨⟨List.mem_of_getElem? (i := 1359) (by rfl), List.mem_of_getElem? (i := 76) (by decide +kernel), ⟨by decide +kernel, by decide +kernel, by decide +kernel⟩, by decide, by decide +kernel⟩, List.mem_of_getElem? (i := 1358) (by decide +kernel), List.mem_of_getElem? (i := 45) (by decide +kernel), List.mem_of_getElem? (i := 10) rfl, TX10, 55, rfl⟩
set_option maxRecDepth 100000 in
theorem vm_X10_findBest : am_vm me_X10_findBest 3 10 10 [some 160, some 161, some 162, some 163, none, none, none, some 167, none, some 169, some 170, some 171, some 172, some 173, none, none, some 176, some 177, none, none, none, none, none, some 183, some 184, some 185, none, none, none, none, none, none, none, some 193, some 194, none, none, none, none, some 199, some 200, some 201, none, none, some 204, none, some 206, some 207, none, none, none, some 211, some 212, some 213, some 214] := ⟨⟨List.mem_of_getElem? (i := 1347) (by rfl), List.mem_of_getElem? (i := 76) (by decide +kernel), ⟨by decide +kernel, by decide +kernel, by decide +kernel⟩, by decide, by decide +kernel⟩, List.mem_of_getElem? (i := 1346) (by decide +kernel), List.mem_of_getElem? (i := 42) (by decide +kernel), List.mem_of_getElem? (i := 10) rfl, TX10, 55, rfl⟩
set_option maxRecDepth 100000 in
theorem vm_X10_bestOf : am_vm me_X10_bestOf 1 10 10 [some 160, some 161, some 162, some 163, none, none, none, some 167, none, some 169, some 170, some 171, some 172, some 173, none, none, some 176, some 177, none, none, none, none, none, some 183, some 184, some 185, none, none, none, none, none, none, none, some 193, some 194, none, none, none, none, some 199, some 200, some 201, none, none, some 204, none, some 206, some 207, none, none, none, some 211, some 212, some 213, some 214] := ⟨⟨List.mem_of_getElem? (i := 1343) (by rfl), List.mem_of_getElem? (i := 76) (by decide +kernel), ⟨by decide +kernel, by decide +kernel, by decide +kernel⟩, by decide, by decide +kernel⟩, List.mem_of_getElem? (i := 1342) (by decide +kernel), List.mem_of_getElem? (i := 41) (by decide +kernel), List.mem_of_getElem? (i := 10) rfl, TX10, 55, rfl⟩
set_option maxRecDepth 100000 in
theorem vm_X10_digitsNow : am_vm me_X10_digitsNow 0 10 10 [some 160, some 161, some 162, some 163, none, none, none, some 167, none, some 169, some 170, some 171, some 172, some 173, none, none, some 176, some 177, none, none, none, none, none, some 183, some 184, some 185, none, none, none, none, none, none, none, some 193, some 194, none, none, none, none, some 199, some 200, some 201, none, none, some 204, none, some 206, some 207, none, none, none, some 211, some 212, some 213, some 214] := ⟨⟨List.mem_of_getElem? (i := 1363) (by rfl), List.mem_of_getElem? (i := 76) (by decide +kernel), ⟨by decide +kernel, by decide +kernel, by decide +kernel⟩, by decide, by decide +kernel⟩, List.mem_of_getElem? (i := 1362) (by decide +kernel), List.mem_of_getElem? (i := 46) (by decide +kernel), List.mem_of_getElem? (i := 10) rfl, TX10, 55, rfl⟩
set_option maxRecDepth 100000 in
theorem vm_X10_basket : am_vm me_X10_basket 2 10 10 [some 160, some 161, some 162, some 163, none, none, none, some 167, none, some 169, some 170, some 171, some 172, some 173, none, none, some 176, some 177, none, none, none, none, none, some 183, some 184, some 185, none, none, none, none, none, none, none, some 193, some 194, none, none, none, none, some 199, some 200, some 201, none, none, some 204, none, some 206, some 207, none, none, none, some 211, some 212, some 213, some 214] := ⟨⟨List.mem_of_getElem? (i := 1339) (by rfl), List.mem_of_getElem? (i := 76) (by decide +kernel), ⟨by decide +kernel, by decide +kernel, by decide +kernel⟩, by decide, by decide +kernel⟩, List.mem_of_getElem? (i := 1337) (by decide +kernel), List.mem_of_getElem? (i := 1338) (by decide +kernel), List.mem_of_getElem? (i := 10) rfl, TX10, 55, rfl⟩
set_option maxRecDepth 100000 in
theorem vm_X10_findWanted : am_vm me_X10_findWanted 0 10 10 [some 160, some 161, some 162, some 163, none, none, none, some 167, none, some 169, some 170, some 171, some 172, some 173, none, none, some 176, some 177, none, none, none, none, none, some 183, some 184, some 185, none, none, none, none, none, none, none, some 193, some 194, none, none, none, none, some 199, some 200, some 201, none, none, some 204, none, some 206, some 207, none, none, none, some 211, some 212, some 213, some 214] := ⟨⟨List.mem_of_getElem? (i := 1372) (by rfl), List.mem_of_getElem? (i := 76) (by decide +kernel), ⟨by decide +kernel, by decide +kernel, by decide +kernel⟩, by decide, by decide +kernel⟩, List.mem_of_getElem? (i := 1371) (by decide +kernel), List.mem_of_getElem? (i := 47) (by decide +kernel), List.mem_of_getElem? (i := 10) rfl, TX10, 55, rfl⟩
set_option maxRecDepth 100000 in
theorem vm_X10_over : am_vm me_X10_over 1 10 10 [some 160, some 161, some 162, some 163, none, none, none, some 167, none, some 169, some 170, some 171, some 172, some 173, none, none, some 176, some 177, none, none, none, none, none, some 183, some 184, some 185, none, none, none, none, none, none, none, some 193, some 194, none, none, none, none, some 199, some 200, some 201, none, none, some 204, none, some 206, some 207, none, none, none, some 211, some 212, some 213, some 214] := ⟨⟨List.mem_of_getElem? (i := 1380) (by rfl), List.mem_of_getElem? (i := 76) (by decide +kernel), ⟨by decide +kernel, by decide +kernel, by decide +kernel⟩, by decide, by decide +kernel⟩, List.mem_of_getElem? (i := 1379) (by decide +kernel), List.mem_of_getElem? (i := 49) (by decide +kernel), List.mem_of_getElem? (i := 10) rfl, TX10, 55, rfl⟩
set_option maxRecDepth 100000 in
theorem vm_X10_bothOver : am_vm me_X10_bothOver 0 10 10 [some 160, some 161, some 162, some 163, none, none, none, some 167, none, some 169, some 170, some 171, some 172, some 173, none, none, some 176, some 177, none, none, none, none, none, some 183, some 184, some 185, none, none, none, none, none, none, none, some 193, some 194, none, none, none, none, some 199, some 200, some 201, none, none, some 204, none, some 206, some 207, none, none, none, some 211, some 212, some 213, some 214] := ⟨⟨List.mem_of_getElem? (i := 1376) (by rfl), List.mem_of_getElem? (i := 76) (by decide +kernel), ⟨by decide +kernel, by decide +kernel, by decide +kernel⟩, by decide, by decide +kernel⟩, List.mem_of_getElem? (i := 1375) (by decide +kernel), List.mem_of_getElem? (i := 48) (by decide +kernel), List.mem_of_getElem? (i := 10) rfl, TX10, 55, rfl⟩
set_option maxRecDepth 100000 in
theorem vm_X10_wanted : am_vm me_X10_wanted 2 10 10 [some 160, some 161, some 162, some 163, none, none, none, some 167, none, some 169, some 170, some 171, some 172, some 173, none, none, some 176, some 177, none, none, none, none, none, some 183, some 184, some 185, none, none, none, none, none, none, none, some 193, some 194, none, none, none, none, some 199, some 200, some 201, none, none, some 204, none, some 206, some 207, none, none, none, some 211, some 212, some 213, some 214] := ⟨⟨List.mem_of_getElem? (i := 1367) (by rfl), List.mem_of_getElem? (i := 76) (by decide +kernel), ⟨by decide +kernel, by decide +kernel, by decide +kernel⟩, by decide, by decide +kernel⟩, List.mem_of_getElem? (i := 1365) (by decide +kernel), List.mem_of_getElem? (i := 1366) (by decide +kernel), List.mem_of_getElem? (i := 10) rfl, TX10, 55, rfl⟩
set_option maxRecDepth 100000 in
theorem vm_X10_led : am_vm me_X10_led 2 10 10 [some 160, some 161, some 162, some 163, none, none, none, some 167, none, some 169, some 170, some 171, some 172, some 173, none, none, some 176, some 177, none, none, none, none, none, some 183, some 184, some 185, none, none, none, none, none, none, none, some 193, some 194, none, none, none, none, some 199, some 200, some 201, none, none, some 204, none, some 206, some 207, none, none, none, some 211, some 212, some 213, some 214] := ⟨⟨List.mem_of_getElem? (i := 1387) (by rfl), List.mem_of_getElem? (i := 76) (by decide +kernel), ⟨by decide +kernel, by decide +kernel, by decide +kernel⟩, by decide, by decide +kernel⟩, List.mem_of_getElem? (i := 1385) (by decide +kernel), List.mem_of_getElem? (i := 1386) (by decide +kernel), List.mem_of_getElem? (i := 10) rfl, TX10, 55, rfl⟩
set_option maxRecDepth 100000 in
theorem vm_X10_keepsLeast : am_vm me_X10_keepsLeast 1 10 10 [some 160, some 161, some 162, some 163, none, none, none, some 167, none, some 169, some 170, some 171, some 172, some 173, none, none, some 176, some 177, none, none, none, none, none, some 183, some 184, some 185, none, none, none, none, none, none, none, some 193, some 194, none, none, none, none, some 199, some 200, some 201, none, none, some 204, none, some 206, some 207, none, none, none, some 211, some 212, some 213, some 214] := ⟨⟨List.mem_of_getElem? (i := 1404) (by rfl), List.mem_of_getElem? (i := 76) (by decide +kernel), ⟨by decide +kernel, by decide +kernel, by decide +kernel⟩, by decide, by decide +kernel⟩, List.mem_of_getElem? (i := 1403) (by decide +kernel), List.mem_of_getElem? (i := 51) (by decide +kernel), List.mem_of_getElem? (i := 10) rfl, TX10, 55, rfl⟩
set_option maxRecDepth 100000 in
theorem vm_X10_goRounds : am_vm me_X10_goRounds 1 10 10 [some 160, some 161, some 162, some 163, none, none, none, some 167, none, some 169, some 170, some 171, some 172, some 173, none, none, some 176, some 177, none, none, none, none, none, some 183, some 184, some 185, none, none, none, none, none, none, none, some 193, some 194, none, none, none, none, some 199, some 200, some 201, none, none, some 204, none, some 206, some 207, none, none, none, some 211, some 212, some 213, some 214] := ⟨⟨List.mem_of_getElem? (i := 1400) (by rfl), List.mem_of_getElem? (i := 76) (by decide +kernel), ⟨by decide +kernel, by decide +kernel, by decide +kernel⟩, by decide, by decide +kernel⟩, List.mem_of_getElem? (i := 1399) (by decide +kernel), List.mem_of_getElem? (i := 50) (by decide +kernel), List.mem_of_getElem? (i := 10) rfl, TX10, 55, rfl⟩
set_option maxRecDepth 100000 in
theorem st_X10_areRounds : am_sm me_X10_areRounds 1 := ⟨⟨List.mem_of_getElem? (i := 1394) (by rfl), List.mem_of_getElem? (i := 76) (by decide +kernel), ⟨by decide +kernel, by decide +kernel, by decide +kernel⟩, by decide, by decide +kernel⟩, List.mem_of_getElem? (i := 1393) (by decide +kernel)⟩
set_option maxRecDepth 100000 in
theorem vm_X10_found : am_vm me_X10_found 2 10 10 [some 160, some 161, some 162, some 163, none, none, none, some 167, none, some 169, some 170, some 171, some 172, some 173, none, none, some 176, some 177, none, none, none, none, none, some 183, some 184, some 185, none, none, none, none, none, none, none, some 193, some 194, none, none, none, none, some 199, some 200, some 201, none, none, some 204, none, some 206, some 207, none, none, none, some 211, some 212, some 213, some 214] := ⟨⟨List.mem_of_getElem? (i := 1391) (by rfl), List.mem_of_getElem? (i := 76) (by decide +kernel), ⟨by decide +kernel, by decide +kernel, by decide +kernel⟩, by decide, by decide +kernel⟩, List.mem_of_getElem? (i := 1389) (by decide +kernel), List.mem_of_getElem? (i := 1390) (by decide +kernel), List.mem_of_getElem? (i := 10) rfl, TX10, 55, rfl⟩
set_option maxRecDepth 100000 in
theorem vm_X10_set : am_vm me_X10_set 1 10 10 [some 160, some 161, some 162, some 163, none, none, none, some 167, none, some 169, some 170, some 171, some 172, some 173, none, none, some 176, some 177, none, none, none, none, none, some 183, some 184, some 185, none, none, none, none, none, none, none, some 193, some 194, none, none, none, none, some 199, some 200, some 201, none, none, some 204, none, some 206, some 207, none, none, none, some 211, some 212, some 213, some 214] := ⟨⟨List.mem_of_getElem? (i := 1408) (by rfl), List.mem_of_getElem? (i := 76) (by decide +kernel), ⟨by decide +kernel, by decide +kernel, by decide +kernel⟩, by decide, by decide +kernel⟩, List.mem_of_getElem? (i := 1406) (by decide +kernel), List.mem_of_getElem? (i := 1407) (by decide +kernel), List.mem_of_getElem? (i := 10) rfl, TX10, 55, rfl⟩
set_option maxRecDepth 100000 in
theorem vm_X10_areDigits : am_vm me_X10_areDigits 1 10 10 [some 160, some 161, some 162, some 163, none, none, none, some 167, none, some 169, some 170, some 171, some 172, some 173, none, none, some 176, some 177, none, none, none, none, none, some 183, some 184, some 185, none, none, none, none, none, none, none, some 193, some 194, none, none, none, none, some 199, some 200, some 201, none, none, some 204, none, some 206, some 207, none, none, none, some 211, some 212, some 213, some 214] := ⟨⟨List.mem_of_getElem? (i := 1416) (by rfl), List.mem_of_getElem? (i := 76) (by decide +kernel), ⟨by decide +kernel, by decide +kernel, by decide +kernel⟩, by decide, by decide +kernel⟩, List.mem_of_getElem? (i := 1415) (by decide +kernel), List.mem_of_getElem? (i := 52) (by decide +kernel), List.mem_of_getElem? (i := 10) rfl, TX10, 55, rfl⟩
set_option maxRecDepth 100000 in
theorem vm_X10_tell : am_vm me_X10_tell 2 10 10 [some 160, some 161, some 162, some 163, none, none, none, some 167, none, some 169, some 170, some 171, some 172, some 173, none, none, some 176, some 177, none, none, none, none, none, some 183, some 184, some 185, none, none, none, none, none, none, none, some 193, some 194, none, none, none, none, some 199, some 200, some 201, none, none, some 204, none, some 206, some 207, none, none, none, some 211, some 212, some 213, some 214] := ⟨⟨List.mem_of_getElem? (i := 1412) (by rfl), List.mem_of_getElem? (i := 76) (by decide +kernel), ⟨by decide +kernel, by decide +kernel, by decide +kernel⟩, by decide, by decide +kernel⟩, List.mem_of_getElem? (i := 1410) (by decide +kernel), List.mem_of_getElem? (i := 1411) (by decide +kernel), List.mem_of_getElem? (i := 10) rfl, TX10, 55, rfl⟩
set_option maxRecDepth 100000 in
theorem vm_X10_packed : am_vm me_X10_packed 1 10 10 [some 160, some 161, some 162, some 163, none, none, none, some 167, none, some 169, some 170, some 171, some 172, some 173, none, none, some 176, some 177, none, none, none, none, none, some 183, some 184, some 185, none, none, none, none, none, none, none, some 193, some 194, none, none, none, none, some 199, some 200, some 201, none, none, some 204, none, some 206, some 207, none, none, none, some 211, some 212, some 213, some 214] := ⟨⟨List.mem_of_getElem? (i := 1424) (by rfl), List.mem_of_getElem? (i := 76) (by decide +kernel), ⟨by decide +kernel, by decide +kernel, by decide +kernel⟩, by decide, by decide +kernel⟩, List.mem_of_getElem? (i := 1423) (by decide +kernel), List.mem_of_getElem? (i := 53) (by decide +kernel), List.mem_of_getElem? (i := 10) rfl, TX10, 55, rfl⟩
set_option maxRecDepth 100000 in
theorem vm_X10_judge : am_vm me_X10_judge 0 10 10 [some 160, some 161, some 162, some 163, none, none, none, some 167, none, some 169, some 170, some 171, some 172, some 173, none, none, some 176, some 177, none, none, none, none, none, some 183, some 184, some 185, none, none, none, none, none, none, none, some 193, some 194, none, none, none, none, some 199, some 200, some 201, none, none, some 204, none, some 206, some 207, none, none, none, some 211, some 212, some 213, some 214] := ⟨⟨List.mem_of_getElem? (i := 1420) (by rfl), List.mem_of_getElem? (i := 76) (by decide +kernel), ⟨by decide +kernel, by decide +kernel, by decide +kernel⟩, by decide, by decide +kernel⟩, List.mem_of_getElem? (i := 1418) (by decide +kernel), List.mem_of_getElem? (i := 1419) (by decide +kernel), List.mem_of_getElem? (i := 10) rfl, TX10, 55, rfl⟩
set_option maxRecDepth 100000 in
theorem vm_X10_findChanged : am_vm me_X10_findChanged 2 10 10 [some 160, some 161, some 162, some 163, none, none, none, some 167, none, some 169, some 170, some 171, some 172, some 173, none, none, some 176, some 177, none, none, none, none, none, some 183, some 184, some 185, none, none, none, none, none, none, none, some 193, some 194, none, none, none, none, some 199, some 200, some 201, none, none, some 204, none, some 206, some 207, none, none, none, some 211, some 212, some 213, some 214] := ⟨⟨List.mem_of_getElem? (i := 1435) (by rfl), List.mem_of_getElem? (i := 76) (by decide +kernel), ⟨by decide +kernel, by decide +kernel, by decide +kernel⟩, by decide, by decide +kernel⟩, List.mem_of_getElem? (i := 1434) (by decide +kernel), List.mem_of_getElem? (i := 54) (by decide +kernel), List.mem_of_getElem? (i := 10) rfl, TX10, 55, rfl⟩
set_option maxRecDepth 100000 in
theorem st_X10_isRate : am_sm me_X10_isRate 1 := ⟨⟨List.mem_of_getElem? (i := 1431) (by rfl), List.mem_of_getElem? (i := 76) (by decide +kernel), ⟨by decide +kernel, by decide +kernel, by decide +kernel⟩, by decide, by decide +kernel⟩, List.mem_of_getElem? (i := 1430) (by decide +kernel)⟩
set_option maxRecDepth 100000 in
theorem vm_X10_changed : am_vm me_X10_changed 3 10 10 [some 160, some 161, some 162, some 163, none, none, none, some 167, none, some 169, some 170, some 171, some 172, some 173, none, none, some 176, some 177, none, none, none, none, none, some 183, some 184, some 185, none, none, none, none, none, none, none, some 193, some 194, none, none, none, none, some 199, some 200, some 201, none, none, some 204, none, some 206, some 207, none, none, none, some 211, some 212, some 213, some 214] := ⟨⟨List.mem_of_getElem? (i := 1428) (by rfl), List.mem_of_getElem? (i := 76) (by decide +kernel), ⟨by decide +kernel, by decide +kernel, by decide +kernel⟩, by decide, by decide +kernel⟩, List.mem_of_getElem? (i := 1426) (by decide +kernel), List.mem_of_getElem? (i := 1427) (by decide +kernel), List.mem_of_getElem? (i := 10) rfl, TX10, 55, rfl⟩
set_option maxRecDepth 100000 in
theorem vm_X10_free : am_vm me_X10_free 0 10 10 [some 160, some 161, some 162, some 163, none, none, none, some 167, none, some 169, some 170, some 171, some 172, some 173, none, none, some 176, some 177, none, none, none, none, none, some 183, some 184, some 185, none, none, none, none, none, none, none, some 193, some 194, none, none, none, none, some 199, some 200, some 201, none, none, some 204, none, some 206, some 207, none, none, none, some 211, some 212, some 213, some 214] := ⟨⟨List.mem_of_getElem? (i := 1439) (by rfl), List.mem_of_getElem? (i := 76) (by decide +kernel), ⟨by decide +kernel, by decide +kernel, by decide +kernel⟩, by decide, by decide +kernel⟩, List.mem_of_getElem? (i := 1437) (by decide +kernel), List.mem_of_getElem? (i := 1438) (by decide +kernel), List.mem_of_getElem? (i := 10) rfl, TX10, 55, rfl⟩
set_option maxRecDepth 100000 in
theorem vm_X10_black : am_vm me_X10_black 3 10 10 [some 160, some 161, some 162, some 163, none, none, none, some 167, none, some 169, some 170, some 171, some 172, some 173, none, none, some 176, some 177, none, none, none, none, none, some 183, some 184, some 185, none, none, none, none, none, none, none, some 193, some 194, none, none, none, none, some 199, some 200, some 201, none, none, some 204, none, some 206, some 207, none, none, none, some 211, some 212, some 213, some 214] := ⟨⟨List.mem_of_getElem? (i := 1443) (by rfl), List.mem_of_getElem? (i := 76) (by decide +kernel), ⟨by decide +kernel, by decide +kernel, by decide +kernel⟩, by decide, by decide +kernel⟩, List.mem_of_getElem? (i := 1441) (by decide +kernel), List.mem_of_getElem? (i := 1442) (by decide +kernel), List.mem_of_getElem? (i := 10) rfl, TX10, 55, rfl⟩
set_option maxRecDepth 100000 in
theorem st_X10_isHow : am_sm me_X10_isHow 1 := ⟨⟨List.mem_of_getElem? (i := 1451) (by rfl), List.mem_of_getElem? (i := 76) (by decide +kernel), ⟨by decide +kernel, by decide +kernel, by decide +kernel⟩, by decide, by decide +kernel⟩, List.mem_of_getElem? (i := 1450) (by decide +kernel)⟩
set_option maxRecDepth 100000 in
theorem vm_X10_besideOf : am_vm me_X10_besideOf 2 10 10 [some 160, some 161, some 162, some 163, none, none, none, some 167, none, some 169, some 170, some 171, some 172, some 173, none, none, some 176, some 177, none, none, none, none, none, some 183, some 184, some 185, none, none, none, none, none, none, none, some 193, some 194, none, none, none, none, some 199, some 200, some 201, none, none, some 204, none, some 206, some 207, none, none, none, some 211, some 212, some 213, some 214] := ⟨⟨List.mem_of_getElem? (i := 1456) (by rfl), List.mem_of_getElem? (i := 76) (by decide +kernel), ⟨by decide +kernel, by decide +kernel, by decide +kernel⟩, by decide, by decide +kernel⟩, List.mem_of_getElem? (i := 1455) (by decide +kernel), List.mem_of_getElem? (i := 55) (by decide +kernel), List.mem_of_getElem? (i := 10) rfl, TX10, 55, rfl⟩
set_option maxRecDepth 100000 in
theorem vm_X10_beside : am_vm me_X10_beside 2 10 10 [some 160, some 161, some 162, some 163, none, none, none, some 167, none, some 169, some 170, some 171, some 172, some 173, none, none, some 176, some 177, none, none, none, none, none, some 183, some 184, some 185, none, none, none, none, none, none, none, some 193, some 194, none, none, none, none, some 199, some 200, some 201, none, none, some 204, none, some 206, some 207, none, none, none, some 211, some 212, some 213, some 214] := ⟨⟨List.mem_of_getElem? (i := 1448) (by rfl), List.mem_of_getElem? (i := 76) (by decide +kernel), ⟨by decide +kernel, by decide +kernel, by decide +kernel⟩, by decide, by decide +kernel⟩, List.mem_of_getElem? (i := 1446) (by decide +kernel), List.mem_of_getElem? (i := 1447) (by decide +kernel), List.mem_of_getElem? (i := 10) rfl, TX10, 55, rfl⟩
set_option maxRecDepth 100000 in
theorem vm_X10_loses : am_vm me_X10_loses 1 10 10 [some 160, some 161, some 162, some 163, none, none, none, some 167, none, some 169, some 170, some 171, some 172, some 173, none, none, some 176, some 177, none, none, none, none, none, some 183, some 184, some 185, none, none, none, none, none, none, none, some 193, some 194, none, none, none, none, some 199, some 200, some 201, none, none, some 204, none, some 206, some 207, none, none, none, some 211, some 212, some 213, some 214] := ⟨⟨List.mem_of_getElem? (i := 1461) (by rfl), List.mem_of_getElem? (i := 76) (by decide +kernel), ⟨by decide +kernel, by decide +kernel, by decide +kernel⟩, by decide, by decide +kernel⟩, List.mem_of_getElem? (i := 1459) (by decide +kernel), List.mem_of_getElem? (i := 1460) (by decide +kernel), List.mem_of_getElem? (i := 10) rfl, TX10, 55, rfl⟩
set_option maxRecDepth 100000 in
theorem st_X10_bitsOf : am_sm me_X10_bitsOf 1 := ⟨⟨List.mem_of_getElem? (i := 1468) (by rfl), List.mem_of_getElem? (i := 76) (by decide +kernel), ⟨by decide +kernel, by decide +kernel, by decide +kernel⟩, by decide, by decide +kernel⟩, List.mem_of_getElem? (i := 1467) (by decide +kernel)⟩
set_option maxRecDepth 100000 in
theorem vm_X10_isGone : am_vm me_X10_isGone 0 10 10 [some 160, some 161, some 162, some 163, none, none, none, some 167, none, some 169, some 170, some 171, some 172, some 173, none, none, some 176, some 177, none, none, none, none, none, some 183, some 184, some 185, none, none, none, none, none, none, none, some 193, some 194, none, none, none, none, some 199, some 200, some 201, none, none, some 204, none, some 206, some 207, none, none, none, some 211, some 212, some 213, some 214] := ⟨⟨List.mem_of_getElem? (i := 1472) (by rfl), List.mem_of_getElem? (i := 76) (by decide +kernel), ⟨by decide +kernel, by decide +kernel, by decide +kernel⟩, by decide, by decide +kernel⟩, List.mem_of_getElem? (i := 1471) (by decide +kernel), List.mem_of_getElem? (i := 56) (by decide +kernel), List.mem_of_getElem? (i := 10) rfl, TX10, 55, rfl⟩
set_option maxRecDepth 100000 in
theorem vm_X10_fewest : am_vm me_X10_fewest 0 10 10 [some 160, some 161, some 162, some 163, none, none, none, some 167, none, some 169, some 170, some 171, some 172, some 173, none, none, some 176, some 177, none, none, none, none, none, some 183, some 184, some 185, none, none, none, none, none, none, none, some 193, some 194, none, none, none, none, some 199, some 200, some 201, none, none, some 204, none, some 206, some 207, none, none, none, some 211, some 212, some 213, some 214] := ⟨⟨List.mem_of_getElem? (i := 1465) (by rfl), List.mem_of_getElem? (i := 76) (by decide +kernel), ⟨by decide +kernel, by decide +kernel, by decide +kernel⟩, by decide, by decide +kernel⟩, List.mem_of_getElem? (i := 1463) (by decide +kernel), List.mem_of_getElem? (i := 1464) (by decide +kernel), List.mem_of_getElem? (i := 10) rfl, TX10, 55, rfl⟩
set_option maxRecDepth 100000 in
theorem vm_X10_least : am_vm me_X10_least 1 10 10 [some 160, some 161, some 162, some 163, none, none, none, some 167, none, some 169, some 170, some 171, some 172, some 173, none, none, some 176, some 177, none, none, none, none, none, some 183, some 184, some 185, none, none, none, none, none, none, none, some 193, some 194, none, none, none, none, some 199, some 200, some 201, none, none, some 204, none, some 206, some 207, none, none, none, some 211, some 212, some 213, some 214] := ⟨⟨List.mem_of_getElem? (i := 1476) (by rfl), List.mem_of_getElem? (i := 76) (by decide +kernel), ⟨by decide +kernel, by decide +kernel, by decide +kernel⟩, by decide, by decide +kernel⟩, List.mem_of_getElem? (i := 1474) (by decide +kernel), List.mem_of_getElem? (i := 1475) (by decide +kernel), List.mem_of_getElem? (i := 10) rfl, TX10, 55, rfl⟩
set_option maxRecDepth 100000 in
theorem vm_X10_months : am_vm me_X10_months 4 10 10 [some 160, some 161, some 162, some 163, none, none, none, some 167, none, some 169, some 170, some 171, some 172, some 173, none, none, some 176, some 177, none, none, none, none, none, some 183, some 184, some 185, none, none, none, none, none, none, none, some 193, some 194, none, none, none, none, some 199, some 200, some 201, none, none, some 204, none, some 206, some 207, none, none, none, some 211, some 212, some 213, some 214] := ⟨⟨List.mem_of_getElem? (i := 1480) (by rfl), List.mem_of_getElem? (i := 76) (by decide +kernel), ⟨by decide +kernel, by decide +kernel, by decide +kernel⟩, by decide, by decide +kernel⟩, List.mem_of_getElem? (i := 1478) (by decide +kernel), List.mem_of_getElem? (i := 1479) (by decide +kernel), List.mem_of_getElem? (i := 10) rfl, TX10, 55, rfl⟩
set_option maxRecDepth 100000 in
theorem vm_X10_foresight : am_vm me_X10_foresight 1 10 10 [some 160, some 161, some 162, some 163, none, none, none, some 167, none, some 169, some 170, some 171, some 172, some 173, none, none, some 176, some 177, none, none, none, none, none, some 183, some 184, some 185, none, none, none, none, none, none, none, some 193, some 194, none, none, none, none, some 199, some 200, some 201, none, none, some 204, none, some 206, some 207, none, none, none, some 211, some 212, some 213, some 214] := ⟨⟨List.mem_of_getElem? (i := 1485) (by rfl), List.mem_of_getElem? (i := 76) (by decide +kernel), ⟨by decide +kernel, by decide +kernel, by decide +kernel⟩, by decide, by decide +kernel⟩, List.mem_of_getElem? (i := 1483) (by decide +kernel), List.mem_of_getElem? (i := 1484) (by decide +kernel), List.mem_of_getElem? (i := 10) rfl, TX10, 55, rfl⟩
set_option maxRecDepth 100000 in
theorem vm_X10_cheap : am_vm me_X10_cheap 1 10 10 [some 160, some 161, some 162, some 163, none, none, none, some 167, none, some 169, some 170, some 171, some 172, some 173, none, none, some 176, some 177, none, none, none, none, none, some 183, some 184, some 185, none, none, none, none, none, none, none, some 193, some 194, none, none, none, none, some 199, some 200, some 201, none, none, some 204, none, some 206, some 207, none, none, none, some 211, some 212, some 213, some 214] := ⟨⟨List.mem_of_getElem? (i := 1489) (by rfl), List.mem_of_getElem? (i := 76) (by decide +kernel), ⟨by decide +kernel, by decide +kernel, by decide +kernel⟩, by decide, by decide +kernel⟩, List.mem_of_getElem? (i := 1487) (by decide +kernel), List.mem_of_getElem? (i := 1488) (by decide +kernel), List.mem_of_getElem? (i := 10) rfl, TX10, 55, rfl⟩
set_option maxRecDepth 100000 in
theorem vm_X10_wrong : am_vm me_X10_wrong 1 10 10 [some 160, some 161, some 162, some 163, none, none, none, some 167, none, some 169, some 170, some 171, some 172, some 173, none, none, some 176, some 177, none, none, none, none, none, some 183, some 184, some 185, none, none, none, none, none, none, none, some 193, some 194, none, none, none, none, some 199, some 200, some 201, none, none, some 204, none, some 206, some 207, none, none, none, some 211, some 212, some 213, some 214] := ⟨⟨List.mem_of_getElem? (i := 1493) (by rfl), List.mem_of_getElem? (i := 76) (by decide +kernel), ⟨by decide +kernel, by decide +kernel, by decide +kernel⟩, by decide, by decide +kernel⟩, List.mem_of_getElem? (i := 1491) (by decide +kernel), List.mem_of_getElem? (i := 1492) (by decide +kernel), List.mem_of_getElem? (i := 10) rfl, TX10, 55, rfl⟩
set_option maxRecDepth 100000 in
theorem vm_X10_isBody : am_vm me_X10_isBody 1 10 10 [some 160, some 161, some 162, some 163, none, none, none, some 167, none, some 169, some 170, some 171, some 172, some 173, none, none, some 176, some 177, none, none, none, none, none, some 183, some 184, some 185, none, none, none, none, none, none, none, some 193, some 194, none, none, none, none, some 199, some 200, some 201, none, none, some 204, none, some 206, some 207, none, none, none, some 211, some 212, some 213, some 214] := ⟨⟨List.mem_of_getElem? (i := 1506) (by rfl), List.mem_of_getElem? (i := 76) (by decide +kernel), ⟨by decide +kernel, by decide +kernel, by decide +kernel⟩, by decide, by decide +kernel⟩, List.mem_of_getElem? (i := 1505) (by decide +kernel), List.mem_of_getElem? (i := 57) (by decide +kernel), List.mem_of_getElem? (i := 10) rfl, TX10, 55, rfl⟩
set_option maxRecDepth 100000 in
theorem vm_X10_kindOf : am_vm me_X10_kindOf 1 10 10 [some 160, some 161, some 162, some 163, none, none, none, some 167, none, some 169, some 170, some 171, some 172, some 173, none, none, some 176, some 177, none, none, none, none, none, some 183, some 184, some 185, none, none, none, none, none, none, none, some 193, some 194, none, none, none, none, some 199, some 200, some 201, none, none, some 204, none, some 206, some 207, none, none, none, some 211, some 212, some 213, some 214] := ⟨⟨List.mem_of_getElem? (i := 1566) (by rfl), List.mem_of_getElem? (i := 76) (by decide +kernel), ⟨by decide +kernel, by decide +kernel, by decide +kernel⟩, by decide, by decide +kernel⟩, List.mem_of_getElem? (i := 1565) (by decide +kernel), List.mem_of_getElem? (i := 64) (by decide +kernel), List.mem_of_getElem? (i := 10) rfl, TX10, 55, rfl⟩
set_option maxRecDepth 100000 in
theorem vm_X10_body : am_vm me_X10_body 1 10 10 [some 160, some 161, some 162, some 163, none, none, none, some 167, none, some 169, some 170, some 171, some 172, some 173, none, none, some 176, some 177, none, none, none, none, none, some 183, some 184, some 185, none, none, none, none, none, none, none, some 193, some 194, none, none, none, none, some 199, some 200, some 201, none, none, some 204, none, some 206, some 207, none, none, none, some 211, some 212, some 213, some 214] := ⟨⟨List.mem_of_getElem? (i := 1497) (by rfl), List.mem_of_getElem? (i := 76) (by decide +kernel), ⟨by decide +kernel, by decide +kernel, by decide +kernel⟩, by decide, by decide +kernel⟩, List.mem_of_getElem? (i := 1495) (by decide +kernel), List.mem_of_getElem? (i := 1496) (by decide +kernel), List.mem_of_getElem? (i := 10) rfl, TX10, 55, rfl⟩
set_option maxRecDepth 100000 in
theorem st_X10_above : am_sm me_X10_above 1 := ⟨⟨List.mem_of_getElem? (i := 1569) (by rfl), List.mem_of_getElem? (i := 76) (by decide +kernel), ⟨by decide +kernel, by decide +kernel, by decide +kernel⟩, by decide, by decide +kernel⟩, List.mem_of_getElem? (i := 1568) (by decide +kernel)⟩
set_option maxRecDepth 100000 in
theorem vm_X10_begins : am_vm me_X10_begins 1 10 10 [some 160, some 161, some 162, some 163, none, none, none, some 167, none, some 169, some 170, some 171, some 172, some 173, none, none, some 176, some 177, none, none, none, none, none, some 183, some 184, some 185, none, none, none, none, none, none, none, some 193, some 194, none, none, none, none, some 199, some 200, some 201, none, none, some 204, none, some 206, some 207, none, none, none, some 211, some 212, some 213, some 214] := ⟨⟨List.mem_of_getElem? (i := 1514) (by rfl), List.mem_of_getElem? (i := 76) (by decide +kernel), ⟨by decide +kernel, by decide +kernel, by decide +kernel⟩, by decide, by decide +kernel⟩, List.mem_of_getElem? (i := 1513) (by decide +kernel), List.mem_of_getElem? (i := 59) (by decide +kernel), List.mem_of_getElem? (i := 10) rfl, TX10, 55, rfl⟩
set_option maxRecDepth 100000 in
theorem vm_X10_buysAs : am_vm me_X10_buysAs 2 10 10 [some 160, some 161, some 162, some 163, none, none, none, some 167, none, some 169, some 170, some 171, some 172, some 173, none, none, some 176, some 177, none, none, none, none, none, some 183, some 184, some 185, none, none, none, none, none, none, none, some 193, some 194, none, none, none, none, some 199, some 200, some 201, none, none, some 204, none, some 206, some 207, none, none, none, some 211, some 212, some 213, some 214] := ⟨⟨List.mem_of_getElem? (i := 1510) (by rfl), List.mem_of_getElem? (i := 76) (by decide +kernel), ⟨by decide +kernel, by decide +kernel, by decide +kernel⟩, by decide, by decide +kernel⟩, List.mem_of_getElem? (i := 1509) (by decide +kernel), List.mem_of_getElem? (i := 58) (by decide +kernel), List.mem_of_getElem? (i := 10) rfl, TX10, 55, rfl⟩
set_option maxRecDepth 100000 in
theorem vm_X10_lendsAs : am_vm me_X10_lendsAs 2 10 10 [some 160, some 161, some 162, some 163, none, none, none, some 167, none, some 169, some 170, some 171, some 172, some 173, none, none, some 176, some 177, none, none, none, none, none, some 183, some 184, some 185, none, none, none, none, none, none, none, some 193, some 194, none, none, none, none, some 199, some 200, some 201, none, none, some 204, none, some 206, some 207, none, none, none, some 211, some 212, some 213, some 214] := ⟨⟨List.mem_of_getElem? (i := 1522) (by rfl), List.mem_of_getElem? (i := 76) (by decide +kernel), ⟨by decide +kernel, by decide +kernel, by decide +kernel⟩, by decide, by decide +kernel⟩, List.mem_of_getElem? (i := 1521) (by decide +kernel), List.mem_of_getElem? (i := 61) (by decide +kernel), List.mem_of_getElem? (i := 10) rfl, TX10, 55, rfl⟩
set_option maxRecDepth 100000 in
theorem vm_X10_keepsAs : am_vm me_X10_keepsAs 2 10 10 [some 160, some 161, some 162, some 163, none, none, none, some 167, none, some 169, some 170, some 171, some 172, some 173, none, none, some 176, some 177, none, none, none, none, none, some 183, some 184, some 185, none, none, none, none, none, none, none, some 193, some 194, none, none, none, none, some 199, some 200, some 201, none, none, some 204, none, some 206, some 207, none, none, none, some 211, some 212, some 213, some 214] := ⟨⟨List.mem_of_getElem? (i := 1518) (by rfl), List.mem_of_getElem? (i := 76) (by decide +kernel), ⟨by decide +kernel, by decide +kernel, by decide +kernel⟩, by decide, by decide +kernel⟩, List.mem_of_getElem? (i := 1517) (by decide +kernel), List.mem_of_getElem? (i := 60) (by decide +kernel), List.mem_of_getElem? (i := 10) rfl, TX10, 55, rfl⟩
set_option maxRecDepth 100000 in
theorem vm_X10_tellsAs : am_vm me_X10_tellsAs 2 10 10 [some 160, some 161, some 162, some 163, none, none, none, some 167, none, some 169, some 170, some 171, some 172, some 173, none, none, some 176, some 177, none, none, none, none, none, some 183, some 184, some 185, none, none, none, none, none, none, none, some 193, some 194, none, none, none, none, some 199, some 200, some 201, none, none, some 204, none, some 206, some 207, none, none, none, some 211, some 212, some 213, some 214] := ⟨⟨List.mem_of_getElem? (i := 1526) (by rfl), List.mem_of_getElem? (i := 76) (by decide +kernel), ⟨by decide +kernel, by decide +kernel, by decide +kernel⟩, by decide, by decide +kernel⟩, List.mem_of_getElem? (i := 1525) (by decide +kernel), List.mem_of_getElem? (i := 62) (by decide +kernel), List.mem_of_getElem? (i := 10) rfl, TX10, 55, rfl⟩
set_option maxRecDepth 100000 in
theorem vm_X10_act : am_vm me_X10_act 3 10 10 [some 160, some 161, some 162, some 163, none, none, none, some 167, none, some 169, some 170, some 171, some 172, some 173, none, none, some 176, some 177, none, none, none, none, none, some 183, some 184, some 185, none, none, none, none, none, none, none, some 193, some 194, none, none, none, none, some 199, some 200, some 201, none, none, some 204, none, some 206, some 207, none, none, none, some 211, some 212, some 213, some 214] := ⟨⟨List.mem_of_getElem? (i := 1502) (by rfl), List.mem_of_getElem? (i := 76) (by decide +kernel), ⟨by decide +kernel, by decide +kernel, by decide +kernel⟩, by decide, by decide +kernel⟩, List.mem_of_getElem? (i := 1500) (by decide +kernel), List.mem_of_getElem? (i := 1501) (by decide +kernel), List.mem_of_getElem? (i := 10) rfl, TX10, 55, rfl⟩
set_option maxRecDepth 100000 in
theorem vm_X10_trace : am_vm me_X10_trace 1 10 10 [some 160, some 161, some 162, some 163, none, none, none, some 167, none, some 169, some 170, some 171, some 172, some 173, none, none, some 176, some 177, none, none, none, none, none, some 183, some 184, some 185, none, none, none, none, none, none, none, some 193, some 194, none, none, none, none, some 199, some 200, some 201, none, none, some 204, none, some 206, some 207, none, none, none, some 211, some 212, some 213, some 214] := ⟨⟨List.mem_of_getElem? (i := 1530) (by rfl), List.mem_of_getElem? (i := 76) (by decide +kernel), ⟨by decide +kernel, by decide +kernel, by decide +kernel⟩, by decide, by decide +kernel⟩, List.mem_of_getElem? (i := 1528) (by decide +kernel), List.mem_of_getElem? (i := 1529) (by decide +kernel), List.mem_of_getElem? (i := 10) rfl, TX10, 55, rfl⟩
set_option maxRecDepth 100000 in
theorem vm_X10_keep : am_vm me_X10_keep 2 10 10 [some 160, some 161, some 162, some 163, none, none, none, some 167, none, some 169, some 170, some 171, some 172, some 173, none, none, some 176, some 177, none, none, none, none, none, some 183, some 184, some 185, none, none, none, none, none, none, none, some 193, some 194, none, none, none, none, some 199, some 200, some 201, none, none, some 204, none, some 206, some 207, none, none, none, some 211, some 212, some 213, some 214] := ⟨⟨List.mem_of_getElem? (i := 1534) (by rfl), List.mem_of_getElem? (i := 76) (by decide +kernel), ⟨by decide +kernel, by decide +kernel, by decide +kernel⟩, by decide, by decide +kernel⟩, List.mem_of_getElem? (i := 1532) (by decide +kernel), List.mem_of_getElem? (i := 1533) (by decide +kernel), List.mem_of_getElem? (i := 10) rfl, TX10, 55, rfl⟩
set_option maxRecDepth 100000 in
theorem vm_X10_row : am_vm me_X10_row 3 10 10 [some 160, some 161, some 162, some 163, none, none, none, some 167, none, some 169, some 170, some 171, some 172, some 173, none, none, some 176, some 177, none, none, none, none, none, some 183, some 184, some 185, none, none, none, none, none, none, none, some 193, some 194, none, none, none, none, some 199, some 200, some 201, none, none, some 204, none, some 206, some 207, none, none, none, some 211, some 212, some 213, some 214] := ⟨⟨List.mem_of_getElem? (i := 1538) (by rfl), List.mem_of_getElem? (i := 76) (by decide +kernel), ⟨by decide +kernel, by decide +kernel, by decide +kernel⟩, by decide, by decide +kernel⟩, List.mem_of_getElem? (i := 1536) (by decide +kernel), List.mem_of_getElem? (i := 1537) (by decide +kernel), List.mem_of_getElem? (i := 10) rfl, TX10, 55, rfl⟩
set_option maxRecDepth 100000 in
theorem vm_X10_refusal : am_vm me_X10_refusal 2 10 10 [some 160, some 161, some 162, some 163, none, none, none, some 167, none, some 169, some 170, some 171, some 172, some 173, none, none, some 176, some 177, none, none, none, none, none, some 183, some 184, some 185, none, none, none, none, none, none, none, some 193, some 194, none, none, none, none, some 199, some 200, some 201, none, none, some 204, none, some 206, some 207, none, none, none, some 211, some 212, some 213, some 214] := ⟨⟨List.mem_of_getElem? (i := 1546) (by rfl), List.mem_of_getElem? (i := 76) (by decide +kernel), ⟨by decide +kernel, by decide +kernel, by decide +kernel⟩, by decide, by decide +kernel⟩, List.mem_of_getElem? (i := 1545) (by decide +kernel), List.mem_of_getElem? (i := 63) (by decide +kernel), List.mem_of_getElem? (i := 10) rfl, TX10, 55, rfl⟩
set_option maxRecDepth 100000 in
theorem st_X10_asSort : am_sm me_X10_asSort 2 := ⟨⟨List.mem_of_getElem? (i := 1549) (by rfl), List.mem_of_getElem? (i := 76) (by decide +kernel), ⟨by decide +kernel, by decide +kernel, by decide +kernel⟩, by decide, by decide +kernel⟩, List.mem_of_getElem? (i := 1548) (by decide +kernel)⟩
set_option maxRecDepth 100000 in
theorem vm_X10_put : am_vm me_X10_put 3 10 10 [some 160, some 161, some 162, some 163, none, none, none, some 167, none, some 169, some 170, some 171, some 172, some 173, none, none, some 176, some 177, none, none, none, none, none, some 183, some 184, some 185, none, none, none, none, none, none, none, some 193, some 194, none, none, none, none, some 199, some 200, some 201, none, none, some 204, none, some 206, some 207, none, none, none, some 211, some 212, some 213, some 214] := ⟨⟨List.mem_of_getElem? (i := 1542) (by rfl), List.mem_of_getElem? (i := 76) (by decide +kernel), ⟨by decide +kernel, by decide +kernel, by decide +kernel⟩, by decide, by decide +kernel⟩, List.mem_of_getElem? (i := 1540) (by decide +kernel), List.mem_of_getElem? (i := 1541) (by decide +kernel), List.mem_of_getElem? (i := 10) rfl, TX10, 55, rfl⟩
set_option maxRecDepth 100000 in
theorem vm_X10_element : am_vm me_X10_element 2 10 10 [some 160, some 161, some 162, some 163, none, none, none, some 167, none, some 169, some 170, some 171, some 172, some 173, none, none, some 176, some 177, none, none, none, none, none, some 183, some 184, some 185, none, none, none, none, none, none, none, some 193, some 194, none, none, none, none, some 199, some 200, some 201, none, none, some 204, none, some 206, some 207, none, none, none, some 211, some 212, some 213, some 214] := ⟨⟨List.mem_of_getElem? (i := 1553) (by rfl), List.mem_of_getElem? (i := 76) (by decide +kernel), ⟨by decide +kernel, by decide +kernel, by decide +kernel⟩, by decide, by decide +kernel⟩, List.mem_of_getElem? (i := 1551) (by decide +kernel), List.mem_of_getElem? (i := 1552) (by decide +kernel), List.mem_of_getElem? (i := 10) rfl, TX10, 55, rfl⟩
set_option maxRecDepth 100000 in
theorem vm_X10_shift : am_vm me_X10_shift 5 10 10 [some 160, some 161, some 162, some 163, none, none, none, some 167, none, some 169, some 170, some 171, some 172, some 173, none, none, some 176, some 177, none, none, none, none, none, some 183, some 184, some 185, none, none, none, none, none, none, none, some 193, some 194, none, none, none, none, some 199, some 200, some 201, none, none, some 204, none, some 206, some 207, none, none, none, some 211, some 212, some 213, some 214] := ⟨⟨List.mem_of_getElem? (i := 1558) (by rfl), List.mem_of_getElem? (i := 76) (by decide +kernel), ⟨by decide +kernel, by decide +kernel, by decide +kernel⟩, by decide, by decide +kernel⟩, List.mem_of_getElem? (i := 1556) (by decide +kernel), List.mem_of_getElem? (i := 1557) (by decide +kernel), List.mem_of_getElem? (i := 10) rfl, TX10, 55, rfl⟩
set_option maxRecDepth 100000 in
theorem vm_X10_taken : am_vm me_X10_taken 2 10 10 [some 160, some 161, some 162, some 163, none, none, none, some 167, none, some 169, some 170, some 171, some 172, some 173, none, none, some 176, some 177, none, none, none, none, none, some 183, some 184, some 185, none, none, none, none, none, none, none, some 193, some 194, none, none, none, none, some 199, some 200, some 201, none, none, some 204, none, some 206, some 207, none, none, none, some 211, some 212, some 213, some 214] := ⟨⟨List.mem_of_getElem? (i := 1562) (by rfl), List.mem_of_getElem? (i := 76) (by decide +kernel), ⟨by decide +kernel, by decide +kernel, by decide +kernel⟩, by decide, by decide +kernel⟩, List.mem_of_getElem? (i := 1560) (by decide +kernel), List.mem_of_getElem? (i := 1561) (by decide +kernel), List.mem_of_getElem? (i := 10) rfl, TX10, 55, rfl⟩
set_option maxRecDepth 100000 in
theorem vm_X10_count : am_vm me_X10_count 1 10 10 [some 160, some 161, some 162, some 163, none, none, none, some 167, none, some 169, some 170, some 171, some 172, some 173, none, none, some 176, some 177, none, none, none, none, none, some 183, some 184, some 185, none, none, none, none, none, none, none, some 193, some 194, none, none, none, none, some 199, some 200, some 201, none, none, some 204, none, some 206, some 207, none, none, none, some 211, some 212, some 213, some 214] := ⟨⟨List.mem_of_getElem? (i := 1573) (by rfl), List.mem_of_getElem? (i := 76) (by decide +kernel), ⟨by decide +kernel, by decide +kernel, by decide +kernel⟩, by decide, by decide +kernel⟩, List.mem_of_getElem? (i := 1571) (by decide +kernel), List.mem_of_getElem? (i := 1572) (by decide +kernel), List.mem_of_getElem? (i := 10) rfl, TX10, 55, rfl⟩
theorem wl_X5_20 : Cond.methodLinkNest RX5 20 (me_X9_isWithin).1 "PointsForAll" ∈ lw_tbl := List.mem_of_getElem? (i := 394) (by decide +kernel)
theorem wl_X7_34 : Cond.methodLink RX7 34 (me_X5_at).1 ∈ lw_tbl := List.mem_of_getElem? (i := 562) (by decide +kernel)
theorem wl_X7_40 : Cond.methodLinkNest RX7 40 (me_X9_isWithin).1 "PointsForAll" ∈ lw_tbl := List.mem_of_getElem? (i := 575) (by decide +kernel)
theorem wl_X8_63 : Cond.methodLinkNest RX8 63 (me_X6_isName).1 "PointsForAll" ∈ lw_tbl := List.mem_of_getElem? (i := 597) (by decide +kernel)
theorem wl_X8_53 : Cond.methodLink RX8 53 (me_X8_pop).1 ∈ lw_tbl := List.mem_of_getElem? (i := 585) (by decide +kernel)
theorem wl_X8_67 : Cond.methodLink RX8 67 (me_X8_joined).1 ∈ lw_tbl := List.mem_of_getElem? (i := 598) (by decide +kernel)
theorem wl_X8_60 : Cond.methodLink RX8 60 (me_X8_push).1 ∈ lw_tbl := List.mem_of_getElem? (i := 593) (by decide +kernel)
theorem wl_X8_46 : Cond.methodLinkNest RX8 46 (me_X9_isWithin).1 "PointsForAll" ∈ lw_tbl := List.mem_of_getElem? (i := 584) (by decide +kernel)
theorem wl_X8_56 : Cond.methodLink RX8 56 (me_X8_doStep).1 ∈ lw_tbl := List.mem_of_getElem? (i := 589) (by decide +kernel)
theorem wl_X7_44 : Cond.methodLink RX7 44 (me_X8_name).1 ∈ lw_tbl := List.mem_of_getElem? (i := 567) (by decide +kernel)
theorem wl_X7_54 : Cond.methodLink RX7 54 (me_X7_coinOf).1 ∈ lw_tbl := List.mem_of_getElem? (i := 571) (by decide +kernel)
theorem wl_X7_58 : Cond.methodLink RX7 58 (me_X7_pointsOf).1 ∈ lw_tbl := List.mem_of_getElem? (i := 576) (by decide +kernel)
theorem wl_X7_61 : Cond.methodLink RX7 61 (me_X8_workOut).1 ∈ lw_tbl := List.mem_of_getElem? (i := 580) (by decide +kernel)
theorem wl_X7_64 : Cond.methodLink RX7 64 Lib.Math.min.name ∈ lw_tbl := List.mem_of_getElem? (i := 601) (by decide +kernel)
theorem wl_X7_69 : Cond.methodLink RX7 69 Lib.Math.max.name ∈ lw_tbl := List.mem_of_getElem? (i := 602) (by decide +kernel)
theorem wl_X7_72 : Cond.methodLink RX7 72 (me_X7_worthOf).1 ∈ lw_tbl := List.mem_of_getElem? (i := 613) (by decide +kernel)
theorem wl_X5_31 : Cond.methodLink RX5 31 (me_X5_at).1 ∈ lw_tbl := List.mem_of_getElem? (i := 475) (by decide +kernel)
theorem wl_X7_108 : Cond.methodLink RX7 108 (me_X7_compare).1 ∈ lw_tbl := List.mem_of_getElem? (i := 626) (by decide +kernel)
theorem wl_X7_112 : Cond.methodLink RX7 112 (me_X7_isPayable).1 ∈ lw_tbl := List.mem_of_getElem? (i := 630) (by decide +kernel)
theorem wl_X7_104 : Cond.methodLink RX7 104 (me_X7_descend).1 ∈ lw_tbl := List.mem_of_getElem? (i := 623) (by decide +kernel)
theorem wl_X7_76 : Cond.methodLink RX7 76 (me_X5_pointsInAll).1 ∈ lw_tbl := List.mem_of_getElem? (i := 618) (by decide +kernel)
theorem wl_X7_79 : Cond.methodLink RX7 79 (me_X7_search).1 ∈ lw_tbl := List.mem_of_getElem? (i := 619) (by decide +kernel)
theorem wl_X0_23 : Cond.methodLink RX0 23 (me_X7_recall).1 ∈ lw_tbl := List.mem_of_getElem? (i := 751) (by decide +kernel)
theorem wl_X0_28 : Cond.methodLink RX0 28 (me_X7_weigh).1 ∈ lw_tbl := List.mem_of_getElem? (i := 752) (by decide +kernel)
theorem wl_X0_32 : Cond.methodLink RX0 32 (me_X7_choose).1 ∈ lw_tbl := List.mem_of_getElem? (i := 763) (by decide +kernel)
theorem wl_X0_55 : Cond.methodLink RX0 55 (me_X5_at).1 ∈ lw_tbl := List.mem_of_getElem? (i := 756) (by decide +kernel)
theorem wl_X0_59 : Cond.methodLink RX0 59 (me_X5_pointsInAll).1 ∈ lw_tbl := List.mem_of_getElem? (i := 757) (by decide +kernel)
theorem wl_X0_62 : Cond.methodLink RX0 62 (me_X7_search).1 ∈ lw_tbl := List.mem_of_getElem? (i := 758) (by decide +kernel)
theorem wl_X0_44 : Cond.methodLink RX0 44 (me_X7_pointsOf).1 ∈ lw_tbl := List.mem_of_getElem? (i := 753) (by decide +kernel)
theorem wl_X0_48 : Cond.methodLink RX0 48 (me_X7_coinOf).1 ∈ lw_tbl := List.mem_of_getElem? (i := 754) (by decide +kernel)
theorem wl_X0_51 : Cond.methodLink RX0 51 (me_X7_think).1 ∈ lw_tbl := List.mem_of_getElem? (i := 755) (by decide +kernel)
theorem wl_X0_68 : Cond.methodLink RX0 68 (me_X0_exchange).1 ∈ lw_tbl := List.mem_of_getElem? (i := 776) (by decide +kernel)
theorem wl_X0_82 : Cond.methodLink RX0 82 (me_X5_allHeads).1 ∈ lw_tbl := List.mem_of_getElem? (i := 800) (by decide +kernel)
theorem wl_X0_85 : Cond.methodLink RX0 85 Lib.Math.min.name ∈ lw_tbl := List.mem_of_getElem? (i := 804) (by decide +kernel)
theorem wl_X0_90 : Cond.methodLink RX0 90 (me_X7_worthOfFirst).1 ∈ lw_tbl := List.mem_of_getElem? (i := 805) (by decide +kernel)
theorem wl_X0_79 : Cond.methodLink RX0 79 (me_X0_coinWorth).1 ∈ lw_tbl := List.mem_of_getElem? (i := 806) (by decide +kernel)
theorem wl_X0_75 : Cond.methodLink RX0 75 (me_X0_equalWorth).1 ∈ lw_tbl := List.mem_of_getElem? (i := 796) (by decide +kernel)
theorem wl_X0_93 : Cond.methodLink RX0 93 (me_X0_plainWorth).1 ∈ lw_tbl := List.mem_of_getElem? (i := 818) (by decide +kernel)
theorem wl_X0_96 : Cond.methodLink RX0 96 (me_X0_otherwise).1 ∈ lw_tbl := List.mem_of_getElem? (i := 819) (by decide +kernel)
theorem wl_X0_108 : Cond.methodLink RX0 108 Lib.Math.max.name ∈ lw_tbl := List.mem_of_getElem? (i := 865) (by decide +kernel)
theorem wl_X0_111 : Cond.methodLink RX0 111 (me_X0_spread).1 ∈ lw_tbl := List.mem_of_getElem? (i := 862) (by decide +kernel)
theorem wl_X0_105 : Cond.methodLink RX0 105 (me_X0_reachAll).1 ∈ lw_tbl := List.mem_of_getElem? (i := 858) (by decide +kernel)
theorem wl_X1_49 : Cond.methodLink RX1 49 (me_X1_dropFirst).1 ∈ lw_tbl := List.mem_of_getElem? (i := 441) (by decide +kernel)
theorem wl_X1_28 : Cond.methodLink RX1 28 (me_X5_at).1 ∈ lw_tbl := List.mem_of_getElem? (i := 433) (by decide +kernel)
theorem wl_X1_34 : Cond.methodLink RX1 34 (me_X1_note).1 ∈ lw_tbl := List.mem_of_getElem? (i := 437) (by decide +kernel)
theorem wl_X1_38 : Cond.methodLink RX1 38 (me_X5_write).1 ∈ lw_tbl := List.mem_of_getElem? (i := 445) (by decide +kernel)
theorem wl_X2_38 : Cond.methodLink RX2 38 (me_X7_weigh).1 ∈ lw_tbl := List.mem_of_getElem? (i := 643) (by decide +kernel)
theorem wl_X2_44 : Cond.methodLink RX2 44 (me_X7_choose).1 ∈ lw_tbl := List.mem_of_getElem? (i := 644) (by decide +kernel)
theorem wl_X2_47 : Cond.methodLink RX2 47 (me_X5_at).1 ∈ lw_tbl := List.mem_of_getElem? (i := 645) (by decide +kernel)
theorem wl_X2_54 : Cond.methodLink RX2 54 (me_X5_digitOf).1 ∈ lw_tbl := List.mem_of_getElem? (i := 646) (by decide +kernel)
theorem wl_X2_57 : Cond.methodLinkNest RX2 57 (me_X9_isWithin).1 "PointsForAll" ∈ lw_tbl := List.mem_of_getElem? (i := 662) (by decide +kernel)
theorem wl_X2_61 : Cond.methodLink RX2 61 (me_X2_wantedOf).1 ∈ lw_tbl := List.mem_of_getElem? (i := 658) (by decide +kernel)
theorem wl_X2_65 : Cond.methodLink RX2 65 (me_X2_overOf).1 ∈ lw_tbl := List.mem_of_getElem? (i := 654) (by decide +kernel)
theorem wl_X2_68 : Cond.methodLink RX2 68 Lib.Math.abs.name ∈ lw_tbl := List.mem_of_getElem? (i := 663) (by decide +kernel)
theorem wl_X2_89 : Cond.methodLink RX2 89 (me_X2_bothTogether).1 ∈ lw_tbl := List.mem_of_getElem? (i := 687) (by decide +kernel)
theorem wl_X2_99 : Cond.methodLink RX2 99 (me_X7_pointsOf).1 ∈ lw_tbl := List.mem_of_getElem? (i := 688) (by decide +kernel)
theorem wl_X2_102 : Cond.methodLink RX2 102 (me_J_compare).1 ∈ lw_tbl := List.mem_of_getElem? (i := 693) (by decide +kernel)
theorem wl_X2_107 : Cond.methodLink RX2 107 (me_X7_coinOf).1 ∈ lw_tbl := List.mem_of_getElem? (i := 696) (by decide +kernel)
theorem wl_X2_110 : Cond.methodLink RX2 110 (me_X7_think).1 ∈ lw_tbl := List.mem_of_getElem? (i := 697) (by decide +kernel)
theorem wl_X2_73 : Cond.methodLink RX2 73 (me_X7_recall).1 ∈ lw_tbl := List.mem_of_getElem? (i := 681) (by decide +kernel)
theorem wl_X2_76 : Cond.methodLink RX2 76 (me_X2_wantAll).1 ∈ lw_tbl := List.mem_of_getElem? (i := 682) (by decide +kernel)
theorem wl_X2_82 : Cond.methodLink RX2 82 (me_X2_keepLeast).1 ∈ lw_tbl := List.mem_of_getElem? (i := 683) (by decide +kernel)
theorem wl_X2_85 : Cond.methodLink RX2 85 (me_X2_movePoints).1 ∈ lw_tbl := List.mem_of_getElem? (i := 689) (by decide +kernel)
theorem wl_X2_123 : Cond.methodLink RX2 123 (me_X7_isPayable).1 ∈ lw_tbl := List.mem_of_getElem? (i := 738) (by decide +kernel)
theorem wl_X2_120 : Cond.methodLink RX2 120 (me_X7_worthOfFirst).1 ∈ lw_tbl := List.mem_of_getElem? (i := 734) (by decide +kernel)
theorem wl_X2_117 : Cond.methodLink RX2 117 (me_X2_toldOf).1 ∈ lw_tbl := List.mem_of_getElem? (i := 739) (by decide +kernel)
theorem wl_X2_114 : Cond.methodLink RX2 114 (me_X2_faultOf).1 ∈ lw_tbl := List.mem_of_getElem? (i := 730) (by decide +kernel)
theorem wl_X2_130 : Cond.methodLink RX2 130 (me_X2_offOf).1 ∈ lw_tbl := List.mem_of_getElem? (i := 882) (by decide +kernel)
theorem wl_X3_22 : Cond.methodLinkNest RX3 22 (me_X9_isWithin).1 "PointsForAll" ∈ lw_tbl := List.mem_of_getElem? (i := 924) (by decide +kernel)
theorem wl_X3_26 : Cond.methodLink RX3 26 (me_X3_has).1 ∈ lw_tbl := List.mem_of_getElem? (i := 933) (by decide +kernel)
theorem wf_X3_62 : Cond.fieldLink RX3 62 "PointsForAll$Purses" "ABOVE" "[I" ∈ lw_tbl := List.mem_of_getElem? (i := 952) (by decide +kernel)
theorem wl_X3_30 : Cond.methodLink RX3 30 (me_X3_aboveOf).1 ∈ lw_tbl := List.mem_of_getElem? (i := 949) (by decide +kernel)
theorem wl_X3_37 : Cond.methodLink RX3 37 Lib.Math.min.name ∈ lw_tbl := List.mem_of_getElem? (i := 966) (by decide +kernel)
theorem wf_X3_65 : Cond.fieldLink RX3 65 "PointsForAll$Purses" "BUYS" "[I" ∈ lw_tbl := List.mem_of_getElem? (i := 941) (by decide +kernel)
theorem wf_X3_68 : Cond.fieldLink RX3 68 "PointsForAll$Purses" "KEEPS" "[I" ∈ lw_tbl := List.mem_of_getElem? (i := 943) (by decide +kernel)
theorem wf_X3_71 : Cond.fieldLink RX3 71 "PointsForAll$Purses" "LENDS" "[I" ∈ lw_tbl := List.mem_of_getElem? (i := 945) (by decide +kernel)
theorem wf_X3_74 : Cond.fieldLink RX3 74 "PointsForAll$Purses" "TELLS" "[I" ∈ lw_tbl := List.mem_of_getElem? (i := 947) (by decide +kernel)
theorem wl_X3_56 : Cond.methodLink RX3 56 (me_X3_bodyOf).1 ∈ lw_tbl := List.mem_of_getElem? (i := 938) (by decide +kernel)
theorem wl_X3_59 : Cond.methodLink RX3 59 (me_X3_runBody).1 ∈ lw_tbl := List.mem_of_getElem? (i := 954) (by decide +kernel)
theorem wl_X3_52 : Cond.methodLink RX3 52 (me_X3_run).1 ∈ lw_tbl := List.mem_of_getElem? (i := 934) (by decide +kernel)
theorem wl_X3_46 : Cond.methodLink RX3 46 (me_X3_kindOf).1 ∈ lw_tbl := List.mem_of_getElem? (i := 929) (by decide +kernel)
theorem wl_X4_23 : Cond.methodLinkNest RX4 23 (me_X9_isWithin).1 "PointsForAll" ∈ lw_tbl := List.mem_of_getElem? (i := 403) (by decide +kernel)
theorem wl_X4_27 : Cond.methodLink RX4 27 (me_X4_isShelf).1 ∈ lw_tbl := List.mem_of_getElem? (i := 408) (by decide +kernel)
theorem wl_X4_31 : Cond.methodLink RX4 31 (me_X4_holdsPart).1 ∈ lw_tbl := List.mem_of_getElem? (i := 987) (by decide +kernel)
theorem wl_X4_34 : Cond.methodLink RX4 34 (me_X4_lowest).1 ∈ lw_tbl := List.mem_of_getElem? (i := 992) (by decide +kernel)
theorem wl_X4_38 : Cond.methodLink RX4 38 arraycopyName ∈ lw_tbl := List.mem_of_getElem? (i := 1012) (by decide +kernel)
theorem wl_X5_27 : Cond.methodLink RX5 27 (me_X5_write).1 ∈ lw_tbl := List.mem_of_getElem? (i := 390) (by decide +kernel)
theorem wl_X6_28 : Cond.methodLinkNest RX6 28 (me_X9_isWithin).1 "PointsForAll" ∈ lw_tbl := List.mem_of_getElem? (i := 508) (by decide +kernel)
theorem wl_X6_44 : Cond.methodLink RX6 44 (me_X6_write).1 ∈ lw_tbl := List.mem_of_getElem? (i := 513) (by decide +kernel)
theorem wl_X6_36 : Cond.methodLink RX6 36 (me_X6_here).1 ∈ lw_tbl := List.mem_of_getElem? (i := 504) (by decide +kernel)
theorem wl_X6_40 : Cond.methodLink RX6 40 (me_X6_readLevel).1 ∈ lw_tbl := List.mem_of_getElem? (i := 496) (by decide +kernel)
theorem wl_X6_52 : Cond.methodLink RX6 52 (me_X6_levelOf).1 ∈ lw_tbl := List.mem_of_getElem? (i := 528) (by decide +kernel)
theorem wl_X6_48 : Cond.methodLink RX6 48 (me_X6_readOne).1 ∈ lw_tbl := List.mem_of_getElem? (i := 500) (by decide +kernel)
theorem wl_X6_59 : Cond.methodLink RX6 59 (me_X6_isName).1 ∈ lw_tbl := List.mem_of_getElem? (i := 517) (by decide +kernel)
theorem wl_X6_65 : Cond.methodLink RX6 65 (me_X6_readSigned).1 ∈ lw_tbl := List.mem_of_getElem? (i := 524) (by decide +kernel)
theorem wl_X6_62 : Cond.methodLink RX6 62 (me_X6_readInside).1 ∈ lw_tbl := List.mem_of_getElem? (i := 520) (by decide +kernel)
theorem wl_X6_56 : Cond.methodLink RX6 56 (me_X6_readNumber).1 ∈ lw_tbl := List.mem_of_getElem? (i := 509) (by decide +kernel)
theorem wl_X6_32 : Cond.methodLink RX6 32 (me_X6_readLine).1 ∈ lw_tbl := List.mem_of_getElem? (i := 492) (by decide +kernel)
theorem wl_X8_30 : Cond.methodLink RX8 30 (me_X6_size).1 ∈ lw_tbl := List.mem_of_getElem? (i := 535) (by decide +kernel)
theorem wl_X8_36 : Cond.methodLink RX8 36 Lib.Math.min.name ∈ lw_tbl := List.mem_of_getElem? (i := 539) (by decide +kernel)
theorem wl_X8_42 : Cond.methodLink RX8 42 (me_X6_stepAt).1 ∈ lw_tbl := List.mem_of_getElem? (i := 542) (by decide +kernel)
theorem wl_X9_78 : Cond.methodLink RX9 78 (me_X9_isWithin).1 ∈ lw_tbl := List.mem_of_getElem? (i := 383) (by decide +kernel)
theorem wl_X9_82 : Cond.methodLink RX9 82 (me_X5_addThing).1 ∈ lw_tbl := List.mem_of_getElem? (i := 386) (by decide +kernel)
theorem wl_X9_314 : Cond.methodLink RX9 314 (me_X4_holdsPart).1 ∈ lw_tbl := List.mem_of_getElem? (i := 413) (by decide +kernel)
theorem wl_X9_303 : Cond.methodLink RX9 303 (me_X4_read).1 ∈ lw_tbl := List.mem_of_getElem? (i := 417) (by decide +kernel)
theorem wl_X9_86 : Cond.methodLink RX9 86 (me_X4_isShelf).1 ∈ lw_tbl := List.mem_of_getElem? (i := 399) (by decide +kernel)
theorem wl_X9_90 : Cond.methodLink RX9 90 (me_X4_heldOn).1 ∈ lw_tbl := List.mem_of_getElem? (i := 404) (by decide +kernel)
theorem wl_X9_94 : Cond.methodLink RX9 94 (me_X9_comesFrom).1 ∈ lw_tbl := List.mem_of_getElem? (i := 409) (by decide +kernel)
theorem wl_X9_98 : Cond.methodLink RX9 98 (me_X5_hasThing).1 ∈ lw_tbl := List.mem_of_getElem? (i := 425) (by decide +kernel)
theorem wl_X9_101 : Cond.methodLink RX9 101 (me_X1_change).1 ∈ lw_tbl := List.mem_of_getElem? (i := 429) (by decide +kernel)
theorem wl_X9_105 : Cond.methodLink RX9 105 (me_X8_known).1 ∈ lw_tbl := List.mem_of_getElem? (i := 450) (by decide +kernel)
theorem wl_X9_109 : Cond.methodLink RX9 109 (me_X5_addSort).1 ∈ lw_tbl := List.mem_of_getElem? (i := 454) (by decide +kernel)
theorem wl_X9_112 : Cond.methodLink RX9 112 (me_X5_hasSort).1 ∈ lw_tbl := List.mem_of_getElem? (i := 462) (by decide +kernel)
theorem wl_X9_115 : Cond.methodLink RX9 115 (me_X5_at).1 ∈ lw_tbl := List.mem_of_getElem? (i := 470) (by decide +kernel)
theorem wl_X9_119 : Cond.methodLink RX9 119 (me_X5_pointsInAll).1 ∈ lw_tbl := List.mem_of_getElem? (i := 471) (by decide +kernel)
theorem wl_X9_122 : Cond.methodLink RX9 122 (me_X6_take).1 ∈ lw_tbl := List.mem_of_getElem? (i := 480) (by decide +kernel)
theorem wl_X9_125 : Cond.methodLink RX9 125 (me_X6_reads).1 ∈ lw_tbl := List.mem_of_getElem? (i := 488) (by decide +kernel)
theorem wl_X9_133 : Cond.methodLink RX9 133 (me_X6_place).1 ∈ lw_tbl := List.mem_of_getElem? (i := 546) (by decide +kernel)
theorem wl_X9_136 : Cond.methodLink RX9 136 (me_X6_empty).1 ∈ lw_tbl := List.mem_of_getElem? (i := 550) (by decide +kernel)
theorem wl_X9_129 : Cond.methodLink RX9 129 (me_X8_learn).1 ∈ lw_tbl := List.mem_of_getElem? (i := 531) (by decide +kernel)
theorem wl_X9_139 : Cond.methodLink RX9 139 (me_X7_recall).1 ∈ lw_tbl := List.mem_of_getElem? (i := 558) (by decide +kernel)
theorem wl_X9_142 : Cond.methodLink RX9 142 (me_X7_worthOf).1 ∈ lw_tbl := List.mem_of_getElem? (i := 563) (by decide +kernel)
theorem wl_X9_145 : Cond.methodLink RX9 145 (me_X7_weigh).1 ∈ lw_tbl := List.mem_of_getElem? (i := 609) (by decide +kernel)
theorem wl_X9_149 : Cond.methodLink RX9 149 (me_X7_choose).1 ∈ lw_tbl := List.mem_of_getElem? (i := 614) (by decide +kernel)
theorem wl_X9_166 : Cond.methodLink RX9 166 (me_X2_wantAll).1 ∈ lw_tbl := List.mem_of_getElem? (i := 639) (by decide +kernel)
theorem wl_X9_175 : Cond.methodLink RX9 175 (me_X2_overOf).1 ∈ lw_tbl := List.mem_of_getElem? (i := 667) (by decide +kernel)
theorem wl_X9_172 : Cond.methodLink RX9 172 (me_X2_wantedOf).1 ∈ lw_tbl := List.mem_of_getElem? (i := 666) (by decide +kernel)
theorem wl_X9_169 : Cond.methodLink RX9 169 (me_X2_bothTogether).1 ∈ lw_tbl := List.mem_of_getElem? (i := 650) (by decide +kernel)
theorem wk_X9_165 : Cond.constant RX9 165 (-2000000000) ∈ lw_tbl := List.mem_of_getElem? (i := 638) (by decide +kernel)
theorem wl_X9_178 : Cond.methodLink RX9 178 (me_X5_digitOf).1 ∈ lw_tbl := List.mem_of_getElem? (i := 672) (by decide +kernel)
theorem wl_X9_184 : Cond.methodLink RX9 184 (me_X2_findPoints).1 ∈ lw_tbl := List.mem_of_getElem? (i := 677) (by decide +kernel)
theorem wl_X9_196 : Cond.methodLink RX9 196 (me_X7_pointsOf).1 ∈ lw_tbl := List.mem_of_getElem? (i := 701) (by decide +kernel)
theorem wl_X9_199 : Cond.methodLink RX9 199 (me_X2_leastPointsOf).1 ∈ lw_tbl := List.mem_of_getElem? (i := 706) (by decide +kernel)
theorem wl_X9_202 : Cond.methodLink RX9 202 (me_X5_isBasket).1 ∈ lw_tbl := List.mem_of_getElem? (i := 714) (by decide +kernel)
theorem wl_X9_205 : Cond.methodLink RX9 205 (me_X2_hear).1 ∈ lw_tbl := List.mem_of_getElem? (i := 718) (by decide +kernel)
theorem wl_X9_208 : Cond.methodLink RX9 208 (me_X2_judged).1 ∈ lw_tbl := List.mem_of_getElem? (i := 726) (by decide +kernel)
theorem wl_X9_211 : Cond.methodLink RX9 211 (me_X0_exchange).1 ∈ lw_tbl := List.mem_of_getElem? (i := 747) (by decide +kernel)
theorem wl_X9_215 : Cond.methodLink RX9 215 (me_X0_plainWorth).1 ∈ lw_tbl := List.mem_of_getElem? (i := 759) (by decide +kernel)
theorem wl_X9_218 : Cond.methodLink RX9 218 (me_X0_pointsThere).1 ∈ lw_tbl := List.mem_of_getElem? (i := 768) (by decide +kernel)
theorem wl_X9_221 : Cond.methodLink RX9 221 (me_X0_pointsTaken).1 ∈ lw_tbl := List.mem_of_getElem? (i := 772) (by decide +kernel)
theorem wl_X9_224 : Cond.methodLink RX9 224 (me_X0_byStealth).1 ∈ lw_tbl := List.mem_of_getElem? (i := 781) (by decide +kernel)
theorem wl_X9_227 : Cond.methodLink RX9 227 (me_X9_isShare).1 ∈ lw_tbl := List.mem_of_getElem? (i := 789) (by decide +kernel)
theorem wl_X9_230 : Cond.methodLink RX9 230 (me_X0_otherwise).1 ∈ lw_tbl := List.mem_of_getElem? (i := 792) (by decide +kernel)
theorem wl_X9_233 : Cond.methodLink RX9 233 (me_X0_losers).1 ∈ lw_tbl := List.mem_of_getElem? (i := 814) (by decide +kernel)
theorem wk_J_265 : Cond.constant "java/lang/Integer" 265 (1431655765) ∈ lw_tbl := List.mem_of_getElem? (i := 827) (by decide +kernel)
theorem wk_J_266 : Cond.constant "java/lang/Integer" 266 (858993459) ∈ lw_tbl := List.mem_of_getElem? (i := 828) (by decide +kernel)
theorem wk_J_267 : Cond.constant "java/lang/Integer" 267 (252645135) ∈ lw_tbl := List.mem_of_getElem? (i := 829) (by decide +kernel)
theorem wl_X9_236 : Cond.methodLink RX9 236 (me_J_bitCount).1 ∈ lw_tbl := List.mem_of_getElem? (i := 824) (by decide +kernel)
theorem wl_X9_241 : Cond.methodLink RX9 241 (me_X2_servesAll).1 ∈ lw_tbl := List.mem_of_getElem? (i := 830) (by decide +kernel)
theorem wl_X9_244 : Cond.methodLink RX9 244 (me_X2_takersOf).1 ∈ lw_tbl := List.mem_of_getElem? (i := 838) (by decide +kernel)
theorem wl_X9_247 : Cond.methodLink RX9 247 (me_X0_live).1 ∈ lw_tbl := List.mem_of_getElem? (i := 846) (by decide +kernel)
theorem wl_X9_257 : Cond.methodLink RX9 257 (me_X0_gainByForesight).1 ∈ lw_tbl := List.mem_of_getElem? (i := 854) (by decide +kernel)
theorem wl_X9_260 : Cond.methodLink RX9 260 (me_X2_cheapest).1 ∈ lw_tbl := List.mem_of_getElem? (i := 870) (by decide +kernel)
theorem wl_X9_263 : Cond.methodLink RX9 263 (me_X2_findWorst).1 ∈ lw_tbl := List.mem_of_getElem? (i := 878) (by decide +kernel)
theorem wl_X9_269 : Cond.methodLink RX9 269 (me_J_compare).1 ∈ lw_tbl := List.mem_of_getElem? (i := 887) (by decide +kernel)
theorem wl_X9_266 : Cond.methodLink RX9 266 (me_X2_offOf).1 ∈ lw_tbl := List.mem_of_getElem? (i := 886) (by decide +kernel)
theorem wl_X9_272 : Cond.methodLink RX9 272 (me_X1_goBack).1 ∈ lw_tbl := List.mem_of_getElem? (i := 892) (by decide +kernel)
theorem wl_X9_275 : Cond.methodLink RX9 275 (me_X1_goOn).1 ∈ lw_tbl := List.mem_of_getElem? (i := 900) (by decide +kernel)
theorem wl_X9_278 : Cond.methodLink RX9 278 (me_X3_add).1 ∈ lw_tbl := List.mem_of_getElem? (i := 908) (by decide +kernel)
theorem wl_X9_281 : Cond.methodLink RX9 281 (me_X3_forget).1 ∈ lw_tbl := List.mem_of_getElem? (i := 916) (by decide +kernel)
theorem wl_X9_284 : Cond.methodLink RX9 284 (me_X3_has).1 ∈ lw_tbl := List.mem_of_getElem? (i := 920) (by decide +kernel)
theorem wl_X9_287 : Cond.methodLink RX9 287 (me_X3_start).1 ∈ lw_tbl := List.mem_of_getElem? (i := 925) (by decide +kernel)
theorem wl_X9_290 : Cond.methodLink RX9 290 (me_X3_traced).1 ∈ lw_tbl := List.mem_of_getElem? (i := 962) (by decide +kernel)
theorem wl_X9_293 : Cond.methodLink RX9 293 (me_X4_hold).1 ∈ lw_tbl := List.mem_of_getElem? (i := 971) (by decide +kernel)
theorem wl_X9_296 : Cond.methodLink RX9 296 (me_X4_refusalOf).1 ∈ lw_tbl := List.mem_of_getElem? (i := 983) (by decide +kernel)
theorem wl_X9_299 : Cond.methodLink RX9 299 (me_X4_write).1 ∈ lw_tbl := List.mem_of_getElem? (i := 988) (by decide +kernel)
theorem wk_X9_309 : Cond.constantLong RX9 309 (-9223372036854775808) ∈ lw_tbl := List.mem_of_getElem? (i := 999) (by decide +kernel)
theorem wl_X9_311 : Cond.methodLink RX9 311 (me_X4_refusalOfTwo).1 ∈ lw_tbl := List.mem_of_getElem? (i := 1004) (by decide +kernel)
theorem wl_X9_317 : Cond.methodLink RX9 317 (me_X4_copy).1 ∈ lw_tbl := List.mem_of_getElem? (i := 1008) (by decide +kernel)
theorem wl_X9_327 : Cond.methodLink RX9 327 (me_X3_isUnder).1 ∈ lw_tbl := List.mem_of_getElem? (i := 1024) (by decide +kernel)
theorem wl_X9_321 : Cond.methodLink RX9 321 (me_X4_sizeOn).1 ∈ lw_tbl := List.mem_of_getElem? (i := 1019) (by decide +kernel)
theorem wl_X9_324 : Cond.methodLink RX9 324 (me_X3_kindOf).1 ∈ lw_tbl := List.mem_of_getElem? (i := 1023) (by decide +kernel)
theorem wl_X10_105 : Cond.methodLink RX10 105 (me_X10_within).1 ∈ lw_tbl := List.mem_of_getElem? (i := 1217) (by decide +kernel)
theorem wk_X10_112 : Cond.constantLong RX10 112 (99) ∈ lw_tbl := List.mem_of_getElem? (i := 1224) (by decide +kernel)
theorem wk_X10_114 : Cond.constantLong RX10 114 (999) ∈ lw_tbl := List.mem_of_getElem? (i := 1216) (by decide +kernel)
theorem wk_X10_116 : Cond.constantLong RX10 116 (9999) ∈ lw_tbl := List.mem_of_getElem? (i := 1220) (by decide +kernel)
theorem wl_X10_118 : Cond.methodLink RX10 118 (me_X10_isTwo).1 ∈ lw_tbl := List.mem_of_getElem? (i := 1221) (by decide +kernel)
theorem wl_X10_122 : Cond.methodLink RX10 122 (me_X10_adds).1 ∈ lw_tbl := List.mem_of_getElem? (i := 1225) (by decide +kernel)
theorem wk_X10_359 : Cond.constantLong RX10 359 (5) ∈ lw_tbl := List.mem_of_getElem? (i := 1236) (by decide +kernel)
theorem wl_X10_126 : Cond.methodLink RX10 126 (me_X10_isShelf).1 ∈ lw_tbl := List.mem_of_getElem? (i := 1233) (by decide +kernel)
theorem wk_X10_130 : Cond.constantLong RX10 130 (6) ∈ lw_tbl := List.mem_of_getElem? (i := 1237) (by decide +kernel)
theorem wl_X10_132 : Cond.methodLink RX10 132 (me_X10_isThing).1 ∈ lw_tbl := List.mem_of_getElem? (i := 1242) (by decide +kernel)
theorem wk_X10_135 : Cond.constantLong RX10 135 (2) ∈ lw_tbl := List.mem_of_getElem? (i := 1246) (by decide +kernel)
theorem wl_X10_137 : Cond.methodLink RX10 137 (me_X10_becomes).1 ∈ lw_tbl := List.mem_of_getElem? (i := 1247) (by decide +kernel)
theorem wl_X10_144 : Cond.methodLink RX10 144 (me_X10_isSort).1 ∈ lw_tbl := List.mem_of_getElem? (i := 1259) (by decide +kernel)
theorem wk_X10_147 : Cond.constantLong RX10 147 (3) ∈ lw_tbl := List.mem_of_getElem? (i := 1267) (by decide +kernel)
theorem wl_X10_149 : Cond.methodLink RX10 149 (me_X10_purseOf).1 ∈ lw_tbl := List.mem_of_getElem? (i := 1268) (by decide +kernel)
theorem wl_X10_153 : Cond.methodLink RX10 153 (me_X10_pointsInAll).1 ∈ lw_tbl := List.mem_of_getElem? (i := 1272) (by decide +kernel)
theorem wk_X10_156 : Cond.constantLong RX10 156 (4) ∈ lw_tbl := List.mem_of_getElem? (i := 1280) (by decide +kernel)
theorem wl_X10_173 : Cond.methodLink RX10 173 (me_X10_byteAt).1 ∈ lw_tbl := List.mem_of_getElem? (i := 1313) (by decide +kernel)
theorem wl_X10_182 : Cond.methodLink RX10 182 (me_X10_compared).1 ∈ lw_tbl := List.mem_of_getElem? (i := 1297) (by decide +kernel)
theorem wl_X10_180 : Cond.methodLink RX10 180 (me_X10_takes).1 ∈ lw_tbl := List.mem_of_getElem? (i := 1321) (by decide +kernel)
theorem wl_X10_185 : Cond.methodLink RX10 185 (me_X10_sums).1 ∈ lw_tbl := List.mem_of_getElem? (i := 1301) (by decide +kernel)
theorem wl_X10_177 : Cond.methodLink RX10 177 (me_X10_both).1 ∈ lw_tbl := List.mem_of_getElem? (i := 1293) (by decide +kernel)
theorem wl_X10_191 : Cond.methodLink RX10 191 (me_X10_one).1 ∈ lw_tbl := List.mem_of_getElem? (i := 1309) (by decide +kernel)
theorem wl_X10_197 : Cond.methodLink RX10 197 (me_X10_fails).1 ∈ lw_tbl := List.mem_of_getElem? (i := 1317) (by decide +kernel)
theorem wl_X10_200 : Cond.methodLink RX10 200 (me_X10_either).1 ∈ lw_tbl := List.mem_of_getElem? (i := 1289) (by decide +kernel)
theorem wl_X10_203 : Cond.methodLink RX10 203 (me_X10_nameOf).1 ∈ lw_tbl := List.mem_of_getElem? (i := 1325) (by decide +kernel)
theorem wl_X10_188 : Cond.methodLink RX10 188 (me_X10_product).1 ∈ lw_tbl := List.mem_of_getElem? (i := 1305) (by decide +kernel)
theorem wl_X10_206 : Cond.methodLink RX10 206 (me_X10_workOut).1 ∈ lw_tbl := List.mem_of_getElem? (i := 1285) (by decide +kernel)
theorem wl_X10_209 : Cond.methodLink RX10 209 (me_X10_worthOf).1 ∈ lw_tbl := List.mem_of_getElem? (i := 1332) (by decide +kernel)
theorem wl_X10_222 : Cond.methodLink RX10 222 (me_X10_layWorths).1 ∈ lw_tbl := List.mem_of_getElem? (i := 1348) (by decide +kernel)
theorem wl_X10_226 : Cond.methodLink RX10 226 (me_X10_baskets).1 ∈ lw_tbl := List.mem_of_getElem? (i := 1352) (by decide +kernel)
theorem wl_X10_229 : Cond.methodLink RX10 229 (me_X10_unpack).1 ∈ lw_tbl := List.mem_of_getElem? (i := 1356) (by decide +kernel)
theorem wl_X10_241 : Cond.methodLink RX10 241 (me_X10_findBest).1 ∈ lw_tbl := List.mem_of_getElem? (i := 1344) (by decide +kernel)
theorem wl_X10_244 : Cond.methodLink RX10 244 (me_X10_bestOf).1 ∈ lw_tbl := List.mem_of_getElem? (i := 1340) (by decide +kernel)
theorem wl_X10_247 : Cond.methodLink RX10 247 (me_X10_digitsNow).1 ∈ lw_tbl := List.mem_of_getElem? (i := 1360) (by decide +kernel)
theorem wl_X10_250 : Cond.methodLink RX10 250 (me_X10_over).1 ∈ lw_tbl := List.mem_of_getElem? (i := 1377) (by decide +kernel)
theorem wl_X10_253 : Cond.methodLink RX10 253 (me_X10_size).1 ∈ lw_tbl := List.mem_of_getElem? (i := 1381) (by decide +kernel)
theorem wl_X10_257 : Cond.methodLink RX10 257 (me_X10_findWanted).1 ∈ lw_tbl := List.mem_of_getElem? (i := 1369) (by decide +kernel)
theorem wl_X10_260 : Cond.methodLink RX10 260 (me_X10_bothOver).1 ∈ lw_tbl := List.mem_of_getElem? (i := 1373) (by decide +kernel)
theorem wk_X10_256 : Cond.constant RX10 256 (-2000000000) ∈ lw_tbl := List.mem_of_getElem? (i := 1368) (by decide +kernel)
theorem wl_X10_275 : Cond.methodLink RX10 275 (me_X10_keepsLeast).1 ∈ lw_tbl := List.mem_of_getElem? (i := 1401) (by decide +kernel)
theorem wk_X10_278 : Cond.constantLong RX10 278 (60) ∈ lw_tbl := List.mem_of_getElem? (i := 1395) (by decide +kernel)
theorem wl_X10_280 : Cond.methodLink RX10 280 (me_X10_areRounds).1 ∈ lw_tbl := List.mem_of_getElem? (i := 1392) (by decide +kernel)
theorem wk_X10_283 : Cond.constantLong RX10 283 (-4) ∈ lw_tbl := List.mem_of_getElem? (i := 1396) (by decide +kernel)
theorem wl_X10_285 : Cond.methodLink RX10 285 (me_X10_goRounds).1 ∈ lw_tbl := List.mem_of_getElem? (i := 1397) (by decide +kernel)
theorem wl_X10_288 : Cond.methodLink RX10 288 (me_X10_areDigits).1 ∈ lw_tbl := List.mem_of_getElem? (i := 1413) (by decide +kernel)
theorem wl_X10_291 : Cond.methodLink RX10 291 (me_X10_packed).1 ∈ lw_tbl := List.mem_of_getElem? (i := 1421) (by decide +kernel)
theorem wl_X10_300 : Cond.methodLink RX10 300 (me_X10_isRate).1 ∈ lw_tbl := List.mem_of_getElem? (i := 1429) (by decide +kernel)
theorem wl_X10_303 : Cond.methodLink RX10 303 (me_X10_findChanged).1 ∈ lw_tbl := List.mem_of_getElem? (i := 1432) (by decide +kernel)
theorem wk_X10_307 : Cond.constantLong RX10 307 (100) ∈ lw_tbl := List.mem_of_getElem? (i := 1444) (by decide +kernel)
theorem wk_X10_309 : Cond.constantLong RX10 309 (900) ∈ lw_tbl := List.mem_of_getElem? (i := 1452) (by decide +kernel)
theorem wk_X10_311 : Cond.constant RX10 311 (1000000000) ∈ lw_tbl := List.mem_of_getElem? (i := 1457) (by decide +kernel)
theorem wl_X10_312 : Cond.methodLink RX10 312 (me_X10_isHow).1 ∈ lw_tbl := List.mem_of_getElem? (i := 1449) (by decide +kernel)
theorem wl_X10_315 : Cond.methodLink RX10 315 (me_X10_besideOf).1 ∈ lw_tbl := List.mem_of_getElem? (i := 1453) (by decide +kernel)
theorem wl_X10_321 : Cond.methodLink RX10 321 (me_X10_isGone).1 ∈ lw_tbl := List.mem_of_getElem? (i := 1469) (by decide +kernel)
theorem wl_X10_318 : Cond.methodLink RX10 318 (me_X10_bitsOf).1 ∈ lw_tbl := List.mem_of_getElem? (i := 1466) (by decide +kernel)
theorem wk_X10_325 : Cond.constantLong RX10 325 (12) ∈ lw_tbl := List.mem_of_getElem? (i := 1481) (by decide +kernel)
theorem wk_X10_330 : Cond.constantLong RX10 330 (7) ∈ lw_tbl := List.mem_of_getElem? (i := 1498) (by decide +kernel)
theorem wl_X10_335 : Cond.methodLink RX10 335 (me_X10_begins).1 ∈ lw_tbl := List.mem_of_getElem? (i := 1511) (by decide +kernel)
theorem wl_X10_338 : Cond.methodLink RX10 338 (me_X10_buysAs).1 ∈ lw_tbl := List.mem_of_getElem? (i := 1507) (by decide +kernel)
theorem wl_X10_350 : Cond.methodLink RX10 350 (me_X10_lendsAs).1 ∈ lw_tbl := List.mem_of_getElem? (i := 1519) (by decide +kernel)
theorem wl_X10_344 : Cond.methodLink RX10 344 (me_X10_keepsAs).1 ∈ lw_tbl := List.mem_of_getElem? (i := 1515) (by decide +kernel)
theorem wl_X10_353 : Cond.methodLink RX10 353 (me_X10_tellsAs).1 ∈ lw_tbl := List.mem_of_getElem? (i := 1523) (by decide +kernel)
theorem wl_X10_356 : Cond.methodLink RX10 356 (me_X10_isBody).1 ∈ lw_tbl := List.mem_of_getElem? (i := 1503) (by decide +kernel)
theorem wl_X10_361 : Cond.methodLink RX10 361 (me_X10_refusal).1 ∈ lw_tbl := List.mem_of_getElem? (i := 1543) (by decide +kernel)
theorem wl_X10_364 : Cond.methodLink RX10 364 (me_X10_asSort).1 ∈ lw_tbl := List.mem_of_getElem? (i := 1547) (by decide +kernel)
theorem wk_X10_370 : Cond.constantLong RX10 370 (-9223372036854775808) ∈ lw_tbl := List.mem_of_getElem? (i := 1554) (by decide +kernel)
theorem wl_X10_372 : Cond.methodLink RX10 372 (me_X10_kindOf).1 ∈ lw_tbl := List.mem_of_getElem? (i := 1563) (by decide +kernel)
theorem wl_X10_375 : Cond.methodLink RX10 375 (me_X10_above).1 ∈ lw_tbl := List.mem_of_getElem? (i := 1567) (by decide +kernel)
theorem wl_L_13 : Cond.methodLink RL 13 (me_X9_thing).1 ∈ lw_tbl := List.mem_of_getElem? (i := 379) (by decide +kernel)
theorem wl_L_17 : Cond.methodLink RL 17 (me_X10_thing).1 ∈ lw_tbl := List.mem_of_getElem? (i := 1212) (by decide +kernel)
theorem wl_L_18 : Cond.methodLink RL 18 (me_X9_things).1 ∈ lw_tbl := List.mem_of_getElem? (i := 395) (by decide +kernel)
theorem wl_L_21 : Cond.methodLink RL 21 (me_X10_things).1 ∈ lw_tbl := List.mem_of_getElem? (i := 1229) (by decide +kernel)
theorem wl_L_22 : Cond.methodLink RL 22 (me_X9_mend).1 ∈ lw_tbl := List.mem_of_getElem? (i := 421) (by decide +kernel)
theorem wl_L_25 : Cond.methodLink RL 25 (me_X10_mend).1 ∈ lw_tbl := List.mem_of_getElem? (i := 1238) (by decide +kernel)
theorem wl_L_26 : Cond.methodLink RL 26 (me_X9_sort).1 ∈ lw_tbl := List.mem_of_getElem? (i := 446) (by decide +kernel)
theorem wl_L_29 : Cond.methodLink RL 29 (me_X10_sort).1 ∈ lw_tbl := List.mem_of_getElem? (i := 1251) (by decide +kernel)
theorem wl_L_30 : Cond.methodLink RL 30 (me_X9_purse).1 ∈ lw_tbl := List.mem_of_getElem? (i := 458) (by decide +kernel)
theorem wl_L_33 : Cond.methodLink RL 33 (me_X10_purse).1 ∈ lw_tbl := List.mem_of_getElem? (i := 1255) (by decide +kernel)
theorem wl_L_34 : Cond.methodLink RL 34 (me_X9_of).1 ∈ lw_tbl := List.mem_of_getElem? (i := 466) (by decide +kernel)
theorem wl_L_38 : Cond.methodLink RL 38 (me_X10_of).1 ∈ lw_tbl := List.mem_of_getElem? (i := 1263) (by decide +kernel)
theorem wl_L_39 : Cond.methodLink RL 39 (me_X9_feed).1 ∈ lw_tbl := List.mem_of_getElem? (i := 476) (by decide +kernel)
theorem wl_L_42 : Cond.methodLink RL 42 (me_X10_feed).1 ∈ lw_tbl := List.mem_of_getElem? (i := 1276) (by decide +kernel)
theorem wl_L_43 : Cond.methodLink RL 43 (me_X9_want).1 ∈ lw_tbl := List.mem_of_getElem? (i := 484) (by decide +kernel)
theorem wl_L_47 : Cond.methodLink RL 47 (me_X10_want).1 ∈ lw_tbl := List.mem_of_getElem? (i := 1281) (by decide +kernel)
theorem wl_L_48 : Cond.methodLink RL 48 (me_X9_worth).1 ∈ lw_tbl := List.mem_of_getElem? (i := 554) (by decide +kernel)
theorem wl_L_51 : Cond.methodLink RL 51 (me_X10_worth).1 ∈ lw_tbl := List.mem_of_getElem? (i := 1328) (by decide +kernel)
theorem wl_L_52 : Cond.methodLink RL 52 (me_X9_basket).1 ∈ lw_tbl := List.mem_of_getElem? (i := 605) (by decide +kernel)
theorem wl_L_55 : Cond.methodLink RL 55 (me_X10_basket).1 ∈ lw_tbl := List.mem_of_getElem? (i := 1336) (by decide +kernel)
theorem wl_L_56 : Cond.methodLink RL 56 (me_X9_wanted).1 ∈ lw_tbl := List.mem_of_getElem? (i := 634) (by decide +kernel)
theorem wl_L_59 : Cond.methodLink RL 59 (me_X10_wanted).1 ∈ lw_tbl := List.mem_of_getElem? (i := 1364) (by decide +kernel)
theorem wl_L_60 : Cond.methodLink RL 60 (me_X9_led).1 ∈ lw_tbl := List.mem_of_getElem? (i := 668) (by decide +kernel)
theorem wl_L_63 : Cond.methodLink RL 63 (me_X10_led).1 ∈ lw_tbl := List.mem_of_getElem? (i := 1384) (by decide +kernel)
theorem wl_L_64 : Cond.methodLink RL 64 (me_X9_found).1 ∈ lw_tbl := List.mem_of_getElem? (i := 673) (by decide +kernel)
theorem wl_L_67 : Cond.methodLink RL 67 (me_X10_found).1 ∈ lw_tbl := List.mem_of_getElem? (i := 1388) (by decide +kernel)
theorem wl_L_68 : Cond.methodLink RL 68 (me_X9_set).1 ∈ lw_tbl := List.mem_of_getElem? (i := 702) (by decide +kernel)
theorem wl_L_72 : Cond.methodLink RL 72 (me_X10_set).1 ∈ lw_tbl := List.mem_of_getElem? (i := 1405) (by decide +kernel)
theorem wl_L_73 : Cond.methodLink RL 73 (me_X9_tell).1 ∈ lw_tbl := List.mem_of_getElem? (i := 710) (by decide +kernel)
theorem wl_L_76 : Cond.methodLink RL 76 (me_X10_tell).1 ∈ lw_tbl := List.mem_of_getElem? (i := 1409) (by decide +kernel)
theorem wl_L_77 : Cond.methodLink RL 77 (me_X9_judge).1 ∈ lw_tbl := List.mem_of_getElem? (i := 722) (by decide +kernel)
theorem wl_L_80 : Cond.methodLink RL 80 (me_X10_judge).1 ∈ lw_tbl := List.mem_of_getElem? (i := 1417) (by decide +kernel)
theorem wl_L_81 : Cond.methodLink RL 81 (me_X9_changed).1 ∈ lw_tbl := List.mem_of_getElem? (i := 743) (by decide +kernel)
theorem wl_L_84 : Cond.methodLink RL 84 (me_X10_changed).1 ∈ lw_tbl := List.mem_of_getElem? (i := 1425) (by decide +kernel)
theorem wl_L_85 : Cond.methodLink RL 85 (me_X9_free).1 ∈ lw_tbl := List.mem_of_getElem? (i := 764) (by decide +kernel)
theorem wl_L_88 : Cond.methodLink RL 88 (me_X10_free).1 ∈ lw_tbl := List.mem_of_getElem? (i := 1436) (by decide +kernel)
theorem wl_L_89 : Cond.methodLink RL 89 (me_X9_black).1 ∈ lw_tbl := List.mem_of_getElem? (i := 777) (by decide +kernel)
theorem wl_L_92 : Cond.methodLink RL 92 (me_X10_black).1 ∈ lw_tbl := List.mem_of_getElem? (i := 1440) (by decide +kernel)
theorem wl_L_93 : Cond.methodLink RL 93 (me_X9_beside).1 ∈ lw_tbl := List.mem_of_getElem? (i := 785) (by decide +kernel)
theorem wl_L_96 : Cond.methodLink RL 96 (me_X10_beside).1 ∈ lw_tbl := List.mem_of_getElem? (i := 1445) (by decide +kernel)
theorem wl_L_97 : Cond.methodLink RL 97 (me_X9_loses).1 ∈ lw_tbl := List.mem_of_getElem? (i := 810) (by decide +kernel)
theorem wl_L_100 : Cond.methodLink RL 100 (me_X10_loses).1 ∈ lw_tbl := List.mem_of_getElem? (i := 1458) (by decide +kernel)
theorem wl_L_101 : Cond.methodLink RL 101 (me_X9_fewest).1 ∈ lw_tbl := List.mem_of_getElem? (i := 820) (by decide +kernel)
theorem wl_L_104 : Cond.methodLink RL 104 (me_X10_fewest).1 ∈ lw_tbl := List.mem_of_getElem? (i := 1462) (by decide +kernel)
theorem wl_L_105 : Cond.methodLink RL 105 (me_X9_least).1 ∈ lw_tbl := List.mem_of_getElem? (i := 834) (by decide +kernel)
theorem wl_L_108 : Cond.methodLink RL 108 (me_X10_least).1 ∈ lw_tbl := List.mem_of_getElem? (i := 1473) (by decide +kernel)
theorem wl_L_109 : Cond.methodLink RL 109 (me_X9_months).1 ∈ lw_tbl := List.mem_of_getElem? (i := 842) (by decide +kernel)
theorem wl_L_113 : Cond.methodLink RL 113 (me_X10_months).1 ∈ lw_tbl := List.mem_of_getElem? (i := 1477) (by decide +kernel)
theorem wl_L_114 : Cond.methodLink RL 114 (me_X9_foresight).1 ∈ lw_tbl := List.mem_of_getElem? (i := 850) (by decide +kernel)
theorem wl_L_117 : Cond.methodLink RL 117 (me_X10_foresight).1 ∈ lw_tbl := List.mem_of_getElem? (i := 1482) (by decide +kernel)
theorem wl_L_118 : Cond.methodLink RL 118 (me_X9_cheap).1 ∈ lw_tbl := List.mem_of_getElem? (i := 866) (by decide +kernel)
theorem wl_L_121 : Cond.methodLink RL 121 (me_X10_cheap).1 ∈ lw_tbl := List.mem_of_getElem? (i := 1486) (by decide +kernel)
theorem wl_L_122 : Cond.methodLink RL 122 (me_X9_wrong).1 ∈ lw_tbl := List.mem_of_getElem? (i := 874) (by decide +kernel)
theorem wl_L_125 : Cond.methodLink RL 125 (me_X10_wrong).1 ∈ lw_tbl := List.mem_of_getElem? (i := 1490) (by decide +kernel)
theorem wl_L_126 : Cond.methodLink RL 126 (me_X9_undo).1 ∈ lw_tbl := List.mem_of_getElem? (i := 888) (by decide +kernel)
theorem wl_L_129 : Cond.methodLink RL 129 (me_X10_undo).1 ∈ lw_tbl := List.mem_of_getElem? (i := 1204) (by decide +kernel)
theorem wl_L_130 : Cond.methodLink RL 130 (me_X9_redo).1 ∈ lw_tbl := List.mem_of_getElem? (i := 896) (by decide +kernel)
theorem wl_L_133 : Cond.methodLink RL 133 (me_X10_redo).1 ∈ lw_tbl := List.mem_of_getElem? (i := 1208) (by decide +kernel)
theorem wl_L_134 : Cond.methodLink RL 134 (me_X9_body).1 ∈ lw_tbl := List.mem_of_getElem? (i := 904) (by decide +kernel)
theorem wl_L_137 : Cond.methodLink RL 137 (me_X10_body).1 ∈ lw_tbl := List.mem_of_getElem? (i := 1494) (by decide +kernel)
theorem wl_L_138 : Cond.methodLink RL 138 (me_X9_act).1 ∈ lw_tbl := List.mem_of_getElem? (i := 912) (by decide +kernel)
theorem wl_L_141 : Cond.methodLink RL 141 (me_X10_act).1 ∈ lw_tbl := List.mem_of_getElem? (i := 1499) (by decide +kernel)
theorem wl_L_142 : Cond.methodLink RL 142 (me_X9_trace).1 ∈ lw_tbl := List.mem_of_getElem? (i := 958) (by decide +kernel)
theorem wl_L_145 : Cond.methodLink RL 145 (me_X10_trace).1 ∈ lw_tbl := List.mem_of_getElem? (i := 1527) (by decide +kernel)
theorem wl_L_146 : Cond.methodLink RL 146 (me_X9_keep).1 ∈ lw_tbl := List.mem_of_getElem? (i := 967) (by decide +kernel)
theorem wl_L_149 : Cond.methodLink RL 149 (me_X10_keep).1 ∈ lw_tbl := List.mem_of_getElem? (i := 1531) (by decide +kernel)
theorem wl_L_150 : Cond.methodLink RL 150 (me_X9_row).1 ∈ lw_tbl := List.mem_of_getElem? (i := 975) (by decide +kernel)
theorem wl_L_153 : Cond.methodLink RL 153 (me_X10_row).1 ∈ lw_tbl := List.mem_of_getElem? (i := 1535) (by decide +kernel)
theorem wk_L_154 : Cond.constantLong RL 154 (4294967295) ∈ lw_tbl := List.mem_of_getElem? (i := 1574) (by decide +kernel)
theorem wl_L_156 : Cond.methodLink RL 156 (me_X9_put).1 ∈ lw_tbl := List.mem_of_getElem? (i := 979) (by decide +kernel)
theorem wl_L_160 : Cond.methodLink RL 160 (me_X10_put).1 ∈ lw_tbl := List.mem_of_getElem? (i := 1539) (by decide +kernel)
theorem wl_L_161 : Cond.methodLink RL 161 (me_X9_element).1 ∈ lw_tbl := List.mem_of_getElem? (i := 995) (by decide +kernel)
theorem wl_L_165 : Cond.methodLink RL 165 (me_X10_element).1 ∈ lw_tbl := List.mem_of_getElem? (i := 1550) (by decide +kernel)
theorem wl_L_166 : Cond.methodLink RL 166 (me_X9_shift).1 ∈ lw_tbl := List.mem_of_getElem? (i := 1000) (by decide +kernel)
theorem wl_L_170 : Cond.methodLink RL 170 (me_X10_shift).1 ∈ lw_tbl := List.mem_of_getElem? (i := 1555) (by decide +kernel)
theorem wl_L_171 : Cond.methodLink RL 171 (me_X9_taken).1 ∈ lw_tbl := List.mem_of_getElem? (i := 1015) (by decide +kernel)
theorem wl_L_174 : Cond.methodLink RL 174 (me_X10_taken).1 ∈ lw_tbl := List.mem_of_getElem? (i := 1559) (by decide +kernel)
theorem wl_L_175 : Cond.methodLink RL 175 (me_X9_count).1 ∈ lw_tbl := List.mem_of_getElem? (i := 1028) (by decide +kernel)
theorem wl_L_178 : Cond.methodLink RL 178 (me_X10_count).1 ∈ lw_tbl := List.mem_of_getElem? (i := 1570) (by decide +kernel)
theorem wd_max : Cond.static Lib.Math.max.name ∈ lw_tbl := List.mem_of_getElem? (i := 603) (by decide +kernel)
theorem wd_maxc : Cond.code Lib.Math.max.name Lib.Math.max.code 2 (some .int) ∈ lw_tbl := List.mem_of_getElem? (i := 604) (by decide +kernel)
theorem wd_min : Cond.static Lib.Math.min.name ∈ lw_tbl := List.mem_of_getElem? (i := 540) (by decide +kernel)
theorem wd_minc : Cond.code Lib.Math.min.name Lib.Math.min.code 2 (some .int) ∈ lw_tbl := List.mem_of_getElem? (i := 541) (by decide +kernel)
theorem wd_abs : Cond.static Lib.Math.abs.name ∈ lw_tbl := List.mem_of_getElem? (i := 664) (by decide +kernel)
theorem wd_absc : Cond.code Lib.Math.abs.name Lib.Math.abs.code 1 (some .int) ∈ lw_tbl := List.mem_of_getElem? (i := 665) (by decide +kernel)
theorem wd_minit : Cond.initialized "java/lang/Math" ∈ lw_tbl := List.mem_of_getElem? (i := 77) (by decide +kernel)
theorem wd_sini : Cond.initialized "java/lang/System" ∈ lw_tbl := List.mem_of_getElem? (i := 79) (by decide +kernel)
theorem wd_acn : Cond.native arraycopyName ∈ lw_tbl := List.mem_of_getElem? (i := 1014) (by decide +kernel)
theorem wd_acs : Cond.static arraycopyName ∈ lw_tbl := List.mem_of_getElem? (i := 1013) (by decide +kernel)
theorem dJ_compare_0 : decode prog_13_method_40_code 0 = .ok (.iload_n 0, 1) := by decide +kernel
theorem dJ_compare_1 : decode prog_13_method_40_code 1 = .ok (.iload_n 1, 1) := by decide +kernel
theorem dJ_compare_2 : decode prog_13_method_40_code 2 = .ok (.if_icmp .ge 7, 3) := by decide +kernel
theorem dJ_compare_5 : decode prog_13_method_40_code 5 = .ok (.iconst (-1), 1) := by decide +kernel
theorem dJ_compare_6 : decode prog_13_method_40_code 6 = .ok (.goto 13, 3) := by decide +kernel
theorem dJ_compare_9 : decode prog_13_method_40_code 9 = .ok (.iload_n 0, 1) := by decide +kernel
theorem dJ_compare_10 : decode prog_13_method_40_code 10 = .ok (.iload_n 1, 1) := by decide +kernel
theorem dJ_compare_11 : decode prog_13_method_40_code 11 = .ok (.if_icmp .ne 7, 3) := by decide +kernel
theorem dJ_compare_14 : decode prog_13_method_40_code 14 = .ok (.iconst 0, 1) := by decide +kernel
theorem dJ_compare_15 : decode prog_13_method_40_code 15 = .ok (.goto 4, 3) := by decide +kernel
theorem dJ_compare_18 : decode prog_13_method_40_code 18 = .ok (.iconst 1, 1) := by decide +kernel
theorem dJ_compare_19 : decode prog_13_method_40_code 19 = .ok (.ireturn, 1) := by decide +kernel
theorem dJ_bitCount_0 : decode prog_13_method_49_code 0 = .ok (.iload_n 0, 1) := by decide +kernel
theorem dJ_bitCount_1 : decode prog_13_method_49_code 1 = .ok (.iload_n 0, 1) := by decide +kernel
theorem dJ_bitCount_2 : decode prog_13_method_49_code 2 = .ok (.iconst 1, 1) := by decide +kernel
theorem dJ_bitCount_3 : decode prog_13_method_49_code 3 = .ok (.iushr, 1) := by decide +kernel
theorem dJ_bitCount_4 : decode prog_13_method_49_code 4 = .ok (.ldc_w 265, 3) := by decide +kernel
theorem dJ_bitCount_7 : decode prog_13_method_49_code 7 = .ok (.iand, 1) := by decide +kernel
theorem dJ_bitCount_8 : decode prog_13_method_49_code 8 = .ok (.isub, 1) := by decide +kernel
theorem dJ_bitCount_9 : decode prog_13_method_49_code 9 = .ok (.istore_n 0, 1) := by decide +kernel
theorem dJ_bitCount_10 : decode prog_13_method_49_code 10 = .ok (.iload_n 0, 1) := by decide +kernel
theorem dJ_bitCount_11 : decode prog_13_method_49_code 11 = .ok (.ldc_w 266, 3) := by decide +kernel
theorem dJ_bitCount_14 : decode prog_13_method_49_code 14 = .ok (.iand, 1) := by decide +kernel
theorem dJ_bitCount_15 : decode prog_13_method_49_code 15 = .ok (.iload_n 0, 1) := by decide +kernel
theorem dJ_bitCount_16 : decode prog_13_method_49_code 16 = .ok (.iconst 2, 1) := by decide +kernel
theorem dJ_bitCount_17 : decode prog_13_method_49_code 17 = .ok (.iushr, 1) := by decide +kernel
theorem dJ_bitCount_18 : decode prog_13_method_49_code 18 = .ok (.ldc_w 266, 3) := by decide +kernel
theorem dJ_bitCount_21 : decode prog_13_method_49_code 21 = .ok (.iand, 1) := by decide +kernel
theorem dJ_bitCount_22 : decode prog_13_method_49_code 22 = .ok (.iadd, 1) := by decide +kernel
theorem dJ_bitCount_23 : decode prog_13_method_49_code 23 = .ok (.istore_n 0, 1) := by decide +kernel
theorem dJ_bitCount_24 : decode prog_13_method_49_code 24 = .ok (.iload_n 0, 1) := by decide +kernel
theorem dJ_bitCount_25 : decode prog_13_method_49_code 25 = .ok (.iload_n 0, 1) := by decide +kernel
theorem dJ_bitCount_26 : decode prog_13_method_49_code 26 = .ok (.iconst 4, 1) := by decide +kernel
theorem dJ_bitCount_27 : decode prog_13_method_49_code 27 = .ok (.iushr, 1) := by decide +kernel
theorem dJ_bitCount_28 : decode prog_13_method_49_code 28 = .ok (.iadd, 1) := by decide +kernel
theorem dJ_bitCount_29 : decode prog_13_method_49_code 29 = .ok (.ldc_w 267, 3) := by decide +kernel
theorem dJ_bitCount_32 : decode prog_13_method_49_code 32 = .ok (.iand, 1) := by decide +kernel
theorem dJ_bitCount_33 : decode prog_13_method_49_code 33 = .ok (.istore_n 0, 1) := by decide +kernel
theorem dJ_bitCount_34 : decode prog_13_method_49_code 34 = .ok (.iload_n 0, 1) := by decide +kernel
theorem dJ_bitCount_35 : decode prog_13_method_49_code 35 = .ok (.iload_n 0, 1) := by decide +kernel
theorem dJ_bitCount_36 : decode prog_13_method_49_code 36 = .ok (.bipush 8, 2) := by decide +kernel
theorem dJ_bitCount_38 : decode prog_13_method_49_code 38 = .ok (.iushr, 1) := by decide +kernel
theorem dJ_bitCount_39 : decode prog_13_method_49_code 39 = .ok (.iadd, 1) := by decide +kernel
theorem dJ_bitCount_40 : decode prog_13_method_49_code 40 = .ok (.istore_n 0, 1) := by decide +kernel
theorem dJ_bitCount_41 : decode prog_13_method_49_code 41 = .ok (.iload_n 0, 1) := by decide +kernel
theorem dJ_bitCount_42 : decode prog_13_method_49_code 42 = .ok (.iload_n 0, 1) := by decide +kernel
theorem dJ_bitCount_43 : decode prog_13_method_49_code 43 = .ok (.bipush 16, 2) := by decide +kernel
theorem dJ_bitCount_45 : decode prog_13_method_49_code 45 = .ok (.iushr, 1) := by decide +kernel
theorem dJ_bitCount_46 : decode prog_13_method_49_code 46 = .ok (.iadd, 1) := by decide +kernel
theorem dJ_bitCount_47 : decode prog_13_method_49_code 47 = .ok (.istore_n 0, 1) := by decide +kernel
theorem dJ_bitCount_48 : decode prog_13_method_49_code 48 = .ok (.iload_n 0, 1) := by decide +kernel
theorem dJ_bitCount_49 : decode prog_13_method_49_code 49 = .ok (.bipush 63, 2) := by decide +kernel
theorem dJ_bitCount_51 : decode prog_13_method_49_code 51 = .ok (.iand, 1) := by decide +kernel
theorem dJ_bitCount_52 : decode prog_13_method_49_code 52 = .ok (.ireturn, 1) := by decide +kernel
