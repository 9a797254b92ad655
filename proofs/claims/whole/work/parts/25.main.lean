def f_X9_thing_0 (N : Nat) (a1 : Int32) (a2 : Int32) (a3 : Int32) (μ : am_M) : Option (Int32 × am_M) :=
am_bd (f_X9_isWithin N a1 (0 : Int32) (999 : Int32) μ) (fun y2 μ1 => if y2 = 0 then (some ((-1 : Int32), μ1)) else (am_bd (f_X9_isWithin N a2 (0 : Int32) (9999 : Int32) μ1) (fun y4 μ3 => if y4 = 0 then (some ((-1 : Int32), μ3)) else (am_bd (f_X9_isWithin N a3 (0 : Int32) (99 : Int32) μ3) (fun y6 μ5 => if y6 = 0 then (some ((-1 : Int32), μ5)) else (am_bd (f_X5_addThing N a1 (a2 / (100 : Int32)) (am_rem a2 (100 : Int32)) a3 μ5) (fun y8 μ7 => some (y8, μ7))))))))
def f_X9_thing (N : Nat) (a1 : Int32) (a2 : Int32) (a3 : Int32) (μ : am_M) : Option (Int32 × am_M) := f_X9_thing_0 N a1 a2 a3 μ
set_option maxHeartbeats 4000000 in
set_option maxRecDepth 100000 in
theorem p_X9_thing_0 (G : am_G) (l : Launch) (d : Nat) (hd0 : 3 ≤ d) (N : Nat) (a1 : Int32) (a2 : Int32) (a3 : Int32) (μ : am_M) : sm_P G l am_ci d me_X9_thing 0 [(0, .ref (am_ad G 0 0)), (1, .int a1), (2, .int a2), (3, .int a3)] [] μ (f_X9_thing_0 N a1 a2 a3 μ) := by
  unfold f_X9_thing_0
  refine sm_iload_n (pc := 0) dX9_thing_0 rfl 1 rfl ?_
  refine sm_iconst (pc := 1) dX9_thing_1 (v := 0) (by decide) ?_
  refine sm_sipush (pc := 2) dX9_thing_2 (v := 999) (by decide) ?_
  refine sm_callSi (pc := 5) (As := [.int a1, .int (0 : Int32), .int (999 : Int32)]) (rest := []) dX9_thing_5 (c_X9_isWithin G l N a1 (0 : Int32) (999 : Int32) μ) (by omega) wl_X9_78 st_X9_isWithin rfl rfl (Nat.le_of_ble_eq_true rfl) (fun y2 μ1 => ?_)
  refine sm_if_eq (pc := 8) (tgt := 32) dX9_thing_8 (by decide) ?_ ?_
  · refine sm_iconst (pc := 32) dX9_thing_32 (v := -1) (by decide) ?_
    exact sm_iret (pc := 33) dX9_thing_33 rfl
  · refine sm_iload_n (pc := 11) dX9_thing_11 rfl 2 rfl ?_
    refine sm_iconst (pc := 12) dX9_thing_12 (v := 0) (by decide) ?_
    refine sm_sipush (pc := 13) dX9_thing_13 (v := 9999) (by decide) ?_
    refine sm_callSi (pc := 16) (As := [.int a2, .int (0 : Int32), .int (9999 : Int32)]) (rest := []) dX9_thing_16 (c_X9_isWithin G l N a2 (0 : Int32) (9999 : Int32) μ1) (by omega) wl_X9_78 st_X9_isWithin rfl rfl (Nat.le_of_ble_eq_true rfl) (fun y4 μ3 => ?_)
    refine sm_if_eq (pc := 19) (tgt := 32) dX9_thing_19 (by decide) ?_ ?_
    · refine sm_iconst (pc := 32) dX9_thing_32 (v := -1) (by decide) ?_
      exact sm_iret (pc := 33) dX9_thing_33 rfl
    · refine sm_iload_n (pc := 22) dX9_thing_22 rfl 3 rfl ?_
      refine sm_iconst (pc := 23) dX9_thing_23 (v := 0) (by decide) ?_
      refine sm_bipush (pc := 24) dX9_thing_24 (v := 99) (by decide) ?_
      refine sm_callSi (pc := 26) (As := [.int a3, .int (0 : Int32), .int (99 : Int32)]) (rest := []) dX9_thing_26 (c_X9_isWithin G l N a3 (0 : Int32) (99 : Int32) μ3) (by omega) wl_X9_78 st_X9_isWithin rfl rfl (Nat.le_of_ble_eq_true rfl) (fun y6 μ5 => ?_)
      refine sm_if_ne (pc := 29) (tgt := 34) dX9_thing_29 (by decide) ?_ ?_
      · refine sm_aload_n (pc := 34) dX9_thing_34 rfl 0 rfl ?_
        refine sm_getr (pc := 35) dX9_thing_35 fi_X9_12 ?_
        refine sm_iload_n (pc := 38) dX9_thing_38 rfl 1 rfl ?_
        refine sm_iload_n (pc := 39) dX9_thing_39 rfl 2 rfl ?_
        refine sm_bipush (pc := 40) dX9_thing_40 (v := 100) (by decide) ?_
        refine sm_idivc (pc := 42) dX9_thing_42 (by decide) ?_
        refine sm_iload_n (pc := 43) dX9_thing_43 rfl 2 rfl ?_
        refine sm_bipush (pc := 44) dX9_thing_44 (v := 100) (by decide) ?_
        refine sm_iremc (pc := 46) dX9_thing_46 (by decide) ?_
        refine sm_iload_n (pc := 47) dX9_thing_47 rfl 3 rfl ?_
        refine sm_callVi (pc := 48) (As := [.int a1, .int (a2 / (100 : Int32)), .int (am_rem a2 (100 : Int32)), .int a3]) (rest := []) dX9_thing_48 (c_X5_addThing G l N a1 (a2 / (100 : Int32)) (am_rem a2 (100 : Int32)) a3 μ5) (by omega) wl_X9_82 vm_X5_addThing rfl rfl (Nat.le_of_ble_eq_true rfl) (fun y8 μ7 => ?_)
        exact sm_iret (pc := 51) dX9_thing_51 rfl
      · refine sm_iconst (pc := 32) dX9_thing_32 (v := -1) (by decide) ?_
        exact sm_iret (pc := 33) dX9_thing_33 rfl
theorem c_X9_thing (G : am_G) (l : Launch) (N : Nat) (a1 : Int32) (a2 : Int32) (a3 : Int32) (μ : am_M) : ct_P G l am_ci 3 me_X9_thing [.ref (am_ad G 0 0), .int a1, .int a2, .int a3] μ (f_X9_thing N a1 a2 a3 μ) := ct_of (by decide +kernel) (Nat.le_of_ble_eq_true rfl) rfl (p_X9_thing_0 G l 3 (Nat.le_refl _) N a1 a2 a3 μ)

def f_X9_comesFrom_117 (N : Nat) (x3 : Int32) (x4 : Int32) (x5 : Int32) (x6 : Int32) (s0 : Int32) (μ : am_M) : Option (Int32 × am_M) :=
if s0 = 0 then (am_z (0 : Int32) μ) else (am_bd (f_X5_addThing N x3 x4 x5 x6 μ) (fun y18 μ17 => if y18 = (-3 : Int32) then (am_z (0 : Int32) μ17) else (am_z (1 : Int32) μ17)))
def f_X9_comesFrom_116 (N : Nat) (x3 : Int32) (x4 : Int32) (x5 : Int32) (x6 : Int32) (μ : am_M) : Option (Int32 × am_M) :=
f_X9_comesFrom_117 N x3 x4 x5 x6 (0 : Int32) μ
def f_X9_comesFrom_0 (N : Nat) (a1 : Int32) (a2 : Int32) (μ : am_M) : Option (Int32 × am_M) :=
am_bd (f_X4_holdsPart N a1 a2 (4 : Int32) μ) (fun y2 μ1 => if y2 = 0 then (am_z (0 : Int32) μ1) else (am_bd (f_X4_read N a1 a2 μ1) (fun y4 μ3 => am_nm y4.toInt32 (fun y5 => am_bd (f_X4_read N a1 (a2 + (1 : Int32)) μ3) (fun y7 μ6 => am_nm y7.toInt32 (fun y8 => am_bd (f_X4_read N a1 (a2 + (2 : Int32)) μ6) (fun y10 μ9 => am_nm y10.toInt32 (fun y11 => am_bd (f_X4_read N a1 (a2 + (3 : Int32)) μ9) (fun y13 μ12 => am_nm y13.toInt32 (fun y14 => am_bd (f_X9_isWithin N y5 (0 : Int32) (999 : Int32) μ12) (fun y16 μ15 => if y16 = 0 then (f_X9_comesFrom_116 N y5 y8 y11 y14 μ15) else (am_bd (f_X9_isWithin N y8 (0 : Int32) (99 : Int32) μ15) (fun y20 μ19 => if y20 = 0 then (f_X9_comesFrom_116 N y5 y8 y11 y14 μ19) else (am_bd (f_X9_isWithin N y11 (0 : Int32) (99 : Int32) μ19) (fun y22 μ21 => if y22 = 0 then (f_X9_comesFrom_116 N y5 y8 y11 y14 μ21) else (am_bd (f_X9_isWithin N y14 (0 : Int32) (99 : Int32) μ21) (fun y24 μ23 => if y24 = 0 then (f_X9_comesFrom_116 N y5 y8 y11 y14 μ23) else (f_X9_comesFrom_117 N y5 y8 y11 y14 (1 : Int32) μ23))))))))))))))))))
def f_X9_comesFrom (N : Nat) (a1 : Int32) (a2 : Int32) (μ : am_M) : Option (Int32 × am_M) := f_X9_comesFrom_0 N a1 a2 μ
set_option maxHeartbeats 4000000 in
set_option maxRecDepth 100000 in
theorem p_X9_comesFrom_117 (G : am_G) (l : Launch) (d : Nat) (hd0 : 3 ≤ d) (N : Nat) (x3 : Int32) (x4 : Int32) (x5 : Int32) (x6 : Int32) (s0 : Int32) (μ : am_M) : sm_P G l am_ci d me_X9_comesFrom 117 [(0, .ref (am_ad G 0 0)), (3, .int x3), (4, .int x4), (5, .int x5), (6, .int x6)] [.int s0] μ (f_X9_comesFrom_117 N x3 x4 x5 x6 s0 μ) := by
  unfold f_X9_comesFrom_117
  refine sm_istore (pc := 117) (lv' := [(7, .int s0), (0, .ref (am_ad G 0 0)), (3, .int x3), (4, .int x4), (5, .int x5), (6, .int x6)]) dX9_comesFrom_117 (by decide) rfl ?_
  refine sm_iload (pc := 119) dX9_comesFrom_119 0 rfl ?_
  refine sm_if_eq (pc := 121) (tgt := 147) dX9_comesFrom_121 (by decide) ?_ ?_
  · refine sm_iconst (pc := 147) dX9_comesFrom_147 (v := 0) (by decide) ?_
    exact sm_zret (pc := 148) dX9_comesFrom_148 rfl
  · refine sm_aload_n (pc := 124) dX9_comesFrom_124 rfl 1 rfl ?_
    refine sm_getr (pc := 125) dX9_comesFrom_125 fi_X9_12 ?_
    refine sm_iload_n (pc := 128) dX9_comesFrom_128 rfl 2 rfl ?_
    refine sm_iload (pc := 129) dX9_comesFrom_129 3 rfl ?_
    refine sm_iload (pc := 131) dX9_comesFrom_131 4 rfl ?_
    refine sm_iload (pc := 133) dX9_comesFrom_133 5 rfl ?_
    refine sm_callVi (pc := 135) (As := [.int x3, .int x4, .int x5, .int x6]) (rest := []) dX9_comesFrom_135 (c_X5_addThing G l N x3 x4 x5 x6 μ) (by omega) wl_X9_82 vm_X5_addThing rfl rfl (Nat.le_of_ble_eq_true rfl) (fun y18 μ17 => ?_)
    refine sm_bipush (pc := 138) dX9_comesFrom_138 (v := -3) (by decide) ?_
    refine sm_icmp_eq (pc := 140) (tgt := 147) dX9_comesFrom_140 (by decide) ?_ ?_
    · refine sm_iconst (pc := 147) dX9_comesFrom_147 (v := 0) (by decide) ?_
      exact sm_zret (pc := 148) dX9_comesFrom_148 rfl
    · refine sm_iconst (pc := 143) dX9_comesFrom_143 (v := 1) (by decide) ?_
      refine sm_goto (pc := 144) (tgt := 148) dX9_comesFrom_144 (by decide) ?_
      exact sm_zret (pc := 148) dX9_comesFrom_148 rfl
set_option maxHeartbeats 4000000 in
set_option maxRecDepth 100000 in
theorem p_X9_comesFrom_116 (G : am_G) (l : Launch) (d : Nat) (hd0 : 3 ≤ d) (N : Nat) (x3 : Int32) (x4 : Int32) (x5 : Int32) (x6 : Int32) (μ : am_M) : sm_P G l am_ci d me_X9_comesFrom 116 [(0, .ref (am_ad G 0 0)), (3, .int x3), (4, .int x4), (5, .int x5), (6, .int x6)] [] μ (f_X9_comesFrom_116 N x3 x4 x5 x6 μ) := by
  unfold f_X9_comesFrom_116
  refine sm_iconst (pc := 116) dX9_comesFrom_116 (v := 0) (by decide) ?_
  exact p_X9_comesFrom_117 G l d hd0 N x3 x4 x5 x6 (0 : Int32) μ
set_option maxHeartbeats 4000000 in
set_option maxRecDepth 100000 in
theorem p_X9_comesFrom_0 (G : am_G) (l : Launch) (d : Nat) (hd0 : 3 ≤ d) (N : Nat) (a1 : Int32) (a2 : Int32) (μ : am_M) : sm_P G l am_ci d me_X9_comesFrom 0 [(0, .ref (am_ad G 0 0)), (1, .int a1), (2, .int a2)] [] μ (f_X9_comesFrom_0 N a1 a2 μ) := by
  unfold f_X9_comesFrom_0
  refine sm_aload_n (pc := 0) dX9_comesFrom_0 rfl 0 rfl ?_
  refine sm_getr (pc := 1) dX9_comesFrom_1 fi_X9_74 ?_
  refine sm_iload_n (pc := 4) dX9_comesFrom_4 rfl 1 rfl ?_
  refine sm_iload_n (pc := 5) dX9_comesFrom_5 rfl 2 rfl ?_
  refine sm_iconst (pc := 6) dX9_comesFrom_6 (v := 4) (by decide) ?_
  refine sm_callVi (pc := 7) (As := [.int a1, .int a2, .int (4 : Int32)]) (rest := []) dX9_comesFrom_7 (c_X4_holdsPart G l N a1 a2 (4 : Int32) μ) (by omega) wl_X9_314 vm_X4_holdsPart rfl rfl (Nat.le_of_ble_eq_true rfl) (fun y2 μ1 => ?_)
  refine sm_if_ne (pc := 10) (tgt := 15) dX9_comesFrom_10 (by decide) ?_ ?_
  · refine sm_aload_n (pc := 15) dX9_comesFrom_15 rfl 0 rfl ?_
    refine sm_getr (pc := 16) dX9_comesFrom_16 fi_X9_74 ?_
    refine sm_iload_n (pc := 19) dX9_comesFrom_19 rfl 1 rfl ?_
    refine sm_iload_n (pc := 20) dX9_comesFrom_20 rfl 2 rfl ?_
    refine sm_callVl (pc := 21) (As := [.int a1, .int a2]) (rest := []) dX9_comesFrom_21 (c_X4_read G l N a1 a2 μ1) (by omega) wl_X9_303 vm_X4_read rfl rfl (Nat.le_of_ble_eq_true rfl) (fun y4 μ3 => ?_)
    refine sm_l2i (pc := 24) dX9_comesFrom_24 ?_
    refine sm_nmI (fun y5 => ?_)
    refine sm_istore_n (pc := 25) (lv' := [(3, .int y5), (0, .ref (am_ad G 0 0)), (1, .int a1), (2, .int a2)]) dX9_comesFrom_25 rfl (by decide) rfl ?_
    refine sm_aload_n (pc := 26) dX9_comesFrom_26 rfl 1 rfl ?_
    refine sm_getr (pc := 27) dX9_comesFrom_27 fi_X9_74 ?_
    refine sm_iload_n (pc := 30) dX9_comesFrom_30 rfl 2 rfl ?_
    refine sm_iload_n (pc := 31) dX9_comesFrom_31 rfl 3 rfl ?_
    refine sm_iconst (pc := 32) dX9_comesFrom_32 (v := 1) (by decide) ?_
    refine sm_iadd (pc := 33) dX9_comesFrom_33 ?_
    refine sm_callVl (pc := 34) (As := [.int a1, .int (a2 + (1 : Int32))]) (rest := []) dX9_comesFrom_34 (c_X4_read G l N a1 (a2 + (1 : Int32)) μ3) (by omega) wl_X9_303 vm_X4_read rfl rfl (Nat.le_of_ble_eq_true rfl) (fun y7 μ6 => ?_)
    refine sm_l2i (pc := 37) dX9_comesFrom_37 ?_
    refine sm_nmI (fun y8 => ?_)
    refine sm_istore (pc := 38) (lv' := [(4, .int y8), (3, .int y5), (0, .ref (am_ad G 0 0)), (1, .int a1), (2, .int a2)]) dX9_comesFrom_38 (by decide) rfl ?_
    refine sm_aload_n (pc := 40) dX9_comesFrom_40 rfl 2 rfl ?_
    refine sm_getr (pc := 41) dX9_comesFrom_41 fi_X9_74 ?_
    refine sm_iload_n (pc := 44) dX9_comesFrom_44 rfl 3 rfl ?_
    refine sm_iload_n (pc := 45) dX9_comesFrom_45 rfl 4 rfl ?_
    refine sm_iconst (pc := 46) dX9_comesFrom_46 (v := 2) (by decide) ?_
    refine sm_iadd (pc := 47) dX9_comesFrom_47 ?_
    refine sm_callVl (pc := 48) (As := [.int a1, .int (a2 + (2 : Int32))]) (rest := []) dX9_comesFrom_48 (c_X4_read G l N a1 (a2 + (2 : Int32)) μ6) (by omega) wl_X9_303 vm_X4_read rfl rfl (Nat.le_of_ble_eq_true rfl) (fun y10 μ9 => ?_)
    refine sm_l2i (pc := 51) dX9_comesFrom_51 ?_
    refine sm_nmI (fun y11 => ?_)
    refine sm_istore (pc := 52) (lv' := [(5, .int y11), (4, .int y8), (3, .int y5), (0, .ref (am_ad G 0 0)), (1, .int a1), (2, .int a2)]) dX9_comesFrom_52 (by decide) rfl ?_
    refine sm_aload_n (pc := 54) dX9_comesFrom_54 rfl 3 rfl ?_
    refine sm_getr (pc := 55) dX9_comesFrom_55 fi_X9_74 ?_
    refine sm_iload_n (pc := 58) dX9_comesFrom_58 rfl 4 rfl ?_
    refine sm_iload_n (pc := 59) dX9_comesFrom_59 rfl 5 rfl ?_
    refine sm_iconst (pc := 60) dX9_comesFrom_60 (v := 3) (by decide) ?_
    refine sm_iadd (pc := 61) dX9_comesFrom_61 ?_
    refine sm_callVl (pc := 62) (As := [.int a1, .int (a2 + (3 : Int32))]) (rest := []) dX9_comesFrom_62 (c_X4_read G l N a1 (a2 + (3 : Int32)) μ9) (by omega) wl_X9_303 vm_X4_read rfl rfl (Nat.le_of_ble_eq_true rfl) (fun y13 μ12 => ?_)
    refine sm_l2i (pc := 65) dX9_comesFrom_65 ?_
    refine sm_nmI (fun y14 => ?_)
    refine sm_istore (pc := 66) (lv' := [(6, .int y14), (5, .int y11), (4, .int y8), (3, .int y5), (0, .ref (am_ad G 0 0)), (1, .int a1), (2, .int a2)]) dX9_comesFrom_66 (by decide) rfl ?_
    refine sm_iload_n (pc := 68) dX9_comesFrom_68 rfl 3 rfl ?_
    refine sm_iconst (pc := 69) dX9_comesFrom_69 (v := 0) (by decide) ?_
    refine sm_sipush (pc := 70) dX9_comesFrom_70 (v := 999) (by decide) ?_
    refine sm_callSi (pc := 73) (As := [.int y5, .int (0 : Int32), .int (999 : Int32)]) (rest := []) dX9_comesFrom_73 (c_X9_isWithin G l N y5 (0 : Int32) (999 : Int32) μ12) (by omega) wl_X9_78 st_X9_isWithin rfl rfl (Nat.le_of_ble_eq_true rfl) (fun y16 μ15 => ?_)
    refine sm_if_eq (pc := 76) (tgt := 116) dX9_comesFrom_76 (by decide) ?_ ?_
    · refine sm_sub [4, 3, 2, 1, 0] rfl ?_
      exact p_X9_comesFrom_116 G l d hd0 N y5 y8 y11 y14 μ15
    · refine sm_iload (pc := 79) dX9_comesFrom_79 2 rfl ?_
      refine sm_iconst (pc := 81) dX9_comesFrom_81 (v := 0) (by decide) ?_
      refine sm_bipush (pc := 82) dX9_comesFrom_82 (v := 99) (by decide) ?_
      refine sm_callSi (pc := 84) (As := [.int y8, .int (0 : Int32), .int (99 : Int32)]) (rest := []) dX9_comesFrom_84 (c_X9_isWithin G l N y8 (0 : Int32) (99 : Int32) μ15) (by omega) wl_X9_78 st_X9_isWithin rfl rfl (Nat.le_of_ble_eq_true rfl) (fun y20 μ19 => ?_)
      refine sm_if_eq (pc := 87) (tgt := 116) dX9_comesFrom_87 (by decide) ?_ ?_
      · refine sm_sub [4, 3, 2, 1, 0] rfl ?_
        exact p_X9_comesFrom_116 G l d hd0 N y5 y8 y11 y14 μ19
      · refine sm_iload (pc := 90) dX9_comesFrom_90 1 rfl ?_
        refine sm_iconst (pc := 92) dX9_comesFrom_92 (v := 0) (by decide) ?_
        refine sm_bipush (pc := 93) dX9_comesFrom_93 (v := 99) (by decide) ?_
        refine sm_callSi (pc := 95) (As := [.int y11, .int (0 : Int32), .int (99 : Int32)]) (rest := []) dX9_comesFrom_95 (c_X9_isWithin G l N y11 (0 : Int32) (99 : Int32) μ19) (by omega) wl_X9_78 st_X9_isWithin rfl rfl (Nat.le_of_ble_eq_true rfl) (fun y22 μ21 => ?_)
        refine sm_if_eq (pc := 98) (tgt := 116) dX9_comesFrom_98 (by decide) ?_ ?_
        · refine sm_sub [4, 3, 2, 1, 0] rfl ?_
          exact p_X9_comesFrom_116 G l d hd0 N y5 y8 y11 y14 μ21
        · refine sm_iload (pc := 101) dX9_comesFrom_101 0 rfl ?_
          refine sm_iconst (pc := 103) dX9_comesFrom_103 (v := 0) (by decide) ?_
          refine sm_bipush (pc := 104) dX9_comesFrom_104 (v := 99) (by decide) ?_
          refine sm_callSi (pc := 106) (As := [.int y14, .int (0 : Int32), .int (99 : Int32)]) (rest := []) dX9_comesFrom_106 (c_X9_isWithin G l N y14 (0 : Int32) (99 : Int32) μ21) (by omega) wl_X9_78 st_X9_isWithin rfl rfl (Nat.le_of_ble_eq_true rfl) (fun y24 μ23 => ?_)
          refine sm_if_eq (pc := 109) (tgt := 116) dX9_comesFrom_109 (by decide) ?_ ?_
          · refine sm_sub [4, 3, 2, 1, 0] rfl ?_
            exact p_X9_comesFrom_116 G l d hd0 N y5 y8 y11 y14 μ23
          · refine sm_iconst (pc := 112) dX9_comesFrom_112 (v := 1) (by decide) ?_
            refine sm_goto (pc := 113) (tgt := 117) dX9_comesFrom_113 (by decide) ?_
            refine sm_sub [4, 3, 2, 1, 0] rfl ?_
            exact p_X9_comesFrom_117 G l d hd0 N y5 y8 y11 y14 (1 : Int32) μ23
  · refine sm_iconst (pc := 13) dX9_comesFrom_13 (v := 0) (by decide) ?_
    exact sm_zret (pc := 14) dX9_comesFrom_14 rfl
theorem c_X9_comesFrom (G : am_G) (l : Launch) (N : Nat) (a1 : Int32) (a2 : Int32) (μ : am_M) : ct_P G l am_ci 3 me_X9_comesFrom [.ref (am_ad G 0 0), .int a1, .int a2] μ (f_X9_comesFrom N a1 a2 μ) := ct_of (by decide +kernel) (Nat.le_of_ble_eq_true rfl) rfl (p_X9_comesFrom_0 G l 3 (Nat.le_refl _) N a1 a2 μ)

def f_X9_things_53 (N : Nat) (r_53 : Int32 → Int32 → Int32 → Int32 → am_M → Option (Int32 × am_M)) (x1 : Int32) (x2 : Int32) (x3 : Int32) (x5 : Int32) (μ : am_M) : Option (Int32 × am_M) :=
if x3 ≤ x5 then (some (x5, μ)) else (am_bd (f_X9_comesFrom N x1 (x2 + ((4 : Int32) * x5)) μ) (fun y8 μ7 => if y8 = 0 then (some (x5, μ7)) else (r_53 x1 x2 x3 (x5 + (1 : Int32)) μ7)))
def f_X9_things_53_lp (N : Nat) : Nat → Int32 → Int32 → Int32 → Int32 → am_M → Option (Int32 × am_M)
  | 0, _, _, _, _, _ => none
  | n + 1, x1, x2, x3, x5, μ => f_X9_things_53 N (f_X9_things_53_lp N n) x1 x2 x3 x5 μ
def f_X9_things_0 (N : Nat) (a1 : Int32) (a2 : Int32) (a3 : Int32) (μ : am_M) : Option (Int32 × am_M) :=
am_bd (f_X4_isShelf N a1 μ) (fun y2 μ1 => if y2 = 0 then (some ((-1 : Int32), μ1)) else (am_bd (f_X9_isWithin N a3 (1 : Int32) (6 : Int32) μ1) (fun y4 μ3 => if y4 = 0 then (some ((-1 : Int32), μ3)) else (am_bd (f_X4_heldOn N a1 μ3) (fun y6 μ5 => if y6 = (-1 : Int32) then (some ((0 : Int32), μ5)) else (if y6 = (1 : Int32) then (f_X9_things_53_lp N N a1 a2 a3 (0 : Int32) μ5) else (some ((-12 : Int32), μ5))))))))
def f_X9_things (N : Nat) (a1 : Int32) (a2 : Int32) (a3 : Int32) (μ : am_M) : Option (Int32 × am_M) := f_X9_things_0 N a1 a2 a3 μ
set_option maxHeartbeats 4000000 in
set_option maxRecDepth 100000 in
theorem p_X9_things_53 (G : am_G) (l : Launch) (d : Nat) (hd0 : 4 ≤ d) (N : Nat) (r_53 : Int32 → Int32 → Int32 → Int32 → am_M → Option (Int32 × am_M)) (H_53 : ∀ (x1 : Int32) (x2 : Int32) (x3 : Int32) (x5 : Int32) (μ : am_M), sm_P G l am_ci d me_X9_things 53 [(0, .ref (am_ad G 0 0)), (1, .int x1), (2, .int x2), (3, .int x3), (5, .int x5)] [] μ (r_53 x1 x2 x3 x5 μ)) (x1 : Int32) (x2 : Int32) (x3 : Int32) (x5 : Int32) (μ : am_M) : sm_P G l am_ci d me_X9_things 53 [(0, .ref (am_ad G 0 0)), (1, .int x1), (2, .int x2), (3, .int x3), (5, .int x5)] [] μ (f_X9_things_53 N r_53 x1 x2 x3 x5 μ) := by
  unfold f_X9_things_53
  refine sm_iload (pc := 53) dX9_things_53 4 rfl ?_
  refine sm_iload_n (pc := 55) dX9_things_55 rfl 3 rfl ?_
  refine sm_icmp_ge (pc := 56) (tgt := 79) dX9_things_56 (by decide) ?_ ?_
  · refine sm_iload (pc := 79) dX9_things_79 4 rfl ?_
    exact sm_iret (pc := 81) dX9_things_81 rfl
  · refine sm_aload_n (pc := 59) dX9_things_59 rfl 0 rfl ?_
    refine sm_iload_n (pc := 60) dX9_things_60 rfl 1 rfl ?_
    refine sm_iload_n (pc := 61) dX9_things_61 rfl 2 rfl ?_
    refine sm_iconst (pc := 62) dX9_things_62 (v := 4) (by decide) ?_
    refine sm_iload (pc := 63) dX9_things_63 4 rfl ?_
    refine sm_imul (pc := 65) dX9_things_65 ?_
    refine sm_iadd (pc := 66) dX9_things_66 ?_
    refine sm_callVi (pc := 67) (As := [.int x1, .int (x2 + ((4 : Int32) * x5))]) (rest := []) dX9_things_67 (c_X9_comesFrom G l N x1 (x2 + ((4 : Int32) * x5)) μ) (by omega) wl_X9_94 vm_X9_comesFrom rfl rfl (Nat.le_of_ble_eq_true rfl) (fun y8 μ7 => ?_)
    refine sm_if_eq (pc := 70) (tgt := 79) dX9_things_70 (by decide) ?_ ?_
    · refine sm_iload (pc := 79) dX9_things_79 4 rfl ?_
      exact sm_iret (pc := 81) dX9_things_81 rfl
    · refine sm_iinc (pc := 73) (v := (x5 + (1 : Int32))) (lv' := [(5, .int (x5 + (1 : Int32))), (0, .ref (am_ad G 0 0)), (1, .int x1), (2, .int x2), (3, .int x3)]) dX9_things_73 4 rfl rfl (by decide) rfl ?_
      refine sm_goto (pc := 76) (tgt := 53) dX9_things_76 (by decide) ?_
      refine sm_sub [1, 2, 3, 4, 0] rfl ?_
      exact H_53 x1 x2 x3 (x5 + (1 : Int32)) μ7
theorem p_X9_things_53_lp (G : am_G) (l : Launch) (d : Nat) (hd0 : 4 ≤ d) (N : Nat) : ∀ (n : Nat) (x1 : Int32) (x2 : Int32) (x3 : Int32) (x5 : Int32) (μ : am_M), sm_P G l am_ci d me_X9_things 53 [(0, .ref (am_ad G 0 0)), (1, .int x1), (2, .int x2), (3, .int x3), (5, .int x5)] [] μ (f_X9_things_53_lp N n x1 x2 x3 x5 μ) := by
  intro n
  induction n with
  | zero => intros; exact sm_none
  | succ n ih => exact fun x1 x2 x3 x5 μ => p_X9_things_53 G l d hd0 N (f_X9_things_53_lp N n) ih x1 x2 x3 x5 μ
set_option maxHeartbeats 4000000 in
set_option maxRecDepth 100000 in
theorem p_X9_things_0 (G : am_G) (l : Launch) (d : Nat) (hd0 : 4 ≤ d) (N : Nat) (a1 : Int32) (a2 : Int32) (a3 : Int32) (μ : am_M) : sm_P G l am_ci d me_X9_things 0 [(0, .ref (am_ad G 0 0)), (1, .int a1), (2, .int a2), (3, .int a3)] [] μ (f_X9_things_0 N a1 a2 a3 μ) := by
  unfold f_X9_things_0
  refine sm_aload_n (pc := 0) dX9_things_0 rfl 0 rfl ?_
  refine sm_getr (pc := 1) dX9_things_1 fi_X9_74 ?_
  refine sm_iload_n (pc := 4) dX9_things_4 rfl 1 rfl ?_
  refine sm_callVi (pc := 5) (As := [.int a1]) (rest := []) dX9_things_5 (c_X4_isShelf G l N a1 μ) (by omega) wl_X9_86 vm_X4_isShelf rfl rfl (Nat.le_of_ble_eq_true rfl) (fun y2 μ1 => ?_)
  refine sm_if_eq (pc := 8) (tgt := 21) dX9_things_8 (by decide) ?_ ?_
  · refine sm_iconst (pc := 21) dX9_things_21 (v := -1) (by decide) ?_
    exact sm_iret (pc := 22) dX9_things_22 rfl
  · refine sm_iload_n (pc := 11) dX9_things_11 rfl 3 rfl ?_
    refine sm_iconst (pc := 12) dX9_things_12 (v := 1) (by decide) ?_
    refine sm_bipush (pc := 13) dX9_things_13 (v := 6) (by decide) ?_
    refine sm_callSi (pc := 15) (As := [.int a3, .int (1 : Int32), .int (6 : Int32)]) (rest := []) dX9_things_15 (c_X9_isWithin G l N a3 (1 : Int32) (6 : Int32) μ1) (by omega) wl_X9_78 st_X9_isWithin rfl rfl (Nat.le_of_ble_eq_true rfl) (fun y4 μ3 => ?_)
    refine sm_if_ne (pc := 18) (tgt := 23) dX9_things_18 (by decide) ?_ ?_
    · refine sm_aload_n (pc := 23) dX9_things_23 rfl 0 rfl ?_
      refine sm_getr (pc := 24) dX9_things_24 fi_X9_74 ?_
      refine sm_iload_n (pc := 27) dX9_things_27 rfl 1 rfl ?_
      refine sm_callVi (pc := 28) (As := [.int a1]) (rest := []) dX9_things_28 (c_X4_heldOn G l N a1 μ3) (by omega) wl_X9_90 vm_X4_heldOn rfl rfl (Nat.le_of_ble_eq_true rfl) (fun y6 μ5 => ?_)
      refine sm_istore (pc := 31) (lv' := [(4, .int y6), (0, .ref (am_ad G 0 0)), (1, .int a1), (2, .int a2), (3, .int a3)]) dX9_things_31 (by decide) rfl ?_
      refine sm_iload (pc := 33) dX9_things_33 0 rfl ?_
      refine sm_iconst (pc := 35) dX9_things_35 (v := -1) (by decide) ?_
      refine sm_icmp_ne (pc := 36) (tgt := 41) dX9_things_36 (by decide) ?_ ?_
      · refine sm_iload (pc := 41) dX9_things_41 0 rfl ?_
        refine sm_iconst (pc := 43) dX9_things_43 (v := 1) (by decide) ?_
        refine sm_icmp_eq (pc := 44) (tgt := 50) dX9_things_44 (by decide) ?_ ?_
        · refine sm_iconst (pc := 50) dX9_things_50 (v := 0) (by decide) ?_
          refine sm_istore (pc := 51) (lv' := [(5, .int (0 : Int32)), (4, .int y6), (0, .ref (am_ad G 0 0)), (1, .int a1), (2, .int a2), (3, .int a3)]) dX9_things_51 (by decide) rfl ?_
          refine sm_sub [2, 3, 4, 5, 0] rfl ?_
          exact p_X9_things_53_lp G l d hd0 N N a1 a2 a3 (0 : Int32) μ5
        · refine sm_bipush (pc := 47) dX9_things_47 (v := -12) (by decide) ?_
          exact sm_iret (pc := 49) dX9_things_49 rfl
      · refine sm_iconst (pc := 39) dX9_things_39 (v := 0) (by decide) ?_
        exact sm_iret (pc := 40) dX9_things_40 rfl
    · refine sm_iconst (pc := 21) dX9_things_21 (v := -1) (by decide) ?_
      exact sm_iret (pc := 22) dX9_things_22 rfl
theorem c_X9_things (G : am_G) (l : Launch) (N : Nat) (a1 : Int32) (a2 : Int32) (a3 : Int32) (μ : am_M) : ct_P G l am_ci 4 me_X9_things [.ref (am_ad G 0 0), .int a1, .int a2, .int a3] μ (f_X9_things N a1 a2 a3 μ) := ct_of (by decide +kernel) (Nat.le_of_ble_eq_true rfl) rfl (p_X9_things_0 G l 4 (Nat.le_refl _) N a1 a2 a3 μ)

def f_X9_mend_34 (N : Nat) (x1 : Int32) (x2 : Int32) (x3 : Int32) (s0 : Int32) (s1 : Int32) (s2 : Int32) (μ : am_M) : Option (Int32 × am_M) :=
am_bd (f_X9_isWithin N s2 s1 s0 μ) (fun y6 μ5 => if y6 = 0 then (some ((-1 : Int32), μ5)) else (am_bd (f_X1_change N ((0 : Int32) + x2) x1 x3 μ5) (fun y8 μ7 => some (y8, μ7))))
def f_X9_mend_0 (N : Nat) (a1 : Int32) (a2 : Int32) (a3 : Int32) (μ : am_M) : Option (Int32 × am_M) :=
am_bd (f_X5_hasThing N a1 μ) (fun y2 μ1 => if y2 = 0 then (some ((-1 : Int32), μ1)) else (am_bd (f_X9_isWithin N a2 (0 : Int32) (2 : Int32) μ1) (fun y4 μ3 => if y4 = 0 then (some ((-1 : Int32), μ3)) else (if a2 = 0 then (f_X9_mend_34 N a1 a2 a3 (999 : Int32) (0 : Int32) a3 μ3) else (f_X9_mend_34 N a1 a2 a3 (99 : Int32) (0 : Int32) a3 μ3)))))
def f_X9_mend (N : Nat) (a1 : Int32) (a2 : Int32) (a3 : Int32) (μ : am_M) : Option (Int32 × am_M) := f_X9_mend_0 N a1 a2 a3 μ
set_option maxHeartbeats 4000000 in
set_option maxRecDepth 100000 in
theorem p_X9_mend_34 (G : am_G) (l : Launch) (d : Nat) (hd0 : 3 ≤ d) (N : Nat) (x1 : Int32) (x2 : Int32) (x3 : Int32) (s0 : Int32) (s1 : Int32) (s2 : Int32) (μ : am_M) : sm_P G l am_ci d me_X9_mend 34 [(0, .ref (am_ad G 0 0)), (1, .int x1), (2, .int x2), (3, .int x3)] [.int s0, .int s1, .int s2] μ (f_X9_mend_34 N x1 x2 x3 s0 s1 s2 μ) := by
  unfold f_X9_mend_34
  refine sm_callSi (pc := 34) (As := [.int s2, .int s1, .int s0]) (rest := []) dX9_mend_34 (c_X9_isWithin G l N s2 s1 s0 μ) (by omega) wl_X9_78 st_X9_isWithin rfl rfl (Nat.le_of_ble_eq_true rfl) (fun y6 μ5 => ?_)
  refine sm_if_ne (pc := 37) (tgt := 42) dX9_mend_37 (by decide) ?_ ?_
  · refine sm_aload_n (pc := 42) dX9_mend_42 rfl 0 rfl ?_
    refine sm_getr (pc := 43) dX9_mend_43 fi_X9_21 ?_
    refine sm_iconst (pc := 46) dX9_mend_46 (v := 0) (by decide) ?_
    refine sm_iload_n (pc := 47) dX9_mend_47 rfl 2 rfl ?_
    refine sm_iadd (pc := 48) dX9_mend_48 ?_
    refine sm_iload_n (pc := 49) dX9_mend_49 rfl 1 rfl ?_
    refine sm_iload_n (pc := 50) dX9_mend_50 rfl 3 rfl ?_
    refine sm_callVi (pc := 51) (As := [.int ((0 : Int32) + x2), .int x1, .int x3]) (rest := []) dX9_mend_51 (c_X1_change G l N ((0 : Int32) + x2) x1 x3 μ5) (by omega) wl_X9_101 vm_X1_change rfl rfl (Nat.le_of_ble_eq_true rfl) (fun y8 μ7 => ?_)
    exact sm_iret (pc := 54) dX9_mend_54 rfl
  · refine sm_iconst (pc := 40) dX9_mend_40 (v := -1) (by decide) ?_
    exact sm_iret (pc := 41) dX9_mend_41 rfl
set_option maxHeartbeats 4000000 in
set_option maxRecDepth 100000 in
theorem p_X9_mend_0 (G : am_G) (l : Launch) (d : Nat) (hd0 : 3 ≤ d) (N : Nat) (a1 : Int32) (a2 : Int32) (a3 : Int32) (μ : am_M) : sm_P G l am_ci d me_X9_mend 0 [(0, .ref (am_ad G 0 0)), (1, .int a1), (2, .int a2), (3, .int a3)] [] μ (f_X9_mend_0 N a1 a2 a3 μ) := by
  unfold f_X9_mend_0
  refine sm_aload_n (pc := 0) dX9_mend_0 rfl 0 rfl ?_
  refine sm_getr (pc := 1) dX9_mend_1 fi_X9_12 ?_
  refine sm_iload_n (pc := 4) dX9_mend_4 rfl 1 rfl ?_
  refine sm_callVi (pc := 5) (As := [.int a1]) (rest := []) dX9_mend_5 (c_X5_hasThing G l N a1 μ) (by omega) wl_X9_98 vm_X5_hasThing rfl rfl (Nat.le_of_ble_eq_true rfl) (fun y2 μ1 => ?_)
  refine sm_if_eq (pc := 8) (tgt := 40) dX9_mend_8 (by decide) ?_ ?_
  · refine sm_iconst (pc := 40) dX9_mend_40 (v := -1) (by decide) ?_
    exact sm_iret (pc := 41) dX9_mend_41 rfl
  · refine sm_iload_n (pc := 11) dX9_mend_11 rfl 2 rfl ?_
    refine sm_iconst (pc := 12) dX9_mend_12 (v := 0) (by decide) ?_
    refine sm_iconst (pc := 13) dX9_mend_13 (v := 2) (by decide) ?_
    refine sm_callSi (pc := 14) (As := [.int a2, .int (0 : Int32), .int (2 : Int32)]) (rest := []) dX9_mend_14 (c_X9_isWithin G l N a2 (0 : Int32) (2 : Int32) μ1) (by omega) wl_X9_78 st_X9_isWithin rfl rfl (Nat.le_of_ble_eq_true rfl) (fun y4 μ3 => ?_)
    refine sm_if_eq (pc := 17) (tgt := 40) dX9_mend_17 (by decide) ?_ ?_
    · refine sm_iconst (pc := 40) dX9_mend_40 (v := -1) (by decide) ?_
      exact sm_iret (pc := 41) dX9_mend_41 rfl
    · refine sm_iload_n (pc := 20) dX9_mend_20 rfl 3 rfl ?_
      refine sm_iconst (pc := 21) dX9_mend_21 (v := 0) (by decide) ?_
      refine sm_iload_n (pc := 22) dX9_mend_22 rfl 2 rfl ?_
      refine sm_if_ne (pc := 23) (tgt := 32) dX9_mend_23 (by decide) ?_ ?_
      · refine sm_bipush (pc := 32) dX9_mend_32 (v := 99) (by decide) ?_
        exact p_X9_mend_34 G l d hd0 N a1 a2 a3 (99 : Int32) (0 : Int32) a3 μ3
      · refine sm_sipush (pc := 26) dX9_mend_26 (v := 999) (by decide) ?_
        refine sm_goto (pc := 29) (tgt := 34) dX9_mend_29 (by decide) ?_
        exact p_X9_mend_34 G l d hd0 N a1 a2 a3 (999 : Int32) (0 : Int32) a3 μ3
theorem c_X9_mend (G : am_G) (l : Launch) (N : Nat) (a1 : Int32) (a2 : Int32) (a3 : Int32) (μ : am_M) : ct_P G l am_ci 3 me_X9_mend [.ref (am_ad G 0 0), .int a1, .int a2, .int a3] μ (f_X9_mend N a1 a2 a3 μ) := ct_of (by decide +kernel) (Nat.le_of_ble_eq_true rfl) rfl (p_X9_mend_0 G l 3 (Nat.le_refl _) N a1 a2 a3 μ)

def f_X9_sort_0 (N : Nat) (a1 : Int32) (a2 : Int32) (a3 : Int32) (μ : am_M) : Option (Int32 × am_M) :=
am_bd (f_X9_isWithin N a1 (1 : Int32) (99 : Int32) μ) (fun y2 μ1 => if y2 = 0 then (some ((-1 : Int32), μ1)) else (am_bd (f_X9_isWithin N a2 (0 : Int32) (9999 : Int32) μ1) (fun y4 μ3 => if y4 = 0 then (some ((-1 : Int32), μ3)) else (am_bd (f_X9_isWithin N a3 (0 : Int32) (39 : Int32) μ3) (fun y6 μ5 => if y6 = 0 then (some ((-1 : Int32), μ5)) else (am_bd (f_X8_known N μ5) (fun y8 μ7 => if (am_rem a3 (10 : Int32)) < y8 then (am_bd (f_X5_addSort N a1 a2 a3 μ7) (fun y10 μ9 => some (y10, μ9))) else (some ((-1 : Int32), μ7)))))))))
def f_X9_sort (N : Nat) (a1 : Int32) (a2 : Int32) (a3 : Int32) (μ : am_M) : Option (Int32 × am_M) := f_X9_sort_0 N a1 a2 a3 μ
set_option maxHeartbeats 4000000 in
set_option maxRecDepth 100000 in
theorem p_X9_sort_0 (G : am_G) (l : Launch) (d : Nat) (hd0 : 3 ≤ d) (N : Nat) (a1 : Int32) (a2 : Int32) (a3 : Int32) (μ : am_M) : sm_P G l am_ci d me_X9_sort 0 [(0, .ref (am_ad G 0 0)), (1, .int a1), (2, .int a2), (3, .int a3)] [] μ (f_X9_sort_0 N a1 a2 a3 μ) := by
  unfold f_X9_sort_0
  refine sm_iload_n (pc := 0) dX9_sort_0 rfl 1 rfl ?_
  refine sm_iconst (pc := 1) dX9_sort_1 (v := 1) (by decide) ?_
  refine sm_bipush (pc := 2) dX9_sort_2 (v := 99) (by decide) ?_
  refine sm_callSi (pc := 4) (As := [.int a1, .int (1 : Int32), .int (99 : Int32)]) (rest := []) dX9_sort_4 (c_X9_isWithin G l N a1 (1 : Int32) (99 : Int32) μ) (by omega) wl_X9_78 st_X9_isWithin rfl rfl (Nat.le_of_ble_eq_true rfl) (fun y2 μ1 => ?_)
  refine sm_if_eq (pc := 7) (tgt := 31) dX9_sort_7 (by decide) ?_ ?_
  · refine sm_iconst (pc := 31) dX9_sort_31 (v := -1) (by decide) ?_
    exact sm_iret (pc := 32) dX9_sort_32 rfl
  · refine sm_iload_n (pc := 10) dX9_sort_10 rfl 2 rfl ?_
    refine sm_iconst (pc := 11) dX9_sort_11 (v := 0) (by decide) ?_
    refine sm_sipush (pc := 12) dX9_sort_12 (v := 9999) (by decide) ?_
    refine sm_callSi (pc := 15) (As := [.int a2, .int (0 : Int32), .int (9999 : Int32)]) (rest := []) dX9_sort_15 (c_X9_isWithin G l N a2 (0 : Int32) (9999 : Int32) μ1) (by omega) wl_X9_78 st_X9_isWithin rfl rfl (Nat.le_of_ble_eq_true rfl) (fun y4 μ3 => ?_)
    refine sm_if_eq (pc := 18) (tgt := 31) dX9_sort_18 (by decide) ?_ ?_
    · refine sm_iconst (pc := 31) dX9_sort_31 (v := -1) (by decide) ?_
      exact sm_iret (pc := 32) dX9_sort_32 rfl
    · refine sm_iload_n (pc := 21) dX9_sort_21 rfl 3 rfl ?_
      refine sm_iconst (pc := 22) dX9_sort_22 (v := 0) (by decide) ?_
      refine sm_bipush (pc := 23) dX9_sort_23 (v := 39) (by decide) ?_
      refine sm_callSi (pc := 25) (As := [.int a3, .int (0 : Int32), .int (39 : Int32)]) (rest := []) dX9_sort_25 (c_X9_isWithin G l N a3 (0 : Int32) (39 : Int32) μ3) (by omega) wl_X9_78 st_X9_isWithin rfl rfl (Nat.le_of_ble_eq_true rfl) (fun y6 μ5 => ?_)
      refine sm_if_ne (pc := 28) (tgt := 33) dX9_sort_28 (by decide) ?_ ?_
      · refine sm_iload_n (pc := 33) dX9_sort_33 rfl 3 rfl ?_
        refine sm_bipush (pc := 34) dX9_sort_34 (v := 10) (by decide) ?_
        refine sm_iremc (pc := 36) dX9_sort_36 (by decide) ?_
        refine sm_aload_n (pc := 37) dX9_sort_37 rfl 0 rfl ?_
        refine sm_getr (pc := 38) dX9_sort_38 fi_X9_35 ?_
        refine sm_callVi (pc := 41) (As := []) (rest := [.int (am_rem a3 (10 : Int32))]) dX9_sort_41 (c_X8_known G l N μ5) (by omega) wl_X9_105 vm_X8_known rfl rfl (Nat.le_of_ble_eq_true rfl) (fun y8 μ7 => ?_)
        refine sm_icmp_lt (pc := 44) (tgt := 49) dX9_sort_44 (by decide) ?_ ?_
        · refine sm_aload_n (pc := 49) dX9_sort_49 rfl 0 rfl ?_
          refine sm_getr (pc := 50) dX9_sort_50 fi_X9_12 ?_
          refine sm_iload_n (pc := 53) dX9_sort_53 rfl 1 rfl ?_
          refine sm_iload_n (pc := 54) dX9_sort_54 rfl 2 rfl ?_
          refine sm_iload_n (pc := 55) dX9_sort_55 rfl 3 rfl ?_
          refine sm_callVi (pc := 56) (As := [.int a1, .int a2, .int a3]) (rest := []) dX9_sort_56 (c_X5_addSort G l N a1 a2 a3 μ7) (by omega) wl_X9_109 vm_X5_addSort rfl rfl (Nat.le_of_ble_eq_true rfl) (fun y10 μ9 => ?_)
          exact sm_iret (pc := 59) dX9_sort_59 rfl
        · refine sm_iconst (pc := 47) dX9_sort_47 (v := -1) (by decide) ?_
          exact sm_iret (pc := 48) dX9_sort_48 rfl
      · refine sm_iconst (pc := 31) dX9_sort_31 (v := -1) (by decide) ?_
        exact sm_iret (pc := 32) dX9_sort_32 rfl
theorem c_X9_sort (G : am_G) (l : Launch) (N : Nat) (a1 : Int32) (a2 : Int32) (a3 : Int32) (μ : am_M) : ct_P G l am_ci 3 me_X9_sort [.ref (am_ad G 0 0), .int a1, .int a2, .int a3] μ (f_X9_sort N a1 a2 a3 μ) := ct_of (by decide +kernel) (Nat.le_of_ble_eq_true rfl) rfl (p_X9_sort_0 G l 3 (Nat.le_refl _) N a1 a2 a3 μ)

def f_X9_purse_0 (N : Nat) (a1 : Int32) (a2 : Int32) (a3 : Int32) (μ : am_M) : Option (Int32 × am_M) :=
am_bd (f_X5_hasSort N a1 μ) (fun y2 μ1 => if y2 = 0 then (some ((-1 : Int32), μ1)) else (am_bd (f_X9_isWithin N a2 (0 : Int32) (1 : Int32) μ1) (fun y4 μ3 => if y4 = 0 then (some ((-1 : Int32), μ3)) else (am_bd (f_X9_isWithin N a3 (0 : Int32) (99 : Int32) μ3) (fun y6 μ5 => if y6 = 0 then (some ((-1 : Int32), μ5)) else (am_bd (f_X1_change N ((5 : Int32) + a2) a1 a3 μ5) (fun y8 μ7 => some (y8, μ7))))))))
def f_X9_purse (N : Nat) (a1 : Int32) (a2 : Int32) (a3 : Int32) (μ : am_M) : Option (Int32 × am_M) := f_X9_purse_0 N a1 a2 a3 μ
set_option maxHeartbeats 4000000 in
set_option maxRecDepth 100000 in
theorem p_X9_purse_0 (G : am_G) (l : Launch) (d : Nat) (hd0 : 3 ≤ d) (N : Nat) (a1 : Int32) (a2 : Int32) (a3 : Int32) (μ : am_M) : sm_P G l am_ci d me_X9_purse 0 [(0, .ref (am_ad G 0 0)), (1, .int a1), (2, .int a2), (3, .int a3)] [] μ (f_X9_purse_0 N a1 a2 a3 μ) := by
  unfold f_X9_purse_0
  refine sm_aload_n (pc := 0) dX9_purse_0 rfl 0 rfl ?_
  refine sm_getr (pc := 1) dX9_purse_1 fi_X9_12 ?_
  refine sm_iload_n (pc := 4) dX9_purse_4 rfl 1 rfl ?_
  refine sm_callVi (pc := 5) (As := [.int a1]) (rest := []) dX9_purse_5 (c_X5_hasSort G l N a1 μ) (by omega) wl_X9_112 vm_X5_hasSort rfl rfl (Nat.le_of_ble_eq_true rfl) (fun y2 μ1 => ?_)
  refine sm_if_eq (pc := 8) (tgt := 30) dX9_purse_8 (by decide) ?_ ?_
  · refine sm_iconst (pc := 30) dX9_purse_30 (v := -1) (by decide) ?_
    exact sm_iret (pc := 31) dX9_purse_31 rfl
  · refine sm_iload_n (pc := 11) dX9_purse_11 rfl 2 rfl ?_
    refine sm_iconst (pc := 12) dX9_purse_12 (v := 0) (by decide) ?_
    refine sm_iconst (pc := 13) dX9_purse_13 (v := 1) (by decide) ?_
    refine sm_callSi (pc := 14) (As := [.int a2, .int (0 : Int32), .int (1 : Int32)]) (rest := []) dX9_purse_14 (c_X9_isWithin G l N a2 (0 : Int32) (1 : Int32) μ1) (by omega) wl_X9_78 st_X9_isWithin rfl rfl (Nat.le_of_ble_eq_true rfl) (fun y4 μ3 => ?_)
    refine sm_if_eq (pc := 17) (tgt := 30) dX9_purse_17 (by decide) ?_ ?_
    · refine sm_iconst (pc := 30) dX9_purse_30 (v := -1) (by decide) ?_
      exact sm_iret (pc := 31) dX9_purse_31 rfl
    · refine sm_iload_n (pc := 20) dX9_purse_20 rfl 3 rfl ?_
      refine sm_iconst (pc := 21) dX9_purse_21 (v := 0) (by decide) ?_
      refine sm_bipush (pc := 22) dX9_purse_22 (v := 99) (by decide) ?_
      refine sm_callSi (pc := 24) (As := [.int a3, .int (0 : Int32), .int (99 : Int32)]) (rest := []) dX9_purse_24 (c_X9_isWithin G l N a3 (0 : Int32) (99 : Int32) μ3) (by omega) wl_X9_78 st_X9_isWithin rfl rfl (Nat.le_of_ble_eq_true rfl) (fun y6 μ5 => ?_)
      refine sm_if_ne (pc := 27) (tgt := 32) dX9_purse_27 (by decide) ?_ ?_
      · refine sm_aload_n (pc := 32) dX9_purse_32 rfl 0 rfl ?_
        refine sm_getr (pc := 33) dX9_purse_33 fi_X9_21 ?_
        refine sm_iconst (pc := 36) dX9_purse_36 (v := 5) (by decide) ?_
        refine sm_iload_n (pc := 37) dX9_purse_37 rfl 2 rfl ?_
        refine sm_iadd (pc := 38) dX9_purse_38 ?_
        refine sm_iload_n (pc := 39) dX9_purse_39 rfl 1 rfl ?_
        refine sm_iload_n (pc := 40) dX9_purse_40 rfl 3 rfl ?_
        refine sm_callVi (pc := 41) (As := [.int ((5 : Int32) + a2), .int a1, .int a3]) (rest := []) dX9_purse_41 (c_X1_change G l N ((5 : Int32) + a2) a1 a3 μ5) (by omega) wl_X9_101 vm_X1_change rfl rfl (Nat.le_of_ble_eq_true rfl) (fun y8 μ7 => ?_)
        exact sm_iret (pc := 44) dX9_purse_44 rfl
      · refine sm_iconst (pc := 30) dX9_purse_30 (v := -1) (by decide) ?_
        exact sm_iret (pc := 31) dX9_purse_31 rfl
theorem c_X9_purse (G : am_G) (l : Launch) (N : Nat) (a1 : Int32) (a2 : Int32) (a3 : Int32) (μ : am_M) : ct_P G l am_ci 3 me_X9_purse [.ref (am_ad G 0 0), .int a1, .int a2, .int a3] μ (f_X9_purse N a1 a2 a3 μ) := ct_of (by decide +kernel) (Nat.le_of_ble_eq_true rfl) rfl (p_X9_purse_0 G l 3 (Nat.le_refl _) N a1 a2 a3 μ)

def f_X9_of_0 (N : Nat) (a1 : Int32) (a2 : Int32) (μ : am_M) : Option (Int32 × am_M) :=
am_bd (f_X9_isWithin N a2 (0 : Int32) (3 : Int32) μ) (fun y2 μ1 => if y2 = 0 then (am_bd (f_X9_isWithin N a2 (10 : Int32) (14 : Int32) μ1) (fun y4 μ3 => if y4 = 0 then (some ((-1 : Int32), μ3)) else (am_bd (f_X5_hasSort N a1 μ3) (fun y6 μ5 => if y6 = 0 then (some ((-1 : Int32), μ5)) else (if a2 = (12 : Int32) then (am_bd (f_X5_pointsInAll N a1 μ5) (fun y10 μ9 => some (y10, μ9))) else (am_bd (f_X5_at N (((4 : Int32) + a2) - (10 : Int32)) a1 μ5) (fun y8 μ7 => some (y8, μ7)))))))) else (am_bd (f_X5_hasThing N a1 μ1) (fun y12 μ11 => if y12 = 0 then (some ((-1 : Int32), μ11)) else (am_bd (f_X5_at N ((0 : Int32) + a2) a1 μ11) (fun y14 μ13 => some (y14, μ13))))))
def f_X9_of (N : Nat) (a1 : Int32) (a2 : Int32) (μ : am_M) : Option (Int32 × am_M) := f_X9_of_0 N a1 a2 μ
set_option maxHeartbeats 4000000 in
set_option maxRecDepth 100000 in
theorem p_X9_of_0 (G : am_G) (l : Launch) (d : Nat) (hd0 : 3 ≤ d) (N : Nat) (a1 : Int32) (a2 : Int32) (μ : am_M) : sm_P G l am_ci d me_X9_of 0 [(0, .ref (am_ad G 0 0)), (1, .int a1), (2, .int a2)] [] μ (f_X9_of_0 N a1 a2 μ) := by
  unfold f_X9_of_0
  refine sm_iload_n (pc := 0) dX9_of_0 rfl 2 rfl ?_
  refine sm_iconst (pc := 1) dX9_of_1 (v := 0) (by decide) ?_
  refine sm_iconst (pc := 2) dX9_of_2 (v := 3) (by decide) ?_
  refine sm_callSi (pc := 3) (As := [.int a2, .int (0 : Int32), .int (3 : Int32)]) (rest := []) dX9_of_3 (c_X9_isWithin G l N a2 (0 : Int32) (3 : Int32) μ) (by omega) wl_X9_78 st_X9_isWithin rfl rfl (Nat.le_of_ble_eq_true rfl) (fun y2 μ1 => ?_)
  refine sm_if_eq (pc := 6) (tgt := 36) dX9_of_6 (by decide) ?_ ?_
  · refine sm_iload_n (pc := 36) dX9_of_36 rfl 2 rfl ?_
    refine sm_bipush (pc := 37) dX9_of_37 (v := 10) (by decide) ?_
    refine sm_bipush (pc := 39) dX9_of_39 (v := 14) (by decide) ?_
    refine sm_callSi (pc := 41) (As := [.int a2, .int (10 : Int32), .int (14 : Int32)]) (rest := []) dX9_of_41 (c_X9_isWithin G l N a2 (10 : Int32) (14 : Int32) μ1) (by omega) wl_X9_78 st_X9_isWithin rfl rfl (Nat.le_of_ble_eq_true rfl) (fun y4 μ3 => ?_)
    refine sm_if_eq (pc := 44) (tgt := 58) dX9_of_44 (by decide) ?_ ?_
    · refine sm_iconst (pc := 58) dX9_of_58 (v := -1) (by decide) ?_
      exact sm_iret (pc := 59) dX9_of_59 rfl
    · refine sm_aload_n (pc := 47) dX9_of_47 rfl 0 rfl ?_
      refine sm_getr (pc := 48) dX9_of_48 fi_X9_12 ?_
      refine sm_iload_n (pc := 51) dX9_of_51 rfl 1 rfl ?_
      refine sm_callVi (pc := 52) (As := [.int a1]) (rest := []) dX9_of_52 (c_X5_hasSort G l N a1 μ3) (by omega) wl_X9_112 vm_X5_hasSort rfl rfl (Nat.le_of_ble_eq_true rfl) (fun y6 μ5 => ?_)
      refine sm_if_ne (pc := 55) (tgt := 60) dX9_of_55 (by decide) ?_ ?_
      · refine sm_iload_n (pc := 60) dX9_of_60 rfl 2 rfl ?_
        refine sm_bipush (pc := 61) dX9_of_61 (v := 12) (by decide) ?_
        refine sm_icmp_ne (pc := 63) (tgt := 77) dX9_of_63 (by decide) ?_ ?_
        · refine sm_aload_n (pc := 77) dX9_of_77 rfl 0 rfl ?_
          refine sm_getr (pc := 78) dX9_of_78 fi_X9_12 ?_
          refine sm_iconst (pc := 81) dX9_of_81 (v := 4) (by decide) ?_
          refine sm_iload_n (pc := 82) dX9_of_82 rfl 2 rfl ?_
          refine sm_iadd (pc := 83) dX9_of_83 ?_
          refine sm_bipush (pc := 84) dX9_of_84 (v := 10) (by decide) ?_
          refine sm_isub (pc := 86) dX9_of_86 ?_
          refine sm_iload_n (pc := 87) dX9_of_87 rfl 1 rfl ?_
          refine sm_callVi (pc := 88) (As := [.int (((4 : Int32) + a2) - (10 : Int32)), .int a1]) (rest := []) dX9_of_88 (c_X5_at G l N (((4 : Int32) + a2) - (10 : Int32)) a1 μ5) (by omega) wl_X9_115 vm_X5_at rfl rfl (Nat.le_of_ble_eq_true rfl) (fun y8 μ7 => ?_)
          exact sm_iret (pc := 91) dX9_of_91 rfl
        · refine sm_aload_n (pc := 66) dX9_of_66 rfl 0 rfl ?_
          refine sm_getr (pc := 67) dX9_of_67 fi_X9_12 ?_
          refine sm_iload_n (pc := 70) dX9_of_70 rfl 1 rfl ?_
          refine sm_callVi (pc := 71) (As := [.int a1]) (rest := []) dX9_of_71 (c_X5_pointsInAll G l N a1 μ5) (by omega) wl_X9_119 vm_X5_pointsInAll rfl rfl (Nat.le_of_ble_eq_true rfl) (fun y10 μ9 => ?_)
          refine sm_goto (pc := 74) (tgt := 91) dX9_of_74 (by decide) ?_
          exact sm_iret (pc := 91) dX9_of_91 rfl
      · refine sm_iconst (pc := 58) dX9_of_58 (v := -1) (by decide) ?_
        exact sm_iret (pc := 59) dX9_of_59 rfl
  · refine sm_aload_n (pc := 9) dX9_of_9 rfl 0 rfl ?_
    refine sm_getr (pc := 10) dX9_of_10 fi_X9_12 ?_
    refine sm_iload_n (pc := 13) dX9_of_13 rfl 1 rfl ?_
    refine sm_callVi (pc := 14) (As := [.int a1]) (rest := []) dX9_of_14 (c_X5_hasThing G l N a1 μ1) (by omega) wl_X9_98 vm_X5_hasThing rfl rfl (Nat.le_of_ble_eq_true rfl) (fun y12 μ11 => ?_)
    refine sm_if_eq (pc := 17) (tgt := 34) dX9_of_17 (by decide) ?_ ?_
    · refine sm_iconst (pc := 34) dX9_of_34 (v := -1) (by decide) ?_
      exact sm_iret (pc := 35) dX9_of_35 rfl
    · refine sm_aload_n (pc := 20) dX9_of_20 rfl 0 rfl ?_
      refine sm_getr (pc := 21) dX9_of_21 fi_X9_12 ?_
      refine sm_iconst (pc := 24) dX9_of_24 (v := 0) (by decide) ?_
      refine sm_iload_n (pc := 25) dX9_of_25 rfl 2 rfl ?_
      refine sm_iadd (pc := 26) dX9_of_26 ?_
      refine sm_iload_n (pc := 27) dX9_of_27 rfl 1 rfl ?_
      refine sm_callVi (pc := 28) (As := [.int ((0 : Int32) + a2), .int a1]) (rest := []) dX9_of_28 (c_X5_at G l N ((0 : Int32) + a2) a1 μ11) (by omega) wl_X9_115 vm_X5_at rfl rfl (Nat.le_of_ble_eq_true rfl) (fun y14 μ13 => ?_)
      refine sm_goto (pc := 31) (tgt := 35) dX9_of_31 (by decide) ?_
      exact sm_iret (pc := 35) dX9_of_35 rfl
theorem c_X9_of (G : am_G) (l : Launch) (N : Nat) (a1 : Int32) (a2 : Int32) (μ : am_M) : ct_P G l am_ci 3 me_X9_of [.ref (am_ad G 0 0), .int a1, .int a2] μ (f_X9_of N a1 a2 μ) := ct_of (by decide +kernel) (Nat.le_of_ble_eq_true rfl) rfl (p_X9_of_0 G l 3 (Nat.le_refl _) N a1 a2 μ)

def f_X9_feed_0 (N : Nat) (a1 : Int32) (a2 : Int32) (μ : am_M) : Option (Int32 × am_M) :=
am_bd (f_X9_isWithin N a1 (1 : Int32) (4 : Int32) μ) (fun y2 μ1 => if y2 = 0 then (some ((-1 : Int32), μ1)) else (am_bd (f_X6_take N a1 a2 μ1) (fun y4 μ3 => some (y4, μ3))))
def f_X9_feed (N : Nat) (a1 : Int32) (a2 : Int32) (μ : am_M) : Option (Int32 × am_M) := f_X9_feed_0 N a1 a2 μ
set_option maxHeartbeats 4000000 in
set_option maxRecDepth 100000 in
theorem p_X9_feed_0 (G : am_G) (l : Launch) (d : Nat) (hd0 : 1 ≤ d) (N : Nat) (a1 : Int32) (a2 : Int32) (μ : am_M) : sm_P G l am_ci d me_X9_feed 0 [(0, .ref (am_ad G 0 0)), (1, .int a1), (2, .int a2)] [] μ (f_X9_feed_0 N a1 a2 μ) := by
  unfold f_X9_feed_0
  refine sm_iload_n (pc := 0) dX9_feed_0 rfl 1 rfl ?_
  refine sm_iconst (pc := 1) dX9_feed_1 (v := 1) (by decide) ?_
  refine sm_iconst (pc := 2) dX9_feed_2 (v := 4) (by decide) ?_
  refine sm_callSi (pc := 3) (As := [.int a1, .int (1 : Int32), .int (4 : Int32)]) (rest := []) dX9_feed_3 (c_X9_isWithin G l N a1 (1 : Int32) (4 : Int32) μ) (by omega) wl_X9_78 st_X9_isWithin rfl rfl (Nat.le_of_ble_eq_true rfl) (fun y2 μ1 => ?_)
  refine sm_if_ne (pc := 6) (tgt := 11) dX9_feed_6 (by decide) ?_ ?_
  · refine sm_aload_n (pc := 11) dX9_feed_11 rfl 0 rfl ?_
    refine sm_getr (pc := 12) dX9_feed_12 fi_X9_28 ?_
    refine sm_iload_n (pc := 15) dX9_feed_15 rfl 1 rfl ?_
    refine sm_iload_n (pc := 16) dX9_feed_16 rfl 2 rfl ?_
    refine sm_callVi (pc := 17) (As := [.int a1, .int a2]) (rest := []) dX9_feed_17 (c_X6_take G l N a1 a2 μ1) (by omega) wl_X9_122 vm_X6_take rfl rfl (Nat.le_of_ble_eq_true rfl) (fun y4 μ3 => ?_)
    exact sm_iret (pc := 20) dX9_feed_20 rfl
  · refine sm_iconst (pc := 9) dX9_feed_9 (v := -1) (by decide) ?_
    exact sm_iret (pc := 10) dX9_feed_10 rfl
theorem c_X9_feed (G : am_G) (l : Launch) (N : Nat) (a1 : Int32) (a2 : Int32) (μ : am_M) : ct_P G l am_ci 1 me_X9_feed [.ref (am_ad G 0 0), .int a1, .int a2] μ (f_X9_feed N a1 a2 μ) := ct_of (by decide +kernel) (Nat.le_of_ble_eq_true rfl) rfl (p_X9_feed_0 G l 1 (Nat.le_refl _) N a1 a2 μ)

def f_X9_want_50 (N : Nat) (s0 : Int32) (μ : am_M) : Option (Int32 × am_M) :=
am_bd (f_X6_empty N μ) (fun _ μ7 => some (s0, μ7))
def f_X9_want_0 (N : Nat) (μ : am_M) : Option (Int32 × am_M) :=
am_bd (f_X8_known N μ) (fun y2 μ1 => if y2 < (4 : Int32) then (am_bd (f_X6_reads N μ1) (fun y4 μ3 => if y4 = 0 then (am_bd (f_X6_place N μ3) (fun y6 μ5 => f_X9_want_50 N ((-100 : Int32) - y6) μ5)) else (am_bd (f_X8_learn N μ3) (fun y9 μ8 => f_X9_want_50 N y9 μ8)))) else (some ((-3 : Int32), μ1)))
def f_X9_want (N : Nat) (μ : am_M) : Option (Int32 × am_M) := f_X9_want_0 N μ
set_option maxHeartbeats 4000000 in
set_option maxRecDepth 100000 in
theorem p_X9_want_50 (G : am_G) (l : Launch) (d : Nat) (hd0 : 105 ≤ d) (N : Nat) (s0 : Int32) (μ : am_M) : sm_P G l am_ci d me_X9_want 50 [(0, .ref (am_ad G 0 0))] [.int s0] μ (f_X9_want_50 N s0 μ) := by
  unfold f_X9_want_50
  refine sm_istore_n (pc := 50) (lv' := [(2, .int s0), (0, .ref (am_ad G 0 0))]) dX9_want_50 rfl (by decide) rfl ?_
  refine sm_aload_n (pc := 51) dX9_want_51 rfl 1 rfl ?_
  refine sm_getr (pc := 52) dX9_want_52 fi_X9_28 ?_
  refine sm_callVv (pc := 55) (As := []) (rest := []) dX9_want_55 (c_X6_empty G l N μ) (by omega) wl_X9_136 vm_X6_empty rfl rfl (Nat.le_of_ble_eq_true rfl) (fun _ μ7 => ?_)
  refine sm_iload_n (pc := 58) dX9_want_58 rfl 0 rfl ?_
  exact sm_iret (pc := 59) dX9_want_59 rfl
set_option maxHeartbeats 4000000 in
set_option maxRecDepth 100000 in
theorem p_X9_want_0 (G : am_G) (l : Launch) (d : Nat) (hd0 : 105 ≤ d) (N : Nat) (μ : am_M) : sm_P G l am_ci d me_X9_want 0 [(0, .ref (am_ad G 0 0))] [] μ (f_X9_want_0 N μ) := by
  unfold f_X9_want_0
  refine sm_aload_n (pc := 0) dX9_want_0 rfl 0 rfl ?_
  refine sm_getr (pc := 1) dX9_want_1 fi_X9_35 ?_
  refine sm_callVi (pc := 4) (As := []) (rest := []) dX9_want_4 (c_X8_known G l N μ) (by omega) wl_X9_105 vm_X8_known rfl rfl (Nat.le_of_ble_eq_true rfl) (fun y2 μ1 => ?_)
  refine sm_iconst (pc := 7) dX9_want_7 (v := 4) (by decide) ?_
  refine sm_icmp_lt (pc := 8) (tgt := 14) dX9_want_8 (by decide) ?_ ?_
  · refine sm_aload_n (pc := 14) dX9_want_14 rfl 0 rfl ?_
    refine sm_getr (pc := 15) dX9_want_15 fi_X9_28 ?_
    refine sm_callVi (pc := 18) (As := []) (rest := []) dX9_want_18 (c_X6_reads G l N μ1) (by omega) wl_X9_125 vm_X6_reads rfl rfl (Nat.le_of_ble_eq_true rfl) (fun y4 μ3 => ?_)
    refine sm_istore_n (pc := 21) (lv' := [(1, .int y4), (0, .ref (am_ad G 0 0))]) dX9_want_21 rfl (by decide) rfl ?_
    refine sm_iload_n (pc := 22) dX9_want_22 rfl 0 rfl ?_
    refine sm_if_eq (pc := 23) (tgt := 40) dX9_want_23 (by decide) ?_ ?_
    · refine sm_bipush (pc := 40) dX9_want_40 (v := -100) (by decide) ?_
      refine sm_aload_n (pc := 42) dX9_want_42 rfl 1 rfl ?_
      refine sm_getr (pc := 43) dX9_want_43 fi_X9_28 ?_
      refine sm_callVi (pc := 46) (As := []) (rest := [.int (-100 : Int32)]) dX9_want_46 (c_X6_place G l N μ3) (by omega) wl_X9_133 vm_X6_place rfl rfl (Nat.le_of_ble_eq_true rfl) (fun y6 μ5 => ?_)
      refine sm_isub (pc := 49) dX9_want_49 ?_
      refine sm_sub [1] rfl ?_
      exact p_X9_want_50 G l d hd0 N ((-100 : Int32) - y6) μ5
    · refine sm_aload_n (pc := 26) dX9_want_26 rfl 1 rfl ?_
      refine sm_getr (pc := 27) dX9_want_27 fi_X9_35 ?_
      refine sm_aload_n (pc := 30) dX9_want_30 rfl 1 rfl ?_
      refine sm_getr (pc := 31) dX9_want_31 fi_X9_28 ?_
      refine sm_callVi (pc := 34) (As := [.ref (am_ad G 3 0)]) (rest := []) dX9_want_34 (c_X8_learn G l N μ3) (by omega) wl_X9_129 vm_X8_learn rfl rfl (Nat.le_of_ble_eq_true rfl) (fun y9 μ8 => ?_)
      refine sm_goto (pc := 37) (tgt := 50) dX9_want_37 (by decide) ?_
      refine sm_sub [1] rfl ?_
      exact p_X9_want_50 G l d hd0 N y9 μ8
  · refine sm_bipush (pc := 11) dX9_want_11 (v := -3) (by decide) ?_
    exact sm_iret (pc := 13) dX9_want_13 rfl
theorem c_X9_want (G : am_G) (l : Launch) (N : Nat) (μ : am_M) : ct_P G l am_ci 105 me_X9_want [.ref (am_ad G 0 0)] μ (f_X9_want N μ) := ct_of (by decide +kernel) (Nat.le_of_ble_eq_true rfl) rfl (p_X9_want_0 G l 105 (Nat.le_refl _) N μ)

def f_X9_worth_0 (N : Nat) (a1 : Int32) (a2 : Int32) (μ : am_M) : Option (Int32 × am_M) :=
am_bd (f_X5_hasSort N a1 μ) (fun y2 μ1 => if y2 = 0 then (some ((-1 : Int32), μ1)) else (if a2 < 0 then (some ((-1 : Int32), μ1)) else (am_bd (f_X5_hasThing N (a2 / (10 : Int32)) μ1) (fun y4 μ3 => if y4 = 0 then (some ((-1 : Int32), μ3)) else (am_bd (f_X9_isWithin N (am_rem a2 (10 : Int32)) (1 : Int32) (3 : Int32) μ3) (fun y6 μ5 => if y6 = 0 then (some ((-1 : Int32), μ5)) else (am_bd (f_X7_recall N μ5) (fun _ μ7 => am_bd (f_X7_worthOf N a1 (a2 / (10 : Int32)) (am_rem a2 (10 : Int32)) μ7) (fun y9 μ8 => some (y9, μ8))))))))))
def f_X9_worth (N : Nat) (a1 : Int32) (a2 : Int32) (μ : am_M) : Option (Int32 × am_M) := f_X9_worth_0 N a1 a2 μ
set_option maxHeartbeats 4000000 in
set_option maxRecDepth 100000 in
theorem p_X9_worth_0 (G : am_G) (l : Launch) (d : Nat) (hd0 : 4 ≤ d) (N : Nat) (a1 : Int32) (a2 : Int32) (μ : am_M) : sm_P G l am_ci d me_X9_worth 0 [(0, .ref (am_ad G 0 0)), (1, .int a1), (2, .int a2)] [] μ (f_X9_worth_0 N a1 a2 μ) := by
  unfold f_X9_worth_0
  refine sm_aload_n (pc := 0) dX9_worth_0 rfl 0 rfl ?_
  refine sm_getr (pc := 1) dX9_worth_1 fi_X9_12 ?_
  refine sm_iload_n (pc := 4) dX9_worth_4 rfl 1 rfl ?_
  refine sm_callVi (pc := 5) (As := [.int a1]) (rest := []) dX9_worth_5 (c_X5_hasSort G l N a1 μ) (by omega) wl_X9_112 vm_X5_hasSort rfl rfl (Nat.le_of_ble_eq_true rfl) (fun y2 μ1 => ?_)
  refine sm_if_eq (pc := 8) (tgt := 41) dX9_worth_8 (by decide) ?_ ?_
  · refine sm_iconst (pc := 41) dX9_worth_41 (v := -1) (by decide) ?_
    exact sm_iret (pc := 42) dX9_worth_42 rfl
  · refine sm_iload_n (pc := 11) dX9_worth_11 rfl 2 rfl ?_
    refine sm_if_lt (pc := 12) (tgt := 41) dX9_worth_12 (by decide) ?_ ?_
    · refine sm_iconst (pc := 41) dX9_worth_41 (v := -1) (by decide) ?_
      exact sm_iret (pc := 42) dX9_worth_42 rfl
    · refine sm_aload_n (pc := 15) dX9_worth_15 rfl 0 rfl ?_
      refine sm_getr (pc := 16) dX9_worth_16 fi_X9_12 ?_
      refine sm_iload_n (pc := 19) dX9_worth_19 rfl 2 rfl ?_
      refine sm_bipush (pc := 20) dX9_worth_20 (v := 10) (by decide) ?_
      refine sm_idivc (pc := 22) dX9_worth_22 (by decide) ?_
      refine sm_callVi (pc := 23) (As := [.int (a2 / (10 : Int32))]) (rest := []) dX9_worth_23 (c_X5_hasThing G l N (a2 / (10 : Int32)) μ1) (by omega) wl_X9_98 vm_X5_hasThing rfl rfl (Nat.le_of_ble_eq_true rfl) (fun y4 μ3 => ?_)
      refine sm_if_eq (pc := 26) (tgt := 41) dX9_worth_26 (by decide) ?_ ?_
      · refine sm_iconst (pc := 41) dX9_worth_41 (v := -1) (by decide) ?_
        exact sm_iret (pc := 42) dX9_worth_42 rfl
      · refine sm_iload_n (pc := 29) dX9_worth_29 rfl 2 rfl ?_
        refine sm_bipush (pc := 30) dX9_worth_30 (v := 10) (by decide) ?_
        refine sm_iremc (pc := 32) dX9_worth_32 (by decide) ?_
        refine sm_iconst (pc := 33) dX9_worth_33 (v := 1) (by decide) ?_
        refine sm_iconst (pc := 34) dX9_worth_34 (v := 3) (by decide) ?_
        refine sm_callSi (pc := 35) (As := [.int (am_rem a2 (10 : Int32)), .int (1 : Int32), .int (3 : Int32)]) (rest := []) dX9_worth_35 (c_X9_isWithin G l N (am_rem a2 (10 : Int32)) (1 : Int32) (3 : Int32) μ3) (by omega) wl_X9_78 st_X9_isWithin rfl rfl (Nat.le_of_ble_eq_true rfl) (fun y6 μ5 => ?_)
        refine sm_if_ne (pc := 38) (tgt := 43) dX9_worth_38 (by decide) ?_ ?_
        · refine sm_aload_n (pc := 43) dX9_worth_43 rfl 0 rfl ?_
          refine sm_getr (pc := 44) dX9_worth_44 fi_X9_44 ?_
          refine sm_callVv (pc := 47) (As := []) (rest := []) dX9_worth_47 (c_X7_recall G l N μ5) (by omega) wl_X9_139 vm_X7_recall rfl rfl (Nat.le_of_ble_eq_true rfl) (fun _ μ7 => ?_)
          refine sm_aload_n (pc := 50) dX9_worth_50 rfl 0 rfl ?_
          refine sm_getr (pc := 51) dX9_worth_51 fi_X9_44 ?_
          refine sm_iload_n (pc := 54) dX9_worth_54 rfl 1 rfl ?_
          refine sm_iload_n (pc := 55) dX9_worth_55 rfl 2 rfl ?_
          refine sm_bipush (pc := 56) dX9_worth_56 (v := 10) (by decide) ?_
          refine sm_idivc (pc := 58) dX9_worth_58 (by decide) ?_
          refine sm_iload_n (pc := 59) dX9_worth_59 rfl 2 rfl ?_
          refine sm_bipush (pc := 60) dX9_worth_60 (v := 10) (by decide) ?_
          refine sm_iremc (pc := 62) dX9_worth_62 (by decide) ?_
          refine sm_callVi (pc := 63) (As := [.int a1, .int (a2 / (10 : Int32)), .int (am_rem a2 (10 : Int32))]) (rest := []) dX9_worth_63 (c_X7_worthOf G l N a1 (a2 / (10 : Int32)) (am_rem a2 (10 : Int32)) μ7) (by omega) wl_X9_142 vm_X7_worthOf rfl rfl (Nat.le_of_ble_eq_true rfl) (fun y9 μ8 => ?_)
          exact sm_iret (pc := 66) dX9_worth_66 rfl
        · refine sm_iconst (pc := 41) dX9_worth_41 (v := -1) (by decide) ?_
          exact sm_iret (pc := 42) dX9_worth_42 rfl
theorem c_X9_worth (G : am_G) (l : Launch) (N : Nat) (a1 : Int32) (a2 : Int32) (μ : am_M) : ct_P G l am_ci 4 me_X9_worth [.ref (am_ad G 0 0), .int a1, .int a2] μ (f_X9_worth N a1 a2 μ) := ct_of (by decide +kernel) (Nat.le_of_ble_eq_true rfl) rfl (p_X9_worth_0 G l 4 (Nat.le_refl _) N a1 a2 μ)

def f_X9_basket_0 (N : Nat) (a1 : Int32) (a2 : Int32) (μ : am_M) : Option (Int32 × am_M) :=
am_bd (f_X5_hasSort N a1 μ) (fun y2 μ1 => if y2 = 0 then (some ((-1 : Int32), μ1)) else (am_bd (f_X9_isWithin N a2 (0 : Int32) (3 : Int32) μ1) (fun y4 μ3 => if y4 = 0 then (some ((-1 : Int32), μ3)) else (am_bd (f_X7_recall N μ3) (fun _ μ5 => am_bd (f_X7_weigh N a1 μ5) (fun _ μ6 => am_bd (f_X7_choose N a1 μ6) (fun _ μ7 => if a2 = (0 : Int32) then (some ((μ7.1 5 0 12), μ7)) else (if a2 = (1 : Int32) then (some ((μ7.1 5 0 9), μ7)) else (if a2 = (2 : Int32) then (some ((μ7.1 5 0 10), μ7)) else (some ((μ7.1 5 0 11), μ7)))))))))))
def f_X9_basket (N : Nat) (a1 : Int32) (a2 : Int32) (μ : am_M) : Option (Int32 × am_M) := f_X9_basket_0 N a1 a2 μ
set_option maxHeartbeats 4000000 in
set_option maxRecDepth 100000 in
theorem p_X9_basket_0 (G : am_G) (l : Launch) (d : Nat) (hd0 : 104 ≤ d) (N : Nat) (a1 : Int32) (a2 : Int32) (μ : am_M) : sm_P G l am_ci d me_X9_basket 0 [(0, .ref (am_ad G 0 0)), (1, .int a1), (2, .int a2)] [] μ (f_X9_basket_0 N a1 a2 μ) := by
  unfold f_X9_basket_0
  refine sm_aload_n (pc := 0) dX9_basket_0 rfl 0 rfl ?_
  refine sm_getr (pc := 1) dX9_basket_1 fi_X9_12 ?_
  refine sm_iload_n (pc := 4) dX9_basket_4 rfl 1 rfl ?_
  refine sm_callVi (pc := 5) (As := [.int a1]) (rest := []) dX9_basket_5 (c_X5_hasSort G l N a1 μ) (by omega) wl_X9_112 vm_X5_hasSort rfl rfl (Nat.le_of_ble_eq_true rfl) (fun y2 μ1 => ?_)
  refine sm_if_eq (pc := 8) (tgt := 20) dX9_basket_8 (by decide) ?_ ?_
  · refine sm_iconst (pc := 20) dX9_basket_20 (v := -1) (by decide) ?_
    exact sm_iret (pc := 21) dX9_basket_21 rfl
  · refine sm_iload_n (pc := 11) dX9_basket_11 rfl 2 rfl ?_
    refine sm_iconst (pc := 12) dX9_basket_12 (v := 0) (by decide) ?_
    refine sm_iconst (pc := 13) dX9_basket_13 (v := 3) (by decide) ?_
    refine sm_callSi (pc := 14) (As := [.int a2, .int (0 : Int32), .int (3 : Int32)]) (rest := []) dX9_basket_14 (c_X9_isWithin G l N a2 (0 : Int32) (3 : Int32) μ1) (by omega) wl_X9_78 st_X9_isWithin rfl rfl (Nat.le_of_ble_eq_true rfl) (fun y4 μ3 => ?_)
    refine sm_if_ne (pc := 17) (tgt := 22) dX9_basket_17 (by decide) ?_ ?_
    · refine sm_aload_n (pc := 22) dX9_basket_22 rfl 0 rfl ?_
      refine sm_getr (pc := 23) dX9_basket_23 fi_X9_44 ?_
      refine sm_callVv (pc := 26) (As := []) (rest := []) dX9_basket_26 (c_X7_recall G l N μ3) (by omega) wl_X9_139 vm_X7_recall rfl rfl (Nat.le_of_ble_eq_true rfl) (fun _ μ5 => ?_)
      refine sm_aload_n (pc := 29) dX9_basket_29 rfl 0 rfl ?_
      refine sm_getr (pc := 30) dX9_basket_30 fi_X9_44 ?_
      refine sm_iload_n (pc := 33) dX9_basket_33 rfl 1 rfl ?_
      refine sm_callVv (pc := 34) (As := [.int a1]) (rest := []) dX9_basket_34 (c_X7_weigh G l N a1 μ5) (by omega) wl_X9_145 vm_X7_weigh rfl rfl (Nat.le_of_ble_eq_true rfl) (fun _ μ6 => ?_)
      refine sm_aload_n (pc := 37) dX9_basket_37 rfl 0 rfl ?_
      refine sm_getr (pc := 38) dX9_basket_38 fi_X9_44 ?_
      refine sm_iload_n (pc := 41) dX9_basket_41 rfl 1 rfl ?_
      refine sm_callVv (pc := 42) (As := [.int a1]) (rest := []) dX9_basket_42 (c_X7_choose G l N a1 μ6) (by omega) wl_X9_149 vm_X7_choose rfl rfl (Nat.le_of_ble_eq_true rfl) (fun _ μ7 => ?_)
      refine sm_iload_n (pc := 45) dX9_basket_45 rfl 2 rfl ?_
      refine sm_ite (fun e8 => ?_) (fun e8 => ?_)
      · refine sm_tsi (pc := 46) (c1 := 0) (off := 26) (tgt := 72) e8 dX9_basket_46 (by decide) (by decide) (by decide) (by decide) ?_
        refine sm_aload_n (pc := 72) dX9_basket_72 rfl 0 rfl ?_
        refine sm_getr (pc := 73) dX9_basket_73 fi_X9_44 ?_
        refine sm_geti (pc := 76) dX9_basket_76 fi_X9_152 ?_
        exact sm_iret (pc := 79) dX9_basket_79 rfl
      refine sm_ite (fun e9 => ?_) (fun e9 => ?_)
      · refine sm_tsi (pc := 46) (c1 := 1) (off := 34) (tgt := 80) e9 dX9_basket_46 (by decide) (by decide) (by decide) (by decide) ?_
        refine sm_aload_n (pc := 80) dX9_basket_80 rfl 0 rfl ?_
        refine sm_getr (pc := 81) dX9_basket_81 fi_X9_44 ?_
        refine sm_geti (pc := 84) dX9_basket_84 fi_X9_156 ?_
        exact sm_iret (pc := 87) dX9_basket_87 rfl
      refine sm_ite (fun e10 => ?_) (fun e10 => ?_)
      · refine sm_tsi (pc := 46) (c1 := 2) (off := 42) (tgt := 88) e10 dX9_basket_46 (by decide) (by decide) (by decide) (by decide) ?_
        refine sm_aload_n (pc := 88) dX9_basket_88 rfl 0 rfl ?_
        refine sm_getr (pc := 89) dX9_basket_89 fi_X9_44 ?_
        refine sm_geti (pc := 92) dX9_basket_92 fi_X9_159 ?_
        exact sm_iret (pc := 95) dX9_basket_95 rfl
      replace e8 := am_ne (n := 0) (by decide) e8
      replace e9 := am_ne (n := 1) (by decide) e9
      replace e10 := am_ne (n := 2) (by decide) e10
      refine sm_tso (pc := 46) (tgt := 96) dX9_basket_46 (by omega) (by decide) ?_
      refine sm_aload_n (pc := 96) dX9_basket_96 rfl 0 rfl ?_
      refine sm_getr (pc := 97) dX9_basket_97 fi_X9_44 ?_
      refine sm_geti (pc := 100) dX9_basket_100 fi_X9_162 ?_
      exact sm_iret (pc := 103) dX9_basket_103 rfl
    · refine sm_iconst (pc := 20) dX9_basket_20 (v := -1) (by decide) ?_
      exact sm_iret (pc := 21) dX9_basket_21 rfl
theorem c_X9_basket (G : am_G) (l : Launch) (N : Nat) (a1 : Int32) (a2 : Int32) (μ : am_M) : ct_P G l am_ci 104 me_X9_basket [.ref (am_ad G 0 0), .int a1, .int a2] μ (f_X9_basket N a1 a2 μ) := ct_of (by decide +kernel) (Nat.le_of_ble_eq_true rfl) rfl (p_X9_basket_0 G l 104 (Nat.le_refl _) N a1 a2 μ)

def f_X9_wanted_43 (N : Nat) (x1 : Int32) (x2 : Int32) (x3 : Int32) (μ : am_M) : Option (Int32 × am_M) :=
am_bd (f_X7_recall N μ) (fun _ μ1 => am_bd (f_X2_wantAll N μ1) (fun _ μ2 => if x3 = 0 then (if x2 = 0 then (am_bd (f_X2_wantedOf N x1 μ2) (fun y6 μ5 => some (y6, μ5))) else (am_bd (f_X2_overOf N x1 μ2) (fun y4 μ3 => some (y4, μ3)))) else (am_bd (f_X2_bothTogether N μ2) (fun y8 μ7 => some (y8, μ7)))))
def f_X9_wanted_15 (N : Nat) (x1 : Int32) (x2 : Int32) (s0 : Int32) (μ : am_M) : Option (Int32 × am_M) :=
if s0 = 0 then (am_bd (f_X5_hasThing N x1 μ) (fun y10 μ9 => if y10 = 0 then (some ((-2000000000 : Int32), μ9)) else (am_bd (f_X9_isWithin N x2 (0 : Int32) (1 : Int32) μ9) (fun y12 μ11 => if y12 = 0 then (some ((-2000000000 : Int32), μ11)) else (f_X9_wanted_43 N x1 x2 s0 μ11))))) else (f_X9_wanted_43 N x1 x2 s0 μ)
def f_X9_wanted_14 (N : Nat) (x1 : Int32) (x2 : Int32) (μ : am_M) : Option (Int32 × am_M) :=
f_X9_wanted_15 N x1 x2 (0 : Int32) μ
def f_X9_wanted_0 (N : Nat) (a1 : Int32) (a2 : Int32) (μ : am_M) : Option (Int32 × am_M) :=
if a1 = (-1 : Int32) then (if a2 = (1 : Int32) then (f_X9_wanted_15 N a1 a2 (1 : Int32) μ) else (f_X9_wanted_14 N a1 a2 μ)) else (f_X9_wanted_14 N a1 a2 μ)
def f_X9_wanted (N : Nat) (a1 : Int32) (a2 : Int32) (μ : am_M) : Option (Int32 × am_M) := f_X9_wanted_0 N a1 a2 μ
set_option maxHeartbeats 4000000 in
set_option maxRecDepth 100000 in
theorem p_X9_wanted_43 (G : am_G) (l : Launch) (d : Nat) (hd0 : 105 ≤ d) (N : Nat) (x1 : Int32) (x2 : Int32) (x3 : Int32) (μ : am_M) : sm_P G l am_ci d me_X9_wanted 43 [(0, .ref (am_ad G 0 0)), (1, .int x1), (2, .int x2), (3, .int x3)] [] μ (f_X9_wanted_43 N x1 x2 x3 μ) := by
  unfold f_X9_wanted_43
  refine sm_aload_n (pc := 43) dX9_wanted_43 rfl 0 rfl ?_
  refine sm_getr (pc := 44) dX9_wanted_44 fi_X9_44 ?_
  refine sm_callVv (pc := 47) (As := []) (rest := []) dX9_wanted_47 (c_X7_recall G l N μ) (by omega) wl_X9_139 vm_X7_recall rfl rfl (Nat.le_of_ble_eq_true rfl) (fun _ μ1 => ?_)
  refine sm_aload_n (pc := 50) dX9_wanted_50 rfl 0 rfl ?_
  refine sm_getr (pc := 51) dX9_wanted_51 fi_X9_53 ?_
  refine sm_callVv (pc := 54) (As := []) (rest := []) dX9_wanted_54 (c_X2_wantAll G l N μ1) (by omega) wl_X9_166 vm_X2_wantAll rfl rfl (Nat.le_of_ble_eq_true rfl) (fun _ μ2 => ?_)
  refine sm_iload_n (pc := 57) dX9_wanted_57 rfl 3 rfl ?_
  refine sm_if_eq (pc := 58) (tgt := 69) dX9_wanted_58 (by decide) ?_ ?_
  · refine sm_iload_n (pc := 69) dX9_wanted_69 rfl 2 rfl ?_
    refine sm_if_ne (pc := 70) (tgt := 84) dX9_wanted_70 (by decide) ?_ ?_
    · refine sm_aload_n (pc := 84) dX9_wanted_84 rfl 0 rfl ?_
      refine sm_getr (pc := 85) dX9_wanted_85 fi_X9_53 ?_
      refine sm_iload_n (pc := 88) dX9_wanted_88 rfl 1 rfl ?_
      refine sm_callVi (pc := 89) (As := [.int x1]) (rest := []) dX9_wanted_89 (c_X2_overOf G l N x1 μ2) (by omega) wl_X9_175 vm_X2_overOf rfl rfl (Nat.le_of_ble_eq_true rfl) (fun y4 μ3 => ?_)
      exact sm_iret (pc := 92) dX9_wanted_92 rfl
    · refine sm_aload_n (pc := 73) dX9_wanted_73 rfl 0 rfl ?_
      refine sm_getr (pc := 74) dX9_wanted_74 fi_X9_53 ?_
      refine sm_iload_n (pc := 77) dX9_wanted_77 rfl 1 rfl ?_
      refine sm_callVi (pc := 78) (As := [.int x1]) (rest := []) dX9_wanted_78 (c_X2_wantedOf G l N x1 μ2) (by omega) wl_X9_172 vm_X2_wantedOf rfl rfl (Nat.le_of_ble_eq_true rfl) (fun y6 μ5 => ?_)
      refine sm_goto (pc := 81) (tgt := 92) dX9_wanted_81 (by decide) ?_
      exact sm_iret (pc := 92) dX9_wanted_92 rfl
  · refine sm_aload_n (pc := 61) dX9_wanted_61 rfl 0 rfl ?_
    refine sm_getr (pc := 62) dX9_wanted_62 fi_X9_53 ?_
    refine sm_callVi (pc := 65) (As := []) (rest := []) dX9_wanted_65 (c_X2_bothTogether G l N μ2) (by omega) wl_X9_169 vm_X2_bothTogether rfl rfl (Nat.le_of_ble_eq_true rfl) (fun y8 μ7 => ?_)
    exact sm_iret (pc := 68) dX9_wanted_68 rfl
set_option maxHeartbeats 4000000 in
set_option maxRecDepth 100000 in
theorem p_X9_wanted_15 (G : am_G) (l : Launch) (d : Nat) (hd0 : 105 ≤ d) (N : Nat) (x1 : Int32) (x2 : Int32) (s0 : Int32) (μ : am_M) : sm_P G l am_ci d me_X9_wanted 15 [(0, .ref (am_ad G 0 0)), (1, .int x1), (2, .int x2)] [.int s0] μ (f_X9_wanted_15 N x1 x2 s0 μ) := by
  unfold f_X9_wanted_15
  refine sm_istore_n (pc := 15) (lv' := [(3, .int s0), (0, .ref (am_ad G 0 0)), (1, .int x1), (2, .int x2)]) dX9_wanted_15 rfl (by decide) rfl ?_
  refine sm_iload_n (pc := 16) dX9_wanted_16 rfl 0 rfl ?_
  refine sm_if_ne (pc := 17) (tgt := 43) dX9_wanted_17 (by decide) ?_ ?_
  · refine sm_sub [1, 2, 3, 0] rfl ?_
    exact p_X9_wanted_43 G l d hd0 N x1 x2 s0 μ
  · refine sm_aload_n (pc := 20) dX9_wanted_20 rfl 1 rfl ?_
    refine sm_getr (pc := 21) dX9_wanted_21 fi_X9_12 ?_
    refine sm_iload_n (pc := 24) dX9_wanted_24 rfl 2 rfl ?_
    refine sm_callVi (pc := 25) (As := [.int x1]) (rest := []) dX9_wanted_25 (c_X5_hasThing G l N x1 μ) (by omega) wl_X9_98 vm_X5_hasThing rfl rfl (Nat.le_of_ble_eq_true rfl) (fun y10 μ9 => ?_)
    refine sm_if_eq (pc := 28) (tgt := 40) dX9_wanted_28 (by decide) ?_ ?_
    · refine sm_ldc (pc := 40) dX9_wanted_40 (v := -2000000000) wk_X9_165 ?_
      exact sm_iret (pc := 42) dX9_wanted_42 rfl
    · refine sm_iload_n (pc := 31) dX9_wanted_31 rfl 3 rfl ?_
      refine sm_iconst (pc := 32) dX9_wanted_32 (v := 0) (by decide) ?_
      refine sm_iconst (pc := 33) dX9_wanted_33 (v := 1) (by decide) ?_
      refine sm_callSi (pc := 34) (As := [.int x2, .int (0 : Int32), .int (1 : Int32)]) (rest := []) dX9_wanted_34 (c_X9_isWithin G l N x2 (0 : Int32) (1 : Int32) μ9) (by omega) wl_X9_78 st_X9_isWithin rfl rfl (Nat.le_of_ble_eq_true rfl) (fun y12 μ11 => ?_)
      refine sm_if_ne (pc := 37) (tgt := 43) dX9_wanted_37 (by decide) ?_ ?_
      · refine sm_sub [1, 2, 3, 0] rfl ?_
        exact p_X9_wanted_43 G l d hd0 N x1 x2 s0 μ11
      · refine sm_ldc (pc := 40) dX9_wanted_40 (v := -2000000000) wk_X9_165 ?_
        exact sm_iret (pc := 42) dX9_wanted_42 rfl
set_option maxHeartbeats 4000000 in
set_option maxRecDepth 100000 in
theorem p_X9_wanted_14 (G : am_G) (l : Launch) (d : Nat) (hd0 : 105 ≤ d) (N : Nat) (x1 : Int32) (x2 : Int32) (μ : am_M) : sm_P G l am_ci d me_X9_wanted 14 [(0, .ref (am_ad G 0 0)), (1, .int x1), (2, .int x2)] [] μ (f_X9_wanted_14 N x1 x2 μ) := by
  unfold f_X9_wanted_14
  refine sm_iconst (pc := 14) dX9_wanted_14 (v := 0) (by decide) ?_
  exact p_X9_wanted_15 G l d hd0 N x1 x2 (0 : Int32) μ
set_option maxHeartbeats 4000000 in
set_option maxRecDepth 100000 in
theorem p_X9_wanted_0 (G : am_G) (l : Launch) (d : Nat) (hd0 : 105 ≤ d) (N : Nat) (a1 : Int32) (a2 : Int32) (μ : am_M) : sm_P G l am_ci d me_X9_wanted 0 [(0, .ref (am_ad G 0 0)), (1, .int a1), (2, .int a2)] [] μ (f_X9_wanted_0 N a1 a2 μ) := by
  unfold f_X9_wanted_0
  refine sm_iload_n (pc := 0) dX9_wanted_0 rfl 1 rfl ?_
  refine sm_iconst (pc := 1) dX9_wanted_1 (v := -1) (by decide) ?_
  refine sm_icmp_ne (pc := 2) (tgt := 14) dX9_wanted_2 (by decide) ?_ ?_
  · exact p_X9_wanted_14 G l d hd0 N a1 a2 μ
  · refine sm_iload_n (pc := 5) dX9_wanted_5 rfl 2 rfl ?_
    refine sm_iconst (pc := 6) dX9_wanted_6 (v := 1) (by decide) ?_
    refine sm_icmp_ne (pc := 7) (tgt := 14) dX9_wanted_7 (by decide) ?_ ?_
    · exact p_X9_wanted_14 G l d hd0 N a1 a2 μ
    · refine sm_iconst (pc := 10) dX9_wanted_10 (v := 1) (by decide) ?_
      refine sm_goto (pc := 11) (tgt := 15) dX9_wanted_11 (by decide) ?_
      exact p_X9_wanted_15 G l d hd0 N a1 a2 (1 : Int32) μ
theorem c_X9_wanted (G : am_G) (l : Launch) (N : Nat) (a1 : Int32) (a2 : Int32) (μ : am_M) : ct_P G l am_ci 105 me_X9_wanted [.ref (am_ad G 0 0), .int a1, .int a2] μ (f_X9_wanted N a1 a2 μ) := ct_of (by decide +kernel) (Nat.le_of_ble_eq_true rfl) rfl (p_X9_wanted_0 G l 105 (Nat.le_refl _) N a1 a2 μ)

def f_X9_led_0 (N : Nat) (a1 : Int32) (a2 : Int32) (μ : am_M) : Option (Int32 × am_M) :=
am_bd (f_X5_hasThing N a1 μ) (fun y2 μ1 => if y2 = 0 then (some ((-1 : Int32), μ1)) else (am_bd (f_X5_hasSort N a2 μ1) (fun y4 μ3 => if y4 = 0 then (some ((-1 : Int32), μ3)) else (am_bd (f_X7_recall N μ3) (fun _ μ5 => am_bd (f_X7_weigh N a2 μ5) (fun _ μ6 => am_bd (f_X7_choose N a2 μ6) (fun _ μ7 => am_bd (f_X5_at N (4 : Int32) a2 μ7) (fun y9 μ8 => am_bd (f_X5_digitOf N (μ8.1 5 0 12) a1 μ8) (fun y11 μ10 => some ((y9 * y11), μ10))))))))))
def f_X9_led (N : Nat) (a1 : Int32) (a2 : Int32) (μ : am_M) : Option (Int32 × am_M) := f_X9_led_0 N a1 a2 μ
set_option maxHeartbeats 4000000 in
set_option maxRecDepth 100000 in
theorem p_X9_led_0 (G : am_G) (l : Launch) (d : Nat) (hd0 : 104 ≤ d) (N : Nat) (a1 : Int32) (a2 : Int32) (μ : am_M) : sm_P G l am_ci d me_X9_led 0 [(0, .ref (am_ad G 0 0)), (1, .int a1), (2, .int a2)] [] μ (f_X9_led_0 N a1 a2 μ) := by
  unfold f_X9_led_0
  refine sm_aload_n (pc := 0) dX9_led_0 rfl 0 rfl ?_
  refine sm_getr (pc := 1) dX9_led_1 fi_X9_12 ?_
  refine sm_iload_n (pc := 4) dX9_led_4 rfl 1 rfl ?_
  refine sm_callVi (pc := 5) (As := [.int a1]) (rest := []) dX9_led_5 (c_X5_hasThing G l N a1 μ) (by omega) wl_X9_98 vm_X5_hasThing rfl rfl (Nat.le_of_ble_eq_true rfl) (fun y2 μ1 => ?_)
  refine sm_if_eq (pc := 8) (tgt := 22) dX9_led_8 (by decide) ?_ ?_
  · refine sm_iconst (pc := 22) dX9_led_22 (v := -1) (by decide) ?_
    exact sm_iret (pc := 23) dX9_led_23 rfl
  · refine sm_aload_n (pc := 11) dX9_led_11 rfl 0 rfl ?_
    refine sm_getr (pc := 12) dX9_led_12 fi_X9_12 ?_
    refine sm_iload_n (pc := 15) dX9_led_15 rfl 2 rfl ?_
    refine sm_callVi (pc := 16) (As := [.int a2]) (rest := []) dX9_led_16 (c_X5_hasSort G l N a2 μ1) (by omega) wl_X9_112 vm_X5_hasSort rfl rfl (Nat.le_of_ble_eq_true rfl) (fun y4 μ3 => ?_)
    refine sm_if_ne (pc := 19) (tgt := 24) dX9_led_19 (by decide) ?_ ?_
    · refine sm_aload_n (pc := 24) dX9_led_24 rfl 0 rfl ?_
      refine sm_getr (pc := 25) dX9_led_25 fi_X9_44 ?_
      refine sm_callVv (pc := 28) (As := []) (rest := []) dX9_led_28 (c_X7_recall G l N μ3) (by omega) wl_X9_139 vm_X7_recall rfl rfl (Nat.le_of_ble_eq_true rfl) (fun _ μ5 => ?_)
      refine sm_aload_n (pc := 31) dX9_led_31 rfl 0 rfl ?_
      refine sm_getr (pc := 32) dX9_led_32 fi_X9_44 ?_
      refine sm_iload_n (pc := 35) dX9_led_35 rfl 2 rfl ?_
      refine sm_callVv (pc := 36) (As := [.int a2]) (rest := []) dX9_led_36 (c_X7_weigh G l N a2 μ5) (by omega) wl_X9_145 vm_X7_weigh rfl rfl (Nat.le_of_ble_eq_true rfl) (fun _ μ6 => ?_)
      refine sm_aload_n (pc := 39) dX9_led_39 rfl 0 rfl ?_
      refine sm_getr (pc := 40) dX9_led_40 fi_X9_44 ?_
      refine sm_iload_n (pc := 43) dX9_led_43 rfl 2 rfl ?_
      refine sm_callVv (pc := 44) (As := [.int a2]) (rest := []) dX9_led_44 (c_X7_choose G l N a2 μ6) (by omega) wl_X9_149 vm_X7_choose rfl rfl (Nat.le_of_ble_eq_true rfl) (fun _ μ7 => ?_)
      refine sm_aload_n (pc := 47) dX9_led_47 rfl 0 rfl ?_
      refine sm_getr (pc := 48) dX9_led_48 fi_X9_12 ?_
      refine sm_iconst (pc := 51) dX9_led_51 (v := 4) (by decide) ?_
      refine sm_iload_n (pc := 52) dX9_led_52 rfl 2 rfl ?_
      refine sm_callVi (pc := 53) (As := [.int (4 : Int32), .int a2]) (rest := []) dX9_led_53 (c_X5_at G l N (4 : Int32) a2 μ7) (by omega) wl_X9_115 vm_X5_at rfl rfl (Nat.le_of_ble_eq_true rfl) (fun y9 μ8 => ?_)
      refine sm_aload_n (pc := 56) dX9_led_56 rfl 0 rfl ?_
      refine sm_getr (pc := 57) dX9_led_57 fi_X9_12 ?_
      refine sm_aload_n (pc := 60) dX9_led_60 rfl 0 rfl ?_
      refine sm_getr (pc := 61) dX9_led_61 fi_X9_44 ?_
      refine sm_geti (pc := 64) dX9_led_64 fi_X9_152 ?_
      refine sm_iload_n (pc := 67) dX9_led_67 rfl 1 rfl ?_
      refine sm_callVi (pc := 68) (As := [.int (μ8.1 5 0 12), .int a1]) (rest := [.int y9]) dX9_led_68 (c_X5_digitOf G l N (μ8.1 5 0 12) a1 μ8) (by omega) wl_X9_178 vm_X5_digitOf rfl rfl (Nat.le_of_ble_eq_true rfl) (fun y11 μ10 => ?_)
      refine sm_imul (pc := 71) dX9_led_71 ?_
      exact sm_iret (pc := 72) dX9_led_72 rfl
    · refine sm_iconst (pc := 22) dX9_led_22 (v := -1) (by decide) ?_
      exact sm_iret (pc := 23) dX9_led_23 rfl
theorem c_X9_led (G : am_G) (l : Launch) (N : Nat) (a1 : Int32) (a2 : Int32) (μ : am_M) : ct_P G l am_ci 104 me_X9_led [.ref (am_ad G 0 0), .int a1, .int a2] μ (f_X9_led N a1 a2 μ) := ct_of (by decide +kernel) (Nat.le_of_ble_eq_true rfl) rfl (p_X9_led_0 G l 104 (Nat.le_refl _) N a1 a2 μ)

def f_X9_found_0 (N : Nat) (a1 : Int32) (a2 : Int32) (μ : am_M) : Option (Int32 × am_M) :=
am_bd (f_X9_isWithin N a1 (1 : Int32) (60 : Int32) μ) (fun y2 μ1 => if y2 = 0 then (some ((-1 : Int32), μ1)) else (am_bd (f_X9_isWithin N a2 (-4 : Int32) ((μ1.1 1 0 1) - (1 : Int32)) μ1) (fun y4 μ3 => if y4 = 0 then (some ((-1 : Int32), μ3)) else (am_bd (f_X2_findPoints N a1 μ3) (fun _ μ5 => if a2 = (-4 : Int32) then (some ((μ5.1 6 0 7), μ5)) else (if a2 = (-3 : Int32) then (some ((μ5.1 6 0 6), μ5)) else (if a2 = (-2 : Int32) then (am_bd (f_X2_bothTogether N μ5) (fun y10 μ9 => some (y10, μ9))) else (if a2 = (-1 : Int32) then (some ((μ5.1 6 0 5), μ5)) else (am_bd (f_X7_pointsOf N a2 μ5) (fun y13 μ12 => some (y13, μ12)))))))))))
def f_X9_found (N : Nat) (a1 : Int32) (a2 : Int32) (μ : am_M) : Option (Int32 × am_M) := f_X9_found_0 N a1 a2 μ
set_option maxHeartbeats 4000000 in
set_option maxRecDepth 100000 in
theorem p_X9_found_0 (G : am_G) (l : Launch) (d : Nat) (hd0 : 106 ≤ d) (N : Nat) (a1 : Int32) (a2 : Int32) (μ : am_M) : sm_P G l am_ci d me_X9_found 0 [(0, .ref (am_ad G 0 0)), (1, .int a1), (2, .int a2)] [] μ (f_X9_found_0 N a1 a2 μ) := by
  unfold f_X9_found_0
  refine sm_iload_n (pc := 0) dX9_found_0 rfl 1 rfl ?_
  refine sm_iconst (pc := 1) dX9_found_1 (v := 1) (by decide) ?_
  refine sm_bipush (pc := 2) dX9_found_2 (v := 60) (by decide) ?_
  refine sm_callSi (pc := 4) (As := [.int a1, .int (1 : Int32), .int (60 : Int32)]) (rest := []) dX9_found_4 (c_X9_isWithin G l N a1 (1 : Int32) (60 : Int32) μ) (by omega) wl_X9_78 st_X9_isWithin rfl rfl (Nat.le_of_ble_eq_true rfl) (fun y2 μ1 => ?_)
  refine sm_if_eq (pc := 7) (tgt := 28) dX9_found_7 (by decide) ?_ ?_
  · refine sm_iconst (pc := 28) dX9_found_28 (v := -1) (by decide) ?_
    exact sm_iret (pc := 29) dX9_found_29 rfl
  · refine sm_iload_n (pc := 10) dX9_found_10 rfl 2 rfl ?_
    refine sm_bipush (pc := 11) dX9_found_11 (v := -4) (by decide) ?_
    refine sm_aload_n (pc := 13) dX9_found_13 rfl 0 rfl ?_
    refine sm_getr (pc := 14) dX9_found_14 fi_X9_12 ?_
    refine sm_geti (pc := 17) dX9_found_17 fi_X9_181 ?_
    refine sm_iconst (pc := 20) dX9_found_20 (v := 1) (by decide) ?_
    refine sm_isub (pc := 21) dX9_found_21 ?_
    refine sm_callSi (pc := 22) (As := [.int a2, .int (-4 : Int32), .int ((μ1.1 1 0 1) - (1 : Int32))]) (rest := []) dX9_found_22 (c_X9_isWithin G l N a2 (-4 : Int32) ((μ1.1 1 0 1) - (1 : Int32)) μ1) (by omega) wl_X9_78 st_X9_isWithin rfl rfl (Nat.le_of_ble_eq_true rfl) (fun y4 μ3 => ?_)
    refine sm_if_ne (pc := 25) (tgt := 30) dX9_found_25 (by decide) ?_ ?_
    · refine sm_aload_n (pc := 30) dX9_found_30 rfl 0 rfl ?_
      refine sm_getr (pc := 31) dX9_found_31 fi_X9_53 ?_
      refine sm_iload_n (pc := 34) dX9_found_34 rfl 1 rfl ?_
      refine sm_callVv (pc := 35) (As := [.int a1]) (rest := []) dX9_found_35 (c_X2_findPoints G l N a1 μ3) (by omega) wl_X9_184 vm_X2_findPoints rfl rfl (Nat.le_of_ble_eq_true rfl) (fun _ μ5 => ?_)
      refine sm_iload_n (pc := 38) dX9_found_38 rfl 2 rfl ?_
      refine sm_ite (fun e6 => ?_) (fun e6 => ?_)
      · refine sm_tsi (pc := 39) (c1 := -4) (off := 53) (tgt := 92) e6 dX9_found_39 (by decide) (by decide) (by decide) (by decide) ?_
        refine sm_aload_n (pc := 92) dX9_found_92 rfl 0 rfl ?_
        refine sm_getr (pc := 93) dX9_found_93 fi_X9_53 ?_
        refine sm_geti (pc := 96) dX9_found_96 fi_X9_193 ?_
        exact sm_iret (pc := 99) dX9_found_99 rfl
      refine sm_ite (fun e7 => ?_) (fun e7 => ?_)
      · refine sm_tsi (pc := 39) (c1 := -3) (off := 45) (tgt := 84) e7 dX9_found_39 (by decide) (by decide) (by decide) (by decide) ?_
        refine sm_aload_n (pc := 84) dX9_found_84 rfl 0 rfl ?_
        refine sm_getr (pc := 85) dX9_found_85 fi_X9_53 ?_
        refine sm_geti (pc := 88) dX9_found_88 fi_X9_190 ?_
        exact sm_iret (pc := 91) dX9_found_91 rfl
      refine sm_ite (fun e8 => ?_) (fun e8 => ?_)
      · refine sm_tsi (pc := 39) (c1 := -2) (off := 37) (tgt := 76) e8 dX9_found_39 (by decide) (by decide) (by decide) (by decide) ?_
        refine sm_aload_n (pc := 76) dX9_found_76 rfl 0 rfl ?_
        refine sm_getr (pc := 77) dX9_found_77 fi_X9_53 ?_
        refine sm_callVi (pc := 80) (As := []) (rest := []) dX9_found_80 (c_X2_bothTogether G l N μ5) (by omega) wl_X9_169 vm_X2_bothTogether rfl rfl (Nat.le_of_ble_eq_true rfl) (fun y10 μ9 => ?_)
        exact sm_iret (pc := 83) dX9_found_83 rfl
      refine sm_ite (fun e11 => ?_) (fun e11 => ?_)
      · refine sm_tsi (pc := 39) (c1 := -1) (off := 29) (tgt := 68) e11 dX9_found_39 (by decide) (by decide) (by decide) (by decide) ?_
        refine sm_aload_n (pc := 68) dX9_found_68 rfl 0 rfl ?_
        refine sm_getr (pc := 69) dX9_found_69 fi_X9_53 ?_
        refine sm_geti (pc := 72) dX9_found_72 fi_X9_187 ?_
        exact sm_iret (pc := 75) dX9_found_75 rfl
      replace e6 := am_ne (n := -4) (by decide) e6
      replace e7 := am_ne (n := -3) (by decide) e7
      replace e8 := am_ne (n := -2) (by decide) e8
      replace e11 := am_ne (n := -1) (by decide) e11
      refine sm_tso (pc := 39) (tgt := 100) dX9_found_39 (by omega) (by decide) ?_
      refine sm_aload_n (pc := 100) dX9_found_100 rfl 0 rfl ?_
      refine sm_getr (pc := 101) dX9_found_101 fi_X9_44 ?_
      refine sm_iload_n (pc := 104) dX9_found_104 rfl 2 rfl ?_
      refine sm_callVi (pc := 105) (As := [.int a2]) (rest := []) dX9_found_105 (c_X7_pointsOf G l N a2 μ5) (by omega) wl_X9_196 vm_X7_pointsOf rfl rfl (Nat.le_of_ble_eq_true rfl) (fun y13 μ12 => ?_)
      exact sm_iret (pc := 108) dX9_found_108 rfl
    · refine sm_iconst (pc := 28) dX9_found_28 (v := -1) (by decide) ?_
      exact sm_iret (pc := 29) dX9_found_29 rfl
theorem c_X9_found (G : am_G) (l : Launch) (N : Nat) (a1 : Int32) (a2 : Int32) (μ : am_M) : ct_P G l am_ci 106 me_X9_found [.ref (am_ad G 0 0), .int a1, .int a2] μ (f_X9_found N a1 a2 μ) := ct_of (by decide +kernel) (Nat.le_of_ble_eq_true rfl) rfl (p_X9_found_0 G l 106 (Nat.le_refl _) N a1 a2 μ)

def f_X9_set_22 (N : Nat) (r_22 : Int32 → am_M → Option (Int32 × am_M)) (x2 : Int32) (μ : am_M) : Option (Int32 × am_M) :=
if (μ.1 1 0 1) ≤ x2 then (some ((μ.1 6 0 6), μ)) else (am_bd (f_X2_leastPointsOf N x2 μ) (fun y5 μ4 => am_bd (f_X1_change N (2 : Int32) x2 y5 μ4) (fun y7 μ6 => r_22 (x2 + (1 : Int32)) μ6)))
def f_X9_set_22_lp (N : Nat) : Nat → Int32 → am_M → Option (Int32 × am_M)
  | 0, _, _ => none
  | n + 1, x2, μ => f_X9_set_22 N (f_X9_set_22_lp N n) x2 μ
def f_X9_set_0 (N : Nat) (a1 : Int32) (μ : am_M) : Option (Int32 × am_M) :=
am_bd (f_X9_isWithin N a1 (1 : Int32) (60 : Int32) μ) (fun y2 μ1 => if y2 = 0 then (some ((-1 : Int32), μ1)) else (am_bd (f_X2_findPoints N a1 μ1) (fun _ μ3 => f_X9_set_22_lp N N (0 : Int32) μ3)))
def f_X9_set (N : Nat) (a1 : Int32) (μ : am_M) : Option (Int32 × am_M) := f_X9_set_0 N a1 μ
set_option maxHeartbeats 4000000 in
set_option maxRecDepth 100000 in
theorem p_X9_set_22 (G : am_G) (l : Launch) (d : Nat) (hd0 : 106 ≤ d) (N : Nat) (r_22 : Int32 → am_M → Option (Int32 × am_M)) (H_22 : ∀ (x2 : Int32) (μ : am_M), sm_P G l am_ci d me_X9_set 22 [(0, .ref (am_ad G 0 0)), (2, .int x2)] [] μ (r_22 x2 μ)) (x2 : Int32) (μ : am_M) : sm_P G l am_ci d me_X9_set 22 [(0, .ref (am_ad G 0 0)), (2, .int x2)] [] μ (f_X9_set_22 N r_22 x2 μ) := by
  unfold f_X9_set_22
  refine sm_iload_n (pc := 22) dX9_set_22 rfl 1 rfl ?_
  refine sm_aload_n (pc := 23) dX9_set_23 rfl 0 rfl ?_
  refine sm_getr (pc := 24) dX9_set_24 fi_X9_12 ?_
  refine sm_geti (pc := 27) dX9_set_27 fi_X9_181 ?_
  refine sm_icmp_ge (pc := 30) (tgt := 57) dX9_set_30 (by decide) ?_ ?_
  · refine sm_aload_n (pc := 57) dX9_set_57 rfl 0 rfl ?_
    refine sm_getr (pc := 58) dX9_set_58 fi_X9_53 ?_
    refine sm_geti (pc := 61) dX9_set_61 fi_X9_190 ?_
    exact sm_iret (pc := 64) dX9_set_64 rfl
  · refine sm_aload_n (pc := 33) dX9_set_33 rfl 0 rfl ?_
    refine sm_getr (pc := 34) dX9_set_34 fi_X9_21 ?_
    refine sm_iconst (pc := 37) dX9_set_37 (v := 2) (by decide) ?_
    refine sm_iload_n (pc := 38) dX9_set_38 rfl 1 rfl ?_
    refine sm_aload_n (pc := 39) dX9_set_39 rfl 0 rfl ?_
    refine sm_getr (pc := 40) dX9_set_40 fi_X9_53 ?_
    refine sm_iload_n (pc := 43) dX9_set_43 rfl 1 rfl ?_
    refine sm_callVi (pc := 44) (As := [.int x2]) (rest := [.int x2, .int (2 : Int32), .ref (am_ad G 2 0)]) dX9_set_44 (c_X2_leastPointsOf G l N x2 μ) (by omega) wl_X9_199 vm_X2_leastPointsOf rfl rfl (Nat.le_of_ble_eq_true rfl) (fun y5 μ4 => ?_)
    refine sm_callVi (pc := 47) (As := [.int (2 : Int32), .int x2, .int y5]) (rest := []) dX9_set_47 (c_X1_change G l N (2 : Int32) x2 y5 μ4) (by omega) wl_X9_101 vm_X1_change rfl rfl (Nat.le_of_ble_eq_true rfl) (fun y7 μ6 => ?_)
    refine sm_pop (pc := 50) dX9_set_50 rfl ?_
    refine sm_iinc (pc := 51) (v := (x2 + (1 : Int32))) (lv' := [(2, .int (x2 + (1 : Int32))), (0, .ref (am_ad G 0 0))]) dX9_set_51 1 rfl rfl (by decide) rfl ?_
    refine sm_goto (pc := 54) (tgt := 22) dX9_set_54 (by decide) ?_
    refine sm_sub [1, 0] rfl ?_
    exact H_22 (x2 + (1 : Int32)) μ6
theorem p_X9_set_22_lp (G : am_G) (l : Launch) (d : Nat) (hd0 : 106 ≤ d) (N : Nat) : ∀ (n : Nat) (x2 : Int32) (μ : am_M), sm_P G l am_ci d me_X9_set 22 [(0, .ref (am_ad G 0 0)), (2, .int x2)] [] μ (f_X9_set_22_lp N n x2 μ) := by
  intro n
  induction n with
  | zero => intros; exact sm_none
  | succ n ih => exact fun x2 μ => p_X9_set_22 G l d hd0 N (f_X9_set_22_lp N n) ih x2 μ
set_option maxHeartbeats 4000000 in
set_option maxRecDepth 100000 in
theorem p_X9_set_0 (G : am_G) (l : Launch) (d : Nat) (hd0 : 106 ≤ d) (N : Nat) (a1 : Int32) (μ : am_M) : sm_P G l am_ci d me_X9_set 0 [(0, .ref (am_ad G 0 0)), (1, .int a1)] [] μ (f_X9_set_0 N a1 μ) := by
  unfold f_X9_set_0
  refine sm_iload_n (pc := 0) dX9_set_0 rfl 1 rfl ?_
  refine sm_iconst (pc := 1) dX9_set_1 (v := 1) (by decide) ?_
  refine sm_bipush (pc := 2) dX9_set_2 (v := 60) (by decide) ?_
  refine sm_callSi (pc := 4) (As := [.int a1, .int (1 : Int32), .int (60 : Int32)]) (rest := []) dX9_set_4 (c_X9_isWithin G l N a1 (1 : Int32) (60 : Int32) μ) (by omega) wl_X9_78 st_X9_isWithin rfl rfl (Nat.le_of_ble_eq_true rfl) (fun y2 μ1 => ?_)
  refine sm_if_ne (pc := 7) (tgt := 12) dX9_set_7 (by decide) ?_ ?_
  · refine sm_aload_n (pc := 12) dX9_set_12 rfl 0 rfl ?_
    refine sm_getr (pc := 13) dX9_set_13 fi_X9_53 ?_
    refine sm_iload_n (pc := 16) dX9_set_16 rfl 1 rfl ?_
    refine sm_callVv (pc := 17) (As := [.int a1]) (rest := []) dX9_set_17 (c_X2_findPoints G l N a1 μ1) (by omega) wl_X9_184 vm_X2_findPoints rfl rfl (Nat.le_of_ble_eq_true rfl) (fun _ μ3 => ?_)
    refine sm_iconst (pc := 20) dX9_set_20 (v := 0) (by decide) ?_
    refine sm_istore_n (pc := 21) (lv' := [(2, .int (0 : Int32)), (0, .ref (am_ad G 0 0)), (1, .int a1)]) dX9_set_21 rfl (by decide) rfl ?_
    refine sm_sub [1, 0] rfl ?_
    exact p_X9_set_22_lp G l d hd0 N N (0 : Int32) μ3
  · refine sm_iconst (pc := 10) dX9_set_10 (v := -1) (by decide) ?_
    exact sm_iret (pc := 11) dX9_set_11 rfl
theorem c_X9_set (G : am_G) (l : Launch) (N : Nat) (a1 : Int32) (μ : am_M) : ct_P G l am_ci 106 me_X9_set [.ref (am_ad G 0 0), .int a1] μ (f_X9_set N a1 μ) := ct_of (by decide +kernel) (Nat.le_of_ble_eq_true rfl) rfl (p_X9_set_0 G l 106 (Nat.le_refl _) N a1 μ)

def f_X9_tell_0 (N : Nat) (a1 : Int32) (a2 : Int32) (μ : am_M) : Option (Int32 × am_M) :=
am_bd (f_X5_hasSort N a1 μ) (fun y2 μ1 => if y2 = 0 then (some ((-1 : Int32), μ1)) else (am_bd (f_X5_isBasket N a2 μ1) (fun y4 μ3 => if y4 = 0 then (some ((-1 : Int32), μ3)) else (am_bd (f_X2_hear N a1 a2 μ3) (fun y6 μ5 => some (y6, μ5))))))
def f_X9_tell (N : Nat) (a1 : Int32) (a2 : Int32) (μ : am_M) : Option (Int32 × am_M) := f_X9_tell_0 N a1 a2 μ
set_option maxHeartbeats 4000000 in
set_option maxRecDepth 100000 in
theorem p_X9_tell_0 (G : am_G) (l : Launch) (d : Nat) (hd0 : 2 ≤ d) (N : Nat) (a1 : Int32) (a2 : Int32) (μ : am_M) : sm_P G l am_ci d me_X9_tell 0 [(0, .ref (am_ad G 0 0)), (1, .int a1), (2, .int a2)] [] μ (f_X9_tell_0 N a1 a2 μ) := by
  unfold f_X9_tell_0
  refine sm_aload_n (pc := 0) dX9_tell_0 rfl 0 rfl ?_
  refine sm_getr (pc := 1) dX9_tell_1 fi_X9_12 ?_
  refine sm_iload_n (pc := 4) dX9_tell_4 rfl 1 rfl ?_
  refine sm_callVi (pc := 5) (As := [.int a1]) (rest := []) dX9_tell_5 (c_X5_hasSort G l N a1 μ) (by omega) wl_X9_112 vm_X5_hasSort rfl rfl (Nat.le_of_ble_eq_true rfl) (fun y2 μ1 => ?_)
  refine sm_if_eq (pc := 8) (tgt := 22) dX9_tell_8 (by decide) ?_ ?_
  · refine sm_iconst (pc := 22) dX9_tell_22 (v := -1) (by decide) ?_
    exact sm_iret (pc := 23) dX9_tell_23 rfl
  · refine sm_aload_n (pc := 11) dX9_tell_11 rfl 0 rfl ?_
    refine sm_getr (pc := 12) dX9_tell_12 fi_X9_12 ?_
    refine sm_iload_n (pc := 15) dX9_tell_15 rfl 2 rfl ?_
    refine sm_callVi (pc := 16) (As := [.int a2]) (rest := []) dX9_tell_16 (c_X5_isBasket G l N a2 μ1) (by omega) wl_X9_202 vm_X5_isBasket rfl rfl (Nat.le_of_ble_eq_true rfl) (fun y4 μ3 => ?_)
    refine sm_if_ne (pc := 19) (tgt := 24) dX9_tell_19 (by decide) ?_ ?_
    · refine sm_aload_n (pc := 24) dX9_tell_24 rfl 0 rfl ?_
      refine sm_getr (pc := 25) dX9_tell_25 fi_X9_53 ?_
      refine sm_iload_n (pc := 28) dX9_tell_28 rfl 1 rfl ?_
      refine sm_iload_n (pc := 29) dX9_tell_29 rfl 2 rfl ?_
      refine sm_callVi (pc := 30) (As := [.int a1, .int a2]) (rest := []) dX9_tell_30 (c_X2_hear G l N a1 a2 μ3) (by omega) wl_X9_205 vm_X2_hear rfl rfl (Nat.le_of_ble_eq_true rfl) (fun y6 μ5 => ?_)
      exact sm_iret (pc := 33) dX9_tell_33 rfl
    · refine sm_iconst (pc := 22) dX9_tell_22 (v := -1) (by decide) ?_
      exact sm_iret (pc := 23) dX9_tell_23 rfl
theorem c_X9_tell (G : am_G) (l : Launch) (N : Nat) (a1 : Int32) (a2 : Int32) (μ : am_M) : ct_P G l am_ci 2 me_X9_tell [.ref (am_ad G 0 0), .int a1, .int a2] μ (f_X9_tell N a1 a2 μ) := ct_of (by decide +kernel) (Nat.le_of_ble_eq_true rfl) rfl (p_X9_tell_0 G l 2 (Nat.le_refl _) N a1 a2 μ)

def f_X9_judge_0 (N : Nat) (μ : am_M) : Option (Int32 × am_M) :=
am_bd (f_X2_judged N μ) (fun y2 μ1 => some (y2, μ1))
def f_X9_judge (N : Nat) (μ : am_M) : Option (Int32 × am_M) := f_X9_judge_0 N μ
set_option maxHeartbeats 4000000 in
set_option maxRecDepth 100000 in
theorem p_X9_judge_0 (G : am_G) (l : Launch) (d : Nat) (hd0 : 106 ≤ d) (N : Nat) (μ : am_M) : sm_P G l am_ci d me_X9_judge 0 [(0, .ref (am_ad G 0 0))] [] μ (f_X9_judge_0 N μ) := by
  unfold f_X9_judge_0
  refine sm_aload_n (pc := 0) dX9_judge_0 rfl 0 rfl ?_
  refine sm_getr (pc := 1) dX9_judge_1 fi_X9_53 ?_
  refine sm_callVi (pc := 4) (As := []) (rest := []) dX9_judge_4 (c_X2_judged G l N μ) (by omega) wl_X9_208 vm_X2_judged rfl rfl (Nat.le_of_ble_eq_true rfl) (fun y2 μ1 => ?_)
  exact sm_iret (pc := 7) dX9_judge_7 rfl
theorem c_X9_judge (G : am_G) (l : Launch) (N : Nat) (μ : am_M) : ct_P G l am_ci 106 me_X9_judge [.ref (am_ad G 0 0)] μ (f_X9_judge N μ) := ct_of (by decide +kernel) (Nat.le_of_ble_eq_true rfl) rfl (p_X9_judge_0 G l 106 (Nat.le_refl _) N μ)

def f_X9_changed_0 (N : Nat) (a1 : Int32) (a2 : Int32) (a3 : Int32) (μ : am_M) : Option (Int32 × am_M) :=
am_bd (f_X5_hasSort N a1 μ) (fun y2 μ1 => if y2 = 0 then (some ((-1 : Int32), μ1)) else (am_bd (f_X9_isWithin N a2 (1 : Int32) (99 : Int32) μ1) (fun y4 μ3 => if y4 = 0 then (some ((-1 : Int32), μ3)) else (am_bd (f_X9_isWithin N a3 (0 : Int32) (1 : Int32) μ3) (fun y6 μ5 => if y6 = 0 then (some ((-1 : Int32), μ5)) else (am_bd (f_X0_exchange N a1 a2 μ5) (fun _ μ7 => am_nm (μ7.1 5 0 9) (fun y8 => if a3 = 0 then (some (y8, μ7)) else (am_bd (f_X0_plainWorth N a1 μ7) (fun y10 μ9 => some ((y8 - y10), μ9)))))))))))
def f_X9_changed (N : Nat) (a1 : Int32) (a2 : Int32) (a3 : Int32) (μ : am_M) : Option (Int32 × am_M) := f_X9_changed_0 N a1 a2 a3 μ
set_option maxHeartbeats 4000000 in
set_option maxRecDepth 100000 in
theorem p_X9_changed_0 (G : am_G) (l : Launch) (d : Nat) (hd0 : 105 ≤ d) (N : Nat) (a1 : Int32) (a2 : Int32) (a3 : Int32) (μ : am_M) : sm_P G l am_ci d me_X9_changed 0 [(0, .ref (am_ad G 0 0)), (1, .int a1), (2, .int a2), (3, .int a3)] [] μ (f_X9_changed_0 N a1 a2 a3 μ) := by
  unfold f_X9_changed_0
  refine sm_aload_n (pc := 0) dX9_changed_0 rfl 0 rfl ?_
  refine sm_getr (pc := 1) dX9_changed_1 fi_X9_12 ?_
  refine sm_iload_n (pc := 4) dX9_changed_4 rfl 1 rfl ?_
  refine sm_callVi (pc := 5) (As := [.int a1]) (rest := []) dX9_changed_5 (c_X5_hasSort G l N a1 μ) (by omega) wl_X9_112 vm_X5_hasSort rfl rfl (Nat.le_of_ble_eq_true rfl) (fun y2 μ1 => ?_)
  refine sm_if_eq (pc := 8) (tgt := 30) dX9_changed_8 (by decide) ?_ ?_
  · refine sm_iconst (pc := 30) dX9_changed_30 (v := -1) (by decide) ?_
    exact sm_iret (pc := 31) dX9_changed_31 rfl
  · refine sm_iload_n (pc := 11) dX9_changed_11 rfl 2 rfl ?_
    refine sm_iconst (pc := 12) dX9_changed_12 (v := 1) (by decide) ?_
    refine sm_bipush (pc := 13) dX9_changed_13 (v := 99) (by decide) ?_
    refine sm_callSi (pc := 15) (As := [.int a2, .int (1 : Int32), .int (99 : Int32)]) (rest := []) dX9_changed_15 (c_X9_isWithin G l N a2 (1 : Int32) (99 : Int32) μ1) (by omega) wl_X9_78 st_X9_isWithin rfl rfl (Nat.le_of_ble_eq_true rfl) (fun y4 μ3 => ?_)
    refine sm_if_eq (pc := 18) (tgt := 30) dX9_changed_18 (by decide) ?_ ?_
    · refine sm_iconst (pc := 30) dX9_changed_30 (v := -1) (by decide) ?_
      exact sm_iret (pc := 31) dX9_changed_31 rfl
    · refine sm_iload_n (pc := 21) dX9_changed_21 rfl 3 rfl ?_
      refine sm_iconst (pc := 22) dX9_changed_22 (v := 0) (by decide) ?_
      refine sm_iconst (pc := 23) dX9_changed_23 (v := 1) (by decide) ?_
      refine sm_callSi (pc := 24) (As := [.int a3, .int (0 : Int32), .int (1 : Int32)]) (rest := []) dX9_changed_24 (c_X9_isWithin G l N a3 (0 : Int32) (1 : Int32) μ3) (by omega) wl_X9_78 st_X9_isWithin rfl rfl (Nat.le_of_ble_eq_true rfl) (fun y6 μ5 => ?_)
      refine sm_if_ne (pc := 27) (tgt := 32) dX9_changed_27 (by decide) ?_ ?_
      · refine sm_aload_n (pc := 32) dX9_changed_32 rfl 0 rfl ?_
        refine sm_getr (pc := 33) dX9_changed_33 fi_X9_60 ?_
        refine sm_iload_n (pc := 36) dX9_changed_36 rfl 1 rfl ?_
        refine sm_iload_n (pc := 37) dX9_changed_37 rfl 2 rfl ?_
        refine sm_callVv (pc := 38) (As := [.int a1, .int a2]) (rest := []) dX9_changed_38 (c_X0_exchange G l N a1 a2 μ5) (by omega) wl_X9_211 vm_X0_exchange rfl rfl (Nat.le_of_ble_eq_true rfl) (fun _ μ7 => ?_)
        refine sm_aload_n (pc := 41) dX9_changed_41 rfl 0 rfl ?_
        refine sm_getr (pc := 42) dX9_changed_42 fi_X9_44 ?_
        refine sm_geti (pc := 45) dX9_changed_45 fi_X9_156 ?_
        refine sm_nmI (fun y8 => ?_)
        refine sm_istore (pc := 48) (lv' := [(4, .int y8), (0, .ref (am_ad G 0 0)), (1, .int a1), (2, .int a2), (3, .int a3)]) dX9_changed_48 (by decide) rfl ?_
        refine sm_iload_n (pc := 50) dX9_changed_50 rfl 4 rfl ?_
        refine sm_if_ne (pc := 51) (tgt := 57) dX9_changed_51 (by decide) ?_ ?_
        · refine sm_iload (pc := 57) dX9_changed_57 0 rfl ?_
          refine sm_aload_n (pc := 59) dX9_changed_59 rfl 1 rfl ?_
          refine sm_getr (pc := 60) dX9_changed_60 fi_X9_60 ?_
          refine sm_iload_n (pc := 63) dX9_changed_63 rfl 2 rfl ?_
          refine sm_callVi (pc := 64) (As := [.int a1]) (rest := [.int y8]) dX9_changed_64 (c_X0_plainWorth G l N a1 μ7) (by omega) wl_X9_215 vm_X0_plainWorth rfl rfl (Nat.le_of_ble_eq_true rfl) (fun y10 μ9 => ?_)
          refine sm_isub (pc := 67) dX9_changed_67 ?_
          exact sm_iret (pc := 68) dX9_changed_68 rfl
        · refine sm_iload (pc := 54) dX9_changed_54 0 rfl ?_
          exact sm_iret (pc := 56) dX9_changed_56 rfl
      · refine sm_iconst (pc := 30) dX9_changed_30 (v := -1) (by decide) ?_
        exact sm_iret (pc := 31) dX9_changed_31 rfl
theorem c_X9_changed (G : am_G) (l : Launch) (N : Nat) (a1 : Int32) (a2 : Int32) (a3 : Int32) (μ : am_M) : ct_P G l am_ci 105 me_X9_changed [.ref (am_ad G 0 0), .int a1, .int a2, .int a3] μ (f_X9_changed N a1 a2 a3 μ) := ct_of (by decide +kernel) (Nat.le_of_ble_eq_true rfl) rfl (p_X9_changed_0 G l 105 (Nat.le_refl _) N a1 a2 a3 μ)

def f_X9_free_10 (N : Nat) (r_10 : Int32 → Int32 → am_M → Option (Int32 × am_M)) (x1 : Int32) (x2 : Int32) (μ : am_M) : Option (Int32 × am_M) :=
if (99 : Int32) < x2 then (some ((-2 : Int32), μ)) else (am_bd (f_X0_pointsTaken N x2 μ) (fun y4 μ3 => if x1 < y4 then (r_10 x1 (x2 + (1 : Int32)) μ3) else (some (x2, μ3))))
def f_X9_free_10_lp (N : Nat) : Nat → Int32 → Int32 → am_M → Option (Int32 × am_M)
  | 0, _, _, _ => none
  | n + 1, x1, x2, μ => f_X9_free_10 N (f_X9_free_10_lp N n) x1 x2 μ
def f_X9_free_0 (N : Nat) (μ : am_M) : Option (Int32 × am_M) :=
am_bd (f_X0_pointsThere N μ) (fun y2 μ1 => f_X9_free_10_lp N N y2 (1 : Int32) μ1)
def f_X9_free (N : Nat) (μ : am_M) : Option (Int32 × am_M) := f_X9_free_0 N μ
set_option maxHeartbeats 4000000 in
set_option maxRecDepth 100000 in
theorem p_X9_free_10 (G : am_G) (l : Launch) (d : Nat) (hd0 : 105 ≤ d) (N : Nat) (r_10 : Int32 → Int32 → am_M → Option (Int32 × am_M)) (H_10 : ∀ (x1 : Int32) (x2 : Int32) (μ : am_M), sm_P G l am_ci d me_X9_free 10 [(0, .ref (am_ad G 0 0)), (1, .int x1), (2, .int x2)] [] μ (r_10 x1 x2 μ)) (x1 : Int32) (x2 : Int32) (μ : am_M) : sm_P G l am_ci d me_X9_free 10 [(0, .ref (am_ad G 0 0)), (1, .int x1), (2, .int x2)] [] μ (f_X9_free_10 N r_10 x1 x2 μ) := by
  unfold f_X9_free_10
  refine sm_iload_n (pc := 10) dX9_free_10 rfl 2 rfl ?_
  refine sm_bipush (pc := 11) dX9_free_11 (v := 99) (by decide) ?_
  refine sm_icmp_gt (pc := 13) (tgt := 36) dX9_free_13 (by decide) ?_ ?_
  · refine sm_bipush (pc := 36) dX9_free_36 (v := -2) (by decide) ?_
    exact sm_iret (pc := 38) dX9_free_38 rfl
  · refine sm_aload_n (pc := 16) dX9_free_16 rfl 0 rfl ?_
    refine sm_getr (pc := 17) dX9_free_17 fi_X9_60 ?_
    refine sm_iload_n (pc := 20) dX9_free_20 rfl 2 rfl ?_
    refine sm_callVi (pc := 21) (As := [.int x2]) (rest := []) dX9_free_21 (c_X0_pointsTaken G l N x2 μ) (by omega) wl_X9_221 vm_X0_pointsTaken rfl rfl (Nat.le_of_ble_eq_true rfl) (fun y4 μ3 => ?_)
    refine sm_iload_n (pc := 24) dX9_free_24 rfl 1 rfl ?_
    refine sm_icmp_gt (pc := 25) (tgt := 30) dX9_free_25 (by decide) ?_ ?_
    · refine sm_iinc (pc := 30) (v := (x2 + (1 : Int32))) (lv' := [(2, .int (x2 + (1 : Int32))), (0, .ref (am_ad G 0 0)), (1, .int x1)]) dX9_free_30 2 rfl rfl (by decide) rfl ?_
      refine sm_goto (pc := 33) (tgt := 10) dX9_free_33 (by decide) ?_
      refine sm_sub [1, 2, 0] rfl ?_
      exact H_10 x1 (x2 + (1 : Int32)) μ3
    · refine sm_iload_n (pc := 28) dX9_free_28 rfl 2 rfl ?_
      exact sm_iret (pc := 29) dX9_free_29 rfl
theorem p_X9_free_10_lp (G : am_G) (l : Launch) (d : Nat) (hd0 : 105 ≤ d) (N : Nat) : ∀ (n : Nat) (x1 : Int32) (x2 : Int32) (μ : am_M), sm_P G l am_ci d me_X9_free 10 [(0, .ref (am_ad G 0 0)), (1, .int x1), (2, .int x2)] [] μ (f_X9_free_10_lp N n x1 x2 μ) := by
  intro n
  induction n with
  | zero => intros; exact sm_none
  | succ n ih => exact fun x1 x2 μ => p_X9_free_10 G l d hd0 N (f_X9_free_10_lp N n) ih x1 x2 μ
set_option maxHeartbeats 4000000 in
set_option maxRecDepth 100000 in
theorem p_X9_free_0 (G : am_G) (l : Launch) (d : Nat) (hd0 : 105 ≤ d) (N : Nat) (μ : am_M) : sm_P G l am_ci d me_X9_free 0 [(0, .ref (am_ad G 0 0))] [] μ (f_X9_free_0 N μ) := by
  unfold f_X9_free_0
  refine sm_aload_n (pc := 0) dX9_free_0 rfl 0 rfl ?_
  refine sm_getr (pc := 1) dX9_free_1 fi_X9_60 ?_
  refine sm_callVi (pc := 4) (As := []) (rest := []) dX9_free_4 (c_X0_pointsThere G l N μ) (by omega) wl_X9_218 vm_X0_pointsThere rfl rfl (Nat.le_of_ble_eq_true rfl) (fun y2 μ1 => ?_)
  refine sm_istore_n (pc := 7) (lv' := [(1, .int y2), (0, .ref (am_ad G 0 0))]) dX9_free_7 rfl (by decide) rfl ?_
  refine sm_iconst (pc := 8) dX9_free_8 (v := 1) (by decide) ?_
  refine sm_istore_n (pc := 9) (lv' := [(2, .int (1 : Int32)), (1, .int y2), (0, .ref (am_ad G 0 0))]) dX9_free_9 rfl (by decide) rfl ?_
  refine sm_sub [2, 1, 0] rfl ?_
  exact p_X9_free_10_lp G l d hd0 N N y2 (1 : Int32) μ1
theorem c_X9_free (G : am_G) (l : Launch) (N : Nat) (μ : am_M) : ct_P G l am_ci 105 me_X9_free [.ref (am_ad G 0 0)] μ (f_X9_free N μ) := ct_of (by decide +kernel) (Nat.le_of_ble_eq_true rfl) rfl (p_X9_free_0 G l 105 (Nat.le_refl _) N μ)

def f_X9_black_0 (N : Nat) (a1 : Int32) (a2 : Int32) (a3 : Int32) (μ : am_M) : Option (Int32 × am_M) :=
am_bd (f_X5_hasSort N a1 μ) (fun y2 μ1 => if y2 = 0 then (some ((-1 : Int32), μ1)) else (am_bd (f_X9_isWithin N a2 (100 : Int32) (9999 : Int32) μ1) (fun y4 μ3 => if y4 = 0 then (some ((-1 : Int32), μ3)) else (am_bd (f_X9_isWithin N a3 (0 : Int32) (100 : Int32) μ3) (fun y6 μ5 => if y6 = 0 then (some ((-1 : Int32), μ5)) else (am_bd (f_X0_byStealth N a1 (a2 / (100 : Int32)) (am_rem a2 (100 : Int32)) a3 μ5) (fun y8 μ7 => some (y8, μ7))))))))
def f_X9_black (N : Nat) (a1 : Int32) (a2 : Int32) (a3 : Int32) (μ : am_M) : Option (Int32 × am_M) := f_X9_black_0 N a1 a2 a3 μ
set_option maxHeartbeats 4000000 in
set_option maxRecDepth 100000 in
theorem p_X9_black_0 (G : am_G) (l : Launch) (d : Nat) (hd0 : 104 ≤ d) (N : Nat) (a1 : Int32) (a2 : Int32) (a3 : Int32) (μ : am_M) : sm_P G l am_ci d me_X9_black 0 [(0, .ref (am_ad G 0 0)), (1, .int a1), (2, .int a2), (3, .int a3)] [] μ (f_X9_black_0 N a1 a2 a3 μ) := by
  unfold f_X9_black_0
  refine sm_aload_n (pc := 0) dX9_black_0 rfl 0 rfl ?_
  refine sm_getr (pc := 1) dX9_black_1 fi_X9_12 ?_
  refine sm_iload_n (pc := 4) dX9_black_4 rfl 1 rfl ?_
  refine sm_callVi (pc := 5) (As := [.int a1]) (rest := []) dX9_black_5 (c_X5_hasSort G l N a1 μ) (by omega) wl_X9_112 vm_X5_hasSort rfl rfl (Nat.le_of_ble_eq_true rfl) (fun y2 μ1 => ?_)
  refine sm_if_eq (pc := 8) (tgt := 33) dX9_black_8 (by decide) ?_ ?_
  · refine sm_iconst (pc := 33) dX9_black_33 (v := -1) (by decide) ?_
    exact sm_iret (pc := 34) dX9_black_34 rfl
  · refine sm_iload_n (pc := 11) dX9_black_11 rfl 2 rfl ?_
    refine sm_bipush (pc := 12) dX9_black_12 (v := 100) (by decide) ?_
    refine sm_sipush (pc := 14) dX9_black_14 (v := 9999) (by decide) ?_
    refine sm_callSi (pc := 17) (As := [.int a2, .int (100 : Int32), .int (9999 : Int32)]) (rest := []) dX9_black_17 (c_X9_isWithin G l N a2 (100 : Int32) (9999 : Int32) μ1) (by omega) wl_X9_78 st_X9_isWithin rfl rfl (Nat.le_of_ble_eq_true rfl) (fun y4 μ3 => ?_)
    refine sm_if_eq (pc := 20) (tgt := 33) dX9_black_20 (by decide) ?_ ?_
    · refine sm_iconst (pc := 33) dX9_black_33 (v := -1) (by decide) ?_
      exact sm_iret (pc := 34) dX9_black_34 rfl
    · refine sm_iload_n (pc := 23) dX9_black_23 rfl 3 rfl ?_
      refine sm_iconst (pc := 24) dX9_black_24 (v := 0) (by decide) ?_
      refine sm_bipush (pc := 25) dX9_black_25 (v := 100) (by decide) ?_
      refine sm_callSi (pc := 27) (As := [.int a3, .int (0 : Int32), .int (100 : Int32)]) (rest := []) dX9_black_27 (c_X9_isWithin G l N a3 (0 : Int32) (100 : Int32) μ3) (by omega) wl_X9_78 st_X9_isWithin rfl rfl (Nat.le_of_ble_eq_true rfl) (fun y6 μ5 => ?_)
      refine sm_if_ne (pc := 30) (tgt := 35) dX9_black_30 (by decide) ?_ ?_
      · refine sm_aload_n (pc := 35) dX9_black_35 rfl 0 rfl ?_
        refine sm_getr (pc := 36) dX9_black_36 fi_X9_60 ?_
        refine sm_iload_n (pc := 39) dX9_black_39 rfl 1 rfl ?_
        refine sm_iload_n (pc := 40) dX9_black_40 rfl 2 rfl ?_
        refine sm_bipush (pc := 41) dX9_black_41 (v := 100) (by decide) ?_
        refine sm_idivc (pc := 43) dX9_black_43 (by decide) ?_
        refine sm_iload_n (pc := 44) dX9_black_44 rfl 2 rfl ?_
        refine sm_bipush (pc := 45) dX9_black_45 (v := 100) (by decide) ?_
        refine sm_iremc (pc := 47) dX9_black_47 (by decide) ?_
        refine sm_iload_n (pc := 48) dX9_black_48 rfl 3 rfl ?_
        refine sm_callVi (pc := 49) (As := [.int a1, .int (a2 / (100 : Int32)), .int (am_rem a2 (100 : Int32)), .int a3]) (rest := []) dX9_black_49 (c_X0_byStealth G l N a1 (a2 / (100 : Int32)) (am_rem a2 (100 : Int32)) a3 μ5) (by omega) wl_X9_224 vm_X0_byStealth rfl rfl (Nat.le_of_ble_eq_true rfl) (fun y8 μ7 => ?_)
        exact sm_iret (pc := 52) dX9_black_52 rfl
      · refine sm_iconst (pc := 33) dX9_black_33 (v := -1) (by decide) ?_
        exact sm_iret (pc := 34) dX9_black_34 rfl
theorem c_X9_black (G : am_G) (l : Launch) (N : Nat) (a1 : Int32) (a2 : Int32) (a3 : Int32) (μ : am_M) : ct_P G l am_ci 104 me_X9_black [.ref (am_ad G 0 0), .int a1, .int a2, .int a3] μ (f_X9_black N a1 a2 a3 μ) := ct_of (by decide +kernel) (Nat.le_of_ble_eq_true rfl) rfl (p_X9_black_0 G l 104 (Nat.le_refl _) N a1 a2 a3 μ)

def f_X9_isShare_16 (N : Nat) (μ : am_M) : Option (Int32 × am_M) :=
am_z (1 : Int32) μ
def f_X9_isShare_0 (N : Nat) (a0 : Int32) (μ : am_M) : Option (Int32 × am_M) :=
if a0 = 0 then (f_X9_isShare_16 N μ) else (am_bd (f_X9_isWithin N a0 (100 : Int32) (900 : Int32) μ) (fun y2 μ1 => if y2 = 0 then (am_z (0 : Int32) μ1) else (f_X9_isShare_16 N μ1)))
def f_X9_isShare (N : Nat) (a0 : Int32) (μ : am_M) : Option (Int32 × am_M) := f_X9_isShare_0 N a0 μ
set_option maxHeartbeats 4000000 in
set_option maxRecDepth 100000 in
theorem p_X9_isShare_16 (G : am_G) (l : Launch) (d : Nat) (hd0 : 1 ≤ d) (N : Nat) (μ : am_M) : sm_P G l am_ci d me_X9_isShare 16 [] [] μ (f_X9_isShare_16 N μ) := by
  unfold f_X9_isShare_16
  refine sm_iconst (pc := 16) dX9_isShare_16 (v := 1) (by decide) ?_
  refine sm_goto (pc := 17) (tgt := 21) dX9_isShare_17 (by decide) ?_
  exact sm_zret (pc := 21) dX9_isShare_21 rfl
set_option maxHeartbeats 4000000 in
set_option maxRecDepth 100000 in
theorem p_X9_isShare_0 (G : am_G) (l : Launch) (d : Nat) (hd0 : 1 ≤ d) (N : Nat) (a0 : Int32) (μ : am_M) : sm_P G l am_ci d me_X9_isShare 0 [(0, .int a0)] [] μ (f_X9_isShare_0 N a0 μ) := by
  unfold f_X9_isShare_0
  refine sm_iload_n (pc := 0) dX9_isShare_0 rfl 0 rfl ?_
  refine sm_if_eq (pc := 1) (tgt := 16) dX9_isShare_1 (by decide) ?_ ?_
  · refine sm_sub [] rfl ?_
    exact p_X9_isShare_16 G l d hd0 N μ
  · refine sm_iload_n (pc := 4) dX9_isShare_4 rfl 0 rfl ?_
    refine sm_bipush (pc := 5) dX9_isShare_5 (v := 100) (by decide) ?_
    refine sm_sipush (pc := 7) dX9_isShare_7 (v := 900) (by decide) ?_
    refine sm_callSi (pc := 10) (As := [.int a0, .int (100 : Int32), .int (900 : Int32)]) (rest := []) dX9_isShare_10 (c_X9_isWithin G l N a0 (100 : Int32) (900 : Int32) μ) (by omega) wl_X9_78 st_X9_isWithin rfl rfl (Nat.le_of_ble_eq_true rfl) (fun y2 μ1 => ?_)
    refine sm_if_eq (pc := 13) (tgt := 20) dX9_isShare_13 (by decide) ?_ ?_
    · refine sm_iconst (pc := 20) dX9_isShare_20 (v := 0) (by decide) ?_
      exact sm_zret (pc := 21) dX9_isShare_21 rfl
    · refine sm_sub [] rfl ?_
      exact p_X9_isShare_16 G l d hd0 N μ1
theorem c_X9_isShare (G : am_G) (l : Launch) (N : Nat) (a0 : Int32) (μ : am_M) : ct_P G l am_ci 1 me_X9_isShare [.int a0] μ (f_X9_isShare N a0 μ) := ct_of (by decide +kernel) (Nat.le_of_ble_eq_true rfl) rfl (p_X9_isShare_0 G l 1 (Nat.le_refl _) N a0 μ)

def f_X9_beside_0 (N : Nat) (a1 : Int32) (a2 : Int32) (μ : am_M) : Option (Int32 × am_M) :=
am_bd (f_X5_hasSort N a1 μ) (fun y2 μ1 => if y2 = 0 then (some ((-1 : Int32), μ1)) else (am_bd (f_X9_isShare N a2 μ1) (fun y4 μ3 => if y4 = 0 then (some ((-1 : Int32), μ3)) else (am_bd (f_X0_otherwise N a1 a2 μ3) (fun y6 μ5 => some (y6, μ5))))))
def f_X9_beside (N : Nat) (a1 : Int32) (a2 : Int32) (μ : am_M) : Option (Int32 × am_M) := f_X9_beside_0 N a1 a2 μ
set_option maxHeartbeats 4000000 in
set_option maxRecDepth 100000 in
theorem p_X9_beside_0 (G : am_G) (l : Launch) (d : Nat) (hd0 : 105 ≤ d) (N : Nat) (a1 : Int32) (a2 : Int32) (μ : am_M) : sm_P G l am_ci d me_X9_beside 0 [(0, .ref (am_ad G 0 0)), (1, .int a1), (2, .int a2)] [] μ (f_X9_beside_0 N a1 a2 μ) := by
  unfold f_X9_beside_0
  refine sm_aload_n (pc := 0) dX9_beside_0 rfl 0 rfl ?_
  refine sm_getr (pc := 1) dX9_beside_1 fi_X9_12 ?_
  refine sm_iload_n (pc := 4) dX9_beside_4 rfl 1 rfl ?_
  refine sm_callVi (pc := 5) (As := [.int a1]) (rest := []) dX9_beside_5 (c_X5_hasSort G l N a1 μ) (by omega) wl_X9_112 vm_X5_hasSort rfl rfl (Nat.le_of_ble_eq_true rfl) (fun y2 μ1 => ?_)
  refine sm_if_eq (pc := 8) (tgt := 18) dX9_beside_8 (by decide) ?_ ?_
  · refine sm_iconst (pc := 18) dX9_beside_18 (v := -1) (by decide) ?_
    exact sm_iret (pc := 19) dX9_beside_19 rfl
  · refine sm_iload_n (pc := 11) dX9_beside_11 rfl 2 rfl ?_
    refine sm_callSi (pc := 12) (As := [.int a2]) (rest := []) dX9_beside_12 (c_X9_isShare G l N a2 μ1) (by omega) wl_X9_227 st_X9_isShare rfl rfl (Nat.le_of_ble_eq_true rfl) (fun y4 μ3 => ?_)
    refine sm_if_ne (pc := 15) (tgt := 20) dX9_beside_15 (by decide) ?_ ?_
    · refine sm_aload_n (pc := 20) dX9_beside_20 rfl 0 rfl ?_
      refine sm_getr (pc := 21) dX9_beside_21 fi_X9_60 ?_
      refine sm_iload_n (pc := 24) dX9_beside_24 rfl 1 rfl ?_
      refine sm_iload_n (pc := 25) dX9_beside_25 rfl 2 rfl ?_
      refine sm_callVi (pc := 26) (As := [.int a1, .int a2]) (rest := []) dX9_beside_26 (c_X0_otherwise G l N a1 a2 μ3) (by omega) wl_X9_230 vm_X0_otherwise rfl rfl (Nat.le_of_ble_eq_true rfl) (fun y6 μ5 => ?_)
      exact sm_iret (pc := 29) dX9_beside_29 rfl
    · refine sm_iconst (pc := 18) dX9_beside_18 (v := -1) (by decide) ?_
      exact sm_iret (pc := 19) dX9_beside_19 rfl
theorem c_X9_beside (G : am_G) (l : Launch) (N : Nat) (a1 : Int32) (a2 : Int32) (μ : am_M) : ct_P G l am_ci 105 me_X9_beside [.ref (am_ad G 0 0), .int a1, .int a2] μ (f_X9_beside N a1 a2 μ) := ct_of (by decide +kernel) (Nat.le_of_ble_eq_true rfl) rfl (p_X9_beside_0 G l 105 (Nat.le_refl _) N a1 a2 μ)

def f_X9_loses_0 (N : Nat) (a1 : Int32) (μ : am_M) : Option (Int32 × am_M) :=
am_bd (f_X9_isShare N a1 μ) (fun y2 μ1 => if y2 = 0 then (some ((-1 : Int32), μ1)) else (am_bd (f_X0_losers N a1 μ1) (fun y4 μ3 => some (y4, μ3))))
def f_X9_loses (N : Nat) (a1 : Int32) (μ : am_M) : Option (Int32 × am_M) := f_X9_loses_0 N a1 μ
set_option maxHeartbeats 4000000 in
set_option maxRecDepth 100000 in
theorem p_X9_loses_0 (G : am_G) (l : Launch) (d : Nat) (hd0 : 106 ≤ d) (N : Nat) (a1 : Int32) (μ : am_M) : sm_P G l am_ci d me_X9_loses 0 [(0, .ref (am_ad G 0 0)), (1, .int a1)] [] μ (f_X9_loses_0 N a1 μ) := by
  unfold f_X9_loses_0
  refine sm_iload_n (pc := 0) dX9_loses_0 rfl 1 rfl ?_
  refine sm_callSi (pc := 1) (As := [.int a1]) (rest := []) dX9_loses_1 (c_X9_isShare G l N a1 μ) (by omega) wl_X9_227 st_X9_isShare rfl rfl (Nat.le_of_ble_eq_true rfl) (fun y2 μ1 => ?_)
  refine sm_if_eq (pc := 4) (tgt := 18) dX9_loses_4 (by decide) ?_ ?_
  · refine sm_iconst (pc := 18) dX9_loses_18 (v := -1) (by decide) ?_
    exact sm_iret (pc := 19) dX9_loses_19 rfl
  · refine sm_aload_n (pc := 7) dX9_loses_7 rfl 0 rfl ?_
    refine sm_getr (pc := 8) dX9_loses_8 fi_X9_60 ?_
    refine sm_iload_n (pc := 11) dX9_loses_11 rfl 1 rfl ?_
    refine sm_callVi (pc := 12) (As := [.int a1]) (rest := []) dX9_loses_12 (c_X0_losers G l N a1 μ1) (by omega) wl_X9_233 vm_X0_losers rfl rfl (Nat.le_of_ble_eq_true rfl) (fun y4 μ3 => ?_)
    refine sm_goto (pc := 15) (tgt := 19) dX9_loses_15 (by decide) ?_
    exact sm_iret (pc := 19) dX9_loses_19 rfl
theorem c_X9_loses (G : am_G) (l : Launch) (N : Nat) (a1 : Int32) (μ : am_M) : ct_P G l am_ci 106 me_X9_loses [.ref (am_ad G 0 0), .int a1] μ (f_X9_loses N a1 μ) := ct_of (by decide +kernel) (Nat.le_of_ble_eq_true rfl) rfl (p_X9_loses_0 G l 106 (Nat.le_refl _) N a1 μ)

def f_X9_fewest_49 (N : Nat) (r_2 : Int32 → am_M → Option (Int32 × am_M)) (r_15 : Int32 → Int32 → am_M → Option (Int32 × am_M)) (x1 : Int32) (x2 : Int32) (μ : am_M) : Option (Int32 × am_M) :=
r_15 x1 (x2 + (1 : Int32)) μ
def f_X9_fewest_15 (N : Nat) (r_2 : Int32 → am_M → Option (Int32 × am_M)) (r_15 : Int32 → Int32 → am_M → Option (Int32 × am_M)) (x1 : Int32) (x2 : Int32) (μ : am_M) : Option (Int32 × am_M) :=
if ((1 : Int32) <<< ((μ.1 1 0 1) &&& 31)) ≤ x2 then (r_2 (x1 + (1 : Int32)) μ) else (am_bd (f_J_bitCount N x2 μ) (fun y2 μ1 => if y2 = x1 then (am_bd (f_X2_servesAll N x2 μ1) (fun y4 μ3 => if y4 = 0 then (f_X9_fewest_49 N r_2 r_15 x1 x2 μ3) else (some (x2, μ3)))) else (f_X9_fewest_49 N r_2 r_15 x1 x2 μ1)))
def f_X9_fewest_15_lp (N : Nat) (r_2 : Int32 → am_M → Option (Int32 × am_M)) : Nat → Int32 → Int32 → am_M → Option (Int32 × am_M)
  | 0, _, _, _ => none
  | n + 1, x1, x2, μ => f_X9_fewest_15 N r_2 (f_X9_fewest_15_lp N r_2 n) x1 x2 μ
def f_X9_fewest_2 (N : Nat) (r_2 : Int32 → am_M → Option (Int32 × am_M)) (x1 : Int32) (μ : am_M) : Option (Int32 × am_M) :=
if (μ.1 1 0 1) < x1 then (some ((-2 : Int32), μ)) else (f_X9_fewest_15_lp N r_2 N x1 (0 : Int32) μ)
def f_X9_fewest_2_lp (N : Nat) : Nat → Int32 → am_M → Option (Int32 × am_M)
  | 0, _, _ => none
  | n + 1, x1, μ => f_X9_fewest_2 N (f_X9_fewest_2_lp N n) x1 μ
def f_X9_fewest_0 (N : Nat) (μ : am_M) : Option (Int32 × am_M) :=
f_X9_fewest_2_lp N N (0 : Int32) μ
def f_X9_fewest (N : Nat) (μ : am_M) : Option (Int32 × am_M) := f_X9_fewest_0 N μ
set_option maxHeartbeats 4000000 in
set_option maxRecDepth 100000 in
theorem p_X9_fewest_49 (G : am_G) (l : Launch) (d : Nat) (hd0 : 106 ≤ d) (N : Nat) (r_2 : Int32 → am_M → Option (Int32 × am_M)) (r_15 : Int32 → Int32 → am_M → Option (Int32 × am_M)) (H_2 : ∀ (x1 : Int32) (μ : am_M), sm_P G l am_ci d me_X9_fewest 2 [(0, .ref (am_ad G 0 0)), (1, .int x1)] [] μ (r_2 x1 μ)) (H_15 : ∀ (x1 : Int32) (x2 : Int32) (μ : am_M), sm_P G l am_ci d me_X9_fewest 15 [(0, .ref (am_ad G 0 0)), (1, .int x1), (2, .int x2)] [] μ (r_15 x1 x2 μ)) (x1 : Int32) (x2 : Int32) (μ : am_M) : sm_P G l am_ci d me_X9_fewest 49 [(0, .ref (am_ad G 0 0)), (1, .int x1), (2, .int x2)] [] μ (f_X9_fewest_49 N r_2 r_15 x1 x2 μ) := by
  unfold f_X9_fewest_49
  refine sm_iinc (pc := 49) (v := (x2 + (1 : Int32))) (lv' := [(2, .int (x2 + (1 : Int32))), (0, .ref (am_ad G 0 0)), (1, .int x1)]) dX9_fewest_49 2 rfl rfl (by decide) rfl ?_
  refine sm_goto (pc := 52) (tgt := 15) dX9_fewest_52 (by decide) ?_
  refine sm_sub [1, 2, 0] rfl ?_
  exact H_15 x1 (x2 + (1 : Int32)) μ
set_option maxHeartbeats 4000000 in
set_option maxRecDepth 100000 in
theorem p_X9_fewest_15 (G : am_G) (l : Launch) (d : Nat) (hd0 : 106 ≤ d) (N : Nat) (r_2 : Int32 → am_M → Option (Int32 × am_M)) (r_15 : Int32 → Int32 → am_M → Option (Int32 × am_M)) (H_2 : ∀ (x1 : Int32) (μ : am_M), sm_P G l am_ci d me_X9_fewest 2 [(0, .ref (am_ad G 0 0)), (1, .int x1)] [] μ (r_2 x1 μ)) (H_15 : ∀ (x1 : Int32) (x2 : Int32) (μ : am_M), sm_P G l am_ci d me_X9_fewest 15 [(0, .ref (am_ad G 0 0)), (1, .int x1), (2, .int x2)] [] μ (r_15 x1 x2 μ)) (x1 : Int32) (x2 : Int32) (μ : am_M) : sm_P G l am_ci d me_X9_fewest 15 [(0, .ref (am_ad G 0 0)), (1, .int x1), (2, .int x2)] [] μ (f_X9_fewest_15 N r_2 r_15 x1 x2 μ) := by
  unfold f_X9_fewest_15
  refine sm_iload_n (pc := 15) dX9_fewest_15 rfl 2 rfl ?_
  refine sm_iconst (pc := 16) dX9_fewest_16 (v := 1) (by decide) ?_
  refine sm_aload_n (pc := 17) dX9_fewest_17 rfl 0 rfl ?_
  refine sm_getr (pc := 18) dX9_fewest_18 fi_X9_12 ?_
  refine sm_geti (pc := 21) dX9_fewest_21 fi_X9_181 ?_
  refine sm_ishl (pc := 24) dX9_fewest_24 ?_
  refine sm_icmp_ge (pc := 25) (tgt := 55) dX9_fewest_25 (by decide) ?_ ?_
  · refine sm_iinc (pc := 55) (v := (x1 + (1 : Int32))) (lv' := [(1, .int (x1 + (1 : Int32))), (0, .ref (am_ad G 0 0)), (2, .int x2)]) dX9_fewest_55 1 rfl rfl (by decide) rfl ?_
    refine sm_goto (pc := 58) (tgt := 2) dX9_fewest_58 (by decide) ?_
    refine sm_sub [1, 0] rfl ?_
    exact H_2 (x1 + (1 : Int32)) μ
  · refine sm_iload_n (pc := 28) dX9_fewest_28 rfl 2 rfl ?_
    refine sm_callSi (pc := 29) (As := [.int x2]) (rest := []) dX9_fewest_29 (c_J_bitCount G l N x2 μ) (by omega) wl_X9_236 st_J_bitCount rfl rfl (Nat.le_of_ble_eq_true rfl) (fun y2 μ1 => ?_)
    refine sm_iload_n (pc := 32) dX9_fewest_32 rfl 1 rfl ?_
    refine sm_icmp_ne (pc := 33) (tgt := 49) dX9_fewest_33 (by decide) ?_ ?_
    · exact p_X9_fewest_49 G l d hd0 N r_2 r_15 H_2 H_15 x1 x2 μ1
    · refine sm_aload_n (pc := 36) dX9_fewest_36 rfl 0 rfl ?_
      refine sm_getr (pc := 37) dX9_fewest_37 fi_X9_53 ?_
      refine sm_iload_n (pc := 40) dX9_fewest_40 rfl 2 rfl ?_
      refine sm_callVi (pc := 41) (As := [.int x2]) (rest := []) dX9_fewest_41 (c_X2_servesAll G l N x2 μ1) (by omega) wl_X9_241 vm_X2_servesAll rfl rfl (Nat.le_of_ble_eq_true rfl) (fun y4 μ3 => ?_)
      refine sm_if_eq (pc := 44) (tgt := 49) dX9_fewest_44 (by decide) ?_ ?_
      · exact p_X9_fewest_49 G l d hd0 N r_2 r_15 H_2 H_15 x1 x2 μ3
      · refine sm_iload_n (pc := 47) dX9_fewest_47 rfl 2 rfl ?_
        exact sm_iret (pc := 48) dX9_fewest_48 rfl
theorem p_X9_fewest_15_lp (G : am_G) (l : Launch) (d : Nat) (hd0 : 106 ≤ d) (N : Nat) (r_2 : Int32 → am_M → Option (Int32 × am_M)) (H_2 : ∀ (x1 : Int32) (μ : am_M), sm_P G l am_ci d me_X9_fewest 2 [(0, .ref (am_ad G 0 0)), (1, .int x1)] [] μ (r_2 x1 μ)) : ∀ (n : Nat) (x1 : Int32) (x2 : Int32) (μ : am_M), sm_P G l am_ci d me_X9_fewest 15 [(0, .ref (am_ad G 0 0)), (1, .int x1), (2, .int x2)] [] μ (f_X9_fewest_15_lp N r_2 n x1 x2 μ) := by
  intro n
  induction n with
  | zero => intros; exact sm_none
  | succ n ih => exact fun x1 x2 μ => p_X9_fewest_15 G l d hd0 N r_2 (f_X9_fewest_15_lp N r_2 n) H_2 ih x1 x2 μ
set_option maxHeartbeats 4000000 in
set_option maxRecDepth 100000 in
theorem p_X9_fewest_2 (G : am_G) (l : Launch) (d : Nat) (hd0 : 106 ≤ d) (N : Nat) (r_2 : Int32 → am_M → Option (Int32 × am_M)) (H_2 : ∀ (x1 : Int32) (μ : am_M), sm_P G l am_ci d me_X9_fewest 2 [(0, .ref (am_ad G 0 0)), (1, .int x1)] [] μ (r_2 x1 μ)) (x1 : Int32) (μ : am_M) : sm_P G l am_ci d me_X9_fewest 2 [(0, .ref (am_ad G 0 0)), (1, .int x1)] [] μ (f_X9_fewest_2 N r_2 x1 μ) := by
  unfold f_X9_fewest_2
  refine sm_iload_n (pc := 2) dX9_fewest_2 rfl 1 rfl ?_
  refine sm_aload_n (pc := 3) dX9_fewest_3 rfl 0 rfl ?_
  refine sm_getr (pc := 4) dX9_fewest_4 fi_X9_12 ?_
  refine sm_geti (pc := 7) dX9_fewest_7 fi_X9_181 ?_
  refine sm_icmp_gt (pc := 10) (tgt := 61) dX9_fewest_10 (by decide) ?_ ?_
  · refine sm_bipush (pc := 61) dX9_fewest_61 (v := -2) (by decide) ?_
    exact sm_iret (pc := 63) dX9_fewest_63 rfl
  · refine sm_iconst (pc := 13) dX9_fewest_13 (v := 0) (by decide) ?_
    refine sm_istore_n (pc := 14) (lv' := [(2, .int (0 : Int32)), (0, .ref (am_ad G 0 0)), (1, .int x1)]) dX9_fewest_14 rfl (by decide) rfl ?_
    refine sm_sub [1, 2, 0] rfl ?_
    exact p_X9_fewest_15_lp G l d hd0 N r_2 H_2 N x1 (0 : Int32) μ
theorem p_X9_fewest_2_lp (G : am_G) (l : Launch) (d : Nat) (hd0 : 106 ≤ d) (N : Nat) : ∀ (n : Nat) (x1 : Int32) (μ : am_M), sm_P G l am_ci d me_X9_fewest 2 [(0, .ref (am_ad G 0 0)), (1, .int x1)] [] μ (f_X9_fewest_2_lp N n x1 μ) := by
  intro n
  induction n with
  | zero => intros; exact sm_none
  | succ n ih => exact fun x1 μ => p_X9_fewest_2 G l d hd0 N (f_X9_fewest_2_lp N n) ih x1 μ
set_option maxHeartbeats 4000000 in
set_option maxRecDepth 100000 in
theorem p_X9_fewest_0 (G : am_G) (l : Launch) (d : Nat) (hd0 : 106 ≤ d) (N : Nat) (μ : am_M) : sm_P G l am_ci d me_X9_fewest 0 [(0, .ref (am_ad G 0 0))] [] μ (f_X9_fewest_0 N μ) := by
  unfold f_X9_fewest_0
  refine sm_iconst (pc := 0) dX9_fewest_0 (v := 0) (by decide) ?_
  refine sm_istore_n (pc := 1) (lv' := [(1, .int (0 : Int32)), (0, .ref (am_ad G 0 0))]) dX9_fewest_1 rfl (by decide) rfl ?_
  refine sm_sub [1, 0] rfl ?_
  exact p_X9_fewest_2_lp G l d hd0 N N (0 : Int32) μ
theorem c_X9_fewest (G : am_G) (l : Launch) (N : Nat) (μ : am_M) : ct_P G l am_ci 106 me_X9_fewest [.ref (am_ad G 0 0)] μ (f_X9_fewest N μ) := ct_of (by decide +kernel) (Nat.le_of_ble_eq_true rfl) rfl (p_X9_fewest_0 G l 106 (Nat.le_refl _) N μ)

def f_X9_least_0 (N : Nat) (a1 : Int32) (μ : am_M) : Option (Int32 × am_M) :=
am_bd (f_X5_hasThing N a1 μ) (fun y2 μ1 => if y2 = 0 then (some ((-1 : Int32), μ1)) else (am_bd (f_X2_takersOf N a1 μ1) (fun y4 μ3 => some (y4, μ3))))
def f_X9_least (N : Nat) (a1 : Int32) (μ : am_M) : Option (Int32 × am_M) := f_X9_least_0 N a1 μ
set_option maxHeartbeats 4000000 in
set_option maxRecDepth 100000 in
theorem p_X9_least_0 (G : am_G) (l : Launch) (d : Nat) (hd0 : 105 ≤ d) (N : Nat) (a1 : Int32) (μ : am_M) : sm_P G l am_ci d me_X9_least 0 [(0, .ref (am_ad G 0 0)), (1, .int a1)] [] μ (f_X9_least_0 N a1 μ) := by
  unfold f_X9_least_0
  refine sm_aload_n (pc := 0) dX9_least_0 rfl 0 rfl ?_
  refine sm_getr (pc := 1) dX9_least_1 fi_X9_12 ?_
  refine sm_iload_n (pc := 4) dX9_least_4 rfl 1 rfl ?_
  refine sm_callVi (pc := 5) (As := [.int a1]) (rest := []) dX9_least_5 (c_X5_hasThing G l N a1 μ) (by omega) wl_X9_98 vm_X5_hasThing rfl rfl (Nat.le_of_ble_eq_true rfl) (fun y2 μ1 => ?_)
  refine sm_if_eq (pc := 8) (tgt := 22) dX9_least_8 (by decide) ?_ ?_
  · refine sm_iconst (pc := 22) dX9_least_22 (v := -1) (by decide) ?_
    exact sm_iret (pc := 23) dX9_least_23 rfl
  · refine sm_aload_n (pc := 11) dX9_least_11 rfl 0 rfl ?_
    refine sm_getr (pc := 12) dX9_least_12 fi_X9_53 ?_
    refine sm_iload_n (pc := 15) dX9_least_15 rfl 1 rfl ?_
    refine sm_callVi (pc := 16) (As := [.int a1]) (rest := []) dX9_least_16 (c_X2_takersOf G l N a1 μ1) (by omega) wl_X9_244 vm_X2_takersOf rfl rfl (Nat.le_of_ble_eq_true rfl) (fun y4 μ3 => ?_)
    refine sm_goto (pc := 19) (tgt := 23) dX9_least_19 (by decide) ?_
    exact sm_iret (pc := 23) dX9_least_23 rfl
theorem c_X9_least (G : am_G) (l : Launch) (N : Nat) (a1 : Int32) (μ : am_M) : ct_P G l am_ci 105 me_X9_least [.ref (am_ad G 0 0), .int a1] μ (f_X9_least N a1 μ) := ct_of (by decide +kernel) (Nat.le_of_ble_eq_true rfl) rfl (p_X9_least_0 G l 105 (Nat.le_refl _) N a1 μ)

def f_X9_months_0 (N : Nat) (a1 : Int32) (a2 : Int32) (a3 : Int32) (a4 : Int32) (μ : am_M) : Option (Int32 × am_M) :=
am_bd (f_X5_hasSort N a1 μ) (fun y2 μ1 => if y2 = 0 then (some ((-1 : Int32), μ1)) else (am_bd (f_X9_isWithin N a2 (1 : Int32) (12 : Int32) μ1) (fun y4 μ3 => if y4 = 0 then (some ((-1 : Int32), μ3)) else (am_bd (f_X9_isWithin N a3 (0 : Int32) (99 : Int32) μ3) (fun y6 μ5 => if y6 = 0 then (some ((-1 : Int32), μ5)) else (am_bd (f_X9_isWithin N a4 (0 : Int32) (1 : Int32) μ5) (fun y8 μ7 => if y8 = 0 then (some ((-1 : Int32), μ7)) else (am_bd (f_X0_live N a1 a2 a3 μ7) (fun _ μ9 => if a4 = 0 then (some ((μ9.1 7 0 3), μ9)) else (some ((μ9.1 7 0 4), μ9)))))))))))
def f_X9_months (N : Nat) (a1 : Int32) (a2 : Int32) (a3 : Int32) (a4 : Int32) (μ : am_M) : Option (Int32 × am_M) := f_X9_months_0 N a1 a2 a3 a4 μ
set_option maxHeartbeats 4000000 in
set_option maxRecDepth 100000 in
theorem p_X9_months_0 (G : am_G) (l : Launch) (d : Nat) (hd0 : 104 ≤ d) (N : Nat) (a1 : Int32) (a2 : Int32) (a3 : Int32) (a4 : Int32) (μ : am_M) : sm_P G l am_ci d me_X9_months 0 [(0, .ref (am_ad G 0 0)), (1, .int a1), (2, .int a2), (3, .int a3), (4, .int a4)] [] μ (f_X9_months_0 N a1 a2 a3 a4 μ) := by
  unfold f_X9_months_0
  refine sm_aload_n (pc := 0) dX9_months_0 rfl 0 rfl ?_
  refine sm_getr (pc := 1) dX9_months_1 fi_X9_12 ?_
  refine sm_iload_n (pc := 4) dX9_months_4 rfl 1 rfl ?_
  refine sm_callVi (pc := 5) (As := [.int a1]) (rest := []) dX9_months_5 (c_X5_hasSort G l N a1 μ) (by omega) wl_X9_112 vm_X5_hasSort rfl rfl (Nat.le_of_ble_eq_true rfl) (fun y2 μ1 => ?_)
  refine sm_if_eq (pc := 8) (tgt := 41) dX9_months_8 (by decide) ?_ ?_
  · refine sm_iconst (pc := 41) dX9_months_41 (v := -1) (by decide) ?_
    exact sm_iret (pc := 42) dX9_months_42 rfl
  · refine sm_iload_n (pc := 11) dX9_months_11 rfl 2 rfl ?_
    refine sm_iconst (pc := 12) dX9_months_12 (v := 1) (by decide) ?_
    refine sm_bipush (pc := 13) dX9_months_13 (v := 12) (by decide) ?_
    refine sm_callSi (pc := 15) (As := [.int a2, .int (1 : Int32), .int (12 : Int32)]) (rest := []) dX9_months_15 (c_X9_isWithin G l N a2 (1 : Int32) (12 : Int32) μ1) (by omega) wl_X9_78 st_X9_isWithin rfl rfl (Nat.le_of_ble_eq_true rfl) (fun y4 μ3 => ?_)
    refine sm_if_eq (pc := 18) (tgt := 41) dX9_months_18 (by decide) ?_ ?_
    · refine sm_iconst (pc := 41) dX9_months_41 (v := -1) (by decide) ?_
      exact sm_iret (pc := 42) dX9_months_42 rfl
    · refine sm_iload_n (pc := 21) dX9_months_21 rfl 3 rfl ?_
      refine sm_iconst (pc := 22) dX9_months_22 (v := 0) (by decide) ?_
      refine sm_bipush (pc := 23) dX9_months_23 (v := 99) (by decide) ?_
      refine sm_callSi (pc := 25) (As := [.int a3, .int (0 : Int32), .int (99 : Int32)]) (rest := []) dX9_months_25 (c_X9_isWithin G l N a3 (0 : Int32) (99 : Int32) μ3) (by omega) wl_X9_78 st_X9_isWithin rfl rfl (Nat.le_of_ble_eq_true rfl) (fun y6 μ5 => ?_)
      refine sm_if_eq (pc := 28) (tgt := 41) dX9_months_28 (by decide) ?_ ?_
      · refine sm_iconst (pc := 41) dX9_months_41 (v := -1) (by decide) ?_
        exact sm_iret (pc := 42) dX9_months_42 rfl
      · refine sm_iload (pc := 31) dX9_months_31 4 rfl ?_
        refine sm_iconst (pc := 33) dX9_months_33 (v := 0) (by decide) ?_
        refine sm_iconst (pc := 34) dX9_months_34 (v := 1) (by decide) ?_
        refine sm_callSi (pc := 35) (As := [.int a4, .int (0 : Int32), .int (1 : Int32)]) (rest := []) dX9_months_35 (c_X9_isWithin G l N a4 (0 : Int32) (1 : Int32) μ5) (by omega) wl_X9_78 st_X9_isWithin rfl rfl (Nat.le_of_ble_eq_true rfl) (fun y8 μ7 => ?_)
        refine sm_if_ne (pc := 38) (tgt := 43) dX9_months_38 (by decide) ?_ ?_
        · refine sm_aload_n (pc := 43) dX9_months_43 rfl 0 rfl ?_
          refine sm_getr (pc := 44) dX9_months_44 fi_X9_60 ?_
          refine sm_iload_n (pc := 47) dX9_months_47 rfl 1 rfl ?_
          refine sm_iload_n (pc := 48) dX9_months_48 rfl 2 rfl ?_
          refine sm_iload_n (pc := 49) dX9_months_49 rfl 3 rfl ?_
          refine sm_callVv (pc := 50) (As := [.int a1, .int a2, .int a3]) (rest := []) dX9_months_50 (c_X0_live G l N a1 a2 a3 μ7) (by omega) wl_X9_247 vm_X0_live rfl rfl (Nat.le_of_ble_eq_true rfl) (fun _ μ9 => ?_)
          refine sm_iload (pc := 53) dX9_months_53 4 rfl ?_
          refine sm_if_ne (pc := 55) (tgt := 68) dX9_months_55 (by decide) ?_ ?_
          · refine sm_aload_n (pc := 68) dX9_months_68 rfl 0 rfl ?_
            refine sm_getr (pc := 69) dX9_months_69 fi_X9_60 ?_
            refine sm_geti (pc := 72) dX9_months_72 fi_X9_254 ?_
            exact sm_iret (pc := 75) dX9_months_75 rfl
          · refine sm_aload_n (pc := 58) dX9_months_58 rfl 0 rfl ?_
            refine sm_getr (pc := 59) dX9_months_59 fi_X9_60 ?_
            refine sm_geti (pc := 62) dX9_months_62 fi_X9_251 ?_
            refine sm_goto (pc := 65) (tgt := 75) dX9_months_65 (by decide) ?_
            exact sm_iret (pc := 75) dX9_months_75 rfl
        · refine sm_iconst (pc := 41) dX9_months_41 (v := -1) (by decide) ?_
          exact sm_iret (pc := 42) dX9_months_42 rfl
theorem c_X9_months (G : am_G) (l : Launch) (N : Nat) (a1 : Int32) (a2 : Int32) (a3 : Int32) (a4 : Int32) (μ : am_M) : ct_P G l am_ci 104 me_X9_months [.ref (am_ad G 0 0), .int a1, .int a2, .int a3, .int a4] μ (f_X9_months N a1 a2 a3 a4 μ) := ct_of (by decide +kernel) (Nat.le_of_ble_eq_true rfl) rfl (p_X9_months_0 G l 104 (Nat.le_refl _) N a1 a2 a3 a4 μ)

def f_X9_foresight_0 (N : Nat) (a1 : Int32) (μ : am_M) : Option (Int32 × am_M) :=
am_bd (f_X5_hasSort N a1 μ) (fun y2 μ1 => if y2 = 0 then (some ((-1 : Int32), μ1)) else (am_bd (f_X0_gainByForesight N a1 μ1) (fun y4 μ3 => some (y4, μ3))))
def f_X9_foresight (N : Nat) (a1 : Int32) (μ : am_M) : Option (Int32 × am_M) := f_X9_foresight_0 N a1 μ
set_option maxHeartbeats 4000000 in
set_option maxRecDepth 100000 in
theorem p_X9_foresight_0 (G : am_G) (l : Launch) (d : Nat) (hd0 : 106 ≤ d) (N : Nat) (a1 : Int32) (μ : am_M) : sm_P G l am_ci d me_X9_foresight 0 [(0, .ref (am_ad G 0 0)), (1, .int a1)] [] μ (f_X9_foresight_0 N a1 μ) := by
  unfold f_X9_foresight_0
  refine sm_aload_n (pc := 0) dX9_foresight_0 rfl 0 rfl ?_
  refine sm_getr (pc := 1) dX9_foresight_1 fi_X9_12 ?_
  refine sm_iload_n (pc := 4) dX9_foresight_4 rfl 1 rfl ?_
  refine sm_callVi (pc := 5) (As := [.int a1]) (rest := []) dX9_foresight_5 (c_X5_hasSort G l N a1 μ) (by omega) wl_X9_112 vm_X5_hasSort rfl rfl (Nat.le_of_ble_eq_true rfl) (fun y2 μ1 => ?_)
  refine sm_if_eq (pc := 8) (tgt := 22) dX9_foresight_8 (by decide) ?_ ?_
  · refine sm_iconst (pc := 22) dX9_foresight_22 (v := -1) (by decide) ?_
    exact sm_iret (pc := 23) dX9_foresight_23 rfl
  · refine sm_aload_n (pc := 11) dX9_foresight_11 rfl 0 rfl ?_
    refine sm_getr (pc := 12) dX9_foresight_12 fi_X9_60 ?_
    refine sm_iload_n (pc := 15) dX9_foresight_15 rfl 1 rfl ?_
    refine sm_callVi (pc := 16) (As := [.int a1]) (rest := []) dX9_foresight_16 (c_X0_gainByForesight G l N a1 μ1) (by omega) wl_X9_257 vm_X0_gainByForesight rfl rfl (Nat.le_of_ble_eq_true rfl) (fun y4 μ3 => ?_)
    refine sm_goto (pc := 19) (tgt := 23) dX9_foresight_19 (by decide) ?_
    exact sm_iret (pc := 23) dX9_foresight_23 rfl
theorem c_X9_foresight (G : am_G) (l : Launch) (N : Nat) (a1 : Int32) (μ : am_M) : ct_P G l am_ci 106 me_X9_foresight [.ref (am_ad G 0 0), .int a1] μ (f_X9_foresight N a1 μ) := ct_of (by decide +kernel) (Nat.le_of_ble_eq_true rfl) rfl (p_X9_foresight_0 G l 106 (Nat.le_refl _) N a1 μ)

def f_X9_cheap_0 (N : Nat) (a1 : Int32) (μ : am_M) : Option (Int32 × am_M) :=
am_bd (f_X9_isWithin N a1 (0 : Int32) (99 : Int32) μ) (fun y2 μ1 => if y2 = 0 then (some ((-1 : Int32), μ1)) else (am_bd (f_X2_cheapest N a1 μ1) (fun y4 μ3 => some (y4, μ3))))
def f_X9_cheap (N : Nat) (a1 : Int32) (μ : am_M) : Option (Int32 × am_M) := f_X9_cheap_0 N a1 μ
set_option maxHeartbeats 4000000 in
set_option maxRecDepth 100000 in
theorem p_X9_cheap_0 (G : am_G) (l : Launch) (d : Nat) (hd0 : 3 ≤ d) (N : Nat) (a1 : Int32) (μ : am_M) : sm_P G l am_ci d me_X9_cheap 0 [(0, .ref (am_ad G 0 0)), (1, .int a1)] [] μ (f_X9_cheap_0 N a1 μ) := by
  unfold f_X9_cheap_0
  refine sm_iload_n (pc := 0) dX9_cheap_0 rfl 1 rfl ?_
  refine sm_iconst (pc := 1) dX9_cheap_1 (v := 0) (by decide) ?_
  refine sm_bipush (pc := 2) dX9_cheap_2 (v := 99) (by decide) ?_
  refine sm_callSi (pc := 4) (As := [.int a1, .int (0 : Int32), .int (99 : Int32)]) (rest := []) dX9_cheap_4 (c_X9_isWithin G l N a1 (0 : Int32) (99 : Int32) μ) (by omega) wl_X9_78 st_X9_isWithin rfl rfl (Nat.le_of_ble_eq_true rfl) (fun y2 μ1 => ?_)
  refine sm_if_eq (pc := 7) (tgt := 21) dX9_cheap_7 (by decide) ?_ ?_
  · refine sm_iconst (pc := 21) dX9_cheap_21 (v := -1) (by decide) ?_
    exact sm_iret (pc := 22) dX9_cheap_22 rfl
  · refine sm_aload_n (pc := 10) dX9_cheap_10 rfl 0 rfl ?_
    refine sm_getr (pc := 11) dX9_cheap_11 fi_X9_53 ?_
    refine sm_iload_n (pc := 14) dX9_cheap_14 rfl 1 rfl ?_
    refine sm_callVi (pc := 15) (As := [.int a1]) (rest := []) dX9_cheap_15 (c_X2_cheapest G l N a1 μ1) (by omega) wl_X9_260 vm_X2_cheapest rfl rfl (Nat.le_of_ble_eq_true rfl) (fun y4 μ3 => ?_)
    refine sm_goto (pc := 18) (tgt := 22) dX9_cheap_18 (by decide) ?_
    exact sm_iret (pc := 22) dX9_cheap_22 rfl
theorem c_X9_cheap (G : am_G) (l : Launch) (N : Nat) (a1 : Int32) (μ : am_M) : ct_P G l am_ci 3 me_X9_cheap [.ref (am_ad G 0 0), .int a1] μ (f_X9_cheap N a1 μ) := ct_of (by decide +kernel) (Nat.le_of_ble_eq_true rfl) rfl (p_X9_cheap_0 G l 3 (Nat.le_refl _) N a1 μ)

def f_X9_wrong_0 (N : Nat) (a1 : Int32) (μ : am_M) : Option (Int32 × am_M) :=
am_bd (f_X9_isWithin N a1 (0 : Int32) (2 : Int32) μ) (fun y2 μ1 => if y2 = 0 then (some ((-2000000000 : Int32), μ1)) else (am_bd (f_X2_findWorst N μ1) (fun y4 μ3 => if a1 = 0 then (some (y4, μ3)) else (if y4 = (-2 : Int32) then (some (y4, μ3)) else (if a1 = (1 : Int32) then (am_bd (f_X2_offOf N y4 μ3) (fun y10 μ9 => some (y10, μ9))) else (am_bd (f_X2_overOf N y4 μ3) (fun y6 μ5 => am_bd (f_J_compare N (0 : Int32) y6 μ5) (fun y8 μ7 => some (y8, μ7)))))))))
def f_X9_wrong (N : Nat) (a1 : Int32) (μ : am_M) : Option (Int32 × am_M) := f_X9_wrong_0 N a1 μ
set_option maxHeartbeats 4000000 in
set_option maxRecDepth 100000 in
theorem p_X9_wrong_0 (G : am_G) (l : Launch) (d : Nat) (hd0 : 106 ≤ d) (N : Nat) (a1 : Int32) (μ : am_M) : sm_P G l am_ci d me_X9_wrong 0 [(0, .ref (am_ad G 0 0)), (1, .int a1)] [] μ (f_X9_wrong_0 N a1 μ) := by
  unfold f_X9_wrong_0
  refine sm_iload_n (pc := 0) dX9_wrong_0 rfl 1 rfl ?_
  refine sm_iconst (pc := 1) dX9_wrong_1 (v := 0) (by decide) ?_
  refine sm_iconst (pc := 2) dX9_wrong_2 (v := 2) (by decide) ?_
  refine sm_callSi (pc := 3) (As := [.int a1, .int (0 : Int32), .int (2 : Int32)]) (rest := []) dX9_wrong_3 (c_X9_isWithin G l N a1 (0 : Int32) (2 : Int32) μ) (by omega) wl_X9_78 st_X9_isWithin rfl rfl (Nat.le_of_ble_eq_true rfl) (fun y2 μ1 => ?_)
  refine sm_if_ne (pc := 6) (tgt := 12) dX9_wrong_6 (by decide) ?_ ?_
  · refine sm_aload_n (pc := 12) dX9_wrong_12 rfl 0 rfl ?_
    refine sm_getr (pc := 13) dX9_wrong_13 fi_X9_53 ?_
    refine sm_callVi (pc := 16) (As := []) (rest := []) dX9_wrong_16 (c_X2_findWorst G l N μ1) (by omega) wl_X9_263 vm_X2_findWorst rfl rfl (Nat.le_of_ble_eq_true rfl) (fun y4 μ3 => ?_)
    refine sm_istore_n (pc := 19) (lv' := [(2, .int y4), (0, .ref (am_ad G 0 0)), (1, .int a1)]) dX9_wrong_19 rfl (by decide) rfl ?_
    refine sm_iload_n (pc := 20) dX9_wrong_20 rfl 2 rfl ?_
    refine sm_if_eq (pc := 21) (tgt := 30) dX9_wrong_21 (by decide) ?_ ?_
    · refine sm_iload_n (pc := 30) dX9_wrong_30 rfl 0 rfl ?_
      exact sm_iret (pc := 31) dX9_wrong_31 rfl
    · refine sm_iload_n (pc := 24) dX9_wrong_24 rfl 0 rfl ?_
      refine sm_bipush (pc := 25) dX9_wrong_25 (v := -2) (by decide) ?_
      refine sm_icmp_ne (pc := 27) (tgt := 32) dX9_wrong_27 (by decide) ?_ ?_
      · refine sm_iload_n (pc := 32) dX9_wrong_32 rfl 2 rfl ?_
        refine sm_iconst (pc := 33) dX9_wrong_33 (v := 1) (by decide) ?_
        refine sm_icmp_ne (pc := 34) (tgt := 48) dX9_wrong_34 (by decide) ?_ ?_
        · refine sm_iconst (pc := 48) dX9_wrong_48 (v := 0) (by decide) ?_
          refine sm_aload_n (pc := 49) dX9_wrong_49 rfl 1 rfl ?_
          refine sm_getr (pc := 50) dX9_wrong_50 fi_X9_53 ?_
          refine sm_iload_n (pc := 53) dX9_wrong_53 rfl 0 rfl ?_
          refine sm_callVi (pc := 54) (As := [.int y4]) (rest := [.int (0 : Int32)]) dX9_wrong_54 (c_X2_overOf G l N y4 μ3) (by omega) wl_X9_175 vm_X2_overOf rfl rfl (Nat.le_of_ble_eq_true rfl) (fun y6 μ5 => ?_)
          refine sm_callSi (pc := 57) (As := [.int (0 : Int32), .int y6]) (rest := []) dX9_wrong_57 (c_J_compare G l N (0 : Int32) y6 μ5) (by omega) wl_X9_269 st_J_compare rfl rfl (Nat.le_of_ble_eq_true rfl) (fun y8 μ7 => ?_)
          exact sm_iret (pc := 60) dX9_wrong_60 rfl
        · refine sm_aload_n (pc := 37) dX9_wrong_37 rfl 1 rfl ?_
          refine sm_getr (pc := 38) dX9_wrong_38 fi_X9_53 ?_
          refine sm_iload_n (pc := 41) dX9_wrong_41 rfl 0 rfl ?_
          refine sm_callVi (pc := 42) (As := [.int y4]) (rest := []) dX9_wrong_42 (c_X2_offOf G l N y4 μ3) (by omega) wl_X9_266 vm_X2_offOf rfl rfl (Nat.le_of_ble_eq_true rfl) (fun y10 μ9 => ?_)
          refine sm_goto (pc := 45) (tgt := 60) dX9_wrong_45 (by decide) ?_
          exact sm_iret (pc := 60) dX9_wrong_60 rfl
      · refine sm_iload_n (pc := 30) dX9_wrong_30 rfl 0 rfl ?_
        exact sm_iret (pc := 31) dX9_wrong_31 rfl
  · refine sm_ldc (pc := 9) dX9_wrong_9 (v := -2000000000) wk_X9_165 ?_
    exact sm_iret (pc := 11) dX9_wrong_11 rfl
theorem c_X9_wrong (G : am_G) (l : Launch) (N : Nat) (a1 : Int32) (μ : am_M) : ct_P G l am_ci 106 me_X9_wrong [.ref (am_ad G 0 0), .int a1] μ (f_X9_wrong N a1 μ) := ct_of (by decide +kernel) (Nat.le_of_ble_eq_true rfl) rfl (p_X9_wrong_0 G l 106 (Nat.le_refl _) N a1 μ)

def f_X9_undo_0 (N : Nat) (μ : am_M) : Option (Int32 × am_M) :=
am_bd (f_X1_goBack N μ) (fun y2 μ1 => some (y2, μ1))
def f_X9_undo (N : Nat) (μ : am_M) : Option (Int32 × am_M) := f_X9_undo_0 N μ
set_option maxHeartbeats 4000000 in
set_option maxRecDepth 100000 in
theorem p_X9_undo_0 (G : am_G) (l : Launch) (d : Nat) (hd0 : 3 ≤ d) (N : Nat) (μ : am_M) : sm_P G l am_ci d me_X9_undo 0 [(0, .ref (am_ad G 0 0))] [] μ (f_X9_undo_0 N μ) := by
  unfold f_X9_undo_0
  refine sm_aload_n (pc := 0) dX9_undo_0 rfl 0 rfl ?_
  refine sm_getr (pc := 1) dX9_undo_1 fi_X9_21 ?_
  refine sm_callVi (pc := 4) (As := []) (rest := []) dX9_undo_4 (c_X1_goBack G l N μ) (by omega) wl_X9_272 vm_X1_goBack rfl rfl (Nat.le_of_ble_eq_true rfl) (fun y2 μ1 => ?_)
  exact sm_iret (pc := 7) dX9_undo_7 rfl
theorem c_X9_undo (G : am_G) (l : Launch) (N : Nat) (μ : am_M) : ct_P G l am_ci 3 me_X9_undo [.ref (am_ad G 0 0)] μ (f_X9_undo N μ) := ct_of (by decide +kernel) (Nat.le_of_ble_eq_true rfl) rfl (p_X9_undo_0 G l 3 (Nat.le_refl _) N μ)

def f_X9_redo_0 (N : Nat) (μ : am_M) : Option (Int32 × am_M) :=
am_bd (f_X1_goOn N μ) (fun y2 μ1 => some (y2, μ1))
def f_X9_redo (N : Nat) (μ : am_M) : Option (Int32 × am_M) := f_X9_redo_0 N μ
set_option maxHeartbeats 4000000 in
set_option maxRecDepth 100000 in
theorem p_X9_redo_0 (G : am_G) (l : Launch) (d : Nat) (hd0 : 3 ≤ d) (N : Nat) (μ : am_M) : sm_P G l am_ci d me_X9_redo 0 [(0, .ref (am_ad G 0 0))] [] μ (f_X9_redo_0 N μ) := by
  unfold f_X9_redo_0
  refine sm_aload_n (pc := 0) dX9_redo_0 rfl 0 rfl ?_
  refine sm_getr (pc := 1) dX9_redo_1 fi_X9_21 ?_
  refine sm_callVi (pc := 4) (As := []) (rest := []) dX9_redo_4 (c_X1_goOn G l N μ) (by omega) wl_X9_275 vm_X1_goOn rfl rfl (Nat.le_of_ble_eq_true rfl) (fun y2 μ1 => ?_)
  exact sm_iret (pc := 7) dX9_redo_7 rfl
theorem c_X9_redo (G : am_G) (l : Launch) (N : Nat) (μ : am_M) : ct_P G l am_ci 3 me_X9_redo [.ref (am_ad G 0 0)] μ (f_X9_redo N μ) := ct_of (by decide +kernel) (Nat.le_of_ble_eq_true rfl) rfl (p_X9_redo_0 G l 3 (Nat.le_refl _) N μ)

def f_X9_body_0 (N : Nat) (a1 : Int32) (μ : am_M) : Option (Int32 × am_M) :=
am_bd (f_X9_isWithin N a1 (0 : Int32) (7 : Int32) μ) (fun y2 μ1 => if y2 = 0 then (some ((-1 : Int32), μ1)) else (am_bd (f_X3_add N a1 μ1) (fun y4 μ3 => some (y4, μ3))))
def f_X9_body (N : Nat) (a1 : Int32) (μ : am_M) : Option (Int32 × am_M) := f_X9_body_0 N a1 μ
set_option maxHeartbeats 4000000 in
set_option maxRecDepth 100000 in
theorem p_X9_body_0 (G : am_G) (l : Launch) (d : Nat) (hd0 : 1 ≤ d) (N : Nat) (a1 : Int32) (μ : am_M) : sm_P G l am_ci d me_X9_body 0 [(0, .ref (am_ad G 0 0)), (1, .int a1)] [] μ (f_X9_body_0 N a1 μ) := by
  unfold f_X9_body_0
  refine sm_iload_n (pc := 0) dX9_body_0 rfl 1 rfl ?_
  refine sm_iconst (pc := 1) dX9_body_1 (v := 0) (by decide) ?_
  refine sm_bipush (pc := 2) dX9_body_2 (v := 7) (by decide) ?_
  refine sm_callSi (pc := 4) (As := [.int a1, .int (0 : Int32), .int (7 : Int32)]) (rest := []) dX9_body_4 (c_X9_isWithin G l N a1 (0 : Int32) (7 : Int32) μ) (by omega) wl_X9_78 st_X9_isWithin rfl rfl (Nat.le_of_ble_eq_true rfl) (fun y2 μ1 => ?_)
  refine sm_if_eq (pc := 7) (tgt := 21) dX9_body_7 (by decide) ?_ ?_
  · refine sm_iconst (pc := 21) dX9_body_21 (v := -1) (by decide) ?_
    exact sm_iret (pc := 22) dX9_body_22 rfl
  · refine sm_aload_n (pc := 10) dX9_body_10 rfl 0 rfl ?_
    refine sm_getr (pc := 11) dX9_body_11 fi_X9_67 ?_
    refine sm_iload_n (pc := 14) dX9_body_14 rfl 1 rfl ?_
    refine sm_callVi (pc := 15) (As := [.int a1]) (rest := []) dX9_body_15 (c_X3_add G l N a1 μ1) (by omega) wl_X9_278 vm_X3_add rfl rfl (Nat.le_of_ble_eq_true rfl) (fun y4 μ3 => ?_)
    refine sm_goto (pc := 18) (tgt := 22) dX9_body_18 (by decide) ?_
    exact sm_iret (pc := 22) dX9_body_22 rfl
theorem c_X9_body (G : am_G) (l : Launch) (N : Nat) (a1 : Int32) (μ : am_M) : ct_P G l am_ci 1 me_X9_body [.ref (am_ad G 0 0), .int a1] μ (f_X9_body N a1 μ) := ct_of (by decide +kernel) (Nat.le_of_ble_eq_true rfl) rfl (p_X9_body_0 G l 1 (Nat.le_refl _) N a1 μ)

def f_X9_act_0 (N : Nat) (a1 : Int32) (a2 : Int32) (a3 : Int32) (μ : am_M) : Option (Int32 × am_M) :=
am_bd (f_X3_forget N μ) (fun _ μ1 => am_bd (f_X3_has N a1 μ1) (fun y3 μ2 => if y3 = 0 then (some ((0 : Int32), μ2)) else (am_bd (f_X9_isWithin N a2 (0 : Int32) (3 : Int32) μ2) (fun y5 μ4 => if y5 = 0 then (some ((0 : Int32), μ4)) else (am_bd (f_X3_start N a1 a2 a3 μ4) (fun y7 μ6 => some (y7, μ6)))))))
def f_X9_act (N : Nat) (a1 : Int32) (a2 : Int32) (a3 : Int32) (μ : am_M) : Option (Int32 × am_M) := f_X9_act_0 N a1 a2 a3 μ
set_option maxHeartbeats 4000000 in
set_option maxRecDepth 100000 in
theorem p_X9_act_0 (G : am_G) (l : Launch) (d : Nat) (hd0 : 104 ≤ d) (N : Nat) (a1 : Int32) (a2 : Int32) (a3 : Int32) (μ : am_M) : sm_P G l am_ci d me_X9_act 0 [(0, .ref (am_ad G 0 0)), (1, .int a1), (2, .int a2), (3, .int a3)] [] μ (f_X9_act_0 N a1 a2 a3 μ) := by
  unfold f_X9_act_0
  refine sm_aload_n (pc := 0) dX9_act_0 rfl 0 rfl ?_
  refine sm_getr (pc := 1) dX9_act_1 fi_X9_67 ?_
  refine sm_callVv (pc := 4) (As := []) (rest := []) dX9_act_4 (c_X3_forget G l N μ) (by omega) wl_X9_281 vm_X3_forget rfl rfl (Nat.le_of_ble_eq_true rfl) (fun _ μ1 => ?_)
  refine sm_aload_n (pc := 7) dX9_act_7 rfl 0 rfl ?_
  refine sm_getr (pc := 8) dX9_act_8 fi_X9_67 ?_
  refine sm_iload_n (pc := 11) dX9_act_11 rfl 1 rfl ?_
  refine sm_callVi (pc := 12) (As := [.int a1]) (rest := []) dX9_act_12 (c_X3_has G l N a1 μ1) (by omega) wl_X9_284 vm_X3_has rfl rfl (Nat.le_of_ble_eq_true rfl) (fun y3 μ2 => ?_)
  refine sm_if_eq (pc := 15) (tgt := 27) dX9_act_15 (by decide) ?_ ?_
  · refine sm_iconst (pc := 27) dX9_act_27 (v := 0) (by decide) ?_
    exact sm_iret (pc := 28) dX9_act_28 rfl
  · refine sm_iload_n (pc := 18) dX9_act_18 rfl 2 rfl ?_
    refine sm_iconst (pc := 19) dX9_act_19 (v := 0) (by decide) ?_
    refine sm_iconst (pc := 20) dX9_act_20 (v := 3) (by decide) ?_
    refine sm_callSi (pc := 21) (As := [.int a2, .int (0 : Int32), .int (3 : Int32)]) (rest := []) dX9_act_21 (c_X9_isWithin G l N a2 (0 : Int32) (3 : Int32) μ2) (by omega) wl_X9_78 st_X9_isWithin rfl rfl (Nat.le_of_ble_eq_true rfl) (fun y5 μ4 => ?_)
    refine sm_if_ne (pc := 24) (tgt := 29) dX9_act_24 (by decide) ?_ ?_
    · refine sm_aload_n (pc := 29) dX9_act_29 rfl 0 rfl ?_
      refine sm_getr (pc := 30) dX9_act_30 fi_X9_67 ?_
      refine sm_iload_n (pc := 33) dX9_act_33 rfl 1 rfl ?_
      refine sm_iload_n (pc := 34) dX9_act_34 rfl 2 rfl ?_
      refine sm_iload_n (pc := 35) dX9_act_35 rfl 3 rfl ?_
      refine sm_callVi (pc := 36) (As := [.int a1, .int a2, .int a3]) (rest := []) dX9_act_36 (c_X3_start G l N a1 a2 a3 μ4) (by omega) wl_X9_287 vm_X3_start rfl rfl (Nat.le_of_ble_eq_true rfl) (fun y7 μ6 => ?_)
      exact sm_iret (pc := 39) dX9_act_39 rfl
    · refine sm_iconst (pc := 27) dX9_act_27 (v := 0) (by decide) ?_
      exact sm_iret (pc := 28) dX9_act_28 rfl
theorem c_X9_act (G : am_G) (l : Launch) (N : Nat) (a1 : Int32) (a2 : Int32) (a3 : Int32) (μ : am_M) : ct_P G l am_ci 104 me_X9_act [.ref (am_ad G 0 0), .int a1, .int a2, .int a3] μ (f_X9_act N a1 a2 a3 μ) := ct_of (by decide +kernel) (Nat.le_of_ble_eq_true rfl) rfl (p_X9_act_0 G l 104 (Nat.le_refl _) N a1 a2 a3 μ)

def f_X9_trace_0 (N : Nat) (a1 : Int32) (μ : am_M) : Option (Int32 × am_M) :=
am_bd (f_X3_traced N a1 μ) (fun y2 μ1 => some (y2, μ1))
def f_X9_trace (N : Nat) (a1 : Int32) (μ : am_M) : Option (Int32 × am_M) := f_X9_trace_0 N a1 μ
set_option maxHeartbeats 4000000 in
set_option maxRecDepth 100000 in
theorem p_X9_trace_0 (G : am_G) (l : Launch) (d : Nat) (hd0 : 2 ≤ d) (N : Nat) (a1 : Int32) (μ : am_M) : sm_P G l am_ci d me_X9_trace 0 [(0, .ref (am_ad G 0 0)), (1, .int a1)] [] μ (f_X9_trace_0 N a1 μ) := by
  unfold f_X9_trace_0
  refine sm_aload_n (pc := 0) dX9_trace_0 rfl 0 rfl ?_
  refine sm_getr (pc := 1) dX9_trace_1 fi_X9_67 ?_
  refine sm_iload_n (pc := 4) dX9_trace_4 rfl 1 rfl ?_
  refine sm_callVi (pc := 5) (As := [.int a1]) (rest := []) dX9_trace_5 (c_X3_traced G l N a1 μ) (by omega) wl_X9_290 vm_X3_traced rfl rfl (Nat.le_of_ble_eq_true rfl) (fun y2 μ1 => ?_)
  exact sm_iret (pc := 8) dX9_trace_8 rfl
theorem c_X9_trace (G : am_G) (l : Launch) (N : Nat) (a1 : Int32) (μ : am_M) : ct_P G l am_ci 2 me_X9_trace [.ref (am_ad G 0 0), .int a1] μ (f_X9_trace N a1 μ) := ct_of (by decide +kernel) (Nat.le_of_ble_eq_true rfl) rfl (p_X9_trace_0 G l 2 (Nat.le_refl _) N a1 μ)

def f_X9_keep_44 (N : Nat) (x2 : Int32) (s0 : Int32) (s1 : Int32) (μ : am_M) : Option (Int32 × am_M) :=
am_bd (f_X4_hold N s1 s0 x2 μ) (fun _ μ3 => some ((1 : Int32), μ3))
def f_X9_keep_29 (N : Nat) (x1 : Int32) (x2 : Int32) (μ : am_M) : Option (Int32 × am_M) :=
if x2 = (-1 : Int32) then (f_X9_keep_44 N x2 (-1 : Int32) x1 μ) else (f_X9_keep_44 N x2 (5 : Int32) x1 μ)
def f_X9_keep_0 (N : Nat) (a1 : Int32) (a2 : Int32) (μ : am_M) : Option (Int32 × am_M) :=
am_bd (f_X4_isShelf N a1 μ) (fun y2 μ1 => if y2 = 0 then (some ((-1 : Int32), μ1)) else (if a2 = (-1 : Int32) then (f_X9_keep_29 N a1 a2 μ1) else (am_bd (f_X3_has N a2 μ1) (fun y5 μ4 => if y5 = 0 then (some ((-1 : Int32), μ4)) else (f_X9_keep_29 N a1 a2 μ4)))))
def f_X9_keep (N : Nat) (a1 : Int32) (a2 : Int32) (μ : am_M) : Option (Int32 × am_M) := f_X9_keep_0 N a1 a2 μ
set_option maxHeartbeats 4000000 in
set_option maxRecDepth 100000 in
theorem p_X9_keep_44 (G : am_G) (l : Launch) (d : Nat) (hd0 : 3 ≤ d) (N : Nat) (x2 : Int32) (s0 : Int32) (s1 : Int32) (μ : am_M) : sm_P G l am_ci d me_X9_keep 44 [(0, .ref (am_ad G 0 0)), (2, .int x2)] [.int s0, .int s1, .ref (am_ad G 9 0)] μ (f_X9_keep_44 N x2 s0 s1 μ) := by
  unfold f_X9_keep_44
  refine sm_iload_n (pc := 44) dX9_keep_44 rfl 1 rfl ?_
  refine sm_callVv (pc := 45) (As := [.int s1, .int s0, .int x2]) (rest := []) dX9_keep_45 (c_X4_hold G l N s1 s0 x2 μ) (by omega) wl_X9_293 vm_X4_hold rfl rfl (Nat.le_of_ble_eq_true rfl) (fun _ μ3 => ?_)
  refine sm_iconst (pc := 48) dX9_keep_48 (v := 1) (by decide) ?_
  exact sm_iret (pc := 49) dX9_keep_49 rfl
set_option maxHeartbeats 4000000 in
set_option maxRecDepth 100000 in
theorem p_X9_keep_29 (G : am_G) (l : Launch) (d : Nat) (hd0 : 3 ≤ d) (N : Nat) (x1 : Int32) (x2 : Int32) (μ : am_M) : sm_P G l am_ci d me_X9_keep 29 [(0, .ref (am_ad G 0 0)), (1, .int x1), (2, .int x2)] [] μ (f_X9_keep_29 N x1 x2 μ) := by
  unfold f_X9_keep_29
  refine sm_aload_n (pc := 29) dX9_keep_29 rfl 0 rfl ?_
  refine sm_getr (pc := 30) dX9_keep_30 fi_X9_74 ?_
  refine sm_iload_n (pc := 33) dX9_keep_33 rfl 1 rfl ?_
  refine sm_iload_n (pc := 34) dX9_keep_34 rfl 2 rfl ?_
  refine sm_iconst (pc := 35) dX9_keep_35 (v := -1) (by decide) ?_
  refine sm_icmp_ne (pc := 36) (tgt := 43) dX9_keep_36 (by decide) ?_ ?_
  · refine sm_iconst (pc := 43) dX9_keep_43 (v := 5) (by decide) ?_
    refine sm_sub [0, 2] rfl ?_
    exact p_X9_keep_44 G l d hd0 N x2 (5 : Int32) x1 μ
  · refine sm_iconst (pc := 39) dX9_keep_39 (v := -1) (by decide) ?_
    refine sm_goto (pc := 40) (tgt := 44) dX9_keep_40 (by decide) ?_
    refine sm_sub [0, 2] rfl ?_
    exact p_X9_keep_44 G l d hd0 N x2 (-1 : Int32) x1 μ
set_option maxHeartbeats 4000000 in
set_option maxRecDepth 100000 in
theorem p_X9_keep_0 (G : am_G) (l : Launch) (d : Nat) (hd0 : 3 ≤ d) (N : Nat) (a1 : Int32) (a2 : Int32) (μ : am_M) : sm_P G l am_ci d me_X9_keep 0 [(0, .ref (am_ad G 0 0)), (1, .int a1), (2, .int a2)] [] μ (f_X9_keep_0 N a1 a2 μ) := by
  unfold f_X9_keep_0
  refine sm_aload_n (pc := 0) dX9_keep_0 rfl 0 rfl ?_
  refine sm_getr (pc := 1) dX9_keep_1 fi_X9_74 ?_
  refine sm_iload_n (pc := 4) dX9_keep_4 rfl 1 rfl ?_
  refine sm_callVi (pc := 5) (As := [.int a1]) (rest := []) dX9_keep_5 (c_X4_isShelf G l N a1 μ) (by omega) wl_X9_86 vm_X4_isShelf rfl rfl (Nat.le_of_ble_eq_true rfl) (fun y2 μ1 => ?_)
  refine sm_if_eq (pc := 8) (tgt := 27) dX9_keep_8 (by decide) ?_ ?_
  · refine sm_iconst (pc := 27) dX9_keep_27 (v := -1) (by decide) ?_
    exact sm_iret (pc := 28) dX9_keep_28 rfl
  · refine sm_iload_n (pc := 11) dX9_keep_11 rfl 2 rfl ?_
    refine sm_iconst (pc := 12) dX9_keep_12 (v := -1) (by decide) ?_
    refine sm_icmp_eq (pc := 13) (tgt := 29) dX9_keep_13 (by decide) ?_ ?_
    · exact p_X9_keep_29 G l d hd0 N a1 a2 μ1
    · refine sm_aload_n (pc := 16) dX9_keep_16 rfl 0 rfl ?_
      refine sm_getr (pc := 17) dX9_keep_17 fi_X9_67 ?_
      refine sm_iload_n (pc := 20) dX9_keep_20 rfl 2 rfl ?_
      refine sm_callVi (pc := 21) (As := [.int a2]) (rest := []) dX9_keep_21 (c_X3_has G l N a2 μ1) (by omega) wl_X9_284 vm_X3_has rfl rfl (Nat.le_of_ble_eq_true rfl) (fun y5 μ4 => ?_)
      refine sm_if_ne (pc := 24) (tgt := 29) dX9_keep_24 (by decide) ?_ ?_
      · exact p_X9_keep_29 G l d hd0 N a1 a2 μ4
      · refine sm_iconst (pc := 27) dX9_keep_27 (v := -1) (by decide) ?_
        exact sm_iret (pc := 28) dX9_keep_28 rfl
theorem c_X9_keep (G : am_G) (l : Launch) (N : Nat) (a1 : Int32) (a2 : Int32) (μ : am_M) : ct_P G l am_ci 3 me_X9_keep [.ref (am_ad G 0 0), .int a1, .int a2] μ (f_X9_keep N a1 a2 μ) := ct_of (by decide +kernel) (Nat.le_of_ble_eq_true rfl) rfl (p_X9_keep_0 G l 3 (Nat.le_refl _) N a1 a2 μ)

def f_X9_row_0 (N : Nat) (a1 : Int32) (a2 : Int32) (a3 : Int32) (μ : am_M) : Option (Int32 × am_M) :=
am_bd (f_X4_isShelf N a1 μ) (fun y2 μ1 => if y2 = 0 then (some ((-1 : Int32), μ1)) else (am_bd (f_X9_isWithin N a2 (0 : Int32) (4 : Int32) μ1) (fun y4 μ3 => if y4 = 0 then (some ((-1 : Int32), μ3)) else (if a3 ≤ (60 : Int32) then (if 0 ≤ a3 then (am_bd (f_X4_hold N a1 a2 a3 μ3) (fun _ μ5 => some ((1 : Int32), μ5))) else (some ((-14 : Int32), μ3))) else (some ((-1 : Int32), μ3))))))
def f_X9_row (N : Nat) (a1 : Int32) (a2 : Int32) (a3 : Int32) (μ : am_M) : Option (Int32 × am_M) := f_X9_row_0 N a1 a2 a3 μ
set_option maxHeartbeats 4000000 in
set_option maxRecDepth 100000 in
theorem p_X9_row_0 (G : am_G) (l : Launch) (d : Nat) (hd0 : 3 ≤ d) (N : Nat) (a1 : Int32) (a2 : Int32) (a3 : Int32) (μ : am_M) : sm_P G l am_ci d me_X9_row 0 [(0, .ref (am_ad G 0 0)), (1, .int a1), (2, .int a2), (3, .int a3)] [] μ (f_X9_row_0 N a1 a2 a3 μ) := by
  unfold f_X9_row_0
  refine sm_aload_n (pc := 0) dX9_row_0 rfl 0 rfl ?_
  refine sm_getr (pc := 1) dX9_row_1 fi_X9_74 ?_
  refine sm_iload_n (pc := 4) dX9_row_4 rfl 1 rfl ?_
  refine sm_callVi (pc := 5) (As := [.int a1]) (rest := []) dX9_row_5 (c_X4_isShelf G l N a1 μ) (by omega) wl_X9_86 vm_X4_isShelf rfl rfl (Nat.le_of_ble_eq_true rfl) (fun y2 μ1 => ?_)
  refine sm_if_eq (pc := 8) (tgt := 26) dX9_row_8 (by decide) ?_ ?_
  · refine sm_iconst (pc := 26) dX9_row_26 (v := -1) (by decide) ?_
    exact sm_iret (pc := 27) dX9_row_27 rfl
  · refine sm_iload_n (pc := 11) dX9_row_11 rfl 2 rfl ?_
    refine sm_iconst (pc := 12) dX9_row_12 (v := 0) (by decide) ?_
    refine sm_iconst (pc := 13) dX9_row_13 (v := 4) (by decide) ?_
    refine sm_callSi (pc := 14) (As := [.int a2, .int (0 : Int32), .int (4 : Int32)]) (rest := []) dX9_row_14 (c_X9_isWithin G l N a2 (0 : Int32) (4 : Int32) μ1) (by omega) wl_X9_78 st_X9_isWithin rfl rfl (Nat.le_of_ble_eq_true rfl) (fun y4 μ3 => ?_)
    refine sm_if_eq (pc := 17) (tgt := 26) dX9_row_17 (by decide) ?_ ?_
    · refine sm_iconst (pc := 26) dX9_row_26 (v := -1) (by decide) ?_
      exact sm_iret (pc := 27) dX9_row_27 rfl
    · refine sm_iload_n (pc := 20) dX9_row_20 rfl 3 rfl ?_
      refine sm_bipush (pc := 21) dX9_row_21 (v := 60) (by decide) ?_
      refine sm_icmp_le (pc := 23) (tgt := 28) dX9_row_23 (by decide) ?_ ?_
      · refine sm_iload_n (pc := 28) dX9_row_28 rfl 3 rfl ?_
        refine sm_if_ge (pc := 29) (tgt := 35) dX9_row_29 (by decide) ?_ ?_
        · refine sm_aload_n (pc := 35) dX9_row_35 rfl 0 rfl ?_
          refine sm_getr (pc := 36) dX9_row_36 fi_X9_74 ?_
          refine sm_iload_n (pc := 39) dX9_row_39 rfl 1 rfl ?_
          refine sm_iload_n (pc := 40) dX9_row_40 rfl 2 rfl ?_
          refine sm_iload_n (pc := 41) dX9_row_41 rfl 3 rfl ?_
          refine sm_callVv (pc := 42) (As := [.int a1, .int a2, .int a3]) (rest := []) dX9_row_42 (c_X4_hold G l N a1 a2 a3 μ3) (by omega) wl_X9_293 vm_X4_hold rfl rfl (Nat.le_of_ble_eq_true rfl) (fun _ μ5 => ?_)
          refine sm_iconst (pc := 45) dX9_row_45 (v := 1) (by decide) ?_
          exact sm_iret (pc := 46) dX9_row_46 rfl
        · refine sm_bipush (pc := 32) dX9_row_32 (v := -14) (by decide) ?_
          exact sm_iret (pc := 34) dX9_row_34 rfl
      · refine sm_iconst (pc := 26) dX9_row_26 (v := -1) (by decide) ?_
        exact sm_iret (pc := 27) dX9_row_27 rfl
theorem c_X9_row (G : am_G) (l : Launch) (N : Nat) (a1 : Int32) (a2 : Int32) (a3 : Int32) (μ : am_M) : ct_P G l am_ci 3 me_X9_row [.ref (am_ad G 0 0), .int a1, .int a2, .int a3] μ (f_X9_row N a1 a2 a3 μ) := ct_of (by decide +kernel) (Nat.le_of_ble_eq_true rfl) rfl (p_X9_row_0 G l 3 (Nat.le_refl _) N a1 a2 a3 μ)

def f_X9_put_0 (N : Nat) (a1 : Int32) (a2 : Int32) (a3 : Int64) (μ : am_M) : Option (Int32 × am_M) :=
am_bd (f_X4_refusalOf N a1 a2 μ) (fun y2 μ1 => if y2 = 0 then (am_bd (f_X4_write N a1 a2 a3 μ1) (fun _ μ3 => some ((1 : Int32), μ3))) else (some (y2, μ1)))
def f_X9_put (N : Nat) (a1 : Int32) (a2 : Int32) (a3 : Int64) (μ : am_M) : Option (Int32 × am_M) := f_X9_put_0 N a1 a2 a3 μ
set_option maxHeartbeats 4000000 in
set_option maxRecDepth 100000 in
theorem p_X9_put_0 (G : am_G) (l : Launch) (d : Nat) (hd0 : 4 ≤ d) (N : Nat) (a1 : Int32) (a2 : Int32) (a3 : Int64) (μ : am_M) : sm_P G l am_ci d me_X9_put 0 [(0, .ref (am_ad G 0 0)), (1, .int a1), (2, .int a2), (3, .long a3)] [] μ (f_X9_put_0 N a1 a2 a3 μ) := by
  unfold f_X9_put_0
  refine sm_aload_n (pc := 0) dX9_put_0 rfl 0 rfl ?_
  refine sm_getr (pc := 1) dX9_put_1 fi_X9_74 ?_
  refine sm_iload_n (pc := 4) dX9_put_4 rfl 1 rfl ?_
  refine sm_iload_n (pc := 5) dX9_put_5 rfl 2 rfl ?_
  refine sm_callVi (pc := 6) (As := [.int a1, .int a2]) (rest := []) dX9_put_6 (c_X4_refusalOf G l N a1 a2 μ) (by omega) wl_X9_296 vm_X4_refusalOf rfl rfl (Nat.le_of_ble_eq_true rfl) (fun y2 μ1 => ?_)
  refine sm_istore (pc := 9) (lv' := [(5, .int y2), (0, .ref (am_ad G 0 0)), (1, .int a1), (2, .int a2), (3, .long a3)]) dX9_put_9 (by decide) rfl ?_
  refine sm_iload (pc := 11) dX9_put_11 0 rfl ?_
  refine sm_if_eq (pc := 13) (tgt := 19) dX9_put_13 (by decide) ?_ ?_
  · refine sm_aload_n (pc := 19) dX9_put_19 rfl 1 rfl ?_
    refine sm_getr (pc := 20) dX9_put_20 fi_X9_74 ?_
    refine sm_iload_n (pc := 23) dX9_put_23 rfl 2 rfl ?_
    refine sm_iload_n (pc := 24) dX9_put_24 rfl 3 rfl ?_
    refine sm_lload_n (pc := 25) dX9_put_25 rfl 4 rfl ?_
    refine sm_callVv (pc := 26) (As := [.int a1, .int a2, .long a3]) (rest := []) dX9_put_26 (c_X4_write G l N a1 a2 a3 μ1) (by omega) wl_X9_299 vm_X4_write rfl rfl (Nat.le_of_ble_eq_true rfl) (fun _ μ3 => ?_)
    refine sm_iconst (pc := 29) dX9_put_29 (v := 1) (by decide) ?_
    exact sm_iret (pc := 30) dX9_put_30 rfl
  · refine sm_iload (pc := 16) dX9_put_16 0 rfl ?_
    exact sm_iret (pc := 18) dX9_put_18 rfl
theorem c_X9_put (G : am_G) (l : Launch) (N : Nat) (a1 : Int32) (a2 : Int32) (a3 : Int64) (μ : am_M) : ct_P G l am_ci 4 me_X9_put [.ref (am_ad G 0 0), .int a1, .int a2, .long a3] μ (f_X9_put N a1 a2 a3 μ) := ct_of (by decide +kernel) (Nat.le_of_ble_eq_true rfl) rfl (p_X9_put_0 G l 4 (Nat.le_refl _) N a1 a2 a3 μ)

def f_X9_element_0 (N : Nat) (a1 : Int32) (a2 : Int32) (μ : am_M) : Option (Int64 × am_M) :=
am_bd (f_X4_refusalOf N a1 a2 μ) (fun y2 μ1 => if y2 = 0 then (am_bd (f_X4_read N a1 a2 μ1) (fun y4 μ3 => some (y4, μ3))) else (some ((-9223372036854775808 : Int64), μ1)))
def f_X9_element (N : Nat) (a1 : Int32) (a2 : Int32) (μ : am_M) : Option (Int64 × am_M) := f_X9_element_0 N a1 a2 μ
set_option maxHeartbeats 4000000 in
set_option maxRecDepth 100000 in
theorem p_X9_element_0 (G : am_G) (l : Launch) (d : Nat) (hd0 : 4 ≤ d) (N : Nat) (a1 : Int32) (a2 : Int32) (μ : am_M) : sm_P G l am_cl d me_X9_element 0 [(0, .ref (am_ad G 0 0)), (1, .int a1), (2, .int a2)] [] μ (f_X9_element_0 N a1 a2 μ) := by
  unfold f_X9_element_0
  refine sm_aload_n (pc := 0) dX9_element_0 rfl 0 rfl ?_
  refine sm_getr (pc := 1) dX9_element_1 fi_X9_74 ?_
  refine sm_iload_n (pc := 4) dX9_element_4 rfl 1 rfl ?_
  refine sm_iload_n (pc := 5) dX9_element_5 rfl 2 rfl ?_
  refine sm_callVi (pc := 6) (As := [.int a1, .int a2]) (rest := []) dX9_element_6 (c_X4_refusalOf G l N a1 a2 μ) (by omega) wl_X9_296 vm_X4_refusalOf rfl rfl (Nat.le_of_ble_eq_true rfl) (fun y2 μ1 => ?_)
  refine sm_if_ne (pc := 9) (tgt := 24) dX9_element_9 (by decide) ?_ ?_
  · refine sm_ldc2 (pc := 24) dX9_element_24 (v := -9223372036854775808) wk_X9_309 ?_
    exact sm_lret (pc := 27) dX9_element_27 rfl
  · refine sm_aload_n (pc := 12) dX9_element_12 rfl 0 rfl ?_
    refine sm_getr (pc := 13) dX9_element_13 fi_X9_74 ?_
    refine sm_iload_n (pc := 16) dX9_element_16 rfl 1 rfl ?_
    refine sm_iload_n (pc := 17) dX9_element_17 rfl 2 rfl ?_
    refine sm_callVl (pc := 18) (As := [.int a1, .int a2]) (rest := []) dX9_element_18 (c_X4_read G l N a1 a2 μ1) (by omega) wl_X9_303 vm_X4_read rfl rfl (Nat.le_of_ble_eq_true rfl) (fun y4 μ3 => ?_)
    refine sm_goto (pc := 21) (tgt := 27) dX9_element_21 (by decide) ?_
    exact sm_lret (pc := 27) dX9_element_27 rfl
theorem c_X9_element (G : am_G) (l : Launch) (N : Nat) (a1 : Int32) (a2 : Int32) (μ : am_M) : ct_P G l am_cl 4 me_X9_element [.ref (am_ad G 0 0), .int a1, .int a2] μ (f_X9_element N a1 a2 μ) := ct_of (by decide +kernel) (Nat.le_of_ble_eq_true rfl) rfl (p_X9_element_0 G l 4 (Nat.le_refl _) N a1 a2 μ)

def f_X9_shift_0 (N : Nat) (a1 : Int32) (a2 : Int32) (a3 : Int32) (a4 : Int32) (a5 : Int32) (μ : am_M) : Option (Int32 × am_M) :=
am_bd (f_X4_refusalOfTwo N a1 a3 μ) (fun y2 μ1 => if y2 = 0 then (am_bd (f_X4_holdsPart N a1 a2 a5 μ1) (fun y4 μ3 => if y4 = 0 then (some ((-13 : Int32), μ3)) else (am_bd (f_X4_holdsPart N a3 a4 a5 μ3) (fun y6 μ5 => if y6 = 0 then (some ((-13 : Int32), μ5)) else (am_bd (f_X4_copy N a1 a2 a3 a4 a5 μ5) (fun _ μ7 => some (a5, μ7))))))) else (some (y2, μ1)))
def f_X9_shift (N : Nat) (a1 : Int32) (a2 : Int32) (a3 : Int32) (a4 : Int32) (a5 : Int32) (μ : am_M) : Option (Int32 × am_M) := f_X9_shift_0 N a1 a2 a3 a4 a5 μ
set_option maxHeartbeats 4000000 in
set_option maxRecDepth 100000 in
theorem p_X9_shift_0 (G : am_G) (l : Launch) (d : Nat) (hd0 : 4 ≤ d) (N : Nat) (a1 : Int32) (a2 : Int32) (a3 : Int32) (a4 : Int32) (a5 : Int32) (μ : am_M) : sm_P G l am_ci d me_X9_shift 0 [(0, .ref (am_ad G 0 0)), (1, .int a1), (2, .int a2), (3, .int a3), (4, .int a4), (5, .int a5)] [] μ (f_X9_shift_0 N a1 a2 a3 a4 a5 μ) := by
  unfold f_X9_shift_0
  refine sm_aload_n (pc := 0) dX9_shift_0 rfl 0 rfl ?_
  refine sm_getr (pc := 1) dX9_shift_1 fi_X9_74 ?_
  refine sm_iload_n (pc := 4) dX9_shift_4 rfl 1 rfl ?_
  refine sm_iload_n (pc := 5) dX9_shift_5 rfl 3 rfl ?_
  refine sm_callVi (pc := 6) (As := [.int a1, .int a3]) (rest := []) dX9_shift_6 (c_X4_refusalOfTwo G l N a1 a3 μ) (by omega) wl_X9_311 vm_X4_refusalOfTwo rfl rfl (Nat.le_of_ble_eq_true rfl) (fun y2 μ1 => ?_)
  refine sm_istore (pc := 9) (lv' := [(6, .int y2), (0, .ref (am_ad G 0 0)), (1, .int a1), (2, .int a2), (3, .int a3), (4, .int a4), (5, .int a5)]) dX9_shift_9 (by decide) rfl ?_
  refine sm_iload (pc := 11) dX9_shift_11 0 rfl ?_
  refine sm_if_eq (pc := 13) (tgt := 19) dX9_shift_13 (by decide) ?_ ?_
  · refine sm_aload_n (pc := 19) dX9_shift_19 rfl 1 rfl ?_
    refine sm_getr (pc := 20) dX9_shift_20 fi_X9_74 ?_
    refine sm_iload_n (pc := 23) dX9_shift_23 rfl 2 rfl ?_
    refine sm_iload_n (pc := 24) dX9_shift_24 rfl 3 rfl ?_
    refine sm_iload (pc := 25) dX9_shift_25 6 rfl ?_
    refine sm_callVi (pc := 27) (As := [.int a1, .int a2, .int a5]) (rest := []) dX9_shift_27 (c_X4_holdsPart G l N a1 a2 a5 μ1) (by omega) wl_X9_314 vm_X4_holdsPart rfl rfl (Nat.le_of_ble_eq_true rfl) (fun y4 μ3 => ?_)
    refine sm_if_eq (pc := 30) (tgt := 48) dX9_shift_30 (by decide) ?_ ?_
    · refine sm_bipush (pc := 48) dX9_shift_48 (v := -13) (by decide) ?_
      exact sm_iret (pc := 50) dX9_shift_50 rfl
    · refine sm_aload_n (pc := 33) dX9_shift_33 rfl 1 rfl ?_
      refine sm_getr (pc := 34) dX9_shift_34 fi_X9_74 ?_
      refine sm_iload_n (pc := 37) dX9_shift_37 rfl 4 rfl ?_
      refine sm_iload (pc := 38) dX9_shift_38 5 rfl ?_
      refine sm_iload (pc := 40) dX9_shift_40 6 rfl ?_
      refine sm_callVi (pc := 42) (As := [.int a3, .int a4, .int a5]) (rest := []) dX9_shift_42 (c_X4_holdsPart G l N a3 a4 a5 μ3) (by omega) wl_X9_314 vm_X4_holdsPart rfl rfl (Nat.le_of_ble_eq_true rfl) (fun y6 μ5 => ?_)
      refine sm_if_ne (pc := 45) (tgt := 51) dX9_shift_45 (by decide) ?_ ?_
      · refine sm_aload_n (pc := 51) dX9_shift_51 rfl 1 rfl ?_
        refine sm_getr (pc := 52) dX9_shift_52 fi_X9_74 ?_
        refine sm_iload_n (pc := 55) dX9_shift_55 rfl 2 rfl ?_
        refine sm_iload_n (pc := 56) dX9_shift_56 rfl 3 rfl ?_
        refine sm_iload_n (pc := 57) dX9_shift_57 rfl 4 rfl ?_
        refine sm_iload (pc := 58) dX9_shift_58 5 rfl ?_
        refine sm_iload (pc := 60) dX9_shift_60 6 rfl ?_
        refine sm_callVv (pc := 62) (As := [.int a1, .int a2, .int a3, .int a4, .int a5]) (rest := []) dX9_shift_62 (c_X4_copy G l N a1 a2 a3 a4 a5 μ5) (by omega) wl_X9_317 vm_X4_copy rfl rfl (Nat.le_of_ble_eq_true rfl) (fun _ μ7 => ?_)
        refine sm_iload (pc := 65) dX9_shift_65 6 rfl ?_
        exact sm_iret (pc := 67) dX9_shift_67 rfl
      · refine sm_bipush (pc := 48) dX9_shift_48 (v := -13) (by decide) ?_
        exact sm_iret (pc := 50) dX9_shift_50 rfl
  · refine sm_iload (pc := 16) dX9_shift_16 0 rfl ?_
    exact sm_iret (pc := 18) dX9_shift_18 rfl
theorem c_X9_shift (G : am_G) (l : Launch) (N : Nat) (a1 : Int32) (a2 : Int32) (a3 : Int32) (a4 : Int32) (a5 : Int32) (μ : am_M) : ct_P G l am_ci 4 me_X9_shift [.ref (am_ad G 0 0), .int a1, .int a2, .int a3, .int a4, .int a5] μ (f_X9_shift N a1 a2 a3 a4 a5 μ) := ct_of (by decide +kernel) (Nat.le_of_ble_eq_true rfl) rfl (p_X9_shift_0 G l 4 (Nat.le_refl _) N a1 a2 a3 a4 a5 μ)

def f_X9_taken_64 (N : Nat) (x2 : Int32) (s0 : Int32) (μ : am_M) : Option (Int32 × am_M) :=
am_bd (f_X3_isUnder N s0 x2 μ) (fun y8 μ7 => if y8 = 0 then (some ((-12 : Int32), μ7)) else (some (s0, μ7)))
def f_X9_taken_0 (N : Nat) (a1 : Int32) (a2 : Int32) (μ : am_M) : Option (Int32 × am_M) :=
am_bd (f_X4_isShelf N a1 μ) (fun y2 μ1 => if y2 = 0 then (some ((-1 : Int32), μ1)) else (am_bd (f_X9_isWithin N a2 (0 : Int32) (7 : Int32) μ1) (fun y4 μ3 => if y4 = 0 then (some ((-1 : Int32), μ3)) else (am_bd (f_X4_heldOn N a1 μ3) (fun y6 μ5 => if y6 = (-1 : Int32) then (some ((-11 : Int32), μ5)) else (if y6 = (5 : Int32) then (am_bd (f_X4_sizeOn N a1 μ5) (fun y10 μ9 => am_bd (f_X3_kindOf N y10 μ9) (fun y12 μ11 => f_X9_taken_64 N a2 y12 μ11))) else (f_X9_taken_64 N a2 (-1 : Int32) μ5)))))))
def f_X9_taken (N : Nat) (a1 : Int32) (a2 : Int32) (μ : am_M) : Option (Int32 × am_M) := f_X9_taken_0 N a1 a2 μ
set_option maxHeartbeats 4000000 in
set_option maxRecDepth 100000 in
theorem p_X9_taken_64 (G : am_G) (l : Launch) (d : Nat) (hd0 : 3 ≤ d) (N : Nat) (x2 : Int32) (s0 : Int32) (μ : am_M) : sm_P G l am_ci d me_X9_taken 64 [(0, .ref (am_ad G 0 0)), (2, .int x2)] [.int s0] μ (f_X9_taken_64 N x2 s0 μ) := by
  unfold f_X9_taken_64
  refine sm_istore (pc := 64) (lv' := [(4, .int s0), (0, .ref (am_ad G 0 0)), (2, .int x2)]) dX9_taken_64 (by decide) rfl ?_
  refine sm_aload_n (pc := 66) dX9_taken_66 rfl 1 rfl ?_
  refine sm_getr (pc := 67) dX9_taken_67 fi_X9_67 ?_
  refine sm_iload (pc := 70) dX9_taken_70 0 rfl ?_
  refine sm_iload_n (pc := 72) dX9_taken_72 rfl 2 rfl ?_
  refine sm_callVi (pc := 73) (As := [.int s0, .int x2]) (rest := []) dX9_taken_73 (c_X3_isUnder G l N s0 x2 μ) (by omega) wl_X9_327 vm_X3_isUnder rfl rfl (Nat.le_of_ble_eq_true rfl) (fun y8 μ7 => ?_)
  refine sm_if_eq (pc := 76) (tgt := 84) dX9_taken_76 (by decide) ?_ ?_
  · refine sm_bipush (pc := 84) dX9_taken_84 (v := -12) (by decide) ?_
    exact sm_iret (pc := 86) dX9_taken_86 rfl
  · refine sm_iload (pc := 79) dX9_taken_79 0 rfl ?_
    refine sm_goto (pc := 81) (tgt := 86) dX9_taken_81 (by decide) ?_
    exact sm_iret (pc := 86) dX9_taken_86 rfl
set_option maxHeartbeats 4000000 in
set_option maxRecDepth 100000 in
theorem p_X9_taken_0 (G : am_G) (l : Launch) (d : Nat) (hd0 : 3 ≤ d) (N : Nat) (a1 : Int32) (a2 : Int32) (μ : am_M) : sm_P G l am_ci d me_X9_taken 0 [(0, .ref (am_ad G 0 0)), (1, .int a1), (2, .int a2)] [] μ (f_X9_taken_0 N a1 a2 μ) := by
  unfold f_X9_taken_0
  refine sm_aload_n (pc := 0) dX9_taken_0 rfl 0 rfl ?_
  refine sm_getr (pc := 1) dX9_taken_1 fi_X9_74 ?_
  refine sm_iload_n (pc := 4) dX9_taken_4 rfl 1 rfl ?_
  refine sm_callVi (pc := 5) (As := [.int a1]) (rest := []) dX9_taken_5 (c_X4_isShelf G l N a1 μ) (by omega) wl_X9_86 vm_X4_isShelf rfl rfl (Nat.le_of_ble_eq_true rfl) (fun y2 μ1 => ?_)
  refine sm_if_eq (pc := 8) (tgt := 21) dX9_taken_8 (by decide) ?_ ?_
  · refine sm_iconst (pc := 21) dX9_taken_21 (v := -1) (by decide) ?_
    exact sm_iret (pc := 22) dX9_taken_22 rfl
  · refine sm_iload_n (pc := 11) dX9_taken_11 rfl 2 rfl ?_
    refine sm_iconst (pc := 12) dX9_taken_12 (v := 0) (by decide) ?_
    refine sm_bipush (pc := 13) dX9_taken_13 (v := 7) (by decide) ?_
    refine sm_callSi (pc := 15) (As := [.int a2, .int (0 : Int32), .int (7 : Int32)]) (rest := []) dX9_taken_15 (c_X9_isWithin G l N a2 (0 : Int32) (7 : Int32) μ1) (by omega) wl_X9_78 st_X9_isWithin rfl rfl (Nat.le_of_ble_eq_true rfl) (fun y4 μ3 => ?_)
    refine sm_if_ne (pc := 18) (tgt := 23) dX9_taken_18 (by decide) ?_ ?_
    · refine sm_aload_n (pc := 23) dX9_taken_23 rfl 0 rfl ?_
      refine sm_getr (pc := 24) dX9_taken_24 fi_X9_74 ?_
      refine sm_iload_n (pc := 27) dX9_taken_27 rfl 1 rfl ?_
      refine sm_callVi (pc := 28) (As := [.int a1]) (rest := []) dX9_taken_28 (c_X4_heldOn G l N a1 μ3) (by omega) wl_X9_90 vm_X4_heldOn rfl rfl (Nat.le_of_ble_eq_true rfl) (fun y6 μ5 => ?_)
      refine sm_istore_n (pc := 31) (lv' := [(3, .int y6), (0, .ref (am_ad G 0 0)), (1, .int a1), (2, .int a2)]) dX9_taken_31 rfl (by decide) rfl ?_
      refine sm_iload_n (pc := 32) dX9_taken_32 rfl 0 rfl ?_
      refine sm_iconst (pc := 33) dX9_taken_33 (v := -1) (by decide) ?_
      refine sm_icmp_ne (pc := 34) (tgt := 40) dX9_taken_34 (by decide) ?_ ?_
      · refine sm_iload_n (pc := 40) dX9_taken_40 rfl 0 rfl ?_
        refine sm_iconst (pc := 41) dX9_taken_41 (v := 5) (by decide) ?_
        refine sm_icmp_ne (pc := 42) (tgt := 63) dX9_taken_42 (by decide) ?_ ?_
        · refine sm_iconst (pc := 63) dX9_taken_63 (v := -1) (by decide) ?_
          refine sm_sub [1, 3] rfl ?_
          exact p_X9_taken_64 G l d hd0 N a2 (-1 : Int32) μ5
        · refine sm_aload_n (pc := 45) dX9_taken_45 rfl 1 rfl ?_
          refine sm_getr (pc := 46) dX9_taken_46 fi_X9_67 ?_
          refine sm_aload_n (pc := 49) dX9_taken_49 rfl 1 rfl ?_
          refine sm_getr (pc := 50) dX9_taken_50 fi_X9_74 ?_
          refine sm_iload_n (pc := 53) dX9_taken_53 rfl 2 rfl ?_
          refine sm_callVi (pc := 54) (As := [.int a1]) (rest := [.ref (am_ad G 8 0)]) dX9_taken_54 (c_X4_sizeOn G l N a1 μ5) (by omega) wl_X9_321 vm_X4_sizeOn rfl rfl (Nat.le_of_ble_eq_true rfl) (fun y10 μ9 => ?_)
          refine sm_callVi (pc := 57) (As := [.int y10]) (rest := []) dX9_taken_57 (c_X3_kindOf G l N y10 μ9) (by omega) wl_X9_324 vm_X3_kindOf rfl rfl (Nat.le_of_ble_eq_true rfl) (fun y12 μ11 => ?_)
          refine sm_goto (pc := 60) (tgt := 64) dX9_taken_60 (by decide) ?_
          refine sm_sub [1, 3] rfl ?_
          exact p_X9_taken_64 G l d hd0 N a2 y12 μ11
      · refine sm_bipush (pc := 37) dX9_taken_37 (v := -11) (by decide) ?_
        exact sm_iret (pc := 39) dX9_taken_39 rfl
    · refine sm_iconst (pc := 21) dX9_taken_21 (v := -1) (by decide) ?_
      exact sm_iret (pc := 22) dX9_taken_22 rfl
theorem c_X9_taken (G : am_G) (l : Launch) (N : Nat) (a1 : Int32) (a2 : Int32) (μ : am_M) : ct_P G l am_ci 3 me_X9_taken [.ref (am_ad G 0 0), .int a1, .int a2] μ (f_X9_taken N a1 a2 μ) := ct_of (by decide +kernel) (Nat.le_of_ble_eq_true rfl) rfl (p_X9_taken_0 G l 3 (Nat.le_refl _) N a1 a2 μ)

def f_X9_count_0 (N : Nat) (a1 : Int32) (μ : am_M) : Option (Int32 × am_M) :=
if a1 = (0 : Int32) then (some ((μ.1 1 0 1), μ)) else (if a1 = (1 : Int32) then (some ((μ.1 1 0 2), μ)) else (if a1 = (2 : Int32) then (am_bd (f_X8_known N μ) (fun y5 μ4 => some (y5, μ4))) else (if a1 = (3 : Int32) then (some ((μ.1 3 0 1), μ)) else (if a1 = (4 : Int32) then (some ((μ.1 2 0 5), μ)) else (if a1 = (5 : Int32) then (some ((μ.1 8 0 1), μ)) else (if a1 = (6 : Int32) then (some ((μ.1 8 0 3), μ)) else (some ((-1 : Int32), μ))))))))
def f_X9_count (N : Nat) (a1 : Int32) (μ : am_M) : Option (Int32 × am_M) := f_X9_count_0 N a1 μ
set_option maxHeartbeats 4000000 in
set_option maxRecDepth 100000 in
theorem p_X9_count_0 (G : am_G) (l : Launch) (d : Nat) (hd0 : 1 ≤ d) (N : Nat) (a1 : Int32) (μ : am_M) : sm_P G l am_ci d me_X9_count 0 [(0, .ref (am_ad G 0 0)), (1, .int a1)] [] μ (f_X9_count_0 N a1 μ) := by
  unfold f_X9_count_0
  refine sm_iload_n (pc := 0) dX9_count_0 rfl 1 rfl ?_
  refine sm_ite (fun e1 => ?_) (fun e1 => ?_)
  · refine sm_tsi (pc := 1) (c1 := 0) (off := 43) (tgt := 44) e1 dX9_count_1 (by decide) (by decide) (by decide) (by decide) ?_
    refine sm_aload_n (pc := 44) dX9_count_44 rfl 0 rfl ?_
    refine sm_getr (pc := 45) dX9_count_45 fi_X9_12 ?_
    refine sm_geti (pc := 48) dX9_count_48 fi_X9_181 ?_
    exact sm_iret (pc := 51) dX9_count_51 rfl
  refine sm_ite (fun e2 => ?_) (fun e2 => ?_)
  · refine sm_tsi (pc := 1) (c1 := 1) (off := 51) (tgt := 52) e2 dX9_count_1 (by decide) (by decide) (by decide) (by decide) ?_
    refine sm_aload_n (pc := 52) dX9_count_52 rfl 0 rfl ?_
    refine sm_getr (pc := 53) dX9_count_53 fi_X9_12 ?_
    refine sm_geti (pc := 56) dX9_count_56 fi_X9_330 ?_
    exact sm_iret (pc := 59) dX9_count_59 rfl
  refine sm_ite (fun e3 => ?_) (fun e3 => ?_)
  · refine sm_tsi (pc := 1) (c1 := 2) (off := 59) (tgt := 60) e3 dX9_count_1 (by decide) (by decide) (by decide) (by decide) ?_
    refine sm_aload_n (pc := 60) dX9_count_60 rfl 0 rfl ?_
    refine sm_getr (pc := 61) dX9_count_61 fi_X9_35 ?_
    refine sm_callVi (pc := 64) (As := []) (rest := []) dX9_count_64 (c_X8_known G l N μ) (by omega) wl_X9_105 vm_X8_known rfl rfl (Nat.le_of_ble_eq_true rfl) (fun y5 μ4 => ?_)
    exact sm_iret (pc := 67) dX9_count_67 rfl
  refine sm_ite (fun e6 => ?_) (fun e6 => ?_)
  · refine sm_tsi (pc := 1) (c1 := 3) (off := 67) (tgt := 68) e6 dX9_count_1 (by decide) (by decide) (by decide) (by decide) ?_
    refine sm_aload_n (pc := 68) dX9_count_68 rfl 0 rfl ?_
    refine sm_getr (pc := 69) dX9_count_69 fi_X9_28 ?_
    refine sm_geti (pc := 72) dX9_count_72 fi_X9_333 ?_
    exact sm_iret (pc := 75) dX9_count_75 rfl
  refine sm_ite (fun e7 => ?_) (fun e7 => ?_)
  · refine sm_tsi (pc := 1) (c1 := 4) (off := 75) (tgt := 76) e7 dX9_count_1 (by decide) (by decide) (by decide) (by decide) ?_
    refine sm_aload_n (pc := 76) dX9_count_76 rfl 0 rfl ?_
    refine sm_getr (pc := 77) dX9_count_77 fi_X9_21 ?_
    refine sm_geti (pc := 80) dX9_count_80 fi_X9_336 ?_
    exact sm_iret (pc := 83) dX9_count_83 rfl
  refine sm_ite (fun e8 => ?_) (fun e8 => ?_)
  · refine sm_tsi (pc := 1) (c1 := 5) (off := 83) (tgt := 84) e8 dX9_count_1 (by decide) (by decide) (by decide) (by decide) ?_
    refine sm_aload_n (pc := 84) dX9_count_84 rfl 0 rfl ?_
    refine sm_getr (pc := 85) dX9_count_85 fi_X9_67 ?_
    refine sm_geti (pc := 88) dX9_count_88 fi_X9_339 ?_
    exact sm_iret (pc := 91) dX9_count_91 rfl
  refine sm_ite (fun e9 => ?_) (fun e9 => ?_)
  · refine sm_tsi (pc := 1) (c1 := 6) (off := 91) (tgt := 92) e9 dX9_count_1 (by decide) (by decide) (by decide) (by decide) ?_
    refine sm_aload_n (pc := 92) dX9_count_92 rfl 0 rfl ?_
    refine sm_getr (pc := 93) dX9_count_93 fi_X9_67 ?_
    refine sm_geti (pc := 96) dX9_count_96 fi_X9_342 ?_
    exact sm_iret (pc := 99) dX9_count_99 rfl
  replace e1 := am_ne (n := 0) (by decide) e1
  replace e2 := am_ne (n := 1) (by decide) e2
  replace e3 := am_ne (n := 2) (by decide) e3
  replace e6 := am_ne (n := 3) (by decide) e6
  replace e7 := am_ne (n := 4) (by decide) e7
  replace e8 := am_ne (n := 5) (by decide) e8
  replace e9 := am_ne (n := 6) (by decide) e9
  refine sm_tso (pc := 1) (tgt := 100) dX9_count_1 (by omega) (by decide) ?_
  refine sm_iconst (pc := 100) dX9_count_100 (v := -1) (by decide) ?_
  exact sm_iret (pc := 101) dX9_count_101 rfl
theorem c_X9_count (G : am_G) (l : Launch) (N : Nat) (a1 : Int32) (μ : am_M) : ct_P G l am_ci 1 me_X9_count [.ref (am_ad G 0 0), .int a1] μ (f_X9_count N a1 μ) := ct_of (by decide +kernel) (Nat.le_of_ble_eq_true rfl) rfl (p_X9_count_0 G l 1 (Nat.le_refl _) N a1 μ)
