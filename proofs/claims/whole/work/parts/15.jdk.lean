def f_X9_isWithin_0 (N : Nat) (a0 : Int32) (a1 : Int32) (a2 : Int32) (μ : am_M) : Option (Int32 × am_M) :=
if a0 < a1 then (am_z (0 : Int32) μ) else (if a2 < a0 then (am_z (0 : Int32) μ) else (am_z (1 : Int32) μ))
def f_X9_isWithin (N : Nat) (a0 : Int32) (a1 : Int32) (a2 : Int32) (μ : am_M) : Option (Int32 × am_M) := f_X9_isWithin_0 N a0 a1 a2 μ
set_option maxHeartbeats 4000000 in
set_option maxRecDepth 100000 in
theorem p_X9_isWithin_0 (G : am_G) (l : Launch) (d : Nat) (hd0 : 0 ≤ d) (N : Nat) (a0 : Int32) (a1 : Int32) (a2 : Int32) (μ : am_M) : sm_P G l am_ci d me_X9_isWithin 0 [(0, .int a0), (1, .int a1), (2, .int a2)] [] μ (f_X9_isWithin_0 N a0 a1 a2 μ) := by
  unfold f_X9_isWithin_0
  refine sm_iload_n (pc := 0) dX9_isWithin_0 rfl 0 rfl ?_
  refine sm_iload_n (pc := 1) dX9_isWithin_1 rfl 1 rfl ?_
  refine sm_icmp_lt (pc := 2) (tgt := 14) dX9_isWithin_2 (by decide) ?_ ?_
  · refine sm_iconst (pc := 14) dX9_isWithin_14 (v := 0) (by decide) ?_
    exact sm_zret (pc := 15) dX9_isWithin_15 rfl
  · refine sm_iload_n (pc := 5) dX9_isWithin_5 rfl 0 rfl ?_
    refine sm_iload_n (pc := 6) dX9_isWithin_6 rfl 2 rfl ?_
    refine sm_icmp_gt (pc := 7) (tgt := 14) dX9_isWithin_7 (by decide) ?_ ?_
    · refine sm_iconst (pc := 14) dX9_isWithin_14 (v := 0) (by decide) ?_
      exact sm_zret (pc := 15) dX9_isWithin_15 rfl
    · refine sm_iconst (pc := 10) dX9_isWithin_10 (v := 1) (by decide) ?_
      refine sm_goto (pc := 11) (tgt := 15) dX9_isWithin_11 (by decide) ?_
      exact sm_zret (pc := 15) dX9_isWithin_15 rfl
theorem c_X9_isWithin (G : am_G) (l : Launch) (N : Nat) (a0 : Int32) (a1 : Int32) (a2 : Int32) (μ : am_M) : ct_P G l am_ci 0 me_X9_isWithin [.int a0, .int a1, .int a2] μ (f_X9_isWithin N a0 a1 a2 μ) := ct_of (by decide +kernel) (Nat.le_of_ble_eq_true rfl) rfl (p_X9_isWithin_0 G l 0 (Nat.le_refl _) N a0 a1 a2 μ)

def f_J_compare_0 (N : Nat) (a0 : Int32) (a1 : Int32) (μ : am_M) : Option (Int32 × am_M) :=
if a1 ≤ a0 then (if a0 = a1 then (some ((0 : Int32), μ)) else (some ((1 : Int32), μ))) else (some ((-1 : Int32), μ))
def f_J_compare (N : Nat) (a0 : Int32) (a1 : Int32) (μ : am_M) : Option (Int32 × am_M) := f_J_compare_0 N a0 a1 μ
set_option maxHeartbeats 4000000 in
set_option maxRecDepth 100000 in
theorem p_J_compare_0 (G : am_G) (l : Launch) (d : Nat) (hd0 : 0 ≤ d) (N : Nat) (a0 : Int32) (a1 : Int32) (μ : am_M) : sm_P G l am_ci d me_J_compare 0 [(0, .int a0), (1, .int a1)] [] μ (f_J_compare_0 N a0 a1 μ) := by
  unfold f_J_compare_0
  refine sm_iload_n (pc := 0) dJ_compare_0 rfl 0 rfl ?_
  refine sm_iload_n (pc := 1) dJ_compare_1 rfl 1 rfl ?_
  refine sm_icmp_ge (pc := 2) (tgt := 9) dJ_compare_2 (by decide) ?_ ?_
  · refine sm_iload_n (pc := 9) dJ_compare_9 rfl 0 rfl ?_
    refine sm_iload_n (pc := 10) dJ_compare_10 rfl 1 rfl ?_
    refine sm_icmp_ne (pc := 11) (tgt := 18) dJ_compare_11 (by decide) ?_ ?_
    · refine sm_iconst (pc := 18) dJ_compare_18 (v := 1) (by decide) ?_
      exact sm_iret (pc := 19) dJ_compare_19 rfl
    · refine sm_iconst (pc := 14) dJ_compare_14 (v := 0) (by decide) ?_
      refine sm_goto (pc := 15) (tgt := 19) dJ_compare_15 (by decide) ?_
      exact sm_iret (pc := 19) dJ_compare_19 rfl
  · refine sm_iconst (pc := 5) dJ_compare_5 (v := -1) (by decide) ?_
    refine sm_goto (pc := 6) (tgt := 19) dJ_compare_6 (by decide) ?_
    exact sm_iret (pc := 19) dJ_compare_19 rfl
theorem c_J_compare (G : am_G) (l : Launch) (N : Nat) (a0 : Int32) (a1 : Int32) (μ : am_M) : ct_P G l am_ci 0 me_J_compare [.int a0, .int a1] μ (f_J_compare N a0 a1 μ) := ct_of (by decide +kernel) (Nat.le_of_ble_eq_true rfl) rfl (p_J_compare_0 G l 0 (Nat.le_refl _) N a0 a1 μ)

def f_J_bitCount_0 (N : Nat) (a0 : Int32) (μ : am_M) : Option (Int32 × am_M) :=
am_nm (a0 - ((am_ush a0 (1 : Int32)) &&& (1431655765 : Int32))) (fun y1 => am_nm ((y1 &&& (858993459 : Int32)) + ((am_ush y1 (2 : Int32)) &&& (858993459 : Int32))) (fun y2 => am_nm ((y2 + (am_ush y2 (4 : Int32))) &&& (252645135 : Int32)) (fun y3 => am_nm (y3 + (am_ush y3 (8 : Int32))) (fun y4 => am_nm (y4 + (am_ush y4 (16 : Int32))) (fun y5 => some ((y5 &&& (63 : Int32)), μ))))))
def f_J_bitCount (N : Nat) (a0 : Int32) (μ : am_M) : Option (Int32 × am_M) := f_J_bitCount_0 N a0 μ
set_option maxHeartbeats 4000000 in
set_option maxRecDepth 100000 in
theorem p_J_bitCount_0 (G : am_G) (l : Launch) (d : Nat) (hd0 : 0 ≤ d) (N : Nat) (a0 : Int32) (μ : am_M) : sm_P G l am_ci d me_J_bitCount 0 [(0, .int a0)] [] μ (f_J_bitCount_0 N a0 μ) := by
  unfold f_J_bitCount_0
  refine sm_iload_n (pc := 0) dJ_bitCount_0 rfl 0 rfl ?_
  refine sm_iload_n (pc := 1) dJ_bitCount_1 rfl 0 rfl ?_
  refine sm_iconst (pc := 2) dJ_bitCount_2 (v := 1) (by decide) ?_
  refine sm_iushr (pc := 3) dJ_bitCount_3 ?_
  refine sm_ldcw (pc := 4) dJ_bitCount_4 (v := 1431655765) wk_J_265 ?_
  refine sm_iand (pc := 7) dJ_bitCount_7 ?_
  refine sm_isub (pc := 8) dJ_bitCount_8 ?_
  refine sm_nmI (fun y1 => ?_)
  refine sm_istore_n (pc := 9) (lv' := [(0, .int y1)]) dJ_bitCount_9 rfl (by decide) rfl ?_
  refine sm_iload_n (pc := 10) dJ_bitCount_10 rfl 0 rfl ?_
  refine sm_ldcw (pc := 11) dJ_bitCount_11 (v := 858993459) wk_J_266 ?_
  refine sm_iand (pc := 14) dJ_bitCount_14 ?_
  refine sm_iload_n (pc := 15) dJ_bitCount_15 rfl 0 rfl ?_
  refine sm_iconst (pc := 16) dJ_bitCount_16 (v := 2) (by decide) ?_
  refine sm_iushr (pc := 17) dJ_bitCount_17 ?_
  refine sm_ldcw (pc := 18) dJ_bitCount_18 (v := 858993459) wk_J_266 ?_
  refine sm_iand (pc := 21) dJ_bitCount_21 ?_
  refine sm_iadd (pc := 22) dJ_bitCount_22 ?_
  refine sm_nmI (fun y2 => ?_)
  refine sm_istore_n (pc := 23) (lv' := [(0, .int y2)]) dJ_bitCount_23 rfl (by decide) rfl ?_
  refine sm_iload_n (pc := 24) dJ_bitCount_24 rfl 0 rfl ?_
  refine sm_iload_n (pc := 25) dJ_bitCount_25 rfl 0 rfl ?_
  refine sm_iconst (pc := 26) dJ_bitCount_26 (v := 4) (by decide) ?_
  refine sm_iushr (pc := 27) dJ_bitCount_27 ?_
  refine sm_iadd (pc := 28) dJ_bitCount_28 ?_
  refine sm_ldcw (pc := 29) dJ_bitCount_29 (v := 252645135) wk_J_267 ?_
  refine sm_iand (pc := 32) dJ_bitCount_32 ?_
  refine sm_nmI (fun y3 => ?_)
  refine sm_istore_n (pc := 33) (lv' := [(0, .int y3)]) dJ_bitCount_33 rfl (by decide) rfl ?_
  refine sm_iload_n (pc := 34) dJ_bitCount_34 rfl 0 rfl ?_
  refine sm_iload_n (pc := 35) dJ_bitCount_35 rfl 0 rfl ?_
  refine sm_bipush (pc := 36) dJ_bitCount_36 (v := 8) (by decide) ?_
  refine sm_iushr (pc := 38) dJ_bitCount_38 ?_
  refine sm_iadd (pc := 39) dJ_bitCount_39 ?_
  refine sm_nmI (fun y4 => ?_)
  refine sm_istore_n (pc := 40) (lv' := [(0, .int y4)]) dJ_bitCount_40 rfl (by decide) rfl ?_
  refine sm_iload_n (pc := 41) dJ_bitCount_41 rfl 0 rfl ?_
  refine sm_iload_n (pc := 42) dJ_bitCount_42 rfl 0 rfl ?_
  refine sm_bipush (pc := 43) dJ_bitCount_43 (v := 16) (by decide) ?_
  refine sm_iushr (pc := 45) dJ_bitCount_45 ?_
  refine sm_iadd (pc := 46) dJ_bitCount_46 ?_
  refine sm_nmI (fun y5 => ?_)
  refine sm_istore_n (pc := 47) (lv' := [(0, .int y5)]) dJ_bitCount_47 rfl (by decide) rfl ?_
  refine sm_iload_n (pc := 48) dJ_bitCount_48 rfl 0 rfl ?_
  refine sm_bipush (pc := 49) dJ_bitCount_49 (v := 63) (by decide) ?_
  refine sm_iand (pc := 51) dJ_bitCount_51 ?_
  exact sm_iret (pc := 52) dJ_bitCount_52 rfl
theorem c_J_bitCount (G : am_G) (l : Launch) (N : Nat) (a0 : Int32) (μ : am_M) : ct_P G l am_ci 0 me_J_bitCount [.int a0] μ (f_J_bitCount N a0 μ) := ct_of (by decide +kernel) (Nat.le_of_ble_eq_true rfl) rfl (p_J_bitCount_0 G l 0 (Nat.le_refl _) N a0 μ)
