def f_X7_recall_2 (N : Nat) (r_2 : Int32 → am_M → Option (Unit × am_M)) (x1 : Int32) (μ : am_M) : Option (Unit × am_M) :=
if (6 : Int32) ≤ x1 then (some ((), μ)) else (am_bd (f_X5_at N (1 : Int32) x1 μ) (fun y2 μ1 => am_gd x1 6 (fun j3 => am_nm (am_ui μ1 82 0 j3 y2) (fun μ4 => am_bd (f_X5_at N (2 : Int32) x1 μ4) (fun y6 μ5 => am_gd x1 6 (fun j7 => am_nm (am_ui μ5 83 0 j7 y6) (fun μ8 => r_2 (x1 + (1 : Int32)) μ8)))))))
def f_X7_recall_2_lp (N : Nat) : Nat → Int32 → am_M → Option (Unit × am_M)
  | 0, _, _ => none
  | n + 1, x1, μ => f_X7_recall_2 N (f_X7_recall_2_lp N n) x1 μ
def f_X7_recall_0 (N : Nat) (μ : am_M) : Option (Unit × am_M) :=
f_X7_recall_2_lp N N (0 : Int32) μ
def f_X7_recall (N : Nat) (μ : am_M) : Option (Unit × am_M) := f_X7_recall_0 N μ
set_option maxHeartbeats 4000000 in
set_option maxRecDepth 100000 in
theorem p_X7_recall_2 (G : am_G) (l : Launch) (d : Nat) (hd0 : 2 ≤ d) (N : Nat) (r_2 : Int32 → am_M → Option (Unit × am_M)) (H_2 : ∀ (x1 : Int32) (μ : am_M), sm_P G l am_cu d me_X7_recall 2 [(0, .ref (am_ad G 5 0)), (1, .int x1)] [] μ (r_2 x1 μ)) (x1 : Int32) (μ : am_M) : sm_P G l am_cu d me_X7_recall 2 [(0, .ref (am_ad G 5 0)), (1, .int x1)] [] μ (f_X7_recall_2 N r_2 x1 μ) := by
  unfold f_X7_recall_2
  refine sm_iload_n (pc := 2) dX7_recall_2 rfl 1 rfl ?_
  refine sm_bipush (pc := 3) dX7_recall_3 (v := 6) (by decide) ?_
  refine sm_icmp_ge (pc := 5) (tgt := 44) dX7_recall_5 (by decide) ?_ ?_
  · exact sm_vret (pc := 44) dX7_recall_44 rfl
  · refine sm_aload_n (pc := 8) dX7_recall_8 rfl 0 rfl ?_
    refine sm_getr (pc := 9) dX7_recall_9 fi_X7_9 ?_
    refine sm_iload_n (pc := 12) dX7_recall_12 rfl 1 rfl ?_
    refine sm_aload_n (pc := 13) dX7_recall_13 rfl 0 rfl ?_
    refine sm_getr (pc := 14) dX7_recall_14 fi_X7_26 ?_
    refine sm_iconst (pc := 17) dX7_recall_17 (v := 1) (by decide) ?_
    refine sm_iload_n (pc := 18) dX7_recall_18 rfl 1 rfl ?_
    refine sm_callVi (pc := 19) (As := [.int (1 : Int32), .int x1]) (rest := [.int x1, .ref (am_ad G 82 0)]) dX7_recall_19 (c_X5_at G l N (1 : Int32) x1 μ) (by omega) wl_X7_34 vm_X5_at rfl rfl (Nat.le_of_ble_eq_true rfl) (fun y2 μ1 => ?_)
    refine sm_iast (pc := 22) dX7_recall_22 ly_82 (by decide) (fun j3 hj3 => ?_)
    refine sm_nmM (fun μ4 => ?_)
    refine sm_aload_n (pc := 23) dX7_recall_23 rfl 0 rfl ?_
    refine sm_getr (pc := 24) dX7_recall_24 fi_X7_15 ?_
    refine sm_iload_n (pc := 27) dX7_recall_27 rfl 1 rfl ?_
    refine sm_aload_n (pc := 28) dX7_recall_28 rfl 0 rfl ?_
    refine sm_getr (pc := 29) dX7_recall_29 fi_X7_26 ?_
    refine sm_iconst (pc := 32) dX7_recall_32 (v := 2) (by decide) ?_
    refine sm_iload_n (pc := 33) dX7_recall_33 rfl 1 rfl ?_
    refine sm_callVi (pc := 34) (As := [.int (2 : Int32), .int x1]) (rest := [.int x1, .ref (am_ad G 83 0)]) dX7_recall_34 (c_X5_at G l N (2 : Int32) x1 μ4) (by omega) wl_X7_34 vm_X5_at rfl rfl (Nat.le_of_ble_eq_true rfl) (fun y6 μ5 => ?_)
    refine sm_iast (pc := 37) dX7_recall_37 ly_83 (by decide) (fun j7 hj7 => ?_)
    refine sm_nmM (fun μ8 => ?_)
    refine sm_iinc (pc := 38) (v := (x1 + (1 : Int32))) (lv' := [(1, .int (x1 + (1 : Int32))), (0, .ref (am_ad G 5 0))]) dX7_recall_38 1 rfl rfl (by decide) rfl ?_
    refine sm_goto (pc := 41) (tgt := 2) dX7_recall_41 (by decide) ?_
    refine sm_sub [1, 0] rfl ?_
    exact H_2 (x1 + (1 : Int32)) μ8
theorem p_X7_recall_2_lp (G : am_G) (l : Launch) (d : Nat) (hd0 : 2 ≤ d) (N : Nat) : ∀ (n : Nat) (x1 : Int32) (μ : am_M), sm_P G l am_cu d me_X7_recall 2 [(0, .ref (am_ad G 5 0)), (1, .int x1)] [] μ (f_X7_recall_2_lp N n x1 μ) := by
  intro n
  induction n with
  | zero => intros; exact sm_none
  | succ n ih => exact fun x1 μ => p_X7_recall_2 G l d hd0 N (f_X7_recall_2_lp N n) ih x1 μ
set_option maxHeartbeats 4000000 in
set_option maxRecDepth 100000 in
theorem p_X7_recall_0 (G : am_G) (l : Launch) (d : Nat) (hd0 : 2 ≤ d) (N : Nat) (μ : am_M) : sm_P G l am_cu d me_X7_recall 0 [(0, .ref (am_ad G 5 0))] [] μ (f_X7_recall_0 N μ) := by
  unfold f_X7_recall_0
  refine sm_iconst (pc := 0) dX7_recall_0 (v := 0) (by decide) ?_
  refine sm_istore_n (pc := 1) (lv' := [(1, .int (0 : Int32)), (0, .ref (am_ad G 5 0))]) dX7_recall_1 rfl (by decide) rfl ?_
  refine sm_sub [1, 0] rfl ?_
  exact p_X7_recall_2_lp G l d hd0 N N (0 : Int32) μ
theorem c_X7_recall (G : am_G) (l : Launch) (N : Nat) (μ : am_M) : ct_P G l am_cu 2 me_X7_recall [.ref (am_ad G 5 0)] μ (f_X7_recall N μ) := ct_of (by decide +kernel) (Nat.le_of_ble_eq_true rfl) rfl (p_X7_recall_0 G l 2 (Nat.le_refl _) N μ)

def f_X7_coinOf_0 (N : Nat) (a1 : Int32) (μ : am_M) : Option (Int32 × am_M) :=
am_bd (f_X9_isWithin N a1 (0 : Int32) (5 : Int32) μ) (fun y2 μ1 => if y2 = 0 then (some ((0 : Int32), μ1)) else (am_gd a1 6 (fun j3 => some ((μ1.1 82 0 j3), μ1))))
def f_X7_coinOf (N : Nat) (a1 : Int32) (μ : am_M) : Option (Int32 × am_M) := f_X7_coinOf_0 N a1 μ
set_option maxHeartbeats 4000000 in
set_option maxRecDepth 100000 in
theorem p_X7_coinOf_0 (G : am_G) (l : Launch) (d : Nat) (hd0 : 1 ≤ d) (N : Nat) (a1 : Int32) (μ : am_M) : sm_P G l am_ci d me_X7_coinOf 0 [(0, .ref (am_ad G 5 0)), (1, .int a1)] [] μ (f_X7_coinOf_0 N a1 μ) := by
  unfold f_X7_coinOf_0
  refine sm_iload_n (pc := 0) dX7_coinOf_0 rfl 1 rfl ?_
  refine sm_iconst (pc := 1) dX7_coinOf_1 (v := 0) (by decide) ?_
  refine sm_iconst (pc := 2) dX7_coinOf_2 (v := 5) (by decide) ?_
  refine sm_callNi (pc := 3) (As := [.int a1, .int (0 : Int32), .int (5 : Int32)]) (rest := []) dX7_coinOf_3 (c_X9_isWithin G l N a1 (0 : Int32) (5 : Int32) μ) (by omega) wl_X7_40 st_X9_isWithin rfl rfl (Nat.le_of_ble_eq_true rfl) (fun y2 μ1 => ?_)
  refine sm_if_eq (pc := 6) (tgt := 18) dX7_coinOf_6 (by decide) ?_ ?_
  · refine sm_iconst (pc := 18) dX7_coinOf_18 (v := 0) (by decide) ?_
    exact sm_iret (pc := 19) dX7_coinOf_19 rfl
  · refine sm_aload_n (pc := 9) dX7_coinOf_9 rfl 0 rfl ?_
    refine sm_getr (pc := 10) dX7_coinOf_10 fi_X7_9 ?_
    refine sm_iload_n (pc := 13) dX7_coinOf_13 rfl 1 rfl ?_
    refine sm_iald (pc := 14) dX7_coinOf_14 ly_82 (by decide) (fun j3 hj3 => ?_)
    refine sm_goto (pc := 15) (tgt := 19) dX7_coinOf_15 (by decide) ?_
    exact sm_iret (pc := 19) dX7_coinOf_19 rfl
theorem c_X7_coinOf (G : am_G) (l : Launch) (N : Nat) (a1 : Int32) (μ : am_M) : ct_P G l am_ci 1 me_X7_coinOf [.ref (am_ad G 5 0), .int a1] μ (f_X7_coinOf N a1 μ) := ct_of (by decide +kernel) (Nat.le_of_ble_eq_true rfl) rfl (p_X7_coinOf_0 G l 1 (Nat.le_refl _) N a1 μ)

def f_X7_pointsOf_0 (N : Nat) (a1 : Int32) (μ : am_M) : Option (Int32 × am_M) :=
am_bd (f_X9_isWithin N a1 (0 : Int32) (5 : Int32) μ) (fun y2 μ1 => if y2 = 0 then (some ((0 : Int32), μ1)) else (am_gd a1 6 (fun j3 => some ((μ1.1 83 0 j3), μ1))))
def f_X7_pointsOf (N : Nat) (a1 : Int32) (μ : am_M) : Option (Int32 × am_M) := f_X7_pointsOf_0 N a1 μ
set_option maxHeartbeats 4000000 in
set_option maxRecDepth 100000 in
theorem p_X7_pointsOf_0 (G : am_G) (l : Launch) (d : Nat) (hd0 : 1 ≤ d) (N : Nat) (a1 : Int32) (μ : am_M) : sm_P G l am_ci d me_X7_pointsOf 0 [(0, .ref (am_ad G 5 0)), (1, .int a1)] [] μ (f_X7_pointsOf_0 N a1 μ) := by
  unfold f_X7_pointsOf_0
  refine sm_iload_n (pc := 0) dX7_pointsOf_0 rfl 1 rfl ?_
  refine sm_iconst (pc := 1) dX7_pointsOf_1 (v := 0) (by decide) ?_
  refine sm_iconst (pc := 2) dX7_pointsOf_2 (v := 5) (by decide) ?_
  refine sm_callNi (pc := 3) (As := [.int a1, .int (0 : Int32), .int (5 : Int32)]) (rest := []) dX7_pointsOf_3 (c_X9_isWithin G l N a1 (0 : Int32) (5 : Int32) μ) (by omega) wl_X7_40 st_X9_isWithin rfl rfl (Nat.le_of_ble_eq_true rfl) (fun y2 μ1 => ?_)
  refine sm_if_eq (pc := 6) (tgt := 18) dX7_pointsOf_6 (by decide) ?_ ?_
  · refine sm_iconst (pc := 18) dX7_pointsOf_18 (v := 0) (by decide) ?_
    exact sm_iret (pc := 19) dX7_pointsOf_19 rfl
  · refine sm_aload_n (pc := 9) dX7_pointsOf_9 rfl 0 rfl ?_
    refine sm_getr (pc := 10) dX7_pointsOf_10 fi_X7_15 ?_
    refine sm_iload_n (pc := 13) dX7_pointsOf_13 rfl 1 rfl ?_
    refine sm_iald (pc := 14) dX7_pointsOf_14 ly_83 (by decide) (fun j3 hj3 => ?_)
    refine sm_goto (pc := 15) (tgt := 19) dX7_pointsOf_15 (by decide) ?_
    exact sm_iret (pc := 19) dX7_pointsOf_19 rfl
theorem c_X7_pointsOf (G : am_G) (l : Launch) (N : Nat) (a1 : Int32) (μ : am_M) : ct_P G l am_ci 1 me_X7_pointsOf [.ref (am_ad G 5 0), .int a1] μ (f_X7_pointsOf N a1 μ) := ct_of (by decide +kernel) (Nat.le_of_ble_eq_true rfl) rfl (p_X7_pointsOf_0 G l 1 (Nat.le_refl _) N a1 μ)

def f_X7_worthOf_0 (N : Nat) (a1 : Int32) (a2 : Int32) (a3 : Int32) (μ : am_M) : Option (Int32 × am_M) :=
am_bd (f_X8_name N (115 : Int32) a1 μ) (fun _ μ1 => am_bd (f_X5_at N (7 : Int32) a1 μ1) (fun y3 μ2 => am_bd (f_X8_name N (98 : Int32) y3 μ2) (fun _ μ4 => am_bd (f_X8_name N (110 : Int32) (μ4.1 1 0 1) μ4) (fun _ μ5 => am_bd (f_X8_name N (116 : Int32) a2 μ5) (fun _ μ6 => am_bd (f_X8_name N (107 : Int32) a3 μ6) (fun _ μ7 => am_bd (f_X7_coinOf N a2 μ7) (fun y9 μ8 => am_bd (f_X8_name N (99 : Int32) y9 μ8) (fun _ μ10 => am_bd (f_X7_pointsOf N a2 μ10) (fun y12 μ11 => am_bd (f_X8_name N (112 : Int32) y12 μ11) (fun _ μ13 => am_bd (f_X5_at N (8 : Int32) a1 μ13) (fun y15 μ14 => am_bd (f_X8_workOut N y15 μ14) (fun y17 μ16 => am_nm (if y17 < (999 : Int32) then y17 else (999 : Int32)) (fun y18 => am_nm (if (0 : Int32) < y18 then y18 else (0 : Int32)) (fun y19 => some (y19, μ16)))))))))))))))
def f_X7_worthOf (N : Nat) (a1 : Int32) (a2 : Int32) (a3 : Int32) (μ : am_M) : Option (Int32 × am_M) := f_X7_worthOf_0 N a1 a2 a3 μ
set_option maxHeartbeats 4000000 in
set_option maxRecDepth 100000 in
theorem p_X7_worthOf_0 (G : am_G) (l : Launch) (d : Nat) (hd0 : 3 ≤ d) (N : Nat) (a1 : Int32) (a2 : Int32) (a3 : Int32) (μ : am_M) : sm_P G l am_ci d me_X7_worthOf 0 [(0, .ref (am_ad G 5 0)), (1, .int a1), (2, .int a2), (3, .int a3)] [] μ (f_X7_worthOf_0 N a1 a2 a3 μ) := by
  unfold f_X7_worthOf_0
  refine sm_aload_n (pc := 0) dX7_worthOf_0 rfl 0 rfl ?_
  refine sm_getr (pc := 1) dX7_worthOf_1 fi_X7_30 ?_
  refine sm_bipush (pc := 4) dX7_worthOf_4 (v := 115) (by decide) ?_
  refine sm_iload_n (pc := 6) dX7_worthOf_6 rfl 1 rfl ?_
  refine sm_callVv (pc := 7) (As := [.int (115 : Int32), .int a1]) (rest := []) dX7_worthOf_7 (c_X8_name G l N (115 : Int32) a1 μ) (by omega) wl_X7_44 vm_X8_name rfl rfl (Nat.le_of_ble_eq_true rfl) (fun _ μ1 => ?_)
  refine sm_aload_n (pc := 10) dX7_worthOf_10 rfl 0 rfl ?_
  refine sm_getr (pc := 11) dX7_worthOf_11 fi_X7_30 ?_
  refine sm_bipush (pc := 14) dX7_worthOf_14 (v := 98) (by decide) ?_
  refine sm_aload_n (pc := 16) dX7_worthOf_16 rfl 0 rfl ?_
  refine sm_getr (pc := 17) dX7_worthOf_17 fi_X7_26 ?_
  refine sm_bipush (pc := 20) dX7_worthOf_20 (v := 7) (by decide) ?_
  refine sm_iload_n (pc := 22) dX7_worthOf_22 rfl 1 rfl ?_
  refine sm_callVi (pc := 23) (As := [.int (7 : Int32), .int a1]) (rest := [.int (98 : Int32), .ref (am_ad G 4 0)]) dX7_worthOf_23 (c_X5_at G l N (7 : Int32) a1 μ1) (by omega) wl_X7_34 vm_X5_at rfl rfl (Nat.le_of_ble_eq_true rfl) (fun y3 μ2 => ?_)
  refine sm_callVv (pc := 26) (As := [.int (98 : Int32), .int y3]) (rest := []) dX7_worthOf_26 (c_X8_name G l N (98 : Int32) y3 μ2) (by omega) wl_X7_44 vm_X8_name rfl rfl (Nat.le_of_ble_eq_true rfl) (fun _ μ4 => ?_)
  refine sm_aload_n (pc := 29) dX7_worthOf_29 rfl 0 rfl ?_
  refine sm_getr (pc := 30) dX7_worthOf_30 fi_X7_30 ?_
  refine sm_bipush (pc := 33) dX7_worthOf_33 (v := 110) (by decide) ?_
  refine sm_aload_n (pc := 35) dX7_worthOf_35 rfl 0 rfl ?_
  refine sm_getr (pc := 36) dX7_worthOf_36 fi_X7_26 ?_
  refine sm_geti (pc := 39) dX7_worthOf_39 fi_X7_50 ?_
  refine sm_callVv (pc := 42) (As := [.int (110 : Int32), .int (μ4.1 1 0 1)]) (rest := []) dX7_worthOf_42 (c_X8_name G l N (110 : Int32) (μ4.1 1 0 1) μ4) (by omega) wl_X7_44 vm_X8_name rfl rfl (Nat.le_of_ble_eq_true rfl) (fun _ μ5 => ?_)
  refine sm_aload_n (pc := 45) dX7_worthOf_45 rfl 0 rfl ?_
  refine sm_getr (pc := 46) dX7_worthOf_46 fi_X7_30 ?_
  refine sm_bipush (pc := 49) dX7_worthOf_49 (v := 116) (by decide) ?_
  refine sm_iload_n (pc := 51) dX7_worthOf_51 rfl 2 rfl ?_
  refine sm_callVv (pc := 52) (As := [.int (116 : Int32), .int a2]) (rest := []) dX7_worthOf_52 (c_X8_name G l N (116 : Int32) a2 μ5) (by omega) wl_X7_44 vm_X8_name rfl rfl (Nat.le_of_ble_eq_true rfl) (fun _ μ6 => ?_)
  refine sm_aload_n (pc := 55) dX7_worthOf_55 rfl 0 rfl ?_
  refine sm_getr (pc := 56) dX7_worthOf_56 fi_X7_30 ?_
  refine sm_bipush (pc := 59) dX7_worthOf_59 (v := 107) (by decide) ?_
  refine sm_iload_n (pc := 61) dX7_worthOf_61 rfl 3 rfl ?_
  refine sm_callVv (pc := 62) (As := [.int (107 : Int32), .int a3]) (rest := []) dX7_worthOf_62 (c_X8_name G l N (107 : Int32) a3 μ6) (by omega) wl_X7_44 vm_X8_name rfl rfl (Nat.le_of_ble_eq_true rfl) (fun _ μ7 => ?_)
  refine sm_aload_n (pc := 65) dX7_worthOf_65 rfl 0 rfl ?_
  refine sm_getr (pc := 66) dX7_worthOf_66 fi_X7_30 ?_
  refine sm_bipush (pc := 69) dX7_worthOf_69 (v := 99) (by decide) ?_
  refine sm_aload_n (pc := 71) dX7_worthOf_71 rfl 0 rfl ?_
  refine sm_iload_n (pc := 72) dX7_worthOf_72 rfl 2 rfl ?_
  refine sm_callVi (pc := 73) (As := [.int a2]) (rest := [.int (99 : Int32), .ref (am_ad G 4 0)]) dX7_worthOf_73 (c_X7_coinOf G l N a2 μ7) (by omega) wl_X7_54 vm_X7_coinOf rfl rfl (Nat.le_of_ble_eq_true rfl) (fun y9 μ8 => ?_)
  refine sm_callVv (pc := 76) (As := [.int (99 : Int32), .int y9]) (rest := []) dX7_worthOf_76 (c_X8_name G l N (99 : Int32) y9 μ8) (by omega) wl_X7_44 vm_X8_name rfl rfl (Nat.le_of_ble_eq_true rfl) (fun _ μ10 => ?_)
  refine sm_aload_n (pc := 79) dX7_worthOf_79 rfl 0 rfl ?_
  refine sm_getr (pc := 80) dX7_worthOf_80 fi_X7_30 ?_
  refine sm_bipush (pc := 83) dX7_worthOf_83 (v := 112) (by decide) ?_
  refine sm_aload_n (pc := 85) dX7_worthOf_85 rfl 0 rfl ?_
  refine sm_iload_n (pc := 86) dX7_worthOf_86 rfl 2 rfl ?_
  refine sm_callVi (pc := 87) (As := [.int a2]) (rest := [.int (112 : Int32), .ref (am_ad G 4 0)]) dX7_worthOf_87 (c_X7_pointsOf G l N a2 μ10) (by omega) wl_X7_58 vm_X7_pointsOf rfl rfl (Nat.le_of_ble_eq_true rfl) (fun y12 μ11 => ?_)
  refine sm_callVv (pc := 90) (As := [.int (112 : Int32), .int y12]) (rest := []) dX7_worthOf_90 (c_X8_name G l N (112 : Int32) y12 μ11) (by omega) wl_X7_44 vm_X8_name rfl rfl (Nat.le_of_ble_eq_true rfl) (fun _ μ13 => ?_)
  refine sm_iconst (pc := 93) dX7_worthOf_93 (v := 0) (by decide) ?_
  refine sm_sipush (pc := 94) dX7_worthOf_94 (v := 999) (by decide) ?_
  refine sm_aload_n (pc := 97) dX7_worthOf_97 rfl 0 rfl ?_
  refine sm_getr (pc := 98) dX7_worthOf_98 fi_X7_30 ?_
  refine sm_aload_n (pc := 101) dX7_worthOf_101 rfl 0 rfl ?_
  refine sm_getr (pc := 102) dX7_worthOf_102 fi_X7_26 ?_
  refine sm_bipush (pc := 105) dX7_worthOf_105 (v := 8) (by decide) ?_
  refine sm_iload_n (pc := 107) dX7_worthOf_107 rfl 1 rfl ?_
  refine sm_callVi (pc := 108) (As := [.int (8 : Int32), .int a1]) (rest := [.ref (am_ad G 4 0), .int (999 : Int32), .int (0 : Int32)]) dX7_worthOf_108 (c_X5_at G l N (8 : Int32) a1 μ13) (by omega) wl_X7_34 vm_X5_at rfl rfl (Nat.le_of_ble_eq_true rfl) (fun y15 μ14 => ?_)
  refine sm_callVi (pc := 111) (As := [.int y15]) (rest := [.int (999 : Int32), .int (0 : Int32)]) dX7_worthOf_111 (c_X8_workOut G l N y15 μ14) (by omega) wl_X7_61 vm_X8_workOut rfl rfl (Nat.le_of_ble_eq_true rfl) (fun y17 μ16 => ?_)
  refine sm_min (pc := 114) dX7_worthOf_114 (by omega) (Nat.le_of_ble_eq_true rfl) wl_X7_64 wd_min wd_minit wd_minc ?_
  refine sm_nmI (fun y18 => ?_)
  refine sm_max (pc := 117) dX7_worthOf_117 (by omega) (Nat.le_of_ble_eq_true rfl) wl_X7_69 wd_max wd_minit wd_maxc ?_
  refine sm_nmI (fun y19 => ?_)
  exact sm_iret (pc := 120) dX7_worthOf_120 rfl
theorem c_X7_worthOf (G : am_G) (l : Launch) (N : Nat) (a1 : Int32) (a2 : Int32) (a3 : Int32) (μ : am_M) : ct_P G l am_ci 3 me_X7_worthOf [.ref (am_ad G 5 0), .int a1, .int a2, .int a3] μ (f_X7_worthOf N a1 a2 a3 μ) := ct_of (by decide +kernel) (Nat.le_of_ble_eq_true rfl) rfl (p_X7_worthOf_0 G l 3 (Nat.le_refl _) N a1 a2 a3 μ)

def f_X7_weigh_29 (N : Nat) (r_23 : Int32 → Int32 → am_M → Option (Unit × am_M)) (r_29 : Int32 → Int32 → Int32 → am_M → Option (Unit × am_M)) (x1 : Int32) (x2 : Int32) (x3 : Int32) (μ : am_M) : Option (Unit × am_M) :=
if (3 : Int32) < x3 then (am_gd (x2 + (1 : Int32)) 7 (fun j4 => am_gd x2 6 (fun j5 => am_gd (3 : Int32) 4 (fun j6 => am_gd x2 7 (fun j7 => am_nm (am_ui μ 85 0 j7 ((μ.1 85 0 j4) + (μ.1 384 j5 j6))) (fun μ8 => r_23 x1 (x2 + (-1 : Int32)) μ8)))))) else (am_gd x2 6 (fun j9 => am_gd x2 6 (fun j10 => am_gd (x3 - (1 : Int32)) 4 (fun j11 => am_bd (f_X7_worthOf N x1 x2 x3 μ) (fun y13 μ12 => am_gd x3 4 (fun j14 => am_nm (am_ui μ12 384 j9 j14 ((μ.1 384 j10 j11) + y13)) (fun μ15 => r_29 x1 x2 (x3 + (1 : Int32)) μ15)))))))
def f_X7_weigh_29_lp (N : Nat) (r_23 : Int32 → Int32 → am_M → Option (Unit × am_M)) : Nat → Int32 → Int32 → Int32 → am_M → Option (Unit × am_M)
  | 0, _, _, _, _ => none
  | n + 1, x1, x2, x3, μ => f_X7_weigh_29 N r_23 (f_X7_weigh_29_lp N r_23 n) x1 x2 x3 μ
def f_X7_weigh_23 (N : Nat) (r_23 : Int32 → Int32 → am_M → Option (Unit × am_M)) (x1 : Int32) (x2 : Int32) (μ : am_M) : Option (Unit × am_M) :=
if x2 < 0 then (some ((), μ)) else (f_X7_weigh_29_lp N r_23 N x1 x2 (1 : Int32) μ)
def f_X7_weigh_23_lp (N : Nat) : Nat → Int32 → Int32 → am_M → Option (Unit × am_M)
  | 0, _, _, _ => none
  | n + 1, x1, x2, μ => f_X7_weigh_23 N (f_X7_weigh_23_lp N n) x1 x2 μ
def f_X7_weigh_0 (N : Nat) (a1 : Int32) (μ : am_M) : Option (Unit × am_M) :=
am_gd (μ.1 1 0 1) 7 (fun j1 => am_nm (am_ui μ 85 0 j1 (0 : Int32)) (fun μ2 => am_nm ((μ2.1 1 0 1) - (1 : Int32)) (fun y3 => f_X7_weigh_23_lp N N a1 y3 μ2)))
def f_X7_weigh (N : Nat) (a1 : Int32) (μ : am_M) : Option (Unit × am_M) := f_X7_weigh_0 N a1 μ
set_option maxHeartbeats 4000000 in
set_option maxRecDepth 100000 in
theorem p_X7_weigh_29 (G : am_G) (l : Launch) (d : Nat) (hd0 : 4 ≤ d) (N : Nat) (r_23 : Int32 → Int32 → am_M → Option (Unit × am_M)) (r_29 : Int32 → Int32 → Int32 → am_M → Option (Unit × am_M)) (H_23 : ∀ (x1 : Int32) (x2 : Int32) (μ : am_M), sm_P G l am_cu d me_X7_weigh 23 [(0, .ref (am_ad G 5 0)), (1, .int x1), (2, .int x2)] [] μ (r_23 x1 x2 μ)) (H_29 : ∀ (x1 : Int32) (x2 : Int32) (x3 : Int32) (μ : am_M), sm_P G l am_cu d me_X7_weigh 29 [(0, .ref (am_ad G 5 0)), (1, .int x1), (2, .int x2), (3, .int x3)] [] μ (r_29 x1 x2 x3 μ)) (x1 : Int32) (x2 : Int32) (x3 : Int32) (μ : am_M) : sm_P G l am_cu d me_X7_weigh 29 [(0, .ref (am_ad G 5 0)), (1, .int x1), (2, .int x2), (3, .int x3)] [] μ (f_X7_weigh_29 N r_23 r_29 x1 x2 x3 μ) := by
  unfold f_X7_weigh_29
  refine sm_iload_n (pc := 29) dX7_weigh_29 rfl 3 rfl ?_
  refine sm_iconst (pc := 30) dX7_weigh_30 (v := 3) (by decide) ?_
  refine sm_icmp_gt (pc := 31) (tgt := 66) dX7_weigh_31 (by decide) ?_ ?_
  · refine sm_aload_n (pc := 66) dX7_weigh_66 rfl 0 rfl ?_
    refine sm_getr (pc := 67) dX7_weigh_67 fi_X7_23 ?_
    refine sm_iload_n (pc := 70) dX7_weigh_70 rfl 2 rfl ?_
    refine sm_aload_n (pc := 71) dX7_weigh_71 rfl 0 rfl ?_
    refine sm_getr (pc := 72) dX7_weigh_72 fi_X7_23 ?_
    refine sm_iload_n (pc := 75) dX7_weigh_75 rfl 2 rfl ?_
    refine sm_iconst (pc := 76) dX7_weigh_76 (v := 1) (by decide) ?_
    refine sm_iadd (pc := 77) dX7_weigh_77 ?_
    refine sm_iald (pc := 78) dX7_weigh_78 ly_85 (by decide) (fun j4 hj4 => ?_)
    refine sm_aload_n (pc := 79) dX7_weigh_79 rfl 0 rfl ?_
    refine sm_getr (pc := 80) dX7_weigh_80 fi_X7_20 ?_
    refine sm_iload_n (pc := 83) dX7_weigh_83 rfl 2 rfl ?_
    refine sm_aald (pc := 84) (t := 0) (ty := .int) dX7_weigh_84 ly_84 (fun _ => rfl) (fun j5 hj5 => ?_)
    refine sm_iconst (pc := 85) dX7_weigh_85 (v := 3) (by decide) ?_
    refine sm_iald (pc := 86) dX7_weigh_86 ly_384 hj5 (fun j6 hj6 => ?_)
    refine sm_iadd (pc := 87) dX7_weigh_87 ?_
    refine sm_iast (pc := 88) dX7_weigh_88 ly_85 (by decide) (fun j7 hj7 => ?_)
    refine sm_nmM (fun μ8 => ?_)
    refine sm_iinc (pc := 89) (v := (x2 + (-1 : Int32))) (lv' := [(2, .int (x2 + (-1 : Int32))), (0, .ref (am_ad G 5 0)), (1, .int x1), (3, .int x3)]) dX7_weigh_89 2 rfl rfl (by decide) rfl ?_
    refine sm_goto (pc := 92) (tgt := 23) dX7_weigh_92 (by decide) ?_
    refine sm_sub [1, 2, 0] rfl ?_
    exact H_23 x1 (x2 + (-1 : Int32)) μ8
  · refine sm_aload_n (pc := 34) dX7_weigh_34 rfl 0 rfl ?_
    refine sm_getr (pc := 35) dX7_weigh_35 fi_X7_20 ?_
    refine sm_iload_n (pc := 38) dX7_weigh_38 rfl 2 rfl ?_
    refine sm_aald (pc := 39) (t := 0) (ty := .int) dX7_weigh_39 ly_84 (fun _ => rfl) (fun j9 hj9 => ?_)
    refine sm_iload_n (pc := 40) dX7_weigh_40 rfl 3 rfl ?_
    refine sm_aload_n (pc := 41) dX7_weigh_41 rfl 0 rfl ?_
    refine sm_getr (pc := 42) dX7_weigh_42 fi_X7_20 ?_
    refine sm_iload_n (pc := 45) dX7_weigh_45 rfl 2 rfl ?_
    refine sm_aald (pc := 46) (t := 0) (ty := .int) dX7_weigh_46 ly_84 (fun _ => rfl) (fun j10 hj10 => ?_)
    refine sm_iload_n (pc := 47) dX7_weigh_47 rfl 3 rfl ?_
    refine sm_iconst (pc := 48) dX7_weigh_48 (v := 1) (by decide) ?_
    refine sm_isub (pc := 49) dX7_weigh_49 ?_
    refine sm_iald (pc := 50) dX7_weigh_50 ly_384 hj10 (fun j11 hj11 => ?_)
    refine sm_aload_n (pc := 51) dX7_weigh_51 rfl 0 rfl ?_
    refine sm_iload_n (pc := 52) dX7_weigh_52 rfl 1 rfl ?_
    refine sm_iload_n (pc := 53) dX7_weigh_53 rfl 2 rfl ?_
    refine sm_iload_n (pc := 54) dX7_weigh_54 rfl 3 rfl ?_
    refine sm_callVi (pc := 55) (As := [.int x1, .int x2, .int x3]) (rest := [.int (μ.1 384 j10 j11), .int x3, .ref (am_ad G 384 j9)]) dX7_weigh_55 (c_X7_worthOf G l N x1 x2 x3 μ) (by omega) wl_X7_72 vm_X7_worthOf rfl rfl (Nat.le_of_ble_eq_true rfl) (fun y13 μ12 => ?_)
    refine sm_iadd (pc := 58) dX7_weigh_58 ?_
    refine sm_iast (pc := 59) dX7_weigh_59 ly_384 hj9 (fun j14 hj14 => ?_)
    refine sm_nmM (fun μ15 => ?_)
    refine sm_iinc (pc := 60) (v := (x3 + (1 : Int32))) (lv' := [(3, .int (x3 + (1 : Int32))), (0, .ref (am_ad G 5 0)), (1, .int x1), (2, .int x2)]) dX7_weigh_60 3 rfl rfl (by decide) rfl ?_
    refine sm_goto (pc := 63) (tgt := 29) dX7_weigh_63 (by decide) ?_
    refine sm_sub [1, 2, 3, 0] rfl ?_
    exact H_29 x1 x2 (x3 + (1 : Int32)) μ15
theorem p_X7_weigh_29_lp (G : am_G) (l : Launch) (d : Nat) (hd0 : 4 ≤ d) (N : Nat) (r_23 : Int32 → Int32 → am_M → Option (Unit × am_M)) (H_23 : ∀ (x1 : Int32) (x2 : Int32) (μ : am_M), sm_P G l am_cu d me_X7_weigh 23 [(0, .ref (am_ad G 5 0)), (1, .int x1), (2, .int x2)] [] μ (r_23 x1 x2 μ)) : ∀ (n : Nat) (x1 : Int32) (x2 : Int32) (x3 : Int32) (μ : am_M), sm_P G l am_cu d me_X7_weigh 29 [(0, .ref (am_ad G 5 0)), (1, .int x1), (2, .int x2), (3, .int x3)] [] μ (f_X7_weigh_29_lp N r_23 n x1 x2 x3 μ) := by
  intro n
  induction n with
  | zero => intros; exact sm_none
  | succ n ih => exact fun x1 x2 x3 μ => p_X7_weigh_29 G l d hd0 N r_23 (f_X7_weigh_29_lp N r_23 n) H_23 ih x1 x2 x3 μ
set_option maxHeartbeats 4000000 in
set_option maxRecDepth 100000 in
theorem p_X7_weigh_23 (G : am_G) (l : Launch) (d : Nat) (hd0 : 4 ≤ d) (N : Nat) (r_23 : Int32 → Int32 → am_M → Option (Unit × am_M)) (H_23 : ∀ (x1 : Int32) (x2 : Int32) (μ : am_M), sm_P G l am_cu d me_X7_weigh 23 [(0, .ref (am_ad G 5 0)), (1, .int x1), (2, .int x2)] [] μ (r_23 x1 x2 μ)) (x1 : Int32) (x2 : Int32) (μ : am_M) : sm_P G l am_cu d me_X7_weigh 23 [(0, .ref (am_ad G 5 0)), (1, .int x1), (2, .int x2)] [] μ (f_X7_weigh_23 N r_23 x1 x2 μ) := by
  unfold f_X7_weigh_23
  refine sm_iload_n (pc := 23) dX7_weigh_23 rfl 2 rfl ?_
  refine sm_if_lt (pc := 24) (tgt := 95) dX7_weigh_24 (by decide) ?_ ?_
  · exact sm_vret (pc := 95) dX7_weigh_95 rfl
  · refine sm_iconst (pc := 27) dX7_weigh_27 (v := 1) (by decide) ?_
    refine sm_istore_n (pc := 28) (lv' := [(3, .int (1 : Int32)), (0, .ref (am_ad G 5 0)), (1, .int x1), (2, .int x2)]) dX7_weigh_28 rfl (by decide) rfl ?_
    refine sm_sub [1, 2, 3, 0] rfl ?_
    exact p_X7_weigh_29_lp G l d hd0 N r_23 H_23 N x1 x2 (1 : Int32) μ
theorem p_X7_weigh_23_lp (G : am_G) (l : Launch) (d : Nat) (hd0 : 4 ≤ d) (N : Nat) : ∀ (n : Nat) (x1 : Int32) (x2 : Int32) (μ : am_M), sm_P G l am_cu d me_X7_weigh 23 [(0, .ref (am_ad G 5 0)), (1, .int x1), (2, .int x2)] [] μ (f_X7_weigh_23_lp N n x1 x2 μ) := by
  intro n
  induction n with
  | zero => intros; exact sm_none
  | succ n ih => exact fun x1 x2 μ => p_X7_weigh_23 G l d hd0 N (f_X7_weigh_23_lp N n) ih x1 x2 μ
set_option maxHeartbeats 4000000 in
set_option maxRecDepth 100000 in
theorem p_X7_weigh_0 (G : am_G) (l : Launch) (d : Nat) (hd0 : 4 ≤ d) (N : Nat) (a1 : Int32) (μ : am_M) : sm_P G l am_cu d me_X7_weigh 0 [(0, .ref (am_ad G 5 0)), (1, .int a1)] [] μ (f_X7_weigh_0 N a1 μ) := by
  unfold f_X7_weigh_0
  refine sm_aload_n (pc := 0) dX7_weigh_0 rfl 0 rfl ?_
  refine sm_getr (pc := 1) dX7_weigh_1 fi_X7_23 ?_
  refine sm_aload_n (pc := 4) dX7_weigh_4 rfl 0 rfl ?_
  refine sm_getr (pc := 5) dX7_weigh_5 fi_X7_26 ?_
  refine sm_geti (pc := 8) dX7_weigh_8 fi_X7_50 ?_
  refine sm_iconst (pc := 11) dX7_weigh_11 (v := 0) (by decide) ?_
  refine sm_iast (pc := 12) dX7_weigh_12 ly_85 (by decide) (fun j1 hj1 => ?_)
  refine sm_nmM (fun μ2 => ?_)
  refine sm_aload_n (pc := 13) dX7_weigh_13 rfl 0 rfl ?_
  refine sm_getr (pc := 14) dX7_weigh_14 fi_X7_26 ?_
  refine sm_geti (pc := 17) dX7_weigh_17 fi_X7_50 ?_
  refine sm_iconst (pc := 20) dX7_weigh_20 (v := 1) (by decide) ?_
  refine sm_isub (pc := 21) dX7_weigh_21 ?_
  refine sm_nmI (fun y3 => ?_)
  refine sm_istore_n (pc := 22) (lv' := [(2, .int y3), (0, .ref (am_ad G 5 0)), (1, .int a1)]) dX7_weigh_22 rfl (by decide) rfl ?_
  refine sm_sub [1, 2, 0] rfl ?_
  exact p_X7_weigh_23_lp G l d hd0 N N a1 y3 μ2
theorem c_X7_weigh (G : am_G) (l : Launch) (N : Nat) (a1 : Int32) (μ : am_M) : ct_P G l am_cu 4 me_X7_weigh [.ref (am_ad G 5 0), .int a1] μ (f_X7_weigh N a1 μ) := ct_of (by decide +kernel) (Nat.le_of_ble_eq_true rfl) rfl (p_X7_weigh_0 G l 4 (Nat.le_refl _) N a1 μ)

def f_X7_compare_54 (N : Nat) (x1 : Int32) (x2 : Int32) (x3 : Int32) (x4 : Int32) (x5 : Int32) (μ : am_M) : Option (Unit × am_M) :=
if x5 = 0 then (some ((), μ)) else (am_nm (am_ui μ 5 0 9 x1) (fun μ1 => am_nm (am_ui μ1 5 0 10 x2) (fun μ2 => am_nm (am_ui μ2 5 0 11 x3) (fun μ3 => am_nm (am_ui μ3 5 0 12 x4) (fun μ4 => some ((), μ4))))))
def f_X7_compare_52 (N : Nat) (x1 : Int32) (x2 : Int32) (x3 : Int32) (x4 : Int32) (s0 : Int32) (μ : am_M) : Option (Unit × am_M) :=
f_X7_compare_54 N x1 x2 x3 x4 s0 μ
def f_X7_compare_47 (N : Nat) (x1 : Int32) (x2 : Int32) (x3 : Int32) (x4 : Int32) (μ : am_M) : Option (Unit × am_M) :=
f_X7_compare_52 N x1 x2 x3 x4 (1 : Int32) μ
def f_X7_compare_51 (N : Nat) (x1 : Int32) (x2 : Int32) (x3 : Int32) (x4 : Int32) (μ : am_M) : Option (Unit × am_M) :=
f_X7_compare_52 N x1 x2 x3 x4 (0 : Int32) μ
def f_X7_compare_13 (N : Nat) (x1 : Int32) (x2 : Int32) (x3 : Int32) (x4 : Int32) (s0 : Int32) (μ : am_M) : Option (Unit × am_M) :=
if x1 = (μ.1 5 0 9) then (if x2 < (μ.1 5 0 10) then (f_X7_compare_47 N x1 x2 x3 x4 μ) else (if x2 = (μ.1 5 0 10) then (if (μ.1 5 0 11) < x3 then (f_X7_compare_51 N x1 x2 x3 x4 μ) else (f_X7_compare_47 N x1 x2 x3 x4 μ)) else (f_X7_compare_51 N x1 x2 x3 x4 μ))) else (f_X7_compare_54 N x1 x2 x3 x4 s0 μ)
def f_X7_compare_0 (N : Nat) (a1 : Int32) (a2 : Int32) (a3 : Int32) (a4 : Int32) (μ : am_M) : Option (Unit × am_M) :=
if a1 ≤ (μ.1 5 0 9) then (f_X7_compare_13 N a1 a2 a3 a4 (0 : Int32) μ) else (f_X7_compare_13 N a1 a2 a3 a4 (1 : Int32) μ)
def f_X7_compare (N : Nat) (a1 : Int32) (a2 : Int32) (a3 : Int32) (a4 : Int32) (μ : am_M) : Option (Unit × am_M) := f_X7_compare_0 N a1 a2 a3 a4 μ
set_option maxHeartbeats 4000000 in
set_option maxRecDepth 100000 in
theorem p_X7_compare_54 (G : am_G) (l : Launch) (d : Nat) (hd0 : 0 ≤ d) (N : Nat) (x1 : Int32) (x2 : Int32) (x3 : Int32) (x4 : Int32) (x5 : Int32) (μ : am_M) : sm_P G l am_cu d me_X7_compare 54 [(0, .ref (am_ad G 5 0)), (1, .int x1), (2, .int x2), (3, .int x3), (4, .int x4), (5, .int x5)] [] μ (f_X7_compare_54 N x1 x2 x3 x4 x5 μ) := by
  unfold f_X7_compare_54
  refine sm_iload (pc := 54) dX7_compare_54 5 rfl ?_
  refine sm_if_eq (pc := 56) (tgt := 80) dX7_compare_56 (by decide) ?_ ?_
  · exact sm_vret (pc := 80) dX7_compare_80 rfl
  · refine sm_aload_n (pc := 59) dX7_compare_59 rfl 0 rfl ?_
    refine sm_iload_n (pc := 60) dX7_compare_60 rfl 1 rfl ?_
    refine sm_puti (pc := 61) dX7_compare_61 fi_X7_92 ?_
    refine sm_nmM (fun μ1 => ?_)
    refine sm_aload_n (pc := 64) dX7_compare_64 rfl 0 rfl ?_
    refine sm_iload_n (pc := 65) dX7_compare_65 rfl 2 rfl ?_
    refine sm_puti (pc := 66) dX7_compare_66 fi_X7_95 ?_
    refine sm_nmM (fun μ2 => ?_)
    refine sm_aload_n (pc := 69) dX7_compare_69 rfl 0 rfl ?_
    refine sm_iload_n (pc := 70) dX7_compare_70 rfl 3 rfl ?_
    refine sm_puti (pc := 71) dX7_compare_71 fi_X7_98 ?_
    refine sm_nmM (fun μ3 => ?_)
    refine sm_aload_n (pc := 74) dX7_compare_74 rfl 0 rfl ?_
    refine sm_iload (pc := 75) dX7_compare_75 4 rfl ?_
    refine sm_puti (pc := 77) dX7_compare_77 fi_X7_101 ?_
    refine sm_nmM (fun μ4 => ?_)
    exact sm_vret (pc := 80) dX7_compare_80 rfl
set_option maxHeartbeats 4000000 in
set_option maxRecDepth 100000 in
theorem p_X7_compare_52 (G : am_G) (l : Launch) (d : Nat) (hd0 : 0 ≤ d) (N : Nat) (x1 : Int32) (x2 : Int32) (x3 : Int32) (x4 : Int32) (s0 : Int32) (μ : am_M) : sm_P G l am_cu d me_X7_compare 52 [(0, .ref (am_ad G 5 0)), (1, .int x1), (2, .int x2), (3, .int x3), (4, .int x4)] [.int s0] μ (f_X7_compare_52 N x1 x2 x3 x4 s0 μ) := by
  unfold f_X7_compare_52
  refine sm_istore (pc := 52) (lv' := [(5, .int s0), (0, .ref (am_ad G 5 0)), (1, .int x1), (2, .int x2), (3, .int x3), (4, .int x4)]) dX7_compare_52 (by decide) rfl ?_
  refine sm_sub [1, 2, 3, 4, 5, 0] rfl ?_
  exact p_X7_compare_54 G l d hd0 N x1 x2 x3 x4 s0 μ
set_option maxHeartbeats 4000000 in
set_option maxRecDepth 100000 in
theorem p_X7_compare_47 (G : am_G) (l : Launch) (d : Nat) (hd0 : 0 ≤ d) (N : Nat) (x1 : Int32) (x2 : Int32) (x3 : Int32) (x4 : Int32) (μ : am_M) : sm_P G l am_cu d me_X7_compare 47 [(0, .ref (am_ad G 5 0)), (1, .int x1), (2, .int x2), (3, .int x3), (4, .int x4)] [] μ (f_X7_compare_47 N x1 x2 x3 x4 μ) := by
  unfold f_X7_compare_47
  refine sm_iconst (pc := 47) dX7_compare_47 (v := 1) (by decide) ?_
  refine sm_goto (pc := 48) (tgt := 52) dX7_compare_48 (by decide) ?_
  exact p_X7_compare_52 G l d hd0 N x1 x2 x3 x4 (1 : Int32) μ
set_option maxHeartbeats 4000000 in
set_option maxRecDepth 100000 in
theorem p_X7_compare_51 (G : am_G) (l : Launch) (d : Nat) (hd0 : 0 ≤ d) (N : Nat) (x1 : Int32) (x2 : Int32) (x3 : Int32) (x4 : Int32) (μ : am_M) : sm_P G l am_cu d me_X7_compare 51 [(0, .ref (am_ad G 5 0)), (1, .int x1), (2, .int x2), (3, .int x3), (4, .int x4)] [] μ (f_X7_compare_51 N x1 x2 x3 x4 μ) := by
  unfold f_X7_compare_51
  refine sm_iconst (pc := 51) dX7_compare_51 (v := 0) (by decide) ?_
  exact p_X7_compare_52 G l d hd0 N x1 x2 x3 x4 (0 : Int32) μ
set_option maxHeartbeats 4000000 in
set_option maxRecDepth 100000 in
theorem p_X7_compare_13 (G : am_G) (l : Launch) (d : Nat) (hd0 : 0 ≤ d) (N : Nat) (x1 : Int32) (x2 : Int32) (x3 : Int32) (x4 : Int32) (s0 : Int32) (μ : am_M) : sm_P G l am_cu d me_X7_compare 13 [(0, .ref (am_ad G 5 0)), (1, .int x1), (2, .int x2), (3, .int x3), (4, .int x4)] [.int s0] μ (f_X7_compare_13 N x1 x2 x3 x4 s0 μ) := by
  unfold f_X7_compare_13
  refine sm_istore (pc := 13) (lv' := [(5, .int s0), (0, .ref (am_ad G 5 0)), (1, .int x1), (2, .int x2), (3, .int x3), (4, .int x4)]) dX7_compare_13 (by decide) rfl ?_
  refine sm_iload_n (pc := 15) dX7_compare_15 rfl 2 rfl ?_
  refine sm_aload_n (pc := 16) dX7_compare_16 rfl 1 rfl ?_
  refine sm_geti (pc := 17) dX7_compare_17 fi_X7_92 ?_
  refine sm_icmp_ne (pc := 20) (tgt := 54) dX7_compare_20 (by decide) ?_ ?_
  · refine sm_sub [1, 2, 3, 4, 5, 0] rfl ?_
    exact p_X7_compare_54 G l d hd0 N x1 x2 x3 x4 s0 μ
  · refine sm_iload_n (pc := 23) dX7_compare_23 rfl 3 rfl ?_
    refine sm_aload_n (pc := 24) dX7_compare_24 rfl 1 rfl ?_
    refine sm_geti (pc := 25) dX7_compare_25 fi_X7_95 ?_
    refine sm_icmp_lt (pc := 28) (tgt := 47) dX7_compare_28 (by decide) ?_ ?_
    · refine sm_sub [1, 2, 3, 4, 5] rfl ?_
      exact p_X7_compare_47 G l d hd0 N x1 x2 x3 x4 μ
    · refine sm_iload_n (pc := 31) dX7_compare_31 rfl 3 rfl ?_
      refine sm_aload_n (pc := 32) dX7_compare_32 rfl 1 rfl ?_
      refine sm_geti (pc := 33) dX7_compare_33 fi_X7_95 ?_
      refine sm_icmp_ne (pc := 36) (tgt := 51) dX7_compare_36 (by decide) ?_ ?_
      · refine sm_sub [1, 2, 3, 4, 5] rfl ?_
        exact p_X7_compare_51 G l d hd0 N x1 x2 x3 x4 μ
      · refine sm_iload_n (pc := 39) dX7_compare_39 rfl 4 rfl ?_
        refine sm_aload_n (pc := 40) dX7_compare_40 rfl 1 rfl ?_
        refine sm_geti (pc := 41) dX7_compare_41 fi_X7_98 ?_
        refine sm_icmp_gt (pc := 44) (tgt := 51) dX7_compare_44 (by decide) ?_ ?_
        · refine sm_sub [1, 2, 3, 4, 5] rfl ?_
          exact p_X7_compare_51 G l d hd0 N x1 x2 x3 x4 μ
        · refine sm_sub [1, 2, 3, 4, 5] rfl ?_
          exact p_X7_compare_47 G l d hd0 N x1 x2 x3 x4 μ
set_option maxHeartbeats 4000000 in
set_option maxRecDepth 100000 in
theorem p_X7_compare_0 (G : am_G) (l : Launch) (d : Nat) (hd0 : 0 ≤ d) (N : Nat) (a1 : Int32) (a2 : Int32) (a3 : Int32) (a4 : Int32) (μ : am_M) : sm_P G l am_cu d me_X7_compare 0 [(0, .ref (am_ad G 5 0)), (1, .int a1), (2, .int a2), (3, .int a3), (4, .int a4)] [] μ (f_X7_compare_0 N a1 a2 a3 a4 μ) := by
  unfold f_X7_compare_0
  refine sm_iload_n (pc := 0) dX7_compare_0 rfl 1 rfl ?_
  refine sm_aload_n (pc := 1) dX7_compare_1 rfl 0 rfl ?_
  refine sm_geti (pc := 2) dX7_compare_2 fi_X7_92 ?_
  refine sm_icmp_le (pc := 5) (tgt := 12) dX7_compare_5 (by decide) ?_ ?_
  · refine sm_iconst (pc := 12) dX7_compare_12 (v := 0) (by decide) ?_
    exact p_X7_compare_13 G l d hd0 N a1 a2 a3 a4 (0 : Int32) μ
  · refine sm_iconst (pc := 8) dX7_compare_8 (v := 1) (by decide) ?_
    refine sm_goto (pc := 9) (tgt := 13) dX7_compare_9 (by decide) ?_
    exact p_X7_compare_13 G l d hd0 N a1 a2 a3 a4 (1 : Int32) μ
theorem c_X7_compare (G : am_G) (l : Launch) (N : Nat) (a1 : Int32) (a2 : Int32) (a3 : Int32) (a4 : Int32) (μ : am_M) : ct_P G l am_cu 0 me_X7_compare [.ref (am_ad G 5 0), .int a1, .int a2, .int a3, .int a4] μ (f_X7_compare N a1 a2 a3 a4 μ) := ct_of (by decide +kernel) (Nat.le_of_ble_eq_true rfl) rfl (p_X7_compare_0 G l 0 (Nat.le_refl _) N a1 a2 a3 a4 μ)

def f_X7_isPayable_18 (N : Nat) (x1 : Int32) (s0 : Int32) (μ : am_M) : Option (Int32 × am_M) :=
if (μ.1 5 0 6) < (x1 + ((μ.1 5 0 8) * s0)) then (am_z (0 : Int32) μ) else (am_z (1 : Int32) μ)
def f_X7_isPayable_0 (N : Nat) (a1 : Int32) (a2 : Int32) (μ : am_M) : Option (Int32 × am_M) :=
if a2 ≤ (μ.1 5 0 7) then (f_X7_isPayable_18 N a1 (0 : Int32) μ) else (f_X7_isPayable_18 N a1 (a2 - (μ.1 5 0 7)) μ)
def f_X7_isPayable (N : Nat) (a1 : Int32) (a2 : Int32) (μ : am_M) : Option (Int32 × am_M) := f_X7_isPayable_0 N a1 a2 μ
set_option maxHeartbeats 4000000 in
set_option maxRecDepth 100000 in
theorem p_X7_isPayable_18 (G : am_G) (l : Launch) (d : Nat) (hd0 : 0 ≤ d) (N : Nat) (x1 : Int32) (s0 : Int32) (μ : am_M) : sm_P G l am_ci d me_X7_isPayable 18 [(0, .ref (am_ad G 5 0)), (1, .int x1)] [.int s0] μ (f_X7_isPayable_18 N x1 s0 μ) := by
  unfold f_X7_isPayable_18
  refine sm_istore_n (pc := 18) (lv' := [(3, .int s0), (0, .ref (am_ad G 5 0)), (1, .int x1)]) dX7_isPayable_18 rfl (by decide) rfl ?_
  refine sm_iload_n (pc := 19) dX7_isPayable_19 rfl 2 rfl ?_
  refine sm_aload_n (pc := 20) dX7_isPayable_20 rfl 1 rfl ?_
  refine sm_geti (pc := 21) dX7_isPayable_21 fi_X7_89 ?_
  refine sm_iload_n (pc := 24) dX7_isPayable_24 rfl 0 rfl ?_
  refine sm_imul (pc := 25) dX7_isPayable_25 ?_
  refine sm_iadd (pc := 26) dX7_isPayable_26 ?_
  refine sm_aload_n (pc := 27) dX7_isPayable_27 rfl 1 rfl ?_
  refine sm_geti (pc := 28) dX7_isPayable_28 fi_X7_83 ?_
  refine sm_icmp_gt (pc := 31) (tgt := 38) dX7_isPayable_31 (by decide) ?_ ?_
  · refine sm_iconst (pc := 38) dX7_isPayable_38 (v := 0) (by decide) ?_
    exact sm_zret (pc := 39) dX7_isPayable_39 rfl
  · refine sm_iconst (pc := 34) dX7_isPayable_34 (v := 1) (by decide) ?_
    refine sm_goto (pc := 35) (tgt := 39) dX7_isPayable_35 (by decide) ?_
    exact sm_zret (pc := 39) dX7_isPayable_39 rfl
set_option maxHeartbeats 4000000 in
set_option maxRecDepth 100000 in
theorem p_X7_isPayable_0 (G : am_G) (l : Launch) (d : Nat) (hd0 : 0 ≤ d) (N : Nat) (a1 : Int32) (a2 : Int32) (μ : am_M) : sm_P G l am_ci d me_X7_isPayable 0 [(0, .ref (am_ad G 5 0)), (1, .int a1), (2, .int a2)] [] μ (f_X7_isPayable_0 N a1 a2 μ) := by
  unfold f_X7_isPayable_0
  refine sm_iload_n (pc := 0) dX7_isPayable_0 rfl 2 rfl ?_
  refine sm_aload_n (pc := 1) dX7_isPayable_1 rfl 0 rfl ?_
  refine sm_geti (pc := 2) dX7_isPayable_2 fi_X7_86 ?_
  refine sm_icmp_le (pc := 5) (tgt := 17) dX7_isPayable_5 (by decide) ?_ ?_
  · refine sm_iconst (pc := 17) dX7_isPayable_17 (v := 0) (by decide) ?_
    refine sm_sub [0, 1] rfl ?_
    exact p_X7_isPayable_18 G l d hd0 N a1 (0 : Int32) μ
  · refine sm_iload_n (pc := 8) dX7_isPayable_8 rfl 2 rfl ?_
    refine sm_aload_n (pc := 9) dX7_isPayable_9 rfl 0 rfl ?_
    refine sm_geti (pc := 10) dX7_isPayable_10 fi_X7_86 ?_
    refine sm_isub (pc := 13) dX7_isPayable_13 ?_
    refine sm_goto (pc := 14) (tgt := 18) dX7_isPayable_14 (by decide) ?_
    refine sm_sub [0, 1] rfl ?_
    exact p_X7_isPayable_18 G l d hd0 N a1 (a2 - (μ.1 5 0 7)) μ
theorem c_X7_isPayable (G : am_G) (l : Launch) (N : Nat) (a1 : Int32) (a2 : Int32) (μ : am_M) : ct_P G l am_ci 0 me_X7_isPayable [.ref (am_ad G 5 0), .int a1, .int a2] μ (f_X7_isPayable N a1 a2 μ) := ct_of (by decide +kernel) (Nat.le_of_ble_eq_true rfl) rfl (p_X7_isPayable_0 G l 0 (Nat.le_refl _) N a1 a2 μ)

def f_X7_descend_17 (N : Nat) (g_X7_descend : Int32 → Int32 → Int32 → Int32 → Int32 → am_M → Option (Unit × am_M)) (x2 : Int32) (x3 : Int32) (x4 : Int32) (x5 : Int32) (μ : am_M) : Option (Unit × am_M) :=
am_bd (f_X7_compare N x2 x3 x4 x5 μ) (fun _ μ1 => some ((), μ1))
def f_X7_descend_120 (N : Nat) (g_X7_descend : Int32 → Int32 → Int32 → Int32 → Int32 → am_M → Option (Unit × am_M)) (r_47 : Int32 → Int32 → Int32 → Int32 → Int32 → Int32 → am_M → Option (Unit × am_M)) (x1 : Int32) (x2 : Int32) (x3 : Int32) (x4 : Int32) (x5 : Int32) (x6 : Int32) (μ : am_M) : Option (Unit × am_M) :=
r_47 x1 x2 x3 x4 x5 (x6 + (-1 : Int32)) μ
def f_X7_descend_47 (N : Nat) (g_X7_descend : Int32 → Int32 → Int32 → Int32 → Int32 → am_M → Option (Unit × am_M)) (r_47 : Int32 → Int32 → Int32 → Int32 → Int32 → Int32 → am_M → Option (Unit × am_M)) (x1 : Int32) (x2 : Int32) (x3 : Int32) (x4 : Int32) (x5 : Int32) (x6 : Int32) (μ : am_M) : Option (Unit × am_M) :=
if x6 < 0 then (some ((), μ)) else (am_gd x1 6 (fun j3 => am_nm (x3 + (x6 * (μ.1 82 0 j3))) (fun y4 => am_gd x1 6 (fun j5 => am_nm (x4 + (x6 * (μ.1 83 0 j5))) (fun y6 => am_bd (f_X7_isPayable N y4 y6 μ) (fun y8 μ7 => if y8 = 0 then (f_X7_descend_120 N g_X7_descend r_47 x1 x2 x3 x4 x5 x6 μ7) else (am_gd x1 6 (fun j9 => am_gd x6 4 (fun j10 => am_bd (g_X7_descend (x1 + (1 : Int32)) (x2 + (μ7.1 384 j9 j10)) y4 y6 ((x5 * (10 : Int32)) + x6) μ7) (fun _ μ11 => f_X7_descend_120 N g_X7_descend r_47 x1 x2 x3 x4 x5 x6 μ11))))))))))
def f_X7_descend_47_lp (N : Nat) (g_X7_descend : Int32 → Int32 → Int32 → Int32 → Int32 → am_M → Option (Unit × am_M)) : Nat → Int32 → Int32 → Int32 → Int32 → Int32 → Int32 → am_M → Option (Unit × am_M)
  | 0, _, _, _, _, _, _, _ => none
  | n + 1, x1, x2, x3, x4, x5, x6, μ => f_X7_descend_47 N g_X7_descend (f_X7_descend_47_lp N g_X7_descend n) x1 x2 x3 x4 x5 x6 μ
def f_X7_descend_0 (N : Nat) (g_X7_descend : Int32 → Int32 → Int32 → Int32 → Int32 → am_M → Option (Unit × am_M)) (a1 : Int32) (a2 : Int32) (a3 : Int32) (a4 : Int32) (a5 : Int32) (μ : am_M) : Option (Unit × am_M) :=
if (μ.1 1 0 1) ≤ a1 then (f_X7_descend_17 N g_X7_descend a2 a3 a4 a5 μ) else (if a1 < (6 : Int32) then (am_gd a1 7 (fun j2 => if (μ.1 5 0 9) ≤ (a2 + (μ.1 85 0 j2)) then (f_X7_descend_47_lp N g_X7_descend N a1 a2 a3 a4 a5 (3 : Int32) μ) else (some ((), μ)))) else (f_X7_descend_17 N g_X7_descend a2 a3 a4 a5 μ))
def f_X7_descend_r (N : Nat) : Nat → Int32 → Int32 → Int32 → Int32 → Int32 → am_M → Option (Unit × am_M)
  | 0, _, _, _, _, _, _ => none
  | D + 1, a1, a2, a3, a4, a5, μ => f_X7_descend_0 N (f_X7_descend_r N D) a1 a2 a3 a4 a5 μ
def f_X7_descend (N : Nat) (a1 : Int32) (a2 : Int32) (a3 : Int32) (a4 : Int32) (a5 : Int32) (μ : am_M) : Option (Unit × am_M) := f_X7_descend_r N 100 a1 a2 a3 a4 a5 μ
set_option maxHeartbeats 4000000 in
set_option maxRecDepth 100000 in
theorem p_X7_descend_17 (G : am_G) (l : Launch) (d : Nat) (hd0 : 1 ≤ d) (dd : Nat) (hdd : dd + 1 ≤ d) (N : Nat) (g_X7_descend : Int32 → Int32 → Int32 → Int32 → Int32 → am_M → Option (Unit × am_M)) (Hg_X7_descend : ∀ (z0 : Int32) (z1 : Int32) (z2 : Int32) (z3 : Int32) (z4 : Int32) (μ : am_M), ct_P G l am_cu dd me_X7_descend [.ref (am_ad G 5 0), .int z0, .int z1, .int z2, .int z3, .int z4] μ (g_X7_descend z0 z1 z2 z3 z4 μ)) (x2 : Int32) (x3 : Int32) (x4 : Int32) (x5 : Int32) (μ : am_M) : sm_P G l am_cu d me_X7_descend 17 [(0, .ref (am_ad G 5 0)), (2, .int x2), (3, .int x3), (4, .int x4), (5, .int x5)] [] μ (f_X7_descend_17 N g_X7_descend x2 x3 x4 x5 μ) := by
  unfold f_X7_descend_17
  refine sm_aload_n (pc := 17) dX7_descend_17 rfl 0 rfl ?_
  refine sm_iload_n (pc := 18) dX7_descend_18 rfl 1 rfl ?_
  refine sm_iload_n (pc := 19) dX7_descend_19 rfl 2 rfl ?_
  refine sm_iload (pc := 20) dX7_descend_20 3 rfl ?_
  refine sm_iload (pc := 22) dX7_descend_22 4 rfl ?_
  refine sm_callVv (pc := 24) (As := [.int x2, .int x3, .int x4, .int x5]) (rest := []) dX7_descend_24 (c_X7_compare G l N x2 x3 x4 x5 μ) (by omega) wl_X7_108 vm_X7_compare rfl rfl (Nat.le_of_ble_eq_true rfl) (fun _ μ1 => ?_)
  exact sm_vret (pc := 27) dX7_descend_27 rfl
set_option maxHeartbeats 4000000 in
set_option maxRecDepth 100000 in
theorem p_X7_descend_120 (G : am_G) (l : Launch) (d : Nat) (hd0 : 1 ≤ d) (dd : Nat) (hdd : dd + 1 ≤ d) (N : Nat) (g_X7_descend : Int32 → Int32 → Int32 → Int32 → Int32 → am_M → Option (Unit × am_M)) (r_47 : Int32 → Int32 → Int32 → Int32 → Int32 → Int32 → am_M → Option (Unit × am_M)) (Hg_X7_descend : ∀ (z0 : Int32) (z1 : Int32) (z2 : Int32) (z3 : Int32) (z4 : Int32) (μ : am_M), ct_P G l am_cu dd me_X7_descend [.ref (am_ad G 5 0), .int z0, .int z1, .int z2, .int z3, .int z4] μ (g_X7_descend z0 z1 z2 z3 z4 μ)) (H_47 : ∀ (x1 : Int32) (x2 : Int32) (x3 : Int32) (x4 : Int32) (x5 : Int32) (x6 : Int32) (μ : am_M), sm_P G l am_cu d me_X7_descend 47 [(0, .ref (am_ad G 5 0)), (1, .int x1), (2, .int x2), (3, .int x3), (4, .int x4), (5, .int x5), (6, .int x6)] [] μ (r_47 x1 x2 x3 x4 x5 x6 μ)) (x1 : Int32) (x2 : Int32) (x3 : Int32) (x4 : Int32) (x5 : Int32) (x6 : Int32) (μ : am_M) : sm_P G l am_cu d me_X7_descend 120 [(0, .ref (am_ad G 5 0)), (1, .int x1), (2, .int x2), (3, .int x3), (4, .int x4), (5, .int x5), (6, .int x6)] [] μ (f_X7_descend_120 N g_X7_descend r_47 x1 x2 x3 x4 x5 x6 μ) := by
  unfold f_X7_descend_120
  refine sm_iinc (pc := 120) (v := (x6 + (-1 : Int32))) (lv' := [(6, .int (x6 + (-1 : Int32))), (0, .ref (am_ad G 5 0)), (1, .int x1), (2, .int x2), (3, .int x3), (4, .int x4), (5, .int x5)]) dX7_descend_120 6 rfl rfl (by decide) rfl ?_
  refine sm_goto (pc := 123) (tgt := 47) dX7_descend_123 (by decide) ?_
  refine sm_sub [1, 2, 3, 4, 5, 6, 0] rfl ?_
  exact H_47 x1 x2 x3 x4 x5 (x6 + (-1 : Int32)) μ
set_option maxHeartbeats 4000000 in
set_option maxRecDepth 100000 in
theorem p_X7_descend_47 (G : am_G) (l : Launch) (d : Nat) (hd0 : 1 ≤ d) (dd : Nat) (hdd : dd + 1 ≤ d) (N : Nat) (g_X7_descend : Int32 → Int32 → Int32 → Int32 → Int32 → am_M → Option (Unit × am_M)) (r_47 : Int32 → Int32 → Int32 → Int32 → Int32 → Int32 → am_M → Option (Unit × am_M)) (Hg_X7_descend : ∀ (z0 : Int32) (z1 : Int32) (z2 : Int32) (z3 : Int32) (z4 : Int32) (μ : am_M), ct_P G l am_cu dd me_X7_descend [.ref (am_ad G 5 0), .int z0, .int z1, .int z2, .int z3, .int z4] μ (g_X7_descend z0 z1 z2 z3 z4 μ)) (H_47 : ∀ (x1 : Int32) (x2 : Int32) (x3 : Int32) (x4 : Int32) (x5 : Int32) (x6 : Int32) (μ : am_M), sm_P G l am_cu d me_X7_descend 47 [(0, .ref (am_ad G 5 0)), (1, .int x1), (2, .int x2), (3, .int x3), (4, .int x4), (5, .int x5), (6, .int x6)] [] μ (r_47 x1 x2 x3 x4 x5 x6 μ)) (x1 : Int32) (x2 : Int32) (x3 : Int32) (x4 : Int32) (x5 : Int32) (x6 : Int32) (μ : am_M) : sm_P G l am_cu d me_X7_descend 47 [(0, .ref (am_ad G 5 0)), (1, .int x1), (2, .int x2), (3, .int x3), (4, .int x4), (5, .int x5), (6, .int x6)] [] μ (f_X7_descend_47 N g_X7_descend r_47 x1 x2 x3 x4 x5 x6 μ) := by
  unfold f_X7_descend_47
  refine sm_iload (pc := 47) dX7_descend_47 6 rfl ?_
  refine sm_if_lt (pc := 49) (tgt := 126) dX7_descend_49 (by decide) ?_ ?_
  · exact sm_vret (pc := 126) dX7_descend_126 rfl
  · refine sm_iload_n (pc := 52) dX7_descend_52 rfl 3 rfl ?_
    refine sm_iload (pc := 53) dX7_descend_53 6 rfl ?_
    refine sm_aload_n (pc := 55) dX7_descend_55 rfl 0 rfl ?_
    refine sm_getr (pc := 56) dX7_descend_56 fi_X7_9 ?_
    refine sm_iload_n (pc := 59) dX7_descend_59 rfl 1 rfl ?_
    refine sm_iald (pc := 60) dX7_descend_60 ly_82 (by decide) (fun j3 hj3 => ?_)
    refine sm_imul (pc := 61) dX7_descend_61 ?_
    refine sm_iadd (pc := 62) dX7_descend_62 ?_
    refine sm_nmI (fun y4 => ?_)
    refine sm_istore (pc := 63) (lv' := [(7, .int y4), (0, .ref (am_ad G 5 0)), (1, .int x1), (2, .int x2), (3, .int x3), (4, .int x4), (5, .int x5), (6, .int x6)]) dX7_descend_63 (by decide) rfl ?_
    refine sm_iload (pc := 65) dX7_descend_65 5 rfl ?_
    refine sm_iload (pc := 67) dX7_descend_67 7 rfl ?_
    refine sm_aload_n (pc := 69) dX7_descend_69 rfl 1 rfl ?_
    refine sm_getr (pc := 70) dX7_descend_70 fi_X7_15 ?_
    refine sm_iload_n (pc := 73) dX7_descend_73 rfl 2 rfl ?_
    refine sm_iald (pc := 74) dX7_descend_74 ly_83 (by decide) (fun j5 hj5 => ?_)
    refine sm_imul (pc := 75) dX7_descend_75 ?_
    refine sm_iadd (pc := 76) dX7_descend_76 ?_
    refine sm_nmI (fun y6 => ?_)
    refine sm_istore (pc := 77) (lv' := [(8, .int y6), (7, .int y4), (0, .ref (am_ad G 5 0)), (1, .int x1), (2, .int x2), (3, .int x3), (4, .int x4), (5, .int x5), (6, .int x6)]) dX7_descend_77 (by decide) rfl ?_
    refine sm_aload_n (pc := 79) dX7_descend_79 rfl 2 rfl ?_
    refine sm_iload (pc := 80) dX7_descend_80 1 rfl ?_
    refine sm_iload (pc := 82) dX7_descend_82 0 rfl ?_
    refine sm_callVi (pc := 84) (As := [.int y4, .int y6]) (rest := []) dX7_descend_84 (c_X7_isPayable G l N y4 y6 μ) (by omega) wl_X7_112 vm_X7_isPayable rfl rfl (Nat.le_of_ble_eq_true rfl) (fun y8 μ7 => ?_)
    refine sm_if_eq (pc := 87) (tgt := 120) dX7_descend_87 (by decide) ?_ ?_
    · refine sm_sub [2, 3, 4, 5, 6, 7, 8] rfl ?_
      exact p_X7_descend_120 G l d hd0 dd hdd N g_X7_descend r_47 Hg_X7_descend H_47 x1 x2 x3 x4 x5 x6 μ7
    · refine sm_aload_n (pc := 90) dX7_descend_90 rfl 2 rfl ?_
      refine sm_iload_n (pc := 91) dX7_descend_91 rfl 3 rfl ?_
      refine sm_iconst (pc := 92) dX7_descend_92 (v := 1) (by decide) ?_
      refine sm_iadd (pc := 93) dX7_descend_93 ?_
      refine sm_iload_n (pc := 94) dX7_descend_94 rfl 4 rfl ?_
      refine sm_aload_n (pc := 95) dX7_descend_95 rfl 2 rfl ?_
      refine sm_getr (pc := 96) dX7_descend_96 fi_X7_20 ?_
      refine sm_iload_n (pc := 99) dX7_descend_99 rfl 3 rfl ?_
      refine sm_aald (pc := 100) (t := 0) (ty := .int) dX7_descend_100 ly_84 (fun _ => rfl) (fun j9 hj9 => ?_)
      refine sm_iload (pc := 101) dX7_descend_101 8 rfl ?_
      refine sm_iald (pc := 103) dX7_descend_103 ly_384 hj9 (fun j10 hj10 => ?_)
      refine sm_iadd (pc := 104) dX7_descend_104 ?_
      refine sm_iload (pc := 105) dX7_descend_105 1 rfl ?_
      refine sm_iload (pc := 107) dX7_descend_107 0 rfl ?_
      refine sm_iload (pc := 109) dX7_descend_109 7 rfl ?_
      refine sm_bipush (pc := 111) dX7_descend_111 (v := 10) (by decide) ?_
      refine sm_imul (pc := 113) dX7_descend_113 ?_
      refine sm_iload (pc := 114) dX7_descend_114 8 rfl ?_
      refine sm_iadd (pc := 116) dX7_descend_116 ?_
      refine sm_callSv (pc := 117) (As := [.ref (am_ad G 5 0), .int (x1 + (1 : Int32)), .int (x2 + (μ7.1 384 j9 j10)), .int y4, .int y6, .int ((x5 * (10 : Int32)) + x6)]) (rest := []) dX7_descend_117 (Hg_X7_descend (x1 + (1 : Int32)) (x2 + (μ7.1 384 j9 j10)) y4 y6 ((x5 * (10 : Int32)) + x6) μ7) (by omega) wl_X7_104 st_X7_descend rfl rfl (Nat.le_of_ble_eq_true rfl) (fun _ μ11 => ?_)
      refine sm_sub [2, 3, 4, 5, 6, 7, 8] rfl ?_
      exact p_X7_descend_120 G l d hd0 dd hdd N g_X7_descend r_47 Hg_X7_descend H_47 x1 x2 x3 x4 x5 x6 μ11
theorem p_X7_descend_47_lp (G : am_G) (l : Launch) (d : Nat) (hd0 : 1 ≤ d) (dd : Nat) (hdd : dd + 1 ≤ d) (N : Nat) (g_X7_descend : Int32 → Int32 → Int32 → Int32 → Int32 → am_M → Option (Unit × am_M)) (Hg_X7_descend : ∀ (z0 : Int32) (z1 : Int32) (z2 : Int32) (z3 : Int32) (z4 : Int32) (μ : am_M), ct_P G l am_cu dd me_X7_descend [.ref (am_ad G 5 0), .int z0, .int z1, .int z2, .int z3, .int z4] μ (g_X7_descend z0 z1 z2 z3 z4 μ)) : ∀ (n : Nat) (x1 : Int32) (x2 : Int32) (x3 : Int32) (x4 : Int32) (x5 : Int32) (x6 : Int32) (μ : am_M), sm_P G l am_cu d me_X7_descend 47 [(0, .ref (am_ad G 5 0)), (1, .int x1), (2, .int x2), (3, .int x3), (4, .int x4), (5, .int x5), (6, .int x6)] [] μ (f_X7_descend_47_lp N g_X7_descend n x1 x2 x3 x4 x5 x6 μ) := by
  intro n
  induction n with
  | zero => intros; exact sm_none
  | succ n ih => exact fun x1 x2 x3 x4 x5 x6 μ => p_X7_descend_47 G l d hd0 dd hdd N g_X7_descend (f_X7_descend_47_lp N g_X7_descend n) Hg_X7_descend ih x1 x2 x3 x4 x5 x6 μ
set_option maxHeartbeats 4000000 in
set_option maxRecDepth 100000 in
theorem p_X7_descend_0 (G : am_G) (l : Launch) (d : Nat) (hd0 : 1 ≤ d) (dd : Nat) (hdd : dd + 1 ≤ d) (N : Nat) (g_X7_descend : Int32 → Int32 → Int32 → Int32 → Int32 → am_M → Option (Unit × am_M)) (Hg_X7_descend : ∀ (z0 : Int32) (z1 : Int32) (z2 : Int32) (z3 : Int32) (z4 : Int32) (μ : am_M), ct_P G l am_cu dd me_X7_descend [.ref (am_ad G 5 0), .int z0, .int z1, .int z2, .int z3, .int z4] μ (g_X7_descend z0 z1 z2 z3 z4 μ)) (a1 : Int32) (a2 : Int32) (a3 : Int32) (a4 : Int32) (a5 : Int32) (μ : am_M) : sm_P G l am_cu d me_X7_descend 0 [(0, .ref (am_ad G 5 0)), (1, .int a1), (2, .int a2), (3, .int a3), (4, .int a4), (5, .int a5)] [] μ (f_X7_descend_0 N g_X7_descend a1 a2 a3 a4 a5 μ) := by
  unfold f_X7_descend_0
  refine sm_iload_n (pc := 0) dX7_descend_0 rfl 1 rfl ?_
  refine sm_aload_n (pc := 1) dX7_descend_1 rfl 0 rfl ?_
  refine sm_getr (pc := 2) dX7_descend_2 fi_X7_26 ?_
  refine sm_geti (pc := 5) dX7_descend_5 fi_X7_50 ?_
  refine sm_icmp_ge (pc := 8) (tgt := 17) dX7_descend_8 (by decide) ?_ ?_
  · refine sm_sub [0, 2, 3, 4, 5] rfl ?_
    exact p_X7_descend_17 G l d hd0 dd hdd N g_X7_descend Hg_X7_descend a2 a3 a4 a5 μ
  · refine sm_iload_n (pc := 11) dX7_descend_11 rfl 1 rfl ?_
    refine sm_bipush (pc := 12) dX7_descend_12 (v := 6) (by decide) ?_
    refine sm_icmp_lt (pc := 14) (tgt := 28) dX7_descend_14 (by decide) ?_ ?_
    · refine sm_iload_n (pc := 28) dX7_descend_28 rfl 2 rfl ?_
      refine sm_aload_n (pc := 29) dX7_descend_29 rfl 0 rfl ?_
      refine sm_getr (pc := 30) dX7_descend_30 fi_X7_23 ?_
      refine sm_iload_n (pc := 33) dX7_descend_33 rfl 1 rfl ?_
      refine sm_iald (pc := 34) dX7_descend_34 ly_85 (by decide) (fun j2 hj2 => ?_)
      refine sm_iadd (pc := 35) dX7_descend_35 ?_
      refine sm_aload_n (pc := 36) dX7_descend_36 rfl 0 rfl ?_
      refine sm_geti (pc := 37) dX7_descend_37 fi_X7_92 ?_
      refine sm_icmp_ge (pc := 40) (tgt := 44) dX7_descend_40 (by decide) ?_ ?_
      · refine sm_iconst (pc := 44) dX7_descend_44 (v := 3) (by decide) ?_
        refine sm_istore (pc := 45) (lv' := [(6, .int (3 : Int32)), (0, .ref (am_ad G 5 0)), (1, .int a1), (2, .int a2), (3, .int a3), (4, .int a4), (5, .int a5)]) dX7_descend_45 (by decide) rfl ?_
        refine sm_sub [1, 2, 3, 4, 5, 6, 0] rfl ?_
        exact p_X7_descend_47_lp G l d hd0 dd hdd N g_X7_descend Hg_X7_descend N a1 a2 a3 a4 a5 (3 : Int32) μ
      · exact sm_vret (pc := 43) dX7_descend_43 rfl
    · refine sm_sub [0, 2, 3, 4, 5] rfl ?_
      exact p_X7_descend_17 G l d hd0 dd hdd N g_X7_descend Hg_X7_descend a2 a3 a4 a5 μ
theorem cr_X7_descend (G : am_G) (l : Launch) (N : Nat) : ∀ (D : Nat) (a1 : Int32) (a2 : Int32) (a3 : Int32) (a4 : Int32) (a5 : Int32) (μ : am_M), ct_P G l am_cu (1 + D) me_X7_descend [.ref (am_ad G 5 0), .int a1, .int a2, .int a3, .int a4, .int a5] μ (f_X7_descend_r N D a1 a2 a3 a4 a5 μ) := by
  intro D
  induction D with
  | zero => intros; exact fun a μ1 ho => by cases ho
  | succ D ih => exact fun a1 a2 a3 a4 a5 μ => ct_of (by decide +kernel) (Nat.le_of_ble_eq_true rfl) rfl (p_X7_descend_0 G l (1 + (D + 1)) (by omega) (1 + D) (by omega) N (f_X7_descend_r N D) ih a1 a2 a3 a4 a5 μ)
theorem c_X7_descend (G : am_G) (l : Launch) (N : Nat) (a1 : Int32) (a2 : Int32) (a3 : Int32) (a4 : Int32) (a5 : Int32) (μ : am_M) : ct_P G l am_cu 101 me_X7_descend [.ref (am_ad G 5 0), .int a1, .int a2, .int a3, .int a4, .int a5] μ (f_X7_descend N a1 a2 a3 a4 a5 μ) := cr_X7_descend G l N 100 a1 a2 a3 a4 a5 μ

def f_X7_search_0 (N : Nat) (a1 : Int32) (a2 : Int32) (a3 : Int32) (μ : am_M) : Option (Unit × am_M) :=
am_nm (am_ui μ 5 0 6 a1) (fun μ1 => am_nm (am_ui μ1 5 0 7 a2) (fun μ2 => am_nm (am_ui μ2 5 0 8 a3) (fun μ3 => am_nm (am_ui μ3 5 0 9 (-1 : Int32)) (fun μ4 => am_nm (am_ui μ4 5 0 10 (0 : Int32)) (fun μ5 => am_nm (am_ui μ5 5 0 11 (0 : Int32)) (fun μ6 => am_nm (am_ui μ6 5 0 12 (0 : Int32)) (fun μ7 => am_bd (f_X7_descend N (0 : Int32) (0 : Int32) (0 : Int32) (0 : Int32) (0 : Int32) μ7) (fun _ μ8 => some ((), μ8)))))))))
def f_X7_search (N : Nat) (a1 : Int32) (a2 : Int32) (a3 : Int32) (μ : am_M) : Option (Unit × am_M) := f_X7_search_0 N a1 a2 a3 μ
set_option maxHeartbeats 4000000 in
set_option maxRecDepth 100000 in
theorem p_X7_search_0 (G : am_G) (l : Launch) (d : Nat) (hd0 : 102 ≤ d) (N : Nat) (a1 : Int32) (a2 : Int32) (a3 : Int32) (μ : am_M) : sm_P G l am_cu d me_X7_search 0 [(0, .ref (am_ad G 5 0)), (1, .int a1), (2, .int a2), (3, .int a3)] [] μ (f_X7_search_0 N a1 a2 a3 μ) := by
  unfold f_X7_search_0
  refine sm_aload_n (pc := 0) dX7_search_0 rfl 0 rfl ?_
  refine sm_iload_n (pc := 1) dX7_search_1 rfl 1 rfl ?_
  refine sm_puti (pc := 2) dX7_search_2 fi_X7_83 ?_
  refine sm_nmM (fun μ1 => ?_)
  refine sm_aload_n (pc := 5) dX7_search_5 rfl 0 rfl ?_
  refine sm_iload_n (pc := 6) dX7_search_6 rfl 2 rfl ?_
  refine sm_puti (pc := 7) dX7_search_7 fi_X7_86 ?_
  refine sm_nmM (fun μ2 => ?_)
  refine sm_aload_n (pc := 10) dX7_search_10 rfl 0 rfl ?_
  refine sm_iload_n (pc := 11) dX7_search_11 rfl 3 rfl ?_
  refine sm_puti (pc := 12) dX7_search_12 fi_X7_89 ?_
  refine sm_nmM (fun μ3 => ?_)
  refine sm_aload_n (pc := 15) dX7_search_15 rfl 0 rfl ?_
  refine sm_iconst (pc := 16) dX7_search_16 (v := -1) (by decide) ?_
  refine sm_puti (pc := 17) dX7_search_17 fi_X7_92 ?_
  refine sm_nmM (fun μ4 => ?_)
  refine sm_aload_n (pc := 20) dX7_search_20 rfl 0 rfl ?_
  refine sm_iconst (pc := 21) dX7_search_21 (v := 0) (by decide) ?_
  refine sm_puti (pc := 22) dX7_search_22 fi_X7_95 ?_
  refine sm_nmM (fun μ5 => ?_)
  refine sm_aload_n (pc := 25) dX7_search_25 rfl 0 rfl ?_
  refine sm_iconst (pc := 26) dX7_search_26 (v := 0) (by decide) ?_
  refine sm_puti (pc := 27) dX7_search_27 fi_X7_98 ?_
  refine sm_nmM (fun μ6 => ?_)
  refine sm_aload_n (pc := 30) dX7_search_30 rfl 0 rfl ?_
  refine sm_iconst (pc := 31) dX7_search_31 (v := 0) (by decide) ?_
  refine sm_puti (pc := 32) dX7_search_32 fi_X7_101 ?_
  refine sm_nmM (fun μ7 => ?_)
  refine sm_aload_n (pc := 35) dX7_search_35 rfl 0 rfl ?_
  refine sm_iconst (pc := 36) dX7_search_36 (v := 0) (by decide) ?_
  refine sm_iconst (pc := 37) dX7_search_37 (v := 0) (by decide) ?_
  refine sm_iconst (pc := 38) dX7_search_38 (v := 0) (by decide) ?_
  refine sm_iconst (pc := 39) dX7_search_39 (v := 0) (by decide) ?_
  refine sm_iconst (pc := 40) dX7_search_40 (v := 0) (by decide) ?_
  refine sm_callSv (pc := 41) (As := [.ref (am_ad G 5 0), .int (0 : Int32), .int (0 : Int32), .int (0 : Int32), .int (0 : Int32), .int (0 : Int32)]) (rest := []) dX7_search_41 (c_X7_descend G l N (0 : Int32) (0 : Int32) (0 : Int32) (0 : Int32) (0 : Int32) μ7) (by omega) wl_X7_104 st_X7_descend rfl rfl (Nat.le_of_ble_eq_true rfl) (fun _ μ8 => ?_)
  exact sm_vret (pc := 44) dX7_search_44 rfl
theorem c_X7_search (G : am_G) (l : Launch) (N : Nat) (a1 : Int32) (a2 : Int32) (a3 : Int32) (μ : am_M) : ct_P G l am_cu 102 me_X7_search [.ref (am_ad G 5 0), .int a1, .int a2, .int a3] μ (f_X7_search N a1 a2 a3 μ) := ct_of (by decide +kernel) (Nat.le_of_ble_eq_true rfl) rfl (p_X7_search_0 G l 102 (Nat.le_refl _) N a1 a2 a3 μ)

def f_X7_choose_0 (N : Nat) (a1 : Int32) (μ : am_M) : Option (Unit × am_M) :=
am_bd (f_X5_at N (5 : Int32) a1 μ) (fun y2 μ1 => am_bd (f_X5_pointsInAll N a1 μ1) (fun y4 μ3 => am_bd (f_X7_search N y2 y4 (100 : Int32) μ3) (fun _ μ5 => some ((), μ5))))
def f_X7_choose (N : Nat) (a1 : Int32) (μ : am_M) : Option (Unit × am_M) := f_X7_choose_0 N a1 μ
set_option maxHeartbeats 4000000 in
set_option maxRecDepth 100000 in
theorem p_X7_choose_0 (G : am_G) (l : Launch) (d : Nat) (hd0 : 103 ≤ d) (N : Nat) (a1 : Int32) (μ : am_M) : sm_P G l am_cu d me_X7_choose 0 [(0, .ref (am_ad G 5 0)), (1, .int a1)] [] μ (f_X7_choose_0 N a1 μ) := by
  unfold f_X7_choose_0
  refine sm_aload_n (pc := 0) dX7_choose_0 rfl 0 rfl ?_
  refine sm_aload_n (pc := 1) dX7_choose_1 rfl 0 rfl ?_
  refine sm_getr (pc := 2) dX7_choose_2 fi_X7_26 ?_
  refine sm_iconst (pc := 5) dX7_choose_5 (v := 5) (by decide) ?_
  refine sm_iload_n (pc := 6) dX7_choose_6 rfl 1 rfl ?_
  refine sm_callVi (pc := 7) (As := [.int (5 : Int32), .int a1]) (rest := [.ref (am_ad G 5 0)]) dX7_choose_7 (c_X5_at G l N (5 : Int32) a1 μ) (by omega) wl_X7_34 vm_X5_at rfl rfl (Nat.le_of_ble_eq_true rfl) (fun y2 μ1 => ?_)
  refine sm_aload_n (pc := 10) dX7_choose_10 rfl 0 rfl ?_
  refine sm_getr (pc := 11) dX7_choose_11 fi_X7_26 ?_
  refine sm_iload_n (pc := 14) dX7_choose_14 rfl 1 rfl ?_
  refine sm_callVi (pc := 15) (As := [.int a1]) (rest := [.int y2, .ref (am_ad G 5 0)]) dX7_choose_15 (c_X5_pointsInAll G l N a1 μ1) (by omega) wl_X7_76 vm_X5_pointsInAll rfl rfl (Nat.le_of_ble_eq_true rfl) (fun y4 μ3 => ?_)
  refine sm_bipush (pc := 18) dX7_choose_18 (v := 100) (by decide) ?_
  refine sm_callVv (pc := 20) (As := [.int y2, .int y4, .int (100 : Int32)]) (rest := []) dX7_choose_20 (c_X7_search G l N y2 y4 (100 : Int32) μ3) (by omega) wl_X7_79 vm_X7_search rfl rfl (Nat.le_of_ble_eq_true rfl) (fun _ μ5 => ?_)
  exact sm_vret (pc := 23) dX7_choose_23 rfl
theorem c_X7_choose (G : am_G) (l : Launch) (N : Nat) (a1 : Int32) (μ : am_M) : ct_P G l am_cu 103 me_X7_choose [.ref (am_ad G 5 0), .int a1] μ (f_X7_choose N a1 μ) := ct_of (by decide +kernel) (Nat.le_of_ble_eq_true rfl) rfl (p_X7_choose_0 G l 103 (Nat.le_refl _) N a1 μ)

def f_X7_think_0 (N : Nat) (a1 : Int32) (a2 : Int32) (a3 : Int32) (μ : am_M) : Option (Unit × am_M) :=
am_bd (f_X9_isWithin N a1 (0 : Int32) (5 : Int32) μ) (fun y2 μ1 => if y2 = 0 then (some ((), μ1)) else (am_gd a1 6 (fun j3 => am_nm (am_ui μ1 82 0 j3 a2) (fun μ4 => am_gd a1 6 (fun j5 => am_nm (am_ui μ4 83 0 j5 a3) (fun μ6 => some ((), μ6)))))))
def f_X7_think (N : Nat) (a1 : Int32) (a2 : Int32) (a3 : Int32) (μ : am_M) : Option (Unit × am_M) := f_X7_think_0 N a1 a2 a3 μ
set_option maxHeartbeats 4000000 in
set_option maxRecDepth 100000 in
theorem p_X7_think_0 (G : am_G) (l : Launch) (d : Nat) (hd0 : 1 ≤ d) (N : Nat) (a1 : Int32) (a2 : Int32) (a3 : Int32) (μ : am_M) : sm_P G l am_cu d me_X7_think 0 [(0, .ref (am_ad G 5 0)), (1, .int a1), (2, .int a2), (3, .int a3)] [] μ (f_X7_think_0 N a1 a2 a3 μ) := by
  unfold f_X7_think_0
  refine sm_iload_n (pc := 0) dX7_think_0 rfl 1 rfl ?_
  refine sm_iconst (pc := 1) dX7_think_1 (v := 0) (by decide) ?_
  refine sm_iconst (pc := 2) dX7_think_2 (v := 5) (by decide) ?_
  refine sm_callNi (pc := 3) (As := [.int a1, .int (0 : Int32), .int (5 : Int32)]) (rest := []) dX7_think_3 (c_X9_isWithin G l N a1 (0 : Int32) (5 : Int32) μ) (by omega) wl_X7_40 st_X9_isWithin rfl rfl (Nat.le_of_ble_eq_true rfl) (fun y2 μ1 => ?_)
  refine sm_if_eq (pc := 6) (tgt := 23) dX7_think_6 (by decide) ?_ ?_
  · exact sm_vret (pc := 23) dX7_think_23 rfl
  · refine sm_aload_n (pc := 9) dX7_think_9 rfl 0 rfl ?_
    refine sm_getr (pc := 10) dX7_think_10 fi_X7_9 ?_
    refine sm_iload_n (pc := 13) dX7_think_13 rfl 1 rfl ?_
    refine sm_iload_n (pc := 14) dX7_think_14 rfl 2 rfl ?_
    refine sm_iast (pc := 15) dX7_think_15 ly_82 (by decide) (fun j3 hj3 => ?_)
    refine sm_nmM (fun μ4 => ?_)
    refine sm_aload_n (pc := 16) dX7_think_16 rfl 0 rfl ?_
    refine sm_getr (pc := 17) dX7_think_17 fi_X7_15 ?_
    refine sm_iload_n (pc := 20) dX7_think_20 rfl 1 rfl ?_
    refine sm_iload_n (pc := 21) dX7_think_21 rfl 3 rfl ?_
    refine sm_iast (pc := 22) dX7_think_22 ly_83 (by decide) (fun j5 hj5 => ?_)
    refine sm_nmM (fun μ6 => ?_)
    exact sm_vret (pc := 23) dX7_think_23 rfl
theorem c_X7_think (G : am_G) (l : Launch) (N : Nat) (a1 : Int32) (a2 : Int32) (a3 : Int32) (μ : am_M) : ct_P G l am_cu 1 me_X7_think [.ref (am_ad G 5 0), .int a1, .int a2, .int a3] μ (f_X7_think N a1 a2 a3 μ) := ct_of (by decide +kernel) (Nat.le_of_ble_eq_true rfl) rfl (p_X7_think_0 G l 1 (Nat.le_refl _) N a1 a2 a3 μ)

def f_X7_worthOfFirst_0 (N : Nat) (a1 : Int32) (a2 : Int32) (μ : am_M) : Option (Int32 × am_M) :=
am_bd (f_X9_isWithin N a1 (0 : Int32) (5 : Int32) μ) (fun y2 μ1 => if y2 = 0 then (some ((0 : Int32), μ1)) else (am_bd (f_X9_isWithin N a2 (0 : Int32) (3 : Int32) μ1) (fun y4 μ3 => if y4 = 0 then (some ((0 : Int32), μ3)) else (am_gd a1 6 (fun j5 => am_gd a2 4 (fun j6 => some ((μ3.1 384 j5 j6), μ3)))))))
def f_X7_worthOfFirst (N : Nat) (a1 : Int32) (a2 : Int32) (μ : am_M) : Option (Int32 × am_M) := f_X7_worthOfFirst_0 N a1 a2 μ
set_option maxHeartbeats 4000000 in
set_option maxRecDepth 100000 in
theorem p_X7_worthOfFirst_0 (G : am_G) (l : Launch) (d : Nat) (hd0 : 1 ≤ d) (N : Nat) (a1 : Int32) (a2 : Int32) (μ : am_M) : sm_P G l am_ci d me_X7_worthOfFirst 0 [(0, .ref (am_ad G 5 0)), (1, .int a1), (2, .int a2)] [] μ (f_X7_worthOfFirst_0 N a1 a2 μ) := by
  unfold f_X7_worthOfFirst_0
  refine sm_iload_n (pc := 0) dX7_worthOfFirst_0 rfl 1 rfl ?_
  refine sm_iconst (pc := 1) dX7_worthOfFirst_1 (v := 0) (by decide) ?_
  refine sm_iconst (pc := 2) dX7_worthOfFirst_2 (v := 5) (by decide) ?_
  refine sm_callNi (pc := 3) (As := [.int a1, .int (0 : Int32), .int (5 : Int32)]) (rest := []) dX7_worthOfFirst_3 (c_X9_isWithin G l N a1 (0 : Int32) (5 : Int32) μ) (by omega) wl_X7_40 st_X9_isWithin rfl rfl (Nat.le_of_ble_eq_true rfl) (fun y2 μ1 => ?_)
  refine sm_if_eq (pc := 6) (tgt := 29) dX7_worthOfFirst_6 (by decide) ?_ ?_
  · refine sm_iconst (pc := 29) dX7_worthOfFirst_29 (v := 0) (by decide) ?_
    exact sm_iret (pc := 30) dX7_worthOfFirst_30 rfl
  · refine sm_iload_n (pc := 9) dX7_worthOfFirst_9 rfl 2 rfl ?_
    refine sm_iconst (pc := 10) dX7_worthOfFirst_10 (v := 0) (by decide) ?_
    refine sm_iconst (pc := 11) dX7_worthOfFirst_11 (v := 3) (by decide) ?_
    refine sm_callNi (pc := 12) (As := [.int a2, .int (0 : Int32), .int (3 : Int32)]) (rest := []) dX7_worthOfFirst_12 (c_X9_isWithin G l N a2 (0 : Int32) (3 : Int32) μ1) (by omega) wl_X7_40 st_X9_isWithin rfl rfl (Nat.le_of_ble_eq_true rfl) (fun y4 μ3 => ?_)
    refine sm_if_eq (pc := 15) (tgt := 29) dX7_worthOfFirst_15 (by decide) ?_ ?_
    · refine sm_iconst (pc := 29) dX7_worthOfFirst_29 (v := 0) (by decide) ?_
      exact sm_iret (pc := 30) dX7_worthOfFirst_30 rfl
    · refine sm_aload_n (pc := 18) dX7_worthOfFirst_18 rfl 0 rfl ?_
      refine sm_getr (pc := 19) dX7_worthOfFirst_19 fi_X7_20 ?_
      refine sm_iload_n (pc := 22) dX7_worthOfFirst_22 rfl 1 rfl ?_
      refine sm_aald (pc := 23) (t := 0) (ty := .int) dX7_worthOfFirst_23 ly_84 (fun _ => rfl) (fun j5 hj5 => ?_)
      refine sm_iload_n (pc := 24) dX7_worthOfFirst_24 rfl 2 rfl ?_
      refine sm_iald (pc := 25) dX7_worthOfFirst_25 ly_384 hj5 (fun j6 hj6 => ?_)
      refine sm_goto (pc := 26) (tgt := 30) dX7_worthOfFirst_26 (by decide) ?_
      exact sm_iret (pc := 30) dX7_worthOfFirst_30 rfl
theorem c_X7_worthOfFirst (G : am_G) (l : Launch) (N : Nat) (a1 : Int32) (a2 : Int32) (μ : am_M) : ct_P G l am_ci 1 me_X7_worthOfFirst [.ref (am_ad G 5 0), .int a1, .int a2] μ (f_X7_worthOfFirst N a1 a2 μ) := ct_of (by decide +kernel) (Nat.le_of_ble_eq_true rfl) rfl (p_X7_worthOfFirst_0 G l 1 (Nat.le_refl _) N a1 a2 μ)
