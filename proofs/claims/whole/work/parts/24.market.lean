def f_X2_wantAll_57 (N : Nat) (r_28 : Int32 → am_M → Option (Unit × am_M)) (r_57 : Int32 → Int32 → am_M → Option (Unit × am_M)) (x1 : Int32) (x2 : Int32) (μ : am_M) : Option (Unit × am_M) :=
if (μ.1 1 0 1) ≤ x2 then (r_28 (x1 + (1 : Int32)) μ) else (am_gd x2 6 (fun j3 => am_bd (f_X5_at N (4 : Int32) x1 μ) (fun y5 μ4 => am_bd (f_X5_digitOf N (μ4.1 5 0 12) x2 μ4) (fun y7 μ6 => am_gd x2 6 (fun j8 => am_nm (am_ui μ6 98 0 j8 ((μ.1 98 0 j3) + (y5 * y7))) (fun μ9 => r_57 x1 (x2 + (1 : Int32)) μ9))))))
def f_X2_wantAll_57_lp (N : Nat) (r_28 : Int32 → am_M → Option (Unit × am_M)) : Nat → Int32 → Int32 → am_M → Option (Unit × am_M)
  | 0, _, _, _ => none
  | n + 1, x1, x2, μ => f_X2_wantAll_57 N r_28 (f_X2_wantAll_57_lp N r_28 n) x1 x2 μ
def f_X2_wantAll_28 (N : Nat) (r_28 : Int32 → am_M → Option (Unit × am_M)) (x1 : Int32) (μ : am_M) : Option (Unit × am_M) :=
if (μ.1 1 0 2) ≤ x1 then (some ((), μ)) else (am_bd (f_X7_weigh N x1 μ) (fun _ μ1 => am_bd (f_X7_choose N x1 μ1) (fun _ μ2 => f_X2_wantAll_57_lp N r_28 N x1 (0 : Int32) μ2)))
def f_X2_wantAll_28_lp (N : Nat) : Nat → Int32 → am_M → Option (Unit × am_M)
  | 0, _, _ => none
  | n + 1, x1, μ => f_X2_wantAll_28 N (f_X2_wantAll_28_lp N n) x1 μ
def f_X2_wantAll_2 (N : Nat) (r_2 : Int32 → am_M → Option (Unit × am_M)) (x1 : Int32) (μ : am_M) : Option (Unit × am_M) :=
if (μ.1 1 0 1) ≤ x1 then (f_X2_wantAll_28_lp N N (0 : Int32) μ) else (am_gd x1 6 (fun j10 => am_nm (am_ui μ 98 0 j10 (0 : Int32)) (fun μ11 => r_2 (x1 + (1 : Int32)) μ11)))
def f_X2_wantAll_2_lp (N : Nat) : Nat → Int32 → am_M → Option (Unit × am_M)
  | 0, _, _ => none
  | n + 1, x1, μ => f_X2_wantAll_2 N (f_X2_wantAll_2_lp N n) x1 μ
def f_X2_wantAll_0 (N : Nat) (μ : am_M) : Option (Unit × am_M) :=
f_X2_wantAll_2_lp N N (0 : Int32) μ
def f_X2_wantAll (N : Nat) (μ : am_M) : Option (Unit × am_M) := f_X2_wantAll_0 N μ
set_option maxHeartbeats 4000000 in
set_option maxRecDepth 100000 in
theorem p_X2_wantAll_57 (G : am_G) (l : Launch) (d : Nat) (hd0 : 104 ≤ d) (N : Nat) (r_28 : Int32 → am_M → Option (Unit × am_M)) (r_57 : Int32 → Int32 → am_M → Option (Unit × am_M)) (H_28 : ∀ (x1 : Int32) (μ : am_M), sm_P G l am_cu d me_X2_wantAll 28 [(0, .ref (am_ad G 6 0)), (1, .int x1)] [] μ (r_28 x1 μ)) (H_57 : ∀ (x1 : Int32) (x2 : Int32) (μ : am_M), sm_P G l am_cu d me_X2_wantAll 57 [(0, .ref (am_ad G 6 0)), (1, .int x1), (2, .int x2)] [] μ (r_57 x1 x2 μ)) (x1 : Int32) (x2 : Int32) (μ : am_M) : sm_P G l am_cu d me_X2_wantAll 57 [(0, .ref (am_ad G 6 0)), (1, .int x1), (2, .int x2)] [] μ (f_X2_wantAll_57 N r_28 r_57 x1 x2 μ) := by
  unfold f_X2_wantAll_57
  refine sm_iload_n (pc := 57) dX2_wantAll_57 rfl 2 rfl ?_
  refine sm_aload_n (pc := 58) dX2_wantAll_58 rfl 0 rfl ?_
  refine sm_getr (pc := 59) dX2_wantAll_59 fi_X2_21 ?_
  refine sm_geti (pc := 62) dX2_wantAll_62 fi_X2_29 ?_
  refine sm_icmp_ge (pc := 65) (tgt := 108) dX2_wantAll_65 (by decide) ?_ ?_
  · refine sm_iinc (pc := 108) (v := (x1 + (1 : Int32))) (lv' := [(1, .int (x1 + (1 : Int32))), (0, .ref (am_ad G 6 0)), (2, .int x2)]) dX2_wantAll_108 1 rfl rfl (by decide) rfl ?_
    refine sm_goto (pc := 111) (tgt := 28) dX2_wantAll_111 (by decide) ?_
    refine sm_sub [1, 0] rfl ?_
    exact H_28 (x1 + (1 : Int32)) μ
  · refine sm_aload_n (pc := 68) dX2_wantAll_68 rfl 0 rfl ?_
    refine sm_getr (pc := 69) dX2_wantAll_69 fi_X2_9 ?_
    refine sm_iload_n (pc := 72) dX2_wantAll_72 rfl 2 rfl ?_
    refine sm_dup2 (pc := 73) dX2_wantAll_73 rfl rfl ?_
    refine sm_iald (pc := 74) dX2_wantAll_74 ly_98 (by decide) (fun j3 hj3 => ?_)
    refine sm_aload_n (pc := 75) dX2_wantAll_75 rfl 0 rfl ?_
    refine sm_getr (pc := 76) dX2_wantAll_76 fi_X2_21 ?_
    refine sm_iconst (pc := 79) dX2_wantAll_79 (v := 4) (by decide) ?_
    refine sm_iload_n (pc := 80) dX2_wantAll_80 rfl 1 rfl ?_
    refine sm_callVi (pc := 81) (As := [.int (4 : Int32), .int x1]) (rest := [.int (μ.1 98 0 j3), .int x2, .ref (am_ad G 98 0)]) dX2_wantAll_81 (c_X5_at G l N (4 : Int32) x1 μ) (by omega) wl_X2_47 vm_X5_at rfl rfl (Nat.le_of_ble_eq_true rfl) (fun y5 μ4 => ?_)
    refine sm_aload_n (pc := 84) dX2_wantAll_84 rfl 0 rfl ?_
    refine sm_getr (pc := 85) dX2_wantAll_85 fi_X2_21 ?_
    refine sm_aload_n (pc := 88) dX2_wantAll_88 rfl 0 rfl ?_
    refine sm_getr (pc := 89) dX2_wantAll_89 fi_X2_25 ?_
    refine sm_geti (pc := 92) dX2_wantAll_92 fi_X2_51 ?_
    refine sm_iload_n (pc := 95) dX2_wantAll_95 rfl 2 rfl ?_
    refine sm_callVi (pc := 96) (As := [.int (μ4.1 5 0 12), .int x2]) (rest := [.int y5, .int (μ.1 98 0 j3), .int x2, .ref (am_ad G 98 0)]) dX2_wantAll_96 (c_X5_digitOf G l N (μ4.1 5 0 12) x2 μ4) (by omega) wl_X2_54 vm_X5_digitOf rfl rfl (Nat.le_of_ble_eq_true rfl) (fun y7 μ6 => ?_)
    refine sm_imul (pc := 99) dX2_wantAll_99 ?_
    refine sm_iadd (pc := 100) dX2_wantAll_100 ?_
    refine sm_iast (pc := 101) dX2_wantAll_101 ly_98 (by decide) (fun j8 hj8 => ?_)
    refine sm_nmM (fun μ9 => ?_)
    refine sm_iinc (pc := 102) (v := (x2 + (1 : Int32))) (lv' := [(2, .int (x2 + (1 : Int32))), (0, .ref (am_ad G 6 0)), (1, .int x1)]) dX2_wantAll_102 2 rfl rfl (by decide) rfl ?_
    refine sm_goto (pc := 105) (tgt := 57) dX2_wantAll_105 (by decide) ?_
    refine sm_sub [1, 2, 0] rfl ?_
    exact H_57 x1 (x2 + (1 : Int32)) μ9
theorem p_X2_wantAll_57_lp (G : am_G) (l : Launch) (d : Nat) (hd0 : 104 ≤ d) (N : Nat) (r_28 : Int32 → am_M → Option (Unit × am_M)) (H_28 : ∀ (x1 : Int32) (μ : am_M), sm_P G l am_cu d me_X2_wantAll 28 [(0, .ref (am_ad G 6 0)), (1, .int x1)] [] μ (r_28 x1 μ)) : ∀ (n : Nat) (x1 : Int32) (x2 : Int32) (μ : am_M), sm_P G l am_cu d me_X2_wantAll 57 [(0, .ref (am_ad G 6 0)), (1, .int x1), (2, .int x2)] [] μ (f_X2_wantAll_57_lp N r_28 n x1 x2 μ) := by
  intro n
  induction n with
  | zero => intros; exact sm_none
  | succ n ih => exact fun x1 x2 μ => p_X2_wantAll_57 G l d hd0 N r_28 (f_X2_wantAll_57_lp N r_28 n) H_28 ih x1 x2 μ
set_option maxHeartbeats 4000000 in
set_option maxRecDepth 100000 in
theorem p_X2_wantAll_28 (G : am_G) (l : Launch) (d : Nat) (hd0 : 104 ≤ d) (N : Nat) (r_28 : Int32 → am_M → Option (Unit × am_M)) (H_28 : ∀ (x1 : Int32) (μ : am_M), sm_P G l am_cu d me_X2_wantAll 28 [(0, .ref (am_ad G 6 0)), (1, .int x1)] [] μ (r_28 x1 μ)) (x1 : Int32) (μ : am_M) : sm_P G l am_cu d me_X2_wantAll 28 [(0, .ref (am_ad G 6 0)), (1, .int x1)] [] μ (f_X2_wantAll_28 N r_28 x1 μ) := by
  unfold f_X2_wantAll_28
  refine sm_iload_n (pc := 28) dX2_wantAll_28 rfl 1 rfl ?_
  refine sm_aload_n (pc := 29) dX2_wantAll_29 rfl 0 rfl ?_
  refine sm_getr (pc := 30) dX2_wantAll_30 fi_X2_21 ?_
  refine sm_geti (pc := 33) dX2_wantAll_33 fi_X2_35 ?_
  refine sm_icmp_ge (pc := 36) (tgt := 114) dX2_wantAll_36 (by decide) ?_ ?_
  · exact sm_vret (pc := 114) dX2_wantAll_114 rfl
  · refine sm_aload_n (pc := 39) dX2_wantAll_39 rfl 0 rfl ?_
    refine sm_getr (pc := 40) dX2_wantAll_40 fi_X2_25 ?_
    refine sm_iload_n (pc := 43) dX2_wantAll_43 rfl 1 rfl ?_
    refine sm_callVv (pc := 44) (As := [.int x1]) (rest := []) dX2_wantAll_44 (c_X7_weigh G l N x1 μ) (by omega) wl_X2_38 vm_X7_weigh rfl rfl (Nat.le_of_ble_eq_true rfl) (fun _ μ1 => ?_)
    refine sm_aload_n (pc := 47) dX2_wantAll_47 rfl 0 rfl ?_
    refine sm_getr (pc := 48) dX2_wantAll_48 fi_X2_25 ?_
    refine sm_iload_n (pc := 51) dX2_wantAll_51 rfl 1 rfl ?_
    refine sm_callVv (pc := 52) (As := [.int x1]) (rest := []) dX2_wantAll_52 (c_X7_choose G l N x1 μ1) (by omega) wl_X2_44 vm_X7_choose rfl rfl (Nat.le_of_ble_eq_true rfl) (fun _ μ2 => ?_)
    refine sm_iconst (pc := 55) dX2_wantAll_55 (v := 0) (by decide) ?_
    refine sm_istore_n (pc := 56) (lv' := [(2, .int (0 : Int32)), (0, .ref (am_ad G 6 0)), (1, .int x1)]) dX2_wantAll_56 rfl (by decide) rfl ?_
    refine sm_sub [1, 2, 0] rfl ?_
    exact p_X2_wantAll_57_lp G l d hd0 N r_28 H_28 N x1 (0 : Int32) μ2
theorem p_X2_wantAll_28_lp (G : am_G) (l : Launch) (d : Nat) (hd0 : 104 ≤ d) (N : Nat) : ∀ (n : Nat) (x1 : Int32) (μ : am_M), sm_P G l am_cu d me_X2_wantAll 28 [(0, .ref (am_ad G 6 0)), (1, .int x1)] [] μ (f_X2_wantAll_28_lp N n x1 μ) := by
  intro n
  induction n with
  | zero => intros; exact sm_none
  | succ n ih => exact fun x1 μ => p_X2_wantAll_28 G l d hd0 N (f_X2_wantAll_28_lp N n) ih x1 μ
set_option maxHeartbeats 4000000 in
set_option maxRecDepth 100000 in
theorem p_X2_wantAll_2 (G : am_G) (l : Launch) (d : Nat) (hd0 : 104 ≤ d) (N : Nat) (r_2 : Int32 → am_M → Option (Unit × am_M)) (H_2 : ∀ (x1 : Int32) (μ : am_M), sm_P G l am_cu d me_X2_wantAll 2 [(0, .ref (am_ad G 6 0)), (1, .int x1)] [] μ (r_2 x1 μ)) (x1 : Int32) (μ : am_M) : sm_P G l am_cu d me_X2_wantAll 2 [(0, .ref (am_ad G 6 0)), (1, .int x1)] [] μ (f_X2_wantAll_2 N r_2 x1 μ) := by
  unfold f_X2_wantAll_2
  refine sm_iload_n (pc := 2) dX2_wantAll_2 rfl 1 rfl ?_
  refine sm_aload_n (pc := 3) dX2_wantAll_3 rfl 0 rfl ?_
  refine sm_getr (pc := 4) dX2_wantAll_4 fi_X2_21 ?_
  refine sm_geti (pc := 7) dX2_wantAll_7 fi_X2_29 ?_
  refine sm_icmp_ge (pc := 10) (tgt := 26) dX2_wantAll_10 (by decide) ?_ ?_
  · refine sm_iconst (pc := 26) dX2_wantAll_26 (v := 0) (by decide) ?_
    refine sm_istore_n (pc := 27) (lv' := [(1, .int (0 : Int32)), (0, .ref (am_ad G 6 0))]) dX2_wantAll_27 rfl (by decide) rfl ?_
    refine sm_sub [1, 0] rfl ?_
    exact p_X2_wantAll_28_lp G l d hd0 N N (0 : Int32) μ
  · refine sm_aload_n (pc := 13) dX2_wantAll_13 rfl 0 rfl ?_
    refine sm_getr (pc := 14) dX2_wantAll_14 fi_X2_9 ?_
    refine sm_iload_n (pc := 17) dX2_wantAll_17 rfl 1 rfl ?_
    refine sm_iconst (pc := 18) dX2_wantAll_18 (v := 0) (by decide) ?_
    refine sm_iast (pc := 19) dX2_wantAll_19 ly_98 (by decide) (fun j10 hj10 => ?_)
    refine sm_nmM (fun μ11 => ?_)
    refine sm_iinc (pc := 20) (v := (x1 + (1 : Int32))) (lv' := [(1, .int (x1 + (1 : Int32))), (0, .ref (am_ad G 6 0))]) dX2_wantAll_20 1 rfl rfl (by decide) rfl ?_
    refine sm_goto (pc := 23) (tgt := 2) dX2_wantAll_23 (by decide) ?_
    refine sm_sub [1, 0] rfl ?_
    exact H_2 (x1 + (1 : Int32)) μ11
theorem p_X2_wantAll_2_lp (G : am_G) (l : Launch) (d : Nat) (hd0 : 104 ≤ d) (N : Nat) : ∀ (n : Nat) (x1 : Int32) (μ : am_M), sm_P G l am_cu d me_X2_wantAll 2 [(0, .ref (am_ad G 6 0)), (1, .int x1)] [] μ (f_X2_wantAll_2_lp N n x1 μ) := by
  intro n
  induction n with
  | zero => intros; exact sm_none
  | succ n ih => exact fun x1 μ => p_X2_wantAll_2 G l d hd0 N (f_X2_wantAll_2_lp N n) ih x1 μ
set_option maxHeartbeats 4000000 in
set_option maxRecDepth 100000 in
theorem p_X2_wantAll_0 (G : am_G) (l : Launch) (d : Nat) (hd0 : 104 ≤ d) (N : Nat) (μ : am_M) : sm_P G l am_cu d me_X2_wantAll 0 [(0, .ref (am_ad G 6 0))] [] μ (f_X2_wantAll_0 N μ) := by
  unfold f_X2_wantAll_0
  refine sm_iconst (pc := 0) dX2_wantAll_0 (v := 0) (by decide) ?_
  refine sm_istore_n (pc := 1) (lv' := [(1, .int (0 : Int32)), (0, .ref (am_ad G 6 0))]) dX2_wantAll_1 rfl (by decide) rfl ?_
  refine sm_sub [1, 0] rfl ?_
  exact p_X2_wantAll_2_lp G l d hd0 N N (0 : Int32) μ
theorem c_X2_wantAll (G : am_G) (l : Launch) (N : Nat) (μ : am_M) : ct_P G l am_cu 104 me_X2_wantAll [.ref (am_ad G 6 0)] μ (f_X2_wantAll N μ) := ct_of (by decide +kernel) (Nat.le_of_ble_eq_true rfl) rfl (p_X2_wantAll_0 G l 104 (Nat.le_refl _) N μ)

def f_X2_wantedOf_0 (N : Nat) (a1 : Int32) (μ : am_M) : Option (Int32 × am_M) :=
am_bd (f_X9_isWithin N a1 (0 : Int32) (5 : Int32) μ) (fun y2 μ1 => if y2 = 0 then (some ((0 : Int32), μ1)) else (am_gd a1 6 (fun j3 => some ((μ1.1 98 0 j3), μ1))))
def f_X2_wantedOf (N : Nat) (a1 : Int32) (μ : am_M) : Option (Int32 × am_M) := f_X2_wantedOf_0 N a1 μ
set_option maxHeartbeats 4000000 in
set_option maxRecDepth 100000 in
theorem p_X2_wantedOf_0 (G : am_G) (l : Launch) (d : Nat) (hd0 : 1 ≤ d) (N : Nat) (a1 : Int32) (μ : am_M) : sm_P G l am_ci d me_X2_wantedOf 0 [(0, .ref (am_ad G 6 0)), (1, .int a1)] [] μ (f_X2_wantedOf_0 N a1 μ) := by
  unfold f_X2_wantedOf_0
  refine sm_iload_n (pc := 0) dX2_wantedOf_0 rfl 1 rfl ?_
  refine sm_iconst (pc := 1) dX2_wantedOf_1 (v := 0) (by decide) ?_
  refine sm_iconst (pc := 2) dX2_wantedOf_2 (v := 5) (by decide) ?_
  refine sm_callNi (pc := 3) (As := [.int a1, .int (0 : Int32), .int (5 : Int32)]) (rest := []) dX2_wantedOf_3 (c_X9_isWithin G l N a1 (0 : Int32) (5 : Int32) μ) (by omega) wl_X2_57 st_X9_isWithin rfl rfl (Nat.le_of_ble_eq_true rfl) (fun y2 μ1 => ?_)
  refine sm_if_eq (pc := 6) (tgt := 18) dX2_wantedOf_6 (by decide) ?_ ?_
  · refine sm_iconst (pc := 18) dX2_wantedOf_18 (v := 0) (by decide) ?_
    exact sm_iret (pc := 19) dX2_wantedOf_19 rfl
  · refine sm_aload_n (pc := 9) dX2_wantedOf_9 rfl 0 rfl ?_
    refine sm_getr (pc := 10) dX2_wantedOf_10 fi_X2_9 ?_
    refine sm_iload_n (pc := 13) dX2_wantedOf_13 rfl 1 rfl ?_
    refine sm_iald (pc := 14) dX2_wantedOf_14 ly_98 (by decide) (fun j3 hj3 => ?_)
    refine sm_goto (pc := 15) (tgt := 19) dX2_wantedOf_15 (by decide) ?_
    exact sm_iret (pc := 19) dX2_wantedOf_19 rfl
theorem c_X2_wantedOf (G : am_G) (l : Launch) (N : Nat) (a1 : Int32) (μ : am_M) : ct_P G l am_ci 1 me_X2_wantedOf [.ref (am_ad G 6 0), .int a1] μ (f_X2_wantedOf N a1 μ) := ct_of (by decide +kernel) (Nat.le_of_ble_eq_true rfl) rfl (p_X2_wantedOf_0 G l 1 (Nat.le_refl _) N a1 μ)

def f_X2_overOf_0 (N : Nat) (a1 : Int32) (μ : am_M) : Option (Int32 × am_M) :=
am_bd (f_X5_at N (0 : Int32) a1 μ) (fun y2 μ1 => am_bd (f_X2_wantedOf N a1 μ1) (fun y4 μ3 => some ((y2 - y4), μ3)))
def f_X2_overOf (N : Nat) (a1 : Int32) (μ : am_M) : Option (Int32 × am_M) := f_X2_overOf_0 N a1 μ
set_option maxHeartbeats 4000000 in
set_option maxRecDepth 100000 in
theorem p_X2_overOf_0 (G : am_G) (l : Launch) (d : Nat) (hd0 : 2 ≤ d) (N : Nat) (a1 : Int32) (μ : am_M) : sm_P G l am_ci d me_X2_overOf 0 [(0, .ref (am_ad G 6 0)), (1, .int a1)] [] μ (f_X2_overOf_0 N a1 μ) := by
  unfold f_X2_overOf_0
  refine sm_aload_n (pc := 0) dX2_overOf_0 rfl 0 rfl ?_
  refine sm_getr (pc := 1) dX2_overOf_1 fi_X2_21 ?_
  refine sm_iconst (pc := 4) dX2_overOf_4 (v := 0) (by decide) ?_
  refine sm_iload_n (pc := 5) dX2_overOf_5 rfl 1 rfl ?_
  refine sm_callVi (pc := 6) (As := [.int (0 : Int32), .int a1]) (rest := []) dX2_overOf_6 (c_X5_at G l N (0 : Int32) a1 μ) (by omega) wl_X2_47 vm_X5_at rfl rfl (Nat.le_of_ble_eq_true rfl) (fun y2 μ1 => ?_)
  refine sm_aload_n (pc := 9) dX2_overOf_9 rfl 0 rfl ?_
  refine sm_iload_n (pc := 10) dX2_overOf_10 rfl 1 rfl ?_
  refine sm_callVi (pc := 11) (As := [.int a1]) (rest := [.int y2]) dX2_overOf_11 (c_X2_wantedOf G l N a1 μ1) (by omega) wl_X2_61 vm_X2_wantedOf rfl rfl (Nat.le_of_ble_eq_true rfl) (fun y4 μ3 => ?_)
  refine sm_isub (pc := 14) dX2_overOf_14 ?_
  exact sm_iret (pc := 15) dX2_overOf_15 rfl
theorem c_X2_overOf (G : am_G) (l : Launch) (N : Nat) (a1 : Int32) (μ : am_M) : ct_P G l am_ci 2 me_X2_overOf [.ref (am_ad G 6 0), .int a1] μ (f_X2_overOf N a1 μ) := ct_of (by decide +kernel) (Nat.le_of_ble_eq_true rfl) rfl (p_X2_overOf_0 G l 2 (Nat.le_refl _) N a1 μ)

def f_X2_bothTogether_4 (N : Nat) (r_4 : Int32 → Int32 → am_M → Option (Int32 × am_M)) (x1 : Int32) (x2 : Int32) (μ : am_M) : Option (Int32 × am_M) :=
if (μ.1 1 0 1) ≤ x2 then (some (x1, μ)) else (am_bd (f_X2_overOf N x2 μ) (fun y2 μ1 => am_nm (if 0 ≤ y2 then y2 else 0 - y2) (fun y3 => am_nm (x1 + y3) (fun y4 => r_4 y4 (x2 + (1 : Int32)) μ1))))
def f_X2_bothTogether_4_lp (N : Nat) : Nat → Int32 → Int32 → am_M → Option (Int32 × am_M)
  | 0, _, _, _ => none
  | n + 1, x1, x2, μ => f_X2_bothTogether_4 N (f_X2_bothTogether_4_lp N n) x1 x2 μ
def f_X2_bothTogether_0 (N : Nat) (μ : am_M) : Option (Int32 × am_M) :=
f_X2_bothTogether_4_lp N N (0 : Int32) (0 : Int32) μ
def f_X2_bothTogether (N : Nat) (μ : am_M) : Option (Int32 × am_M) := f_X2_bothTogether_0 N μ
set_option maxHeartbeats 4000000 in
set_option maxRecDepth 100000 in
theorem p_X2_bothTogether_4 (G : am_G) (l : Launch) (d : Nat) (hd0 : 3 ≤ d) (N : Nat) (r_4 : Int32 → Int32 → am_M → Option (Int32 × am_M)) (H_4 : ∀ (x1 : Int32) (x2 : Int32) (μ : am_M), sm_P G l am_ci d me_X2_bothTogether 4 [(0, .ref (am_ad G 6 0)), (1, .int x1), (2, .int x2)] [] μ (r_4 x1 x2 μ)) (x1 : Int32) (x2 : Int32) (μ : am_M) : sm_P G l am_ci d me_X2_bothTogether 4 [(0, .ref (am_ad G 6 0)), (1, .int x1), (2, .int x2)] [] μ (f_X2_bothTogether_4 N r_4 x1 x2 μ) := by
  unfold f_X2_bothTogether_4
  refine sm_iload_n (pc := 4) dX2_bothTogether_4 rfl 2 rfl ?_
  refine sm_aload_n (pc := 5) dX2_bothTogether_5 rfl 0 rfl ?_
  refine sm_getr (pc := 6) dX2_bothTogether_6 fi_X2_21 ?_
  refine sm_geti (pc := 9) dX2_bothTogether_9 fi_X2_29 ?_
  refine sm_icmp_ge (pc := 12) (tgt := 32) dX2_bothTogether_12 (by decide) ?_ ?_
  · refine sm_iload_n (pc := 32) dX2_bothTogether_32 rfl 1 rfl ?_
    exact sm_iret (pc := 33) dX2_bothTogether_33 rfl
  · refine sm_iload_n (pc := 15) dX2_bothTogether_15 rfl 1 rfl ?_
    refine sm_aload_n (pc := 16) dX2_bothTogether_16 rfl 0 rfl ?_
    refine sm_iload_n (pc := 17) dX2_bothTogether_17 rfl 2 rfl ?_
    refine sm_callVi (pc := 18) (As := [.int x2]) (rest := [.int x1]) dX2_bothTogether_18 (c_X2_overOf G l N x2 μ) (by omega) wl_X2_65 vm_X2_overOf rfl rfl (Nat.le_of_ble_eq_true rfl) (fun y2 μ1 => ?_)
    refine sm_abs (pc := 21) dX2_bothTogether_21 (by omega) (Nat.le_of_ble_eq_true rfl) wl_X2_68 wd_abs wd_minit wd_absc ?_
    refine sm_nmI (fun y3 => ?_)
    refine sm_iadd (pc := 24) dX2_bothTogether_24 ?_
    refine sm_nmI (fun y4 => ?_)
    refine sm_istore_n (pc := 25) (lv' := [(1, .int y4), (0, .ref (am_ad G 6 0)), (2, .int x2)]) dX2_bothTogether_25 rfl (by decide) rfl ?_
    refine sm_iinc (pc := 26) (v := (x2 + (1 : Int32))) (lv' := [(2, .int (x2 + (1 : Int32))), (1, .int y4), (0, .ref (am_ad G 6 0))]) dX2_bothTogether_26 2 rfl rfl (by decide) rfl ?_
    refine sm_goto (pc := 29) (tgt := 4) dX2_bothTogether_29 (by decide) ?_
    refine sm_sub [2, 1, 0] rfl ?_
    exact H_4 y4 (x2 + (1 : Int32)) μ1
theorem p_X2_bothTogether_4_lp (G : am_G) (l : Launch) (d : Nat) (hd0 : 3 ≤ d) (N : Nat) : ∀ (n : Nat) (x1 : Int32) (x2 : Int32) (μ : am_M), sm_P G l am_ci d me_X2_bothTogether 4 [(0, .ref (am_ad G 6 0)), (1, .int x1), (2, .int x2)] [] μ (f_X2_bothTogether_4_lp N n x1 x2 μ) := by
  intro n
  induction n with
  | zero => intros; exact sm_none
  | succ n ih => exact fun x1 x2 μ => p_X2_bothTogether_4 G l d hd0 N (f_X2_bothTogether_4_lp N n) ih x1 x2 μ
set_option maxHeartbeats 4000000 in
set_option maxRecDepth 100000 in
theorem p_X2_bothTogether_0 (G : am_G) (l : Launch) (d : Nat) (hd0 : 3 ≤ d) (N : Nat) (μ : am_M) : sm_P G l am_ci d me_X2_bothTogether 0 [(0, .ref (am_ad G 6 0))] [] μ (f_X2_bothTogether_0 N μ) := by
  unfold f_X2_bothTogether_0
  refine sm_iconst (pc := 0) dX2_bothTogether_0 (v := 0) (by decide) ?_
  refine sm_istore_n (pc := 1) (lv' := [(1, .int (0 : Int32)), (0, .ref (am_ad G 6 0))]) dX2_bothTogether_1 rfl (by decide) rfl ?_
  refine sm_iconst (pc := 2) dX2_bothTogether_2 (v := 0) (by decide) ?_
  refine sm_istore_n (pc := 3) (lv' := [(2, .int (0 : Int32)), (1, .int (0 : Int32)), (0, .ref (am_ad G 6 0))]) dX2_bothTogether_3 rfl (by decide) rfl ?_
  refine sm_sub [2, 1, 0] rfl ?_
  exact p_X2_bothTogether_4_lp G l d hd0 N N (0 : Int32) (0 : Int32) μ
theorem c_X2_bothTogether (G : am_G) (l : Launch) (N : Nat) (μ : am_M) : ct_P G l am_ci 3 me_X2_bothTogether [.ref (am_ad G 6 0)] μ (f_X2_bothTogether N μ) := ct_of (by decide +kernel) (Nat.le_of_ble_eq_true rfl) rfl (p_X2_bothTogether_0 G l 3 (Nat.le_refl _) N μ)

def f_X2_keepLeast_18 (N : Nat) (r_18 : Int32 → am_M → Option (Unit × am_M)) (x1 : Int32) (μ : am_M) : Option (Unit × am_M) :=
if (μ.1 1 0 1) ≤ x1 then (some ((), μ)) else (am_bd (f_X7_pointsOf N x1 μ) (fun y6 μ5 => am_gd x1 6 (fun j7 => am_nm (am_ui μ5 100 0 j7 y6) (fun μ8 => r_18 (x1 + (1 : Int32)) μ8))))
def f_X2_keepLeast_18_lp (N : Nat) : Nat → Int32 → am_M → Option (Unit × am_M)
  | 0, _, _ => none
  | n + 1, x1, μ => f_X2_keepLeast_18 N (f_X2_keepLeast_18_lp N n) x1 μ
def f_X2_keepLeast_0 (N : Nat) (μ : am_M) : Option (Unit × am_M) :=
am_bd (f_X2_bothTogether N μ) (fun y2 μ1 => am_nm (am_ui μ1 6 0 6 y2) (fun μ3 => am_nm (am_ui μ3 6 0 7 (μ3.1 6 0 5)) (fun μ4 => f_X2_keepLeast_18_lp N N (0 : Int32) μ4)))
def f_X2_keepLeast (N : Nat) (μ : am_M) : Option (Unit × am_M) := f_X2_keepLeast_0 N μ
set_option maxHeartbeats 4000000 in
set_option maxRecDepth 100000 in
theorem p_X2_keepLeast_18 (G : am_G) (l : Launch) (d : Nat) (hd0 : 4 ≤ d) (N : Nat) (r_18 : Int32 → am_M → Option (Unit × am_M)) (H_18 : ∀ (x1 : Int32) (μ : am_M), sm_P G l am_cu d me_X2_keepLeast 18 [(0, .ref (am_ad G 6 0)), (1, .int x1)] [] μ (r_18 x1 μ)) (x1 : Int32) (μ : am_M) : sm_P G l am_cu d me_X2_keepLeast 18 [(0, .ref (am_ad G 6 0)), (1, .int x1)] [] μ (f_X2_keepLeast_18 N r_18 x1 μ) := by
  unfold f_X2_keepLeast_18
  refine sm_iload_n (pc := 18) dX2_keepLeast_18 rfl 1 rfl ?_
  refine sm_aload_n (pc := 19) dX2_keepLeast_19 rfl 0 rfl ?_
  refine sm_getr (pc := 20) dX2_keepLeast_20 fi_X2_21 ?_
  refine sm_geti (pc := 23) dX2_keepLeast_23 fi_X2_29 ?_
  refine sm_icmp_ge (pc := 26) (tgt := 49) dX2_keepLeast_26 (by decide) ?_ ?_
  · exact sm_vret (pc := 49) dX2_keepLeast_49 rfl
  · refine sm_aload_n (pc := 29) dX2_keepLeast_29 rfl 0 rfl ?_
    refine sm_getr (pc := 30) dX2_keepLeast_30 fi_X2_18 ?_
    refine sm_iload_n (pc := 33) dX2_keepLeast_33 rfl 1 rfl ?_
    refine sm_aload_n (pc := 34) dX2_keepLeast_34 rfl 0 rfl ?_
    refine sm_getr (pc := 35) dX2_keepLeast_35 fi_X2_25 ?_
    refine sm_iload_n (pc := 38) dX2_keepLeast_38 rfl 1 rfl ?_
    refine sm_callVi (pc := 39) (As := [.int x1]) (rest := [.int x1, .ref (am_ad G 100 0)]) dX2_keepLeast_39 (c_X7_pointsOf G l N x1 μ) (by omega) wl_X2_99 vm_X7_pointsOf rfl rfl (Nat.le_of_ble_eq_true rfl) (fun y6 μ5 => ?_)
    refine sm_iast (pc := 42) dX2_keepLeast_42 ly_100 (by decide) (fun j7 hj7 => ?_)
    refine sm_nmM (fun μ8 => ?_)
    refine sm_iinc (pc := 43) (v := (x1 + (1 : Int32))) (lv' := [(1, .int (x1 + (1 : Int32))), (0, .ref (am_ad G 6 0))]) dX2_keepLeast_43 1 rfl rfl (by decide) rfl ?_
    refine sm_goto (pc := 46) (tgt := 18) dX2_keepLeast_46 (by decide) ?_
    refine sm_sub [1, 0] rfl ?_
    exact H_18 (x1 + (1 : Int32)) μ8
theorem p_X2_keepLeast_18_lp (G : am_G) (l : Launch) (d : Nat) (hd0 : 4 ≤ d) (N : Nat) : ∀ (n : Nat) (x1 : Int32) (μ : am_M), sm_P G l am_cu d me_X2_keepLeast 18 [(0, .ref (am_ad G 6 0)), (1, .int x1)] [] μ (f_X2_keepLeast_18_lp N n x1 μ) := by
  intro n
  induction n with
  | zero => intros; exact sm_none
  | succ n ih => exact fun x1 μ => p_X2_keepLeast_18 G l d hd0 N (f_X2_keepLeast_18_lp N n) ih x1 μ
set_option maxHeartbeats 4000000 in
set_option maxRecDepth 100000 in
theorem p_X2_keepLeast_0 (G : am_G) (l : Launch) (d : Nat) (hd0 : 4 ≤ d) (N : Nat) (μ : am_M) : sm_P G l am_cu d me_X2_keepLeast 0 [(0, .ref (am_ad G 6 0))] [] μ (f_X2_keepLeast_0 N μ) := by
  unfold f_X2_keepLeast_0
  refine sm_aload_n (pc := 0) dX2_keepLeast_0 rfl 0 rfl ?_
  refine sm_aload_n (pc := 1) dX2_keepLeast_1 rfl 0 rfl ?_
  refine sm_callVi (pc := 2) (As := []) (rest := [.ref (am_ad G 6 0)]) dX2_keepLeast_2 (c_X2_bothTogether G l N μ) (by omega) wl_X2_89 vm_X2_bothTogether rfl rfl (Nat.le_of_ble_eq_true rfl) (fun y2 μ1 => ?_)
  refine sm_puti (pc := 5) dX2_keepLeast_5 fi_X2_93 ?_
  refine sm_nmM (fun μ3 => ?_)
  refine sm_aload_n (pc := 8) dX2_keepLeast_8 rfl 0 rfl ?_
  refine sm_aload_n (pc := 9) dX2_keepLeast_9 rfl 0 rfl ?_
  refine sm_geti (pc := 10) dX2_keepLeast_10 fi_X2_79 ?_
  refine sm_puti (pc := 13) dX2_keepLeast_13 fi_X2_96 ?_
  refine sm_nmM (fun μ4 => ?_)
  refine sm_iconst (pc := 16) dX2_keepLeast_16 (v := 0) (by decide) ?_
  refine sm_istore_n (pc := 17) (lv' := [(1, .int (0 : Int32)), (0, .ref (am_ad G 6 0))]) dX2_keepLeast_17 rfl (by decide) rfl ?_
  refine sm_sub [1, 0] rfl ?_
  exact p_X2_keepLeast_18_lp G l d hd0 N N (0 : Int32) μ4
theorem c_X2_keepLeast (G : am_G) (l : Launch) (N : Nat) (μ : am_M) : ct_P G l am_cu 4 me_X2_keepLeast [.ref (am_ad G 6 0)] μ (f_X2_keepLeast N μ) := ct_of (by decide +kernel) (Nat.le_of_ble_eq_true rfl) rfl (p_X2_keepLeast_0 G l 4 (Nat.le_refl _) N μ)

def f_X2_movePoints_74 (N : Nat) (r_4 : Int32 → Int32 → am_M → Option (Int32 × am_M)) (x1 : Int32) (x2 : Int32) (μ : am_M) : Option (Int32 × am_M) :=
r_4 x1 (x2 + (1 : Int32)) μ
def f_X2_movePoints_4 (N : Nat) (r_4 : Int32 → Int32 → am_M → Option (Int32 × am_M)) (x1 : Int32) (x2 : Int32) (μ : am_M) : Option (Int32 × am_M) :=
if (μ.1 1 0 1) ≤ x2 then (am_z x1 μ) else (am_bd (f_X7_pointsOf N x2 μ) (fun y2 μ1 => am_bd (f_X2_overOf N x2 μ1) (fun y4 μ3 => am_bd (f_J_compare N y4 (0 : Int32) μ3) (fun y6 μ5 => am_nm (y2 - y6) (fun y7 => if y7 = y2 then (f_X2_movePoints_74 N r_4 x1 x2 μ5) else (am_bd (f_X9_isWithin N y7 (0 : Int32) (99 : Int32) μ5) (fun y9 μ8 => if y9 = 0 then (f_X2_movePoints_74 N r_4 x1 x2 μ8) else (am_bd (f_X7_coinOf N x2 μ8) (fun y11 μ10 => am_bd (f_X7_think N x2 y11 y7 μ10) (fun _ μ12 => f_X2_movePoints_74 N r_4 (1 : Int32) x2 μ12))))))))))
def f_X2_movePoints_4_lp (N : Nat) : Nat → Int32 → Int32 → am_M → Option (Int32 × am_M)
  | 0, _, _, _ => none
  | n + 1, x1, x2, μ => f_X2_movePoints_4 N (f_X2_movePoints_4_lp N n) x1 x2 μ
def f_X2_movePoints_0 (N : Nat) (μ : am_M) : Option (Int32 × am_M) :=
f_X2_movePoints_4_lp N N (0 : Int32) (0 : Int32) μ
def f_X2_movePoints (N : Nat) (μ : am_M) : Option (Int32 × am_M) := f_X2_movePoints_0 N μ
set_option maxHeartbeats 4000000 in
set_option maxRecDepth 100000 in
theorem p_X2_movePoints_74 (G : am_G) (l : Launch) (d : Nat) (hd0 : 3 ≤ d) (N : Nat) (r_4 : Int32 → Int32 → am_M → Option (Int32 × am_M)) (H_4 : ∀ (x1 : Int32) (x2 : Int32) (μ : am_M), sm_P G l am_ci d me_X2_movePoints 4 [(0, .ref (am_ad G 6 0)), (1, .int x1), (2, .int x2)] [] μ (r_4 x1 x2 μ)) (x1 : Int32) (x2 : Int32) (μ : am_M) : sm_P G l am_ci d me_X2_movePoints 74 [(0, .ref (am_ad G 6 0)), (1, .int x1), (2, .int x2)] [] μ (f_X2_movePoints_74 N r_4 x1 x2 μ) := by
  unfold f_X2_movePoints_74
  refine sm_iinc (pc := 74) (v := (x2 + (1 : Int32))) (lv' := [(2, .int (x2 + (1 : Int32))), (0, .ref (am_ad G 6 0)), (1, .int x1)]) dX2_movePoints_74 2 rfl rfl (by decide) rfl ?_
  refine sm_goto (pc := 77) (tgt := 4) dX2_movePoints_77 (by decide) ?_
  refine sm_sub [1, 2, 0] rfl ?_
  exact H_4 x1 (x2 + (1 : Int32)) μ
set_option maxHeartbeats 4000000 in
set_option maxRecDepth 100000 in
theorem p_X2_movePoints_4 (G : am_G) (l : Launch) (d : Nat) (hd0 : 3 ≤ d) (N : Nat) (r_4 : Int32 → Int32 → am_M → Option (Int32 × am_M)) (H_4 : ∀ (x1 : Int32) (x2 : Int32) (μ : am_M), sm_P G l am_ci d me_X2_movePoints 4 [(0, .ref (am_ad G 6 0)), (1, .int x1), (2, .int x2)] [] μ (r_4 x1 x2 μ)) (x1 : Int32) (x2 : Int32) (μ : am_M) : sm_P G l am_ci d me_X2_movePoints 4 [(0, .ref (am_ad G 6 0)), (1, .int x1), (2, .int x2)] [] μ (f_X2_movePoints_4 N r_4 x1 x2 μ) := by
  unfold f_X2_movePoints_4
  refine sm_iload_n (pc := 4) dX2_movePoints_4 rfl 2 rfl ?_
  refine sm_aload_n (pc := 5) dX2_movePoints_5 rfl 0 rfl ?_
  refine sm_getr (pc := 6) dX2_movePoints_6 fi_X2_21 ?_
  refine sm_geti (pc := 9) dX2_movePoints_9 fi_X2_29 ?_
  refine sm_icmp_ge (pc := 12) (tgt := 80) dX2_movePoints_12 (by decide) ?_ ?_
  · refine sm_iload_n (pc := 80) dX2_movePoints_80 rfl 1 rfl ?_
    exact sm_zret (pc := 81) dX2_movePoints_81 rfl
  · refine sm_aload_n (pc := 15) dX2_movePoints_15 rfl 0 rfl ?_
    refine sm_getr (pc := 16) dX2_movePoints_16 fi_X2_25 ?_
    refine sm_iload_n (pc := 19) dX2_movePoints_19 rfl 2 rfl ?_
    refine sm_callVi (pc := 20) (As := [.int x2]) (rest := []) dX2_movePoints_20 (c_X7_pointsOf G l N x2 μ) (by omega) wl_X2_99 vm_X7_pointsOf rfl rfl (Nat.le_of_ble_eq_true rfl) (fun y2 μ1 => ?_)
    refine sm_istore_n (pc := 23) (lv' := [(3, .int y2), (0, .ref (am_ad G 6 0)), (1, .int x1), (2, .int x2)]) dX2_movePoints_23 rfl (by decide) rfl ?_
    refine sm_iload_n (pc := 24) dX2_movePoints_24 rfl 0 rfl ?_
    refine sm_aload_n (pc := 25) dX2_movePoints_25 rfl 1 rfl ?_
    refine sm_iload_n (pc := 26) dX2_movePoints_26 rfl 3 rfl ?_
    refine sm_callVi (pc := 27) (As := [.int x2]) (rest := [.int y2]) dX2_movePoints_27 (c_X2_overOf G l N x2 μ1) (by omega) wl_X2_65 vm_X2_overOf rfl rfl (Nat.le_of_ble_eq_true rfl) (fun y4 μ3 => ?_)
    refine sm_iconst (pc := 30) dX2_movePoints_30 (v := 0) (by decide) ?_
    refine sm_callSi (pc := 31) (As := [.int y4, .int (0 : Int32)]) (rest := [.int y2]) dX2_movePoints_31 (c_J_compare G l N y4 (0 : Int32) μ3) (by omega) wl_X2_102 st_J_compare rfl rfl (Nat.le_of_ble_eq_true rfl) (fun y6 μ5 => ?_)
    refine sm_isub (pc := 34) dX2_movePoints_34 ?_
    refine sm_nmI (fun y7 => ?_)
    refine sm_istore (pc := 35) (lv' := [(4, .int y7), (3, .int y2), (0, .ref (am_ad G 6 0)), (1, .int x1), (2, .int x2)]) dX2_movePoints_35 (by decide) rfl ?_
    refine sm_iload (pc := 37) dX2_movePoints_37 0 rfl ?_
    refine sm_iload_n (pc := 39) dX2_movePoints_39 rfl 1 rfl ?_
    refine sm_icmp_eq (pc := 40) (tgt := 74) dX2_movePoints_40 (by decide) ?_ ?_
    · refine sm_sub [2, 3, 4] rfl ?_
      exact p_X2_movePoints_74 G l d hd0 N r_4 H_4 x1 x2 μ5
    · refine sm_iload (pc := 43) dX2_movePoints_43 0 rfl ?_
      refine sm_iconst (pc := 45) dX2_movePoints_45 (v := 0) (by decide) ?_
      refine sm_bipush (pc := 46) dX2_movePoints_46 (v := 99) (by decide) ?_
      refine sm_callNi (pc := 48) (As := [.int y7, .int (0 : Int32), .int (99 : Int32)]) (rest := []) dX2_movePoints_48 (c_X9_isWithin G l N y7 (0 : Int32) (99 : Int32) μ5) (by omega) wl_X2_57 st_X9_isWithin rfl rfl (Nat.le_of_ble_eq_true rfl) (fun y9 μ8 => ?_)
      refine sm_if_eq (pc := 51) (tgt := 74) dX2_movePoints_51 (by decide) ?_ ?_
      · refine sm_sub [2, 3, 4] rfl ?_
        exact p_X2_movePoints_74 G l d hd0 N r_4 H_4 x1 x2 μ8
      · refine sm_aload_n (pc := 54) dX2_movePoints_54 rfl 2 rfl ?_
        refine sm_getr (pc := 55) dX2_movePoints_55 fi_X2_25 ?_
        refine sm_iload_n (pc := 58) dX2_movePoints_58 rfl 4 rfl ?_
        refine sm_aload_n (pc := 59) dX2_movePoints_59 rfl 2 rfl ?_
        refine sm_getr (pc := 60) dX2_movePoints_60 fi_X2_25 ?_
        refine sm_iload_n (pc := 63) dX2_movePoints_63 rfl 4 rfl ?_
        refine sm_callVi (pc := 64) (As := [.int x2]) (rest := [.int x2, .ref (am_ad G 5 0)]) dX2_movePoints_64 (c_X7_coinOf G l N x2 μ8) (by omega) wl_X2_107 vm_X7_coinOf rfl rfl (Nat.le_of_ble_eq_true rfl) (fun y11 μ10 => ?_)
        refine sm_iload (pc := 67) dX2_movePoints_67 0 rfl ?_
        refine sm_callVv (pc := 69) (As := [.int x2, .int y11, .int y7]) (rest := []) dX2_movePoints_69 (c_X7_think G l N x2 y11 y7 μ10) (by omega) wl_X2_110 vm_X7_think rfl rfl (Nat.le_of_ble_eq_true rfl) (fun _ μ12 => ?_)
        refine sm_iconst (pc := 72) dX2_movePoints_72 (v := 1) (by decide) ?_
        refine sm_istore_n (pc := 73) (lv' := [(1, .int (1 : Int32)), (4, .int y7), (3, .int y2), (0, .ref (am_ad G 6 0)), (2, .int x2)]) dX2_movePoints_73 rfl (by decide) rfl ?_
        refine sm_sub [3, 0, 4] rfl ?_
        exact p_X2_movePoints_74 G l d hd0 N r_4 H_4 (1 : Int32) x2 μ12
theorem p_X2_movePoints_4_lp (G : am_G) (l : Launch) (d : Nat) (hd0 : 3 ≤ d) (N : Nat) : ∀ (n : Nat) (x1 : Int32) (x2 : Int32) (μ : am_M), sm_P G l am_ci d me_X2_movePoints 4 [(0, .ref (am_ad G 6 0)), (1, .int x1), (2, .int x2)] [] μ (f_X2_movePoints_4_lp N n x1 x2 μ) := by
  intro n
  induction n with
  | zero => intros; exact sm_none
  | succ n ih => exact fun x1 x2 μ => p_X2_movePoints_4 G l d hd0 N (f_X2_movePoints_4_lp N n) ih x1 x2 μ
set_option maxHeartbeats 4000000 in
set_option maxRecDepth 100000 in
theorem p_X2_movePoints_0 (G : am_G) (l : Launch) (d : Nat) (hd0 : 3 ≤ d) (N : Nat) (μ : am_M) : sm_P G l am_ci d me_X2_movePoints 0 [(0, .ref (am_ad G 6 0))] [] μ (f_X2_movePoints_0 N μ) := by
  unfold f_X2_movePoints_0
  refine sm_iconst (pc := 0) dX2_movePoints_0 (v := 0) (by decide) ?_
  refine sm_istore_n (pc := 1) (lv' := [(1, .int (0 : Int32)), (0, .ref (am_ad G 6 0))]) dX2_movePoints_1 rfl (by decide) rfl ?_
  refine sm_iconst (pc := 2) dX2_movePoints_2 (v := 0) (by decide) ?_
  refine sm_istore_n (pc := 3) (lv' := [(2, .int (0 : Int32)), (1, .int (0 : Int32)), (0, .ref (am_ad G 6 0))]) dX2_movePoints_3 rfl (by decide) rfl ?_
  refine sm_sub [2, 1, 0] rfl ?_
  exact p_X2_movePoints_4_lp G l d hd0 N N (0 : Int32) (0 : Int32) μ
theorem c_X2_movePoints (G : am_G) (l : Launch) (N : Nat) (μ : am_M) : ct_P G l am_ci 3 me_X2_movePoints [.ref (am_ad G 6 0)] μ (f_X2_movePoints N μ) := ct_of (by decide +kernel) (Nat.le_of_ble_eq_true rfl) rfl (p_X2_movePoints_0 G l 3 (Nat.le_refl _) N μ)

def f_X2_findPoints_58 (N : Nat) (r_22 : Int32 → Int32 → am_M → Option (Unit × am_M)) (x1 : Int32) (x2 : Int32) (μ : am_M) : Option (Unit × am_M) :=
r_22 x1 (x2 + (1 : Int32)) μ
def f_X2_findPoints_22 (N : Nat) (r_22 : Int32 → Int32 → am_M → Option (Unit × am_M)) (x1 : Int32) (x2 : Int32) (μ : am_M) : Option (Unit × am_M) :=
if x1 < x2 then (some ((), μ)) else (am_bd (f_X2_movePoints N μ) (fun y6 μ5 => if y6 = 0 then (some ((), μ5)) else (am_nm (am_ui μ5 6 0 5 x2) (fun μ7 => am_bd (f_X2_wantAll N μ7) (fun _ μ8 => am_bd (f_X2_bothTogether N μ8) (fun y10 μ9 => if (μ9.1 6 0 6) ≤ y10 then (f_X2_findPoints_58 N r_22 x1 x2 μ9) else (am_bd (f_X2_keepLeast N μ9) (fun _ μ11 => f_X2_findPoints_58 N r_22 x1 x2 μ11))))))))
def f_X2_findPoints_22_lp (N : Nat) : Nat → Int32 → Int32 → am_M → Option (Unit × am_M)
  | 0, _, _, _ => none
  | n + 1, x1, x2, μ => f_X2_findPoints_22 N (f_X2_findPoints_22_lp N n) x1 x2 μ
def f_X2_findPoints_0 (N : Nat) (a1 : Int32) (μ : am_M) : Option (Unit × am_M) :=
am_bd (f_X7_recall N μ) (fun _ μ1 => am_bd (f_X2_wantAll N μ1) (fun _ μ2 => am_nm (am_ui μ2 6 0 5 (0 : Int32)) (fun μ3 => am_bd (f_X2_keepLeast N μ3) (fun _ μ4 => f_X2_findPoints_22_lp N N a1 (1 : Int32) μ4))))
def f_X2_findPoints (N : Nat) (a1 : Int32) (μ : am_M) : Option (Unit × am_M) := f_X2_findPoints_0 N a1 μ
set_option maxHeartbeats 4000000 in
set_option maxRecDepth 100000 in
theorem p_X2_findPoints_58 (G : am_G) (l : Launch) (d : Nat) (hd0 : 105 ≤ d) (N : Nat) (r_22 : Int32 → Int32 → am_M → Option (Unit × am_M)) (H_22 : ∀ (x1 : Int32) (x2 : Int32) (μ : am_M), sm_P G l am_cu d me_X2_findPoints 22 [(0, .ref (am_ad G 6 0)), (1, .int x1), (2, .int x2)] [] μ (r_22 x1 x2 μ)) (x1 : Int32) (x2 : Int32) (μ : am_M) : sm_P G l am_cu d me_X2_findPoints 58 [(0, .ref (am_ad G 6 0)), (1, .int x1), (2, .int x2)] [] μ (f_X2_findPoints_58 N r_22 x1 x2 μ) := by
  unfold f_X2_findPoints_58
  refine sm_iinc (pc := 58) (v := (x2 + (1 : Int32))) (lv' := [(2, .int (x2 + (1 : Int32))), (0, .ref (am_ad G 6 0)), (1, .int x1)]) dX2_findPoints_58 2 rfl rfl (by decide) rfl ?_
  refine sm_goto (pc := 61) (tgt := 22) dX2_findPoints_61 (by decide) ?_
  refine sm_sub [1, 2, 0] rfl ?_
  exact H_22 x1 (x2 + (1 : Int32)) μ
set_option maxHeartbeats 4000000 in
set_option maxRecDepth 100000 in
theorem p_X2_findPoints_22 (G : am_G) (l : Launch) (d : Nat) (hd0 : 105 ≤ d) (N : Nat) (r_22 : Int32 → Int32 → am_M → Option (Unit × am_M)) (H_22 : ∀ (x1 : Int32) (x2 : Int32) (μ : am_M), sm_P G l am_cu d me_X2_findPoints 22 [(0, .ref (am_ad G 6 0)), (1, .int x1), (2, .int x2)] [] μ (r_22 x1 x2 μ)) (x1 : Int32) (x2 : Int32) (μ : am_M) : sm_P G l am_cu d me_X2_findPoints 22 [(0, .ref (am_ad G 6 0)), (1, .int x1), (2, .int x2)] [] μ (f_X2_findPoints_22 N r_22 x1 x2 μ) := by
  unfold f_X2_findPoints_22
  refine sm_iload_n (pc := 22) dX2_findPoints_22 rfl 2 rfl ?_
  refine sm_iload_n (pc := 23) dX2_findPoints_23 rfl 1 rfl ?_
  refine sm_icmp_gt (pc := 24) (tgt := 64) dX2_findPoints_24 (by decide) ?_ ?_
  · exact sm_vret (pc := 64) dX2_findPoints_64 rfl
  · refine sm_aload_n (pc := 27) dX2_findPoints_27 rfl 0 rfl ?_
    refine sm_callVi (pc := 28) (As := []) (rest := []) dX2_findPoints_28 (c_X2_movePoints G l N μ) (by omega) wl_X2_85 vm_X2_movePoints rfl rfl (Nat.le_of_ble_eq_true rfl) (fun y6 μ5 => ?_)
    refine sm_if_eq (pc := 31) (tgt := 64) dX2_findPoints_31 (by decide) ?_ ?_
    · exact sm_vret (pc := 64) dX2_findPoints_64 rfl
    · refine sm_aload_n (pc := 34) dX2_findPoints_34 rfl 0 rfl ?_
      refine sm_iload_n (pc := 35) dX2_findPoints_35 rfl 2 rfl ?_
      refine sm_puti (pc := 36) dX2_findPoints_36 fi_X2_79 ?_
      refine sm_nmM (fun μ7 => ?_)
      refine sm_aload_n (pc := 39) dX2_findPoints_39 rfl 0 rfl ?_
      refine sm_callVv (pc := 40) (As := []) (rest := []) dX2_findPoints_40 (c_X2_wantAll G l N μ7) (by omega) wl_X2_76 vm_X2_wantAll rfl rfl (Nat.le_of_ble_eq_true rfl) (fun _ μ8 => ?_)
      refine sm_aload_n (pc := 43) dX2_findPoints_43 rfl 0 rfl ?_
      refine sm_callVi (pc := 44) (As := []) (rest := []) dX2_findPoints_44 (c_X2_bothTogether G l N μ8) (by omega) wl_X2_89 vm_X2_bothTogether rfl rfl (Nat.le_of_ble_eq_true rfl) (fun y10 μ9 => ?_)
      refine sm_aload_n (pc := 47) dX2_findPoints_47 rfl 0 rfl ?_
      refine sm_geti (pc := 48) dX2_findPoints_48 fi_X2_93 ?_
      refine sm_icmp_ge (pc := 51) (tgt := 58) dX2_findPoints_51 (by decide) ?_ ?_
      · exact p_X2_findPoints_58 G l d hd0 N r_22 H_22 x1 x2 μ9
      · refine sm_aload_n (pc := 54) dX2_findPoints_54 rfl 0 rfl ?_
        refine sm_callVv (pc := 55) (As := []) (rest := []) dX2_findPoints_55 (c_X2_keepLeast G l N μ9) (by omega) wl_X2_82 vm_X2_keepLeast rfl rfl (Nat.le_of_ble_eq_true rfl) (fun _ μ11 => ?_)
        exact p_X2_findPoints_58 G l d hd0 N r_22 H_22 x1 x2 μ11
theorem p_X2_findPoints_22_lp (G : am_G) (l : Launch) (d : Nat) (hd0 : 105 ≤ d) (N : Nat) : ∀ (n : Nat) (x1 : Int32) (x2 : Int32) (μ : am_M), sm_P G l am_cu d me_X2_findPoints 22 [(0, .ref (am_ad G 6 0)), (1, .int x1), (2, .int x2)] [] μ (f_X2_findPoints_22_lp N n x1 x2 μ) := by
  intro n
  induction n with
  | zero => intros; exact sm_none
  | succ n ih => exact fun x1 x2 μ => p_X2_findPoints_22 G l d hd0 N (f_X2_findPoints_22_lp N n) ih x1 x2 μ
set_option maxHeartbeats 4000000 in
set_option maxRecDepth 100000 in
theorem p_X2_findPoints_0 (G : am_G) (l : Launch) (d : Nat) (hd0 : 105 ≤ d) (N : Nat) (a1 : Int32) (μ : am_M) : sm_P G l am_cu d me_X2_findPoints 0 [(0, .ref (am_ad G 6 0)), (1, .int a1)] [] μ (f_X2_findPoints_0 N a1 μ) := by
  unfold f_X2_findPoints_0
  refine sm_aload_n (pc := 0) dX2_findPoints_0 rfl 0 rfl ?_
  refine sm_getr (pc := 1) dX2_findPoints_1 fi_X2_25 ?_
  refine sm_callVv (pc := 4) (As := []) (rest := []) dX2_findPoints_4 (c_X7_recall G l N μ) (by omega) wl_X2_73 vm_X7_recall rfl rfl (Nat.le_of_ble_eq_true rfl) (fun _ μ1 => ?_)
  refine sm_aload_n (pc := 7) dX2_findPoints_7 rfl 0 rfl ?_
  refine sm_callVv (pc := 8) (As := []) (rest := []) dX2_findPoints_8 (c_X2_wantAll G l N μ1) (by omega) wl_X2_76 vm_X2_wantAll rfl rfl (Nat.le_of_ble_eq_true rfl) (fun _ μ2 => ?_)
  refine sm_aload_n (pc := 11) dX2_findPoints_11 rfl 0 rfl ?_
  refine sm_iconst (pc := 12) dX2_findPoints_12 (v := 0) (by decide) ?_
  refine sm_puti (pc := 13) dX2_findPoints_13 fi_X2_79 ?_
  refine sm_nmM (fun μ3 => ?_)
  refine sm_aload_n (pc := 16) dX2_findPoints_16 rfl 0 rfl ?_
  refine sm_callVv (pc := 17) (As := []) (rest := []) dX2_findPoints_17 (c_X2_keepLeast G l N μ3) (by omega) wl_X2_82 vm_X2_keepLeast rfl rfl (Nat.le_of_ble_eq_true rfl) (fun _ μ4 => ?_)
  refine sm_iconst (pc := 20) dX2_findPoints_20 (v := 1) (by decide) ?_
  refine sm_istore_n (pc := 21) (lv' := [(2, .int (1 : Int32)), (0, .ref (am_ad G 6 0)), (1, .int a1)]) dX2_findPoints_21 rfl (by decide) rfl ?_
  refine sm_sub [1, 2, 0] rfl ?_
  exact p_X2_findPoints_22_lp G l d hd0 N N a1 (1 : Int32) μ4
theorem c_X2_findPoints (G : am_G) (l : Launch) (N : Nat) (a1 : Int32) (μ : am_M) : ct_P G l am_cu 105 me_X2_findPoints [.ref (am_ad G 6 0), .int a1] μ (f_X2_findPoints N a1 μ) := ct_of (by decide +kernel) (Nat.le_of_ble_eq_true rfl) rfl (p_X2_findPoints_0 G l 105 (Nat.le_refl _) N a1 μ)

def f_X2_leastPointsOf_0 (N : Nat) (a1 : Int32) (μ : am_M) : Option (Int32 × am_M) :=
am_bd (f_X9_isWithin N a1 (0 : Int32) (5 : Int32) μ) (fun y2 μ1 => if y2 = 0 then (some ((0 : Int32), μ1)) else (am_gd a1 6 (fun j3 => some ((μ1.1 100 0 j3), μ1))))
def f_X2_leastPointsOf (N : Nat) (a1 : Int32) (μ : am_M) : Option (Int32 × am_M) := f_X2_leastPointsOf_0 N a1 μ
set_option maxHeartbeats 4000000 in
set_option maxRecDepth 100000 in
theorem p_X2_leastPointsOf_0 (G : am_G) (l : Launch) (d : Nat) (hd0 : 1 ≤ d) (N : Nat) (a1 : Int32) (μ : am_M) : sm_P G l am_ci d me_X2_leastPointsOf 0 [(0, .ref (am_ad G 6 0)), (1, .int a1)] [] μ (f_X2_leastPointsOf_0 N a1 μ) := by
  unfold f_X2_leastPointsOf_0
  refine sm_iload_n (pc := 0) dX2_leastPointsOf_0 rfl 1 rfl ?_
  refine sm_iconst (pc := 1) dX2_leastPointsOf_1 (v := 0) (by decide) ?_
  refine sm_iconst (pc := 2) dX2_leastPointsOf_2 (v := 5) (by decide) ?_
  refine sm_callNi (pc := 3) (As := [.int a1, .int (0 : Int32), .int (5 : Int32)]) (rest := []) dX2_leastPointsOf_3 (c_X9_isWithin G l N a1 (0 : Int32) (5 : Int32) μ) (by omega) wl_X2_57 st_X9_isWithin rfl rfl (Nat.le_of_ble_eq_true rfl) (fun y2 μ1 => ?_)
  refine sm_if_eq (pc := 6) (tgt := 18) dX2_leastPointsOf_6 (by decide) ?_ ?_
  · refine sm_iconst (pc := 18) dX2_leastPointsOf_18 (v := 0) (by decide) ?_
    exact sm_iret (pc := 19) dX2_leastPointsOf_19 rfl
  · refine sm_aload_n (pc := 9) dX2_leastPointsOf_9 rfl 0 rfl ?_
    refine sm_getr (pc := 10) dX2_leastPointsOf_10 fi_X2_18 ?_
    refine sm_iload_n (pc := 13) dX2_leastPointsOf_13 rfl 1 rfl ?_
    refine sm_iald (pc := 14) dX2_leastPointsOf_14 ly_100 (by decide) (fun j3 hj3 => ?_)
    refine sm_goto (pc := 15) (tgt := 19) dX2_leastPointsOf_15 (by decide) ?_
    exact sm_iret (pc := 19) dX2_leastPointsOf_19 rfl
theorem c_X2_leastPointsOf (G : am_G) (l : Launch) (N : Nat) (a1 : Int32) (μ : am_M) : ct_P G l am_ci 1 me_X2_leastPointsOf [.ref (am_ad G 6 0), .int a1] μ (f_X2_leastPointsOf N a1 μ) := ct_of (by decide +kernel) (Nat.le_of_ble_eq_true rfl) rfl (p_X2_leastPointsOf_0 G l 1 (Nat.le_refl _) N a1 μ)

def f_X2_hear_0 (N : Nat) (a1 : Int32) (a2 : Int32) (μ : am_M) : Option (Int32 × am_M) :=
am_bd (f_X9_isWithin N a1 (0 : Int32) (4 : Int32) μ) (fun y2 μ1 => if y2 = 0 then (some ((-1 : Int32), μ1)) else (am_gd a1 5 (fun j3 => am_nm (μ1.1 99 0 j3) (fun y4 => am_gd a1 5 (fun j5 => am_nm (am_ui μ1 99 0 j5 a2) (fun μ6 => some (y4, μ6)))))))
def f_X2_hear (N : Nat) (a1 : Int32) (a2 : Int32) (μ : am_M) : Option (Int32 × am_M) := f_X2_hear_0 N a1 a2 μ
set_option maxHeartbeats 4000000 in
set_option maxRecDepth 100000 in
theorem p_X2_hear_0 (G : am_G) (l : Launch) (d : Nat) (hd0 : 1 ≤ d) (N : Nat) (a1 : Int32) (a2 : Int32) (μ : am_M) : sm_P G l am_ci d me_X2_hear 0 [(0, .ref (am_ad G 6 0)), (1, .int a1), (2, .int a2)] [] μ (f_X2_hear_0 N a1 a2 μ) := by
  unfold f_X2_hear_0
  refine sm_iload_n (pc := 0) dX2_hear_0 rfl 1 rfl ?_
  refine sm_iconst (pc := 1) dX2_hear_1 (v := 0) (by decide) ?_
  refine sm_iconst (pc := 2) dX2_hear_2 (v := 4) (by decide) ?_
  refine sm_callNi (pc := 3) (As := [.int a1, .int (0 : Int32), .int (4 : Int32)]) (rest := []) dX2_hear_3 (c_X9_isWithin G l N a1 (0 : Int32) (4 : Int32) μ) (by omega) wl_X2_57 st_X9_isWithin rfl rfl (Nat.le_of_ble_eq_true rfl) (fun y2 μ1 => ?_)
  refine sm_if_ne (pc := 6) (tgt := 11) dX2_hear_6 (by decide) ?_ ?_
  · refine sm_aload_n (pc := 11) dX2_hear_11 rfl 0 rfl ?_
    refine sm_getr (pc := 12) dX2_hear_12 fi_X2_15 ?_
    refine sm_iload_n (pc := 15) dX2_hear_15 rfl 1 rfl ?_
    refine sm_iald (pc := 16) dX2_hear_16 ly_99 (by decide) (fun j3 hj3 => ?_)
    refine sm_nmI (fun y4 => ?_)
    refine sm_istore_n (pc := 17) (lv' := [(3, .int y4), (0, .ref (am_ad G 6 0)), (1, .int a1), (2, .int a2)]) dX2_hear_17 rfl (by decide) rfl ?_
    refine sm_aload_n (pc := 18) dX2_hear_18 rfl 1 rfl ?_
    refine sm_getr (pc := 19) dX2_hear_19 fi_X2_15 ?_
    refine sm_iload_n (pc := 22) dX2_hear_22 rfl 2 rfl ?_
    refine sm_iload_n (pc := 23) dX2_hear_23 rfl 3 rfl ?_
    refine sm_iast (pc := 24) dX2_hear_24 ly_99 (by decide) (fun j5 hj5 => ?_)
    refine sm_nmM (fun μ6 => ?_)
    refine sm_iload_n (pc := 25) dX2_hear_25 rfl 0 rfl ?_
    exact sm_iret (pc := 26) dX2_hear_26 rfl
  · refine sm_iconst (pc := 9) dX2_hear_9 (v := -1) (by decide) ?_
    exact sm_iret (pc := 10) dX2_hear_10 rfl
theorem c_X2_hear (G : am_G) (l : Launch) (N : Nat) (a1 : Int32) (a2 : Int32) (μ : am_M) : ct_P G l am_ci 1 me_X2_hear [.ref (am_ad G 6 0), .int a1, .int a2] μ (f_X2_hear N a1 a2 μ) := ct_of (by decide +kernel) (Nat.le_of_ble_eq_true rfl) rfl (p_X2_hear_0 G l 1 (Nat.le_refl _) N a1 a2 μ)

def f_X2_faultOf_26 (N : Nat) (r_26 : Int32 → Int32 → Int32 → Int32 → Int32 → am_M → Option (Int32 × am_M)) (x1 : Int32) (x2 : Int32) (x3 : Int32) (x4 : Int32) (x5 : Int32) (μ : am_M) : Option (Int32 × am_M) :=
if (μ.1 1 0 1) ≤ x5 then (am_bd (f_X7_isPayable N x3 x4 μ) (fun y4 μ3 => if y4 = 0 then (some ((10 : Int32), μ3)) else (if (μ3.1 5 0 9) ≤ x2 then (some ((0 : Int32), μ3)) else (some ((20 : Int32), μ3))))) else (am_gd x1 5 (fun j5 => am_bd (f_X5_digitOf N (μ.1 99 0 j5) x5 μ) (fun y7 μ6 => am_bd (f_X7_worthOfFirst N x5 y7 μ6) (fun y9 μ8 => am_nm (x2 + y9) (fun y10 => am_bd (f_X7_coinOf N x5 μ8) (fun y12 μ11 => am_nm (x3 + (y7 * y12)) (fun y13 => am_bd (f_X7_pointsOf N x5 μ11) (fun y15 μ14 => am_nm (x4 + (y7 * y15)) (fun y16 => r_26 x1 y10 y13 y16 (x5 + (1 : Int32)) μ14)))))))))
def f_X2_faultOf_26_lp (N : Nat) : Nat → Int32 → Int32 → Int32 → Int32 → Int32 → am_M → Option (Int32 × am_M)
  | 0, _, _, _, _, _, _ => none
  | n + 1, x1, x2, x3, x4, x5, μ => f_X2_faultOf_26 N (f_X2_faultOf_26_lp N n) x1 x2 x3 x4 x5 μ
def f_X2_faultOf_0 (N : Nat) (a1 : Int32) (μ : am_M) : Option (Int32 × am_M) :=
am_bd (f_X7_weigh N a1 μ) (fun _ μ1 => am_bd (f_X7_choose N a1 μ1) (fun _ μ2 => f_X2_faultOf_26_lp N N a1 (0 : Int32) (0 : Int32) (0 : Int32) (0 : Int32) μ2))
def f_X2_faultOf (N : Nat) (a1 : Int32) (μ : am_M) : Option (Int32 × am_M) := f_X2_faultOf_0 N a1 μ
set_option maxHeartbeats 4000000 in
set_option maxRecDepth 100000 in
theorem p_X2_faultOf_26 (G : am_G) (l : Launch) (d : Nat) (hd0 : 104 ≤ d) (N : Nat) (r_26 : Int32 → Int32 → Int32 → Int32 → Int32 → am_M → Option (Int32 × am_M)) (H_26 : ∀ (x1 : Int32) (x2 : Int32) (x3 : Int32) (x4 : Int32) (x5 : Int32) (μ : am_M), sm_P G l am_ci d me_X2_faultOf 26 [(0, .ref (am_ad G 6 0)), (1, .int x1), (2, .int x2), (3, .int x3), (4, .int x4), (5, .int x5)] [] μ (r_26 x1 x2 x3 x4 x5 μ)) (x1 : Int32) (x2 : Int32) (x3 : Int32) (x4 : Int32) (x5 : Int32) (μ : am_M) : sm_P G l am_ci d me_X2_faultOf 26 [(0, .ref (am_ad G 6 0)), (1, .int x1), (2, .int x2), (3, .int x3), (4, .int x4), (5, .int x5)] [] μ (f_X2_faultOf_26 N r_26 x1 x2 x3 x4 x5 μ) := by
  unfold f_X2_faultOf_26
  refine sm_iload (pc := 26) dX2_faultOf_26 5 rfl ?_
  refine sm_aload_n (pc := 28) dX2_faultOf_28 rfl 0 rfl ?_
  refine sm_getr (pc := 29) dX2_faultOf_29 fi_X2_21 ?_
  refine sm_geti (pc := 32) dX2_faultOf_32 fi_X2_29 ?_
  refine sm_icmp_ge (pc := 35) (tgt := 107) dX2_faultOf_35 (by decide) ?_ ?_
  · refine sm_aload_n (pc := 107) dX2_faultOf_107 rfl 0 rfl ?_
    refine sm_getr (pc := 108) dX2_faultOf_108 fi_X2_25 ?_
    refine sm_iload_n (pc := 111) dX2_faultOf_111 rfl 3 rfl ?_
    refine sm_iload (pc := 112) dX2_faultOf_112 4 rfl ?_
    refine sm_callVi (pc := 114) (As := [.int x3, .int x4]) (rest := []) dX2_faultOf_114 (c_X7_isPayable G l N x3 x4 μ) (by omega) wl_X2_123 vm_X7_isPayable rfl rfl (Nat.le_of_ble_eq_true rfl) (fun y4 μ3 => ?_)
    refine sm_if_ne (pc := 117) (tgt := 123) dX2_faultOf_117 (by decide) ?_ ?_
    · refine sm_iload_n (pc := 123) dX2_faultOf_123 rfl 2 rfl ?_
      refine sm_aload_n (pc := 124) dX2_faultOf_124 rfl 0 rfl ?_
      refine sm_getr (pc := 125) dX2_faultOf_125 fi_X2_25 ?_
      refine sm_geti (pc := 128) dX2_faultOf_128 fi_X2_127 ?_
      refine sm_icmp_ge (pc := 131) (tgt := 139) dX2_faultOf_131 (by decide) ?_ ?_
      · refine sm_iconst (pc := 139) dX2_faultOf_139 (v := 0) (by decide) ?_
        exact sm_iret (pc := 140) dX2_faultOf_140 rfl
      · refine sm_bipush (pc := 134) dX2_faultOf_134 (v := 20) (by decide) ?_
        refine sm_goto (pc := 136) (tgt := 140) dX2_faultOf_136 (by decide) ?_
        exact sm_iret (pc := 140) dX2_faultOf_140 rfl
    · refine sm_bipush (pc := 120) dX2_faultOf_120 (v := 10) (by decide) ?_
      exact sm_iret (pc := 122) dX2_faultOf_122 rfl
  · refine sm_aload_n (pc := 38) dX2_faultOf_38 rfl 0 rfl ?_
    refine sm_getr (pc := 39) dX2_faultOf_39 fi_X2_21 ?_
    refine sm_aload_n (pc := 42) dX2_faultOf_42 rfl 0 rfl ?_
    refine sm_getr (pc := 43) dX2_faultOf_43 fi_X2_15 ?_
    refine sm_iload_n (pc := 46) dX2_faultOf_46 rfl 1 rfl ?_
    refine sm_iald (pc := 47) dX2_faultOf_47 ly_99 (by decide) (fun j5 hj5 => ?_)
    refine sm_iload (pc := 48) dX2_faultOf_48 5 rfl ?_
    refine sm_callVi (pc := 50) (As := [.int (μ.1 99 0 j5), .int x5]) (rest := []) dX2_faultOf_50 (c_X5_digitOf G l N (μ.1 99 0 j5) x5 μ) (by omega) wl_X2_54 vm_X5_digitOf rfl rfl (Nat.le_of_ble_eq_true rfl) (fun y7 μ6 => ?_)
    refine sm_istore (pc := 53) (lv' := [(6, .int y7), (0, .ref (am_ad G 6 0)), (1, .int x1), (2, .int x2), (3, .int x3), (4, .int x4), (5, .int x5)]) dX2_faultOf_53 (by decide) rfl ?_
    refine sm_iload_n (pc := 55) dX2_faultOf_55 rfl 3 rfl ?_
    refine sm_aload_n (pc := 56) dX2_faultOf_56 rfl 1 rfl ?_
    refine sm_getr (pc := 57) dX2_faultOf_57 fi_X2_25 ?_
    refine sm_iload (pc := 60) dX2_faultOf_60 6 rfl ?_
    refine sm_iload (pc := 62) dX2_faultOf_62 0 rfl ?_
    refine sm_callVi (pc := 64) (As := [.int x5, .int y7]) (rest := [.int x2]) dX2_faultOf_64 (c_X7_worthOfFirst G l N x5 y7 μ6) (by omega) wl_X2_120 vm_X7_worthOfFirst rfl rfl (Nat.le_of_ble_eq_true rfl) (fun y9 μ8 => ?_)
    refine sm_iadd (pc := 67) dX2_faultOf_67 ?_
    refine sm_nmI (fun y10 => ?_)
    refine sm_istore_n (pc := 68) (lv' := [(2, .int y10), (6, .int y7), (0, .ref (am_ad G 6 0)), (1, .int x1), (3, .int x3), (4, .int x4), (5, .int x5)]) dX2_faultOf_68 rfl (by decide) rfl ?_
    refine sm_iload_n (pc := 69) dX2_faultOf_69 rfl 4 rfl ?_
    refine sm_iload (pc := 70) dX2_faultOf_70 1 rfl ?_
    refine sm_aload_n (pc := 72) dX2_faultOf_72 rfl 2 rfl ?_
    refine sm_getr (pc := 73) dX2_faultOf_73 fi_X2_25 ?_
    refine sm_iload (pc := 76) dX2_faultOf_76 6 rfl ?_
    refine sm_callVi (pc := 78) (As := [.int x5]) (rest := [.int y7, .int x3]) dX2_faultOf_78 (c_X7_coinOf G l N x5 μ8) (by omega) wl_X2_107 vm_X7_coinOf rfl rfl (Nat.le_of_ble_eq_true rfl) (fun y12 μ11 => ?_)
    refine sm_imul (pc := 81) dX2_faultOf_81 ?_
    refine sm_iadd (pc := 82) dX2_faultOf_82 ?_
    refine sm_nmI (fun y13 => ?_)
    refine sm_istore_n (pc := 83) (lv' := [(3, .int y13), (2, .int y10), (6, .int y7), (0, .ref (am_ad G 6 0)), (1, .int x1), (4, .int x4), (5, .int x5)]) dX2_faultOf_83 rfl (by decide) rfl ?_
    refine sm_iload (pc := 84) dX2_faultOf_84 5 rfl ?_
    refine sm_iload (pc := 86) dX2_faultOf_86 2 rfl ?_
    refine sm_aload_n (pc := 88) dX2_faultOf_88 rfl 3 rfl ?_
    refine sm_getr (pc := 89) dX2_faultOf_89 fi_X2_25 ?_
    refine sm_iload (pc := 92) dX2_faultOf_92 6 rfl ?_
    refine sm_callVi (pc := 94) (As := [.int x5]) (rest := [.int y7, .int x4]) dX2_faultOf_94 (c_X7_pointsOf G l N x5 μ11) (by omega) wl_X2_99 vm_X7_pointsOf rfl rfl (Nat.le_of_ble_eq_true rfl) (fun y15 μ14 => ?_)
    refine sm_imul (pc := 97) dX2_faultOf_97 ?_
    refine sm_iadd (pc := 98) dX2_faultOf_98 ?_
    refine sm_nmI (fun y16 => ?_)
    refine sm_istore (pc := 99) (lv' := [(4, .int y16), (3, .int y13), (2, .int y10), (6, .int y7), (0, .ref (am_ad G 6 0)), (1, .int x1), (5, .int x5)]) dX2_faultOf_99 (by decide) rfl ?_
    refine sm_iinc (pc := 101) (v := (x5 + (1 : Int32))) (lv' := [(5, .int (x5 + (1 : Int32))), (4, .int y16), (3, .int y13), (2, .int y10), (6, .int y7), (0, .ref (am_ad G 6 0)), (1, .int x1)]) dX2_faultOf_101 6 rfl rfl (by decide) rfl ?_
    refine sm_goto (pc := 104) (tgt := 26) dX2_faultOf_104 (by decide) ?_
    refine sm_sub [5, 6, 3, 2, 1, 0] rfl ?_
    exact H_26 x1 y10 y13 y16 (x5 + (1 : Int32)) μ14
theorem p_X2_faultOf_26_lp (G : am_G) (l : Launch) (d : Nat) (hd0 : 104 ≤ d) (N : Nat) : ∀ (n : Nat) (x1 : Int32) (x2 : Int32) (x3 : Int32) (x4 : Int32) (x5 : Int32) (μ : am_M), sm_P G l am_ci d me_X2_faultOf 26 [(0, .ref (am_ad G 6 0)), (1, .int x1), (2, .int x2), (3, .int x3), (4, .int x4), (5, .int x5)] [] μ (f_X2_faultOf_26_lp N n x1 x2 x3 x4 x5 μ) := by
  intro n
  induction n with
  | zero => intros; exact sm_none
  | succ n ih => exact fun x1 x2 x3 x4 x5 μ => p_X2_faultOf_26 G l d hd0 N (f_X2_faultOf_26_lp N n) ih x1 x2 x3 x4 x5 μ
set_option maxHeartbeats 4000000 in
set_option maxRecDepth 100000 in
theorem p_X2_faultOf_0 (G : am_G) (l : Launch) (d : Nat) (hd0 : 104 ≤ d) (N : Nat) (a1 : Int32) (μ : am_M) : sm_P G l am_ci d me_X2_faultOf 0 [(0, .ref (am_ad G 6 0)), (1, .int a1)] [] μ (f_X2_faultOf_0 N a1 μ) := by
  unfold f_X2_faultOf_0
  refine sm_aload_n (pc := 0) dX2_faultOf_0 rfl 0 rfl ?_
  refine sm_getr (pc := 1) dX2_faultOf_1 fi_X2_25 ?_
  refine sm_iload_n (pc := 4) dX2_faultOf_4 rfl 1 rfl ?_
  refine sm_callVv (pc := 5) (As := [.int a1]) (rest := []) dX2_faultOf_5 (c_X7_weigh G l N a1 μ) (by omega) wl_X2_38 vm_X7_weigh rfl rfl (Nat.le_of_ble_eq_true rfl) (fun _ μ1 => ?_)
  refine sm_aload_n (pc := 8) dX2_faultOf_8 rfl 0 rfl ?_
  refine sm_getr (pc := 9) dX2_faultOf_9 fi_X2_25 ?_
  refine sm_iload_n (pc := 12) dX2_faultOf_12 rfl 1 rfl ?_
  refine sm_callVv (pc := 13) (As := [.int a1]) (rest := []) dX2_faultOf_13 (c_X7_choose G l N a1 μ1) (by omega) wl_X2_44 vm_X7_choose rfl rfl (Nat.le_of_ble_eq_true rfl) (fun _ μ2 => ?_)
  refine sm_iconst (pc := 16) dX2_faultOf_16 (v := 0) (by decide) ?_
  refine sm_istore_n (pc := 17) (lv' := [(2, .int (0 : Int32)), (0, .ref (am_ad G 6 0)), (1, .int a1)]) dX2_faultOf_17 rfl (by decide) rfl ?_
  refine sm_iconst (pc := 18) dX2_faultOf_18 (v := 0) (by decide) ?_
  refine sm_istore_n (pc := 19) (lv' := [(3, .int (0 : Int32)), (2, .int (0 : Int32)), (0, .ref (am_ad G 6 0)), (1, .int a1)]) dX2_faultOf_19 rfl (by decide) rfl ?_
  refine sm_iconst (pc := 20) dX2_faultOf_20 (v := 0) (by decide) ?_
  refine sm_istore (pc := 21) (lv' := [(4, .int (0 : Int32)), (3, .int (0 : Int32)), (2, .int (0 : Int32)), (0, .ref (am_ad G 6 0)), (1, .int a1)]) dX2_faultOf_21 (by decide) rfl ?_
  refine sm_iconst (pc := 23) dX2_faultOf_23 (v := 0) (by decide) ?_
  refine sm_istore (pc := 24) (lv' := [(5, .int (0 : Int32)), (4, .int (0 : Int32)), (3, .int (0 : Int32)), (2, .int (0 : Int32)), (0, .ref (am_ad G 6 0)), (1, .int a1)]) dX2_faultOf_24 (by decide) rfl ?_
  refine sm_sub [4, 5, 3, 2, 1, 0] rfl ?_
  exact p_X2_faultOf_26_lp G l d hd0 N N a1 (0 : Int32) (0 : Int32) (0 : Int32) (0 : Int32) μ2
theorem c_X2_faultOf (G : am_G) (l : Launch) (N : Nat) (a1 : Int32) (μ : am_M) : ct_P G l am_ci 104 me_X2_faultOf [.ref (am_ad G 6 0), .int a1] μ (f_X2_faultOf N a1 μ) := ct_of (by decide +kernel) (Nat.le_of_ble_eq_true rfl) rfl (p_X2_faultOf_0 G l 104 (Nat.le_refl _) N a1 μ)

def f_X2_toldOf_4 (N : Nat) (r_4 : Int32 → Int32 → Int32 → am_M → Option (Int32 × am_M)) (x1 : Int32) (x2 : Int32) (x3 : Int32) (μ : am_M) : Option (Int32 × am_M) :=
if (μ.1 1 0 2) ≤ x3 then (some (x2, μ)) else (am_bd (f_X5_at N (4 : Int32) x3 μ) (fun y2 μ1 => am_gd x3 5 (fun j3 => am_bd (f_X5_digitOf N (μ1.1 99 0 j3) x1 μ1) (fun y5 μ4 => am_nm (x2 + (y2 * y5)) (fun y6 => r_4 x1 y6 (x3 + (1 : Int32)) μ4)))))
def f_X2_toldOf_4_lp (N : Nat) : Nat → Int32 → Int32 → Int32 → am_M → Option (Int32 × am_M)
  | 0, _, _, _, _ => none
  | n + 1, x1, x2, x3, μ => f_X2_toldOf_4 N (f_X2_toldOf_4_lp N n) x1 x2 x3 μ
def f_X2_toldOf_0 (N : Nat) (a1 : Int32) (μ : am_M) : Option (Int32 × am_M) :=
f_X2_toldOf_4_lp N N a1 (0 : Int32) (0 : Int32) μ
def f_X2_toldOf (N : Nat) (a1 : Int32) (μ : am_M) : Option (Int32 × am_M) := f_X2_toldOf_0 N a1 μ
set_option maxHeartbeats 4000000 in
set_option maxRecDepth 100000 in
theorem p_X2_toldOf_4 (G : am_G) (l : Launch) (d : Nat) (hd0 : 2 ≤ d) (N : Nat) (r_4 : Int32 → Int32 → Int32 → am_M → Option (Int32 × am_M)) (H_4 : ∀ (x1 : Int32) (x2 : Int32) (x3 : Int32) (μ : am_M), sm_P G l am_ci d me_X2_toldOf 4 [(0, .ref (am_ad G 6 0)), (1, .int x1), (2, .int x2), (3, .int x3)] [] μ (r_4 x1 x2 x3 μ)) (x1 : Int32) (x2 : Int32) (x3 : Int32) (μ : am_M) : sm_P G l am_ci d me_X2_toldOf 4 [(0, .ref (am_ad G 6 0)), (1, .int x1), (2, .int x2), (3, .int x3)] [] μ (f_X2_toldOf_4 N r_4 x1 x2 x3 μ) := by
  unfold f_X2_toldOf_4
  refine sm_iload_n (pc := 4) dX2_toldOf_4 rfl 3 rfl ?_
  refine sm_aload_n (pc := 5) dX2_toldOf_5 rfl 0 rfl ?_
  refine sm_getr (pc := 6) dX2_toldOf_6 fi_X2_21 ?_
  refine sm_geti (pc := 9) dX2_toldOf_9 fi_X2_35 ?_
  refine sm_icmp_ge (pc := 12) (tgt := 48) dX2_toldOf_12 (by decide) ?_ ?_
  · refine sm_iload_n (pc := 48) dX2_toldOf_48 rfl 2 rfl ?_
    exact sm_iret (pc := 49) dX2_toldOf_49 rfl
  · refine sm_iload_n (pc := 15) dX2_toldOf_15 rfl 2 rfl ?_
    refine sm_aload_n (pc := 16) dX2_toldOf_16 rfl 0 rfl ?_
    refine sm_getr (pc := 17) dX2_toldOf_17 fi_X2_21 ?_
    refine sm_iconst (pc := 20) dX2_toldOf_20 (v := 4) (by decide) ?_
    refine sm_iload_n (pc := 21) dX2_toldOf_21 rfl 3 rfl ?_
    refine sm_callVi (pc := 22) (As := [.int (4 : Int32), .int x3]) (rest := [.int x2]) dX2_toldOf_22 (c_X5_at G l N (4 : Int32) x3 μ) (by omega) wl_X2_47 vm_X5_at rfl rfl (Nat.le_of_ble_eq_true rfl) (fun y2 μ1 => ?_)
    refine sm_aload_n (pc := 25) dX2_toldOf_25 rfl 0 rfl ?_
    refine sm_getr (pc := 26) dX2_toldOf_26 fi_X2_21 ?_
    refine sm_aload_n (pc := 29) dX2_toldOf_29 rfl 0 rfl ?_
    refine sm_getr (pc := 30) dX2_toldOf_30 fi_X2_15 ?_
    refine sm_iload_n (pc := 33) dX2_toldOf_33 rfl 3 rfl ?_
    refine sm_iald (pc := 34) dX2_toldOf_34 ly_99 (by decide) (fun j3 hj3 => ?_)
    refine sm_iload_n (pc := 35) dX2_toldOf_35 rfl 1 rfl ?_
    refine sm_callVi (pc := 36) (As := [.int (μ1.1 99 0 j3), .int x1]) (rest := [.int y2, .int x2]) dX2_toldOf_36 (c_X5_digitOf G l N (μ1.1 99 0 j3) x1 μ1) (by omega) wl_X2_54 vm_X5_digitOf rfl rfl (Nat.le_of_ble_eq_true rfl) (fun y5 μ4 => ?_)
    refine sm_imul (pc := 39) dX2_toldOf_39 ?_
    refine sm_iadd (pc := 40) dX2_toldOf_40 ?_
    refine sm_nmI (fun y6 => ?_)
    refine sm_istore_n (pc := 41) (lv' := [(2, .int y6), (0, .ref (am_ad G 6 0)), (1, .int x1), (3, .int x3)]) dX2_toldOf_41 rfl (by decide) rfl ?_
    refine sm_iinc (pc := 42) (v := (x3 + (1 : Int32))) (lv' := [(3, .int (x3 + (1 : Int32))), (2, .int y6), (0, .ref (am_ad G 6 0)), (1, .int x1)]) dX2_toldOf_42 3 rfl rfl (by decide) rfl ?_
    refine sm_goto (pc := 45) (tgt := 4) dX2_toldOf_45 (by decide) ?_
    refine sm_sub [2, 3, 1, 0] rfl ?_
    exact H_4 x1 y6 (x3 + (1 : Int32)) μ4
theorem p_X2_toldOf_4_lp (G : am_G) (l : Launch) (d : Nat) (hd0 : 2 ≤ d) (N : Nat) : ∀ (n : Nat) (x1 : Int32) (x2 : Int32) (x3 : Int32) (μ : am_M), sm_P G l am_ci d me_X2_toldOf 4 [(0, .ref (am_ad G 6 0)), (1, .int x1), (2, .int x2), (3, .int x3)] [] μ (f_X2_toldOf_4_lp N n x1 x2 x3 μ) := by
  intro n
  induction n with
  | zero => intros; exact sm_none
  | succ n ih => exact fun x1 x2 x3 μ => p_X2_toldOf_4 G l d hd0 N (f_X2_toldOf_4_lp N n) ih x1 x2 x3 μ
set_option maxHeartbeats 4000000 in
set_option maxRecDepth 100000 in
theorem p_X2_toldOf_0 (G : am_G) (l : Launch) (d : Nat) (hd0 : 2 ≤ d) (N : Nat) (a1 : Int32) (μ : am_M) : sm_P G l am_ci d me_X2_toldOf 0 [(0, .ref (am_ad G 6 0)), (1, .int a1)] [] μ (f_X2_toldOf_0 N a1 μ) := by
  unfold f_X2_toldOf_0
  refine sm_iconst (pc := 0) dX2_toldOf_0 (v := 0) (by decide) ?_
  refine sm_istore_n (pc := 1) (lv' := [(2, .int (0 : Int32)), (0, .ref (am_ad G 6 0)), (1, .int a1)]) dX2_toldOf_1 rfl (by decide) rfl ?_
  refine sm_iconst (pc := 2) dX2_toldOf_2 (v := 0) (by decide) ?_
  refine sm_istore_n (pc := 3) (lv' := [(3, .int (0 : Int32)), (2, .int (0 : Int32)), (0, .ref (am_ad G 6 0)), (1, .int a1)]) dX2_toldOf_3 rfl (by decide) rfl ?_
  refine sm_sub [2, 3, 1, 0] rfl ?_
  exact p_X2_toldOf_4_lp G l d hd0 N N a1 (0 : Int32) (0 : Int32) μ
theorem c_X2_toldOf (G : am_G) (l : Launch) (N : Nat) (a1 : Int32) (μ : am_M) : ct_P G l am_ci 2 me_X2_toldOf [.ref (am_ad G 6 0), .int a1] μ (f_X2_toldOf N a1 μ) := ct_of (by decide +kernel) (Nat.le_of_ble_eq_true rfl) rfl (p_X2_toldOf_0 G l 2 (Nat.le_refl _) N a1 μ)

def f_X2_judged_42 (N : Nat) (r_42 : Int32 → am_M → Option (Int32 × am_M)) (x1 : Int32) (μ : am_M) : Option (Int32 × am_M) :=
if (μ.1 1 0 1) ≤ x1 then (some ((-2 : Int32), μ)) else (am_bd (f_X2_toldOf N x1 μ) (fun y3 μ2 => am_bd (f_X5_at N (0 : Int32) x1 μ2) (fun y5 μ4 => if y3 ≤ y5 then (r_42 (x1 + (1 : Int32)) μ4) else (some (((30 : Int32) + x1), μ4)))))
def f_X2_judged_42_lp (N : Nat) : Nat → Int32 → am_M → Option (Int32 × am_M)
  | 0, _, _ => none
  | n + 1, x1, μ => f_X2_judged_42 N (f_X2_judged_42_lp N n) x1 μ
def f_X2_judged_9 (N : Nat) (r_9 : Int32 → am_M → Option (Int32 × am_M)) (x1 : Int32) (μ : am_M) : Option (Int32 × am_M) :=
if (μ.1 1 0 2) ≤ x1 then (f_X2_judged_42_lp N N (0 : Int32) μ) else (am_bd (f_X2_faultOf N x1 μ) (fun y7 μ6 => if y7 = 0 then (r_9 (x1 + (1 : Int32)) μ6) else (some ((y7 + x1), μ6))))
def f_X2_judged_9_lp (N : Nat) : Nat → Int32 → am_M → Option (Int32 × am_M)
  | 0, _, _ => none
  | n + 1, x1, μ => f_X2_judged_9 N (f_X2_judged_9_lp N n) x1 μ
def f_X2_judged_0 (N : Nat) (μ : am_M) : Option (Int32 × am_M) :=
am_bd (f_X7_recall N μ) (fun _ μ1 => f_X2_judged_9_lp N N (0 : Int32) μ1)
def f_X2_judged (N : Nat) (μ : am_M) : Option (Int32 × am_M) := f_X2_judged_0 N μ
set_option maxHeartbeats 4000000 in
set_option maxRecDepth 100000 in
theorem p_X2_judged_42 (G : am_G) (l : Launch) (d : Nat) (hd0 : 105 ≤ d) (N : Nat) (r_42 : Int32 → am_M → Option (Int32 × am_M)) (H_42 : ∀ (x1 : Int32) (μ : am_M), sm_P G l am_ci d me_X2_judged 42 [(0, .ref (am_ad G 6 0)), (1, .int x1)] [] μ (r_42 x1 μ)) (x1 : Int32) (μ : am_M) : sm_P G l am_ci d me_X2_judged 42 [(0, .ref (am_ad G 6 0)), (1, .int x1)] [] μ (f_X2_judged_42 N r_42 x1 μ) := by
  unfold f_X2_judged_42
  refine sm_iload_n (pc := 42) dX2_judged_42 rfl 1 rfl ?_
  refine sm_aload_n (pc := 43) dX2_judged_43 rfl 0 rfl ?_
  refine sm_getr (pc := 44) dX2_judged_44 fi_X2_21 ?_
  refine sm_geti (pc := 47) dX2_judged_47 fi_X2_29 ?_
  refine sm_icmp_ge (pc := 50) (tgt := 81) dX2_judged_50 (by decide) ?_ ?_
  · refine sm_bipush (pc := 81) dX2_judged_81 (v := -2) (by decide) ?_
    exact sm_iret (pc := 83) dX2_judged_83 rfl
  · refine sm_aload_n (pc := 53) dX2_judged_53 rfl 0 rfl ?_
    refine sm_iload_n (pc := 54) dX2_judged_54 rfl 1 rfl ?_
    refine sm_callVi (pc := 55) (As := [.int x1]) (rest := []) dX2_judged_55 (c_X2_toldOf G l N x1 μ) (by omega) wl_X2_117 vm_X2_toldOf rfl rfl (Nat.le_of_ble_eq_true rfl) (fun y3 μ2 => ?_)
    refine sm_aload_n (pc := 58) dX2_judged_58 rfl 0 rfl ?_
    refine sm_getr (pc := 59) dX2_judged_59 fi_X2_21 ?_
    refine sm_iconst (pc := 62) dX2_judged_62 (v := 0) (by decide) ?_
    refine sm_iload_n (pc := 63) dX2_judged_63 rfl 1 rfl ?_
    refine sm_callVi (pc := 64) (As := [.int (0 : Int32), .int x1]) (rest := [.int y3]) dX2_judged_64 (c_X5_at G l N (0 : Int32) x1 μ2) (by omega) wl_X2_47 vm_X5_at rfl rfl (Nat.le_of_ble_eq_true rfl) (fun y5 μ4 => ?_)
    refine sm_icmp_le (pc := 67) (tgt := 75) dX2_judged_67 (by decide) ?_ ?_
    · refine sm_iinc (pc := 75) (v := (x1 + (1 : Int32))) (lv' := [(1, .int (x1 + (1 : Int32))), (0, .ref (am_ad G 6 0))]) dX2_judged_75 1 rfl rfl (by decide) rfl ?_
      refine sm_goto (pc := 78) (tgt := 42) dX2_judged_78 (by decide) ?_
      refine sm_sub [1, 0] rfl ?_
      exact H_42 (x1 + (1 : Int32)) μ4
    · refine sm_bipush (pc := 70) dX2_judged_70 (v := 30) (by decide) ?_
      refine sm_iload_n (pc := 72) dX2_judged_72 rfl 1 rfl ?_
      refine sm_iadd (pc := 73) dX2_judged_73 ?_
      exact sm_iret (pc := 74) dX2_judged_74 rfl
theorem p_X2_judged_42_lp (G : am_G) (l : Launch) (d : Nat) (hd0 : 105 ≤ d) (N : Nat) : ∀ (n : Nat) (x1 : Int32) (μ : am_M), sm_P G l am_ci d me_X2_judged 42 [(0, .ref (am_ad G 6 0)), (1, .int x1)] [] μ (f_X2_judged_42_lp N n x1 μ) := by
  intro n
  induction n with
  | zero => intros; exact sm_none
  | succ n ih => exact fun x1 μ => p_X2_judged_42 G l d hd0 N (f_X2_judged_42_lp N n) ih x1 μ
set_option maxHeartbeats 4000000 in
set_option maxRecDepth 100000 in
theorem p_X2_judged_9 (G : am_G) (l : Launch) (d : Nat) (hd0 : 105 ≤ d) (N : Nat) (r_9 : Int32 → am_M → Option (Int32 × am_M)) (H_9 : ∀ (x1 : Int32) (μ : am_M), sm_P G l am_ci d me_X2_judged 9 [(0, .ref (am_ad G 6 0)), (1, .int x1)] [] μ (r_9 x1 μ)) (x1 : Int32) (μ : am_M) : sm_P G l am_ci d me_X2_judged 9 [(0, .ref (am_ad G 6 0)), (1, .int x1)] [] μ (f_X2_judged_9 N r_9 x1 μ) := by
  unfold f_X2_judged_9
  refine sm_iload_n (pc := 9) dX2_judged_9 rfl 1 rfl ?_
  refine sm_aload_n (pc := 10) dX2_judged_10 rfl 0 rfl ?_
  refine sm_getr (pc := 11) dX2_judged_11 fi_X2_21 ?_
  refine sm_geti (pc := 14) dX2_judged_14 fi_X2_35 ?_
  refine sm_icmp_ge (pc := 17) (tgt := 40) dX2_judged_17 (by decide) ?_ ?_
  · refine sm_iconst (pc := 40) dX2_judged_40 (v := 0) (by decide) ?_
    refine sm_istore_n (pc := 41) (lv' := [(1, .int (0 : Int32)), (0, .ref (am_ad G 6 0))]) dX2_judged_41 rfl (by decide) rfl ?_
    refine sm_sub [1, 0] rfl ?_
    exact p_X2_judged_42_lp G l d hd0 N N (0 : Int32) μ
  · refine sm_aload_n (pc := 20) dX2_judged_20 rfl 0 rfl ?_
    refine sm_iload_n (pc := 21) dX2_judged_21 rfl 1 rfl ?_
    refine sm_callVi (pc := 22) (As := [.int x1]) (rest := []) dX2_judged_22 (c_X2_faultOf G l N x1 μ) (by omega) wl_X2_114 vm_X2_faultOf rfl rfl (Nat.le_of_ble_eq_true rfl) (fun y7 μ6 => ?_)
    refine sm_istore_n (pc := 25) (lv' := [(2, .int y7), (0, .ref (am_ad G 6 0)), (1, .int x1)]) dX2_judged_25 rfl (by decide) rfl ?_
    refine sm_iload_n (pc := 26) dX2_judged_26 rfl 0 rfl ?_
    refine sm_if_eq (pc := 27) (tgt := 34) dX2_judged_27 (by decide) ?_ ?_
    · refine sm_iinc (pc := 34) (v := (x1 + (1 : Int32))) (lv' := [(1, .int (x1 + (1 : Int32))), (2, .int y7), (0, .ref (am_ad G 6 0))]) dX2_judged_34 2 rfl rfl (by decide) rfl ?_
      refine sm_goto (pc := 37) (tgt := 9) dX2_judged_37 (by decide) ?_
      refine sm_sub [2, 0] rfl ?_
      exact H_9 (x1 + (1 : Int32)) μ6
    · refine sm_iload_n (pc := 30) dX2_judged_30 rfl 0 rfl ?_
      refine sm_iload_n (pc := 31) dX2_judged_31 rfl 2 rfl ?_
      refine sm_iadd (pc := 32) dX2_judged_32 ?_
      exact sm_iret (pc := 33) dX2_judged_33 rfl
theorem p_X2_judged_9_lp (G : am_G) (l : Launch) (d : Nat) (hd0 : 105 ≤ d) (N : Nat) : ∀ (n : Nat) (x1 : Int32) (μ : am_M), sm_P G l am_ci d me_X2_judged 9 [(0, .ref (am_ad G 6 0)), (1, .int x1)] [] μ (f_X2_judged_9_lp N n x1 μ) := by
  intro n
  induction n with
  | zero => intros; exact sm_none
  | succ n ih => exact fun x1 μ => p_X2_judged_9 G l d hd0 N (f_X2_judged_9_lp N n) ih x1 μ
set_option maxHeartbeats 4000000 in
set_option maxRecDepth 100000 in
theorem p_X2_judged_0 (G : am_G) (l : Launch) (d : Nat) (hd0 : 105 ≤ d) (N : Nat) (μ : am_M) : sm_P G l am_ci d me_X2_judged 0 [(0, .ref (am_ad G 6 0))] [] μ (f_X2_judged_0 N μ) := by
  unfold f_X2_judged_0
  refine sm_aload_n (pc := 0) dX2_judged_0 rfl 0 rfl ?_
  refine sm_getr (pc := 1) dX2_judged_1 fi_X2_25 ?_
  refine sm_callVv (pc := 4) (As := []) (rest := []) dX2_judged_4 (c_X7_recall G l N μ) (by omega) wl_X2_73 vm_X7_recall rfl rfl (Nat.le_of_ble_eq_true rfl) (fun _ μ1 => ?_)
  refine sm_iconst (pc := 7) dX2_judged_7 (v := 0) (by decide) ?_
  refine sm_istore_n (pc := 8) (lv' := [(1, .int (0 : Int32)), (0, .ref (am_ad G 6 0))]) dX2_judged_8 rfl (by decide) rfl ?_
  refine sm_sub [1, 0] rfl ?_
  exact p_X2_judged_9_lp G l d hd0 N N (0 : Int32) μ1
theorem c_X2_judged (G : am_G) (l : Launch) (N : Nat) (μ : am_M) : ct_P G l am_ci 105 me_X2_judged [.ref (am_ad G 6 0)] μ (f_X2_judged N μ) := ct_of (by decide +kernel) (Nat.le_of_ble_eq_true rfl) rfl (p_X2_judged_0 G l 105 (Nat.le_refl _) N μ)

def f_X2_servesAll_57 (N : Nat) (r_57 : Int32 → am_M → Option (Int32 × am_M)) (x2 : Int32) (μ : am_M) : Option (Int32 × am_M) :=
if (μ.1 1 0 1) ≤ x2 then (am_z (1 : Int32) μ) else (am_bd (f_X2_overOf N x2 μ) (fun y4 μ3 => if 0 ≤ y4 then (r_57 (x2 + (1 : Int32)) μ3) else (am_z (0 : Int32) μ3)))
def f_X2_servesAll_57_lp (N : Nat) : Nat → Int32 → am_M → Option (Int32 × am_M)
  | 0, _, _ => none
  | n + 1, x2, μ => f_X2_servesAll_57 N (f_X2_servesAll_57_lp N n) x2 μ
def f_X2_servesAll_45 (N : Nat) (r_9 : Int32 → Int32 → am_M → Option (Int32 × am_M)) (x1 : Int32) (x2 : Int32) (μ : am_M) : Option (Int32 × am_M) :=
r_9 x1 (x2 + (1 : Int32)) μ
def f_X2_servesAll_9 (N : Nat) (r_9 : Int32 → Int32 → am_M → Option (Int32 × am_M)) (x1 : Int32) (x2 : Int32) (μ : am_M) : Option (Int32 × am_M) :=
if (μ.1 1 0 1) ≤ x2 then (am_bd (f_X2_wantAll N μ) (fun _ μ2 => f_X2_servesAll_57_lp N N (0 : Int32) μ2)) else (if ((x1 >>> (x2 &&& 31)) &&& (1 : Int32)) = 0 then (am_bd (f_X7_coinOf N x2 μ) (fun y6 μ5 => am_bd (f_X7_think N x2 y6 (0 : Int32) μ5) (fun _ μ7 => f_X2_servesAll_45 N r_9 x1 x2 μ7))) else (f_X2_servesAll_45 N r_9 x1 x2 μ))
def f_X2_servesAll_9_lp (N : Nat) : Nat → Int32 → Int32 → am_M → Option (Int32 × am_M)
  | 0, _, _, _ => none
  | n + 1, x1, x2, μ => f_X2_servesAll_9 N (f_X2_servesAll_9_lp N n) x1 x2 μ
def f_X2_servesAll_0 (N : Nat) (a1 : Int32) (μ : am_M) : Option (Int32 × am_M) :=
am_bd (f_X7_recall N μ) (fun _ μ1 => f_X2_servesAll_9_lp N N a1 (0 : Int32) μ1)
def f_X2_servesAll (N : Nat) (a1 : Int32) (μ : am_M) : Option (Int32 × am_M) := f_X2_servesAll_0 N a1 μ
set_option maxHeartbeats 4000000 in
set_option maxRecDepth 100000 in
theorem p_X2_servesAll_57 (G : am_G) (l : Launch) (d : Nat) (hd0 : 105 ≤ d) (N : Nat) (r_57 : Int32 → am_M → Option (Int32 × am_M)) (H_57 : ∀ (x2 : Int32) (μ : am_M), sm_P G l am_ci d me_X2_servesAll 57 [(0, .ref (am_ad G 6 0)), (2, .int x2)] [] μ (r_57 x2 μ)) (x2 : Int32) (μ : am_M) : sm_P G l am_ci d me_X2_servesAll 57 [(0, .ref (am_ad G 6 0)), (2, .int x2)] [] μ (f_X2_servesAll_57 N r_57 x2 μ) := by
  unfold f_X2_servesAll_57
  refine sm_iload_n (pc := 57) dX2_servesAll_57 rfl 1 rfl ?_
  refine sm_aload_n (pc := 58) dX2_servesAll_58 rfl 0 rfl ?_
  refine sm_getr (pc := 59) dX2_servesAll_59 fi_X2_21 ?_
  refine sm_geti (pc := 62) dX2_servesAll_62 fi_X2_29 ?_
  refine sm_icmp_ge (pc := 65) (tgt := 84) dX2_servesAll_65 (by decide) ?_ ?_
  · refine sm_iconst (pc := 84) dX2_servesAll_84 (v := 1) (by decide) ?_
    exact sm_zret (pc := 85) dX2_servesAll_85 rfl
  · refine sm_aload_n (pc := 68) dX2_servesAll_68 rfl 0 rfl ?_
    refine sm_iload_n (pc := 69) dX2_servesAll_69 rfl 1 rfl ?_
    refine sm_callVi (pc := 70) (As := [.int x2]) (rest := []) dX2_servesAll_70 (c_X2_overOf G l N x2 μ) (by omega) wl_X2_65 vm_X2_overOf rfl rfl (Nat.le_of_ble_eq_true rfl) (fun y4 μ3 => ?_)
    refine sm_if_ge (pc := 73) (tgt := 78) dX2_servesAll_73 (by decide) ?_ ?_
    · refine sm_iinc (pc := 78) (v := (x2 + (1 : Int32))) (lv' := [(2, .int (x2 + (1 : Int32))), (0, .ref (am_ad G 6 0))]) dX2_servesAll_78 1 rfl rfl (by decide) rfl ?_
      refine sm_goto (pc := 81) (tgt := 57) dX2_servesAll_81 (by decide) ?_
      refine sm_sub [1, 0] rfl ?_
      exact H_57 (x2 + (1 : Int32)) μ3
    · refine sm_iconst (pc := 76) dX2_servesAll_76 (v := 0) (by decide) ?_
      exact sm_zret (pc := 77) dX2_servesAll_77 rfl
theorem p_X2_servesAll_57_lp (G : am_G) (l : Launch) (d : Nat) (hd0 : 105 ≤ d) (N : Nat) : ∀ (n : Nat) (x2 : Int32) (μ : am_M), sm_P G l am_ci d me_X2_servesAll 57 [(0, .ref (am_ad G 6 0)), (2, .int x2)] [] μ (f_X2_servesAll_57_lp N n x2 μ) := by
  intro n
  induction n with
  | zero => intros; exact sm_none
  | succ n ih => exact fun x2 μ => p_X2_servesAll_57 G l d hd0 N (f_X2_servesAll_57_lp N n) ih x2 μ
set_option maxHeartbeats 4000000 in
set_option maxRecDepth 100000 in
theorem p_X2_servesAll_45 (G : am_G) (l : Launch) (d : Nat) (hd0 : 105 ≤ d) (N : Nat) (r_9 : Int32 → Int32 → am_M → Option (Int32 × am_M)) (H_9 : ∀ (x1 : Int32) (x2 : Int32) (μ : am_M), sm_P G l am_ci d me_X2_servesAll 9 [(0, .ref (am_ad G 6 0)), (1, .int x1), (2, .int x2)] [] μ (r_9 x1 x2 μ)) (x1 : Int32) (x2 : Int32) (μ : am_M) : sm_P G l am_ci d me_X2_servesAll 45 [(0, .ref (am_ad G 6 0)), (1, .int x1), (2, .int x2)] [] μ (f_X2_servesAll_45 N r_9 x1 x2 μ) := by
  unfold f_X2_servesAll_45
  refine sm_iinc (pc := 45) (v := (x2 + (1 : Int32))) (lv' := [(2, .int (x2 + (1 : Int32))), (0, .ref (am_ad G 6 0)), (1, .int x1)]) dX2_servesAll_45 2 rfl rfl (by decide) rfl ?_
  refine sm_goto (pc := 48) (tgt := 9) dX2_servesAll_48 (by decide) ?_
  refine sm_sub [1, 2, 0] rfl ?_
  exact H_9 x1 (x2 + (1 : Int32)) μ
set_option maxHeartbeats 4000000 in
set_option maxRecDepth 100000 in
theorem p_X2_servesAll_9 (G : am_G) (l : Launch) (d : Nat) (hd0 : 105 ≤ d) (N : Nat) (r_9 : Int32 → Int32 → am_M → Option (Int32 × am_M)) (H_9 : ∀ (x1 : Int32) (x2 : Int32) (μ : am_M), sm_P G l am_ci d me_X2_servesAll 9 [(0, .ref (am_ad G 6 0)), (1, .int x1), (2, .int x2)] [] μ (r_9 x1 x2 μ)) (x1 : Int32) (x2 : Int32) (μ : am_M) : sm_P G l am_ci d me_X2_servesAll 9 [(0, .ref (am_ad G 6 0)), (1, .int x1), (2, .int x2)] [] μ (f_X2_servesAll_9 N r_9 x1 x2 μ) := by
  unfold f_X2_servesAll_9
  refine sm_iload_n (pc := 9) dX2_servesAll_9 rfl 2 rfl ?_
  refine sm_aload_n (pc := 10) dX2_servesAll_10 rfl 0 rfl ?_
  refine sm_getr (pc := 11) dX2_servesAll_11 fi_X2_21 ?_
  refine sm_geti (pc := 14) dX2_servesAll_14 fi_X2_29 ?_
  refine sm_icmp_ge (pc := 17) (tgt := 51) dX2_servesAll_17 (by decide) ?_ ?_
  · refine sm_aload_n (pc := 51) dX2_servesAll_51 rfl 0 rfl ?_
    refine sm_callVv (pc := 52) (As := []) (rest := []) dX2_servesAll_52 (c_X2_wantAll G l N μ) (by omega) wl_X2_76 vm_X2_wantAll rfl rfl (Nat.le_of_ble_eq_true rfl) (fun _ μ2 => ?_)
    refine sm_iconst (pc := 55) dX2_servesAll_55 (v := 0) (by decide) ?_
    refine sm_istore_n (pc := 56) (lv' := [(2, .int (0 : Int32)), (0, .ref (am_ad G 6 0)), (1, .int x1)]) dX2_servesAll_56 rfl (by decide) rfl ?_
    refine sm_sub [1, 0] rfl ?_
    exact p_X2_servesAll_57_lp G l d hd0 N N (0 : Int32) μ2
  · refine sm_iload_n (pc := 20) dX2_servesAll_20 rfl 1 rfl ?_
    refine sm_iload_n (pc := 21) dX2_servesAll_21 rfl 2 rfl ?_
    refine sm_ishr (pc := 22) dX2_servesAll_22 ?_
    refine sm_iconst (pc := 23) dX2_servesAll_23 (v := 1) (by decide) ?_
    refine sm_iand (pc := 24) dX2_servesAll_24 ?_
    refine sm_if_ne (pc := 25) (tgt := 45) dX2_servesAll_25 (by decide) ?_ ?_
    · exact p_X2_servesAll_45 G l d hd0 N r_9 H_9 x1 x2 μ
    · refine sm_aload_n (pc := 28) dX2_servesAll_28 rfl 0 rfl ?_
      refine sm_getr (pc := 29) dX2_servesAll_29 fi_X2_25 ?_
      refine sm_iload_n (pc := 32) dX2_servesAll_32 rfl 2 rfl ?_
      refine sm_aload_n (pc := 33) dX2_servesAll_33 rfl 0 rfl ?_
      refine sm_getr (pc := 34) dX2_servesAll_34 fi_X2_25 ?_
      refine sm_iload_n (pc := 37) dX2_servesAll_37 rfl 2 rfl ?_
      refine sm_callVi (pc := 38) (As := [.int x2]) (rest := [.int x2, .ref (am_ad G 5 0)]) dX2_servesAll_38 (c_X7_coinOf G l N x2 μ) (by omega) wl_X2_107 vm_X7_coinOf rfl rfl (Nat.le_of_ble_eq_true rfl) (fun y6 μ5 => ?_)
      refine sm_iconst (pc := 41) dX2_servesAll_41 (v := 0) (by decide) ?_
      refine sm_callVv (pc := 42) (As := [.int x2, .int y6, .int (0 : Int32)]) (rest := []) dX2_servesAll_42 (c_X7_think G l N x2 y6 (0 : Int32) μ5) (by omega) wl_X2_110 vm_X7_think rfl rfl (Nat.le_of_ble_eq_true rfl) (fun _ μ7 => ?_)
      exact p_X2_servesAll_45 G l d hd0 N r_9 H_9 x1 x2 μ7
theorem p_X2_servesAll_9_lp (G : am_G) (l : Launch) (d : Nat) (hd0 : 105 ≤ d) (N : Nat) : ∀ (n : Nat) (x1 : Int32) (x2 : Int32) (μ : am_M), sm_P G l am_ci d me_X2_servesAll 9 [(0, .ref (am_ad G 6 0)), (1, .int x1), (2, .int x2)] [] μ (f_X2_servesAll_9_lp N n x1 x2 μ) := by
  intro n
  induction n with
  | zero => intros; exact sm_none
  | succ n ih => exact fun x1 x2 μ => p_X2_servesAll_9 G l d hd0 N (f_X2_servesAll_9_lp N n) ih x1 x2 μ
set_option maxHeartbeats 4000000 in
set_option maxRecDepth 100000 in
theorem p_X2_servesAll_0 (G : am_G) (l : Launch) (d : Nat) (hd0 : 105 ≤ d) (N : Nat) (a1 : Int32) (μ : am_M) : sm_P G l am_ci d me_X2_servesAll 0 [(0, .ref (am_ad G 6 0)), (1, .int a1)] [] μ (f_X2_servesAll_0 N a1 μ) := by
  unfold f_X2_servesAll_0
  refine sm_aload_n (pc := 0) dX2_servesAll_0 rfl 0 rfl ?_
  refine sm_getr (pc := 1) dX2_servesAll_1 fi_X2_25 ?_
  refine sm_callVv (pc := 4) (As := []) (rest := []) dX2_servesAll_4 (c_X7_recall G l N μ) (by omega) wl_X2_73 vm_X7_recall rfl rfl (Nat.le_of_ble_eq_true rfl) (fun _ μ1 => ?_)
  refine sm_iconst (pc := 7) dX2_servesAll_7 (v := 0) (by decide) ?_
  refine sm_istore_n (pc := 8) (lv' := [(2, .int (0 : Int32)), (0, .ref (am_ad G 6 0)), (1, .int a1)]) dX2_servesAll_8 rfl (by decide) rfl ?_
  refine sm_sub [1, 2, 0] rfl ?_
  exact p_X2_servesAll_9_lp G l d hd0 N N a1 (0 : Int32) μ1
theorem c_X2_servesAll (G : am_G) (l : Launch) (N : Nat) (a1 : Int32) (μ : am_M) : ct_P G l am_ci 105 me_X2_servesAll [.ref (am_ad G 6 0), .int a1] μ (f_X2_servesAll N a1 μ) := ct_of (by decide +kernel) (Nat.le_of_ble_eq_true rfl) rfl (p_X2_servesAll_0 G l 105 (Nat.le_refl _) N a1 μ)

def f_X2_takersOf_62 (N : Nat) (r_11 : Int32 → Int32 → Int32 → am_M → Option (Int32 × am_M)) (x1 : Int32) (x2 : Int32) (x3 : Int32) (μ : am_M) : Option (Int32 × am_M) :=
r_11 x1 x2 (x3 + (1 : Int32)) μ
def f_X2_takersOf_11 (N : Nat) (r_11 : Int32 → Int32 → Int32 → am_M → Option (Int32 × am_M)) (x1 : Int32) (x2 : Int32) (x3 : Int32) (μ : am_M) : Option (Int32 × am_M) :=
if (μ.1 1 0 2) ≤ x3 then (some (x2, μ)) else (am_bd (f_X7_weigh N x3 μ) (fun _ μ2 => am_bd (f_X7_choose N x3 μ2) (fun _ μ3 => am_bd (f_X5_digitOf N (μ3.1 5 0 12) x1 μ3) (fun y5 μ4 => if y5 ≤ 0 then (f_X2_takersOf_62 N r_11 x1 x2 x3 μ4) else (am_nm (x2 ||| ((1 : Int32) <<< (x3 &&& 31))) (fun y6 => f_X2_takersOf_62 N r_11 x1 y6 x3 μ4))))))
def f_X2_takersOf_11_lp (N : Nat) : Nat → Int32 → Int32 → Int32 → am_M → Option (Int32 × am_M)
  | 0, _, _, _, _ => none
  | n + 1, x1, x2, x3, μ => f_X2_takersOf_11 N (f_X2_takersOf_11_lp N n) x1 x2 x3 μ
def f_X2_takersOf_0 (N : Nat) (a1 : Int32) (μ : am_M) : Option (Int32 × am_M) :=
am_bd (f_X7_recall N μ) (fun _ μ1 => f_X2_takersOf_11_lp N N a1 (0 : Int32) (0 : Int32) μ1)
def f_X2_takersOf (N : Nat) (a1 : Int32) (μ : am_M) : Option (Int32 × am_M) := f_X2_takersOf_0 N a1 μ
set_option maxHeartbeats 4000000 in
set_option maxRecDepth 100000 in
theorem p_X2_takersOf_62 (G : am_G) (l : Launch) (d : Nat) (hd0 : 104 ≤ d) (N : Nat) (r_11 : Int32 → Int32 → Int32 → am_M → Option (Int32 × am_M)) (H_11 : ∀ (x1 : Int32) (x2 : Int32) (x3 : Int32) (μ : am_M), sm_P G l am_ci d me_X2_takersOf 11 [(0, .ref (am_ad G 6 0)), (1, .int x1), (2, .int x2), (3, .int x3)] [] μ (r_11 x1 x2 x3 μ)) (x1 : Int32) (x2 : Int32) (x3 : Int32) (μ : am_M) : sm_P G l am_ci d me_X2_takersOf 62 [(0, .ref (am_ad G 6 0)), (1, .int x1), (2, .int x2), (3, .int x3)] [] μ (f_X2_takersOf_62 N r_11 x1 x2 x3 μ) := by
  unfold f_X2_takersOf_62
  refine sm_iinc (pc := 62) (v := (x3 + (1 : Int32))) (lv' := [(3, .int (x3 + (1 : Int32))), (0, .ref (am_ad G 6 0)), (1, .int x1), (2, .int x2)]) dX2_takersOf_62 3 rfl rfl (by decide) rfl ?_
  refine sm_goto (pc := 65) (tgt := 11) dX2_takersOf_65 (by decide) ?_
  refine sm_sub [1, 2, 3, 0] rfl ?_
  exact H_11 x1 x2 (x3 + (1 : Int32)) μ
set_option maxHeartbeats 4000000 in
set_option maxRecDepth 100000 in
theorem p_X2_takersOf_11 (G : am_G) (l : Launch) (d : Nat) (hd0 : 104 ≤ d) (N : Nat) (r_11 : Int32 → Int32 → Int32 → am_M → Option (Int32 × am_M)) (H_11 : ∀ (x1 : Int32) (x2 : Int32) (x3 : Int32) (μ : am_M), sm_P G l am_ci d me_X2_takersOf 11 [(0, .ref (am_ad G 6 0)), (1, .int x1), (2, .int x2), (3, .int x3)] [] μ (r_11 x1 x2 x3 μ)) (x1 : Int32) (x2 : Int32) (x3 : Int32) (μ : am_M) : sm_P G l am_ci d me_X2_takersOf 11 [(0, .ref (am_ad G 6 0)), (1, .int x1), (2, .int x2), (3, .int x3)] [] μ (f_X2_takersOf_11 N r_11 x1 x2 x3 μ) := by
  unfold f_X2_takersOf_11
  refine sm_iload_n (pc := 11) dX2_takersOf_11 rfl 3 rfl ?_
  refine sm_aload_n (pc := 12) dX2_takersOf_12 rfl 0 rfl ?_
  refine sm_getr (pc := 13) dX2_takersOf_13 fi_X2_21 ?_
  refine sm_geti (pc := 16) dX2_takersOf_16 fi_X2_35 ?_
  refine sm_icmp_ge (pc := 19) (tgt := 68) dX2_takersOf_19 (by decide) ?_ ?_
  · refine sm_iload_n (pc := 68) dX2_takersOf_68 rfl 2 rfl ?_
    exact sm_iret (pc := 69) dX2_takersOf_69 rfl
  · refine sm_aload_n (pc := 22) dX2_takersOf_22 rfl 0 rfl ?_
    refine sm_getr (pc := 23) dX2_takersOf_23 fi_X2_25 ?_
    refine sm_iload_n (pc := 26) dX2_takersOf_26 rfl 3 rfl ?_
    refine sm_callVv (pc := 27) (As := [.int x3]) (rest := []) dX2_takersOf_27 (c_X7_weigh G l N x3 μ) (by omega) wl_X2_38 vm_X7_weigh rfl rfl (Nat.le_of_ble_eq_true rfl) (fun _ μ2 => ?_)
    refine sm_aload_n (pc := 30) dX2_takersOf_30 rfl 0 rfl ?_
    refine sm_getr (pc := 31) dX2_takersOf_31 fi_X2_25 ?_
    refine sm_iload_n (pc := 34) dX2_takersOf_34 rfl 3 rfl ?_
    refine sm_callVv (pc := 35) (As := [.int x3]) (rest := []) dX2_takersOf_35 (c_X7_choose G l N x3 μ2) (by omega) wl_X2_44 vm_X7_choose rfl rfl (Nat.le_of_ble_eq_true rfl) (fun _ μ3 => ?_)
    refine sm_aload_n (pc := 38) dX2_takersOf_38 rfl 0 rfl ?_
    refine sm_getr (pc := 39) dX2_takersOf_39 fi_X2_21 ?_
    refine sm_aload_n (pc := 42) dX2_takersOf_42 rfl 0 rfl ?_
    refine sm_getr (pc := 43) dX2_takersOf_43 fi_X2_25 ?_
    refine sm_geti (pc := 46) dX2_takersOf_46 fi_X2_51 ?_
    refine sm_iload_n (pc := 49) dX2_takersOf_49 rfl 1 rfl ?_
    refine sm_callVi (pc := 50) (As := [.int (μ3.1 5 0 12), .int x1]) (rest := []) dX2_takersOf_50 (c_X5_digitOf G l N (μ3.1 5 0 12) x1 μ3) (by omega) wl_X2_54 vm_X5_digitOf rfl rfl (Nat.le_of_ble_eq_true rfl) (fun y5 μ4 => ?_)
    refine sm_if_le (pc := 53) (tgt := 62) dX2_takersOf_53 (by decide) ?_ ?_
    · exact p_X2_takersOf_62 G l d hd0 N r_11 H_11 x1 x2 x3 μ4
    · refine sm_iload_n (pc := 56) dX2_takersOf_56 rfl 2 rfl ?_
      refine sm_iconst (pc := 57) dX2_takersOf_57 (v := 1) (by decide) ?_
      refine sm_iload_n (pc := 58) dX2_takersOf_58 rfl 3 rfl ?_
      refine sm_ishl (pc := 59) dX2_takersOf_59 ?_
      refine sm_ior (pc := 60) dX2_takersOf_60 ?_
      refine sm_nmI (fun y6 => ?_)
      refine sm_istore_n (pc := 61) (lv' := [(2, .int y6), (0, .ref (am_ad G 6 0)), (1, .int x1), (3, .int x3)]) dX2_takersOf_61 rfl (by decide) rfl ?_
      refine sm_sub [1, 2, 0, 3] rfl ?_
      exact p_X2_takersOf_62 G l d hd0 N r_11 H_11 x1 y6 x3 μ4
theorem p_X2_takersOf_11_lp (G : am_G) (l : Launch) (d : Nat) (hd0 : 104 ≤ d) (N : Nat) : ∀ (n : Nat) (x1 : Int32) (x2 : Int32) (x3 : Int32) (μ : am_M), sm_P G l am_ci d me_X2_takersOf 11 [(0, .ref (am_ad G 6 0)), (1, .int x1), (2, .int x2), (3, .int x3)] [] μ (f_X2_takersOf_11_lp N n x1 x2 x3 μ) := by
  intro n
  induction n with
  | zero => intros; exact sm_none
  | succ n ih => exact fun x1 x2 x3 μ => p_X2_takersOf_11 G l d hd0 N (f_X2_takersOf_11_lp N n) ih x1 x2 x3 μ
set_option maxHeartbeats 4000000 in
set_option maxRecDepth 100000 in
theorem p_X2_takersOf_0 (G : am_G) (l : Launch) (d : Nat) (hd0 : 104 ≤ d) (N : Nat) (a1 : Int32) (μ : am_M) : sm_P G l am_ci d me_X2_takersOf 0 [(0, .ref (am_ad G 6 0)), (1, .int a1)] [] μ (f_X2_takersOf_0 N a1 μ) := by
  unfold f_X2_takersOf_0
  refine sm_aload_n (pc := 0) dX2_takersOf_0 rfl 0 rfl ?_
  refine sm_getr (pc := 1) dX2_takersOf_1 fi_X2_25 ?_
  refine sm_callVv (pc := 4) (As := []) (rest := []) dX2_takersOf_4 (c_X7_recall G l N μ) (by omega) wl_X2_73 vm_X7_recall rfl rfl (Nat.le_of_ble_eq_true rfl) (fun _ μ1 => ?_)
  refine sm_iconst (pc := 7) dX2_takersOf_7 (v := 0) (by decide) ?_
  refine sm_istore_n (pc := 8) (lv' := [(2, .int (0 : Int32)), (0, .ref (am_ad G 6 0)), (1, .int a1)]) dX2_takersOf_8 rfl (by decide) rfl ?_
  refine sm_iconst (pc := 9) dX2_takersOf_9 (v := 0) (by decide) ?_
  refine sm_istore_n (pc := 10) (lv' := [(3, .int (0 : Int32)), (2, .int (0 : Int32)), (0, .ref (am_ad G 6 0)), (1, .int a1)]) dX2_takersOf_10 rfl (by decide) rfl ?_
  refine sm_sub [2, 3, 1, 0] rfl ?_
  exact p_X2_takersOf_11_lp G l d hd0 N N a1 (0 : Int32) (0 : Int32) μ1
theorem c_X2_takersOf (G : am_G) (l : Launch) (N : Nat) (a1 : Int32) (μ : am_M) : ct_P G l am_ci 104 me_X2_takersOf [.ref (am_ad G 6 0), .int a1] μ (f_X2_takersOf N a1 μ) := ct_of (by decide +kernel) (Nat.le_of_ble_eq_true rfl) rfl (p_X2_takersOf_0 G l 104 (Nat.le_refl _) N a1 μ)

def f_X2_cheapest_80 (N : Nat) (r_5 : Int32 → Int32 → Int32 → am_M → Option (Int32 × am_M)) (x1 : Int32) (x2 : Int32) (x3 : Int32) (μ : am_M) : Option (Int32 × am_M) :=
r_5 x1 x2 (x3 + (1 : Int32)) μ
def f_X2_cheapest_78 (N : Nat) (r_5 : Int32 → Int32 → Int32 → am_M → Option (Int32 × am_M)) (x1 : Int32) (x3 : Int32) (μ : am_M) : Option (Int32 × am_M) :=
f_X2_cheapest_80 N r_5 x1 x3 x3 μ
def f_X2_cheapest_44 (N : Nat) (r_5 : Int32 → Int32 → Int32 → am_M → Option (Int32 × am_M)) (x1 : Int32) (x2 : Int32) (x3 : Int32) (s0 : Int32) (μ : am_M) : Option (Int32 × am_M) :=
if s0 = 0 then (f_X2_cheapest_80 N r_5 x1 x2 x3 μ) else (if x2 = (-2 : Int32) then (f_X2_cheapest_78 N r_5 x1 x3 μ) else (am_bd (f_X5_at N (2 : Int32) x3 μ) (fun y6 μ5 => am_bd (f_X5_at N (2 : Int32) x2 μ5) (fun y8 μ7 => if y8 ≤ y6 then (f_X2_cheapest_80 N r_5 x1 x2 x3 μ7) else (f_X2_cheapest_78 N r_5 x1 x3 μ7)))))
def f_X2_cheapest_5 (N : Nat) (r_5 : Int32 → Int32 → Int32 → am_M → Option (Int32 × am_M)) (x1 : Int32) (x2 : Int32) (x3 : Int32) (μ : am_M) : Option (Int32 × am_M) :=
if (μ.1 1 0 1) ≤ x3 then (some (x2, μ)) else (am_bd (f_X5_at N (3 : Int32) x3 μ) (fun y2 μ1 => am_bd (f_X5_at N (1 : Int32) x3 μ1) (fun y4 μ3 => if (y4 - x1) < y2 then (f_X2_cheapest_44 N r_5 x1 x2 x3 (0 : Int32) μ3) else (f_X2_cheapest_44 N r_5 x1 x2 x3 (1 : Int32) μ3))))
def f_X2_cheapest_5_lp (N : Nat) : Nat → Int32 → Int32 → Int32 → am_M → Option (Int32 × am_M)
  | 0, _, _, _, _ => none
  | n + 1, x1, x2, x3, μ => f_X2_cheapest_5 N (f_X2_cheapest_5_lp N n) x1 x2 x3 μ
def f_X2_cheapest_0 (N : Nat) (a1 : Int32) (μ : am_M) : Option (Int32 × am_M) :=
f_X2_cheapest_5_lp N N a1 (-2 : Int32) (0 : Int32) μ
def f_X2_cheapest (N : Nat) (a1 : Int32) (μ : am_M) : Option (Int32 × am_M) := f_X2_cheapest_0 N a1 μ
set_option maxHeartbeats 4000000 in
set_option maxRecDepth 100000 in
theorem p_X2_cheapest_80 (G : am_G) (l : Launch) (d : Nat) (hd0 : 2 ≤ d) (N : Nat) (r_5 : Int32 → Int32 → Int32 → am_M → Option (Int32 × am_M)) (H_5 : ∀ (x1 : Int32) (x2 : Int32) (x3 : Int32) (μ : am_M), sm_P G l am_ci d me_X2_cheapest 5 [(0, .ref (am_ad G 6 0)), (1, .int x1), (2, .int x2), (3, .int x3)] [] μ (r_5 x1 x2 x3 μ)) (x1 : Int32) (x2 : Int32) (x3 : Int32) (μ : am_M) : sm_P G l am_ci d me_X2_cheapest 80 [(0, .ref (am_ad G 6 0)), (1, .int x1), (2, .int x2), (3, .int x3)] [] μ (f_X2_cheapest_80 N r_5 x1 x2 x3 μ) := by
  unfold f_X2_cheapest_80
  refine sm_iinc (pc := 80) (v := (x3 + (1 : Int32))) (lv' := [(3, .int (x3 + (1 : Int32))), (0, .ref (am_ad G 6 0)), (1, .int x1), (2, .int x2)]) dX2_cheapest_80 3 rfl rfl (by decide) rfl ?_
  refine sm_goto (pc := 83) (tgt := 5) dX2_cheapest_83 (by decide) ?_
  refine sm_sub [1, 2, 3, 0] rfl ?_
  exact H_5 x1 x2 (x3 + (1 : Int32)) μ
set_option maxHeartbeats 4000000 in
set_option maxRecDepth 100000 in
theorem p_X2_cheapest_78 (G : am_G) (l : Launch) (d : Nat) (hd0 : 2 ≤ d) (N : Nat) (r_5 : Int32 → Int32 → Int32 → am_M → Option (Int32 × am_M)) (H_5 : ∀ (x1 : Int32) (x2 : Int32) (x3 : Int32) (μ : am_M), sm_P G l am_ci d me_X2_cheapest 5 [(0, .ref (am_ad G 6 0)), (1, .int x1), (2, .int x2), (3, .int x3)] [] μ (r_5 x1 x2 x3 μ)) (x1 : Int32) (x3 : Int32) (μ : am_M) : sm_P G l am_ci d me_X2_cheapest 78 [(0, .ref (am_ad G 6 0)), (1, .int x1), (3, .int x3)] [] μ (f_X2_cheapest_78 N r_5 x1 x3 μ) := by
  unfold f_X2_cheapest_78
  refine sm_iload_n (pc := 78) dX2_cheapest_78 rfl 2 rfl ?_
  refine sm_istore_n (pc := 79) (lv' := [(2, .int x3), (0, .ref (am_ad G 6 0)), (1, .int x1), (3, .int x3)]) dX2_cheapest_79 rfl (by decide) rfl ?_
  refine sm_sub [1, 2, 0, 3] rfl ?_
  exact p_X2_cheapest_80 G l d hd0 N r_5 H_5 x1 x3 x3 μ
set_option maxHeartbeats 4000000 in
set_option maxRecDepth 100000 in
theorem p_X2_cheapest_44 (G : am_G) (l : Launch) (d : Nat) (hd0 : 2 ≤ d) (N : Nat) (r_5 : Int32 → Int32 → Int32 → am_M → Option (Int32 × am_M)) (H_5 : ∀ (x1 : Int32) (x2 : Int32) (x3 : Int32) (μ : am_M), sm_P G l am_ci d me_X2_cheapest 5 [(0, .ref (am_ad G 6 0)), (1, .int x1), (2, .int x2), (3, .int x3)] [] μ (r_5 x1 x2 x3 μ)) (x1 : Int32) (x2 : Int32) (x3 : Int32) (s0 : Int32) (μ : am_M) : sm_P G l am_ci d me_X2_cheapest 44 [(0, .ref (am_ad G 6 0)), (1, .int x1), (2, .int x2), (3, .int x3)] [.int s0] μ (f_X2_cheapest_44 N r_5 x1 x2 x3 s0 μ) := by
  unfold f_X2_cheapest_44
  refine sm_istore (pc := 44) (lv' := [(4, .int s0), (0, .ref (am_ad G 6 0)), (1, .int x1), (2, .int x2), (3, .int x3)]) dX2_cheapest_44 (by decide) rfl ?_
  refine sm_iload (pc := 46) dX2_cheapest_46 0 rfl ?_
  refine sm_if_eq (pc := 48) (tgt := 80) dX2_cheapest_48 (by decide) ?_ ?_
  · refine sm_sub [1, 2, 3, 4] rfl ?_
    exact p_X2_cheapest_80 G l d hd0 N r_5 H_5 x1 x2 x3 μ
  · refine sm_iload_n (pc := 51) dX2_cheapest_51 rfl 3 rfl ?_
    refine sm_bipush (pc := 52) dX2_cheapest_52 (v := -2) (by decide) ?_
    refine sm_icmp_eq (pc := 54) (tgt := 78) dX2_cheapest_54 (by decide) ?_ ?_
    · refine sm_sub [1, 2, 4] rfl ?_
      exact p_X2_cheapest_78 G l d hd0 N r_5 H_5 x1 x3 μ
    · refine sm_aload_n (pc := 57) dX2_cheapest_57 rfl 1 rfl ?_
      refine sm_getr (pc := 58) dX2_cheapest_58 fi_X2_21 ?_
      refine sm_iconst (pc := 61) dX2_cheapest_61 (v := 2) (by decide) ?_
      refine sm_iload_n (pc := 62) dX2_cheapest_62 rfl 4 rfl ?_
      refine sm_callVi (pc := 63) (As := [.int (2 : Int32), .int x3]) (rest := []) dX2_cheapest_63 (c_X5_at G l N (2 : Int32) x3 μ) (by omega) wl_X2_47 vm_X5_at rfl rfl (Nat.le_of_ble_eq_true rfl) (fun y6 μ5 => ?_)
      refine sm_aload_n (pc := 66) dX2_cheapest_66 rfl 1 rfl ?_
      refine sm_getr (pc := 67) dX2_cheapest_67 fi_X2_21 ?_
      refine sm_iconst (pc := 70) dX2_cheapest_70 (v := 2) (by decide) ?_
      refine sm_iload_n (pc := 71) dX2_cheapest_71 rfl 3 rfl ?_
      refine sm_callVi (pc := 72) (As := [.int (2 : Int32), .int x2]) (rest := [.int y6]) dX2_cheapest_72 (c_X5_at G l N (2 : Int32) x2 μ5) (by omega) wl_X2_47 vm_X5_at rfl rfl (Nat.le_of_ble_eq_true rfl) (fun y8 μ7 => ?_)
      refine sm_icmp_ge (pc := 75) (tgt := 80) dX2_cheapest_75 (by decide) ?_ ?_
      · refine sm_sub [1, 2, 3, 4] rfl ?_
        exact p_X2_cheapest_80 G l d hd0 N r_5 H_5 x1 x2 x3 μ7
      · refine sm_sub [1, 2, 4] rfl ?_
        exact p_X2_cheapest_78 G l d hd0 N r_5 H_5 x1 x3 μ7
set_option maxHeartbeats 4000000 in
set_option maxRecDepth 100000 in
theorem p_X2_cheapest_5 (G : am_G) (l : Launch) (d : Nat) (hd0 : 2 ≤ d) (N : Nat) (r_5 : Int32 → Int32 → Int32 → am_M → Option (Int32 × am_M)) (H_5 : ∀ (x1 : Int32) (x2 : Int32) (x3 : Int32) (μ : am_M), sm_P G l am_ci d me_X2_cheapest 5 [(0, .ref (am_ad G 6 0)), (1, .int x1), (2, .int x2), (3, .int x3)] [] μ (r_5 x1 x2 x3 μ)) (x1 : Int32) (x2 : Int32) (x3 : Int32) (μ : am_M) : sm_P G l am_ci d me_X2_cheapest 5 [(0, .ref (am_ad G 6 0)), (1, .int x1), (2, .int x2), (3, .int x3)] [] μ (f_X2_cheapest_5 N r_5 x1 x2 x3 μ) := by
  unfold f_X2_cheapest_5
  refine sm_iload_n (pc := 5) dX2_cheapest_5 rfl 3 rfl ?_
  refine sm_aload_n (pc := 6) dX2_cheapest_6 rfl 0 rfl ?_
  refine sm_getr (pc := 7) dX2_cheapest_7 fi_X2_21 ?_
  refine sm_geti (pc := 10) dX2_cheapest_10 fi_X2_29 ?_
  refine sm_icmp_ge (pc := 13) (tgt := 86) dX2_cheapest_13 (by decide) ?_ ?_
  · refine sm_iload_n (pc := 86) dX2_cheapest_86 rfl 2 rfl ?_
    exact sm_iret (pc := 87) dX2_cheapest_87 rfl
  · refine sm_aload_n (pc := 16) dX2_cheapest_16 rfl 0 rfl ?_
    refine sm_getr (pc := 17) dX2_cheapest_17 fi_X2_21 ?_
    refine sm_iconst (pc := 20) dX2_cheapest_20 (v := 3) (by decide) ?_
    refine sm_iload_n (pc := 21) dX2_cheapest_21 rfl 3 rfl ?_
    refine sm_callVi (pc := 22) (As := [.int (3 : Int32), .int x3]) (rest := []) dX2_cheapest_22 (c_X5_at G l N (3 : Int32) x3 μ) (by omega) wl_X2_47 vm_X5_at rfl rfl (Nat.le_of_ble_eq_true rfl) (fun y2 μ1 => ?_)
    refine sm_aload_n (pc := 25) dX2_cheapest_25 rfl 0 rfl ?_
    refine sm_getr (pc := 26) dX2_cheapest_26 fi_X2_21 ?_
    refine sm_iconst (pc := 29) dX2_cheapest_29 (v := 1) (by decide) ?_
    refine sm_iload_n (pc := 30) dX2_cheapest_30 rfl 3 rfl ?_
    refine sm_callVi (pc := 31) (As := [.int (1 : Int32), .int x3]) (rest := [.int y2]) dX2_cheapest_31 (c_X5_at G l N (1 : Int32) x3 μ1) (by omega) wl_X2_47 vm_X5_at rfl rfl (Nat.le_of_ble_eq_true rfl) (fun y4 μ3 => ?_)
    refine sm_iload_n (pc := 34) dX2_cheapest_34 rfl 1 rfl ?_
    refine sm_isub (pc := 35) dX2_cheapest_35 ?_
    refine sm_icmp_gt (pc := 36) (tgt := 43) dX2_cheapest_36 (by decide) ?_ ?_
    · refine sm_iconst (pc := 43) dX2_cheapest_43 (v := 0) (by decide) ?_
      exact p_X2_cheapest_44 G l d hd0 N r_5 H_5 x1 x2 x3 (0 : Int32) μ3
    · refine sm_iconst (pc := 39) dX2_cheapest_39 (v := 1) (by decide) ?_
      refine sm_goto (pc := 40) (tgt := 44) dX2_cheapest_40 (by decide) ?_
      exact p_X2_cheapest_44 G l d hd0 N r_5 H_5 x1 x2 x3 (1 : Int32) μ3
theorem p_X2_cheapest_5_lp (G : am_G) (l : Launch) (d : Nat) (hd0 : 2 ≤ d) (N : Nat) : ∀ (n : Nat) (x1 : Int32) (x2 : Int32) (x3 : Int32) (μ : am_M), sm_P G l am_ci d me_X2_cheapest 5 [(0, .ref (am_ad G 6 0)), (1, .int x1), (2, .int x2), (3, .int x3)] [] μ (f_X2_cheapest_5_lp N n x1 x2 x3 μ) := by
  intro n
  induction n with
  | zero => intros; exact sm_none
  | succ n ih => exact fun x1 x2 x3 μ => p_X2_cheapest_5 G l d hd0 N (f_X2_cheapest_5_lp N n) ih x1 x2 x3 μ
set_option maxHeartbeats 4000000 in
set_option maxRecDepth 100000 in
theorem p_X2_cheapest_0 (G : am_G) (l : Launch) (d : Nat) (hd0 : 2 ≤ d) (N : Nat) (a1 : Int32) (μ : am_M) : sm_P G l am_ci d me_X2_cheapest 0 [(0, .ref (am_ad G 6 0)), (1, .int a1)] [] μ (f_X2_cheapest_0 N a1 μ) := by
  unfold f_X2_cheapest_0
  refine sm_bipush (pc := 0) dX2_cheapest_0 (v := -2) (by decide) ?_
  refine sm_istore_n (pc := 2) (lv' := [(2, .int (-2 : Int32)), (0, .ref (am_ad G 6 0)), (1, .int a1)]) dX2_cheapest_2 rfl (by decide) rfl ?_
  refine sm_iconst (pc := 3) dX2_cheapest_3 (v := 0) (by decide) ?_
  refine sm_istore_n (pc := 4) (lv' := [(3, .int (0 : Int32)), (2, .int (-2 : Int32)), (0, .ref (am_ad G 6 0)), (1, .int a1)]) dX2_cheapest_4 rfl (by decide) rfl ?_
  refine sm_sub [2, 3, 1, 0] rfl ?_
  exact p_X2_cheapest_5_lp G l d hd0 N N a1 (-2 : Int32) (0 : Int32) μ
theorem c_X2_cheapest (G : am_G) (l : Launch) (N : Nat) (a1 : Int32) (μ : am_M) : ct_P G l am_ci 2 me_X2_cheapest [.ref (am_ad G 6 0), .int a1] μ (f_X2_cheapest N a1 μ) := ct_of (by decide +kernel) (Nat.le_of_ble_eq_true rfl) rfl (p_X2_cheapest_0 G l 2 (Nat.le_refl _) N a1 μ)

def f_X2_offOf_0 (N : Nat) (a1 : Int32) (μ : am_M) : Option (Int32 × am_M) :=
am_bd (f_X5_at N (0 : Int32) a1 μ) (fun y2 μ1 => if y2 = 0 then (some ((0 : Int32), μ1)) else (am_bd (f_X2_overOf N a1 μ1) (fun y4 μ3 => am_nm (if 0 ≤ y4 then y4 else 0 - y4) (fun y5 => am_dv y2 (some (((y5 * (1000 : Int32)) / y2), μ3))))))
def f_X2_offOf (N : Nat) (a1 : Int32) (μ : am_M) : Option (Int32 × am_M) := f_X2_offOf_0 N a1 μ
set_option maxHeartbeats 4000000 in
set_option maxRecDepth 100000 in
theorem p_X2_offOf_0 (G : am_G) (l : Launch) (d : Nat) (hd0 : 3 ≤ d) (N : Nat) (a1 : Int32) (μ : am_M) : sm_P G l am_ci d me_X2_offOf 0 [(0, .ref (am_ad G 6 0)), (1, .int a1)] [] μ (f_X2_offOf_0 N a1 μ) := by
  unfold f_X2_offOf_0
  refine sm_aload_n (pc := 0) dX2_offOf_0 rfl 0 rfl ?_
  refine sm_getr (pc := 1) dX2_offOf_1 fi_X2_21 ?_
  refine sm_iconst (pc := 4) dX2_offOf_4 (v := 0) (by decide) ?_
  refine sm_iload_n (pc := 5) dX2_offOf_5 rfl 1 rfl ?_
  refine sm_callVi (pc := 6) (As := [.int (0 : Int32), .int a1]) (rest := []) dX2_offOf_6 (c_X5_at G l N (0 : Int32) a1 μ) (by omega) wl_X2_47 vm_X5_at rfl rfl (Nat.le_of_ble_eq_true rfl) (fun y2 μ1 => ?_)
  refine sm_istore_n (pc := 9) (lv' := [(2, .int y2), (0, .ref (am_ad G 6 0)), (1, .int a1)]) dX2_offOf_9 rfl (by decide) rfl ?_
  refine sm_iload_n (pc := 10) dX2_offOf_10 rfl 0 rfl ?_
  refine sm_if_ne (pc := 11) (tgt := 18) dX2_offOf_11 (by decide) ?_ ?_
  · refine sm_aload_n (pc := 18) dX2_offOf_18 rfl 1 rfl ?_
    refine sm_iload_n (pc := 19) dX2_offOf_19 rfl 2 rfl ?_
    refine sm_callVi (pc := 20) (As := [.int a1]) (rest := []) dX2_offOf_20 (c_X2_overOf G l N a1 μ1) (by omega) wl_X2_65 vm_X2_overOf rfl rfl (Nat.le_of_ble_eq_true rfl) (fun y4 μ3 => ?_)
    refine sm_abs (pc := 23) dX2_offOf_23 (by omega) (Nat.le_of_ble_eq_true rfl) wl_X2_68 wd_abs wd_minit wd_absc ?_
    refine sm_nmI (fun y5 => ?_)
    refine sm_sipush (pc := 26) dX2_offOf_26 (v := 1000) (by decide) ?_
    refine sm_imul (pc := 29) dX2_offOf_29 ?_
    refine sm_iload_n (pc := 30) dX2_offOf_30 rfl 0 rfl ?_
    refine sm_idiv (pc := 31) dX2_offOf_31 (fun _ => ?_)
    exact sm_iret (pc := 32) dX2_offOf_32 rfl
  · refine sm_iconst (pc := 14) dX2_offOf_14 (v := 0) (by decide) ?_
    refine sm_goto (pc := 15) (tgt := 32) dX2_offOf_15 (by decide) ?_
    exact sm_iret (pc := 32) dX2_offOf_32 rfl
theorem c_X2_offOf (G : am_G) (l : Launch) (N : Nat) (a1 : Int32) (μ : am_M) : ct_P G l am_ci 3 me_X2_offOf [.ref (am_ad G 6 0), .int a1] μ (f_X2_offOf N a1 μ) := ct_of (by decide +kernel) (Nat.le_of_ble_eq_true rfl) rfl (p_X2_offOf_0 G l 3 (Nat.le_refl _) N a1 μ)

def f_X2_findWorst_60 (N : Nat) (r_16 : Int32 → Int32 → am_M → Option (Int32 × am_M)) (x1 : Int32) (x2 : Int32) (μ : am_M) : Option (Int32 × am_M) :=
r_16 x1 (x2 + (1 : Int32)) μ
def f_X2_findWorst_58 (N : Nat) (r_16 : Int32 → Int32 → am_M → Option (Int32 × am_M)) (x2 : Int32) (μ : am_M) : Option (Int32 × am_M) :=
f_X2_findWorst_60 N r_16 x2 x2 μ
def f_X2_findWorst_16 (N : Nat) (r_16 : Int32 → Int32 → am_M → Option (Int32 × am_M)) (x1 : Int32) (x2 : Int32) (μ : am_M) : Option (Int32 × am_M) :=
if (μ.1 1 0 1) ≤ x2 then (some (x1, μ)) else (am_bd (f_X5_at N (0 : Int32) x2 μ) (fun y4 μ3 => if y4 ≤ 0 then (f_X2_findWorst_60 N r_16 x1 x2 μ3) else (if x1 = (-2 : Int32) then (f_X2_findWorst_58 N r_16 x2 μ3) else (am_bd (f_X2_offOf N x2 μ3) (fun y6 μ5 => am_bd (f_X2_offOf N x1 μ5) (fun y8 μ7 => if y6 ≤ y8 then (f_X2_findWorst_60 N r_16 x1 x2 μ7) else (f_X2_findWorst_58 N r_16 x2 μ7)))))))
def f_X2_findWorst_16_lp (N : Nat) : Nat → Int32 → Int32 → am_M → Option (Int32 × am_M)
  | 0, _, _, _ => none
  | n + 1, x1, x2, μ => f_X2_findWorst_16 N (f_X2_findWorst_16_lp N n) x1 x2 μ
def f_X2_findWorst_0 (N : Nat) (μ : am_M) : Option (Int32 × am_M) :=
am_bd (f_X7_recall N μ) (fun _ μ1 => am_bd (f_X2_wantAll N μ1) (fun _ μ2 => f_X2_findWorst_16_lp N N (-2 : Int32) (0 : Int32) μ2))
def f_X2_findWorst (N : Nat) (μ : am_M) : Option (Int32 × am_M) := f_X2_findWorst_0 N μ
set_option maxHeartbeats 4000000 in
set_option maxRecDepth 100000 in
theorem p_X2_findWorst_60 (G : am_G) (l : Launch) (d : Nat) (hd0 : 105 ≤ d) (N : Nat) (r_16 : Int32 → Int32 → am_M → Option (Int32 × am_M)) (H_16 : ∀ (x1 : Int32) (x2 : Int32) (μ : am_M), sm_P G l am_ci d me_X2_findWorst 16 [(0, .ref (am_ad G 6 0)), (1, .int x1), (2, .int x2)] [] μ (r_16 x1 x2 μ)) (x1 : Int32) (x2 : Int32) (μ : am_M) : sm_P G l am_ci d me_X2_findWorst 60 [(0, .ref (am_ad G 6 0)), (1, .int x1), (2, .int x2)] [] μ (f_X2_findWorst_60 N r_16 x1 x2 μ) := by
  unfold f_X2_findWorst_60
  refine sm_iinc (pc := 60) (v := (x2 + (1 : Int32))) (lv' := [(2, .int (x2 + (1 : Int32))), (0, .ref (am_ad G 6 0)), (1, .int x1)]) dX2_findWorst_60 2 rfl rfl (by decide) rfl ?_
  refine sm_goto (pc := 63) (tgt := 16) dX2_findWorst_63 (by decide) ?_
  refine sm_sub [1, 2, 0] rfl ?_
  exact H_16 x1 (x2 + (1 : Int32)) μ
set_option maxHeartbeats 4000000 in
set_option maxRecDepth 100000 in
theorem p_X2_findWorst_58 (G : am_G) (l : Launch) (d : Nat) (hd0 : 105 ≤ d) (N : Nat) (r_16 : Int32 → Int32 → am_M → Option (Int32 × am_M)) (H_16 : ∀ (x1 : Int32) (x2 : Int32) (μ : am_M), sm_P G l am_ci d me_X2_findWorst 16 [(0, .ref (am_ad G 6 0)), (1, .int x1), (2, .int x2)] [] μ (r_16 x1 x2 μ)) (x2 : Int32) (μ : am_M) : sm_P G l am_ci d me_X2_findWorst 58 [(0, .ref (am_ad G 6 0)), (2, .int x2)] [] μ (f_X2_findWorst_58 N r_16 x2 μ) := by
  unfold f_X2_findWorst_58
  refine sm_iload_n (pc := 58) dX2_findWorst_58 rfl 1 rfl ?_
  refine sm_istore_n (pc := 59) (lv' := [(1, .int x2), (0, .ref (am_ad G 6 0)), (2, .int x2)]) dX2_findWorst_59 rfl (by decide) rfl ?_
  refine sm_sub [1, 0, 2] rfl ?_
  exact p_X2_findWorst_60 G l d hd0 N r_16 H_16 x2 x2 μ
set_option maxHeartbeats 4000000 in
set_option maxRecDepth 100000 in
theorem p_X2_findWorst_16 (G : am_G) (l : Launch) (d : Nat) (hd0 : 105 ≤ d) (N : Nat) (r_16 : Int32 → Int32 → am_M → Option (Int32 × am_M)) (H_16 : ∀ (x1 : Int32) (x2 : Int32) (μ : am_M), sm_P G l am_ci d me_X2_findWorst 16 [(0, .ref (am_ad G 6 0)), (1, .int x1), (2, .int x2)] [] μ (r_16 x1 x2 μ)) (x1 : Int32) (x2 : Int32) (μ : am_M) : sm_P G l am_ci d me_X2_findWorst 16 [(0, .ref (am_ad G 6 0)), (1, .int x1), (2, .int x2)] [] μ (f_X2_findWorst_16 N r_16 x1 x2 μ) := by
  unfold f_X2_findWorst_16
  refine sm_iload_n (pc := 16) dX2_findWorst_16 rfl 2 rfl ?_
  refine sm_aload_n (pc := 17) dX2_findWorst_17 rfl 0 rfl ?_
  refine sm_getr (pc := 18) dX2_findWorst_18 fi_X2_21 ?_
  refine sm_geti (pc := 21) dX2_findWorst_21 fi_X2_29 ?_
  refine sm_icmp_ge (pc := 24) (tgt := 66) dX2_findWorst_24 (by decide) ?_ ?_
  · refine sm_iload_n (pc := 66) dX2_findWorst_66 rfl 1 rfl ?_
    exact sm_iret (pc := 67) dX2_findWorst_67 rfl
  · refine sm_aload_n (pc := 27) dX2_findWorst_27 rfl 0 rfl ?_
    refine sm_getr (pc := 28) dX2_findWorst_28 fi_X2_21 ?_
    refine sm_iconst (pc := 31) dX2_findWorst_31 (v := 0) (by decide) ?_
    refine sm_iload_n (pc := 32) dX2_findWorst_32 rfl 2 rfl ?_
    refine sm_callVi (pc := 33) (As := [.int (0 : Int32), .int x2]) (rest := []) dX2_findWorst_33 (c_X5_at G l N (0 : Int32) x2 μ) (by omega) wl_X2_47 vm_X5_at rfl rfl (Nat.le_of_ble_eq_true rfl) (fun y4 μ3 => ?_)
    refine sm_if_le (pc := 36) (tgt := 60) dX2_findWorst_36 (by decide) ?_ ?_
    · exact p_X2_findWorst_60 G l d hd0 N r_16 H_16 x1 x2 μ3
    · refine sm_iload_n (pc := 39) dX2_findWorst_39 rfl 1 rfl ?_
      refine sm_bipush (pc := 40) dX2_findWorst_40 (v := -2) (by decide) ?_
      refine sm_icmp_eq (pc := 42) (tgt := 58) dX2_findWorst_42 (by decide) ?_ ?_
      · refine sm_sub [0, 2] rfl ?_
        exact p_X2_findWorst_58 G l d hd0 N r_16 H_16 x2 μ3
      · refine sm_aload_n (pc := 45) dX2_findWorst_45 rfl 0 rfl ?_
        refine sm_iload_n (pc := 46) dX2_findWorst_46 rfl 2 rfl ?_
        refine sm_callVi (pc := 47) (As := [.int x2]) (rest := []) dX2_findWorst_47 (c_X2_offOf G l N x2 μ3) (by omega) wl_X2_130 vm_X2_offOf rfl rfl (Nat.le_of_ble_eq_true rfl) (fun y6 μ5 => ?_)
        refine sm_aload_n (pc := 50) dX2_findWorst_50 rfl 0 rfl ?_
        refine sm_iload_n (pc := 51) dX2_findWorst_51 rfl 1 rfl ?_
        refine sm_callVi (pc := 52) (As := [.int x1]) (rest := [.int y6]) dX2_findWorst_52 (c_X2_offOf G l N x1 μ5) (by omega) wl_X2_130 vm_X2_offOf rfl rfl (Nat.le_of_ble_eq_true rfl) (fun y8 μ7 => ?_)
        refine sm_icmp_le (pc := 55) (tgt := 60) dX2_findWorst_55 (by decide) ?_ ?_
        · exact p_X2_findWorst_60 G l d hd0 N r_16 H_16 x1 x2 μ7
        · refine sm_sub [0, 2] rfl ?_
          exact p_X2_findWorst_58 G l d hd0 N r_16 H_16 x2 μ7
theorem p_X2_findWorst_16_lp (G : am_G) (l : Launch) (d : Nat) (hd0 : 105 ≤ d) (N : Nat) : ∀ (n : Nat) (x1 : Int32) (x2 : Int32) (μ : am_M), sm_P G l am_ci d me_X2_findWorst 16 [(0, .ref (am_ad G 6 0)), (1, .int x1), (2, .int x2)] [] μ (f_X2_findWorst_16_lp N n x1 x2 μ) := by
  intro n
  induction n with
  | zero => intros; exact sm_none
  | succ n ih => exact fun x1 x2 μ => p_X2_findWorst_16 G l d hd0 N (f_X2_findWorst_16_lp N n) ih x1 x2 μ
set_option maxHeartbeats 4000000 in
set_option maxRecDepth 100000 in
theorem p_X2_findWorst_0 (G : am_G) (l : Launch) (d : Nat) (hd0 : 105 ≤ d) (N : Nat) (μ : am_M) : sm_P G l am_ci d me_X2_findWorst 0 [(0, .ref (am_ad G 6 0))] [] μ (f_X2_findWorst_0 N μ) := by
  unfold f_X2_findWorst_0
  refine sm_aload_n (pc := 0) dX2_findWorst_0 rfl 0 rfl ?_
  refine sm_getr (pc := 1) dX2_findWorst_1 fi_X2_25 ?_
  refine sm_callVv (pc := 4) (As := []) (rest := []) dX2_findWorst_4 (c_X7_recall G l N μ) (by omega) wl_X2_73 vm_X7_recall rfl rfl (Nat.le_of_ble_eq_true rfl) (fun _ μ1 => ?_)
  refine sm_aload_n (pc := 7) dX2_findWorst_7 rfl 0 rfl ?_
  refine sm_callVv (pc := 8) (As := []) (rest := []) dX2_findWorst_8 (c_X2_wantAll G l N μ1) (by omega) wl_X2_76 vm_X2_wantAll rfl rfl (Nat.le_of_ble_eq_true rfl) (fun _ μ2 => ?_)
  refine sm_bipush (pc := 11) dX2_findWorst_11 (v := -2) (by decide) ?_
  refine sm_istore_n (pc := 13) (lv' := [(1, .int (-2 : Int32)), (0, .ref (am_ad G 6 0))]) dX2_findWorst_13 rfl (by decide) rfl ?_
  refine sm_iconst (pc := 14) dX2_findWorst_14 (v := 0) (by decide) ?_
  refine sm_istore_n (pc := 15) (lv' := [(2, .int (0 : Int32)), (1, .int (-2 : Int32)), (0, .ref (am_ad G 6 0))]) dX2_findWorst_15 rfl (by decide) rfl ?_
  refine sm_sub [2, 1, 0] rfl ?_
  exact p_X2_findWorst_16_lp G l d hd0 N N (-2 : Int32) (0 : Int32) μ2
theorem c_X2_findWorst (G : am_G) (l : Launch) (N : Nat) (μ : am_M) : ct_P G l am_ci 105 me_X2_findWorst [.ref (am_ad G 6 0)] μ (f_X2_findWorst N μ) := ct_of (by decide +kernel) (Nat.le_of_ble_eq_true rfl) rfl (p_X2_findWorst_0 G l 105 (Nat.le_refl _) N μ)
