def f_X1_dropFirst_2 (N : Nat) (r_2 : Int32 → am_M → Option (Unit × am_M)) (x1 : Int32) (μ : am_M) : Option (Unit × am_M) :=
if (40 : Int32) ≤ x1 then (am_nm (am_ui μ 2 0 5 (39 : Int32)) (fun μ1 => some ((), μ1))) else (am_gd x1 40 (fun j2 => am_gd (x1 - (1 : Int32)) 40 (fun j3 => am_nm (am_ui μ 33 0 j3 (μ.1 33 0 j2)) (fun μ4 => am_gd x1 40 (fun j5 => am_gd (x1 - (1 : Int32)) 40 (fun j6 => am_nm (am_ui μ4 34 0 j6 (μ4.1 34 0 j5)) (fun μ7 => am_gd x1 40 (fun j8 => am_gd (x1 - (1 : Int32)) 40 (fun j9 => am_nm (am_ui μ7 35 0 j9 (μ7.1 35 0 j8)) (fun μ10 => am_gd x1 40 (fun j11 => am_gd (x1 - (1 : Int32)) 40 (fun j12 => am_nm (am_ui μ10 36 0 j12 (μ10.1 36 0 j11)) (fun μ13 => r_2 (x1 + (1 : Int32)) μ13)))))))))))))
def f_X1_dropFirst_2_lp (N : Nat) : Nat → Int32 → am_M → Option (Unit × am_M)
  | 0, _, _ => none
  | n + 1, x1, μ => f_X1_dropFirst_2 N (f_X1_dropFirst_2_lp N n) x1 μ
def f_X1_dropFirst_0 (N : Nat) (μ : am_M) : Option (Unit × am_M) :=
f_X1_dropFirst_2_lp N N (1 : Int32) μ
def f_X1_dropFirst (N : Nat) (μ : am_M) : Option (Unit × am_M) := f_X1_dropFirst_0 N μ
set_option maxHeartbeats 4000000 in
set_option maxRecDepth 100000 in
theorem p_X1_dropFirst_2 (G : am_G) (l : Launch) (d : Nat) (hd0 : 0 ≤ d) (N : Nat) (r_2 : Int32 → am_M → Option (Unit × am_M)) (H_2 : ∀ (x1 : Int32) (μ : am_M), sm_P G l am_cu d me_X1_dropFirst 2 [(0, .ref (am_ad G 2 0)), (1, .int x1)] [] μ (r_2 x1 μ)) (x1 : Int32) (μ : am_M) : sm_P G l am_cu d me_X1_dropFirst 2 [(0, .ref (am_ad G 2 0)), (1, .int x1)] [] μ (f_X1_dropFirst_2 N r_2 x1 μ) := by
  unfold f_X1_dropFirst_2
  refine sm_iload_n (pc := 2) dX1_dropFirst_2 rfl 1 rfl ?_
  refine sm_bipush (pc := 3) dX1_dropFirst_3 (v := 40) (by decide) ?_
  refine sm_icmp_ge (pc := 5) (tgt := 70) dX1_dropFirst_5 (by decide) ?_ ?_
  · refine sm_aload_n (pc := 70) dX1_dropFirst_70 rfl 0 rfl ?_
    refine sm_bipush (pc := 71) dX1_dropFirst_71 (v := 39) (by decide) ?_
    refine sm_puti (pc := 73) dX1_dropFirst_73 fi_X1_42 ?_
    refine sm_nmM (fun μ1 => ?_)
    exact sm_vret (pc := 76) dX1_dropFirst_76 rfl
  · refine sm_aload_n (pc := 8) dX1_dropFirst_8 rfl 0 rfl ?_
    refine sm_getr (pc := 9) dX1_dropFirst_9 fi_X1_9 ?_
    refine sm_iload_n (pc := 12) dX1_dropFirst_12 rfl 1 rfl ?_
    refine sm_iconst (pc := 13) dX1_dropFirst_13 (v := 1) (by decide) ?_
    refine sm_isub (pc := 14) dX1_dropFirst_14 ?_
    refine sm_aload_n (pc := 15) dX1_dropFirst_15 rfl 0 rfl ?_
    refine sm_getr (pc := 16) dX1_dropFirst_16 fi_X1_9 ?_
    refine sm_iload_n (pc := 19) dX1_dropFirst_19 rfl 1 rfl ?_
    refine sm_iald (pc := 20) dX1_dropFirst_20 ly_33 (by decide) (fun j2 hj2 => ?_)
    refine sm_iast (pc := 21) dX1_dropFirst_21 ly_33 (by decide) (fun j3 hj3 => ?_)
    refine sm_nmM (fun μ4 => ?_)
    refine sm_aload_n (pc := 22) dX1_dropFirst_22 rfl 0 rfl ?_
    refine sm_getr (pc := 23) dX1_dropFirst_23 fi_X1_15 ?_
    refine sm_iload_n (pc := 26) dX1_dropFirst_26 rfl 1 rfl ?_
    refine sm_iconst (pc := 27) dX1_dropFirst_27 (v := 1) (by decide) ?_
    refine sm_isub (pc := 28) dX1_dropFirst_28 ?_
    refine sm_aload_n (pc := 29) dX1_dropFirst_29 rfl 0 rfl ?_
    refine sm_getr (pc := 30) dX1_dropFirst_30 fi_X1_15 ?_
    refine sm_iload_n (pc := 33) dX1_dropFirst_33 rfl 1 rfl ?_
    refine sm_iald (pc := 34) dX1_dropFirst_34 ly_34 (by decide) (fun j5 hj5 => ?_)
    refine sm_iast (pc := 35) dX1_dropFirst_35 ly_34 (by decide) (fun j6 hj6 => ?_)
    refine sm_nmM (fun μ7 => ?_)
    refine sm_aload_n (pc := 36) dX1_dropFirst_36 rfl 0 rfl ?_
    refine sm_getr (pc := 37) dX1_dropFirst_37 fi_X1_18 ?_
    refine sm_iload_n (pc := 40) dX1_dropFirst_40 rfl 1 rfl ?_
    refine sm_iconst (pc := 41) dX1_dropFirst_41 (v := 1) (by decide) ?_
    refine sm_isub (pc := 42) dX1_dropFirst_42 ?_
    refine sm_aload_n (pc := 43) dX1_dropFirst_43 rfl 0 rfl ?_
    refine sm_getr (pc := 44) dX1_dropFirst_44 fi_X1_18 ?_
    refine sm_iload_n (pc := 47) dX1_dropFirst_47 rfl 1 rfl ?_
    refine sm_iald (pc := 48) dX1_dropFirst_48 ly_35 (by decide) (fun j8 hj8 => ?_)
    refine sm_iast (pc := 49) dX1_dropFirst_49 ly_35 (by decide) (fun j9 hj9 => ?_)
    refine sm_nmM (fun μ10 => ?_)
    refine sm_aload_n (pc := 50) dX1_dropFirst_50 rfl 0 rfl ?_
    refine sm_getr (pc := 51) dX1_dropFirst_51 fi_X1_21 ?_
    refine sm_iload_n (pc := 54) dX1_dropFirst_54 rfl 1 rfl ?_
    refine sm_iconst (pc := 55) dX1_dropFirst_55 (v := 1) (by decide) ?_
    refine sm_isub (pc := 56) dX1_dropFirst_56 ?_
    refine sm_aload_n (pc := 57) dX1_dropFirst_57 rfl 0 rfl ?_
    refine sm_getr (pc := 58) dX1_dropFirst_58 fi_X1_21 ?_
    refine sm_iload_n (pc := 61) dX1_dropFirst_61 rfl 1 rfl ?_
    refine sm_iald (pc := 62) dX1_dropFirst_62 ly_36 (by decide) (fun j11 hj11 => ?_)
    refine sm_iast (pc := 63) dX1_dropFirst_63 ly_36 (by decide) (fun j12 hj12 => ?_)
    refine sm_nmM (fun μ13 => ?_)
    refine sm_iinc (pc := 64) (v := (x1 + (1 : Int32))) (lv' := [(1, .int (x1 + (1 : Int32))), (0, .ref (am_ad G 2 0))]) dX1_dropFirst_64 1 rfl rfl (by decide) rfl ?_
    refine sm_goto (pc := 67) (tgt := 2) dX1_dropFirst_67 (by decide) ?_
    refine sm_sub [1, 0] rfl ?_
    exact H_2 (x1 + (1 : Int32)) μ13
theorem p_X1_dropFirst_2_lp (G : am_G) (l : Launch) (d : Nat) (hd0 : 0 ≤ d) (N : Nat) : ∀ (n : Nat) (x1 : Int32) (μ : am_M), sm_P G l am_cu d me_X1_dropFirst 2 [(0, .ref (am_ad G 2 0)), (1, .int x1)] [] μ (f_X1_dropFirst_2_lp N n x1 μ) := by
  intro n
  induction n with
  | zero => intros; exact sm_none
  | succ n ih => exact fun x1 μ => p_X1_dropFirst_2 G l d hd0 N (f_X1_dropFirst_2_lp N n) ih x1 μ
set_option maxHeartbeats 4000000 in
set_option maxRecDepth 100000 in
theorem p_X1_dropFirst_0 (G : am_G) (l : Launch) (d : Nat) (hd0 : 0 ≤ d) (N : Nat) (μ : am_M) : sm_P G l am_cu d me_X1_dropFirst 0 [(0, .ref (am_ad G 2 0))] [] μ (f_X1_dropFirst_0 N μ) := by
  unfold f_X1_dropFirst_0
  refine sm_iconst (pc := 0) dX1_dropFirst_0 (v := 1) (by decide) ?_
  refine sm_istore_n (pc := 1) (lv' := [(1, .int (1 : Int32)), (0, .ref (am_ad G 2 0))]) dX1_dropFirst_1 rfl (by decide) rfl ?_
  refine sm_sub [1, 0] rfl ?_
  exact p_X1_dropFirst_2_lp G l d hd0 N N (1 : Int32) μ
theorem c_X1_dropFirst (G : am_G) (l : Launch) (N : Nat) (μ : am_M) : ct_P G l am_cu 0 me_X1_dropFirst [.ref (am_ad G 2 0)] μ (f_X1_dropFirst N μ) := ct_of (by decide +kernel) (Nat.le_of_ble_eq_true rfl) rfl (p_X1_dropFirst_0 G l 0 (Nat.le_refl _) N μ)

def f_X1_note_13 (N : Nat) (x1 : Int32) (x2 : Int32) (x3 : Int32) (x4 : Int32) (μ : am_M) : Option (Unit × am_M) :=
am_gd (μ.1 2 0 5) 40 (fun j1 => am_nm (am_ui μ 33 0 j1 x1) (fun μ2 => am_gd (μ2.1 2 0 5) 40 (fun j3 => am_nm (am_ui μ2 34 0 j3 x2) (fun μ4 => am_gd (μ4.1 2 0 5) 40 (fun j5 => am_nm (am_ui μ4 35 0 j5 x3) (fun μ6 => am_gd (μ6.1 2 0 5) 40 (fun j7 => am_nm (am_ui μ6 36 0 j7 x4) (fun μ8 => am_nm (am_ui μ8 2 0 5 ((μ8.1 2 0 5) + (1 : Int32))) (fun μ9 => am_nm (am_ui μ9 2 0 6 (0 : Int32)) (fun μ10 => some ((), μ10)))))))))))
def f_X1_note_0 (N : Nat) (a1 : Int32) (a2 : Int32) (a3 : Int32) (a4 : Int32) (μ : am_M) : Option (Unit × am_M) :=
if (μ.1 2 0 5) < (40 : Int32) then (f_X1_note_13 N a1 a2 a3 a4 μ) else (am_bd (f_X1_dropFirst N μ) (fun _ μ11 => f_X1_note_13 N a1 a2 a3 a4 μ11))
def f_X1_note (N : Nat) (a1 : Int32) (a2 : Int32) (a3 : Int32) (a4 : Int32) (μ : am_M) : Option (Unit × am_M) := f_X1_note_0 N a1 a2 a3 a4 μ
set_option maxHeartbeats 4000000 in
set_option maxRecDepth 100000 in
theorem p_X1_note_13 (G : am_G) (l : Launch) (d : Nat) (hd0 : 1 ≤ d) (N : Nat) (x1 : Int32) (x2 : Int32) (x3 : Int32) (x4 : Int32) (μ : am_M) : sm_P G l am_cu d me_X1_note 13 [(0, .ref (am_ad G 2 0)), (1, .int x1), (2, .int x2), (3, .int x3), (4, .int x4)] [] μ (f_X1_note_13 N x1 x2 x3 x4 μ) := by
  unfold f_X1_note_13
  refine sm_aload_n (pc := 13) dX1_note_13 rfl 0 rfl ?_
  refine sm_getr (pc := 14) dX1_note_14 fi_X1_9 ?_
  refine sm_aload_n (pc := 17) dX1_note_17 rfl 0 rfl ?_
  refine sm_geti (pc := 18) dX1_note_18 fi_X1_42 ?_
  refine sm_iload_n (pc := 21) dX1_note_21 rfl 1 rfl ?_
  refine sm_iast (pc := 22) dX1_note_22 ly_33 (by decide) (fun j1 hj1 => ?_)
  refine sm_nmM (fun μ2 => ?_)
  refine sm_aload_n (pc := 23) dX1_note_23 rfl 0 rfl ?_
  refine sm_getr (pc := 24) dX1_note_24 fi_X1_15 ?_
  refine sm_aload_n (pc := 27) dX1_note_27 rfl 0 rfl ?_
  refine sm_geti (pc := 28) dX1_note_28 fi_X1_42 ?_
  refine sm_iload_n (pc := 31) dX1_note_31 rfl 2 rfl ?_
  refine sm_iast (pc := 32) dX1_note_32 ly_34 (by decide) (fun j3 hj3 => ?_)
  refine sm_nmM (fun μ4 => ?_)
  refine sm_aload_n (pc := 33) dX1_note_33 rfl 0 rfl ?_
  refine sm_getr (pc := 34) dX1_note_34 fi_X1_18 ?_
  refine sm_aload_n (pc := 37) dX1_note_37 rfl 0 rfl ?_
  refine sm_geti (pc := 38) dX1_note_38 fi_X1_42 ?_
  refine sm_iload_n (pc := 41) dX1_note_41 rfl 3 rfl ?_
  refine sm_iast (pc := 42) dX1_note_42 ly_35 (by decide) (fun j5 hj5 => ?_)
  refine sm_nmM (fun μ6 => ?_)
  refine sm_aload_n (pc := 43) dX1_note_43 rfl 0 rfl ?_
  refine sm_getr (pc := 44) dX1_note_44 fi_X1_21 ?_
  refine sm_aload_n (pc := 47) dX1_note_47 rfl 0 rfl ?_
  refine sm_geti (pc := 48) dX1_note_48 fi_X1_42 ?_
  refine sm_iload (pc := 51) dX1_note_51 4 rfl ?_
  refine sm_iast (pc := 53) dX1_note_53 ly_36 (by decide) (fun j7 hj7 => ?_)
  refine sm_nmM (fun μ8 => ?_)
  refine sm_aload_n (pc := 54) dX1_note_54 rfl 0 rfl ?_
  refine sm_dup (pc := 55) dX1_note_55 rfl ?_
  refine sm_geti (pc := 56) dX1_note_56 fi_X1_42 ?_
  refine sm_iconst (pc := 59) dX1_note_59 (v := 1) (by decide) ?_
  refine sm_iadd (pc := 60) dX1_note_60 ?_
  refine sm_puti (pc := 61) dX1_note_61 fi_X1_42 ?_
  refine sm_nmM (fun μ9 => ?_)
  refine sm_aload_n (pc := 64) dX1_note_64 rfl 0 rfl ?_
  refine sm_iconst (pc := 65) dX1_note_65 (v := 0) (by decide) ?_
  refine sm_puti (pc := 66) dX1_note_66 fi_X1_46 ?_
  refine sm_nmM (fun μ10 => ?_)
  exact sm_vret (pc := 69) dX1_note_69 rfl
set_option maxHeartbeats 4000000 in
set_option maxRecDepth 100000 in
theorem p_X1_note_0 (G : am_G) (l : Launch) (d : Nat) (hd0 : 1 ≤ d) (N : Nat) (a1 : Int32) (a2 : Int32) (a3 : Int32) (a4 : Int32) (μ : am_M) : sm_P G l am_cu d me_X1_note 0 [(0, .ref (am_ad G 2 0)), (1, .int a1), (2, .int a2), (3, .int a3), (4, .int a4)] [] μ (f_X1_note_0 N a1 a2 a3 a4 μ) := by
  unfold f_X1_note_0
  refine sm_aload_n (pc := 0) dX1_note_0 rfl 0 rfl ?_
  refine sm_geti (pc := 1) dX1_note_1 fi_X1_42 ?_
  refine sm_bipush (pc := 4) dX1_note_4 (v := 40) (by decide) ?_
  refine sm_icmp_lt (pc := 6) (tgt := 13) dX1_note_6 (by decide) ?_ ?_
  · exact p_X1_note_13 G l d hd0 N a1 a2 a3 a4 μ
  · refine sm_aload_n (pc := 9) dX1_note_9 rfl 0 rfl ?_
    refine sm_callVv (pc := 10) (As := []) (rest := []) dX1_note_10 (c_X1_dropFirst G l N μ) (by omega) wl_X1_49 vm_X1_dropFirst rfl rfl (Nat.le_of_ble_eq_true rfl) (fun _ μ11 => ?_)
    exact p_X1_note_13 G l d hd0 N a1 a2 a3 a4 μ11
theorem c_X1_note (G : am_G) (l : Launch) (N : Nat) (a1 : Int32) (a2 : Int32) (a3 : Int32) (a4 : Int32) (μ : am_M) : ct_P G l am_cu 1 me_X1_note [.ref (am_ad G 2 0), .int a1, .int a2, .int a3, .int a4] μ (f_X1_note N a1 a2 a3 a4 μ) := ct_of (by decide +kernel) (Nat.le_of_ble_eq_true rfl) rfl (p_X1_note_0 G l 1 (Nat.le_refl _) N a1 a2 a3 a4 μ)

def f_X1_change_0 (N : Nat) (a1 : Int32) (a2 : Int32) (a3 : Int32) (μ : am_M) : Option (Int32 × am_M) :=
am_bd (f_X5_at N a1 a2 μ) (fun y2 μ1 => if y2 = a3 then (some (y2, μ1)) else (am_bd (f_X1_note N a1 a2 y2 a3 μ1) (fun _ μ3 => am_bd (f_X5_write N a1 a2 a3 μ3) (fun _ μ4 => some (y2, μ4)))))
def f_X1_change (N : Nat) (a1 : Int32) (a2 : Int32) (a3 : Int32) (μ : am_M) : Option (Int32 × am_M) := f_X1_change_0 N a1 a2 a3 μ
set_option maxHeartbeats 4000000 in
set_option maxRecDepth 100000 in
theorem p_X1_change_0 (G : am_G) (l : Launch) (d : Nat) (hd0 : 2 ≤ d) (N : Nat) (a1 : Int32) (a2 : Int32) (a3 : Int32) (μ : am_M) : sm_P G l am_ci d me_X1_change 0 [(0, .ref (am_ad G 2 0)), (1, .int a1), (2, .int a2), (3, .int a3)] [] μ (f_X1_change_0 N a1 a2 a3 μ) := by
  unfold f_X1_change_0
  refine sm_aload_n (pc := 0) dX1_change_0 rfl 0 rfl ?_
  refine sm_getr (pc := 1) dX1_change_1 fi_X1_24 ?_
  refine sm_iload_n (pc := 4) dX1_change_4 rfl 1 rfl ?_
  refine sm_iload_n (pc := 5) dX1_change_5 rfl 2 rfl ?_
  refine sm_callVi (pc := 6) (As := [.int a1, .int a2]) (rest := []) dX1_change_6 (c_X5_at G l N a1 a2 μ) (by omega) wl_X1_28 vm_X5_at rfl rfl (Nat.le_of_ble_eq_true rfl) (fun y2 μ1 => ?_)
  refine sm_istore (pc := 9) (lv' := [(4, .int y2), (0, .ref (am_ad G 2 0)), (1, .int a1), (2, .int a2), (3, .int a3)]) dX1_change_9 (by decide) rfl ?_
  refine sm_iload (pc := 11) dX1_change_11 0 rfl ?_
  refine sm_iload_n (pc := 13) dX1_change_13 rfl 4 rfl ?_
  refine sm_icmp_eq (pc := 14) (tgt := 36) dX1_change_14 (by decide) ?_ ?_
  · refine sm_iload (pc := 36) dX1_change_36 0 rfl ?_
    exact sm_iret (pc := 38) dX1_change_38 rfl
  · refine sm_aload_n (pc := 17) dX1_change_17 rfl 1 rfl ?_
    refine sm_iload_n (pc := 18) dX1_change_18 rfl 2 rfl ?_
    refine sm_iload_n (pc := 19) dX1_change_19 rfl 3 rfl ?_
    refine sm_iload (pc := 20) dX1_change_20 0 rfl ?_
    refine sm_iload_n (pc := 22) dX1_change_22 rfl 4 rfl ?_
    refine sm_callVv (pc := 23) (As := [.int a1, .int a2, .int y2, .int a3]) (rest := []) dX1_change_23 (c_X1_note G l N a1 a2 y2 a3 μ1) (by omega) wl_X1_34 vm_X1_note rfl rfl (Nat.le_of_ble_eq_true rfl) (fun _ μ3 => ?_)
    refine sm_aload_n (pc := 26) dX1_change_26 rfl 1 rfl ?_
    refine sm_getr (pc := 27) dX1_change_27 fi_X1_24 ?_
    refine sm_iload_n (pc := 30) dX1_change_30 rfl 2 rfl ?_
    refine sm_iload_n (pc := 31) dX1_change_31 rfl 3 rfl ?_
    refine sm_iload_n (pc := 32) dX1_change_32 rfl 4 rfl ?_
    refine sm_callVv (pc := 33) (As := [.int a1, .int a2, .int a3]) (rest := []) dX1_change_33 (c_X5_write G l N a1 a2 a3 μ3) (by omega) wl_X1_38 vm_X5_write rfl rfl (Nat.le_of_ble_eq_true rfl) (fun _ μ4 => ?_)
    refine sm_iload (pc := 36) dX1_change_36 0 rfl ?_
    exact sm_iret (pc := 38) dX1_change_38 rfl
theorem c_X1_change (G : am_G) (l : Launch) (N : Nat) (a1 : Int32) (a2 : Int32) (a3 : Int32) (μ : am_M) : ct_P G l am_ci 2 me_X1_change [.ref (am_ad G 2 0), .int a1, .int a2, .int a3] μ (f_X1_change N a1 a2 a3 μ) := ct_of (by decide +kernel) (Nat.le_of_ble_eq_true rfl) rfl (p_X1_change_0 G l 2 (Nat.le_refl _) N a1 a2 a3 μ)

def f_X1_goBack_0 (N : Nat) (μ : am_M) : Option (Int32 × am_M) :=
if 0 < (μ.1 2 0 5) then (am_nm (am_ui μ 2 0 5 ((μ.1 2 0 5) - (1 : Int32))) (fun μ1 => am_nm (am_ui μ1 2 0 6 ((μ1.1 2 0 6) + (1 : Int32))) (fun μ2 => am_gd (μ2.1 2 0 5) 40 (fun j3 => am_gd (μ2.1 2 0 5) 40 (fun j4 => am_gd (μ2.1 2 0 5) 40 (fun j5 => am_bd (f_X5_write N (μ2.1 33 0 j3) (μ2.1 34 0 j4) (μ2.1 35 0 j5) μ2) (fun _ μ6 => some ((μ6.1 2 0 5), μ6)))))))) else (some ((-5 : Int32), μ))
def f_X1_goBack (N : Nat) (μ : am_M) : Option (Int32 × am_M) := f_X1_goBack_0 N μ
set_option maxHeartbeats 4000000 in
set_option maxRecDepth 100000 in
theorem p_X1_goBack_0 (G : am_G) (l : Launch) (d : Nat) (hd0 : 2 ≤ d) (N : Nat) (μ : am_M) : sm_P G l am_ci d me_X1_goBack 0 [(0, .ref (am_ad G 2 0))] [] μ (f_X1_goBack_0 N μ) := by
  unfold f_X1_goBack_0
  refine sm_aload_n (pc := 0) dX1_goBack_0 rfl 0 rfl ?_
  refine sm_geti (pc := 1) dX1_goBack_1 fi_X1_42 ?_
  refine sm_if_gt (pc := 4) (tgt := 10) dX1_goBack_4 (by decide) ?_ ?_
  · refine sm_aload_n (pc := 10) dX1_goBack_10 rfl 0 rfl ?_
    refine sm_dup (pc := 11) dX1_goBack_11 rfl ?_
    refine sm_geti (pc := 12) dX1_goBack_12 fi_X1_42 ?_
    refine sm_iconst (pc := 15) dX1_goBack_15 (v := 1) (by decide) ?_
    refine sm_isub (pc := 16) dX1_goBack_16 ?_
    refine sm_puti (pc := 17) dX1_goBack_17 fi_X1_42 ?_
    refine sm_nmM (fun μ1 => ?_)
    refine sm_aload_n (pc := 20) dX1_goBack_20 rfl 0 rfl ?_
    refine sm_dup (pc := 21) dX1_goBack_21 rfl ?_
    refine sm_geti (pc := 22) dX1_goBack_22 fi_X1_46 ?_
    refine sm_iconst (pc := 25) dX1_goBack_25 (v := 1) (by decide) ?_
    refine sm_iadd (pc := 26) dX1_goBack_26 ?_
    refine sm_puti (pc := 27) dX1_goBack_27 fi_X1_46 ?_
    refine sm_nmM (fun μ2 => ?_)
    refine sm_aload_n (pc := 30) dX1_goBack_30 rfl 0 rfl ?_
    refine sm_getr (pc := 31) dX1_goBack_31 fi_X1_24 ?_
    refine sm_aload_n (pc := 34) dX1_goBack_34 rfl 0 rfl ?_
    refine sm_getr (pc := 35) dX1_goBack_35 fi_X1_9 ?_
    refine sm_aload_n (pc := 38) dX1_goBack_38 rfl 0 rfl ?_
    refine sm_geti (pc := 39) dX1_goBack_39 fi_X1_42 ?_
    refine sm_iald (pc := 42) dX1_goBack_42 ly_33 (by decide) (fun j3 hj3 => ?_)
    refine sm_aload_n (pc := 43) dX1_goBack_43 rfl 0 rfl ?_
    refine sm_getr (pc := 44) dX1_goBack_44 fi_X1_15 ?_
    refine sm_aload_n (pc := 47) dX1_goBack_47 rfl 0 rfl ?_
    refine sm_geti (pc := 48) dX1_goBack_48 fi_X1_42 ?_
    refine sm_iald (pc := 51) dX1_goBack_51 ly_34 (by decide) (fun j4 hj4 => ?_)
    refine sm_aload_n (pc := 52) dX1_goBack_52 rfl 0 rfl ?_
    refine sm_getr (pc := 53) dX1_goBack_53 fi_X1_18 ?_
    refine sm_aload_n (pc := 56) dX1_goBack_56 rfl 0 rfl ?_
    refine sm_geti (pc := 57) dX1_goBack_57 fi_X1_42 ?_
    refine sm_iald (pc := 60) dX1_goBack_60 ly_35 (by decide) (fun j5 hj5 => ?_)
    refine sm_callVv (pc := 61) (As := [.int (μ2.1 33 0 j3), .int (μ2.1 34 0 j4), .int (μ2.1 35 0 j5)]) (rest := []) dX1_goBack_61 (c_X5_write G l N (μ2.1 33 0 j3) (μ2.1 34 0 j4) (μ2.1 35 0 j5) μ2) (by omega) wl_X1_38 vm_X5_write rfl rfl (Nat.le_of_ble_eq_true rfl) (fun _ μ6 => ?_)
    refine sm_aload_n (pc := 64) dX1_goBack_64 rfl 0 rfl ?_
    refine sm_geti (pc := 65) dX1_goBack_65 fi_X1_42 ?_
    exact sm_iret (pc := 68) dX1_goBack_68 rfl
  · refine sm_bipush (pc := 7) dX1_goBack_7 (v := -5) (by decide) ?_
    exact sm_iret (pc := 9) dX1_goBack_9 rfl
theorem c_X1_goBack (G : am_G) (l : Launch) (N : Nat) (μ : am_M) : ct_P G l am_ci 2 me_X1_goBack [.ref (am_ad G 2 0)] μ (f_X1_goBack N μ) := ct_of (by decide +kernel) (Nat.le_of_ble_eq_true rfl) rfl (p_X1_goBack_0 G l 2 (Nat.le_refl _) N μ)

def f_X1_goOn_0 (N : Nat) (μ : am_M) : Option (Int32 × am_M) :=
if (μ.1 2 0 6) ≤ 0 then (some ((-5 : Int32), μ)) else (if (μ.1 2 0 5) < (40 : Int32) then (am_gd (μ.1 2 0 5) 40 (fun j1 => am_gd (μ.1 2 0 5) 40 (fun j2 => am_gd (μ.1 2 0 5) 40 (fun j3 => am_bd (f_X5_write N (μ.1 33 0 j1) (μ.1 34 0 j2) (μ.1 36 0 j3) μ) (fun _ μ4 => am_nm (am_ui μ4 2 0 5 ((μ4.1 2 0 5) + (1 : Int32))) (fun μ5 => am_nm (am_ui μ5 2 0 6 ((μ5.1 2 0 6) - (1 : Int32))) (fun μ6 => some ((μ6.1 2 0 6), μ6)))))))) else (some ((-5 : Int32), μ)))
def f_X1_goOn (N : Nat) (μ : am_M) : Option (Int32 × am_M) := f_X1_goOn_0 N μ
set_option maxHeartbeats 4000000 in
set_option maxRecDepth 100000 in
theorem p_X1_goOn_0 (G : am_G) (l : Launch) (d : Nat) (hd0 : 2 ≤ d) (N : Nat) (μ : am_M) : sm_P G l am_ci d me_X1_goOn 0 [(0, .ref (am_ad G 2 0))] [] μ (f_X1_goOn_0 N μ) := by
  unfold f_X1_goOn_0
  refine sm_aload_n (pc := 0) dX1_goOn_0 rfl 0 rfl ?_
  refine sm_geti (pc := 1) dX1_goOn_1 fi_X1_46 ?_
  refine sm_if_le (pc := 4) (tgt := 16) dX1_goOn_4 (by decide) ?_ ?_
  · refine sm_bipush (pc := 16) dX1_goOn_16 (v := -5) (by decide) ?_
    exact sm_iret (pc := 18) dX1_goOn_18 rfl
  · refine sm_aload_n (pc := 7) dX1_goOn_7 rfl 0 rfl ?_
    refine sm_geti (pc := 8) dX1_goOn_8 fi_X1_42 ?_
    refine sm_bipush (pc := 11) dX1_goOn_11 (v := 40) (by decide) ?_
    refine sm_icmp_lt (pc := 13) (tgt := 19) dX1_goOn_13 (by decide) ?_ ?_
    · refine sm_aload_n (pc := 19) dX1_goOn_19 rfl 0 rfl ?_
      refine sm_getr (pc := 20) dX1_goOn_20 fi_X1_24 ?_
      refine sm_aload_n (pc := 23) dX1_goOn_23 rfl 0 rfl ?_
      refine sm_getr (pc := 24) dX1_goOn_24 fi_X1_9 ?_
      refine sm_aload_n (pc := 27) dX1_goOn_27 rfl 0 rfl ?_
      refine sm_geti (pc := 28) dX1_goOn_28 fi_X1_42 ?_
      refine sm_iald (pc := 31) dX1_goOn_31 ly_33 (by decide) (fun j1 hj1 => ?_)
      refine sm_aload_n (pc := 32) dX1_goOn_32 rfl 0 rfl ?_
      refine sm_getr (pc := 33) dX1_goOn_33 fi_X1_15 ?_
      refine sm_aload_n (pc := 36) dX1_goOn_36 rfl 0 rfl ?_
      refine sm_geti (pc := 37) dX1_goOn_37 fi_X1_42 ?_
      refine sm_iald (pc := 40) dX1_goOn_40 ly_34 (by decide) (fun j2 hj2 => ?_)
      refine sm_aload_n (pc := 41) dX1_goOn_41 rfl 0 rfl ?_
      refine sm_getr (pc := 42) dX1_goOn_42 fi_X1_21 ?_
      refine sm_aload_n (pc := 45) dX1_goOn_45 rfl 0 rfl ?_
      refine sm_geti (pc := 46) dX1_goOn_46 fi_X1_42 ?_
      refine sm_iald (pc := 49) dX1_goOn_49 ly_36 (by decide) (fun j3 hj3 => ?_)
      refine sm_callVv (pc := 50) (As := [.int (μ.1 33 0 j1), .int (μ.1 34 0 j2), .int (μ.1 36 0 j3)]) (rest := []) dX1_goOn_50 (c_X5_write G l N (μ.1 33 0 j1) (μ.1 34 0 j2) (μ.1 36 0 j3) μ) (by omega) wl_X1_38 vm_X5_write rfl rfl (Nat.le_of_ble_eq_true rfl) (fun _ μ4 => ?_)
      refine sm_aload_n (pc := 53) dX1_goOn_53 rfl 0 rfl ?_
      refine sm_dup (pc := 54) dX1_goOn_54 rfl ?_
      refine sm_geti (pc := 55) dX1_goOn_55 fi_X1_42 ?_
      refine sm_iconst (pc := 58) dX1_goOn_58 (v := 1) (by decide) ?_
      refine sm_iadd (pc := 59) dX1_goOn_59 ?_
      refine sm_puti (pc := 60) dX1_goOn_60 fi_X1_42 ?_
      refine sm_nmM (fun μ5 => ?_)
      refine sm_aload_n (pc := 63) dX1_goOn_63 rfl 0 rfl ?_
      refine sm_dup (pc := 64) dX1_goOn_64 rfl ?_
      refine sm_geti (pc := 65) dX1_goOn_65 fi_X1_46 ?_
      refine sm_iconst (pc := 68) dX1_goOn_68 (v := 1) (by decide) ?_
      refine sm_isub (pc := 69) dX1_goOn_69 ?_
      refine sm_puti (pc := 70) dX1_goOn_70 fi_X1_46 ?_
      refine sm_nmM (fun μ6 => ?_)
      refine sm_aload_n (pc := 73) dX1_goOn_73 rfl 0 rfl ?_
      refine sm_geti (pc := 74) dX1_goOn_74 fi_X1_46 ?_
      exact sm_iret (pc := 77) dX1_goOn_77 rfl
    · refine sm_bipush (pc := 16) dX1_goOn_16 (v := -5) (by decide) ?_
      exact sm_iret (pc := 18) dX1_goOn_18 rfl
theorem c_X1_goOn (G : am_G) (l : Launch) (N : Nat) (μ : am_M) : ct_P G l am_ci 2 me_X1_goOn [.ref (am_ad G 2 0)] μ (f_X1_goOn N μ) := ct_of (by decide +kernel) (Nat.le_of_ble_eq_true rfl) rfl (p_X1_goOn_0 G l 2 (Nat.le_refl _) N μ)
