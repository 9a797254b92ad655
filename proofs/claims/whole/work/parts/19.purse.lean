def f_X3_has_0 (N : Nat) (a1 : Int32) (μ : am_M) : Option (Int32 × am_M) :=
am_bd (f_X9_isWithin N a1 (0 : Int32) ((μ.1 8 0 1) - (1 : Int32)) μ) (fun y2 μ1 => if y2 = 0 then (am_z (0 : Int32) μ1) else (if (50 : Int32) ≤ a1 then (am_z (0 : Int32) μ1) else (am_z (1 : Int32) μ1)))
def f_X3_has (N : Nat) (a1 : Int32) (μ : am_M) : Option (Int32 × am_M) := f_X3_has_0 N a1 μ
set_option maxHeartbeats 4000000 in
set_option maxRecDepth 100000 in
theorem p_X3_has_0 (G : am_G) (l : Launch) (d : Nat) (hd0 : 1 ≤ d) (N : Nat) (a1 : Int32) (μ : am_M) : sm_P G l am_ci d me_X3_has 0 [(0, .ref (am_ad G 8 0)), (1, .int a1)] [] μ (f_X3_has_0 N a1 μ) := by
  unfold f_X3_has_0
  refine sm_iload_n (pc := 0) dX3_has_0 rfl 1 rfl ?_
  refine sm_iconst (pc := 1) dX3_has_1 (v := 0) (by decide) ?_
  refine sm_aload_n (pc := 2) dX3_has_2 rfl 0 rfl ?_
  refine sm_geti (pc := 3) dX3_has_3 fi_X3_18 ?_
  refine sm_iconst (pc := 6) dX3_has_6 (v := 1) (by decide) ?_
  refine sm_isub (pc := 7) dX3_has_7 ?_
  refine sm_callNi (pc := 8) (As := [.int a1, .int (0 : Int32), .int ((μ.1 8 0 1) - (1 : Int32))]) (rest := []) dX3_has_8 (c_X9_isWithin G l N a1 (0 : Int32) ((μ.1 8 0 1) - (1 : Int32)) μ) (by omega) wl_X3_22 st_X9_isWithin rfl rfl (Nat.le_of_ble_eq_true rfl) (fun y2 μ1 => ?_)
  refine sm_if_eq (pc := 11) (tgt := 24) dX3_has_11 (by decide) ?_ ?_
  · refine sm_iconst (pc := 24) dX3_has_24 (v := 0) (by decide) ?_
    exact sm_zret (pc := 25) dX3_has_25 rfl
  · refine sm_iload_n (pc := 14) dX3_has_14 rfl 1 rfl ?_
    refine sm_bipush (pc := 15) dX3_has_15 (v := 50) (by decide) ?_
    refine sm_icmp_ge (pc := 17) (tgt := 24) dX3_has_17 (by decide) ?_ ?_
    · refine sm_iconst (pc := 24) dX3_has_24 (v := 0) (by decide) ?_
      exact sm_zret (pc := 25) dX3_has_25 rfl
    · refine sm_iconst (pc := 20) dX3_has_20 (v := 1) (by decide) ?_
      refine sm_goto (pc := 21) (tgt := 25) dX3_has_21 (by decide) ?_
      exact sm_zret (pc := 25) dX3_has_25 rfl
theorem c_X3_has (G : am_G) (l : Launch) (N : Nat) (a1 : Int32) (μ : am_M) : ct_P G l am_ci 1 me_X3_has [.ref (am_ad G 8 0), .int a1] μ (f_X3_has N a1 μ) := ct_of (by decide +kernel) (Nat.le_of_ble_eq_true rfl) rfl (p_X3_has_0 G l 1 (Nat.le_refl _) N a1 μ)

def f_X3_add_0 (N : Nat) (a1 : Int32) (μ : am_M) : Option (Int32 × am_M) :=
if (μ.1 8 0 1) < (50 : Int32) then (am_gd (μ.1 8 0 1) 50 (fun j1 => am_nm (am_ui μ 128 0 j1 a1) (fun μ2 => am_nm (am_ui μ2 8 0 1 ((μ2.1 8 0 1) + (1 : Int32))) (fun μ3 => some ((μ2.1 8 0 1), μ3))))) else (some ((-3 : Int32), μ))
def f_X3_add (N : Nat) (a1 : Int32) (μ : am_M) : Option (Int32 × am_M) := f_X3_add_0 N a1 μ
set_option maxHeartbeats 4000000 in
set_option maxRecDepth 100000 in
theorem p_X3_add_0 (G : am_G) (l : Launch) (d : Nat) (hd0 : 0 ≤ d) (N : Nat) (a1 : Int32) (μ : am_M) : sm_P G l am_ci d me_X3_add 0 [(0, .ref (am_ad G 8 0)), (1, .int a1)] [] μ (f_X3_add_0 N a1 μ) := by
  unfold f_X3_add_0
  refine sm_aload_n (pc := 0) dX3_add_0 rfl 0 rfl ?_
  refine sm_geti (pc := 1) dX3_add_1 fi_X3_18 ?_
  refine sm_bipush (pc := 4) dX3_add_4 (v := 50) (by decide) ?_
  refine sm_icmp_lt (pc := 6) (tgt := 12) dX3_add_6 (by decide) ?_ ?_
  · refine sm_aload_n (pc := 12) dX3_add_12 rfl 0 rfl ?_
    refine sm_getr (pc := 13) dX3_add_13 fi_X3_9 ?_
    refine sm_aload_n (pc := 16) dX3_add_16 rfl 0 rfl ?_
    refine sm_geti (pc := 17) dX3_add_17 fi_X3_18 ?_
    refine sm_iload_n (pc := 20) dX3_add_20 rfl 1 rfl ?_
    refine sm_iast (pc := 21) dX3_add_21 ly_128 (by decide) (fun j1 hj1 => ?_)
    refine sm_nmM (fun μ2 => ?_)
    refine sm_aload_n (pc := 22) dX3_add_22 rfl 0 rfl ?_
    refine sm_dup (pc := 23) dX3_add_23 rfl ?_
    refine sm_geti (pc := 24) dX3_add_24 fi_X3_18 ?_
    refine sm_dup_x1 (pc := 27) dX3_add_27 rfl rfl ?_
    refine sm_iconst (pc := 28) dX3_add_28 (v := 1) (by decide) ?_
    refine sm_iadd (pc := 29) dX3_add_29 ?_
    refine sm_puti (pc := 30) dX3_add_30 fi_X3_18 ?_
    refine sm_nmM (fun μ3 => ?_)
    exact sm_iret (pc := 33) dX3_add_33 rfl
  · refine sm_bipush (pc := 9) dX3_add_9 (v := -3) (by decide) ?_
    exact sm_iret (pc := 11) dX3_add_11 rfl
theorem c_X3_add (G : am_G) (l : Launch) (N : Nat) (a1 : Int32) (μ : am_M) : ct_P G l am_ci 0 me_X3_add [.ref (am_ad G 8 0), .int a1] μ (f_X3_add N a1 μ) := ct_of (by decide +kernel) (Nat.le_of_ble_eq_true rfl) rfl (p_X3_add_0 G l 0 (Nat.le_refl _) N a1 μ)

def f_X3_kindOf_0 (N : Nat) (a1 : Int32) (μ : am_M) : Option (Int32 × am_M) :=
am_bd (f_X3_has N a1 μ) (fun y2 μ1 => if y2 = 0 then (some ((-1 : Int32), μ1)) else (am_gd a1 50 (fun j3 => some ((μ1.1 128 0 j3), μ1))))
def f_X3_kindOf (N : Nat) (a1 : Int32) (μ : am_M) : Option (Int32 × am_M) := f_X3_kindOf_0 N a1 μ
set_option maxHeartbeats 4000000 in
set_option maxRecDepth 100000 in
theorem p_X3_kindOf_0 (G : am_G) (l : Launch) (d : Nat) (hd0 : 2 ≤ d) (N : Nat) (a1 : Int32) (μ : am_M) : sm_P G l am_ci d me_X3_kindOf 0 [(0, .ref (am_ad G 8 0)), (1, .int a1)] [] μ (f_X3_kindOf_0 N a1 μ) := by
  unfold f_X3_kindOf_0
  refine sm_aload_n (pc := 0) dX3_kindOf_0 rfl 0 rfl ?_
  refine sm_iload_n (pc := 1) dX3_kindOf_1 rfl 1 rfl ?_
  refine sm_callVi (pc := 2) (As := [.int a1]) (rest := []) dX3_kindOf_2 (c_X3_has G l N a1 μ) (by omega) wl_X3_26 vm_X3_has rfl rfl (Nat.le_of_ble_eq_true rfl) (fun y2 μ1 => ?_)
  refine sm_if_eq (pc := 5) (tgt := 17) dX3_kindOf_5 (by decide) ?_ ?_
  · refine sm_iconst (pc := 17) dX3_kindOf_17 (v := -1) (by decide) ?_
    exact sm_iret (pc := 18) dX3_kindOf_18 rfl
  · refine sm_aload_n (pc := 8) dX3_kindOf_8 rfl 0 rfl ?_
    refine sm_getr (pc := 9) dX3_kindOf_9 fi_X3_9 ?_
    refine sm_iload_n (pc := 12) dX3_kindOf_12 rfl 1 rfl ?_
    refine sm_iald (pc := 13) dX3_kindOf_13 ly_128 (by decide) (fun j3 hj3 => ?_)
    refine sm_goto (pc := 14) (tgt := 18) dX3_kindOf_14 (by decide) ?_
    exact sm_iret (pc := 18) dX3_kindOf_18 rfl
theorem c_X3_kindOf (G : am_G) (l : Launch) (N : Nat) (a1 : Int32) (μ : am_M) : ct_P G l am_ci 2 me_X3_kindOf [.ref (am_ad G 8 0), .int a1] μ (f_X3_kindOf N a1 μ) := ct_of (by decide +kernel) (Nat.le_of_ble_eq_true rfl) rfl (p_X3_kindOf_0 G l 2 (Nat.le_refl _) N a1 μ)

def f_X3_aboveOf_0 (N : Nat) (a0 : Int32) (μ : am_M) : Option (Int32 × am_M) :=
am_bd (f_X9_isWithin N a0 (0 : Int32) (7 : Int32) μ) (fun y2 μ1 => if y2 = 0 then (some ((-1 : Int32), μ1)) else (am_gd a0 8 (fun j3 => some (((am_tab 4).getD j3 0), μ1))))
def f_X3_aboveOf (N : Nat) (a0 : Int32) (μ : am_M) : Option (Int32 × am_M) := f_X3_aboveOf_0 N a0 μ
set_option maxHeartbeats 4000000 in
set_option maxRecDepth 100000 in
theorem p_X3_aboveOf_0 (G : am_G) (l : Launch) (d : Nat) (hd0 : 1 ≤ d) (N : Nat) (a0 : Int32) (μ : am_M) : sm_P G l am_ci d me_X3_aboveOf 0 [(0, .int a0)] [] μ (f_X3_aboveOf_0 N a0 μ) := by
  unfold f_X3_aboveOf_0
  refine sm_iload_n (pc := 0) dX3_aboveOf_0 rfl 0 rfl ?_
  refine sm_iconst (pc := 1) dX3_aboveOf_1 (v := 0) (by decide) ?_
  refine sm_bipush (pc := 2) dX3_aboveOf_2 (v := 7) (by decide) ?_
  refine sm_callNi (pc := 4) (As := [.int a0, .int (0 : Int32), .int (7 : Int32)]) (rest := []) dX3_aboveOf_4 (c_X9_isWithin G l N a0 (0 : Int32) (7 : Int32) μ) (by omega) wl_X3_22 st_X9_isWithin rfl rfl (Nat.le_of_ble_eq_true rfl) (fun y2 μ1 => ?_)
  refine sm_if_eq (pc := 7) (tgt := 18) dX3_aboveOf_7 (by decide) ?_ ?_
  · refine sm_iconst (pc := 18) dX3_aboveOf_18 (v := -1) (by decide) ?_
    exact sm_iret (pc := 19) dX3_aboveOf_19 rfl
  · refine sm_gets (pc := 10) (j := 4) dX3_aboveOf_10 wf_X3_62 rfl ?_
    refine sm_iload_n (pc := 13) dX3_aboveOf_13 rfl 0 rfl ?_
    refine sm_tald (pc := 14) (j := 4) (tb := am_tab 4) dX3_aboveOf_14 rfl (fun j3 hj3 => ?_)
    refine sm_goto (pc := 15) (tgt := 19) dX3_aboveOf_15 (by decide) ?_
    exact sm_iret (pc := 19) dX3_aboveOf_19 rfl
theorem c_X3_aboveOf (G : am_G) (l : Launch) (N : Nat) (a0 : Int32) (μ : am_M) : ct_P G l am_ci 1 me_X3_aboveOf [.int a0] μ (f_X3_aboveOf N a0 μ) := ct_of (by decide +kernel) (Nat.le_of_ble_eq_true rfl) rfl (p_X3_aboveOf_0 G l 1 (Nat.le_refl _) N a0 μ)

def f_X3_isUnder_28 (N : Nat) (x2 : Int32) (x3 : Int32) (μ : am_M) : Option (Int32 × am_M) :=
if x3 = x2 then (am_z (1 : Int32) μ) else (am_z (0 : Int32) μ)
def f_X3_isUnder_5 (N : Nat) (r_5 : Int32 → Int32 → Int32 → am_M → Option (Int32 × am_M)) (x2 : Int32) (x3 : Int32) (x4 : Int32) (μ : am_M) : Option (Int32 × am_M) :=
if (8 : Int32) ≤ x4 then (f_X3_isUnder_28 N x2 x3 μ) else (if x3 = x2 then (f_X3_isUnder_28 N x2 x3 μ) else (am_bd (f_X3_aboveOf N x3 μ) (fun y2 μ1 => r_5 x2 y2 (x4 + (1 : Int32)) μ1)))
def f_X3_isUnder_5_lp (N : Nat) : Nat → Int32 → Int32 → Int32 → am_M → Option (Int32 × am_M)
  | 0, _, _, _, _ => none
  | n + 1, x2, x3, x4, μ => f_X3_isUnder_5 N (f_X3_isUnder_5_lp N n) x2 x3 x4 μ
def f_X3_isUnder_0 (N : Nat) (a1 : Int32) (a2 : Int32) (μ : am_M) : Option (Int32 × am_M) :=
f_X3_isUnder_5_lp N N a2 a1 (0 : Int32) μ
def f_X3_isUnder (N : Nat) (a1 : Int32) (a2 : Int32) (μ : am_M) : Option (Int32 × am_M) := f_X3_isUnder_0 N a1 a2 μ
set_option maxHeartbeats 4000000 in
set_option maxRecDepth 100000 in
theorem p_X3_isUnder_28 (G : am_G) (l : Launch) (d : Nat) (hd0 : 2 ≤ d) (N : Nat) (x2 : Int32) (x3 : Int32) (μ : am_M) : sm_P G l am_ci d me_X3_isUnder 28 [(0, .ref (am_ad G 8 0)), (2, .int x2), (3, .int x3)] [] μ (f_X3_isUnder_28 N x2 x3 μ) := by
  unfold f_X3_isUnder_28
  refine sm_iload_n (pc := 28) dX3_isUnder_28 rfl 2 rfl ?_
  refine sm_iload_n (pc := 29) dX3_isUnder_29 rfl 1 rfl ?_
  refine sm_icmp_ne (pc := 30) (tgt := 37) dX3_isUnder_30 (by decide) ?_ ?_
  · refine sm_iconst (pc := 37) dX3_isUnder_37 (v := 0) (by decide) ?_
    exact sm_zret (pc := 38) dX3_isUnder_38 rfl
  · refine sm_iconst (pc := 33) dX3_isUnder_33 (v := 1) (by decide) ?_
    refine sm_goto (pc := 34) (tgt := 38) dX3_isUnder_34 (by decide) ?_
    exact sm_zret (pc := 38) dX3_isUnder_38 rfl
set_option maxHeartbeats 4000000 in
set_option maxRecDepth 100000 in
theorem p_X3_isUnder_5 (G : am_G) (l : Launch) (d : Nat) (hd0 : 2 ≤ d) (N : Nat) (r_5 : Int32 → Int32 → Int32 → am_M → Option (Int32 × am_M)) (H_5 : ∀ (x2 : Int32) (x3 : Int32) (x4 : Int32) (μ : am_M), sm_P G l am_ci d me_X3_isUnder 5 [(0, .ref (am_ad G 8 0)), (2, .int x2), (3, .int x3), (4, .int x4)] [] μ (r_5 x2 x3 x4 μ)) (x2 : Int32) (x3 : Int32) (x4 : Int32) (μ : am_M) : sm_P G l am_ci d me_X3_isUnder 5 [(0, .ref (am_ad G 8 0)), (2, .int x2), (3, .int x3), (4, .int x4)] [] μ (f_X3_isUnder_5 N r_5 x2 x3 x4 μ) := by
  unfold f_X3_isUnder_5
  refine sm_iload (pc := 5) dX3_isUnder_5 3 rfl ?_
  refine sm_bipush (pc := 7) dX3_isUnder_7 (v := 8) (by decide) ?_
  refine sm_icmp_ge (pc := 9) (tgt := 28) dX3_isUnder_9 (by decide) ?_ ?_
  · refine sm_sub [0, 1, 2] rfl ?_
    exact p_X3_isUnder_28 G l d hd0 N x2 x3 μ
  · refine sm_iload_n (pc := 12) dX3_isUnder_12 rfl 2 rfl ?_
    refine sm_iload_n (pc := 13) dX3_isUnder_13 rfl 1 rfl ?_
    refine sm_icmp_eq (pc := 14) (tgt := 28) dX3_isUnder_14 (by decide) ?_ ?_
    · refine sm_sub [0, 1, 2] rfl ?_
      exact p_X3_isUnder_28 G l d hd0 N x2 x3 μ
    · refine sm_iload_n (pc := 17) dX3_isUnder_17 rfl 2 rfl ?_
      refine sm_callSi (pc := 18) (As := [.int x3]) (rest := []) dX3_isUnder_18 (c_X3_aboveOf G l N x3 μ) (by omega) wl_X3_30 st_X3_aboveOf rfl rfl (Nat.le_of_ble_eq_true rfl) (fun y2 μ1 => ?_)
      refine sm_istore_n (pc := 21) (lv' := [(3, .int y2), (0, .ref (am_ad G 8 0)), (2, .int x2), (4, .int x4)]) dX3_isUnder_21 rfl (by decide) rfl ?_
      refine sm_iinc (pc := 22) (v := (x4 + (1 : Int32))) (lv' := [(4, .int (x4 + (1 : Int32))), (3, .int y2), (0, .ref (am_ad G 8 0)), (2, .int x2)]) dX3_isUnder_22 3 rfl rfl (by decide) rfl ?_
      refine sm_goto (pc := 25) (tgt := 5) dX3_isUnder_25 (by decide) ?_
      refine sm_sub [2, 3, 1, 0] rfl ?_
      exact H_5 x2 y2 (x4 + (1 : Int32)) μ1
theorem p_X3_isUnder_5_lp (G : am_G) (l : Launch) (d : Nat) (hd0 : 2 ≤ d) (N : Nat) : ∀ (n : Nat) (x2 : Int32) (x3 : Int32) (x4 : Int32) (μ : am_M), sm_P G l am_ci d me_X3_isUnder 5 [(0, .ref (am_ad G 8 0)), (2, .int x2), (3, .int x3), (4, .int x4)] [] μ (f_X3_isUnder_5_lp N n x2 x3 x4 μ) := by
  intro n
  induction n with
  | zero => intros; exact sm_none
  | succ n ih => exact fun x2 x3 x4 μ => p_X3_isUnder_5 G l d hd0 N (f_X3_isUnder_5_lp N n) ih x2 x3 x4 μ
set_option maxHeartbeats 4000000 in
set_option maxRecDepth 100000 in
theorem p_X3_isUnder_0 (G : am_G) (l : Launch) (d : Nat) (hd0 : 2 ≤ d) (N : Nat) (a1 : Int32) (a2 : Int32) (μ : am_M) : sm_P G l am_ci d me_X3_isUnder 0 [(0, .ref (am_ad G 8 0)), (1, .int a1), (2, .int a2)] [] μ (f_X3_isUnder_0 N a1 a2 μ) := by
  unfold f_X3_isUnder_0
  refine sm_iload_n (pc := 0) dX3_isUnder_0 rfl 1 rfl ?_
  refine sm_istore_n (pc := 1) (lv' := [(3, .int a1), (0, .ref (am_ad G 8 0)), (1, .int a1), (2, .int a2)]) dX3_isUnder_1 rfl (by decide) rfl ?_
  refine sm_iconst (pc := 2) dX3_isUnder_2 (v := 0) (by decide) ?_
  refine sm_istore (pc := 3) (lv' := [(4, .int (0 : Int32)), (3, .int a1), (0, .ref (am_ad G 8 0)), (1, .int a1), (2, .int a2)]) dX3_isUnder_3 (by decide) rfl ?_
  refine sm_sub [2, 4, 1, 0] rfl ?_
  exact p_X3_isUnder_5_lp G l d hd0 N N a2 a1 (0 : Int32) μ
theorem c_X3_isUnder (G : am_G) (l : Launch) (N : Nat) (a1 : Int32) (a2 : Int32) (μ : am_M) : ct_P G l am_ci 2 me_X3_isUnder [.ref (am_ad G 8 0), .int a1, .int a2] μ (f_X3_isUnder N a1 a2 μ) := ct_of (by decide +kernel) (Nat.le_of_ble_eq_true rfl) rfl (p_X3_isUnder_0 G l 2 (Nat.le_refl _) N a1 a2 μ)

def f_X3_forget_0 (N : Nat) (μ : am_M) : Option (Unit × am_M) :=
am_nm (am_ui μ 8 0 3 (0 : Int32)) (fun μ1 => some ((), μ1))
def f_X3_forget (N : Nat) (μ : am_M) : Option (Unit × am_M) := f_X3_forget_0 N μ
set_option maxHeartbeats 4000000 in
set_option maxRecDepth 100000 in
theorem p_X3_forget_0 (G : am_G) (l : Launch) (d : Nat) (hd0 : 0 ≤ d) (N : Nat) (μ : am_M) : sm_P G l am_cu d me_X3_forget 0 [(0, .ref (am_ad G 8 0))] [] μ (f_X3_forget_0 N μ) := by
  unfold f_X3_forget_0
  refine sm_aload_n (pc := 0) dX3_forget_0 rfl 0 rfl ?_
  refine sm_iconst (pc := 1) dX3_forget_1 (v := 0) (by decide) ?_
  refine sm_puti (pc := 2) dX3_forget_2 fi_X3_34 ?_
  refine sm_nmM (fun μ1 => ?_)
  exact sm_vret (pc := 5) dX3_forget_5 rfl
theorem c_X3_forget (G : am_G) (l : Launch) (N : Nat) (μ : am_M) : ct_P G l am_cu 0 me_X3_forget [.ref (am_ad G 8 0)] μ (f_X3_forget N μ) := ct_of (by decide +kernel) (Nat.le_of_ble_eq_true rfl) rfl (p_X3_forget_0 G l 0 (Nat.le_refl _) N μ)

def f_X3_traced_0 (N : Nat) (a1 : Int32) (μ : am_M) : Option (Int32 × am_M) :=
am_nm (if (24 : Int32) < (μ.1 8 0 3) then (24 : Int32) else (μ.1 8 0 3)) (fun y1 => am_bd (f_X9_isWithin N a1 (0 : Int32) (y1 - (1 : Int32)) μ) (fun y3 μ2 => if y3 = 0 then (some ((-1 : Int32), μ2)) else (am_gd a1 24 (fun j4 => some ((μ2.1 130 0 j4), μ2)))))
def f_X3_traced (N : Nat) (a1 : Int32) (μ : am_M) : Option (Int32 × am_M) := f_X3_traced_0 N a1 μ
set_option maxHeartbeats 4000000 in
set_option maxRecDepth 100000 in
theorem p_X3_traced_0 (G : am_G) (l : Launch) (d : Nat) (hd0 : 1 ≤ d) (N : Nat) (a1 : Int32) (μ : am_M) : sm_P G l am_ci d me_X3_traced 0 [(0, .ref (am_ad G 8 0)), (1, .int a1)] [] μ (f_X3_traced_0 N a1 μ) := by
  unfold f_X3_traced_0
  refine sm_iload_n (pc := 0) dX3_traced_0 rfl 1 rfl ?_
  refine sm_iconst (pc := 1) dX3_traced_1 (v := 0) (by decide) ?_
  refine sm_aload_n (pc := 2) dX3_traced_2 rfl 0 rfl ?_
  refine sm_geti (pc := 3) dX3_traced_3 fi_X3_34 ?_
  refine sm_bipush (pc := 6) dX3_traced_6 (v := 24) (by decide) ?_
  refine sm_min (pc := 8) dX3_traced_8 (by omega) (Nat.le_of_ble_eq_true rfl) wl_X3_37 wd_min wd_minit wd_minc ?_
  refine sm_nmI (fun y1 => ?_)
  refine sm_iconst (pc := 11) dX3_traced_11 (v := 1) (by decide) ?_
  refine sm_isub (pc := 12) dX3_traced_12 ?_
  refine sm_callNi (pc := 13) (As := [.int a1, .int (0 : Int32), .int (y1 - (1 : Int32))]) (rest := []) dX3_traced_13 (c_X9_isWithin G l N a1 (0 : Int32) (y1 - (1 : Int32)) μ) (by omega) wl_X3_22 st_X9_isWithin rfl rfl (Nat.le_of_ble_eq_true rfl) (fun y3 μ2 => ?_)
  refine sm_if_eq (pc := 16) (tgt := 28) dX3_traced_16 (by decide) ?_ ?_
  · refine sm_iconst (pc := 28) dX3_traced_28 (v := -1) (by decide) ?_
    exact sm_iret (pc := 29) dX3_traced_29 rfl
  · refine sm_aload_n (pc := 19) dX3_traced_19 rfl 0 rfl ?_
    refine sm_getr (pc := 20) dX3_traced_20 fi_X3_15 ?_
    refine sm_iload_n (pc := 23) dX3_traced_23 rfl 1 rfl ?_
    refine sm_iald (pc := 24) dX3_traced_24 ly_130 (by decide) (fun j4 hj4 => ?_)
    refine sm_goto (pc := 25) (tgt := 29) dX3_traced_25 (by decide) ?_
    exact sm_iret (pc := 29) dX3_traced_29 rfl
theorem c_X3_traced (G : am_G) (l : Launch) (N : Nat) (a1 : Int32) (μ : am_M) : ct_P G l am_ci 1 me_X3_traced [.ref (am_ad G 8 0), .int a1] μ (f_X3_traced N a1 μ) := ct_of (by decide +kernel) (Nat.le_of_ble_eq_true rfl) rfl (p_X3_traced_0 G l 1 (Nat.le_refl _) N a1 μ)

def f_X3_bodyOf_0 (N : Nat) (a0 : Int32) (a1 : Int32) (μ : am_M) : Option (Int32 × am_M) :=
am_bd (f_X9_isWithin N a0 (0 : Int32) (7 : Int32) μ) (fun y2 μ1 => if y2 = 0 then (some ((0 : Int32), μ1)) else (if a1 = (0 : Int32) then (am_gd a0 8 (fun j4 => some (((am_tab 0).getD j4 0), μ1))) else (if a1 = (1 : Int32) then (am_gd a0 8 (fun j6 => some (((am_tab 1).getD j6 0), μ1))) else (if a1 = (2 : Int32) then (am_gd a0 8 (fun j8 => some (((am_tab 2).getD j8 0), μ1))) else (am_gd a0 8 (fun j9 => some (((am_tab 3).getD j9 0), μ1)))))))
def f_X3_bodyOf (N : Nat) (a0 : Int32) (a1 : Int32) (μ : am_M) : Option (Int32 × am_M) := f_X3_bodyOf_0 N a0 a1 μ
set_option maxHeartbeats 4000000 in
set_option maxRecDepth 100000 in
theorem p_X3_bodyOf_0 (G : am_G) (l : Launch) (d : Nat) (hd0 : 1 ≤ d) (N : Nat) (a0 : Int32) (a1 : Int32) (μ : am_M) : sm_P G l am_ci d me_X3_bodyOf 0 [(0, .int a0), (1, .int a1)] [] μ (f_X3_bodyOf_0 N a0 a1 μ) := by
  unfold f_X3_bodyOf_0
  refine sm_iload_n (pc := 0) dX3_bodyOf_0 rfl 0 rfl ?_
  refine sm_iconst (pc := 1) dX3_bodyOf_1 (v := 0) (by decide) ?_
  refine sm_bipush (pc := 2) dX3_bodyOf_2 (v := 7) (by decide) ?_
  refine sm_callNi (pc := 4) (As := [.int a0, .int (0 : Int32), .int (7 : Int32)]) (rest := []) dX3_bodyOf_4 (c_X9_isWithin G l N a0 (0 : Int32) (7 : Int32) μ) (by omega) wl_X3_22 st_X9_isWithin rfl rfl (Nat.le_of_ble_eq_true rfl) (fun y2 μ1 => ?_)
  refine sm_if_ne (pc := 7) (tgt := 12) dX3_bodyOf_7 (by decide) ?_ ?_
  · refine sm_iload_n (pc := 12) dX3_bodyOf_12 rfl 1 rfl ?_
    refine sm_ite (fun e3 => ?_) (fun e3 => ?_)
    · refine sm_tsi (pc := 13) (c1 := 0) (off := 27) (tgt := 40) e3 dX3_bodyOf_13 (by decide) (by decide) (by decide) (by decide) ?_
      refine sm_gets (pc := 40) (j := 0) dX3_bodyOf_40 wf_X3_65 rfl ?_
      refine sm_iload_n (pc := 43) dX3_bodyOf_43 rfl 0 rfl ?_
      refine sm_tald (pc := 44) (j := 0) (tb := am_tab 0) dX3_bodyOf_44 rfl (fun j4 hj4 => ?_)
      exact sm_iret (pc := 45) dX3_bodyOf_45 rfl
    refine sm_ite (fun e5 => ?_) (fun e5 => ?_)
    · refine sm_tsi (pc := 13) (c1 := 1) (off := 33) (tgt := 46) e5 dX3_bodyOf_13 (by decide) (by decide) (by decide) (by decide) ?_
      refine sm_gets (pc := 46) (j := 1) dX3_bodyOf_46 wf_X3_68 rfl ?_
      refine sm_iload_n (pc := 49) dX3_bodyOf_49 rfl 0 rfl ?_
      refine sm_tald (pc := 50) (j := 1) (tb := am_tab 1) dX3_bodyOf_50 rfl (fun j6 hj6 => ?_)
      exact sm_iret (pc := 51) dX3_bodyOf_51 rfl
    refine sm_ite (fun e7 => ?_) (fun e7 => ?_)
    · refine sm_tsi (pc := 13) (c1 := 2) (off := 39) (tgt := 52) e7 dX3_bodyOf_13 (by decide) (by decide) (by decide) (by decide) ?_
      refine sm_gets (pc := 52) (j := 2) dX3_bodyOf_52 wf_X3_71 rfl ?_
      refine sm_iload_n (pc := 55) dX3_bodyOf_55 rfl 0 rfl ?_
      refine sm_tald (pc := 56) (j := 2) (tb := am_tab 2) dX3_bodyOf_56 rfl (fun j8 hj8 => ?_)
      exact sm_iret (pc := 57) dX3_bodyOf_57 rfl
    replace e3 := am_ne (n := 0) (by decide) e3
    replace e5 := am_ne (n := 1) (by decide) e5
    replace e7 := am_ne (n := 2) (by decide) e7
    refine sm_tso (pc := 13) (tgt := 58) dX3_bodyOf_13 (by omega) (by decide) ?_
    refine sm_gets (pc := 58) (j := 3) dX3_bodyOf_58 wf_X3_74 rfl ?_
    refine sm_iload_n (pc := 61) dX3_bodyOf_61 rfl 0 rfl ?_
    refine sm_tald (pc := 62) (j := 3) (tb := am_tab 3) dX3_bodyOf_62 rfl (fun j9 hj9 => ?_)
    exact sm_iret (pc := 63) dX3_bodyOf_63 rfl
  · refine sm_iconst (pc := 10) dX3_bodyOf_10 (v := 0) (by decide) ?_
    exact sm_iret (pc := 11) dX3_bodyOf_11 rfl
theorem c_X3_bodyOf (G : am_G) (l : Launch) (N : Nat) (a0 : Int32) (a1 : Int32) (μ : am_M) : ct_P G l am_ci 1 me_X3_bodyOf [.int a0, .int a1] μ (f_X3_bodyOf N a0 a1 μ) := ct_of (by decide +kernel) (Nat.le_of_ble_eq_true rfl) rfl (p_X3_bodyOf_0 G l 1 (Nat.le_refl _) N a0 a1 μ)

def f_X3_run_77 (N : Nat) (g_X3_run : Int32 → Int32 → Int32 → Int32 → am_M → Option (Int32 × am_M)) (g_X3_runBody : Int32 → Int32 → Int32 → Int32 → am_M → Option (Int32 × am_M)) (x3 : Int32) (x4 : Int32) (x5 : Int32) (x6 : Int32) (μ : am_M) : Option (Int32 × am_M) :=
am_nm (am_ui μ 8 0 3 ((μ.1 8 0 3) + (1 : Int32))) (fun μ3 => am_bd (f_X3_aboveOf N x5 μ3) (fun y5 μ4 => am_bd (g_X3_runBody x6 y5 x3 (x4 + (1 : Int32)) μ4) (fun y7 μ6 => some (y7, μ6))))
def f_X3_run_35 (N : Nat) (g_X3_run : Int32 → Int32 → Int32 → Int32 → am_M → Option (Int32 × am_M)) (g_X3_runBody : Int32 → Int32 → Int32 → Int32 → am_M → Option (Int32 × am_M)) (x2 : Int32) (x3 : Int32) (x4 : Int32) (x5 : Int32) (μ : am_M) : Option (Int32 × am_M) :=
am_bd (f_X3_bodyOf N x5 x2 μ) (fun y2 μ1 => if y2 = 0 then (some ((0 : Int32), μ1)) else (if x4 ≤ (30 : Int32) then (if (24 : Int32) ≤ (μ1.1 8 0 3) then (f_X3_run_77 N g_X3_run g_X3_runBody x3 x4 x5 y2 μ1) else (am_gd (μ1.1 8 0 3) 24 (fun j8 => am_nm (am_ui μ1 130 0 j8 y2) (fun μ9 => f_X3_run_77 N g_X3_run g_X3_runBody x3 x4 x5 y2 μ9)))) else (some ((0 : Int32), μ1))))
def f_X3_run_6 (N : Nat) (g_X3_run : Int32 → Int32 → Int32 → Int32 → am_M → Option (Int32 × am_M)) (g_X3_runBody : Int32 → Int32 → Int32 → Int32 → am_M → Option (Int32 × am_M)) (r_6 : Int32 → Int32 → Int32 → Int32 → Int32 → am_M → Option (Int32 × am_M)) (x2 : Int32) (x3 : Int32) (x4 : Int32) (x5 : Int32) (x6 : Int32) (μ : am_M) : Option (Int32 × am_M) :=
if (8 : Int32) ≤ x6 then (f_X3_run_35 N g_X3_run g_X3_runBody x2 x3 x4 x5 μ) else (am_bd (f_X3_bodyOf N x5 x2 μ) (fun y11 μ10 => if y11 = 0 then (am_bd (f_X3_aboveOf N x5 μ10) (fun y13 μ12 => r_6 x2 x3 x4 y13 (x6 + (1 : Int32)) μ12)) else (f_X3_run_35 N g_X3_run g_X3_runBody x2 x3 x4 x5 μ10)))
def f_X3_run_6_lp (N : Nat) (g_X3_run : Int32 → Int32 → Int32 → Int32 → am_M → Option (Int32 × am_M)) (g_X3_runBody : Int32 → Int32 → Int32 → Int32 → am_M → Option (Int32 × am_M)) : Nat → Int32 → Int32 → Int32 → Int32 → Int32 → am_M → Option (Int32 × am_M)
  | 0, _, _, _, _, _, _ => none
  | n + 1, x2, x3, x4, x5, x6, μ => f_X3_run_6 N g_X3_run g_X3_runBody (f_X3_run_6_lp N g_X3_run g_X3_runBody n) x2 x3 x4 x5 x6 μ
def f_X3_run_0 (N : Nat) (g_X3_run : Int32 → Int32 → Int32 → Int32 → am_M → Option (Int32 × am_M)) (g_X3_runBody : Int32 → Int32 → Int32 → Int32 → am_M → Option (Int32 × am_M)) (a1 : Int32) (a2 : Int32) (a3 : Int32) (a4 : Int32) (μ : am_M) : Option (Int32 × am_M) :=
f_X3_run_6_lp N g_X3_run g_X3_runBody N a2 a3 a4 a1 (0 : Int32) μ
def f_X3_runBody_0 (N : Nat) (g_X3_run : Int32 → Int32 → Int32 → Int32 → am_M → Option (Int32 × am_M)) (g_X3_runBody : Int32 → Int32 → Int32 → Int32 → am_M → Option (Int32 × am_M)) (a1 : Int32) (a2 : Int32) (a3 : Int32) (a4 : Int32) (μ : am_M) : Option (Int32 × am_M) :=
if a1 = (1 : Int32) then (some ((a3 + (μ.1 8 0 4)), μ)) else (if a1 = (2 : Int32) then (am_bd (g_X3_run (μ.1 8 0 5) (1 : Int32) a3 a4 μ) (fun y4 μ3 => am_bd (g_X3_run (μ3.1 8 0 5) (2 : Int32) (1 : Int32) a4 μ3) (fun y6 μ5 => some ((y4 - y6), μ5)))) else (if a1 = (10 : Int32) then (am_bd (g_X3_run (μ.1 8 0 5) (0 : Int32) a3 a4 μ) (fun y9 μ8 => some ((y9 * (2 : Int32)), μ8))) else (if a1 = (11 : Int32) then (some ((a3 ^^^ (μ.1 8 0 4)), μ)) else (if a1 = (20 : Int32) then (am_bd (g_X3_run a2 (0 : Int32) a3 a4 μ) (fun y13 μ12 => some ((y13 + (3 : Int32)), μ12))) else (if a1 = (30 : Int32) then (am_bd (g_X3_run a2 (1 : Int32) a3 a4 μ) (fun y16 μ15 => some ((-y16), μ15))) else (if a1 = (40 : Int32) then (am_bd (g_X3_run a2 (2 : Int32) a3 a4 μ) (fun y19 μ18 => some ((y19 * (3 : Int32)), μ18))) else (if a1 = (50 : Int32) then (am_bd (g_X3_run a2 (2 : Int32) a3 a4 μ) (fun y22 μ21 => am_bd (g_X3_run (μ21.1 8 0 5) (0 : Int32) (2 : Int32) a4 μ21) (fun y24 μ23 => some ((y22 - y24), μ23)))) else (if a1 = (60 : Int32) then (am_bd (g_X3_run a2 (0 : Int32) (a3 + (1 : Int32)) a4 μ) (fun y27 μ26 => some (y27, μ26))) else (if a1 = (61 : Int32) then (am_bd (g_X3_run a2 (3 : Int32) a3 a4 μ) (fun y30 μ29 => some ((y30 ^^^ (5 : Int32)), μ29))) else (if a1 = (70 : Int32) then (am_bd (g_X3_run a2 (0 : Int32) a3 a4 μ) (fun y33 μ32 => some ((y33 * (2 : Int32)), μ32))) else (if a1 = (80 : Int32) then (am_bd (g_X3_run a2 (1 : Int32) a3 a4 μ) (fun y36 μ35 => am_bd (g_X3_run (μ35.1 8 0 5) (2 : Int32) (2 : Int32) a4 μ35) (fun y38 μ37 => some ((y36 + y38), μ37)))) else (if a1 = (81 : Int32) then (am_bd (g_X3_run a2 (3 : Int32) a3 a4 μ) (fun y41 μ40 => some ((y41 - (1 : Int32)), μ40))) else (some ((0 : Int32), μ))))))))))))))
def f_X3_run_g (N : Nat) : Nat → ((Int32 → Int32 → Int32 → Int32 → am_M → Option (Int32 × am_M)) × (Int32 → Int32 → Int32 → Int32 → am_M → Option (Int32 × am_M)))
  | 0 => (fun _ _ _ _ _ => none, fun _ _ _ _ _ => none)
  | D + 1 => (f_X3_run_0 N (f_X3_run_g N D).1 (f_X3_run_g N D).2, f_X3_runBody_0 N (f_X3_run_g N D).1 (f_X3_run_g N D).2)
def f_X3_run (N : Nat) (a1 : Int32) (a2 : Int32) (a3 : Int32) (a4 : Int32) (μ : am_M) : Option (Int32 × am_M) := (f_X3_run_g N 100).1 a1 a2 a3 a4 μ
def f_X3_runBody (N : Nat) (a1 : Int32) (a2 : Int32) (a3 : Int32) (a4 : Int32) (μ : am_M) : Option (Int32 × am_M) := (f_X3_run_g N 100).2 a1 a2 a3 a4 μ
set_option maxHeartbeats 4000000 in
set_option maxRecDepth 100000 in
theorem p_X3_run_77 (G : am_G) (l : Launch) (d : Nat) (hd0 : 2 ≤ d) (dd : Nat) (hdd : dd + 1 ≤ d) (N : Nat) (g_X3_run : Int32 → Int32 → Int32 → Int32 → am_M → Option (Int32 × am_M)) (g_X3_runBody : Int32 → Int32 → Int32 → Int32 → am_M → Option (Int32 × am_M)) (Hg_X3_run : ∀ (z0 : Int32) (z1 : Int32) (z2 : Int32) (z3 : Int32) (μ : am_M), ct_P G l am_ci dd me_X3_run [.ref (am_ad G 8 0), .int z0, .int z1, .int z2, .int z3] μ (g_X3_run z0 z1 z2 z3 μ)) (Hg_X3_runBody : ∀ (z0 : Int32) (z1 : Int32) (z2 : Int32) (z3 : Int32) (μ : am_M), ct_P G l am_ci dd me_X3_runBody [.ref (am_ad G 8 0), .int z0, .int z1, .int z2, .int z3] μ (g_X3_runBody z0 z1 z2 z3 μ)) (x3 : Int32) (x4 : Int32) (x5 : Int32) (x6 : Int32) (μ : am_M) : sm_P G l am_ci d me_X3_run 77 [(0, .ref (am_ad G 8 0)), (3, .int x3), (4, .int x4), (5, .int x5), (6, .int x6)] [] μ (f_X3_run_77 N g_X3_run g_X3_runBody x3 x4 x5 x6 μ) := by
  unfold f_X3_run_77
  refine sm_aload_n (pc := 77) dX3_run_77 rfl 0 rfl ?_
  refine sm_dup (pc := 78) dX3_run_78 rfl ?_
  refine sm_geti (pc := 79) dX3_run_79 fi_X3_34 ?_
  refine sm_iconst (pc := 82) dX3_run_82 (v := 1) (by decide) ?_
  refine sm_iadd (pc := 83) dX3_run_83 ?_
  refine sm_puti (pc := 84) dX3_run_84 fi_X3_34 ?_
  refine sm_nmM (fun μ3 => ?_)
  refine sm_aload_n (pc := 87) dX3_run_87 rfl 0 rfl ?_
  refine sm_iload (pc := 88) dX3_run_88 4 rfl ?_
  refine sm_iload (pc := 90) dX3_run_90 3 rfl ?_
  refine sm_callSi (pc := 92) (As := [.int x5]) (rest := [.int x6, .ref (am_ad G 8 0)]) dX3_run_92 (c_X3_aboveOf G l N x5 μ3) (by omega) wl_X3_30 st_X3_aboveOf rfl rfl (Nat.le_of_ble_eq_true rfl) (fun y5 μ4 => ?_)
  refine sm_iload_n (pc := 95) dX3_run_95 rfl 1 rfl ?_
  refine sm_iload (pc := 96) dX3_run_96 2 rfl ?_
  refine sm_iconst (pc := 98) dX3_run_98 (v := 1) (by decide) ?_
  refine sm_iadd (pc := 99) dX3_run_99 ?_
  refine sm_callVi (pc := 100) (As := [.int x6, .int y5, .int x3, .int (x4 + (1 : Int32))]) (rest := []) dX3_run_100 (Hg_X3_runBody x6 y5 x3 (x4 + (1 : Int32)) μ4) (by omega) wl_X3_59 vm_X3_runBody rfl rfl (Nat.le_of_ble_eq_true rfl) (fun y7 μ6 => ?_)
  exact sm_iret (pc := 103) dX3_run_103 rfl
set_option maxHeartbeats 4000000 in
set_option maxRecDepth 100000 in
theorem p_X3_run_35 (G : am_G) (l : Launch) (d : Nat) (hd0 : 2 ≤ d) (dd : Nat) (hdd : dd + 1 ≤ d) (N : Nat) (g_X3_run : Int32 → Int32 → Int32 → Int32 → am_M → Option (Int32 × am_M)) (g_X3_runBody : Int32 → Int32 → Int32 → Int32 → am_M → Option (Int32 × am_M)) (Hg_X3_run : ∀ (z0 : Int32) (z1 : Int32) (z2 : Int32) (z3 : Int32) (μ : am_M), ct_P G l am_ci dd me_X3_run [.ref (am_ad G 8 0), .int z0, .int z1, .int z2, .int z3] μ (g_X3_run z0 z1 z2 z3 μ)) (Hg_X3_runBody : ∀ (z0 : Int32) (z1 : Int32) (z2 : Int32) (z3 : Int32) (μ : am_M), ct_P G l am_ci dd me_X3_runBody [.ref (am_ad G 8 0), .int z0, .int z1, .int z2, .int z3] μ (g_X3_runBody z0 z1 z2 z3 μ)) (x2 : Int32) (x3 : Int32) (x4 : Int32) (x5 : Int32) (μ : am_M) : sm_P G l am_ci d me_X3_run 35 [(0, .ref (am_ad G 8 0)), (2, .int x2), (3, .int x3), (4, .int x4), (5, .int x5)] [] μ (f_X3_run_35 N g_X3_run g_X3_runBody x2 x3 x4 x5 μ) := by
  unfold f_X3_run_35
  refine sm_iload (pc := 35) dX3_run_35 4 rfl ?_
  refine sm_iload_n (pc := 37) dX3_run_37 rfl 1 rfl ?_
  refine sm_callSi (pc := 38) (As := [.int x5, .int x2]) (rest := []) dX3_run_38 (c_X3_bodyOf G l N x5 x2 μ) (by omega) wl_X3_56 st_X3_bodyOf rfl rfl (Nat.le_of_ble_eq_true rfl) (fun y2 μ1 => ?_)
  refine sm_istore (pc := 41) (lv' := [(6, .int y2), (0, .ref (am_ad G 8 0)), (2, .int x2), (3, .int x3), (4, .int x4), (5, .int x5)]) dX3_run_41 (by decide) rfl ?_
  refine sm_iload (pc := 43) dX3_run_43 0 rfl ?_
  refine sm_if_eq (pc := 45) (tgt := 55) dX3_run_45 (by decide) ?_ ?_
  · refine sm_iconst (pc := 55) dX3_run_55 (v := 0) (by decide) ?_
    exact sm_iret (pc := 56) dX3_run_56 rfl
  · refine sm_iload (pc := 48) dX3_run_48 4 rfl ?_
    refine sm_bipush (pc := 50) dX3_run_50 (v := 30) (by decide) ?_
    refine sm_icmp_le (pc := 52) (tgt := 57) dX3_run_52 (by decide) ?_ ?_
    · refine sm_aload_n (pc := 57) dX3_run_57 rfl 1 rfl ?_
      refine sm_geti (pc := 58) dX3_run_58 fi_X3_34 ?_
      refine sm_bipush (pc := 61) dX3_run_61 (v := 24) (by decide) ?_
      refine sm_icmp_ge (pc := 63) (tgt := 77) dX3_run_63 (by decide) ?_ ?_
      · refine sm_sub [1, 3, 4, 5, 0] rfl ?_
        exact p_X3_run_77 G l d hd0 dd hdd N g_X3_run g_X3_runBody Hg_X3_run Hg_X3_runBody x3 x4 x5 y2 μ1
      · refine sm_aload_n (pc := 66) dX3_run_66 rfl 1 rfl ?_
        refine sm_getr (pc := 67) dX3_run_67 fi_X3_15 ?_
        refine sm_aload_n (pc := 70) dX3_run_70 rfl 1 rfl ?_
        refine sm_geti (pc := 71) dX3_run_71 fi_X3_34 ?_
        refine sm_iload (pc := 74) dX3_run_74 0 rfl ?_
        refine sm_iast (pc := 76) dX3_run_76 ly_130 (by decide) (fun j8 hj8 => ?_)
        refine sm_nmM (fun μ9 => ?_)
        refine sm_sub [1, 3, 4, 5, 0] rfl ?_
        exact p_X3_run_77 G l d hd0 dd hdd N g_X3_run g_X3_runBody Hg_X3_run Hg_X3_runBody x3 x4 x5 y2 μ9
    · refine sm_iconst (pc := 55) dX3_run_55 (v := 0) (by decide) ?_
      exact sm_iret (pc := 56) dX3_run_56 rfl
set_option maxHeartbeats 4000000 in
set_option maxRecDepth 100000 in
theorem p_X3_run_6 (G : am_G) (l : Launch) (d : Nat) (hd0 : 2 ≤ d) (dd : Nat) (hdd : dd + 1 ≤ d) (N : Nat) (g_X3_run : Int32 → Int32 → Int32 → Int32 → am_M → Option (Int32 × am_M)) (g_X3_runBody : Int32 → Int32 → Int32 → Int32 → am_M → Option (Int32 × am_M)) (r_6 : Int32 → Int32 → Int32 → Int32 → Int32 → am_M → Option (Int32 × am_M)) (Hg_X3_run : ∀ (z0 : Int32) (z1 : Int32) (z2 : Int32) (z3 : Int32) (μ : am_M), ct_P G l am_ci dd me_X3_run [.ref (am_ad G 8 0), .int z0, .int z1, .int z2, .int z3] μ (g_X3_run z0 z1 z2 z3 μ)) (Hg_X3_runBody : ∀ (z0 : Int32) (z1 : Int32) (z2 : Int32) (z3 : Int32) (μ : am_M), ct_P G l am_ci dd me_X3_runBody [.ref (am_ad G 8 0), .int z0, .int z1, .int z2, .int z3] μ (g_X3_runBody z0 z1 z2 z3 μ)) (H_6 : ∀ (x2 : Int32) (x3 : Int32) (x4 : Int32) (x5 : Int32) (x6 : Int32) (μ : am_M), sm_P G l am_ci d me_X3_run 6 [(0, .ref (am_ad G 8 0)), (2, .int x2), (3, .int x3), (4, .int x4), (5, .int x5), (6, .int x6)] [] μ (r_6 x2 x3 x4 x5 x6 μ)) (x2 : Int32) (x3 : Int32) (x4 : Int32) (x5 : Int32) (x6 : Int32) (μ : am_M) : sm_P G l am_ci d me_X3_run 6 [(0, .ref (am_ad G 8 0)), (2, .int x2), (3, .int x3), (4, .int x4), (5, .int x5), (6, .int x6)] [] μ (f_X3_run_6 N g_X3_run g_X3_runBody r_6 x2 x3 x4 x5 x6 μ) := by
  unfold f_X3_run_6
  refine sm_iload (pc := 6) dX3_run_6 5 rfl ?_
  refine sm_bipush (pc := 8) dX3_run_8 (v := 8) (by decide) ?_
  refine sm_icmp_ge (pc := 10) (tgt := 35) dX3_run_10 (by decide) ?_ ?_
  · refine sm_sub [0, 1, 2, 3, 4] rfl ?_
    exact p_X3_run_35 G l d hd0 dd hdd N g_X3_run g_X3_runBody Hg_X3_run Hg_X3_runBody x2 x3 x4 x5 μ
  · refine sm_iload (pc := 13) dX3_run_13 4 rfl ?_
    refine sm_iload_n (pc := 15) dX3_run_15 rfl 1 rfl ?_
    refine sm_callSi (pc := 16) (As := [.int x5, .int x2]) (rest := []) dX3_run_16 (c_X3_bodyOf G l N x5 x2 μ) (by omega) wl_X3_56 st_X3_bodyOf rfl rfl (Nat.le_of_ble_eq_true rfl) (fun y11 μ10 => ?_)
    refine sm_if_ne (pc := 19) (tgt := 35) dX3_run_19 (by decide) ?_ ?_
    · refine sm_sub [0, 1, 2, 3, 4] rfl ?_
      exact p_X3_run_35 G l d hd0 dd hdd N g_X3_run g_X3_runBody Hg_X3_run Hg_X3_runBody x2 x3 x4 x5 μ10
    · refine sm_iload (pc := 22) dX3_run_22 4 rfl ?_
      refine sm_callSi (pc := 24) (As := [.int x5]) (rest := []) dX3_run_24 (c_X3_aboveOf G l N x5 μ10) (by omega) wl_X3_30 st_X3_aboveOf rfl rfl (Nat.le_of_ble_eq_true rfl) (fun y13 μ12 => ?_)
      refine sm_istore (pc := 27) (lv' := [(5, .int y13), (0, .ref (am_ad G 8 0)), (2, .int x2), (3, .int x3), (4, .int x4), (6, .int x6)]) dX3_run_27 (by decide) rfl ?_
      refine sm_iinc (pc := 29) (v := (x6 + (1 : Int32))) (lv' := [(6, .int (x6 + (1 : Int32))), (5, .int y13), (0, .ref (am_ad G 8 0)), (2, .int x2), (3, .int x3), (4, .int x4)]) dX3_run_29 5 rfl rfl (by decide) rfl ?_
      refine sm_goto (pc := 32) (tgt := 6) dX3_run_32 (by decide) ?_
      refine sm_sub [2, 3, 4, 5, 1, 0] rfl ?_
      exact H_6 x2 x3 x4 y13 (x6 + (1 : Int32)) μ12
theorem p_X3_run_6_lp (G : am_G) (l : Launch) (d : Nat) (hd0 : 2 ≤ d) (dd : Nat) (hdd : dd + 1 ≤ d) (N : Nat) (g_X3_run : Int32 → Int32 → Int32 → Int32 → am_M → Option (Int32 × am_M)) (g_X3_runBody : Int32 → Int32 → Int32 → Int32 → am_M → Option (Int32 × am_M)) (Hg_X3_run : ∀ (z0 : Int32) (z1 : Int32) (z2 : Int32) (z3 : Int32) (μ : am_M), ct_P G l am_ci dd me_X3_run [.ref (am_ad G 8 0), .int z0, .int z1, .int z2, .int z3] μ (g_X3_run z0 z1 z2 z3 μ)) (Hg_X3_runBody : ∀ (z0 : Int32) (z1 : Int32) (z2 : Int32) (z3 : Int32) (μ : am_M), ct_P G l am_ci dd me_X3_runBody [.ref (am_ad G 8 0), .int z0, .int z1, .int z2, .int z3] μ (g_X3_runBody z0 z1 z2 z3 μ)) : ∀ (n : Nat) (x2 : Int32) (x3 : Int32) (x4 : Int32) (x5 : Int32) (x6 : Int32) (μ : am_M), sm_P G l am_ci d me_X3_run 6 [(0, .ref (am_ad G 8 0)), (2, .int x2), (3, .int x3), (4, .int x4), (5, .int x5), (6, .int x6)] [] μ (f_X3_run_6_lp N g_X3_run g_X3_runBody n x2 x3 x4 x5 x6 μ) := by
  intro n
  induction n with
  | zero => intros; exact sm_none
  | succ n ih => exact fun x2 x3 x4 x5 x6 μ => p_X3_run_6 G l d hd0 dd hdd N g_X3_run g_X3_runBody (f_X3_run_6_lp N g_X3_run g_X3_runBody n) Hg_X3_run Hg_X3_runBody ih x2 x3 x4 x5 x6 μ
set_option maxHeartbeats 4000000 in
set_option maxRecDepth 100000 in
theorem p_X3_run_0 (G : am_G) (l : Launch) (d : Nat) (hd0 : 2 ≤ d) (dd : Nat) (hdd : dd + 1 ≤ d) (N : Nat) (g_X3_run : Int32 → Int32 → Int32 → Int32 → am_M → Option (Int32 × am_M)) (g_X3_runBody : Int32 → Int32 → Int32 → Int32 → am_M → Option (Int32 × am_M)) (Hg_X3_run : ∀ (z0 : Int32) (z1 : Int32) (z2 : Int32) (z3 : Int32) (μ : am_M), ct_P G l am_ci dd me_X3_run [.ref (am_ad G 8 0), .int z0, .int z1, .int z2, .int z3] μ (g_X3_run z0 z1 z2 z3 μ)) (Hg_X3_runBody : ∀ (z0 : Int32) (z1 : Int32) (z2 : Int32) (z3 : Int32) (μ : am_M), ct_P G l am_ci dd me_X3_runBody [.ref (am_ad G 8 0), .int z0, .int z1, .int z2, .int z3] μ (g_X3_runBody z0 z1 z2 z3 μ)) (a1 : Int32) (a2 : Int32) (a3 : Int32) (a4 : Int32) (μ : am_M) : sm_P G l am_ci d me_X3_run 0 [(0, .ref (am_ad G 8 0)), (1, .int a1), (2, .int a2), (3, .int a3), (4, .int a4)] [] μ (f_X3_run_0 N g_X3_run g_X3_runBody a1 a2 a3 a4 μ) := by
  unfold f_X3_run_0
  refine sm_iload_n (pc := 0) dX3_run_0 rfl 1 rfl ?_
  refine sm_istore (pc := 1) (lv' := [(5, .int a1), (0, .ref (am_ad G 8 0)), (1, .int a1), (2, .int a2), (3, .int a3), (4, .int a4)]) dX3_run_1 (by decide) rfl ?_
  refine sm_iconst (pc := 3) dX3_run_3 (v := 0) (by decide) ?_
  refine sm_istore (pc := 4) (lv' := [(6, .int (0 : Int32)), (5, .int a1), (0, .ref (am_ad G 8 0)), (1, .int a1), (2, .int a2), (3, .int a3), (4, .int a4)]) dX3_run_4 (by decide) rfl ?_
  refine sm_sub [2, 4, 5, 6, 1, 0] rfl ?_
  exact p_X3_run_6_lp G l d hd0 dd hdd N g_X3_run g_X3_runBody Hg_X3_run Hg_X3_runBody N a2 a3 a4 a1 (0 : Int32) μ
set_option maxHeartbeats 4000000 in
set_option maxRecDepth 100000 in
theorem p_X3_runBody_0 (G : am_G) (l : Launch) (d : Nat) (hd0 : 2 ≤ d) (dd : Nat) (hdd : dd + 1 ≤ d) (N : Nat) (g_X3_run : Int32 → Int32 → Int32 → Int32 → am_M → Option (Int32 × am_M)) (g_X3_runBody : Int32 → Int32 → Int32 → Int32 → am_M → Option (Int32 × am_M)) (Hg_X3_run : ∀ (z0 : Int32) (z1 : Int32) (z2 : Int32) (z3 : Int32) (μ : am_M), ct_P G l am_ci dd me_X3_run [.ref (am_ad G 8 0), .int z0, .int z1, .int z2, .int z3] μ (g_X3_run z0 z1 z2 z3 μ)) (Hg_X3_runBody : ∀ (z0 : Int32) (z1 : Int32) (z2 : Int32) (z3 : Int32) (μ : am_M), ct_P G l am_ci dd me_X3_runBody [.ref (am_ad G 8 0), .int z0, .int z1, .int z2, .int z3] μ (g_X3_runBody z0 z1 z2 z3 μ)) (a1 : Int32) (a2 : Int32) (a3 : Int32) (a4 : Int32) (μ : am_M) : sm_P G l am_ci d me_X3_runBody 0 [(0, .ref (am_ad G 8 0)), (1, .int a1), (2, .int a2), (3, .int a3), (4, .int a4)] [] μ (f_X3_runBody_0 N g_X3_run g_X3_runBody a1 a2 a3 a4 μ) := by
  unfold f_X3_runBody_0
  refine sm_iload_n (pc := 0) dX3_runBody_0 rfl 1 rfl ?_
  refine sm_ite (fun e1 => ?_) (fun e1 => ?_)
  · refine sm_lku (pc := 1) (off := 115) (tgt := 116) dX3_runBody_1 (by decide) (by rw [e1]; decide) (by decide) ?_
    refine sm_iload_n (pc := 116) dX3_runBody_116 rfl 3 rfl ?_
    refine sm_aload_n (pc := 117) dX3_runBody_117 rfl 0 rfl ?_
    refine sm_geti (pc := 118) dX3_runBody_118 fi_X3_43 ?_
    refine sm_iadd (pc := 121) dX3_runBody_121 ?_
    exact sm_iret (pc := 122) dX3_runBody_122 rfl
  refine sm_ite (fun e2 => ?_) (fun e2 => ?_)
  · refine sm_lku (pc := 1) (off := 122) (tgt := 123) dX3_runBody_1 (by decide) (by rw [e2]; decide) (by decide) ?_
    refine sm_aload_n (pc := 123) dX3_runBody_123 rfl 0 rfl ?_
    refine sm_aload_n (pc := 124) dX3_runBody_124 rfl 0 rfl ?_
    refine sm_geti (pc := 125) dX3_runBody_125 fi_X3_49 ?_
    refine sm_iconst (pc := 128) dX3_runBody_128 (v := 1) (by decide) ?_
    refine sm_iload_n (pc := 129) dX3_runBody_129 rfl 3 rfl ?_
    refine sm_iload (pc := 130) dX3_runBody_130 4 rfl ?_
    refine sm_callVi (pc := 132) (As := [.int (μ.1 8 0 5), .int (1 : Int32), .int a3, .int a4]) (rest := []) dX3_runBody_132 (Hg_X3_run (μ.1 8 0 5) (1 : Int32) a3 a4 μ) (by omega) wl_X3_52 vm_X3_run rfl rfl (Nat.le_of_ble_eq_true rfl) (fun y4 μ3 => ?_)
    refine sm_aload_n (pc := 135) dX3_runBody_135 rfl 0 rfl ?_
    refine sm_aload_n (pc := 136) dX3_runBody_136 rfl 0 rfl ?_
    refine sm_geti (pc := 137) dX3_runBody_137 fi_X3_49 ?_
    refine sm_iconst (pc := 140) dX3_runBody_140 (v := 2) (by decide) ?_
    refine sm_iconst (pc := 141) dX3_runBody_141 (v := 1) (by decide) ?_
    refine sm_iload (pc := 142) dX3_runBody_142 4 rfl ?_
    refine sm_callVi (pc := 144) (As := [.int (μ3.1 8 0 5), .int (2 : Int32), .int (1 : Int32), .int a4]) (rest := [.int y4]) dX3_runBody_144 (Hg_X3_run (μ3.1 8 0 5) (2 : Int32) (1 : Int32) a4 μ3) (by omega) wl_X3_52 vm_X3_run rfl rfl (Nat.le_of_ble_eq_true rfl) (fun y6 μ5 => ?_)
    refine sm_isub (pc := 147) dX3_runBody_147 ?_
    exact sm_iret (pc := 148) dX3_runBody_148 rfl
  refine sm_ite (fun e7 => ?_) (fun e7 => ?_)
  · refine sm_lku (pc := 1) (off := 148) (tgt := 149) dX3_runBody_1 (by decide) (by rw [e7]; decide) (by decide) ?_
    refine sm_aload_n (pc := 149) dX3_runBody_149 rfl 0 rfl ?_
    refine sm_aload_n (pc := 150) dX3_runBody_150 rfl 0 rfl ?_
    refine sm_geti (pc := 151) dX3_runBody_151 fi_X3_49 ?_
    refine sm_iconst (pc := 154) dX3_runBody_154 (v := 0) (by decide) ?_
    refine sm_iload_n (pc := 155) dX3_runBody_155 rfl 3 rfl ?_
    refine sm_iload (pc := 156) dX3_runBody_156 4 rfl ?_
    refine sm_callVi (pc := 158) (As := [.int (μ.1 8 0 5), .int (0 : Int32), .int a3, .int a4]) (rest := []) dX3_runBody_158 (Hg_X3_run (μ.1 8 0 5) (0 : Int32) a3 a4 μ) (by omega) wl_X3_52 vm_X3_run rfl rfl (Nat.le_of_ble_eq_true rfl) (fun y9 μ8 => ?_)
    refine sm_iconst (pc := 161) dX3_runBody_161 (v := 2) (by decide) ?_
    refine sm_imul (pc := 162) dX3_runBody_162 ?_
    exact sm_iret (pc := 163) dX3_runBody_163 rfl
  refine sm_ite (fun e10 => ?_) (fun e10 => ?_)
  · refine sm_lku (pc := 1) (off := 163) (tgt := 164) dX3_runBody_1 (by decide) (by rw [e10]; decide) (by decide) ?_
    refine sm_iload_n (pc := 164) dX3_runBody_164 rfl 3 rfl ?_
    refine sm_aload_n (pc := 165) dX3_runBody_165 rfl 0 rfl ?_
    refine sm_geti (pc := 166) dX3_runBody_166 fi_X3_43 ?_
    refine sm_ixor (pc := 169) dX3_runBody_169 ?_
    exact sm_iret (pc := 170) dX3_runBody_170 rfl
  refine sm_ite (fun e11 => ?_) (fun e11 => ?_)
  · refine sm_lku (pc := 1) (off := 170) (tgt := 171) dX3_runBody_1 (by decide) (by rw [e11]; decide) (by decide) ?_
    refine sm_aload_n (pc := 171) dX3_runBody_171 rfl 0 rfl ?_
    refine sm_iload_n (pc := 172) dX3_runBody_172 rfl 2 rfl ?_
    refine sm_iconst (pc := 173) dX3_runBody_173 (v := 0) (by decide) ?_
    refine sm_iload_n (pc := 174) dX3_runBody_174 rfl 3 rfl ?_
    refine sm_iload (pc := 175) dX3_runBody_175 4 rfl ?_
    refine sm_callVi (pc := 177) (As := [.int a2, .int (0 : Int32), .int a3, .int a4]) (rest := []) dX3_runBody_177 (Hg_X3_run a2 (0 : Int32) a3 a4 μ) (by omega) wl_X3_52 vm_X3_run rfl rfl (Nat.le_of_ble_eq_true rfl) (fun y13 μ12 => ?_)
    refine sm_iconst (pc := 180) dX3_runBody_180 (v := 3) (by decide) ?_
    refine sm_iadd (pc := 181) dX3_runBody_181 ?_
    exact sm_iret (pc := 182) dX3_runBody_182 rfl
  refine sm_ite (fun e14 => ?_) (fun e14 => ?_)
  · refine sm_lku (pc := 1) (off := 182) (tgt := 183) dX3_runBody_1 (by decide) (by rw [e14]; decide) (by decide) ?_
    refine sm_aload_n (pc := 183) dX3_runBody_183 rfl 0 rfl ?_
    refine sm_iload_n (pc := 184) dX3_runBody_184 rfl 2 rfl ?_
    refine sm_iconst (pc := 185) dX3_runBody_185 (v := 1) (by decide) ?_
    refine sm_iload_n (pc := 186) dX3_runBody_186 rfl 3 rfl ?_
    refine sm_iload (pc := 187) dX3_runBody_187 4 rfl ?_
    refine sm_callVi (pc := 189) (As := [.int a2, .int (1 : Int32), .int a3, .int a4]) (rest := []) dX3_runBody_189 (Hg_X3_run a2 (1 : Int32) a3 a4 μ) (by omega) wl_X3_52 vm_X3_run rfl rfl (Nat.le_of_ble_eq_true rfl) (fun y16 μ15 => ?_)
    refine sm_ineg (pc := 192) dX3_runBody_192 ?_
    exact sm_iret (pc := 193) dX3_runBody_193 rfl
  refine sm_ite (fun e17 => ?_) (fun e17 => ?_)
  · refine sm_lku (pc := 1) (off := 193) (tgt := 194) dX3_runBody_1 (by decide) (by rw [e17]; decide) (by decide) ?_
    refine sm_aload_n (pc := 194) dX3_runBody_194 rfl 0 rfl ?_
    refine sm_iload_n (pc := 195) dX3_runBody_195 rfl 2 rfl ?_
    refine sm_iconst (pc := 196) dX3_runBody_196 (v := 2) (by decide) ?_
    refine sm_iload_n (pc := 197) dX3_runBody_197 rfl 3 rfl ?_
    refine sm_iload (pc := 198) dX3_runBody_198 4 rfl ?_
    refine sm_callVi (pc := 200) (As := [.int a2, .int (2 : Int32), .int a3, .int a4]) (rest := []) dX3_runBody_200 (Hg_X3_run a2 (2 : Int32) a3 a4 μ) (by omega) wl_X3_52 vm_X3_run rfl rfl (Nat.le_of_ble_eq_true rfl) (fun y19 μ18 => ?_)
    refine sm_iconst (pc := 203) dX3_runBody_203 (v := 3) (by decide) ?_
    refine sm_imul (pc := 204) dX3_runBody_204 ?_
    exact sm_iret (pc := 205) dX3_runBody_205 rfl
  refine sm_ite (fun e20 => ?_) (fun e20 => ?_)
  · refine sm_lku (pc := 1) (off := 205) (tgt := 206) dX3_runBody_1 (by decide) (by rw [e20]; decide) (by decide) ?_
    refine sm_aload_n (pc := 206) dX3_runBody_206 rfl 0 rfl ?_
    refine sm_iload_n (pc := 207) dX3_runBody_207 rfl 2 rfl ?_
    refine sm_iconst (pc := 208) dX3_runBody_208 (v := 2) (by decide) ?_
    refine sm_iload_n (pc := 209) dX3_runBody_209 rfl 3 rfl ?_
    refine sm_iload (pc := 210) dX3_runBody_210 4 rfl ?_
    refine sm_callVi (pc := 212) (As := [.int a2, .int (2 : Int32), .int a3, .int a4]) (rest := []) dX3_runBody_212 (Hg_X3_run a2 (2 : Int32) a3 a4 μ) (by omega) wl_X3_52 vm_X3_run rfl rfl (Nat.le_of_ble_eq_true rfl) (fun y22 μ21 => ?_)
    refine sm_aload_n (pc := 215) dX3_runBody_215 rfl 0 rfl ?_
    refine sm_aload_n (pc := 216) dX3_runBody_216 rfl 0 rfl ?_
    refine sm_geti (pc := 217) dX3_runBody_217 fi_X3_49 ?_
    refine sm_iconst (pc := 220) dX3_runBody_220 (v := 0) (by decide) ?_
    refine sm_iconst (pc := 221) dX3_runBody_221 (v := 2) (by decide) ?_
    refine sm_iload (pc := 222) dX3_runBody_222 4 rfl ?_
    refine sm_callVi (pc := 224) (As := [.int (μ21.1 8 0 5), .int (0 : Int32), .int (2 : Int32), .int a4]) (rest := [.int y22]) dX3_runBody_224 (Hg_X3_run (μ21.1 8 0 5) (0 : Int32) (2 : Int32) a4 μ21) (by omega) wl_X3_52 vm_X3_run rfl rfl (Nat.le_of_ble_eq_true rfl) (fun y24 μ23 => ?_)
    refine sm_isub (pc := 227) dX3_runBody_227 ?_
    exact sm_iret (pc := 228) dX3_runBody_228 rfl
  refine sm_ite (fun e25 => ?_) (fun e25 => ?_)
  · refine sm_lku (pc := 1) (off := 228) (tgt := 229) dX3_runBody_1 (by decide) (by rw [e25]; decide) (by decide) ?_
    refine sm_aload_n (pc := 229) dX3_runBody_229 rfl 0 rfl ?_
    refine sm_iload_n (pc := 230) dX3_runBody_230 rfl 2 rfl ?_
    refine sm_iconst (pc := 231) dX3_runBody_231 (v := 0) (by decide) ?_
    refine sm_iload_n (pc := 232) dX3_runBody_232 rfl 3 rfl ?_
    refine sm_iconst (pc := 233) dX3_runBody_233 (v := 1) (by decide) ?_
    refine sm_iadd (pc := 234) dX3_runBody_234 ?_
    refine sm_iload (pc := 235) dX3_runBody_235 4 rfl ?_
    refine sm_callVi (pc := 237) (As := [.int a2, .int (0 : Int32), .int (a3 + (1 : Int32)), .int a4]) (rest := []) dX3_runBody_237 (Hg_X3_run a2 (0 : Int32) (a3 + (1 : Int32)) a4 μ) (by omega) wl_X3_52 vm_X3_run rfl rfl (Nat.le_of_ble_eq_true rfl) (fun y27 μ26 => ?_)
    exact sm_iret (pc := 240) dX3_runBody_240 rfl
  refine sm_ite (fun e28 => ?_) (fun e28 => ?_)
  · refine sm_lku (pc := 1) (off := 240) (tgt := 241) dX3_runBody_1 (by decide) (by rw [e28]; decide) (by decide) ?_
    refine sm_aload_n (pc := 241) dX3_runBody_241 rfl 0 rfl ?_
    refine sm_iload_n (pc := 242) dX3_runBody_242 rfl 2 rfl ?_
    refine sm_iconst (pc := 243) dX3_runBody_243 (v := 3) (by decide) ?_
    refine sm_iload_n (pc := 244) dX3_runBody_244 rfl 3 rfl ?_
    refine sm_iload (pc := 245) dX3_runBody_245 4 rfl ?_
    refine sm_callVi (pc := 247) (As := [.int a2, .int (3 : Int32), .int a3, .int a4]) (rest := []) dX3_runBody_247 (Hg_X3_run a2 (3 : Int32) a3 a4 μ) (by omega) wl_X3_52 vm_X3_run rfl rfl (Nat.le_of_ble_eq_true rfl) (fun y30 μ29 => ?_)
    refine sm_iconst (pc := 250) dX3_runBody_250 (v := 5) (by decide) ?_
    refine sm_ixor (pc := 251) dX3_runBody_251 ?_
    exact sm_iret (pc := 252) dX3_runBody_252 rfl
  refine sm_ite (fun e31 => ?_) (fun e31 => ?_)
  · refine sm_lku (pc := 1) (off := 252) (tgt := 253) dX3_runBody_1 (by decide) (by rw [e31]; decide) (by decide) ?_
    refine sm_aload_n (pc := 253) dX3_runBody_253 rfl 0 rfl ?_
    refine sm_iload_n (pc := 254) dX3_runBody_254 rfl 2 rfl ?_
    refine sm_iconst (pc := 255) dX3_runBody_255 (v := 0) (by decide) ?_
    refine sm_iload_n (pc := 256) dX3_runBody_256 rfl 3 rfl ?_
    refine sm_iload (pc := 257) dX3_runBody_257 4 rfl ?_
    refine sm_callVi (pc := 259) (As := [.int a2, .int (0 : Int32), .int a3, .int a4]) (rest := []) dX3_runBody_259 (Hg_X3_run a2 (0 : Int32) a3 a4 μ) (by omega) wl_X3_52 vm_X3_run rfl rfl (Nat.le_of_ble_eq_true rfl) (fun y33 μ32 => ?_)
    refine sm_iconst (pc := 262) dX3_runBody_262 (v := 2) (by decide) ?_
    refine sm_imul (pc := 263) dX3_runBody_263 ?_
    exact sm_iret (pc := 264) dX3_runBody_264 rfl
  refine sm_ite (fun e34 => ?_) (fun e34 => ?_)
  · refine sm_lku (pc := 1) (off := 264) (tgt := 265) dX3_runBody_1 (by decide) (by rw [e34]; decide) (by decide) ?_
    refine sm_aload_n (pc := 265) dX3_runBody_265 rfl 0 rfl ?_
    refine sm_iload_n (pc := 266) dX3_runBody_266 rfl 2 rfl ?_
    refine sm_iconst (pc := 267) dX3_runBody_267 (v := 1) (by decide) ?_
    refine sm_iload_n (pc := 268) dX3_runBody_268 rfl 3 rfl ?_
    refine sm_iload (pc := 269) dX3_runBody_269 4 rfl ?_
    refine sm_callVi (pc := 271) (As := [.int a2, .int (1 : Int32), .int a3, .int a4]) (rest := []) dX3_runBody_271 (Hg_X3_run a2 (1 : Int32) a3 a4 μ) (by omega) wl_X3_52 vm_X3_run rfl rfl (Nat.le_of_ble_eq_true rfl) (fun y36 μ35 => ?_)
    refine sm_aload_n (pc := 274) dX3_runBody_274 rfl 0 rfl ?_
    refine sm_aload_n (pc := 275) dX3_runBody_275 rfl 0 rfl ?_
    refine sm_geti (pc := 276) dX3_runBody_276 fi_X3_49 ?_
    refine sm_iconst (pc := 279) dX3_runBody_279 (v := 2) (by decide) ?_
    refine sm_iconst (pc := 280) dX3_runBody_280 (v := 2) (by decide) ?_
    refine sm_iload (pc := 281) dX3_runBody_281 4 rfl ?_
    refine sm_callVi (pc := 283) (As := [.int (μ35.1 8 0 5), .int (2 : Int32), .int (2 : Int32), .int a4]) (rest := [.int y36]) dX3_runBody_283 (Hg_X3_run (μ35.1 8 0 5) (2 : Int32) (2 : Int32) a4 μ35) (by omega) wl_X3_52 vm_X3_run rfl rfl (Nat.le_of_ble_eq_true rfl) (fun y38 μ37 => ?_)
    refine sm_iadd (pc := 286) dX3_runBody_286 ?_
    exact sm_iret (pc := 287) dX3_runBody_287 rfl
  refine sm_ite (fun e39 => ?_) (fun e39 => ?_)
  · refine sm_lku (pc := 1) (off := 287) (tgt := 288) dX3_runBody_1 (by decide) (by rw [e39]; decide) (by decide) ?_
    refine sm_aload_n (pc := 288) dX3_runBody_288 rfl 0 rfl ?_
    refine sm_iload_n (pc := 289) dX3_runBody_289 rfl 2 rfl ?_
    refine sm_iconst (pc := 290) dX3_runBody_290 (v := 3) (by decide) ?_
    refine sm_iload_n (pc := 291) dX3_runBody_291 rfl 3 rfl ?_
    refine sm_iload (pc := 292) dX3_runBody_292 4 rfl ?_
    refine sm_callVi (pc := 294) (As := [.int a2, .int (3 : Int32), .int a3, .int a4]) (rest := []) dX3_runBody_294 (Hg_X3_run a2 (3 : Int32) a3 a4 μ) (by omega) wl_X3_52 vm_X3_run rfl rfl (Nat.le_of_ble_eq_true rfl) (fun y41 μ40 => ?_)
    refine sm_iconst (pc := 297) dX3_runBody_297 (v := 1) (by decide) ?_
    refine sm_isub (pc := 298) dX3_runBody_298 ?_
    exact sm_iret (pc := 299) dX3_runBody_299 rfl
  replace e1 := am_ne (n := 1) (by decide) e1
  replace e2 := am_ne (n := 2) (by decide) e2
  replace e7 := am_ne (n := 10) (by decide) e7
  replace e10 := am_ne (n := 11) (by decide) e10
  replace e11 := am_ne (n := 20) (by decide) e11
  replace e14 := am_ne (n := 30) (by decide) e14
  replace e17 := am_ne (n := 40) (by decide) e17
  replace e20 := am_ne (n := 50) (by decide) e20
  replace e25 := am_ne (n := 60) (by decide) e25
  replace e28 := am_ne (n := 61) (by decide) e28
  replace e31 := am_ne (n := 70) (by decide) e31
  replace e34 := am_ne (n := 80) (by decide) e34
  replace e39 := am_ne (n := 81) (by decide) e39
  refine sm_lku (pc := 1) (off := 299) (tgt := 300) dX3_runBody_1 (by decide) (am_lkd _ _ _ (by simp only [List.all_cons, List.all_nil, Bool.and_true, Bool.and_eq_true, bne_iff_ne, ne_eq]; omega)) (by decide) ?_
  refine sm_iconst (pc := 300) dX3_runBody_300 (v := 0) (by decide) ?_
  exact sm_iret (pc := 301) dX3_runBody_301 rfl
theorem cr_X3_run (G : am_G) (l : Launch) (N : Nat) : ∀ D : Nat, (∀ (z0 : Int32) (z1 : Int32) (z2 : Int32) (z3 : Int32) (μ : am_M), ct_P G l am_ci (2 + D) me_X3_run [.ref (am_ad G 8 0), .int z0, .int z1, .int z2, .int z3] μ ((f_X3_run_g N D).1 z0 z1 z2 z3 μ)) ∧ (∀ (z0 : Int32) (z1 : Int32) (z2 : Int32) (z3 : Int32) (μ : am_M), ct_P G l am_ci (2 + D) me_X3_runBody [.ref (am_ad G 8 0), .int z0, .int z1, .int z2, .int z3] μ ((f_X3_run_g N D).2 z0 z1 z2 z3 μ)) := by
  intro D
  induction D with
  | zero => exact ⟨(fun _ _ _ _ μ a μ1 ho => (by cases ho)), (fun _ _ _ _ μ a μ1 ho => (by cases ho))⟩
  | succ D ih => exact ⟨(fun a1 a2 a3 a4 μ => ct_of (by decide +kernel) (Nat.le_of_ble_eq_true rfl) rfl (p_X3_run_0 G l (2 + (D + 1)) (by omega) (2 + D) (by omega) N (f_X3_run_g N D).1 (f_X3_run_g N D).2 ih.1 ih.2 a1 a2 a3 a4 μ)), (fun a1 a2 a3 a4 μ => ct_of (by decide +kernel) (Nat.le_of_ble_eq_true rfl) rfl (p_X3_runBody_0 G l (2 + (D + 1)) (by omega) (2 + D) (by omega) N (f_X3_run_g N D).1 (f_X3_run_g N D).2 ih.1 ih.2 a1 a2 a3 a4 μ))⟩
theorem c_X3_run (G : am_G) (l : Launch) (N : Nat) (a1 : Int32) (a2 : Int32) (a3 : Int32) (a4 : Int32) (μ : am_M) : ct_P G l am_ci 102 me_X3_run [.ref (am_ad G 8 0), .int a1, .int a2, .int a3, .int a4] μ (f_X3_run N a1 a2 a3 a4 μ) := (cr_X3_run G l N 100).1 a1 a2 a3 a4 μ
theorem c_X3_runBody (G : am_G) (l : Launch) (N : Nat) (a1 : Int32) (a2 : Int32) (a3 : Int32) (a4 : Int32) (μ : am_M) : ct_P G l am_ci 102 me_X3_runBody [.ref (am_ad G 8 0), .int a1, .int a2, .int a3, .int a4] μ (f_X3_runBody N a1 a2 a3 a4 μ) := (cr_X3_run G l N 100).2 a1 a2 a3 a4 μ

def f_X3_start_0 (N : Nat) (a1 : Int32) (a2 : Int32) (a3 : Int32) (μ : am_M) : Option (Int32 × am_M) :=
am_nm (am_ui μ 8 0 4 a1) (fun μ1 => am_bd (f_X3_kindOf N a1 μ1) (fun y3 μ2 => am_nm (am_ui μ2 8 0 5 y3) (fun μ4 => am_bd (f_X3_run N (μ4.1 8 0 5) a2 a3 (0 : Int32) μ4) (fun y6 μ5 => some (y6, μ5)))))
def f_X3_start (N : Nat) (a1 : Int32) (a2 : Int32) (a3 : Int32) (μ : am_M) : Option (Int32 × am_M) := f_X3_start_0 N a1 a2 a3 μ
set_option maxHeartbeats 4000000 in
set_option maxRecDepth 100000 in
theorem p_X3_start_0 (G : am_G) (l : Launch) (d : Nat) (hd0 : 103 ≤ d) (N : Nat) (a1 : Int32) (a2 : Int32) (a3 : Int32) (μ : am_M) : sm_P G l am_ci d me_X3_start 0 [(0, .ref (am_ad G 8 0)), (1, .int a1), (2, .int a2), (3, .int a3)] [] μ (f_X3_start_0 N a1 a2 a3 μ) := by
  unfold f_X3_start_0
  refine sm_aload_n (pc := 0) dX3_start_0 rfl 0 rfl ?_
  refine sm_iload_n (pc := 1) dX3_start_1 rfl 1 rfl ?_
  refine sm_puti (pc := 2) dX3_start_2 fi_X3_43 ?_
  refine sm_nmM (fun μ1 => ?_)
  refine sm_aload_n (pc := 5) dX3_start_5 rfl 0 rfl ?_
  refine sm_aload_n (pc := 6) dX3_start_6 rfl 0 rfl ?_
  refine sm_iload_n (pc := 7) dX3_start_7 rfl 1 rfl ?_
  refine sm_callVi (pc := 8) (As := [.int a1]) (rest := [.ref (am_ad G 8 0)]) dX3_start_8 (c_X3_kindOf G l N a1 μ1) (by omega) wl_X3_46 vm_X3_kindOf rfl rfl (Nat.le_of_ble_eq_true rfl) (fun y3 μ2 => ?_)
  refine sm_puti (pc := 11) dX3_start_11 fi_X3_49 ?_
  refine sm_nmM (fun μ4 => ?_)
  refine sm_aload_n (pc := 14) dX3_start_14 rfl 0 rfl ?_
  refine sm_aload_n (pc := 15) dX3_start_15 rfl 0 rfl ?_
  refine sm_geti (pc := 16) dX3_start_16 fi_X3_49 ?_
  refine sm_iload_n (pc := 19) dX3_start_19 rfl 2 rfl ?_
  refine sm_iload_n (pc := 20) dX3_start_20 rfl 3 rfl ?_
  refine sm_iconst (pc := 21) dX3_start_21 (v := 0) (by decide) ?_
  refine sm_callVi (pc := 22) (As := [.int (μ4.1 8 0 5), .int a2, .int a3, .int (0 : Int32)]) (rest := []) dX3_start_22 (c_X3_run G l N (μ4.1 8 0 5) a2 a3 (0 : Int32) μ4) (by omega) wl_X3_52 vm_X3_run rfl rfl (Nat.le_of_ble_eq_true rfl) (fun y6 μ5 => ?_)
  exact sm_iret (pc := 25) dX3_start_25 rfl
theorem c_X3_start (G : am_G) (l : Launch) (N : Nat) (a1 : Int32) (a2 : Int32) (a3 : Int32) (μ : am_M) : ct_P G l am_ci 103 me_X3_start [.ref (am_ad G 8 0), .int a1, .int a2, .int a3] μ (f_X3_start N a1 a2 a3 μ) := ct_of (by decide +kernel) (Nat.le_of_ble_eq_true rfl) rfl (p_X3_start_0 G l 103 (Nat.le_refl _) N a1 a2 a3 μ)
