def f_X4_isShelf_0 (N : Nat) (a1 : Int32) (μ : am_M) : Option (Int32 × am_M) :=
am_bd (f_X9_isWithin N a1 (0 : Int32) (5 : Int32) μ) (fun y2 μ1 => am_z y2 μ1)
def f_X4_isShelf (N : Nat) (a1 : Int32) (μ : am_M) : Option (Int32 × am_M) := f_X4_isShelf_0 N a1 μ
set_option maxHeartbeats 4000000 in
set_option maxRecDepth 100000 in
theorem p_X4_isShelf_0 (G : am_G) (l : Launch) (d : Nat) (hd0 : 1 ≤ d) (N : Nat) (a1 : Int32) (μ : am_M) : sm_P G l am_ci d me_X4_isShelf 0 [(0, .ref (am_ad G 9 0)), (1, .int a1)] [] μ (f_X4_isShelf_0 N a1 μ) := by
  unfold f_X4_isShelf_0
  refine sm_iload_n (pc := 0) dX4_isShelf_0 rfl 1 rfl ?_
  refine sm_iconst (pc := 1) dX4_isShelf_1 (v := 0) (by decide) ?_
  refine sm_iconst (pc := 2) dX4_isShelf_2 (v := 5) (by decide) ?_
  refine sm_callNi (pc := 3) (As := [.int a1, .int (0 : Int32), .int (5 : Int32)]) (rest := []) dX4_isShelf_3 (c_X9_isWithin G l N a1 (0 : Int32) (5 : Int32) μ) (by omega) wl_X4_23 st_X9_isWithin rfl rfl (Nat.le_of_ble_eq_true rfl) (fun y2 μ1 => ?_)
  exact sm_zret (pc := 6) dX4_isShelf_6 rfl
theorem c_X4_isShelf (G : am_G) (l : Launch) (N : Nat) (a1 : Int32) (μ : am_M) : ct_P G l am_ci 1 me_X4_isShelf [.ref (am_ad G 9 0), .int a1] μ (f_X4_isShelf N a1 μ) := ct_of (by decide +kernel) (Nat.le_of_ble_eq_true rfl) rfl (p_X4_isShelf_0 G l 1 (Nat.le_refl _) N a1 μ)

def f_X4_heldOn_0 (N : Nat) (a1 : Int32) (μ : am_M) : Option (Int32 × am_M) :=
am_bd (f_X4_isShelf N a1 μ) (fun y2 μ1 => if y2 = 0 then (some ((-1 : Int32), μ1)) else (am_gd a1 6 (fun j3 => some ((μ1.1 144 0 j3), μ1))))
def f_X4_heldOn (N : Nat) (a1 : Int32) (μ : am_M) : Option (Int32 × am_M) := f_X4_heldOn_0 N a1 μ
set_option maxHeartbeats 4000000 in
set_option maxRecDepth 100000 in
theorem p_X4_heldOn_0 (G : am_G) (l : Launch) (d : Nat) (hd0 : 2 ≤ d) (N : Nat) (a1 : Int32) (μ : am_M) : sm_P G l am_ci d me_X4_heldOn 0 [(0, .ref (am_ad G 9 0)), (1, .int a1)] [] μ (f_X4_heldOn_0 N a1 μ) := by
  unfold f_X4_heldOn_0
  refine sm_aload_n (pc := 0) dX4_heldOn_0 rfl 0 rfl ?_
  refine sm_iload_n (pc := 1) dX4_heldOn_1 rfl 1 rfl ?_
  refine sm_callVi (pc := 2) (As := [.int a1]) (rest := []) dX4_heldOn_2 (c_X4_isShelf G l N a1 μ) (by omega) wl_X4_27 vm_X4_isShelf rfl rfl (Nat.le_of_ble_eq_true rfl) (fun y2 μ1 => ?_)
  refine sm_if_eq (pc := 5) (tgt := 17) dX4_heldOn_5 (by decide) ?_ ?_
  · refine sm_iconst (pc := 17) dX4_heldOn_17 (v := -1) (by decide) ?_
    exact sm_iret (pc := 18) dX4_heldOn_18 rfl
  · refine sm_aload_n (pc := 8) dX4_heldOn_8 rfl 0 rfl ?_
    refine sm_getr (pc := 9) dX4_heldOn_9 fi_X4_9 ?_
    refine sm_iload_n (pc := 12) dX4_heldOn_12 rfl 1 rfl ?_
    refine sm_iald (pc := 13) dX4_heldOn_13 ly_144 (by decide) (fun j3 hj3 => ?_)
    refine sm_goto (pc := 14) (tgt := 18) dX4_heldOn_14 (by decide) ?_
    exact sm_iret (pc := 18) dX4_heldOn_18 rfl
theorem c_X4_heldOn (G : am_G) (l : Launch) (N : Nat) (a1 : Int32) (μ : am_M) : ct_P G l am_ci 2 me_X4_heldOn [.ref (am_ad G 9 0), .int a1] μ (f_X4_heldOn N a1 μ) := ct_of (by decide +kernel) (Nat.le_of_ble_eq_true rfl) rfl (p_X4_heldOn_0 G l 2 (Nat.le_refl _) N a1 μ)

def f_X4_sizeOn_0 (N : Nat) (a1 : Int32) (μ : am_M) : Option (Int32 × am_M) :=
am_bd (f_X4_isShelf N a1 μ) (fun y2 μ1 => if y2 = 0 then (some ((0 : Int32), μ1)) else (am_gd a1 6 (fun j3 => some ((μ1.1 145 0 j3), μ1))))
def f_X4_sizeOn (N : Nat) (a1 : Int32) (μ : am_M) : Option (Int32 × am_M) := f_X4_sizeOn_0 N a1 μ
set_option maxHeartbeats 4000000 in
set_option maxRecDepth 100000 in
theorem p_X4_sizeOn_0 (G : am_G) (l : Launch) (d : Nat) (hd0 : 2 ≤ d) (N : Nat) (a1 : Int32) (μ : am_M) : sm_P G l am_ci d me_X4_sizeOn 0 [(0, .ref (am_ad G 9 0)), (1, .int a1)] [] μ (f_X4_sizeOn_0 N a1 μ) := by
  unfold f_X4_sizeOn_0
  refine sm_aload_n (pc := 0) dX4_sizeOn_0 rfl 0 rfl ?_
  refine sm_iload_n (pc := 1) dX4_sizeOn_1 rfl 1 rfl ?_
  refine sm_callVi (pc := 2) (As := [.int a1]) (rest := []) dX4_sizeOn_2 (c_X4_isShelf G l N a1 μ) (by omega) wl_X4_27 vm_X4_isShelf rfl rfl (Nat.le_of_ble_eq_true rfl) (fun y2 μ1 => ?_)
  refine sm_if_eq (pc := 5) (tgt := 17) dX4_sizeOn_5 (by decide) ?_ ?_
  · refine sm_iconst (pc := 17) dX4_sizeOn_17 (v := 0) (by decide) ?_
    exact sm_iret (pc := 18) dX4_sizeOn_18 rfl
  · refine sm_aload_n (pc := 8) dX4_sizeOn_8 rfl 0 rfl ?_
    refine sm_getr (pc := 9) dX4_sizeOn_9 fi_X4_15 ?_
    refine sm_iload_n (pc := 12) dX4_sizeOn_12 rfl 1 rfl ?_
    refine sm_iald (pc := 13) dX4_sizeOn_13 ly_145 (by decide) (fun j3 hj3 => ?_)
    refine sm_goto (pc := 14) (tgt := 18) dX4_sizeOn_14 (by decide) ?_
    exact sm_iret (pc := 18) dX4_sizeOn_18 rfl
theorem c_X4_sizeOn (G : am_G) (l : Launch) (N : Nat) (a1 : Int32) (μ : am_M) : ct_P G l am_ci 2 me_X4_sizeOn [.ref (am_ad G 9 0), .int a1] μ (f_X4_sizeOn N a1 μ) := ct_of (by decide +kernel) (Nat.le_of_ble_eq_true rfl) rfl (p_X4_sizeOn_0 G l 2 (Nat.le_refl _) N a1 μ)

def f_X4_hold_26 (N : Nat) (r_26 : Int32 → Int32 → am_M → Option (Unit × am_M)) (x1 : Int32) (x4 : Int32) (μ : am_M) : Option (Unit × am_M) :=
if (60 : Int32) ≤ x4 then (some ((), μ)) else (am_gd x1 6 (fun j7 => am_gd x4 60 (fun j8 => am_nm (am_ul μ 446 j7 j8 (0 : Int64)) (fun μ9 => r_26 x1 (x4 + (1 : Int32)) μ9))))
def f_X4_hold_26_lp (N : Nat) : Nat → Int32 → Int32 → am_M → Option (Unit × am_M)
  | 0, _, _, _ => none
  | n + 1, x1, x4, μ => f_X4_hold_26 N (f_X4_hold_26_lp N n) x1 x4 μ
def f_X4_hold_0 (N : Nat) (a1 : Int32) (a2 : Int32) (a3 : Int32) (μ : am_M) : Option (Unit × am_M) :=
am_bd (f_X4_isShelf N a1 μ) (fun y2 μ1 => if y2 = 0 then (some ((), μ1)) else (am_gd a1 6 (fun j3 => am_nm (am_ui μ1 144 0 j3 a2) (fun μ4 => am_gd a1 6 (fun j5 => am_nm (am_ui μ4 145 0 j5 a3) (fun μ6 => f_X4_hold_26_lp N N a1 (0 : Int32) μ6))))))
def f_X4_hold (N : Nat) (a1 : Int32) (a2 : Int32) (a3 : Int32) (μ : am_M) : Option (Unit × am_M) := f_X4_hold_0 N a1 a2 a3 μ
set_option maxHeartbeats 4000000 in
set_option maxRecDepth 100000 in
theorem p_X4_hold_26 (G : am_G) (l : Launch) (d : Nat) (hd0 : 2 ≤ d) (N : Nat) (r_26 : Int32 → Int32 → am_M → Option (Unit × am_M)) (H_26 : ∀ (x1 : Int32) (x4 : Int32) (μ : am_M), sm_P G l am_cu d me_X4_hold 26 [(0, .ref (am_ad G 9 0)), (1, .int x1), (4, .int x4)] [] μ (r_26 x1 x4 μ)) (x1 : Int32) (x4 : Int32) (μ : am_M) : sm_P G l am_cu d me_X4_hold 26 [(0, .ref (am_ad G 9 0)), (1, .int x1), (4, .int x4)] [] μ (f_X4_hold_26 N r_26 x1 x4 μ) := by
  unfold f_X4_hold_26
  refine sm_iload (pc := 26) dX4_hold_26 2 rfl ?_
  refine sm_bipush (pc := 28) dX4_hold_28 (v := 60) (by decide) ?_
  refine sm_icmp_ge (pc := 30) (tgt := 49) dX4_hold_30 (by decide) ?_ ?_
  · exact sm_vret (pc := 49) dX4_hold_49 rfl
  · refine sm_aload_n (pc := 33) dX4_hold_33 rfl 0 rfl ?_
    refine sm_getr (pc := 34) dX4_hold_34 fi_X4_20 ?_
    refine sm_iload_n (pc := 37) dX4_hold_37 rfl 1 rfl ?_
    refine sm_aald (pc := 38) (t := 1) (ty := .long) dX4_hold_38 ly_146 (fun _ => rfl) (fun j7 hj7 => ?_)
    refine sm_iload (pc := 39) dX4_hold_39 2 rfl ?_
    refine sm_lconst (pc := 41) dX4_hold_41 (v := 0) (by decide) ?_
    refine sm_last (pc := 42) dX4_hold_42 ly_446 hj7 (fun j8 hj8 => ?_)
    refine sm_nmM (fun μ9 => ?_)
    refine sm_iinc (pc := 43) (v := (x4 + (1 : Int32))) (lv' := [(4, .int (x4 + (1 : Int32))), (0, .ref (am_ad G 9 0)), (1, .int x1)]) dX4_hold_43 2 rfl rfl (by decide) rfl ?_
    refine sm_goto (pc := 46) (tgt := 26) dX4_hold_46 (by decide) ?_
    refine sm_sub [1, 2, 0] rfl ?_
    exact H_26 x1 (x4 + (1 : Int32)) μ9
theorem p_X4_hold_26_lp (G : am_G) (l : Launch) (d : Nat) (hd0 : 2 ≤ d) (N : Nat) : ∀ (n : Nat) (x1 : Int32) (x4 : Int32) (μ : am_M), sm_P G l am_cu d me_X4_hold 26 [(0, .ref (am_ad G 9 0)), (1, .int x1), (4, .int x4)] [] μ (f_X4_hold_26_lp N n x1 x4 μ) := by
  intro n
  induction n with
  | zero => intros; exact sm_none
  | succ n ih => exact fun x1 x4 μ => p_X4_hold_26 G l d hd0 N (f_X4_hold_26_lp N n) ih x1 x4 μ
set_option maxHeartbeats 4000000 in
set_option maxRecDepth 100000 in
theorem p_X4_hold_0 (G : am_G) (l : Launch) (d : Nat) (hd0 : 2 ≤ d) (N : Nat) (a1 : Int32) (a2 : Int32) (a3 : Int32) (μ : am_M) : sm_P G l am_cu d me_X4_hold 0 [(0, .ref (am_ad G 9 0)), (1, .int a1), (2, .int a2), (3, .int a3)] [] μ (f_X4_hold_0 N a1 a2 a3 μ) := by
  unfold f_X4_hold_0
  refine sm_aload_n (pc := 0) dX4_hold_0 rfl 0 rfl ?_
  refine sm_iload_n (pc := 1) dX4_hold_1 rfl 1 rfl ?_
  refine sm_callVi (pc := 2) (As := [.int a1]) (rest := []) dX4_hold_2 (c_X4_isShelf G l N a1 μ) (by omega) wl_X4_27 vm_X4_isShelf rfl rfl (Nat.le_of_ble_eq_true rfl) (fun y2 μ1 => ?_)
  refine sm_if_ne (pc := 5) (tgt := 9) dX4_hold_5 (by decide) ?_ ?_
  · refine sm_aload_n (pc := 9) dX4_hold_9 rfl 0 rfl ?_
    refine sm_getr (pc := 10) dX4_hold_10 fi_X4_9 ?_
    refine sm_iload_n (pc := 13) dX4_hold_13 rfl 1 rfl ?_
    refine sm_iload_n (pc := 14) dX4_hold_14 rfl 2 rfl ?_
    refine sm_iast (pc := 15) dX4_hold_15 ly_144 (by decide) (fun j3 hj3 => ?_)
    refine sm_nmM (fun μ4 => ?_)
    refine sm_aload_n (pc := 16) dX4_hold_16 rfl 0 rfl ?_
    refine sm_getr (pc := 17) dX4_hold_17 fi_X4_15 ?_
    refine sm_iload_n (pc := 20) dX4_hold_20 rfl 1 rfl ?_
    refine sm_iload_n (pc := 21) dX4_hold_21 rfl 3 rfl ?_
    refine sm_iast (pc := 22) dX4_hold_22 ly_145 (by decide) (fun j5 hj5 => ?_)
    refine sm_nmM (fun μ6 => ?_)
    refine sm_iconst (pc := 23) dX4_hold_23 (v := 0) (by decide) ?_
    refine sm_istore (pc := 24) (lv' := [(4, .int (0 : Int32)), (0, .ref (am_ad G 9 0)), (1, .int a1), (2, .int a2), (3, .int a3)]) dX4_hold_24 (by decide) rfl ?_
    refine sm_sub [1, 2, 0] rfl ?_
    exact p_X4_hold_26_lp G l d hd0 N N a1 (0 : Int32) μ6
  · exact sm_vret (pc := 8) dX4_hold_8 rfl
theorem c_X4_hold (G : am_G) (l : Launch) (N : Nat) (a1 : Int32) (a2 : Int32) (a3 : Int32) (μ : am_M) : ct_P G l am_cu 2 me_X4_hold [.ref (am_ad G 9 0), .int a1, .int a2, .int a3] μ (f_X4_hold N a1 a2 a3 μ) := ct_of (by decide +kernel) (Nat.le_of_ble_eq_true rfl) rfl (p_X4_hold_0 G l 2 (Nat.le_refl _) N a1 a2 a3 μ)

def f_X4_holdsPart_0 (N : Nat) (a1 : Int32) (a2 : Int32) (a3 : Int32) (μ : am_M) : Option (Int32 × am_M) :=
am_bd (f_X4_isShelf N a1 μ) (fun y2 μ1 => if y2 = 0 then (am_z (0 : Int32) μ1) else (am_gd a1 6 (fun j3 => am_bd (f_X9_isWithin N a3 (0 : Int32) (μ1.1 145 0 j3) μ1) (fun y5 μ4 => if y5 = 0 then (am_z (0 : Int32) μ4) else (am_gd a1 6 (fun j6 => am_bd (f_X9_isWithin N a2 (0 : Int32) ((μ4.1 145 0 j6) - a3) μ4) (fun y8 μ7 => if y8 = 0 then (am_z (0 : Int32) μ7) else (am_z (1 : Int32) μ7))))))))
def f_X4_holdsPart (N : Nat) (a1 : Int32) (a2 : Int32) (a3 : Int32) (μ : am_M) : Option (Int32 × am_M) := f_X4_holdsPart_0 N a1 a2 a3 μ
set_option maxHeartbeats 4000000 in
set_option maxRecDepth 100000 in
theorem p_X4_holdsPart_0 (G : am_G) (l : Launch) (d : Nat) (hd0 : 2 ≤ d) (N : Nat) (a1 : Int32) (a2 : Int32) (a3 : Int32) (μ : am_M) : sm_P G l am_ci d me_X4_holdsPart 0 [(0, .ref (am_ad G 9 0)), (1, .int a1), (2, .int a2), (3, .int a3)] [] μ (f_X4_holdsPart_0 N a1 a2 a3 μ) := by
  unfold f_X4_holdsPart_0
  refine sm_aload_n (pc := 0) dX4_holdsPart_0 rfl 0 rfl ?_
  refine sm_iload_n (pc := 1) dX4_holdsPart_1 rfl 1 rfl ?_
  refine sm_callVi (pc := 2) (As := [.int a1]) (rest := []) dX4_holdsPart_2 (c_X4_isShelf G l N a1 μ) (by omega) wl_X4_27 vm_X4_isShelf rfl rfl (Nat.le_of_ble_eq_true rfl) (fun y2 μ1 => ?_)
  refine sm_if_eq (pc := 5) (tgt := 42) dX4_holdsPart_5 (by decide) ?_ ?_
  · refine sm_iconst (pc := 42) dX4_holdsPart_42 (v := 0) (by decide) ?_
    exact sm_zret (pc := 43) dX4_holdsPart_43 rfl
  · refine sm_iload_n (pc := 8) dX4_holdsPart_8 rfl 3 rfl ?_
    refine sm_iconst (pc := 9) dX4_holdsPart_9 (v := 0) (by decide) ?_
    refine sm_aload_n (pc := 10) dX4_holdsPart_10 rfl 0 rfl ?_
    refine sm_getr (pc := 11) dX4_holdsPart_11 fi_X4_15 ?_
    refine sm_iload_n (pc := 14) dX4_holdsPart_14 rfl 1 rfl ?_
    refine sm_iald (pc := 15) dX4_holdsPart_15 ly_145 (by decide) (fun j3 hj3 => ?_)
    refine sm_callNi (pc := 16) (As := [.int a3, .int (0 : Int32), .int (μ1.1 145 0 j3)]) (rest := []) dX4_holdsPart_16 (c_X9_isWithin G l N a3 (0 : Int32) (μ1.1 145 0 j3) μ1) (by omega) wl_X4_23 st_X9_isWithin rfl rfl (Nat.le_of_ble_eq_true rfl) (fun y5 μ4 => ?_)
    refine sm_if_eq (pc := 19) (tgt := 42) dX4_holdsPart_19 (by decide) ?_ ?_
    · refine sm_iconst (pc := 42) dX4_holdsPart_42 (v := 0) (by decide) ?_
      exact sm_zret (pc := 43) dX4_holdsPart_43 rfl
    · refine sm_iload_n (pc := 22) dX4_holdsPart_22 rfl 2 rfl ?_
      refine sm_iconst (pc := 23) dX4_holdsPart_23 (v := 0) (by decide) ?_
      refine sm_aload_n (pc := 24) dX4_holdsPart_24 rfl 0 rfl ?_
      refine sm_getr (pc := 25) dX4_holdsPart_25 fi_X4_15 ?_
      refine sm_iload_n (pc := 28) dX4_holdsPart_28 rfl 1 rfl ?_
      refine sm_iald (pc := 29) dX4_holdsPart_29 ly_145 (by decide) (fun j6 hj6 => ?_)
      refine sm_iload_n (pc := 30) dX4_holdsPart_30 rfl 3 rfl ?_
      refine sm_isub (pc := 31) dX4_holdsPart_31 ?_
      refine sm_callNi (pc := 32) (As := [.int a2, .int (0 : Int32), .int ((μ4.1 145 0 j6) - a3)]) (rest := []) dX4_holdsPart_32 (c_X9_isWithin G l N a2 (0 : Int32) ((μ4.1 145 0 j6) - a3) μ4) (by omega) wl_X4_23 st_X9_isWithin rfl rfl (Nat.le_of_ble_eq_true rfl) (fun y8 μ7 => ?_)
      refine sm_if_eq (pc := 35) (tgt := 42) dX4_holdsPart_35 (by decide) ?_ ?_
      · refine sm_iconst (pc := 42) dX4_holdsPart_42 (v := 0) (by decide) ?_
        exact sm_zret (pc := 43) dX4_holdsPart_43 rfl
      · refine sm_iconst (pc := 38) dX4_holdsPart_38 (v := 1) (by decide) ?_
        refine sm_goto (pc := 39) (tgt := 43) dX4_holdsPart_39 (by decide) ?_
        exact sm_zret (pc := 43) dX4_holdsPart_43 rfl
theorem c_X4_holdsPart (G : am_G) (l : Launch) (N : Nat) (a1 : Int32) (a2 : Int32) (a3 : Int32) (μ : am_M) : ct_P G l am_ci 2 me_X4_holdsPart [.ref (am_ad G 9 0), .int a1, .int a2, .int a3] μ (f_X4_holdsPart N a1 a2 a3 μ) := ct_of (by decide +kernel) (Nat.le_of_ble_eq_true rfl) rfl (p_X4_holdsPart_0 G l 2 (Nat.le_refl _) N a1 a2 a3 μ)

def f_X4_refusalOf_0 (N : Nat) (a1 : Int32) (a2 : Int32) (μ : am_M) : Option (Int32 × am_M) :=
am_bd (f_X4_isShelf N a1 μ) (fun y2 μ1 => if y2 = 0 then (some ((-1 : Int32), μ1)) else (am_gd a1 6 (fun j3 => if (μ1.1 144 0 j3) = (-1 : Int32) then (some ((-11 : Int32), μ1)) else (am_gd a1 6 (fun j4 => if (μ1.1 144 0 j4) = (5 : Int32) then (some ((-12 : Int32), μ1)) else (am_bd (f_X4_holdsPart N a1 a2 (1 : Int32) μ1) (fun y6 μ5 => if y6 = 0 then (some ((-13 : Int32), μ5)) else (some ((0 : Int32), μ5)))))))))
def f_X4_refusalOf (N : Nat) (a1 : Int32) (a2 : Int32) (μ : am_M) : Option (Int32 × am_M) := f_X4_refusalOf_0 N a1 a2 μ
set_option maxHeartbeats 4000000 in
set_option maxRecDepth 100000 in
theorem p_X4_refusalOf_0 (G : am_G) (l : Launch) (d : Nat) (hd0 : 3 ≤ d) (N : Nat) (a1 : Int32) (a2 : Int32) (μ : am_M) : sm_P G l am_ci d me_X4_refusalOf 0 [(0, .ref (am_ad G 9 0)), (1, .int a1), (2, .int a2)] [] μ (f_X4_refusalOf_0 N a1 a2 μ) := by
  unfold f_X4_refusalOf_0
  refine sm_aload_n (pc := 0) dX4_refusalOf_0 rfl 0 rfl ?_
  refine sm_iload_n (pc := 1) dX4_refusalOf_1 rfl 1 rfl ?_
  refine sm_callVi (pc := 2) (As := [.int a1]) (rest := []) dX4_refusalOf_2 (c_X4_isShelf G l N a1 μ) (by omega) wl_X4_27 vm_X4_isShelf rfl rfl (Nat.le_of_ble_eq_true rfl) (fun y2 μ1 => ?_)
  refine sm_if_ne (pc := 5) (tgt := 10) dX4_refusalOf_5 (by decide) ?_ ?_
  · refine sm_aload_n (pc := 10) dX4_refusalOf_10 rfl 0 rfl ?_
    refine sm_getr (pc := 11) dX4_refusalOf_11 fi_X4_9 ?_
    refine sm_iload_n (pc := 14) dX4_refusalOf_14 rfl 1 rfl ?_
    refine sm_iald (pc := 15) dX4_refusalOf_15 ly_144 (by decide) (fun j3 hj3 => ?_)
    refine sm_iconst (pc := 16) dX4_refusalOf_16 (v := -1) (by decide) ?_
    refine sm_icmp_ne (pc := 17) (tgt := 23) dX4_refusalOf_17 (by decide) ?_ ?_
    · refine sm_aload_n (pc := 23) dX4_refusalOf_23 rfl 0 rfl ?_
      refine sm_getr (pc := 24) dX4_refusalOf_24 fi_X4_9 ?_
      refine sm_iload_n (pc := 27) dX4_refusalOf_27 rfl 1 rfl ?_
      refine sm_iald (pc := 28) dX4_refusalOf_28 ly_144 (by decide) (fun j4 hj4 => ?_)
      refine sm_iconst (pc := 29) dX4_refusalOf_29 (v := 5) (by decide) ?_
      refine sm_icmp_ne (pc := 30) (tgt := 36) dX4_refusalOf_30 (by decide) ?_ ?_
      · refine sm_aload_n (pc := 36) dX4_refusalOf_36 rfl 0 rfl ?_
        refine sm_iload_n (pc := 37) dX4_refusalOf_37 rfl 1 rfl ?_
        refine sm_iload_n (pc := 38) dX4_refusalOf_38 rfl 2 rfl ?_
        refine sm_iconst (pc := 39) dX4_refusalOf_39 (v := 1) (by decide) ?_
        refine sm_callVi (pc := 40) (As := [.int a1, .int a2, .int (1 : Int32)]) (rest := []) dX4_refusalOf_40 (c_X4_holdsPart G l N a1 a2 (1 : Int32) μ1) (by omega) wl_X4_31 vm_X4_holdsPart rfl rfl (Nat.le_of_ble_eq_true rfl) (fun y6 μ5 => ?_)
        refine sm_if_eq (pc := 43) (tgt := 50) dX4_refusalOf_43 (by decide) ?_ ?_
        · refine sm_bipush (pc := 50) dX4_refusalOf_50 (v := -13) (by decide) ?_
          exact sm_iret (pc := 52) dX4_refusalOf_52 rfl
        · refine sm_iconst (pc := 46) dX4_refusalOf_46 (v := 0) (by decide) ?_
          refine sm_goto (pc := 47) (tgt := 52) dX4_refusalOf_47 (by decide) ?_
          exact sm_iret (pc := 52) dX4_refusalOf_52 rfl
      · refine sm_bipush (pc := 33) dX4_refusalOf_33 (v := -12) (by decide) ?_
        exact sm_iret (pc := 35) dX4_refusalOf_35 rfl
    · refine sm_bipush (pc := 20) dX4_refusalOf_20 (v := -11) (by decide) ?_
      exact sm_iret (pc := 22) dX4_refusalOf_22 rfl
  · refine sm_iconst (pc := 8) dX4_refusalOf_8 (v := -1) (by decide) ?_
    exact sm_iret (pc := 9) dX4_refusalOf_9 rfl
theorem c_X4_refusalOf (G : am_G) (l : Launch) (N : Nat) (a1 : Int32) (a2 : Int32) (μ : am_M) : ct_P G l am_ci 3 me_X4_refusalOf [.ref (am_ad G 9 0), .int a1, .int a2] μ (f_X4_refusalOf N a1 a2 μ) := ct_of (by decide +kernel) (Nat.le_of_ble_eq_true rfl) rfl (p_X4_refusalOf_0 G l 3 (Nat.le_refl _) N a1 a2 μ)

def f_X4_refusalOfTwo_66 (N : Nat) (μ : am_M) : Option (Int32 × am_M) :=
some ((-12 : Int32), μ)
def f_X4_refusalOfTwo_0 (N : Nat) (a1 : Int32) (a2 : Int32) (μ : am_M) : Option (Int32 × am_M) :=
am_bd (f_X4_isShelf N a1 μ) (fun y2 μ1 => if y2 = 0 then (some ((-1 : Int32), μ1)) else (am_bd (f_X4_isShelf N a2 μ1) (fun y4 μ3 => if y4 = 0 then (some ((-1 : Int32), μ3)) else (am_gd a1 6 (fun j5 => if (μ3.1 144 0 j5) = (-1 : Int32) then (some ((-11 : Int32), μ3)) else (am_gd a2 6 (fun j6 => if (μ3.1 144 0 j6) = (-1 : Int32) then (some ((-11 : Int32), μ3)) else (am_gd a1 6 (fun j7 => if (μ3.1 144 0 j7) = (5 : Int32) then (f_X4_refusalOfTwo_66 N μ3) else (am_gd a1 6 (fun j8 => am_gd a2 6 (fun j9 => if (μ3.1 144 0 j8) = (μ3.1 144 0 j9) then (some ((0 : Int32), μ3)) else (f_X4_refusalOfTwo_66 N μ3)))))))))))))
def f_X4_refusalOfTwo (N : Nat) (a1 : Int32) (a2 : Int32) (μ : am_M) : Option (Int32 × am_M) := f_X4_refusalOfTwo_0 N a1 a2 μ
set_option maxHeartbeats 4000000 in
set_option maxRecDepth 100000 in
theorem p_X4_refusalOfTwo_66 (G : am_G) (l : Launch) (d : Nat) (hd0 : 2 ≤ d) (N : Nat) (μ : am_M) : sm_P G l am_ci d me_X4_refusalOfTwo 66 [(0, .ref (am_ad G 9 0))] [] μ (f_X4_refusalOfTwo_66 N μ) := by
  unfold f_X4_refusalOfTwo_66
  refine sm_bipush (pc := 66) dX4_refusalOfTwo_66 (v := -12) (by decide) ?_
  refine sm_goto (pc := 68) (tgt := 72) dX4_refusalOfTwo_68 (by decide) ?_
  exact sm_iret (pc := 72) dX4_refusalOfTwo_72 rfl
set_option maxHeartbeats 4000000 in
set_option maxRecDepth 100000 in
theorem p_X4_refusalOfTwo_0 (G : am_G) (l : Launch) (d : Nat) (hd0 : 2 ≤ d) (N : Nat) (a1 : Int32) (a2 : Int32) (μ : am_M) : sm_P G l am_ci d me_X4_refusalOfTwo 0 [(0, .ref (am_ad G 9 0)), (1, .int a1), (2, .int a2)] [] μ (f_X4_refusalOfTwo_0 N a1 a2 μ) := by
  unfold f_X4_refusalOfTwo_0
  refine sm_aload_n (pc := 0) dX4_refusalOfTwo_0 rfl 0 rfl ?_
  refine sm_iload_n (pc := 1) dX4_refusalOfTwo_1 rfl 1 rfl ?_
  refine sm_callVi (pc := 2) (As := [.int a1]) (rest := []) dX4_refusalOfTwo_2 (c_X4_isShelf G l N a1 μ) (by omega) wl_X4_27 vm_X4_isShelf rfl rfl (Nat.le_of_ble_eq_true rfl) (fun y2 μ1 => ?_)
  refine sm_if_eq (pc := 5) (tgt := 16) dX4_refusalOfTwo_5 (by decide) ?_ ?_
  · refine sm_iconst (pc := 16) dX4_refusalOfTwo_16 (v := -1) (by decide) ?_
    exact sm_iret (pc := 17) dX4_refusalOfTwo_17 rfl
  · refine sm_aload_n (pc := 8) dX4_refusalOfTwo_8 rfl 0 rfl ?_
    refine sm_iload_n (pc := 9) dX4_refusalOfTwo_9 rfl 2 rfl ?_
    refine sm_callVi (pc := 10) (As := [.int a2]) (rest := []) dX4_refusalOfTwo_10 (c_X4_isShelf G l N a2 μ1) (by omega) wl_X4_27 vm_X4_isShelf rfl rfl (Nat.le_of_ble_eq_true rfl) (fun y4 μ3 => ?_)
    refine sm_if_ne (pc := 13) (tgt := 18) dX4_refusalOfTwo_13 (by decide) ?_ ?_
    · refine sm_aload_n (pc := 18) dX4_refusalOfTwo_18 rfl 0 rfl ?_
      refine sm_getr (pc := 19) dX4_refusalOfTwo_19 fi_X4_9 ?_
      refine sm_iload_n (pc := 22) dX4_refusalOfTwo_22 rfl 1 rfl ?_
      refine sm_iald (pc := 23) dX4_refusalOfTwo_23 ly_144 (by decide) (fun j5 hj5 => ?_)
      refine sm_iconst (pc := 24) dX4_refusalOfTwo_24 (v := -1) (by decide) ?_
      refine sm_icmp_eq (pc := 25) (tgt := 38) dX4_refusalOfTwo_25 (by decide) ?_ ?_
      · refine sm_bipush (pc := 38) dX4_refusalOfTwo_38 (v := -11) (by decide) ?_
        exact sm_iret (pc := 40) dX4_refusalOfTwo_40 rfl
      · refine sm_aload_n (pc := 28) dX4_refusalOfTwo_28 rfl 0 rfl ?_
        refine sm_getr (pc := 29) dX4_refusalOfTwo_29 fi_X4_9 ?_
        refine sm_iload_n (pc := 32) dX4_refusalOfTwo_32 rfl 2 rfl ?_
        refine sm_iald (pc := 33) dX4_refusalOfTwo_33 ly_144 (by decide) (fun j6 hj6 => ?_)
        refine sm_iconst (pc := 34) dX4_refusalOfTwo_34 (v := -1) (by decide) ?_
        refine sm_icmp_ne (pc := 35) (tgt := 41) dX4_refusalOfTwo_35 (by decide) ?_ ?_
        · refine sm_aload_n (pc := 41) dX4_refusalOfTwo_41 rfl 0 rfl ?_
          refine sm_getr (pc := 42) dX4_refusalOfTwo_42 fi_X4_9 ?_
          refine sm_iload_n (pc := 45) dX4_refusalOfTwo_45 rfl 1 rfl ?_
          refine sm_iald (pc := 46) dX4_refusalOfTwo_46 ly_144 (by decide) (fun j7 hj7 => ?_)
          refine sm_iconst (pc := 47) dX4_refusalOfTwo_47 (v := 5) (by decide) ?_
          refine sm_icmp_eq (pc := 48) (tgt := 66) dX4_refusalOfTwo_48 (by decide) ?_ ?_
          · refine sm_sub [0] rfl ?_
            exact p_X4_refusalOfTwo_66 G l d hd0 N μ3
          · refine sm_aload_n (pc := 51) dX4_refusalOfTwo_51 rfl 0 rfl ?_
            refine sm_getr (pc := 52) dX4_refusalOfTwo_52 fi_X4_9 ?_
            refine sm_iload_n (pc := 55) dX4_refusalOfTwo_55 rfl 1 rfl ?_
            refine sm_iald (pc := 56) dX4_refusalOfTwo_56 ly_144 (by decide) (fun j8 hj8 => ?_)
            refine sm_aload_n (pc := 57) dX4_refusalOfTwo_57 rfl 0 rfl ?_
            refine sm_getr (pc := 58) dX4_refusalOfTwo_58 fi_X4_9 ?_
            refine sm_iload_n (pc := 61) dX4_refusalOfTwo_61 rfl 2 rfl ?_
            refine sm_iald (pc := 62) dX4_refusalOfTwo_62 ly_144 (by decide) (fun j9 hj9 => ?_)
            refine sm_icmp_eq (pc := 63) (tgt := 71) dX4_refusalOfTwo_63 (by decide) ?_ ?_
            · refine sm_iconst (pc := 71) dX4_refusalOfTwo_71 (v := 0) (by decide) ?_
              exact sm_iret (pc := 72) dX4_refusalOfTwo_72 rfl
            · refine sm_sub [0] rfl ?_
              exact p_X4_refusalOfTwo_66 G l d hd0 N μ3
        · refine sm_bipush (pc := 38) dX4_refusalOfTwo_38 (v := -11) (by decide) ?_
          exact sm_iret (pc := 40) dX4_refusalOfTwo_40 rfl
    · refine sm_iconst (pc := 16) dX4_refusalOfTwo_16 (v := -1) (by decide) ?_
      exact sm_iret (pc := 17) dX4_refusalOfTwo_17 rfl
theorem c_X4_refusalOfTwo (G : am_G) (l : Launch) (N : Nat) (a1 : Int32) (a2 : Int32) (μ : am_M) : ct_P G l am_ci 2 me_X4_refusalOfTwo [.ref (am_ad G 9 0), .int a1, .int a2] μ (f_X4_refusalOfTwo N a1 a2 μ) := ct_of (by decide +kernel) (Nat.le_of_ble_eq_true rfl) rfl (p_X4_refusalOfTwo_0 G l 2 (Nat.le_refl _) N a1 a2 μ)

def f_X4_read_0 (N : Nat) (a1 : Int32) (a2 : Int32) (μ : am_M) : Option (Int64 × am_M) :=
am_bd (f_X4_isShelf N a1 μ) (fun y2 μ1 => if y2 = 0 then (some ((0 : Int64), μ1)) else (am_bd (f_X9_isWithin N a2 (0 : Int32) (59 : Int32) μ1) (fun y4 μ3 => if y4 = 0 then (some ((0 : Int64), μ3)) else (am_gd a1 6 (fun j5 => am_gd a2 60 (fun j6 => some ((μ3.2 446 j5 j6), μ3)))))))
def f_X4_read (N : Nat) (a1 : Int32) (a2 : Int32) (μ : am_M) : Option (Int64 × am_M) := f_X4_read_0 N a1 a2 μ
set_option maxHeartbeats 4000000 in
set_option maxRecDepth 100000 in
theorem p_X4_read_0 (G : am_G) (l : Launch) (d : Nat) (hd0 : 2 ≤ d) (N : Nat) (a1 : Int32) (a2 : Int32) (μ : am_M) : sm_P G l am_cl d me_X4_read 0 [(0, .ref (am_ad G 9 0)), (1, .int a1), (2, .int a2)] [] μ (f_X4_read_0 N a1 a2 μ) := by
  unfold f_X4_read_0
  refine sm_aload_n (pc := 0) dX4_read_0 rfl 0 rfl ?_
  refine sm_iload_n (pc := 1) dX4_read_1 rfl 1 rfl ?_
  refine sm_callVi (pc := 2) (As := [.int a1]) (rest := []) dX4_read_2 (c_X4_isShelf G l N a1 μ) (by omega) wl_X4_27 vm_X4_isShelf rfl rfl (Nat.le_of_ble_eq_true rfl) (fun y2 μ1 => ?_)
  refine sm_if_eq (pc := 5) (tgt := 29) dX4_read_5 (by decide) ?_ ?_
  · refine sm_lconst (pc := 29) dX4_read_29 (v := 0) (by decide) ?_
    exact sm_lret (pc := 30) dX4_read_30 rfl
  · refine sm_iload_n (pc := 8) dX4_read_8 rfl 2 rfl ?_
    refine sm_iconst (pc := 9) dX4_read_9 (v := 0) (by decide) ?_
    refine sm_bipush (pc := 10) dX4_read_10 (v := 59) (by decide) ?_
    refine sm_callNi (pc := 12) (As := [.int a2, .int (0 : Int32), .int (59 : Int32)]) (rest := []) dX4_read_12 (c_X9_isWithin G l N a2 (0 : Int32) (59 : Int32) μ1) (by omega) wl_X4_23 st_X9_isWithin rfl rfl (Nat.le_of_ble_eq_true rfl) (fun y4 μ3 => ?_)
    refine sm_if_eq (pc := 15) (tgt := 29) dX4_read_15 (by decide) ?_ ?_
    · refine sm_lconst (pc := 29) dX4_read_29 (v := 0) (by decide) ?_
      exact sm_lret (pc := 30) dX4_read_30 rfl
    · refine sm_aload_n (pc := 18) dX4_read_18 rfl 0 rfl ?_
      refine sm_getr (pc := 19) dX4_read_19 fi_X4_20 ?_
      refine sm_iload_n (pc := 22) dX4_read_22 rfl 1 rfl ?_
      refine sm_aald (pc := 23) (t := 1) (ty := .long) dX4_read_23 ly_146 (fun _ => rfl) (fun j5 hj5 => ?_)
      refine sm_iload_n (pc := 24) dX4_read_24 rfl 2 rfl ?_
      refine sm_lald (pc := 25) dX4_read_25 ly_446 hj5 (fun j6 hj6 => ?_)
      refine sm_goto (pc := 26) (tgt := 30) dX4_read_26 (by decide) ?_
      exact sm_lret (pc := 30) dX4_read_30 rfl
theorem c_X4_read (G : am_G) (l : Launch) (N : Nat) (a1 : Int32) (a2 : Int32) (μ : am_M) : ct_P G l am_cl 2 me_X4_read [.ref (am_ad G 9 0), .int a1, .int a2] μ (f_X4_read N a1 a2 μ) := ct_of (by decide +kernel) (Nat.le_of_ble_eq_true rfl) rfl (p_X4_read_0 G l 2 (Nat.le_refl _) N a1 a2 μ)

def f_X4_lowest_0 (N : Nat) (a0 : Int32) (a1 : Int64) (μ : am_M) : Option (Int64 × am_M) :=
if a0 = (0 : Int32) then (some (a1.toInt32.toInt8.toInt32.toInt64, μ)) else (if a0 = (1 : Int32) then (some (a1.toInt32.toInt16.toInt32.toInt64, μ)) else (if a0 = (2 : Int32) then (some (a1.toInt32.toInt64, μ)) else (if a0 = (3 : Int32) then (some (a1, μ)) else (if (lg_cmp a1 (0 : Int64)) = 0 then (some ((0 : Int64), μ)) else (some ((1 : Int64), μ))))))
def f_X4_lowest (N : Nat) (a0 : Int32) (a1 : Int64) (μ : am_M) : Option (Int64 × am_M) := f_X4_lowest_0 N a0 a1 μ
set_option maxHeartbeats 4000000 in
set_option maxRecDepth 100000 in
theorem p_X4_lowest_0 (G : am_G) (l : Launch) (d : Nat) (hd0 : 0 ≤ d) (N : Nat) (a0 : Int32) (a1 : Int64) (μ : am_M) : sm_P G l am_cl d me_X4_lowest 0 [(0, .int a0), (1, .long a1)] [] μ (f_X4_lowest_0 N a0 a1 μ) := by
  unfold f_X4_lowest_0
  refine sm_iload_n (pc := 0) dX4_lowest_0 rfl 0 rfl ?_
  refine sm_ite (fun e1 => ?_) (fun e1 => ?_)
  · refine sm_tsi (pc := 1) (c1 := 0) (off := 31) (tgt := 32) e1 dX4_lowest_1 (by decide) (by decide) (by decide) (by decide) ?_
    refine sm_lload_n (pc := 32) dX4_lowest_32 rfl 1 rfl ?_
    refine sm_l2i (pc := 33) dX4_lowest_33 ?_
    refine sm_i2b (pc := 34) dX4_lowest_34 ?_
    refine sm_i2l (pc := 35) dX4_lowest_35 ?_
    exact sm_lret (pc := 36) dX4_lowest_36 rfl
  refine sm_ite (fun e2 => ?_) (fun e2 => ?_)
  · refine sm_tsi (pc := 1) (c1 := 1) (off := 36) (tgt := 37) e2 dX4_lowest_1 (by decide) (by decide) (by decide) (by decide) ?_
    refine sm_lload_n (pc := 37) dX4_lowest_37 rfl 1 rfl ?_
    refine sm_l2i (pc := 38) dX4_lowest_38 ?_
    refine sm_i2s (pc := 39) dX4_lowest_39 ?_
    refine sm_i2l (pc := 40) dX4_lowest_40 ?_
    exact sm_lret (pc := 41) dX4_lowest_41 rfl
  refine sm_ite (fun e3 => ?_) (fun e3 => ?_)
  · refine sm_tsi (pc := 1) (c1 := 2) (off := 41) (tgt := 42) e3 dX4_lowest_1 (by decide) (by decide) (by decide) (by decide) ?_
    refine sm_lload_n (pc := 42) dX4_lowest_42 rfl 1 rfl ?_
    refine sm_l2i (pc := 43) dX4_lowest_43 ?_
    refine sm_i2l (pc := 44) dX4_lowest_44 ?_
    exact sm_lret (pc := 45) dX4_lowest_45 rfl
  refine sm_ite (fun e4 => ?_) (fun e4 => ?_)
  · refine sm_tsi (pc := 1) (c1 := 3) (off := 45) (tgt := 46) e4 dX4_lowest_1 (by decide) (by decide) (by decide) (by decide) ?_
    refine sm_lload_n (pc := 46) dX4_lowest_46 rfl 1 rfl ?_
    exact sm_lret (pc := 47) dX4_lowest_47 rfl
  replace e1 := am_ne (n := 0) (by decide) e1
  replace e2 := am_ne (n := 1) (by decide) e2
  replace e3 := am_ne (n := 2) (by decide) e3
  replace e4 := am_ne (n := 3) (by decide) e4
  refine sm_tso (pc := 1) (tgt := 48) dX4_lowest_1 (by omega) (by decide) ?_
  refine sm_lload_n (pc := 48) dX4_lowest_48 rfl 1 rfl ?_
  refine sm_lconst (pc := 49) dX4_lowest_49 (v := 0) (by decide) ?_
  refine sm_lcmp (pc := 50) dX4_lowest_50 ?_
  refine sm_if_eq (pc := 51) (tgt := 58) dX4_lowest_51 (by decide) ?_ ?_
  · refine sm_lconst (pc := 58) dX4_lowest_58 (v := 0) (by decide) ?_
    exact sm_lret (pc := 59) dX4_lowest_59 rfl
  · refine sm_lconst (pc := 54) dX4_lowest_54 (v := 1) (by decide) ?_
    refine sm_goto (pc := 55) (tgt := 59) dX4_lowest_55 (by decide) ?_
    exact sm_lret (pc := 59) dX4_lowest_59 rfl
theorem c_X4_lowest (G : am_G) (l : Launch) (N : Nat) (a0 : Int32) (a1 : Int64) (μ : am_M) : ct_P G l am_cl 0 me_X4_lowest [.int a0, .long a1] μ (f_X4_lowest N a0 a1 μ) := ct_of (by decide +kernel) (Nat.le_of_ble_eq_true rfl) rfl (p_X4_lowest_0 G l 0 (Nat.le_refl _) N a0 a1 μ)

def f_X4_write_0 (N : Nat) (a1 : Int32) (a2 : Int32) (a3 : Int64) (μ : am_M) : Option (Unit × am_M) :=
am_bd (f_X4_isShelf N a1 μ) (fun y2 μ1 => if y2 = 0 then (some ((), μ1)) else (am_bd (f_X9_isWithin N a2 (0 : Int32) (59 : Int32) μ1) (fun y4 μ3 => if y4 = 0 then (some ((), μ3)) else (am_gd a1 6 (fun j5 => am_gd a1 6 (fun j6 => am_bd (f_X4_lowest N (μ3.1 144 0 j6) a3 μ3) (fun y8 μ7 => am_gd a2 60 (fun j9 => am_nm (am_ul μ7 446 j5 j9 y8) (fun μ10 => some ((), μ10))))))))))
def f_X4_write (N : Nat) (a1 : Int32) (a2 : Int32) (a3 : Int64) (μ : am_M) : Option (Unit × am_M) := f_X4_write_0 N a1 a2 a3 μ
set_option maxHeartbeats 4000000 in
set_option maxRecDepth 100000 in
theorem p_X4_write_0 (G : am_G) (l : Launch) (d : Nat) (hd0 : 2 ≤ d) (N : Nat) (a1 : Int32) (a2 : Int32) (a3 : Int64) (μ : am_M) : sm_P G l am_cu d me_X4_write 0 [(0, .ref (am_ad G 9 0)), (1, .int a1), (2, .int a2), (3, .long a3)] [] μ (f_X4_write_0 N a1 a2 a3 μ) := by
  unfold f_X4_write_0
  refine sm_aload_n (pc := 0) dX4_write_0 rfl 0 rfl ?_
  refine sm_iload_n (pc := 1) dX4_write_1 rfl 1 rfl ?_
  refine sm_callVi (pc := 2) (As := [.int a1]) (rest := []) dX4_write_2 (c_X4_isShelf G l N a1 μ) (by omega) wl_X4_27 vm_X4_isShelf rfl rfl (Nat.le_of_ble_eq_true rfl) (fun y2 μ1 => ?_)
  refine sm_if_eq (pc := 5) (tgt := 36) dX4_write_5 (by decide) ?_ ?_
  · exact sm_vret (pc := 36) dX4_write_36 rfl
  · refine sm_iload_n (pc := 8) dX4_write_8 rfl 2 rfl ?_
    refine sm_iconst (pc := 9) dX4_write_9 (v := 0) (by decide) ?_
    refine sm_bipush (pc := 10) dX4_write_10 (v := 59) (by decide) ?_
    refine sm_callNi (pc := 12) (As := [.int a2, .int (0 : Int32), .int (59 : Int32)]) (rest := []) dX4_write_12 (c_X9_isWithin G l N a2 (0 : Int32) (59 : Int32) μ1) (by omega) wl_X4_23 st_X9_isWithin rfl rfl (Nat.le_of_ble_eq_true rfl) (fun y4 μ3 => ?_)
    refine sm_if_eq (pc := 15) (tgt := 36) dX4_write_15 (by decide) ?_ ?_
    · exact sm_vret (pc := 36) dX4_write_36 rfl
    · refine sm_aload_n (pc := 18) dX4_write_18 rfl 0 rfl ?_
      refine sm_getr (pc := 19) dX4_write_19 fi_X4_20 ?_
      refine sm_iload_n (pc := 22) dX4_write_22 rfl 1 rfl ?_
      refine sm_aald (pc := 23) (t := 1) (ty := .long) dX4_write_23 ly_146 (fun _ => rfl) (fun j5 hj5 => ?_)
      refine sm_iload_n (pc := 24) dX4_write_24 rfl 2 rfl ?_
      refine sm_aload_n (pc := 25) dX4_write_25 rfl 0 rfl ?_
      refine sm_getr (pc := 26) dX4_write_26 fi_X4_9 ?_
      refine sm_iload_n (pc := 29) dX4_write_29 rfl 1 rfl ?_
      refine sm_iald (pc := 30) dX4_write_30 ly_144 (by decide) (fun j6 hj6 => ?_)
      refine sm_lload_n (pc := 31) dX4_write_31 rfl 3 rfl ?_
      refine sm_callSl (pc := 32) (As := [.int (μ3.1 144 0 j6), .long a3]) (rest := [.int a2, .ref (am_ad G 446 j5)]) dX4_write_32 (c_X4_lowest G l N (μ3.1 144 0 j6) a3 μ3) (by omega) wl_X4_34 st_X4_lowest rfl rfl (Nat.le_of_ble_eq_true rfl) (fun y8 μ7 => ?_)
      refine sm_last (pc := 35) dX4_write_35 ly_446 hj5 (fun j9 hj9 => ?_)
      refine sm_nmM (fun μ10 => ?_)
      exact sm_vret (pc := 36) dX4_write_36 rfl
theorem c_X4_write (G : am_G) (l : Launch) (N : Nat) (a1 : Int32) (a2 : Int32) (a3 : Int64) (μ : am_M) : ct_P G l am_cu 2 me_X4_write [.ref (am_ad G 9 0), .int a1, .int a2, .long a3] μ (f_X4_write N a1 a2 a3 μ) := ct_of (by decide +kernel) (Nat.le_of_ble_eq_true rfl) rfl (p_X4_write_0 G l 2 (Nat.le_refl _) N a1 a2 a3 μ)

def f_X4_copy_0 (N : Nat) (a1 : Int32) (a2 : Int32) (a3 : Int32) (a4 : Int32) (a5 : Int32) (μ : am_M) : Option (Unit × am_M) :=
am_bd (f_X4_holdsPart N a1 a2 a5 μ) (fun y2 μ1 => if y2 = 0 then (some ((), μ1)) else (am_bd (f_X4_holdsPart N a3 a4 a5 μ1) (fun y4 μ3 => if y4 = 0 then (some ((), μ3)) else (am_gd a1 6 (fun j5 => am_gd a3 6 (fun j6 => am_cg a2 a4 a5 60 (fun j7 j8 j9 => am_nm (am_uf μ3 446 j6 (va_cpy (μ3.2 446 j5) (μ3.2 446 j6) j7 j8 j9)) (fun μ10 => some ((), μ10)))))))))
def f_X4_copy (N : Nat) (a1 : Int32) (a2 : Int32) (a3 : Int32) (a4 : Int32) (a5 : Int32) (μ : am_M) : Option (Unit × am_M) := f_X4_copy_0 N a1 a2 a3 a4 a5 μ
set_option maxHeartbeats 4000000 in
set_option maxRecDepth 100000 in
theorem p_X4_copy_0 (G : am_G) (l : Launch) (d : Nat) (hd0 : 3 ≤ d) (N : Nat) (a1 : Int32) (a2 : Int32) (a3 : Int32) (a4 : Int32) (a5 : Int32) (μ : am_M) : sm_P G l am_cu d me_X4_copy 0 [(0, .ref (am_ad G 9 0)), (1, .int a1), (2, .int a2), (3, .int a3), (4, .int a4), (5, .int a5)] [] μ (f_X4_copy_0 N a1 a2 a3 a4 a5 μ) := by
  unfold f_X4_copy_0
  refine sm_aload_n (pc := 0) dX4_copy_0 rfl 0 rfl ?_
  refine sm_iload_n (pc := 1) dX4_copy_1 rfl 1 rfl ?_
  refine sm_iload_n (pc := 2) dX4_copy_2 rfl 2 rfl ?_
  refine sm_iload (pc := 3) dX4_copy_3 5 rfl ?_
  refine sm_callVi (pc := 5) (As := [.int a1, .int a2, .int a5]) (rest := []) dX4_copy_5 (c_X4_holdsPart G l N a1 a2 a5 μ) (by omega) wl_X4_31 vm_X4_holdsPart rfl rfl (Nat.le_of_ble_eq_true rfl) (fun y2 μ1 => ?_)
  refine sm_if_eq (pc := 8) (tgt := 43) dX4_copy_8 (by decide) ?_ ?_
  · exact sm_vret (pc := 43) dX4_copy_43 rfl
  · refine sm_aload_n (pc := 11) dX4_copy_11 rfl 0 rfl ?_
    refine sm_iload_n (pc := 12) dX4_copy_12 rfl 3 rfl ?_
    refine sm_iload (pc := 13) dX4_copy_13 4 rfl ?_
    refine sm_iload (pc := 15) dX4_copy_15 5 rfl ?_
    refine sm_callVi (pc := 17) (As := [.int a3, .int a4, .int a5]) (rest := []) dX4_copy_17 (c_X4_holdsPart G l N a3 a4 a5 μ1) (by omega) wl_X4_31 vm_X4_holdsPart rfl rfl (Nat.le_of_ble_eq_true rfl) (fun y4 μ3 => ?_)
    refine sm_if_eq (pc := 20) (tgt := 43) dX4_copy_20 (by decide) ?_ ?_
    · exact sm_vret (pc := 43) dX4_copy_43 rfl
    · refine sm_aload_n (pc := 23) dX4_copy_23 rfl 0 rfl ?_
      refine sm_getr (pc := 24) dX4_copy_24 fi_X4_20 ?_
      refine sm_iload_n (pc := 27) dX4_copy_27 rfl 1 rfl ?_
      refine sm_aald (pc := 28) (t := 1) (ty := .long) dX4_copy_28 ly_146 (fun _ => rfl) (fun j5 hj5 => ?_)
      refine sm_iload_n (pc := 29) dX4_copy_29 rfl 2 rfl ?_
      refine sm_aload_n (pc := 30) dX4_copy_30 rfl 0 rfl ?_
      refine sm_getr (pc := 31) dX4_copy_31 fi_X4_20 ?_
      refine sm_iload_n (pc := 34) dX4_copy_34 rfl 3 rfl ?_
      refine sm_aald (pc := 35) (t := 1) (ty := .long) dX4_copy_35 ly_146 (fun _ => rfl) (fun j6 hj6 => ?_)
      refine sm_iload (pc := 36) dX4_copy_36 4 rfl ?_
      refine sm_iload (pc := 38) dX4_copy_38 5 rfl ?_
      refine sm_copyl (pc := 40) dX4_copy_40 (by omega) (Nat.le_of_ble_eq_true rfl) (by decide) ly_446 hj5 hj6 wl_X4_38 wd_acn wd_acs wd_sini (fun j7 j8 j9 => ?_)
      refine sm_nmM (fun μ10 => ?_)
      exact sm_vret (pc := 43) dX4_copy_43 rfl
theorem c_X4_copy (G : am_G) (l : Launch) (N : Nat) (a1 : Int32) (a2 : Int32) (a3 : Int32) (a4 : Int32) (a5 : Int32) (μ : am_M) : ct_P G l am_cu 3 me_X4_copy [.ref (am_ad G 9 0), .int a1, .int a2, .int a3, .int a4, .int a5] μ (f_X4_copy N a1 a2 a3 a4 a5 μ) := ct_of (by decide +kernel) (Nat.le_of_ble_eq_true rfl) rfl (p_X4_copy_0 G l 3 (Nat.le_refl _) N a1 a2 a3 a4 a5 μ)
