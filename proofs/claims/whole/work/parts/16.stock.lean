def f_X5_at_0 (N : Nat) (a1 : Int32) (a2 : Int32) (μ : am_M) : Option (Int32 × am_M) :=
am_bd (f_X9_isWithin N a1 (0 : Int32) (8 : Int32) μ) (fun y2 μ1 => if y2 = 0 then (some ((0 : Int32), μ1)) else (am_bd (f_X9_isWithin N a2 (0 : Int32) (5 : Int32) μ1) (fun y4 μ3 => if y4 = 0 then (some ((0 : Int32), μ3)) else (am_gd a1 9 (fun j5 => am_gd a2 6 (fun j6 => some ((μ3.1 316 j5 j6), μ3)))))))
def f_X5_at (N : Nat) (a1 : Int32) (a2 : Int32) (μ : am_M) : Option (Int32 × am_M) := f_X5_at_0 N a1 a2 μ
set_option maxHeartbeats 4000000 in
set_option maxRecDepth 100000 in
theorem p_X5_at_0 (G : am_G) (l : Launch) (d : Nat) (hd0 : 1 ≤ d) (N : Nat) (a1 : Int32) (a2 : Int32) (μ : am_M) : sm_P G l am_ci d me_X5_at 0 [(0, .ref (am_ad G 1 0)), (1, .int a1), (2, .int a2)] [] μ (f_X5_at_0 N a1 a2 μ) := by
  unfold f_X5_at_0
  refine sm_iload_n (pc := 0) dX5_at_0 rfl 1 rfl ?_
  refine sm_iconst (pc := 1) dX5_at_1 (v := 0) (by decide) ?_
  refine sm_bipush (pc := 2) dX5_at_2 (v := 8) (by decide) ?_
  refine sm_callNi (pc := 4) (As := [.int a1, .int (0 : Int32), .int (8 : Int32)]) (rest := []) dX5_at_4 (c_X9_isWithin G l N a1 (0 : Int32) (8 : Int32) μ) (by omega) wl_X5_20 st_X9_isWithin rfl rfl (Nat.le_of_ble_eq_true rfl) (fun y2 μ1 => ?_)
  refine sm_if_eq (pc := 7) (tgt := 19) dX5_at_7 (by decide) ?_ ?_
  · refine sm_iconst (pc := 19) dX5_at_19 (v := 0) (by decide) ?_
    exact sm_iret (pc := 20) dX5_at_20 rfl
  · refine sm_iload_n (pc := 10) dX5_at_10 rfl 2 rfl ?_
    refine sm_iconst (pc := 11) dX5_at_11 (v := 0) (by decide) ?_
    refine sm_iconst (pc := 12) dX5_at_12 (v := 5) (by decide) ?_
    refine sm_callNi (pc := 13) (As := [.int a2, .int (0 : Int32), .int (5 : Int32)]) (rest := []) dX5_at_13 (c_X9_isWithin G l N a2 (0 : Int32) (5 : Int32) μ1) (by omega) wl_X5_20 st_X9_isWithin rfl rfl (Nat.le_of_ble_eq_true rfl) (fun y4 μ3 => ?_)
    refine sm_if_ne (pc := 16) (tgt := 21) dX5_at_16 (by decide) ?_ ?_
    · refine sm_aload_n (pc := 21) dX5_at_21 rfl 0 rfl ?_
      refine sm_getr (pc := 22) dX5_at_22 fi_X5_11 ?_
      refine sm_iload_n (pc := 25) dX5_at_25 rfl 1 rfl ?_
      refine sm_aald (pc := 26) (t := 0) (ty := .int) dX5_at_26 ly_16 (fun _ => rfl) (fun j5 hj5 => ?_)
      refine sm_iload_n (pc := 27) dX5_at_27 rfl 2 rfl ?_
      refine sm_iald (pc := 28) dX5_at_28 ly_316 hj5 (fun j6 hj6 => ?_)
      exact sm_iret (pc := 29) dX5_at_29 rfl
    · refine sm_iconst (pc := 19) dX5_at_19 (v := 0) (by decide) ?_
      exact sm_iret (pc := 20) dX5_at_20 rfl
theorem c_X5_at (G : am_G) (l : Launch) (N : Nat) (a1 : Int32) (a2 : Int32) (μ : am_M) : ct_P G l am_ci 1 me_X5_at [.ref (am_ad G 1 0), .int a1, .int a2] μ (f_X5_at N a1 a2 μ) := ct_of (by decide +kernel) (Nat.le_of_ble_eq_true rfl) rfl (p_X5_at_0 G l 1 (Nat.le_refl _) N a1 a2 μ)

def f_X5_pointsInAll_0 (N : Nat) (a1 : Int32) (μ : am_M) : Option (Int32 × am_M) :=
am_bd (f_X5_at N (6 : Int32) a1 μ) (fun y2 μ1 => am_bd (f_X5_at N (7 : Int32) a1 μ1) (fun y4 μ3 => some ((y2 + ((10 : Int32) * y4)), μ3)))
def f_X5_pointsInAll (N : Nat) (a1 : Int32) (μ : am_M) : Option (Int32 × am_M) := f_X5_pointsInAll_0 N a1 μ
set_option maxHeartbeats 4000000 in
set_option maxRecDepth 100000 in
theorem p_X5_pointsInAll_0 (G : am_G) (l : Launch) (d : Nat) (hd0 : 2 ≤ d) (N : Nat) (a1 : Int32) (μ : am_M) : sm_P G l am_ci d me_X5_pointsInAll 0 [(0, .ref (am_ad G 1 0)), (1, .int a1)] [] μ (f_X5_pointsInAll_0 N a1 μ) := by
  unfold f_X5_pointsInAll_0
  refine sm_aload_n (pc := 0) dX5_pointsInAll_0 rfl 0 rfl ?_
  refine sm_bipush (pc := 1) dX5_pointsInAll_1 (v := 6) (by decide) ?_
  refine sm_iload_n (pc := 3) dX5_pointsInAll_3 rfl 1 rfl ?_
  refine sm_callVi (pc := 4) (As := [.int (6 : Int32), .int a1]) (rest := []) dX5_pointsInAll_4 (c_X5_at G l N (6 : Int32) a1 μ) (by omega) wl_X5_31 vm_X5_at rfl rfl (Nat.le_of_ble_eq_true rfl) (fun y2 μ1 => ?_)
  refine sm_bipush (pc := 7) dX5_pointsInAll_7 (v := 10) (by decide) ?_
  refine sm_aload_n (pc := 9) dX5_pointsInAll_9 rfl 0 rfl ?_
  refine sm_bipush (pc := 10) dX5_pointsInAll_10 (v := 7) (by decide) ?_
  refine sm_iload_n (pc := 12) dX5_pointsInAll_12 rfl 1 rfl ?_
  refine sm_callVi (pc := 13) (As := [.int (7 : Int32), .int a1]) (rest := [.int (10 : Int32), .int y2]) dX5_pointsInAll_13 (c_X5_at G l N (7 : Int32) a1 μ1) (by omega) wl_X5_31 vm_X5_at rfl rfl (Nat.le_of_ble_eq_true rfl) (fun y4 μ3 => ?_)
  refine sm_imul (pc := 16) dX5_pointsInAll_16 ?_
  refine sm_iadd (pc := 17) dX5_pointsInAll_17 ?_
  exact sm_iret (pc := 18) dX5_pointsInAll_18 rfl
theorem c_X5_pointsInAll (G : am_G) (l : Launch) (N : Nat) (a1 : Int32) (μ : am_M) : ct_P G l am_ci 2 me_X5_pointsInAll [.ref (am_ad G 1 0), .int a1] μ (f_X5_pointsInAll N a1 μ) := ct_of (by decide +kernel) (Nat.le_of_ble_eq_true rfl) rfl (p_X5_pointsInAll_0 G l 2 (Nat.le_refl _) N a1 μ)

def f_X5_allHeads_4 (N : Nat) (r_4 : Int32 → Int32 → am_M → Option (Int32 × am_M)) (x1 : Int32) (x2 : Int32) (μ : am_M) : Option (Int32 × am_M) :=
if (μ.1 1 0 2) ≤ x2 then (some (x1, μ)) else (am_bd (f_X5_at N (4 : Int32) x2 μ) (fun y2 μ1 => am_nm (x1 + y2) (fun y3 => r_4 y3 (x2 + (1 : Int32)) μ1)))
def f_X5_allHeads_4_lp (N : Nat) : Nat → Int32 → Int32 → am_M → Option (Int32 × am_M)
  | 0, _, _, _ => none
  | n + 1, x1, x2, μ => f_X5_allHeads_4 N (f_X5_allHeads_4_lp N n) x1 x2 μ
def f_X5_allHeads_0 (N : Nat) (μ : am_M) : Option (Int32 × am_M) :=
f_X5_allHeads_4_lp N N (0 : Int32) (0 : Int32) μ
def f_X5_allHeads (N : Nat) (μ : am_M) : Option (Int32 × am_M) := f_X5_allHeads_0 N μ
set_option maxHeartbeats 4000000 in
set_option maxRecDepth 100000 in
theorem p_X5_allHeads_4 (G : am_G) (l : Launch) (d : Nat) (hd0 : 2 ≤ d) (N : Nat) (r_4 : Int32 → Int32 → am_M → Option (Int32 × am_M)) (H_4 : ∀ (x1 : Int32) (x2 : Int32) (μ : am_M), sm_P G l am_ci d me_X5_allHeads 4 [(0, .ref (am_ad G 1 0)), (1, .int x1), (2, .int x2)] [] μ (r_4 x1 x2 μ)) (x1 : Int32) (x2 : Int32) (μ : am_M) : sm_P G l am_ci d me_X5_allHeads 4 [(0, .ref (am_ad G 1 0)), (1, .int x1), (2, .int x2)] [] μ (f_X5_allHeads_4 N r_4 x1 x2 μ) := by
  unfold f_X5_allHeads_4
  refine sm_iload_n (pc := 4) dX5_allHeads_4 rfl 2 rfl ?_
  refine sm_aload_n (pc := 5) dX5_allHeads_5 rfl 0 rfl ?_
  refine sm_geti (pc := 6) dX5_allHeads_6 fi_X5_24 ?_
  refine sm_icmp_ge (pc := 9) (tgt := 27) dX5_allHeads_9 (by decide) ?_ ?_
  · refine sm_iload_n (pc := 27) dX5_allHeads_27 rfl 1 rfl ?_
    exact sm_iret (pc := 28) dX5_allHeads_28 rfl
  · refine sm_iload_n (pc := 12) dX5_allHeads_12 rfl 1 rfl ?_
    refine sm_aload_n (pc := 13) dX5_allHeads_13 rfl 0 rfl ?_
    refine sm_iconst (pc := 14) dX5_allHeads_14 (v := 4) (by decide) ?_
    refine sm_iload_n (pc := 15) dX5_allHeads_15 rfl 2 rfl ?_
    refine sm_callVi (pc := 16) (As := [.int (4 : Int32), .int x2]) (rest := [.int x1]) dX5_allHeads_16 (c_X5_at G l N (4 : Int32) x2 μ) (by omega) wl_X5_31 vm_X5_at rfl rfl (Nat.le_of_ble_eq_true rfl) (fun y2 μ1 => ?_)
    refine sm_iadd (pc := 19) dX5_allHeads_19 ?_
    refine sm_nmI (fun y3 => ?_)
    refine sm_istore_n (pc := 20) (lv' := [(1, .int y3), (0, .ref (am_ad G 1 0)), (2, .int x2)]) dX5_allHeads_20 rfl (by decide) rfl ?_
    refine sm_iinc (pc := 21) (v := (x2 + (1 : Int32))) (lv' := [(2, .int (x2 + (1 : Int32))), (1, .int y3), (0, .ref (am_ad G 1 0))]) dX5_allHeads_21 2 rfl rfl (by decide) rfl ?_
    refine sm_goto (pc := 24) (tgt := 4) dX5_allHeads_24 (by decide) ?_
    refine sm_sub [2, 1, 0] rfl ?_
    exact H_4 y3 (x2 + (1 : Int32)) μ1
theorem p_X5_allHeads_4_lp (G : am_G) (l : Launch) (d : Nat) (hd0 : 2 ≤ d) (N : Nat) : ∀ (n : Nat) (x1 : Int32) (x2 : Int32) (μ : am_M), sm_P G l am_ci d me_X5_allHeads 4 [(0, .ref (am_ad G 1 0)), (1, .int x1), (2, .int x2)] [] μ (f_X5_allHeads_4_lp N n x1 x2 μ) := by
  intro n
  induction n with
  | zero => intros; exact sm_none
  | succ n ih => exact fun x1 x2 μ => p_X5_allHeads_4 G l d hd0 N (f_X5_allHeads_4_lp N n) ih x1 x2 μ
set_option maxHeartbeats 4000000 in
set_option maxRecDepth 100000 in
theorem p_X5_allHeads_0 (G : am_G) (l : Launch) (d : Nat) (hd0 : 2 ≤ d) (N : Nat) (μ : am_M) : sm_P G l am_ci d me_X5_allHeads 0 [(0, .ref (am_ad G 1 0))] [] μ (f_X5_allHeads_0 N μ) := by
  unfold f_X5_allHeads_0
  refine sm_iconst (pc := 0) dX5_allHeads_0 (v := 0) (by decide) ?_
  refine sm_istore_n (pc := 1) (lv' := [(1, .int (0 : Int32)), (0, .ref (am_ad G 1 0))]) dX5_allHeads_1 rfl (by decide) rfl ?_
  refine sm_iconst (pc := 2) dX5_allHeads_2 (v := 0) (by decide) ?_
  refine sm_istore_n (pc := 3) (lv' := [(2, .int (0 : Int32)), (1, .int (0 : Int32)), (0, .ref (am_ad G 1 0))]) dX5_allHeads_3 rfl (by decide) rfl ?_
  refine sm_sub [2, 1, 0] rfl ?_
  exact p_X5_allHeads_4_lp G l d hd0 N N (0 : Int32) (0 : Int32) μ
theorem c_X5_allHeads (G : am_G) (l : Launch) (N : Nat) (μ : am_M) : ct_P G l am_ci 2 me_X5_allHeads [.ref (am_ad G 1 0)] μ (f_X5_allHeads N μ) := ct_of (by decide +kernel) (Nat.le_of_ble_eq_true rfl) rfl (p_X5_allHeads_0 G l 2 (Nat.le_refl _) N μ)

def f_X5_write_0 (N : Nat) (a1 : Int32) (a2 : Int32) (a3 : Int32) (μ : am_M) : Option (Unit × am_M) :=
am_bd (f_X9_isWithin N a1 (0 : Int32) (8 : Int32) μ) (fun y2 μ1 => if y2 = 0 then (some ((), μ1)) else (am_bd (f_X9_isWithin N a2 (0 : Int32) (5 : Int32) μ1) (fun y4 μ3 => if y4 = 0 then (some ((), μ3)) else (am_gd a1 9 (fun j5 => am_gd a2 6 (fun j6 => am_nm (am_ui μ3 316 j5 j6 a3) (fun μ7 => some ((), μ7))))))))
def f_X5_write (N : Nat) (a1 : Int32) (a2 : Int32) (a3 : Int32) (μ : am_M) : Option (Unit × am_M) := f_X5_write_0 N a1 a2 a3 μ
set_option maxHeartbeats 4000000 in
set_option maxRecDepth 100000 in
theorem p_X5_write_0 (G : am_G) (l : Launch) (d : Nat) (hd0 : 1 ≤ d) (N : Nat) (a1 : Int32) (a2 : Int32) (a3 : Int32) (μ : am_M) : sm_P G l am_cu d me_X5_write 0 [(0, .ref (am_ad G 1 0)), (1, .int a1), (2, .int a2), (3, .int a3)] [] μ (f_X5_write_0 N a1 a2 a3 μ) := by
  unfold f_X5_write_0
  refine sm_iload_n (pc := 0) dX5_write_0 rfl 1 rfl ?_
  refine sm_iconst (pc := 1) dX5_write_1 (v := 0) (by decide) ?_
  refine sm_bipush (pc := 2) dX5_write_2 (v := 8) (by decide) ?_
  refine sm_callNi (pc := 4) (As := [.int a1, .int (0 : Int32), .int (8 : Int32)]) (rest := []) dX5_write_4 (c_X9_isWithin G l N a1 (0 : Int32) (8 : Int32) μ) (by omega) wl_X5_20 st_X9_isWithin rfl rfl (Nat.le_of_ble_eq_true rfl) (fun y2 μ1 => ?_)
  refine sm_if_eq (pc := 7) (tgt := 28) dX5_write_7 (by decide) ?_ ?_
  · exact sm_vret (pc := 28) dX5_write_28 rfl
  · refine sm_iload_n (pc := 10) dX5_write_10 rfl 2 rfl ?_
    refine sm_iconst (pc := 11) dX5_write_11 (v := 0) (by decide) ?_
    refine sm_iconst (pc := 12) dX5_write_12 (v := 5) (by decide) ?_
    refine sm_callNi (pc := 13) (As := [.int a2, .int (0 : Int32), .int (5 : Int32)]) (rest := []) dX5_write_13 (c_X9_isWithin G l N a2 (0 : Int32) (5 : Int32) μ1) (by omega) wl_X5_20 st_X9_isWithin rfl rfl (Nat.le_of_ble_eq_true rfl) (fun y4 μ3 => ?_)
    refine sm_if_eq (pc := 16) (tgt := 28) dX5_write_16 (by decide) ?_ ?_
    · exact sm_vret (pc := 28) dX5_write_28 rfl
    · refine sm_aload_n (pc := 19) dX5_write_19 rfl 0 rfl ?_
      refine sm_getr (pc := 20) dX5_write_20 fi_X5_11 ?_
      refine sm_iload_n (pc := 23) dX5_write_23 rfl 1 rfl ?_
      refine sm_aald (pc := 24) (t := 0) (ty := .int) dX5_write_24 ly_16 (fun _ => rfl) (fun j5 hj5 => ?_)
      refine sm_iload_n (pc := 25) dX5_write_25 rfl 2 rfl ?_
      refine sm_iload_n (pc := 26) dX5_write_26 rfl 3 rfl ?_
      refine sm_iast (pc := 27) dX5_write_27 ly_316 hj5 (fun j6 hj6 => ?_)
      refine sm_nmM (fun μ7 => ?_)
      exact sm_vret (pc := 28) dX5_write_28 rfl
theorem c_X5_write (G : am_G) (l : Launch) (N : Nat) (a1 : Int32) (a2 : Int32) (a3 : Int32) (μ : am_M) : ct_P G l am_cu 1 me_X5_write [.ref (am_ad G 1 0), .int a1, .int a2, .int a3] μ (f_X5_write N a1 a2 a3 μ) := ct_of (by decide +kernel) (Nat.le_of_ble_eq_true rfl) rfl (p_X5_write_0 G l 1 (Nat.le_refl _) N a1 a2 a3 μ)

def f_X5_digitOf_10 (N : Nat) (r_10 : Int32 → Int32 → Int32 → am_M → Option (Int32 × am_M)) (x2 : Int32) (x3 : Int32) (x4 : Int32) (μ : am_M) : Option (Int32 × am_M) :=
if x4 ≤ x2 then (some ((am_rem x3 (10 : Int32)), μ)) else (am_nm (x3 / (10 : Int32)) (fun y2 => r_10 x2 y2 (x4 + (-1 : Int32)) μ))
def f_X5_digitOf_10_lp (N : Nat) : Nat → Int32 → Int32 → Int32 → am_M → Option (Int32 × am_M)
  | 0, _, _, _, _ => none
  | n + 1, x2, x3, x4, μ => f_X5_digitOf_10 N (f_X5_digitOf_10_lp N n) x2 x3 x4 μ
def f_X5_digitOf_0 (N : Nat) (a1 : Int32) (a2 : Int32) (μ : am_M) : Option (Int32 × am_M) :=
am_nm ((μ.1 1 0 1) - (1 : Int32)) (fun y1 => f_X5_digitOf_10_lp N N a2 a1 y1 μ)
def f_X5_digitOf (N : Nat) (a1 : Int32) (a2 : Int32) (μ : am_M) : Option (Int32 × am_M) := f_X5_digitOf_0 N a1 a2 μ
set_option maxHeartbeats 4000000 in
set_option maxRecDepth 100000 in
theorem p_X5_digitOf_10 (G : am_G) (l : Launch) (d : Nat) (hd0 : 0 ≤ d) (N : Nat) (r_10 : Int32 → Int32 → Int32 → am_M → Option (Int32 × am_M)) (H_10 : ∀ (x2 : Int32) (x3 : Int32) (x4 : Int32) (μ : am_M), sm_P G l am_ci d me_X5_digitOf 10 [(0, .ref (am_ad G 1 0)), (2, .int x2), (3, .int x3), (4, .int x4)] [] μ (r_10 x2 x3 x4 μ)) (x2 : Int32) (x3 : Int32) (x4 : Int32) (μ : am_M) : sm_P G l am_ci d me_X5_digitOf 10 [(0, .ref (am_ad G 1 0)), (2, .int x2), (3, .int x3), (4, .int x4)] [] μ (f_X5_digitOf_10 N r_10 x2 x3 x4 μ) := by
  unfold f_X5_digitOf_10
  refine sm_iload (pc := 10) dX5_digitOf_10 3 rfl ?_
  refine sm_iload_n (pc := 12) dX5_digitOf_12 rfl 1 rfl ?_
  refine sm_icmp_le (pc := 13) (tgt := 27) dX5_digitOf_13 (by decide) ?_ ?_
  · refine sm_iload_n (pc := 27) dX5_digitOf_27 rfl 2 rfl ?_
    refine sm_bipush (pc := 28) dX5_digitOf_28 (v := 10) (by decide) ?_
    refine sm_iremc (pc := 30) dX5_digitOf_30 (by decide) ?_
    exact sm_iret (pc := 31) dX5_digitOf_31 rfl
  · refine sm_iload_n (pc := 16) dX5_digitOf_16 rfl 2 rfl ?_
    refine sm_bipush (pc := 17) dX5_digitOf_17 (v := 10) (by decide) ?_
    refine sm_idivc (pc := 19) dX5_digitOf_19 (by decide) ?_
    refine sm_nmI (fun y2 => ?_)
    refine sm_istore_n (pc := 20) (lv' := [(3, .int y2), (0, .ref (am_ad G 1 0)), (2, .int x2), (4, .int x4)]) dX5_digitOf_20 rfl (by decide) rfl ?_
    refine sm_iinc (pc := 21) (v := (x4 + (-1 : Int32))) (lv' := [(4, .int (x4 + (-1 : Int32))), (3, .int y2), (0, .ref (am_ad G 1 0)), (2, .int x2)]) dX5_digitOf_21 3 rfl rfl (by decide) rfl ?_
    refine sm_goto (pc := 24) (tgt := 10) dX5_digitOf_24 (by decide) ?_
    refine sm_sub [2, 3, 1, 0] rfl ?_
    exact H_10 x2 y2 (x4 + (-1 : Int32)) μ
theorem p_X5_digitOf_10_lp (G : am_G) (l : Launch) (d : Nat) (hd0 : 0 ≤ d) (N : Nat) : ∀ (n : Nat) (x2 : Int32) (x3 : Int32) (x4 : Int32) (μ : am_M), sm_P G l am_ci d me_X5_digitOf 10 [(0, .ref (am_ad G 1 0)), (2, .int x2), (3, .int x3), (4, .int x4)] [] μ (f_X5_digitOf_10_lp N n x2 x3 x4 μ) := by
  intro n
  induction n with
  | zero => intros; exact sm_none
  | succ n ih => exact fun x2 x3 x4 μ => p_X5_digitOf_10 G l d hd0 N (f_X5_digitOf_10_lp N n) ih x2 x3 x4 μ
set_option maxHeartbeats 4000000 in
set_option maxRecDepth 100000 in
theorem p_X5_digitOf_0 (G : am_G) (l : Launch) (d : Nat) (hd0 : 0 ≤ d) (N : Nat) (a1 : Int32) (a2 : Int32) (μ : am_M) : sm_P G l am_ci d me_X5_digitOf 0 [(0, .ref (am_ad G 1 0)), (1, .int a1), (2, .int a2)] [] μ (f_X5_digitOf_0 N a1 a2 μ) := by
  unfold f_X5_digitOf_0
  refine sm_iload_n (pc := 0) dX5_digitOf_0 rfl 1 rfl ?_
  refine sm_istore_n (pc := 1) (lv' := [(3, .int a1), (0, .ref (am_ad G 1 0)), (1, .int a1), (2, .int a2)]) dX5_digitOf_1 rfl (by decide) rfl ?_
  refine sm_aload_n (pc := 2) dX5_digitOf_2 rfl 1 rfl ?_
  refine sm_geti (pc := 3) dX5_digitOf_3 fi_X5_16 ?_
  refine sm_iconst (pc := 6) dX5_digitOf_6 (v := 1) (by decide) ?_
  refine sm_isub (pc := 7) dX5_digitOf_7 ?_
  refine sm_nmI (fun y1 => ?_)
  refine sm_istore (pc := 8) (lv' := [(4, .int y1), (3, .int a1), (0, .ref (am_ad G 1 0)), (1, .int a1), (2, .int a2)]) dX5_digitOf_8 (by decide) rfl ?_
  refine sm_sub [2, 4, 1, 0] rfl ?_
  exact p_X5_digitOf_10_lp G l d hd0 N N a2 a1 y1 μ
theorem c_X5_digitOf (G : am_G) (l : Launch) (N : Nat) (a1 : Int32) (a2 : Int32) (μ : am_M) : ct_P G l am_ci 0 me_X5_digitOf [.ref (am_ad G 1 0), .int a1, .int a2] μ (f_X5_digitOf N a1 a2 μ) := ct_of (by decide +kernel) (Nat.le_of_ble_eq_true rfl) rfl (p_X5_digitOf_0 G l 0 (Nat.le_refl _) N a1 a2 μ)

def f_X5_hasThing_0 (N : Nat) (a1 : Int32) (μ : am_M) : Option (Int32 × am_M) :=
am_bd (f_X9_isWithin N a1 (0 : Int32) ((μ.1 1 0 1) - (1 : Int32)) μ) (fun y2 μ1 => am_z y2 μ1)
def f_X5_hasThing (N : Nat) (a1 : Int32) (μ : am_M) : Option (Int32 × am_M) := f_X5_hasThing_0 N a1 μ
set_option maxHeartbeats 4000000 in
set_option maxRecDepth 100000 in
theorem p_X5_hasThing_0 (G : am_G) (l : Launch) (d : Nat) (hd0 : 1 ≤ d) (N : Nat) (a1 : Int32) (μ : am_M) : sm_P G l am_ci d me_X5_hasThing 0 [(0, .ref (am_ad G 1 0)), (1, .int a1)] [] μ (f_X5_hasThing_0 N a1 μ) := by
  unfold f_X5_hasThing_0
  refine sm_iload_n (pc := 0) dX5_hasThing_0 rfl 1 rfl ?_
  refine sm_iconst (pc := 1) dX5_hasThing_1 (v := 0) (by decide) ?_
  refine sm_aload_n (pc := 2) dX5_hasThing_2 rfl 0 rfl ?_
  refine sm_geti (pc := 3) dX5_hasThing_3 fi_X5_16 ?_
  refine sm_iconst (pc := 6) dX5_hasThing_6 (v := 1) (by decide) ?_
  refine sm_isub (pc := 7) dX5_hasThing_7 ?_
  refine sm_callNi (pc := 8) (As := [.int a1, .int (0 : Int32), .int ((μ.1 1 0 1) - (1 : Int32))]) (rest := []) dX5_hasThing_8 (c_X9_isWithin G l N a1 (0 : Int32) ((μ.1 1 0 1) - (1 : Int32)) μ) (by omega) wl_X5_20 st_X9_isWithin rfl rfl (Nat.le_of_ble_eq_true rfl) (fun y2 μ1 => ?_)
  exact sm_zret (pc := 11) dX5_hasThing_11 rfl
theorem c_X5_hasThing (G : am_G) (l : Launch) (N : Nat) (a1 : Int32) (μ : am_M) : ct_P G l am_ci 1 me_X5_hasThing [.ref (am_ad G 1 0), .int a1] μ (f_X5_hasThing N a1 μ) := ct_of (by decide +kernel) (Nat.le_of_ble_eq_true rfl) rfl (p_X5_hasThing_0 G l 1 (Nat.le_refl _) N a1 μ)

def f_X5_hasSort_0 (N : Nat) (a1 : Int32) (μ : am_M) : Option (Int32 × am_M) :=
am_bd (f_X9_isWithin N a1 (0 : Int32) ((μ.1 1 0 2) - (1 : Int32)) μ) (fun y2 μ1 => am_z y2 μ1)
def f_X5_hasSort (N : Nat) (a1 : Int32) (μ : am_M) : Option (Int32 × am_M) := f_X5_hasSort_0 N a1 μ
set_option maxHeartbeats 4000000 in
set_option maxRecDepth 100000 in
theorem p_X5_hasSort_0 (G : am_G) (l : Launch) (d : Nat) (hd0 : 1 ≤ d) (N : Nat) (a1 : Int32) (μ : am_M) : sm_P G l am_ci d me_X5_hasSort 0 [(0, .ref (am_ad G 1 0)), (1, .int a1)] [] μ (f_X5_hasSort_0 N a1 μ) := by
  unfold f_X5_hasSort_0
  refine sm_iload_n (pc := 0) dX5_hasSort_0 rfl 1 rfl ?_
  refine sm_iconst (pc := 1) dX5_hasSort_1 (v := 0) (by decide) ?_
  refine sm_aload_n (pc := 2) dX5_hasSort_2 rfl 0 rfl ?_
  refine sm_geti (pc := 3) dX5_hasSort_3 fi_X5_24 ?_
  refine sm_iconst (pc := 6) dX5_hasSort_6 (v := 1) (by decide) ?_
  refine sm_isub (pc := 7) dX5_hasSort_7 ?_
  refine sm_callNi (pc := 8) (As := [.int a1, .int (0 : Int32), .int ((μ.1 1 0 2) - (1 : Int32))]) (rest := []) dX5_hasSort_8 (c_X9_isWithin G l N a1 (0 : Int32) ((μ.1 1 0 2) - (1 : Int32)) μ) (by omega) wl_X5_20 st_X9_isWithin rfl rfl (Nat.le_of_ble_eq_true rfl) (fun y2 μ1 => ?_)
  exact sm_zret (pc := 11) dX5_hasSort_11 rfl
theorem c_X5_hasSort (G : am_G) (l : Launch) (N : Nat) (a1 : Int32) (μ : am_M) : ct_P G l am_ci 1 me_X5_hasSort [.ref (am_ad G 1 0), .int a1] μ (f_X5_hasSort N a1 μ) := ct_of (by decide +kernel) (Nat.le_of_ble_eq_true rfl) rfl (p_X5_hasSort_0 G l 1 (Nat.le_refl _) N a1 μ)

def f_X5_addThing_0 (N : Nat) (a1 : Int32) (a2 : Int32) (a3 : Int32) (a4 : Int32) (μ : am_M) : Option (Int32 × am_M) :=
if (μ.1 1 0 1) < (6 : Int32) then (am_bd (f_X5_write N (0 : Int32) (μ.1 1 0 1) a1 μ) (fun _ μ1 => am_bd (f_X5_write N (1 : Int32) (μ1.1 1 0 1) a2 μ1) (fun _ μ2 => am_bd (f_X5_write N (2 : Int32) (μ2.1 1 0 1) a3 μ2) (fun _ μ3 => am_bd (f_X5_write N (3 : Int32) (μ3.1 1 0 1) a4 μ3) (fun _ μ4 => am_nm (am_ui μ4 1 0 1 ((μ4.1 1 0 1) + (1 : Int32))) (fun μ5 => some ((μ4.1 1 0 1), μ5))))))) else (some ((-3 : Int32), μ))
def f_X5_addThing (N : Nat) (a1 : Int32) (a2 : Int32) (a3 : Int32) (a4 : Int32) (μ : am_M) : Option (Int32 × am_M) := f_X5_addThing_0 N a1 a2 a3 a4 μ
set_option maxHeartbeats 4000000 in
set_option maxRecDepth 100000 in
theorem p_X5_addThing_0 (G : am_G) (l : Launch) (d : Nat) (hd0 : 2 ≤ d) (N : Nat) (a1 : Int32) (a2 : Int32) (a3 : Int32) (a4 : Int32) (μ : am_M) : sm_P G l am_ci d me_X5_addThing 0 [(0, .ref (am_ad G 1 0)), (1, .int a1), (2, .int a2), (3, .int a3), (4, .int a4)] [] μ (f_X5_addThing_0 N a1 a2 a3 a4 μ) := by
  unfold f_X5_addThing_0
  refine sm_aload_n (pc := 0) dX5_addThing_0 rfl 0 rfl ?_
  refine sm_geti (pc := 1) dX5_addThing_1 fi_X5_16 ?_
  refine sm_bipush (pc := 4) dX5_addThing_4 (v := 6) (by decide) ?_
  refine sm_icmp_lt (pc := 6) (tgt := 12) dX5_addThing_6 (by decide) ?_ ?_
  · refine sm_aload_n (pc := 12) dX5_addThing_12 rfl 0 rfl ?_
    refine sm_iconst (pc := 13) dX5_addThing_13 (v := 0) (by decide) ?_
    refine sm_aload_n (pc := 14) dX5_addThing_14 rfl 0 rfl ?_
    refine sm_geti (pc := 15) dX5_addThing_15 fi_X5_16 ?_
    refine sm_iload_n (pc := 18) dX5_addThing_18 rfl 1 rfl ?_
    refine sm_callVv (pc := 19) (As := [.int (0 : Int32), .int (μ.1 1 0 1), .int a1]) (rest := []) dX5_addThing_19 (c_X5_write G l N (0 : Int32) (μ.1 1 0 1) a1 μ) (by omega) wl_X5_27 vm_X5_write rfl rfl (Nat.le_of_ble_eq_true rfl) (fun _ μ1 => ?_)
    refine sm_aload_n (pc := 22) dX5_addThing_22 rfl 0 rfl ?_
    refine sm_iconst (pc := 23) dX5_addThing_23 (v := 1) (by decide) ?_
    refine sm_aload_n (pc := 24) dX5_addThing_24 rfl 0 rfl ?_
    refine sm_geti (pc := 25) dX5_addThing_25 fi_X5_16 ?_
    refine sm_iload_n (pc := 28) dX5_addThing_28 rfl 2 rfl ?_
    refine sm_callVv (pc := 29) (As := [.int (1 : Int32), .int (μ1.1 1 0 1), .int a2]) (rest := []) dX5_addThing_29 (c_X5_write G l N (1 : Int32) (μ1.1 1 0 1) a2 μ1) (by omega) wl_X5_27 vm_X5_write rfl rfl (Nat.le_of_ble_eq_true rfl) (fun _ μ2 => ?_)
    refine sm_aload_n (pc := 32) dX5_addThing_32 rfl 0 rfl ?_
    refine sm_iconst (pc := 33) dX5_addThing_33 (v := 2) (by decide) ?_
    refine sm_aload_n (pc := 34) dX5_addThing_34 rfl 0 rfl ?_
    refine sm_geti (pc := 35) dX5_addThing_35 fi_X5_16 ?_
    refine sm_iload_n (pc := 38) dX5_addThing_38 rfl 3 rfl ?_
    refine sm_callVv (pc := 39) (As := [.int (2 : Int32), .int (μ2.1 1 0 1), .int a3]) (rest := []) dX5_addThing_39 (c_X5_write G l N (2 : Int32) (μ2.1 1 0 1) a3 μ2) (by omega) wl_X5_27 vm_X5_write rfl rfl (Nat.le_of_ble_eq_true rfl) (fun _ μ3 => ?_)
    refine sm_aload_n (pc := 42) dX5_addThing_42 rfl 0 rfl ?_
    refine sm_iconst (pc := 43) dX5_addThing_43 (v := 3) (by decide) ?_
    refine sm_aload_n (pc := 44) dX5_addThing_44 rfl 0 rfl ?_
    refine sm_geti (pc := 45) dX5_addThing_45 fi_X5_16 ?_
    refine sm_iload (pc := 48) dX5_addThing_48 4 rfl ?_
    refine sm_callVv (pc := 50) (As := [.int (3 : Int32), .int (μ3.1 1 0 1), .int a4]) (rest := []) dX5_addThing_50 (c_X5_write G l N (3 : Int32) (μ3.1 1 0 1) a4 μ3) (by omega) wl_X5_27 vm_X5_write rfl rfl (Nat.le_of_ble_eq_true rfl) (fun _ μ4 => ?_)
    refine sm_aload_n (pc := 53) dX5_addThing_53 rfl 0 rfl ?_
    refine sm_dup (pc := 54) dX5_addThing_54 rfl ?_
    refine sm_geti (pc := 55) dX5_addThing_55 fi_X5_16 ?_
    refine sm_dup_x1 (pc := 58) dX5_addThing_58 rfl rfl ?_
    refine sm_iconst (pc := 59) dX5_addThing_59 (v := 1) (by decide) ?_
    refine sm_iadd (pc := 60) dX5_addThing_60 ?_
    refine sm_puti (pc := 61) dX5_addThing_61 fi_X5_16 ?_
    refine sm_nmM (fun μ5 => ?_)
    exact sm_iret (pc := 64) dX5_addThing_64 rfl
  · refine sm_bipush (pc := 9) dX5_addThing_9 (v := -3) (by decide) ?_
    exact sm_iret (pc := 11) dX5_addThing_11 rfl
theorem c_X5_addThing (G : am_G) (l : Launch) (N : Nat) (a1 : Int32) (a2 : Int32) (a3 : Int32) (a4 : Int32) (μ : am_M) : ct_P G l am_ci 2 me_X5_addThing [.ref (am_ad G 1 0), .int a1, .int a2, .int a3, .int a4] μ (f_X5_addThing N a1 a2 a3 a4 μ) := ct_of (by decide +kernel) (Nat.le_of_ble_eq_true rfl) rfl (p_X5_addThing_0 G l 2 (Nat.le_refl _) N a1 a2 a3 a4 μ)

def f_X5_addSort_0 (N : Nat) (a1 : Int32) (a2 : Int32) (a3 : Int32) (μ : am_M) : Option (Int32 × am_M) :=
if (μ.1 1 0 2) < (5 : Int32) then (am_bd (f_X5_write N (4 : Int32) (μ.1 1 0 2) a1 μ) (fun _ μ1 => am_bd (f_X5_write N (5 : Int32) (μ1.1 1 0 2) (a2 / (100 : Int32)) μ1) (fun _ μ2 => am_bd (f_X5_write N (6 : Int32) (μ2.1 1 0 2) (am_rem a2 (100 : Int32)) μ2) (fun _ μ3 => am_bd (f_X5_write N (7 : Int32) (μ3.1 1 0 2) (a3 / (10 : Int32)) μ3) (fun _ μ4 => am_bd (f_X5_write N (8 : Int32) (μ4.1 1 0 2) (am_rem a3 (10 : Int32)) μ4) (fun _ μ5 => am_nm (am_ui μ5 1 0 2 ((μ5.1 1 0 2) + (1 : Int32))) (fun μ6 => some ((μ5.1 1 0 2), μ6)))))))) else (some ((-3 : Int32), μ))
def f_X5_addSort (N : Nat) (a1 : Int32) (a2 : Int32) (a3 : Int32) (μ : am_M) : Option (Int32 × am_M) := f_X5_addSort_0 N a1 a2 a3 μ
set_option maxHeartbeats 4000000 in
set_option maxRecDepth 100000 in
theorem p_X5_addSort_0 (G : am_G) (l : Launch) (d : Nat) (hd0 : 2 ≤ d) (N : Nat) (a1 : Int32) (a2 : Int32) (a3 : Int32) (μ : am_M) : sm_P G l am_ci d me_X5_addSort 0 [(0, .ref (am_ad G 1 0)), (1, .int a1), (2, .int a2), (3, .int a3)] [] μ (f_X5_addSort_0 N a1 a2 a3 μ) := by
  unfold f_X5_addSort_0
  refine sm_aload_n (pc := 0) dX5_addSort_0 rfl 0 rfl ?_
  refine sm_geti (pc := 1) dX5_addSort_1 fi_X5_24 ?_
  refine sm_iconst (pc := 4) dX5_addSort_4 (v := 5) (by decide) ?_
  refine sm_icmp_lt (pc := 5) (tgt := 11) dX5_addSort_5 (by decide) ?_ ?_
  · refine sm_aload_n (pc := 11) dX5_addSort_11 rfl 0 rfl ?_
    refine sm_iconst (pc := 12) dX5_addSort_12 (v := 4) (by decide) ?_
    refine sm_aload_n (pc := 13) dX5_addSort_13 rfl 0 rfl ?_
    refine sm_geti (pc := 14) dX5_addSort_14 fi_X5_24 ?_
    refine sm_iload_n (pc := 17) dX5_addSort_17 rfl 1 rfl ?_
    refine sm_callVv (pc := 18) (As := [.int (4 : Int32), .int (μ.1 1 0 2), .int a1]) (rest := []) dX5_addSort_18 (c_X5_write G l N (4 : Int32) (μ.1 1 0 2) a1 μ) (by omega) wl_X5_27 vm_X5_write rfl rfl (Nat.le_of_ble_eq_true rfl) (fun _ μ1 => ?_)
    refine sm_aload_n (pc := 21) dX5_addSort_21 rfl 0 rfl ?_
    refine sm_iconst (pc := 22) dX5_addSort_22 (v := 5) (by decide) ?_
    refine sm_aload_n (pc := 23) dX5_addSort_23 rfl 0 rfl ?_
    refine sm_geti (pc := 24) dX5_addSort_24 fi_X5_24 ?_
    refine sm_iload_n (pc := 27) dX5_addSort_27 rfl 2 rfl ?_
    refine sm_bipush (pc := 28) dX5_addSort_28 (v := 100) (by decide) ?_
    refine sm_idivc (pc := 30) dX5_addSort_30 (by decide) ?_
    refine sm_callVv (pc := 31) (As := [.int (5 : Int32), .int (μ1.1 1 0 2), .int (a2 / (100 : Int32))]) (rest := []) dX5_addSort_31 (c_X5_write G l N (5 : Int32) (μ1.1 1 0 2) (a2 / (100 : Int32)) μ1) (by omega) wl_X5_27 vm_X5_write rfl rfl (Nat.le_of_ble_eq_true rfl) (fun _ μ2 => ?_)
    refine sm_aload_n (pc := 34) dX5_addSort_34 rfl 0 rfl ?_
    refine sm_bipush (pc := 35) dX5_addSort_35 (v := 6) (by decide) ?_
    refine sm_aload_n (pc := 37) dX5_addSort_37 rfl 0 rfl ?_
    refine sm_geti (pc := 38) dX5_addSort_38 fi_X5_24 ?_
    refine sm_iload_n (pc := 41) dX5_addSort_41 rfl 2 rfl ?_
    refine sm_bipush (pc := 42) dX5_addSort_42 (v := 100) (by decide) ?_
    refine sm_iremc (pc := 44) dX5_addSort_44 (by decide) ?_
    refine sm_callVv (pc := 45) (As := [.int (6 : Int32), .int (μ2.1 1 0 2), .int (am_rem a2 (100 : Int32))]) (rest := []) dX5_addSort_45 (c_X5_write G l N (6 : Int32) (μ2.1 1 0 2) (am_rem a2 (100 : Int32)) μ2) (by omega) wl_X5_27 vm_X5_write rfl rfl (Nat.le_of_ble_eq_true rfl) (fun _ μ3 => ?_)
    refine sm_aload_n (pc := 48) dX5_addSort_48 rfl 0 rfl ?_
    refine sm_bipush (pc := 49) dX5_addSort_49 (v := 7) (by decide) ?_
    refine sm_aload_n (pc := 51) dX5_addSort_51 rfl 0 rfl ?_
    refine sm_geti (pc := 52) dX5_addSort_52 fi_X5_24 ?_
    refine sm_iload_n (pc := 55) dX5_addSort_55 rfl 3 rfl ?_
    refine sm_bipush (pc := 56) dX5_addSort_56 (v := 10) (by decide) ?_
    refine sm_idivc (pc := 58) dX5_addSort_58 (by decide) ?_
    refine sm_callVv (pc := 59) (As := [.int (7 : Int32), .int (μ3.1 1 0 2), .int (a3 / (10 : Int32))]) (rest := []) dX5_addSort_59 (c_X5_write G l N (7 : Int32) (μ3.1 1 0 2) (a3 / (10 : Int32)) μ3) (by omega) wl_X5_27 vm_X5_write rfl rfl (Nat.le_of_ble_eq_true rfl) (fun _ μ4 => ?_)
    refine sm_aload_n (pc := 62) dX5_addSort_62 rfl 0 rfl ?_
    refine sm_bipush (pc := 63) dX5_addSort_63 (v := 8) (by decide) ?_
    refine sm_aload_n (pc := 65) dX5_addSort_65 rfl 0 rfl ?_
    refine sm_geti (pc := 66) dX5_addSort_66 fi_X5_24 ?_
    refine sm_iload_n (pc := 69) dX5_addSort_69 rfl 3 rfl ?_
    refine sm_bipush (pc := 70) dX5_addSort_70 (v := 10) (by decide) ?_
    refine sm_iremc (pc := 72) dX5_addSort_72 (by decide) ?_
    refine sm_callVv (pc := 73) (As := [.int (8 : Int32), .int (μ4.1 1 0 2), .int (am_rem a3 (10 : Int32))]) (rest := []) dX5_addSort_73 (c_X5_write G l N (8 : Int32) (μ4.1 1 0 2) (am_rem a3 (10 : Int32)) μ4) (by omega) wl_X5_27 vm_X5_write rfl rfl (Nat.le_of_ble_eq_true rfl) (fun _ μ5 => ?_)
    refine sm_aload_n (pc := 76) dX5_addSort_76 rfl 0 rfl ?_
    refine sm_dup (pc := 77) dX5_addSort_77 rfl ?_
    refine sm_geti (pc := 78) dX5_addSort_78 fi_X5_24 ?_
    refine sm_dup_x1 (pc := 81) dX5_addSort_81 rfl rfl ?_
    refine sm_iconst (pc := 82) dX5_addSort_82 (v := 1) (by decide) ?_
    refine sm_iadd (pc := 83) dX5_addSort_83 ?_
    refine sm_puti (pc := 84) dX5_addSort_84 fi_X5_24 ?_
    refine sm_nmM (fun μ6 => ?_)
    exact sm_iret (pc := 87) dX5_addSort_87 rfl
  · refine sm_bipush (pc := 8) dX5_addSort_8 (v := -3) (by decide) ?_
    exact sm_iret (pc := 10) dX5_addSort_10 rfl
theorem c_X5_addSort (G : am_G) (l : Launch) (N : Nat) (a1 : Int32) (a2 : Int32) (a3 : Int32) (μ : am_M) : ct_P G l am_ci 2 me_X5_addSort [.ref (am_ad G 1 0), .int a1, .int a2, .int a3] μ (f_X5_addSort N a1 a2 a3 μ) := ct_of (by decide +kernel) (Nat.le_of_ble_eq_true rfl) rfl (p_X5_addSort_0 G l 2 (Nat.le_refl _) N a1 a2 a3 μ)

def f_X5_isBasket_4 (N : Nat) (r_4 : Int32 → Int32 → Int32 → am_M → Option (Int32 × am_M)) (x1 : Int32) (x2 : Int32) (x3 : Int32) (μ : am_M) : Option (Int32 × am_M) :=
if (μ.1 1 0 1) ≤ x3 then (if x1 < 0 then (am_z (0 : Int32) μ) else (if x2 = 0 then (am_z (1 : Int32) μ) else (am_z (0 : Int32) μ))) else (if (am_rem x2 (10 : Int32)) ≤ (3 : Int32) then (am_nm (x2 / (10 : Int32)) (fun y1 => r_4 x1 y1 (x3 + (1 : Int32)) μ)) else (am_z (0 : Int32) μ))
def f_X5_isBasket_4_lp (N : Nat) : Nat → Int32 → Int32 → Int32 → am_M → Option (Int32 × am_M)
  | 0, _, _, _, _ => none
  | n + 1, x1, x2, x3, μ => f_X5_isBasket_4 N (f_X5_isBasket_4_lp N n) x1 x2 x3 μ
def f_X5_isBasket_0 (N : Nat) (a1 : Int32) (μ : am_M) : Option (Int32 × am_M) :=
f_X5_isBasket_4_lp N N a1 a1 (0 : Int32) μ
def f_X5_isBasket (N : Nat) (a1 : Int32) (μ : am_M) : Option (Int32 × am_M) := f_X5_isBasket_0 N a1 μ
set_option maxHeartbeats 4000000 in
set_option maxRecDepth 100000 in
theorem p_X5_isBasket_4 (G : am_G) (l : Launch) (d : Nat) (hd0 : 0 ≤ d) (N : Nat) (r_4 : Int32 → Int32 → Int32 → am_M → Option (Int32 × am_M)) (H_4 : ∀ (x1 : Int32) (x2 : Int32) (x3 : Int32) (μ : am_M), sm_P G l am_ci d me_X5_isBasket 4 [(0, .ref (am_ad G 1 0)), (1, .int x1), (2, .int x2), (3, .int x3)] [] μ (r_4 x1 x2 x3 μ)) (x1 : Int32) (x2 : Int32) (x3 : Int32) (μ : am_M) : sm_P G l am_ci d me_X5_isBasket 4 [(0, .ref (am_ad G 1 0)), (1, .int x1), (2, .int x2), (3, .int x3)] [] μ (f_X5_isBasket_4 N r_4 x1 x2 x3 μ) := by
  unfold f_X5_isBasket_4
  refine sm_iload_n (pc := 4) dX5_isBasket_4 rfl 3 rfl ?_
  refine sm_aload_n (pc := 5) dX5_isBasket_5 rfl 0 rfl ?_
  refine sm_geti (pc := 6) dX5_isBasket_6 fi_X5_16 ?_
  refine sm_icmp_ge (pc := 9) (tgt := 33) dX5_isBasket_9 (by decide) ?_ ?_
  · refine sm_iload_n (pc := 33) dX5_isBasket_33 rfl 1 rfl ?_
    refine sm_if_lt (pc := 34) (tgt := 45) dX5_isBasket_34 (by decide) ?_ ?_
    · refine sm_iconst (pc := 45) dX5_isBasket_45 (v := 0) (by decide) ?_
      exact sm_zret (pc := 46) dX5_isBasket_46 rfl
    · refine sm_iload_n (pc := 37) dX5_isBasket_37 rfl 2 rfl ?_
      refine sm_if_ne (pc := 38) (tgt := 45) dX5_isBasket_38 (by decide) ?_ ?_
      · refine sm_iconst (pc := 45) dX5_isBasket_45 (v := 0) (by decide) ?_
        exact sm_zret (pc := 46) dX5_isBasket_46 rfl
      · refine sm_iconst (pc := 41) dX5_isBasket_41 (v := 1) (by decide) ?_
        refine sm_goto (pc := 42) (tgt := 46) dX5_isBasket_42 (by decide) ?_
        exact sm_zret (pc := 46) dX5_isBasket_46 rfl
  · refine sm_iload_n (pc := 12) dX5_isBasket_12 rfl 2 rfl ?_
    refine sm_bipush (pc := 13) dX5_isBasket_13 (v := 10) (by decide) ?_
    refine sm_iremc (pc := 15) dX5_isBasket_15 (by decide) ?_
    refine sm_iconst (pc := 16) dX5_isBasket_16 (v := 3) (by decide) ?_
    refine sm_icmp_le (pc := 17) (tgt := 22) dX5_isBasket_17 (by decide) ?_ ?_
    · refine sm_iload_n (pc := 22) dX5_isBasket_22 rfl 2 rfl ?_
      refine sm_bipush (pc := 23) dX5_isBasket_23 (v := 10) (by decide) ?_
      refine sm_idivc (pc := 25) dX5_isBasket_25 (by decide) ?_
      refine sm_nmI (fun y1 => ?_)
      refine sm_istore_n (pc := 26) (lv' := [(2, .int y1), (0, .ref (am_ad G 1 0)), (1, .int x1), (3, .int x3)]) dX5_isBasket_26 rfl (by decide) rfl ?_
      refine sm_iinc (pc := 27) (v := (x3 + (1 : Int32))) (lv' := [(3, .int (x3 + (1 : Int32))), (2, .int y1), (0, .ref (am_ad G 1 0)), (1, .int x1)]) dX5_isBasket_27 3 rfl rfl (by decide) rfl ?_
      refine sm_goto (pc := 30) (tgt := 4) dX5_isBasket_30 (by decide) ?_
      refine sm_sub [2, 3, 1, 0] rfl ?_
      exact H_4 x1 y1 (x3 + (1 : Int32)) μ
    · refine sm_iconst (pc := 20) dX5_isBasket_20 (v := 0) (by decide) ?_
      exact sm_zret (pc := 21) dX5_isBasket_21 rfl
theorem p_X5_isBasket_4_lp (G : am_G) (l : Launch) (d : Nat) (hd0 : 0 ≤ d) (N : Nat) : ∀ (n : Nat) (x1 : Int32) (x2 : Int32) (x3 : Int32) (μ : am_M), sm_P G l am_ci d me_X5_isBasket 4 [(0, .ref (am_ad G 1 0)), (1, .int x1), (2, .int x2), (3, .int x3)] [] μ (f_X5_isBasket_4_lp N n x1 x2 x3 μ) := by
  intro n
  induction n with
  | zero => intros; exact sm_none
  | succ n ih => exact fun x1 x2 x3 μ => p_X5_isBasket_4 G l d hd0 N (f_X5_isBasket_4_lp N n) ih x1 x2 x3 μ
set_option maxHeartbeats 4000000 in
set_option maxRecDepth 100000 in
theorem p_X5_isBasket_0 (G : am_G) (l : Launch) (d : Nat) (hd0 : 0 ≤ d) (N : Nat) (a1 : Int32) (μ : am_M) : sm_P G l am_ci d me_X5_isBasket 0 [(0, .ref (am_ad G 1 0)), (1, .int a1)] [] μ (f_X5_isBasket_0 N a1 μ) := by
  unfold f_X5_isBasket_0
  refine sm_iload_n (pc := 0) dX5_isBasket_0 rfl 1 rfl ?_
  refine sm_istore_n (pc := 1) (lv' := [(2, .int a1), (0, .ref (am_ad G 1 0)), (1, .int a1)]) dX5_isBasket_1 rfl (by decide) rfl ?_
  refine sm_iconst (pc := 2) dX5_isBasket_2 (v := 0) (by decide) ?_
  refine sm_istore_n (pc := 3) (lv' := [(3, .int (0 : Int32)), (2, .int a1), (0, .ref (am_ad G 1 0)), (1, .int a1)]) dX5_isBasket_3 rfl (by decide) rfl ?_
  refine sm_sub [2, 3, 1, 0] rfl ?_
  exact p_X5_isBasket_4_lp G l d hd0 N N a1 a1 (0 : Int32) μ
theorem c_X5_isBasket (G : am_G) (l : Launch) (N : Nat) (a1 : Int32) (μ : am_M) : ct_P G l am_ci 0 me_X5_isBasket [.ref (am_ad G 1 0), .int a1] μ (f_X5_isBasket N a1 μ) := ct_of (by decide +kernel) (Nat.le_of_ble_eq_true rfl) rfl (p_X5_isBasket_0 G l 0 (Nat.le_refl _) N a1 μ)
