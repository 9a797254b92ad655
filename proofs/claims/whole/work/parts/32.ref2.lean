def f_X10_areDigits_10 (N : Nat) (r_10 : Int32 → Int32 → am_M → Option (Int32 × am_M)) (x2 : Int32) (x3 : Int32) (μ : am_M) : Option (Int32 × am_M) :=
if x3 ≤ 0 then (if (μ.1 10 0 6) < x2 then (am_z (0 : Int32) μ) else (am_z (1 : Int32) μ)) else (if (am_rem x3 (10 : Int32)) ≤ (3 : Int32) then (am_nm (x3 / (10 : Int32)) (fun y1 => r_10 (x2 + (1 : Int32)) y1 μ)) else (am_z (0 : Int32) μ))
def f_X10_areDigits_10_lp (N : Nat) : Nat → Int32 → Int32 → am_M → Option (Int32 × am_M)
  | 0, _, _, _ => none
  | n + 1, x2, x3, μ => f_X10_areDigits_10 N (f_X10_areDigits_10_lp N n) x2 x3 μ
def f_X10_areDigits_0 (N : Nat) (a1 : Int32) (μ : am_M) : Option (Int32 × am_M) :=
if 0 ≤ a1 then (f_X10_areDigits_10_lp N N (0 : Int32) a1 μ) else (am_z (0 : Int32) μ)
def f_X10_areDigits (N : Nat) (a1 : Int32) (μ : am_M) : Option (Int32 × am_M) := f_X10_areDigits_0 N a1 μ
set_option maxHeartbeats 4000000 in
set_option maxRecDepth 100000 in
theorem p_X10_areDigits_10 (G : am_G) (l : Launch) (d : Nat) (hd0 : 0 ≤ d) (N : Nat) (r_10 : Int32 → Int32 → am_M → Option (Int32 × am_M)) (H_10 : ∀ (x2 : Int32) (x3 : Int32) (μ : am_M), sm_P G l am_ci d me_X10_areDigits 10 [(0, .ref (am_ad G 10 0)), (2, .int x2), (3, .int x3)] [] μ (r_10 x2 x3 μ)) (x2 : Int32) (x3 : Int32) (μ : am_M) : sm_P G l am_ci d me_X10_areDigits 10 [(0, .ref (am_ad G 10 0)), (2, .int x2), (3, .int x3)] [] μ (f_X10_areDigits_10 N r_10 x2 x3 μ) := by
  unfold f_X10_areDigits_10
  refine sm_iload_n (pc := 10) dX10_areDigits_10 rfl 2 rfl ?_
  refine sm_if_le (pc := 11) (tgt := 35) dX10_areDigits_11 (by decide) ?_ ?_
  · refine sm_iload_n (pc := 35) dX10_areDigits_35 rfl 1 rfl ?_
    refine sm_aload_n (pc := 36) dX10_areDigits_36 rfl 0 rfl ?_
    refine sm_geti (pc := 37) dX10_areDigits_37 fi_X10_102 ?_
    refine sm_icmp_gt (pc := 40) (tgt := 47) dX10_areDigits_40 (by decide) ?_ ?_
    · refine sm_iconst (pc := 47) dX10_areDigits_47 (v := 0) (by decide) ?_
      exact sm_zret (pc := 48) dX10_areDigits_48 rfl
    · refine sm_iconst (pc := 43) dX10_areDigits_43 (v := 1) (by decide) ?_
      refine sm_goto (pc := 44) (tgt := 48) dX10_areDigits_44 (by decide) ?_
      exact sm_zret (pc := 48) dX10_areDigits_48 rfl
  · refine sm_iload_n (pc := 14) dX10_areDigits_14 rfl 2 rfl ?_
    refine sm_bipush (pc := 15) dX10_areDigits_15 (v := 10) (by decide) ?_
    refine sm_iremc (pc := 17) dX10_areDigits_17 (by decide) ?_
    refine sm_iconst (pc := 18) dX10_areDigits_18 (v := 3) (by decide) ?_
    refine sm_icmp_le (pc := 19) (tgt := 24) dX10_areDigits_19 (by decide) ?_ ?_
    · refine sm_iinc (pc := 24) (v := (x2 + (1 : Int32))) (lv' := [(2, .int (x2 + (1 : Int32))), (0, .ref (am_ad G 10 0)), (3, .int x3)]) dX10_areDigits_24 1 rfl rfl (by decide) rfl ?_
      refine sm_iload_n (pc := 27) dX10_areDigits_27 rfl 2 rfl ?_
      refine sm_bipush (pc := 28) dX10_areDigits_28 (v := 10) (by decide) ?_
      refine sm_idivc (pc := 30) dX10_areDigits_30 (by decide) ?_
      refine sm_nmI (fun y1 => ?_)
      refine sm_istore_n (pc := 31) (lv' := [(3, .int y1), (2, .int (x2 + (1 : Int32))), (0, .ref (am_ad G 10 0))]) dX10_areDigits_31 rfl (by decide) rfl ?_
      refine sm_goto (pc := 32) (tgt := 10) dX10_areDigits_32 (by decide) ?_
      refine sm_sub [2, 1, 0] rfl ?_
      exact H_10 (x2 + (1 : Int32)) y1 μ
    · refine sm_iconst (pc := 22) dX10_areDigits_22 (v := 0) (by decide) ?_
      exact sm_zret (pc := 23) dX10_areDigits_23 rfl
theorem p_X10_areDigits_10_lp (G : am_G) (l : Launch) (d : Nat) (hd0 : 0 ≤ d) (N : Nat) : ∀ (n : Nat) (x2 : Int32) (x3 : Int32) (μ : am_M), sm_P G l am_ci d me_X10_areDigits 10 [(0, .ref (am_ad G 10 0)), (2, .int x2), (3, .int x3)] [] μ (f_X10_areDigits_10_lp N n x2 x3 μ) := by
  intro n
  induction n with
  | zero => intros; exact sm_none
  | succ n ih => exact fun x2 x3 μ => p_X10_areDigits_10 G l d hd0 N (f_X10_areDigits_10_lp N n) ih x2 x3 μ
set_option maxHeartbeats 4000000 in
set_option maxRecDepth 100000 in
theorem p_X10_areDigits_0 (G : am_G) (l : Launch) (d : Nat) (hd0 : 0 ≤ d) (N : Nat) (a1 : Int32) (μ : am_M) : sm_P G l am_ci d me_X10_areDigits 0 [(0, .ref (am_ad G 10 0)), (1, .int a1)] [] μ (f_X10_areDigits_0 N a1 μ) := by
  unfold f_X10_areDigits_0
  refine sm_iload_n (pc := 0) dX10_areDigits_0 rfl 1 rfl ?_
  refine sm_if_ge (pc := 1) (tgt := 6) dX10_areDigits_1 (by decide) ?_ ?_
  · refine sm_iconst (pc := 6) dX10_areDigits_6 (v := 0) (by decide) ?_
    refine sm_istore_n (pc := 7) (lv' := [(2, .int (0 : Int32)), (0, .ref (am_ad G 10 0)), (1, .int a1)]) dX10_areDigits_7 rfl (by decide) rfl ?_
    refine sm_iload_n (pc := 8) dX10_areDigits_8 rfl 2 rfl ?_
    refine sm_istore_n (pc := 9) (lv' := [(3, .int a1), (2, .int (0 : Int32)), (0, .ref (am_ad G 10 0)), (1, .int a1)]) dX10_areDigits_9 rfl (by decide) rfl ?_
    refine sm_sub [2, 1, 0] rfl ?_
    exact p_X10_areDigits_10_lp G l d hd0 N N (0 : Int32) a1 μ
  · refine sm_iconst (pc := 4) dX10_areDigits_4 (v := 0) (by decide) ?_
    exact sm_zret (pc := 5) dX10_areDigits_5 rfl
theorem c_X10_areDigits (G : am_G) (l : Launch) (N : Nat) (a1 : Int32) (μ : am_M) : ct_P G l am_ci 0 me_X10_areDigits [.ref (am_ad G 10 0), .int a1] μ (f_X10_areDigits N a1 μ) := ct_of (by decide +kernel) (Nat.le_of_ble_eq_true rfl) rfl (p_X10_areDigits_0 G l 0 (Nat.le_refl _) N a1 μ)

def f_X10_tell_0 (N : Nat) (a1 : Int32) (a2 : Int32) (μ : am_M) : Option (Int32 × am_M) :=
am_bd (f_X10_isSort N a1 μ) (fun y2 μ1 => if y2 = 0 then (some ((-1 : Int32), μ1)) else (am_bd (f_X10_areDigits N a2 μ1) (fun y4 μ3 => if y4 = 0 then (some ((-1 : Int32), μ3)) else (am_gd a1 5 (fun j5 => am_nm (μ3.1 172 0 j5) (fun y6 => am_gd a1 5 (fun j7 => am_nm (am_ui μ3 172 0 j7 a2) (fun μ8 => some (y6, μ8)))))))))
def f_X10_tell (N : Nat) (a1 : Int32) (a2 : Int32) (μ : am_M) : Option (Int32 × am_M) := f_X10_tell_0 N a1 a2 μ
set_option maxHeartbeats 4000000 in
set_option maxRecDepth 100000 in
theorem p_X10_tell_0 (G : am_G) (l : Launch) (d : Nat) (hd0 : 2 ≤ d) (N : Nat) (a1 : Int32) (a2 : Int32) (μ : am_M) : sm_P G l am_ci d me_X10_tell 0 [(0, .ref (am_ad G 10 0)), (1, .int a1), (2, .int a2)] [] μ (f_X10_tell_0 N a1 a2 μ) := by
  unfold f_X10_tell_0
  refine sm_aload_n (pc := 0) dX10_tell_0 rfl 0 rfl ?_
  refine sm_iload_n (pc := 1) dX10_tell_1 rfl 1 rfl ?_
  refine sm_callVi (pc := 2) (As := [.int a1]) (rest := []) dX10_tell_2 (c_X10_isSort G l N a1 μ) (by omega) wl_X10_144 vm_X10_isSort rfl rfl (Nat.le_of_ble_eq_true rfl) (fun y2 μ1 => ?_)
  refine sm_if_eq (pc := 5) (tgt := 16) dX10_tell_5 (by decide) ?_ ?_
  · refine sm_iconst (pc := 16) dX10_tell_16 (v := -1) (by decide) ?_
    exact sm_iret (pc := 17) dX10_tell_17 rfl
  · refine sm_aload_n (pc := 8) dX10_tell_8 rfl 0 rfl ?_
    refine sm_iload_n (pc := 9) dX10_tell_9 rfl 2 rfl ?_
    refine sm_callVi (pc := 10) (As := [.int a2]) (rest := []) dX10_tell_10 (c_X10_areDigits G l N a2 μ1) (by omega) wl_X10_288 vm_X10_areDigits rfl rfl (Nat.le_of_ble_eq_true rfl) (fun y4 μ3 => ?_)
    refine sm_if_ne (pc := 13) (tgt := 18) dX10_tell_13 (by decide) ?_ ?_
    · refine sm_aload_n (pc := 18) dX10_tell_18 rfl 0 rfl ?_
      refine sm_getr (pc := 19) dX10_tell_19 fi_X10_34 ?_
      refine sm_iload_n (pc := 22) dX10_tell_22 rfl 1 rfl ?_
      refine sm_iald (pc := 23) dX10_tell_23 ly_172 (by decide) (fun j5 hj5 => ?_)
      refine sm_nmI (fun y6 => ?_)
      refine sm_istore_n (pc := 24) (lv' := [(3, .int y6), (0, .ref (am_ad G 10 0)), (1, .int a1), (2, .int a2)]) dX10_tell_24 rfl (by decide) rfl ?_
      refine sm_aload_n (pc := 25) dX10_tell_25 rfl 1 rfl ?_
      refine sm_getr (pc := 26) dX10_tell_26 fi_X10_34 ?_
      refine sm_iload_n (pc := 29) dX10_tell_29 rfl 2 rfl ?_
      refine sm_iload_n (pc := 30) dX10_tell_30 rfl 3 rfl ?_
      refine sm_iast (pc := 31) dX10_tell_31 ly_172 (by decide) (fun j7 hj7 => ?_)
      refine sm_nmM (fun μ8 => ?_)
      refine sm_iload_n (pc := 32) dX10_tell_32 rfl 0 rfl ?_
      exact sm_iret (pc := 33) dX10_tell_33 rfl
    · refine sm_iconst (pc := 16) dX10_tell_16 (v := -1) (by decide) ?_
      exact sm_iret (pc := 17) dX10_tell_17 rfl
theorem c_X10_tell (G : am_G) (l : Launch) (N : Nat) (a1 : Int32) (a2 : Int32) (μ : am_M) : ct_P G l am_ci 2 me_X10_tell [.ref (am_ad G 10 0), .int a1, .int a2] μ (f_X10_tell N a1 a2 μ) := ct_of (by decide +kernel) (Nat.le_of_ble_eq_true rfl) rfl (p_X10_tell_0 G l 2 (Nat.le_refl _) N a1 a2 μ)

def f_X10_packed_7 (N : Nat) (r_7 : Int32 → Int32 → Int32 → am_M → Option (Int32 × am_M)) (x2 : Int32) (x3 : Int32) (x4 : Int32) (μ : am_M) : Option (Int32 × am_M) :=
if (μ.1 10 0 6) ≤ x4 then (some (x2, μ)) else (am_nm (x2 ||| ((am_rem x3 (10 : Int32)) <<< (((2 : Int32) * x4) &&& 31))) (fun y1 => am_nm (x3 / (10 : Int32)) (fun y2 => r_7 y1 y2 (x4 + (1 : Int32)) μ)))
def f_X10_packed_7_lp (N : Nat) : Nat → Int32 → Int32 → Int32 → am_M → Option (Int32 × am_M)
  | 0, _, _, _, _ => none
  | n + 1, x2, x3, x4, μ => f_X10_packed_7 N (f_X10_packed_7_lp N n) x2 x3 x4 μ
def f_X10_packed_0 (N : Nat) (a1 : Int32) (μ : am_M) : Option (Int32 × am_M) :=
f_X10_packed_7_lp N N (0 : Int32) a1 (0 : Int32) μ
def f_X10_packed (N : Nat) (a1 : Int32) (μ : am_M) : Option (Int32 × am_M) := f_X10_packed_0 N a1 μ
set_option maxHeartbeats 4000000 in
set_option maxRecDepth 100000 in
theorem p_X10_packed_7 (G : am_G) (l : Launch) (d : Nat) (hd0 : 0 ≤ d) (N : Nat) (r_7 : Int32 → Int32 → Int32 → am_M → Option (Int32 × am_M)) (H_7 : ∀ (x2 : Int32) (x3 : Int32) (x4 : Int32) (μ : am_M), sm_P G l am_ci d me_X10_packed 7 [(0, .ref (am_ad G 10 0)), (2, .int x2), (3, .int x3), (4, .int x4)] [] μ (r_7 x2 x3 x4 μ)) (x2 : Int32) (x3 : Int32) (x4 : Int32) (μ : am_M) : sm_P G l am_ci d me_X10_packed 7 [(0, .ref (am_ad G 10 0)), (2, .int x2), (3, .int x3), (4, .int x4)] [] μ (f_X10_packed_7 N r_7 x2 x3 x4 μ) := by
  unfold f_X10_packed_7
  refine sm_iload (pc := 7) dX10_packed_7 3 rfl ?_
  refine sm_aload_n (pc := 9) dX10_packed_9 rfl 0 rfl ?_
  refine sm_geti (pc := 10) dX10_packed_10 fi_X10_102 ?_
  refine sm_icmp_ge (pc := 13) (tgt := 39) dX10_packed_13 (by decide) ?_ ?_
  · refine sm_iload_n (pc := 39) dX10_packed_39 rfl 1 rfl ?_
    exact sm_iret (pc := 40) dX10_packed_40 rfl
  · refine sm_iload_n (pc := 16) dX10_packed_16 rfl 1 rfl ?_
    refine sm_iload_n (pc := 17) dX10_packed_17 rfl 2 rfl ?_
    refine sm_bipush (pc := 18) dX10_packed_18 (v := 10) (by decide) ?_
    refine sm_iremc (pc := 20) dX10_packed_20 (by decide) ?_
    refine sm_iconst (pc := 21) dX10_packed_21 (v := 2) (by decide) ?_
    refine sm_iload (pc := 22) dX10_packed_22 3 rfl ?_
    refine sm_imul (pc := 24) dX10_packed_24 ?_
    refine sm_ishl (pc := 25) dX10_packed_25 ?_
    refine sm_ior (pc := 26) dX10_packed_26 ?_
    refine sm_nmI (fun y1 => ?_)
    refine sm_istore_n (pc := 27) (lv' := [(2, .int y1), (0, .ref (am_ad G 10 0)), (3, .int x3), (4, .int x4)]) dX10_packed_27 rfl (by decide) rfl ?_
    refine sm_iload_n (pc := 28) dX10_packed_28 rfl 2 rfl ?_
    refine sm_bipush (pc := 29) dX10_packed_29 (v := 10) (by decide) ?_
    refine sm_idivc (pc := 31) dX10_packed_31 (by decide) ?_
    refine sm_nmI (fun y2 => ?_)
    refine sm_istore_n (pc := 32) (lv' := [(3, .int y2), (2, .int y1), (0, .ref (am_ad G 10 0)), (4, .int x4)]) dX10_packed_32 rfl (by decide) rfl ?_
    refine sm_iinc (pc := 33) (v := (x4 + (1 : Int32))) (lv' := [(4, .int (x4 + (1 : Int32))), (3, .int y2), (2, .int y1), (0, .ref (am_ad G 10 0))]) dX10_packed_33 3 rfl rfl (by decide) rfl ?_
    refine sm_goto (pc := 36) (tgt := 7) dX10_packed_36 (by decide) ?_
    refine sm_sub [3, 2, 1, 0] rfl ?_
    exact H_7 y1 y2 (x4 + (1 : Int32)) μ
theorem p_X10_packed_7_lp (G : am_G) (l : Launch) (d : Nat) (hd0 : 0 ≤ d) (N : Nat) : ∀ (n : Nat) (x2 : Int32) (x3 : Int32) (x4 : Int32) (μ : am_M), sm_P G l am_ci d me_X10_packed 7 [(0, .ref (am_ad G 10 0)), (2, .int x2), (3, .int x3), (4, .int x4)] [] μ (f_X10_packed_7_lp N n x2 x3 x4 μ) := by
  intro n
  induction n with
  | zero => intros; exact sm_none
  | succ n ih => exact fun x2 x3 x4 μ => p_X10_packed_7 G l d hd0 N (f_X10_packed_7_lp N n) ih x2 x3 x4 μ
set_option maxHeartbeats 4000000 in
set_option maxRecDepth 100000 in
theorem p_X10_packed_0 (G : am_G) (l : Launch) (d : Nat) (hd0 : 0 ≤ d) (N : Nat) (a1 : Int32) (μ : am_M) : sm_P G l am_ci d me_X10_packed 0 [(0, .ref (am_ad G 10 0)), (1, .int a1)] [] μ (f_X10_packed_0 N a1 μ) := by
  unfold f_X10_packed_0
  refine sm_iconst (pc := 0) dX10_packed_0 (v := 0) (by decide) ?_
  refine sm_istore_n (pc := 1) (lv' := [(2, .int (0 : Int32)), (0, .ref (am_ad G 10 0)), (1, .int a1)]) dX10_packed_1 rfl (by decide) rfl ?_
  refine sm_iload_n (pc := 2) dX10_packed_2 rfl 2 rfl ?_
  refine sm_istore_n (pc := 3) (lv' := [(3, .int a1), (2, .int (0 : Int32)), (0, .ref (am_ad G 10 0)), (1, .int a1)]) dX10_packed_3 rfl (by decide) rfl ?_
  refine sm_iconst (pc := 4) dX10_packed_4 (v := 0) (by decide) ?_
  refine sm_istore (pc := 5) (lv' := [(4, .int (0 : Int32)), (3, .int a1), (2, .int (0 : Int32)), (0, .ref (am_ad G 10 0)), (1, .int a1)]) dX10_packed_5 (by decide) rfl ?_
  refine sm_sub [3, 2, 1, 0] rfl ?_
  exact p_X10_packed_7_lp G l d hd0 N N (0 : Int32) a1 (0 : Int32) μ
theorem c_X10_packed (G : am_G) (l : Launch) (N : Nat) (a1 : Int32) (μ : am_M) : ct_P G l am_ci 0 me_X10_packed [.ref (am_ad G 10 0), .int a1] μ (f_X10_packed N a1 μ) := ct_of (by decide +kernel) (Nat.le_of_ble_eq_true rfl) rfl (p_X10_packed_0 G l 0 (Nat.le_refl _) N a1 μ)

def f_X10_judge_95 (N : Nat) (r_83 : Int32 → am_M → Option (Int32 × am_M)) (r_95 : Int32 → Int32 → Int32 → am_M → Option (Int32 × am_M)) (x1 : Int32) (x2 : Int32) (x3 : Int32) (μ : am_M) : Option (Int32 × am_M) :=
if (μ.1 10 0 8) ≤ x3 then (am_gd x1 28 (fun j1 => if x2 ≤ (μ.1 160 0 j1) then (r_83 (x1 + (1 : Int32)) μ) else (some (((30 : Int32) + x1), μ)))) else (am_gd x3 5 (fun j2 => am_gd x3 5 (fun j3 => am_bd (f_X10_packed N (μ.1 172 0 j3) μ) (fun y5 μ4 => am_nm (x2 + ((μ.1 169 0 j2) * ((y5 >>> (((2 : Int32) * (((μ4.1 10 0 6) - (1 : Int32)) - x1)) &&& 31)) &&& (3 : Int32)))) (fun y6 => r_95 x1 y6 (x3 + (1 : Int32)) μ4)))))
def f_X10_judge_95_lp (N : Nat) (r_83 : Int32 → am_M → Option (Int32 × am_M)) : Nat → Int32 → Int32 → Int32 → am_M → Option (Int32 × am_M)
  | 0, _, _, _, _ => none
  | n + 1, x1, x2, x3, μ => f_X10_judge_95 N r_83 (f_X10_judge_95_lp N r_83 n) x1 x2 x3 μ
def f_X10_judge_83 (N : Nat) (r_83 : Int32 → am_M → Option (Int32 × am_M)) (x1 : Int32) (μ : am_M) : Option (Int32 × am_M) :=
if (μ.1 10 0 6) ≤ x1 then (some ((-2 : Int32), μ)) else (f_X10_judge_95_lp N r_83 N x1 (0 : Int32) (0 : Int32) μ)
def f_X10_judge_83_lp (N : Nat) : Nat → Int32 → am_M → Option (Int32 × am_M)
  | 0, _, _ => none
  | n + 1, x1, μ => f_X10_judge_83 N (f_X10_judge_83_lp N n) x1 μ
def f_X10_judge_54 (N : Nat) (x1 : Int32) (μ : am_M) : Option (Int32 × am_M) :=
some (((10 : Int32) + x1), μ)
def f_X10_judge_2 (N : Nat) (r_2 : Int32 → am_M → Option (Int32 × am_M)) (x1 : Int32) (μ : am_M) : Option (Int32 × am_M) :=
if (μ.1 10 0 8) ≤ x1 then (f_X10_judge_83_lp N N (0 : Int32) μ) else (am_bd (f_X10_bestOf N x1 μ) (fun y8 μ7 => am_gd x1 5 (fun j9 => am_bd (f_X10_packed N (μ7.1 172 0 j9) μ7) (fun y11 μ10 => am_bd (f_X10_unpack N y11 μ10) (fun _ μ12 => am_bd (f_X10_purseOf N x1 μ12) (fun y14 μ13 => if y14 < (μ12.1 10 0 27) then (f_X10_judge_54 N x1 μ13) else (am_bd (f_X10_pointsInAll N x1 μ13) (fun y16 μ15 => if (μ13.1 10 0 28) ≤ y16 then (if (μ15.1 10 0 30) ≤ (μ15.1 10 0 26) then (r_2 (x1 + (1 : Int32)) μ15) else (some (((20 : Int32) + x1), μ15))) else (f_X10_judge_54 N x1 μ15)))))))))
def f_X10_judge_2_lp (N : Nat) : Nat → Int32 → am_M → Option (Int32 × am_M)
  | 0, _, _ => none
  | n + 1, x1, μ => f_X10_judge_2 N (f_X10_judge_2_lp N n) x1 μ
def f_X10_judge_0 (N : Nat) (μ : am_M) : Option (Int32 × am_M) :=
f_X10_judge_2_lp N N (0 : Int32) μ
def f_X10_judge (N : Nat) (μ : am_M) : Option (Int32 × am_M) := f_X10_judge_0 N μ
set_option maxHeartbeats 4000000 in
set_option maxRecDepth 100000 in
theorem p_X10_judge_95 (G : am_G) (l : Launch) (d : Nat) (hd0 : 108 ≤ d) (N : Nat) (r_83 : Int32 → am_M → Option (Int32 × am_M)) (r_95 : Int32 → Int32 → Int32 → am_M → Option (Int32 × am_M)) (H_83 : ∀ (x1 : Int32) (μ : am_M), sm_P G l am_ci d me_X10_judge 83 [(0, .ref (am_ad G 10 0)), (1, .int x1)] [] μ (r_83 x1 μ)) (H_95 : ∀ (x1 : Int32) (x2 : Int32) (x3 : Int32) (μ : am_M), sm_P G l am_ci d me_X10_judge 95 [(0, .ref (am_ad G 10 0)), (1, .int x1), (2, .int x2), (3, .int x3)] [] μ (r_95 x1 x2 x3 μ)) (x1 : Int32) (x2 : Int32) (x3 : Int32) (μ : am_M) : sm_P G l am_ci d me_X10_judge 95 [(0, .ref (am_ad G 10 0)), (1, .int x1), (2, .int x2), (3, .int x3)] [] μ (f_X10_judge_95 N r_83 r_95 x1 x2 x3 μ) := by
  unfold f_X10_judge_95
  refine sm_iload_n (pc := 95) dX10_judge_95 rfl 3 rfl ?_
  refine sm_aload_n (pc := 96) dX10_judge_96 rfl 0 rfl ?_
  refine sm_geti (pc := 97) dX10_judge_97 fi_X10_109 ?_
  refine sm_icmp_ge (pc := 100) (tgt := 142) dX10_judge_100 (by decide) ?_ ?_
  · refine sm_iload_n (pc := 142) dX10_judge_142 rfl 2 rfl ?_
    refine sm_aload_n (pc := 143) dX10_judge_143 rfl 0 rfl ?_
    refine sm_getr (pc := 144) dX10_judge_144 fi_X10_9 ?_
    refine sm_iload_n (pc := 147) dX10_judge_147 rfl 1 rfl ?_
    refine sm_iald (pc := 148) dX10_judge_148 ly_160 (by decide) (fun j1 hj1 => ?_)
    refine sm_icmp_le (pc := 149) (tgt := 157) dX10_judge_149 (by decide) ?_ ?_
    · refine sm_iinc (pc := 157) (v := (x1 + (1 : Int32))) (lv' := [(1, .int (x1 + (1 : Int32))), (0, .ref (am_ad G 10 0)), (2, .int x2), (3, .int x3)]) dX10_judge_157 1 rfl rfl (by decide) rfl ?_
      refine sm_goto (pc := 160) (tgt := 83) dX10_judge_160 (by decide) ?_
      refine sm_sub [1, 0] rfl ?_
      exact H_83 (x1 + (1 : Int32)) μ
    · refine sm_bipush (pc := 152) dX10_judge_152 (v := 30) (by decide) ?_
      refine sm_iload_n (pc := 154) dX10_judge_154 rfl 1 rfl ?_
      refine sm_iadd (pc := 155) dX10_judge_155 ?_
      exact sm_iret (pc := 156) dX10_judge_156 rfl
  · refine sm_iload_n (pc := 103) dX10_judge_103 rfl 2 rfl ?_
    refine sm_aload_n (pc := 104) dX10_judge_104 rfl 0 rfl ?_
    refine sm_getr (pc := 105) dX10_judge_105 fi_X10_25 ?_
    refine sm_iload_n (pc := 108) dX10_judge_108 rfl 3 rfl ?_
    refine sm_iald (pc := 109) dX10_judge_109 ly_169 (by decide) (fun j2 hj2 => ?_)
    refine sm_aload_n (pc := 110) dX10_judge_110 rfl 0 rfl ?_
    refine sm_aload_n (pc := 111) dX10_judge_111 rfl 0 rfl ?_
    refine sm_getr (pc := 112) dX10_judge_112 fi_X10_34 ?_
    refine sm_iload_n (pc := 115) dX10_judge_115 rfl 3 rfl ?_
    refine sm_iald (pc := 116) dX10_judge_116 ly_172 (by decide) (fun j3 hj3 => ?_)
    refine sm_callVi (pc := 117) (As := [.int (μ.1 172 0 j3)]) (rest := [.int (μ.1 169 0 j2), .int x2]) dX10_judge_117 (c_X10_packed G l N (μ.1 172 0 j3) μ) (by omega) wl_X10_291 vm_X10_packed rfl rfl (Nat.le_of_ble_eq_true rfl) (fun y5 μ4 => ?_)
    refine sm_iconst (pc := 120) dX10_judge_120 (v := 2) (by decide) ?_
    refine sm_aload_n (pc := 121) dX10_judge_121 rfl 0 rfl ?_
    refine sm_geti (pc := 122) dX10_judge_122 fi_X10_102 ?_
    refine sm_iconst (pc := 125) dX10_judge_125 (v := 1) (by decide) ?_
    refine sm_isub (pc := 126) dX10_judge_126 ?_
    refine sm_iload_n (pc := 127) dX10_judge_127 rfl 1 rfl ?_
    refine sm_isub (pc := 128) dX10_judge_128 ?_
    refine sm_imul (pc := 129) dX10_judge_129 ?_
    refine sm_ishr (pc := 130) dX10_judge_130 ?_
    refine sm_iconst (pc := 131) dX10_judge_131 (v := 3) (by decide) ?_
    refine sm_iand (pc := 132) dX10_judge_132 ?_
    refine sm_imul (pc := 133) dX10_judge_133 ?_
    refine sm_iadd (pc := 134) dX10_judge_134 ?_
    refine sm_nmI (fun y6 => ?_)
    refine sm_istore_n (pc := 135) (lv' := [(2, .int y6), (0, .ref (am_ad G 10 0)), (1, .int x1), (3, .int x3)]) dX10_judge_135 rfl (by decide) rfl ?_
    refine sm_iinc (pc := 136) (v := (x3 + (1 : Int32))) (lv' := [(3, .int (x3 + (1 : Int32))), (2, .int y6), (0, .ref (am_ad G 10 0)), (1, .int x1)]) dX10_judge_136 3 rfl rfl (by decide) rfl ?_
    refine sm_goto (pc := 139) (tgt := 95) dX10_judge_139 (by decide) ?_
    refine sm_sub [2, 3, 1, 0] rfl ?_
    exact H_95 x1 y6 (x3 + (1 : Int32)) μ4
theorem p_X10_judge_95_lp (G : am_G) (l : Launch) (d : Nat) (hd0 : 108 ≤ d) (N : Nat) (r_83 : Int32 → am_M → Option (Int32 × am_M)) (H_83 : ∀ (x1 : Int32) (μ : am_M), sm_P G l am_ci d me_X10_judge 83 [(0, .ref (am_ad G 10 0)), (1, .int x1)] [] μ (r_83 x1 μ)) : ∀ (n : Nat) (x1 : Int32) (x2 : Int32) (x3 : Int32) (μ : am_M), sm_P G l am_ci d me_X10_judge 95 [(0, .ref (am_ad G 10 0)), (1, .int x1), (2, .int x2), (3, .int x3)] [] μ (f_X10_judge_95_lp N r_83 n x1 x2 x3 μ) := by
  intro n
  induction n with
  | zero => intros; exact sm_none
  | succ n ih => exact fun x1 x2 x3 μ => p_X10_judge_95 G l d hd0 N r_83 (f_X10_judge_95_lp N r_83 n) H_83 ih x1 x2 x3 μ
set_option maxHeartbeats 4000000 in
set_option maxRecDepth 100000 in
theorem p_X10_judge_83 (G : am_G) (l : Launch) (d : Nat) (hd0 : 108 ≤ d) (N : Nat) (r_83 : Int32 → am_M → Option (Int32 × am_M)) (H_83 : ∀ (x1 : Int32) (μ : am_M), sm_P G l am_ci d me_X10_judge 83 [(0, .ref (am_ad G 10 0)), (1, .int x1)] [] μ (r_83 x1 μ)) (x1 : Int32) (μ : am_M) : sm_P G l am_ci d me_X10_judge 83 [(0, .ref (am_ad G 10 0)), (1, .int x1)] [] μ (f_X10_judge_83 N r_83 x1 μ) := by
  unfold f_X10_judge_83
  refine sm_iload_n (pc := 83) dX10_judge_83 rfl 1 rfl ?_
  refine sm_aload_n (pc := 84) dX10_judge_84 rfl 0 rfl ?_
  refine sm_geti (pc := 85) dX10_judge_85 fi_X10_102 ?_
  refine sm_icmp_ge (pc := 88) (tgt := 163) dX10_judge_88 (by decide) ?_ ?_
  · refine sm_bipush (pc := 163) dX10_judge_163 (v := -2) (by decide) ?_
    exact sm_iret (pc := 165) dX10_judge_165 rfl
  · refine sm_iconst (pc := 91) dX10_judge_91 (v := 0) (by decide) ?_
    refine sm_istore_n (pc := 92) (lv' := [(2, .int (0 : Int32)), (0, .ref (am_ad G 10 0)), (1, .int x1)]) dX10_judge_92 rfl (by decide) rfl ?_
    refine sm_iconst (pc := 93) dX10_judge_93 (v := 0) (by decide) ?_
    refine sm_istore_n (pc := 94) (lv' := [(3, .int (0 : Int32)), (2, .int (0 : Int32)), (0, .ref (am_ad G 10 0)), (1, .int x1)]) dX10_judge_94 rfl (by decide) rfl ?_
    refine sm_sub [2, 3, 1, 0] rfl ?_
    exact p_X10_judge_95_lp G l d hd0 N r_83 H_83 N x1 (0 : Int32) (0 : Int32) μ
theorem p_X10_judge_83_lp (G : am_G) (l : Launch) (d : Nat) (hd0 : 108 ≤ d) (N : Nat) : ∀ (n : Nat) (x1 : Int32) (μ : am_M), sm_P G l am_ci d me_X10_judge 83 [(0, .ref (am_ad G 10 0)), (1, .int x1)] [] μ (f_X10_judge_83_lp N n x1 μ) := by
  intro n
  induction n with
  | zero => intros; exact sm_none
  | succ n ih => exact fun x1 μ => p_X10_judge_83 G l d hd0 N (f_X10_judge_83_lp N n) ih x1 μ
set_option maxHeartbeats 4000000 in
set_option maxRecDepth 100000 in
theorem p_X10_judge_54 (G : am_G) (l : Launch) (d : Nat) (hd0 : 108 ≤ d) (N : Nat) (x1 : Int32) (μ : am_M) : sm_P G l am_ci d me_X10_judge 54 [(0, .ref (am_ad G 10 0)), (1, .int x1)] [] μ (f_X10_judge_54 N x1 μ) := by
  unfold f_X10_judge_54
  refine sm_bipush (pc := 54) dX10_judge_54 (v := 10) (by decide) ?_
  refine sm_iload_n (pc := 56) dX10_judge_56 rfl 1 rfl ?_
  refine sm_iadd (pc := 57) dX10_judge_57 ?_
  exact sm_iret (pc := 58) dX10_judge_58 rfl
set_option maxHeartbeats 4000000 in
set_option maxRecDepth 100000 in
theorem p_X10_judge_2 (G : am_G) (l : Launch) (d : Nat) (hd0 : 108 ≤ d) (N : Nat) (r_2 : Int32 → am_M → Option (Int32 × am_M)) (H_2 : ∀ (x1 : Int32) (μ : am_M), sm_P G l am_ci d me_X10_judge 2 [(0, .ref (am_ad G 10 0)), (1, .int x1)] [] μ (r_2 x1 μ)) (x1 : Int32) (μ : am_M) : sm_P G l am_ci d me_X10_judge 2 [(0, .ref (am_ad G 10 0)), (1, .int x1)] [] μ (f_X10_judge_2 N r_2 x1 μ) := by
  unfold f_X10_judge_2
  refine sm_iload_n (pc := 2) dX10_judge_2 rfl 1 rfl ?_
  refine sm_aload_n (pc := 3) dX10_judge_3 rfl 0 rfl ?_
  refine sm_geti (pc := 4) dX10_judge_4 fi_X10_109 ?_
  refine sm_icmp_ge (pc := 7) (tgt := 81) dX10_judge_7 (by decide) ?_ ?_
  · refine sm_iconst (pc := 81) dX10_judge_81 (v := 0) (by decide) ?_
    refine sm_istore_n (pc := 82) (lv' := [(1, .int (0 : Int32)), (0, .ref (am_ad G 10 0))]) dX10_judge_82 rfl (by decide) rfl ?_
    refine sm_sub [1, 0] rfl ?_
    exact p_X10_judge_83_lp G l d hd0 N N (0 : Int32) μ
  · refine sm_aload_n (pc := 10) dX10_judge_10 rfl 0 rfl ?_
    refine sm_iload_n (pc := 11) dX10_judge_11 rfl 1 rfl ?_
    refine sm_callVi (pc := 12) (As := [.int x1]) (rest := []) dX10_judge_12 (c_X10_bestOf G l N x1 μ) (by omega) wl_X10_244 vm_X10_bestOf rfl rfl (Nat.le_of_ble_eq_true rfl) (fun y8 μ7 => ?_)
    refine sm_istore_n (pc := 15) (lv' := [(2, .int y8), (0, .ref (am_ad G 10 0)), (1, .int x1)]) dX10_judge_15 rfl (by decide) rfl ?_
    refine sm_aload_n (pc := 16) dX10_judge_16 rfl 1 rfl ?_
    refine sm_aload_n (pc := 17) dX10_judge_17 rfl 1 rfl ?_
    refine sm_aload_n (pc := 18) dX10_judge_18 rfl 1 rfl ?_
    refine sm_getr (pc := 19) dX10_judge_19 fi_X10_34 ?_
    refine sm_iload_n (pc := 22) dX10_judge_22 rfl 2 rfl ?_
    refine sm_iald (pc := 23) dX10_judge_23 ly_172 (by decide) (fun j9 hj9 => ?_)
    refine sm_callVi (pc := 24) (As := [.int (μ7.1 172 0 j9)]) (rest := [.ref (am_ad G 10 0)]) dX10_judge_24 (c_X10_packed G l N (μ7.1 172 0 j9) μ7) (by omega) wl_X10_291 vm_X10_packed rfl rfl (Nat.le_of_ble_eq_true rfl) (fun y11 μ10 => ?_)
    refine sm_callVv (pc := 27) (As := [.int y11]) (rest := []) dX10_judge_27 (c_X10_unpack G l N y11 μ10) (by omega) wl_X10_229 vm_X10_unpack rfl rfl (Nat.le_of_ble_eq_true rfl) (fun _ μ12 => ?_)
    refine sm_aload_n (pc := 30) dX10_judge_30 rfl 1 rfl ?_
    refine sm_geti (pc := 31) dX10_judge_31 fi_X10_216 ?_
    refine sm_aload_n (pc := 34) dX10_judge_34 rfl 1 rfl ?_
    refine sm_iload_n (pc := 35) dX10_judge_35 rfl 2 rfl ?_
    refine sm_callVi (pc := 36) (As := [.int x1]) (rest := [.int (μ12.1 10 0 27)]) dX10_judge_36 (c_X10_purseOf G l N x1 μ12) (by omega) wl_X10_149 vm_X10_purseOf rfl rfl (Nat.le_of_ble_eq_true rfl) (fun y14 μ13 => ?_)
    refine sm_icmp_gt (pc := 39) (tgt := 54) dX10_judge_39 (by decide) ?_ ?_
    · refine sm_sub [1, 2] rfl ?_
      exact p_X10_judge_54 G l d hd0 N x1 μ13
    · refine sm_aload_n (pc := 42) dX10_judge_42 rfl 1 rfl ?_
      refine sm_geti (pc := 43) dX10_judge_43 fi_X10_219 ?_
      refine sm_aload_n (pc := 46) dX10_judge_46 rfl 1 rfl ?_
      refine sm_iload_n (pc := 47) dX10_judge_47 rfl 2 rfl ?_
      refine sm_callVi (pc := 48) (As := [.int x1]) (rest := [.int (μ13.1 10 0 28)]) dX10_judge_48 (c_X10_pointsInAll G l N x1 μ13) (by omega) wl_X10_153 vm_X10_pointsInAll rfl rfl (Nat.le_of_ble_eq_true rfl) (fun y16 μ15 => ?_)
      refine sm_icmp_le (pc := 51) (tgt := 59) dX10_judge_51 (by decide) ?_ ?_
      · refine sm_aload_n (pc := 59) dX10_judge_59 rfl 1 rfl ?_
        refine sm_geti (pc := 60) dX10_judge_60 fi_X10_213 ?_
        refine sm_aload_n (pc := 63) dX10_judge_63 rfl 1 rfl ?_
        refine sm_geti (pc := 64) dX10_judge_64 fi_X10_232 ?_
        refine sm_icmp_ge (pc := 67) (tgt := 75) dX10_judge_67 (by decide) ?_ ?_
        · refine sm_iinc (pc := 75) (v := (x1 + (1 : Int32))) (lv' := [(1, .int (x1 + (1 : Int32))), (2, .int y8), (0, .ref (am_ad G 10 0))]) dX10_judge_75 2 rfl rfl (by decide) rfl ?_
          refine sm_goto (pc := 78) (tgt := 2) dX10_judge_78 (by decide) ?_
          refine sm_sub [2, 0] rfl ?_
          exact H_2 (x1 + (1 : Int32)) μ15
        · refine sm_bipush (pc := 70) dX10_judge_70 (v := 20) (by decide) ?_
          refine sm_iload_n (pc := 72) dX10_judge_72 rfl 2 rfl ?_
          refine sm_iadd (pc := 73) dX10_judge_73 ?_
          exact sm_iret (pc := 74) dX10_judge_74 rfl
      · refine sm_sub [1, 2] rfl ?_
        exact p_X10_judge_54 G l d hd0 N x1 μ15
theorem p_X10_judge_2_lp (G : am_G) (l : Launch) (d : Nat) (hd0 : 108 ≤ d) (N : Nat) : ∀ (n : Nat) (x1 : Int32) (μ : am_M), sm_P G l am_ci d me_X10_judge 2 [(0, .ref (am_ad G 10 0)), (1, .int x1)] [] μ (f_X10_judge_2_lp N n x1 μ) := by
  intro n
  induction n with
  | zero => intros; exact sm_none
  | succ n ih => exact fun x1 μ => p_X10_judge_2 G l d hd0 N (f_X10_judge_2_lp N n) ih x1 μ
set_option maxHeartbeats 4000000 in
set_option maxRecDepth 100000 in
theorem p_X10_judge_0 (G : am_G) (l : Launch) (d : Nat) (hd0 : 108 ≤ d) (N : Nat) (μ : am_M) : sm_P G l am_ci d me_X10_judge 0 [(0, .ref (am_ad G 10 0))] [] μ (f_X10_judge_0 N μ) := by
  unfold f_X10_judge_0
  refine sm_iconst (pc := 0) dX10_judge_0 (v := 0) (by decide) ?_
  refine sm_istore_n (pc := 1) (lv' := [(1, .int (0 : Int32)), (0, .ref (am_ad G 10 0))]) dX10_judge_1 rfl (by decide) rfl ?_
  refine sm_sub [1, 0] rfl ?_
  exact p_X10_judge_2_lp G l d hd0 N N (0 : Int32) μ
theorem c_X10_judge (G : am_G) (l : Launch) (N : Nat) (μ : am_M) : ct_P G l am_ci 108 me_X10_judge [.ref (am_ad G 10 0)] μ (f_X10_judge N μ) := ct_of (by decide +kernel) (Nat.le_of_ble_eq_true rfl) rfl (p_X10_judge_0 G l 108 (Nat.le_refl _) N μ)

def f_X10_findChanged_148 (N : Nat) (r_13 : Int32 → Int32 → Int32 → Int32 → Int32 → am_M → Option (Unit × am_M)) (x1 : Int32) (x2 : Int32) (x3 : Int32) (x4 : Int32) (x5 : Int32) (μ : am_M) : Option (Unit × am_M) :=
r_13 x1 x2 x3 x4 (x5 + (1 : Int32)) μ
def f_X10_findChanged_118 (N : Nat) (r_13 : Int32 → Int32 → Int32 → Int32 → Int32 → am_M → Option (Unit × am_M)) (x1 : Int32) (x2 : Int32) (x3 : Int32) (x4 : Int32) (x5 : Int32) (x6 : Int32) (s0 : Int32) (μ : am_M) : Option (Unit × am_M) :=
if s0 = 0 then (f_X10_findChanged_148 N r_13 x1 x2 x3 x4 x5 μ) else (am_nm (am_ui μ 10 0 42 (μ.1 10 0 26)) (fun μ10 => am_nm (am_ui μ10 10 0 43 (μ10.1 10 0 28)) (fun μ11 => f_X10_findChanged_148 N r_13 x1 x2 x5 x6 x5 μ11)))
def f_X10_findChanged_113 (N : Nat) (r_13 : Int32 → Int32 → Int32 → Int32 → Int32 → am_M → Option (Unit × am_M)) (x1 : Int32) (x2 : Int32) (x3 : Int32) (x4 : Int32) (x5 : Int32) (x6 : Int32) (μ : am_M) : Option (Unit × am_M) :=
f_X10_findChanged_118 N r_13 x1 x2 x3 x4 x5 x6 (1 : Int32) μ
def f_X10_findChanged_117 (N : Nat) (r_13 : Int32 → Int32 → Int32 → Int32 → Int32 → am_M → Option (Unit × am_M)) (x1 : Int32) (x2 : Int32) (x3 : Int32) (x4 : Int32) (x5 : Int32) (x6 : Int32) (μ : am_M) : Option (Unit × am_M) :=
f_X10_findChanged_118 N r_13 x1 x2 x3 x4 x5 x6 (0 : Int32) μ
def f_X10_findChanged_13 (N : Nat) (r_13 : Int32 → Int32 → Int32 → Int32 → Int32 → am_M → Option (Unit × am_M)) (x1 : Int32) (x2 : Int32) (x3 : Int32) (x4 : Int32) (x5 : Int32) (μ : am_M) : Option (Unit × am_M) :=
am_bd (f_X10_baskets N μ) (fun y3 μ2 => if y3 ≤ x5 then (some ((), μ2)) else (am_bd (f_X10_unpack N x5 μ2) (fun _ μ4 => am_nm ((μ4.1 10 0 27) + (x2 * (μ4.1 10 0 28))) (fun y5 => am_bd (f_X10_pointsInAll N x1 μ4) (fun y7 μ6 => am_bd (f_X10_purseOf N x1 μ6) (fun y9 μ8 => if (y5 - (x2 * y7)) ≤ y9 then (if x3 < 0 then (f_X10_findChanged_113 N r_13 x1 x2 x3 x4 x5 y5 μ8) else (if (μ8.1 10 0 42) < (μ8.1 10 0 26) then (f_X10_findChanged_113 N r_13 x1 x2 x3 x4 x5 y5 μ8) else (if (μ8.1 10 0 26) = (μ8.1 10 0 42) then (if y5 < x4 then (f_X10_findChanged_113 N r_13 x1 x2 x3 x4 x5 y5 μ8) else (if y5 = x4 then (if (μ8.1 10 0 43) ≤ (μ8.1 10 0 28) then (f_X10_findChanged_117 N r_13 x1 x2 x3 x4 x5 y5 μ8) else (f_X10_findChanged_113 N r_13 x1 x2 x3 x4 x5 y5 μ8)) else (f_X10_findChanged_117 N r_13 x1 x2 x3 x4 x5 y5 μ8))) else (f_X10_findChanged_117 N r_13 x1 x2 x3 x4 x5 y5 μ8)))) else (f_X10_findChanged_148 N r_13 x1 x2 x3 x4 x5 μ8)))))))
def f_X10_findChanged_13_lp (N : Nat) : Nat → Int32 → Int32 → Int32 → Int32 → Int32 → am_M → Option (Unit × am_M)
  | 0, _, _, _, _, _, _ => none
  | n + 1, x1, x2, x3, x4, x5, μ => f_X10_findChanged_13 N (f_X10_findChanged_13_lp N n) x1 x2 x3 x4 x5 μ
def f_X10_findChanged_0 (N : Nat) (a1 : Int32) (a2 : Int32) (μ : am_M) : Option (Unit × am_M) :=
am_bd (f_X10_layWorths N a1 μ) (fun _ μ1 => f_X10_findChanged_13_lp N N a1 a2 (-1 : Int32) (0 : Int32) (0 : Int32) μ1)
def f_X10_findChanged (N : Nat) (a1 : Int32) (a2 : Int32) (μ : am_M) : Option (Unit × am_M) := f_X10_findChanged_0 N a1 a2 μ
set_option maxHeartbeats 4000000 in
set_option maxRecDepth 100000 in
theorem p_X10_findChanged_148 (G : am_G) (l : Launch) (d : Nat) (hd0 : 106 ≤ d) (N : Nat) (r_13 : Int32 → Int32 → Int32 → Int32 → Int32 → am_M → Option (Unit × am_M)) (H_13 : ∀ (x1 : Int32) (x2 : Int32) (x3 : Int32) (x4 : Int32) (x5 : Int32) (μ : am_M), sm_P G l am_cu d me_X10_findChanged 13 [(0, .ref (am_ad G 10 0)), (1, .int x1), (2, .int x2), (3, .int x3), (4, .int x4), (5, .int x5)] [] μ (r_13 x1 x2 x3 x4 x5 μ)) (x1 : Int32) (x2 : Int32) (x3 : Int32) (x4 : Int32) (x5 : Int32) (μ : am_M) : sm_P G l am_cu d me_X10_findChanged 148 [(0, .ref (am_ad G 10 0)), (1, .int x1), (2, .int x2), (3, .int x3), (4, .int x4), (5, .int x5)] [] μ (f_X10_findChanged_148 N r_13 x1 x2 x3 x4 x5 μ) := by
  unfold f_X10_findChanged_148
  refine sm_iinc (pc := 148) (v := (x5 + (1 : Int32))) (lv' := [(5, .int (x5 + (1 : Int32))), (0, .ref (am_ad G 10 0)), (1, .int x1), (2, .int x2), (3, .int x3), (4, .int x4)]) dX10_findChanged_148 5 rfl rfl (by decide) rfl ?_
  refine sm_goto (pc := 151) (tgt := 13) dX10_findChanged_151 (by decide) ?_
  refine sm_sub [1, 2, 3, 4, 5, 0] rfl ?_
  exact H_13 x1 x2 x3 x4 (x5 + (1 : Int32)) μ
set_option maxHeartbeats 4000000 in
set_option maxRecDepth 100000 in
theorem p_X10_findChanged_118 (G : am_G) (l : Launch) (d : Nat) (hd0 : 106 ≤ d) (N : Nat) (r_13 : Int32 → Int32 → Int32 → Int32 → Int32 → am_M → Option (Unit × am_M)) (H_13 : ∀ (x1 : Int32) (x2 : Int32) (x3 : Int32) (x4 : Int32) (x5 : Int32) (μ : am_M), sm_P G l am_cu d me_X10_findChanged 13 [(0, .ref (am_ad G 10 0)), (1, .int x1), (2, .int x2), (3, .int x3), (4, .int x4), (5, .int x5)] [] μ (r_13 x1 x2 x3 x4 x5 μ)) (x1 : Int32) (x2 : Int32) (x3 : Int32) (x4 : Int32) (x5 : Int32) (x6 : Int32) (s0 : Int32) (μ : am_M) : sm_P G l am_cu d me_X10_findChanged 118 [(0, .ref (am_ad G 10 0)), (1, .int x1), (2, .int x2), (3, .int x3), (4, .int x4), (5, .int x5), (6, .int x6)] [.int s0] μ (f_X10_findChanged_118 N r_13 x1 x2 x3 x4 x5 x6 s0 μ) := by
  unfold f_X10_findChanged_118
  refine sm_istore (pc := 118) (lv' := [(7, .int s0), (0, .ref (am_ad G 10 0)), (1, .int x1), (2, .int x2), (3, .int x3), (4, .int x4), (5, .int x5), (6, .int x6)]) dX10_findChanged_118 (by decide) rfl ?_
  refine sm_iload (pc := 120) dX10_findChanged_120 0 rfl ?_
  refine sm_if_eq (pc := 122) (tgt := 148) dX10_findChanged_122 (by decide) ?_ ?_
  · refine sm_sub [1, 2, 3, 4, 5, 6] rfl ?_
    exact p_X10_findChanged_148 G l d hd0 N r_13 H_13 x1 x2 x3 x4 x5 μ
  · refine sm_iload (pc := 125) dX10_findChanged_125 6 rfl ?_
    refine sm_istore_n (pc := 127) (lv' := [(3, .int x5), (7, .int s0), (0, .ref (am_ad G 10 0)), (1, .int x1), (2, .int x2), (4, .int x4), (5, .int x5), (6, .int x6)]) dX10_findChanged_127 rfl (by decide) rfl ?_
    refine sm_iload (pc := 128) dX10_findChanged_128 7 rfl ?_
    refine sm_istore (pc := 130) (lv' := [(4, .int x6), (3, .int x5), (7, .int s0), (0, .ref (am_ad G 10 0)), (1, .int x1), (2, .int x2), (5, .int x5), (6, .int x6)]) dX10_findChanged_130 (by decide) rfl ?_
    refine sm_aload_n (pc := 132) dX10_findChanged_132 rfl 3 rfl ?_
    refine sm_aload_n (pc := 133) dX10_findChanged_133 rfl 3 rfl ?_
    refine sm_geti (pc := 134) dX10_findChanged_134 fi_X10_213 ?_
    refine sm_puti (pc := 137) dX10_findChanged_137 fi_X10_294 ?_
    refine sm_nmM (fun μ10 => ?_)
    refine sm_aload_n (pc := 140) dX10_findChanged_140 rfl 3 rfl ?_
    refine sm_aload_n (pc := 141) dX10_findChanged_141 rfl 3 rfl ?_
    refine sm_geti (pc := 142) dX10_findChanged_142 fi_X10_219 ?_
    refine sm_puti (pc := 145) dX10_findChanged_145 fi_X10_297 ?_
    refine sm_nmM (fun μ11 => ?_)
    refine sm_sub [3, 4, 5, 1, 0, 6] rfl ?_
    exact p_X10_findChanged_148 G l d hd0 N r_13 H_13 x1 x2 x5 x6 x5 μ11
set_option maxHeartbeats 4000000 in
set_option maxRecDepth 100000 in
theorem p_X10_findChanged_113 (G : am_G) (l : Launch) (d : Nat) (hd0 : 106 ≤ d) (N : Nat) (r_13 : Int32 → Int32 → Int32 → Int32 → Int32 → am_M → Option (Unit × am_M)) (H_13 : ∀ (x1 : Int32) (x2 : Int32) (x3 : Int32) (x4 : Int32) (x5 : Int32) (μ : am_M), sm_P G l am_cu d me_X10_findChanged 13 [(0, .ref (am_ad G 10 0)), (1, .int x1), (2, .int x2), (3, .int x3), (4, .int x4), (5, .int x5)] [] μ (r_13 x1 x2 x3 x4 x5 μ)) (x1 : Int32) (x2 : Int32) (x3 : Int32) (x4 : Int32) (x5 : Int32) (x6 : Int32) (μ : am_M) : sm_P G l am_cu d me_X10_findChanged 113 [(0, .ref (am_ad G 10 0)), (1, .int x1), (2, .int x2), (3, .int x3), (4, .int x4), (5, .int x5), (6, .int x6)] [] μ (f_X10_findChanged_113 N r_13 x1 x2 x3 x4 x5 x6 μ) := by
  unfold f_X10_findChanged_113
  refine sm_iconst (pc := 113) dX10_findChanged_113 (v := 1) (by decide) ?_
  refine sm_goto (pc := 114) (tgt := 118) dX10_findChanged_114 (by decide) ?_
  exact p_X10_findChanged_118 G l d hd0 N r_13 H_13 x1 x2 x3 x4 x5 x6 (1 : Int32) μ
set_option maxHeartbeats 4000000 in
set_option maxRecDepth 100000 in
theorem p_X10_findChanged_117 (G : am_G) (l : Launch) (d : Nat) (hd0 : 106 ≤ d) (N : Nat) (r_13 : Int32 → Int32 → Int32 → Int32 → Int32 → am_M → Option (Unit × am_M)) (H_13 : ∀ (x1 : Int32) (x2 : Int32) (x3 : Int32) (x4 : Int32) (x5 : Int32) (μ : am_M), sm_P G l am_cu d me_X10_findChanged 13 [(0, .ref (am_ad G 10 0)), (1, .int x1), (2, .int x2), (3, .int x3), (4, .int x4), (5, .int x5)] [] μ (r_13 x1 x2 x3 x4 x5 μ)) (x1 : Int32) (x2 : Int32) (x3 : Int32) (x4 : Int32) (x5 : Int32) (x6 : Int32) (μ : am_M) : sm_P G l am_cu d me_X10_findChanged 117 [(0, .ref (am_ad G 10 0)), (1, .int x1), (2, .int x2), (3, .int x3), (4, .int x4), (5, .int x5), (6, .int x6)] [] μ (f_X10_findChanged_117 N r_13 x1 x2 x3 x4 x5 x6 μ) := by
  unfold f_X10_findChanged_117
  refine sm_iconst (pc := 117) dX10_findChanged_117 (v := 0) (by decide) ?_
  exact p_X10_findChanged_118 G l d hd0 N r_13 H_13 x1 x2 x3 x4 x5 x6 (0 : Int32) μ
set_option maxHeartbeats 4000000 in
set_option maxRecDepth 100000 in
theorem p_X10_findChanged_13 (G : am_G) (l : Launch) (d : Nat) (hd0 : 106 ≤ d) (N : Nat) (r_13 : Int32 → Int32 → Int32 → Int32 → Int32 → am_M → Option (Unit × am_M)) (H_13 : ∀ (x1 : Int32) (x2 : Int32) (x3 : Int32) (x4 : Int32) (x5 : Int32) (μ : am_M), sm_P G l am_cu d me_X10_findChanged 13 [(0, .ref (am_ad G 10 0)), (1, .int x1), (2, .int x2), (3, .int x3), (4, .int x4), (5, .int x5)] [] μ (r_13 x1 x2 x3 x4 x5 μ)) (x1 : Int32) (x2 : Int32) (x3 : Int32) (x4 : Int32) (x5 : Int32) (μ : am_M) : sm_P G l am_cu d me_X10_findChanged 13 [(0, .ref (am_ad G 10 0)), (1, .int x1), (2, .int x2), (3, .int x3), (4, .int x4), (5, .int x5)] [] μ (f_X10_findChanged_13 N r_13 x1 x2 x3 x4 x5 μ) := by
  unfold f_X10_findChanged_13
  refine sm_iload (pc := 13) dX10_findChanged_13 5 rfl ?_
  refine sm_aload_n (pc := 15) dX10_findChanged_15 rfl 0 rfl ?_
  refine sm_callVi (pc := 16) (As := []) (rest := [.int x5]) dX10_findChanged_16 (c_X10_baskets G l N μ) (by omega) wl_X10_226 vm_X10_baskets rfl rfl (Nat.le_of_ble_eq_true rfl) (fun y3 μ2 => ?_)
  refine sm_icmp_ge (pc := 19) (tgt := 154) dX10_findChanged_19 (by decide) ?_ ?_
  · exact sm_vret (pc := 154) dX10_findChanged_154 rfl
  · refine sm_aload_n (pc := 22) dX10_findChanged_22 rfl 0 rfl ?_
    refine sm_iload (pc := 23) dX10_findChanged_23 5 rfl ?_
    refine sm_callVv (pc := 25) (As := [.int x5]) (rest := []) dX10_findChanged_25 (c_X10_unpack G l N x5 μ2) (by omega) wl_X10_229 vm_X10_unpack rfl rfl (Nat.le_of_ble_eq_true rfl) (fun _ μ4 => ?_)
    refine sm_aload_n (pc := 28) dX10_findChanged_28 rfl 0 rfl ?_
    refine sm_geti (pc := 29) dX10_findChanged_29 fi_X10_216 ?_
    refine sm_iload_n (pc := 32) dX10_findChanged_32 rfl 2 rfl ?_
    refine sm_aload_n (pc := 33) dX10_findChanged_33 rfl 0 rfl ?_
    refine sm_geti (pc := 34) dX10_findChanged_34 fi_X10_219 ?_
    refine sm_imul (pc := 37) dX10_findChanged_37 ?_
    refine sm_iadd (pc := 38) dX10_findChanged_38 ?_
    refine sm_nmI (fun y5 => ?_)
    refine sm_istore (pc := 39) (lv' := [(6, .int y5), (0, .ref (am_ad G 10 0)), (1, .int x1), (2, .int x2), (3, .int x3), (4, .int x4), (5, .int x5)]) dX10_findChanged_39 (by decide) rfl ?_
    refine sm_iload (pc := 41) dX10_findChanged_41 0 rfl ?_
    refine sm_iload_n (pc := 43) dX10_findChanged_43 rfl 3 rfl ?_
    refine sm_aload_n (pc := 44) dX10_findChanged_44 rfl 1 rfl ?_
    refine sm_iload_n (pc := 45) dX10_findChanged_45 rfl 2 rfl ?_
    refine sm_callVi (pc := 46) (As := [.int x1]) (rest := [.int x2, .int y5]) dX10_findChanged_46 (c_X10_pointsInAll G l N x1 μ4) (by omega) wl_X10_153 vm_X10_pointsInAll rfl rfl (Nat.le_of_ble_eq_true rfl) (fun y7 μ6 => ?_)
    refine sm_imul (pc := 49) dX10_findChanged_49 ?_
    refine sm_isub (pc := 50) dX10_findChanged_50 ?_
    refine sm_aload_n (pc := 51) dX10_findChanged_51 rfl 1 rfl ?_
    refine sm_iload_n (pc := 52) dX10_findChanged_52 rfl 2 rfl ?_
    refine sm_callVi (pc := 53) (As := [.int x1]) (rest := [.int (y5 - (x2 * y7))]) dX10_findChanged_53 (c_X10_purseOf G l N x1 μ6) (by omega) wl_X10_149 vm_X10_purseOf rfl rfl (Nat.le_of_ble_eq_true rfl) (fun y9 μ8 => ?_)
    refine sm_icmp_le (pc := 56) (tgt := 62) dX10_findChanged_56 (by decide) ?_ ?_
    · refine sm_iload_n (pc := 62) dX10_findChanged_62 rfl 4 rfl ?_
      refine sm_if_lt (pc := 63) (tgt := 113) dX10_findChanged_63 (by decide) ?_ ?_
      · refine sm_sub [1, 2, 3, 4, 5, 6, 0] rfl ?_
        exact p_X10_findChanged_113 G l d hd0 N r_13 H_13 x1 x2 x3 x4 x5 y5 μ8
      · refine sm_aload_n (pc := 66) dX10_findChanged_66 rfl 1 rfl ?_
        refine sm_geti (pc := 67) dX10_findChanged_67 fi_X10_213 ?_
        refine sm_aload_n (pc := 70) dX10_findChanged_70 rfl 1 rfl ?_
        refine sm_geti (pc := 71) dX10_findChanged_71 fi_X10_294 ?_
        refine sm_icmp_gt (pc := 74) (tgt := 113) dX10_findChanged_74 (by decide) ?_ ?_
        · refine sm_sub [1, 2, 3, 4, 5, 6, 0] rfl ?_
          exact p_X10_findChanged_113 G l d hd0 N r_13 H_13 x1 x2 x3 x4 x5 y5 μ8
        · refine sm_aload_n (pc := 77) dX10_findChanged_77 rfl 1 rfl ?_
          refine sm_geti (pc := 78) dX10_findChanged_78 fi_X10_213 ?_
          refine sm_aload_n (pc := 81) dX10_findChanged_81 rfl 1 rfl ?_
          refine sm_geti (pc := 82) dX10_findChanged_82 fi_X10_294 ?_
          refine sm_icmp_ne (pc := 85) (tgt := 117) dX10_findChanged_85 (by decide) ?_ ?_
          · refine sm_sub [1, 2, 3, 4, 5, 6, 0] rfl ?_
            exact p_X10_findChanged_117 G l d hd0 N r_13 H_13 x1 x2 x3 x4 x5 y5 μ8
          · refine sm_iload (pc := 88) dX10_findChanged_88 0 rfl ?_
            refine sm_iload (pc := 90) dX10_findChanged_90 5 rfl ?_
            refine sm_icmp_lt (pc := 92) (tgt := 113) dX10_findChanged_92 (by decide) ?_ ?_
            · refine sm_sub [1, 2, 3, 4, 5, 6, 0] rfl ?_
              exact p_X10_findChanged_113 G l d hd0 N r_13 H_13 x1 x2 x3 x4 x5 y5 μ8
            · refine sm_iload (pc := 95) dX10_findChanged_95 0 rfl ?_
              refine sm_iload (pc := 97) dX10_findChanged_97 5 rfl ?_
              refine sm_icmp_ne (pc := 99) (tgt := 117) dX10_findChanged_99 (by decide) ?_ ?_
              · refine sm_sub [1, 2, 3, 4, 5, 6, 0] rfl ?_
                exact p_X10_findChanged_117 G l d hd0 N r_13 H_13 x1 x2 x3 x4 x5 y5 μ8
              · refine sm_aload_n (pc := 102) dX10_findChanged_102 rfl 1 rfl ?_
                refine sm_geti (pc := 103) dX10_findChanged_103 fi_X10_219 ?_
                refine sm_aload_n (pc := 106) dX10_findChanged_106 rfl 1 rfl ?_
                refine sm_geti (pc := 107) dX10_findChanged_107 fi_X10_297 ?_
                refine sm_icmp_ge (pc := 110) (tgt := 117) dX10_findChanged_110 (by decide) ?_ ?_
                · refine sm_sub [1, 2, 3, 4, 5, 6, 0] rfl ?_
                  exact p_X10_findChanged_117 G l d hd0 N r_13 H_13 x1 x2 x3 x4 x5 y5 μ8
                · refine sm_sub [1, 2, 3, 4, 5, 6, 0] rfl ?_
                  exact p_X10_findChanged_113 G l d hd0 N r_13 H_13 x1 x2 x3 x4 x5 y5 μ8
    · refine sm_goto (pc := 59) (tgt := 148) dX10_findChanged_59 (by decide) ?_
      refine sm_sub [1, 2, 3, 4, 5, 6] rfl ?_
      exact p_X10_findChanged_148 G l d hd0 N r_13 H_13 x1 x2 x3 x4 x5 μ8
theorem p_X10_findChanged_13_lp (G : am_G) (l : Launch) (d : Nat) (hd0 : 106 ≤ d) (N : Nat) : ∀ (n : Nat) (x1 : Int32) (x2 : Int32) (x3 : Int32) (x4 : Int32) (x5 : Int32) (μ : am_M), sm_P G l am_cu d me_X10_findChanged 13 [(0, .ref (am_ad G 10 0)), (1, .int x1), (2, .int x2), (3, .int x3), (4, .int x4), (5, .int x5)] [] μ (f_X10_findChanged_13_lp N n x1 x2 x3 x4 x5 μ) := by
  intro n
  induction n with
  | zero => intros; exact sm_none
  | succ n ih => exact fun x1 x2 x3 x4 x5 μ => p_X10_findChanged_13 G l d hd0 N (f_X10_findChanged_13_lp N n) ih x1 x2 x3 x4 x5 μ
set_option maxHeartbeats 4000000 in
set_option maxRecDepth 100000 in
theorem p_X10_findChanged_0 (G : am_G) (l : Launch) (d : Nat) (hd0 : 106 ≤ d) (N : Nat) (a1 : Int32) (a2 : Int32) (μ : am_M) : sm_P G l am_cu d me_X10_findChanged 0 [(0, .ref (am_ad G 10 0)), (1, .int a1), (2, .int a2)] [] μ (f_X10_findChanged_0 N a1 a2 μ) := by
  unfold f_X10_findChanged_0
  refine sm_aload_n (pc := 0) dX10_findChanged_0 rfl 0 rfl ?_
  refine sm_iload_n (pc := 1) dX10_findChanged_1 rfl 1 rfl ?_
  refine sm_callVv (pc := 2) (As := [.int a1]) (rest := []) dX10_findChanged_2 (c_X10_layWorths G l N a1 μ) (by omega) wl_X10_222 vm_X10_layWorths rfl rfl (Nat.le_of_ble_eq_true rfl) (fun _ μ1 => ?_)
  refine sm_iconst (pc := 5) dX10_findChanged_5 (v := -1) (by decide) ?_
  refine sm_istore_n (pc := 6) (lv' := [(3, .int (-1 : Int32)), (0, .ref (am_ad G 10 0)), (1, .int a1), (2, .int a2)]) dX10_findChanged_6 rfl (by decide) rfl ?_
  refine sm_iconst (pc := 7) dX10_findChanged_7 (v := 0) (by decide) ?_
  refine sm_istore (pc := 8) (lv' := [(4, .int (0 : Int32)), (3, .int (-1 : Int32)), (0, .ref (am_ad G 10 0)), (1, .int a1), (2, .int a2)]) dX10_findChanged_8 (by decide) rfl ?_
  refine sm_iconst (pc := 10) dX10_findChanged_10 (v := 0) (by decide) ?_
  refine sm_istore (pc := 11) (lv' := [(5, .int (0 : Int32)), (4, .int (0 : Int32)), (3, .int (-1 : Int32)), (0, .ref (am_ad G 10 0)), (1, .int a1), (2, .int a2)]) dX10_findChanged_11 (by decide) rfl ?_
  refine sm_sub [3, 4, 5, 2, 1, 0] rfl ?_
  exact p_X10_findChanged_13_lp G l d hd0 N N a1 a2 (-1 : Int32) (0 : Int32) (0 : Int32) μ1
theorem c_X10_findChanged (G : am_G) (l : Launch) (N : Nat) (a1 : Int32) (a2 : Int32) (μ : am_M) : ct_P G l am_cu 106 me_X10_findChanged [.ref (am_ad G 10 0), .int a1, .int a2] μ (f_X10_findChanged N a1 a2 μ) := ct_of (by decide +kernel) (Nat.le_of_ble_eq_true rfl) rfl (p_X10_findChanged_0 G l 106 (Nat.le_refl _) N a1 a2 μ)

def f_X10_isRate_0 (N : Nat) (a0 : Int32) (μ : am_M) : Option (Int32 × am_M) :=
am_bd (f_X10_within N a0.toInt64 (1 : Int64) (99 : Int64) μ) (fun y2 μ1 => am_z y2 μ1)
def f_X10_isRate (N : Nat) (a0 : Int32) (μ : am_M) : Option (Int32 × am_M) := f_X10_isRate_0 N a0 μ
set_option maxHeartbeats 4000000 in
set_option maxRecDepth 100000 in
theorem p_X10_isRate_0 (G : am_G) (l : Launch) (d : Nat) (hd0 : 1 ≤ d) (N : Nat) (a0 : Int32) (μ : am_M) : sm_P G l am_ci d me_X10_isRate 0 [(0, .int a0)] [] μ (f_X10_isRate_0 N a0 μ) := by
  unfold f_X10_isRate_0
  refine sm_iload_n (pc := 0) dX10_isRate_0 rfl 0 rfl ?_
  refine sm_i2l (pc := 1) dX10_isRate_1 ?_
  refine sm_lconst (pc := 2) dX10_isRate_2 (v := 1) (by decide) ?_
  refine sm_ldc2 (pc := 3) dX10_isRate_3 (v := 99) wk_X10_112 ?_
  refine sm_callSi (pc := 6) (As := [.long a0.toInt64, .long (1 : Int64), .long (99 : Int64)]) (rest := []) dX10_isRate_6 (c_X10_within G l N a0.toInt64 (1 : Int64) (99 : Int64) μ) (by omega) wl_X10_105 st_X10_within rfl rfl (Nat.le_of_ble_eq_true rfl) (fun y2 μ1 => ?_)
  exact sm_zret (pc := 9) dX10_isRate_9 rfl
theorem c_X10_isRate (G : am_G) (l : Launch) (N : Nat) (a0 : Int32) (μ : am_M) : ct_P G l am_ci 1 me_X10_isRate [.int a0] μ (f_X10_isRate N a0 μ) := ct_of (by decide +kernel) (Nat.le_of_ble_eq_true rfl) rfl (p_X10_isRate_0 G l 1 (Nat.le_refl _) N a0 μ)

def f_X10_changed_0 (N : Nat) (a1 : Int32) (a2 : Int32) (a3 : Int32) (μ : am_M) : Option (Int32 × am_M) :=
am_bd (f_X10_isSort N a1 μ) (fun y2 μ1 => if y2 = 0 then (some ((-1 : Int32), μ1)) else (am_bd (f_X10_isRate N a2 μ1) (fun y4 μ3 => if y4 = 0 then (some ((-1 : Int32), μ3)) else (am_bd (f_X10_within N a3.toInt64 (0 : Int64) (1 : Int64) μ3) (fun y6 μ5 => if y6 = 0 then (some ((-1 : Int32), μ5)) else (am_bd (f_X10_bestOf N a1 μ5) (fun y8 μ7 => am_bd (f_X10_findChanged N a1 a2 μ7) (fun _ μ9 => if a3 = 0 then (some ((μ9.1 10 0 42), μ9)) else (some (((μ9.1 10 0 42) - (μ9.1 10 0 30)), μ9))))))))))
def f_X10_changed (N : Nat) (a1 : Int32) (a2 : Int32) (a3 : Int32) (μ : am_M) : Option (Int32 × am_M) := f_X10_changed_0 N a1 a2 a3 μ
set_option maxHeartbeats 4000000 in
set_option maxRecDepth 100000 in
theorem p_X10_changed_0 (G : am_G) (l : Launch) (d : Nat) (hd0 : 108 ≤ d) (N : Nat) (a1 : Int32) (a2 : Int32) (a3 : Int32) (μ : am_M) : sm_P G l am_ci d me_X10_changed 0 [(0, .ref (am_ad G 10 0)), (1, .int a1), (2, .int a2), (3, .int a3)] [] μ (f_X10_changed_0 N a1 a2 a3 μ) := by
  unfold f_X10_changed_0
  refine sm_aload_n (pc := 0) dX10_changed_0 rfl 0 rfl ?_
  refine sm_iload_n (pc := 1) dX10_changed_1 rfl 1 rfl ?_
  refine sm_callVi (pc := 2) (As := [.int a1]) (rest := []) dX10_changed_2 (c_X10_isSort G l N a1 μ) (by omega) wl_X10_144 vm_X10_isSort rfl rfl (Nat.le_of_ble_eq_true rfl) (fun y2 μ1 => ?_)
  refine sm_if_eq (pc := 5) (tgt := 25) dX10_changed_5 (by decide) ?_ ?_
  · refine sm_iconst (pc := 25) dX10_changed_25 (v := -1) (by decide) ?_
    exact sm_iret (pc := 26) dX10_changed_26 rfl
  · refine sm_iload_n (pc := 8) dX10_changed_8 rfl 2 rfl ?_
    refine sm_callSi (pc := 9) (As := [.int a2]) (rest := []) dX10_changed_9 (c_X10_isRate G l N a2 μ1) (by omega) wl_X10_300 st_X10_isRate rfl rfl (Nat.le_of_ble_eq_true rfl) (fun y4 μ3 => ?_)
    refine sm_if_eq (pc := 12) (tgt := 25) dX10_changed_12 (by decide) ?_ ?_
    · refine sm_iconst (pc := 25) dX10_changed_25 (v := -1) (by decide) ?_
      exact sm_iret (pc := 26) dX10_changed_26 rfl
    · refine sm_iload_n (pc := 15) dX10_changed_15 rfl 3 rfl ?_
      refine sm_i2l (pc := 16) dX10_changed_16 ?_
      refine sm_lconst (pc := 17) dX10_changed_17 (v := 0) (by decide) ?_
      refine sm_lconst (pc := 18) dX10_changed_18 (v := 1) (by decide) ?_
      refine sm_callSi (pc := 19) (As := [.long a3.toInt64, .long (0 : Int64), .long (1 : Int64)]) (rest := []) dX10_changed_19 (c_X10_within G l N a3.toInt64 (0 : Int64) (1 : Int64) μ3) (by omega) wl_X10_105 st_X10_within rfl rfl (Nat.le_of_ble_eq_true rfl) (fun y6 μ5 => ?_)
      refine sm_if_ne (pc := 22) (tgt := 27) dX10_changed_22 (by decide) ?_ ?_
      · refine sm_aload_n (pc := 27) dX10_changed_27 rfl 0 rfl ?_
        refine sm_iload_n (pc := 28) dX10_changed_28 rfl 1 rfl ?_
        refine sm_callVi (pc := 29) (As := [.int a1]) (rest := []) dX10_changed_29 (c_X10_bestOf G l N a1 μ5) (by omega) wl_X10_244 vm_X10_bestOf rfl rfl (Nat.le_of_ble_eq_true rfl) (fun y8 μ7 => ?_)
        refine sm_istore (pc := 32) (lv' := [(4, .int y8), (0, .ref (am_ad G 10 0)), (1, .int a1), (2, .int a2), (3, .int a3)]) dX10_changed_32 (by decide) rfl ?_
        refine sm_aload_n (pc := 34) dX10_changed_34 rfl 1 rfl ?_
        refine sm_iload_n (pc := 35) dX10_changed_35 rfl 2 rfl ?_
        refine sm_iload_n (pc := 36) dX10_changed_36 rfl 3 rfl ?_
        refine sm_callVv (pc := 37) (As := [.int a1, .int a2]) (rest := []) dX10_changed_37 (c_X10_findChanged G l N a1 a2 μ7) (by omega) wl_X10_303 vm_X10_findChanged rfl rfl (Nat.le_of_ble_eq_true rfl) (fun _ μ9 => ?_)
        refine sm_iload_n (pc := 40) dX10_changed_40 rfl 4 rfl ?_
        refine sm_if_ne (pc := 41) (tgt := 51) dX10_changed_41 (by decide) ?_ ?_
        · refine sm_aload_n (pc := 51) dX10_changed_51 rfl 1 rfl ?_
          refine sm_geti (pc := 52) dX10_changed_52 fi_X10_294 ?_
          refine sm_aload_n (pc := 55) dX10_changed_55 rfl 1 rfl ?_
          refine sm_geti (pc := 56) dX10_changed_56 fi_X10_232 ?_
          refine sm_isub (pc := 59) dX10_changed_59 ?_
          exact sm_iret (pc := 60) dX10_changed_60 rfl
        · refine sm_aload_n (pc := 44) dX10_changed_44 rfl 1 rfl ?_
          refine sm_geti (pc := 45) dX10_changed_45 fi_X10_294 ?_
          refine sm_goto (pc := 48) (tgt := 60) dX10_changed_48 (by decide) ?_
          exact sm_iret (pc := 60) dX10_changed_60 rfl
      · refine sm_iconst (pc := 25) dX10_changed_25 (v := -1) (by decide) ?_
        exact sm_iret (pc := 26) dX10_changed_26 rfl
theorem c_X10_changed (G : am_G) (l : Launch) (N : Nat) (a1 : Int32) (a2 : Int32) (a3 : Int32) (μ : am_M) : ct_P G l am_ci 108 me_X10_changed [.ref (am_ad G 10 0), .int a1, .int a2, .int a3] μ (f_X10_changed N a1 a2 a3 μ) := ct_of (by decide +kernel) (Nat.le_of_ble_eq_true rfl) rfl (p_X10_changed_0 G l 108 (Nat.le_refl _) N a1 a2 a3 μ)

def f_X10_free_12 (N : Nat) (r_2 : Int32 → am_M → Option (Int32 × am_M)) (r_12 : Int32 → Int32 → Int32 → am_M → Option (Int32 × am_M)) (x1 : Int32) (x2 : Int32) (x3 : Int32) (μ : am_M) : Option (Int32 × am_M) :=
if (μ.1 10 0 8) ≤ x3 then (if 0 < x2 then (r_2 (x1 + (1 : Int32)) μ) else (some (x1, μ))) else (am_bd (f_X10_findChanged N x3 x1 μ) (fun _ μ1 => am_gd x3 5 (fun j2 => am_bd (f_X10_pointsInAll N x3 μ1) (fun y4 μ3 => am_nm (x2 + ((μ1.1 169 0 j2) * ((μ1.1 10 0 43) - y4))) (fun y5 => r_12 x1 y5 (x3 + (1 : Int32)) μ3)))))
def f_X10_free_12_lp (N : Nat) (r_2 : Int32 → am_M → Option (Int32 × am_M)) : Nat → Int32 → Int32 → Int32 → am_M → Option (Int32 × am_M)
  | 0, _, _, _, _ => none
  | n + 1, x1, x2, x3, μ => f_X10_free_12 N r_2 (f_X10_free_12_lp N r_2 n) x1 x2 x3 μ
def f_X10_free_2 (N : Nat) (r_2 : Int32 → am_M → Option (Int32 × am_M)) (x1 : Int32) (μ : am_M) : Option (Int32 × am_M) :=
if (99 : Int32) < x1 then (some ((-2 : Int32), μ)) else (f_X10_free_12_lp N r_2 N x1 (0 : Int32) (0 : Int32) μ)
def f_X10_free_2_lp (N : Nat) : Nat → Int32 → am_M → Option (Int32 × am_M)
  | 0, _, _ => none
  | n + 1, x1, μ => f_X10_free_2 N (f_X10_free_2_lp N n) x1 μ
def f_X10_free_0 (N : Nat) (μ : am_M) : Option (Int32 × am_M) :=
f_X10_free_2_lp N N (1 : Int32) μ
def f_X10_free (N : Nat) (μ : am_M) : Option (Int32 × am_M) := f_X10_free_0 N μ
set_option maxHeartbeats 4000000 in
set_option maxRecDepth 100000 in
theorem p_X10_free_12 (G : am_G) (l : Launch) (d : Nat) (hd0 : 107 ≤ d) (N : Nat) (r_2 : Int32 → am_M → Option (Int32 × am_M)) (r_12 : Int32 → Int32 → Int32 → am_M → Option (Int32 × am_M)) (H_2 : ∀ (x1 : Int32) (μ : am_M), sm_P G l am_ci d me_X10_free 2 [(0, .ref (am_ad G 10 0)), (1, .int x1)] [] μ (r_2 x1 μ)) (H_12 : ∀ (x1 : Int32) (x2 : Int32) (x3 : Int32) (μ : am_M), sm_P G l am_ci d me_X10_free 12 [(0, .ref (am_ad G 10 0)), (1, .int x1), (2, .int x2), (3, .int x3)] [] μ (r_12 x1 x2 x3 μ)) (x1 : Int32) (x2 : Int32) (x3 : Int32) (μ : am_M) : sm_P G l am_ci d me_X10_free 12 [(0, .ref (am_ad G 10 0)), (1, .int x1), (2, .int x2), (3, .int x3)] [] μ (f_X10_free_12 N r_2 r_12 x1 x2 x3 μ) := by
  unfold f_X10_free_12
  refine sm_iload_n (pc := 12) dX10_free_12 rfl 3 rfl ?_
  refine sm_aload_n (pc := 13) dX10_free_13 rfl 0 rfl ?_
  refine sm_geti (pc := 14) dX10_free_14 fi_X10_109 ?_
  refine sm_icmp_ge (pc := 17) (tgt := 52) dX10_free_17 (by decide) ?_ ?_
  · refine sm_iload_n (pc := 52) dX10_free_52 rfl 2 rfl ?_
    refine sm_if_gt (pc := 53) (tgt := 58) dX10_free_53 (by decide) ?_ ?_
    · refine sm_iinc (pc := 58) (v := (x1 + (1 : Int32))) (lv' := [(1, .int (x1 + (1 : Int32))), (0, .ref (am_ad G 10 0)), (2, .int x2), (3, .int x3)]) dX10_free_58 1 rfl rfl (by decide) rfl ?_
      refine sm_goto (pc := 61) (tgt := 2) dX10_free_61 (by decide) ?_
      refine sm_sub [1, 0] rfl ?_
      exact H_2 (x1 + (1 : Int32)) μ
    · refine sm_iload_n (pc := 56) dX10_free_56 rfl 1 rfl ?_
      exact sm_iret (pc := 57) dX10_free_57 rfl
  · refine sm_aload_n (pc := 20) dX10_free_20 rfl 0 rfl ?_
    refine sm_iload_n (pc := 21) dX10_free_21 rfl 3 rfl ?_
    refine sm_iload_n (pc := 22) dX10_free_22 rfl 1 rfl ?_
    refine sm_callVv (pc := 23) (As := [.int x3, .int x1]) (rest := []) dX10_free_23 (c_X10_findChanged G l N x3 x1 μ) (by omega) wl_X10_303 vm_X10_findChanged rfl rfl (Nat.le_of_ble_eq_true rfl) (fun _ μ1 => ?_)
    refine sm_iload_n (pc := 26) dX10_free_26 rfl 2 rfl ?_
    refine sm_aload_n (pc := 27) dX10_free_27 rfl 0 rfl ?_
    refine sm_getr (pc := 28) dX10_free_28 fi_X10_25 ?_
    refine sm_iload_n (pc := 31) dX10_free_31 rfl 3 rfl ?_
    refine sm_iald (pc := 32) dX10_free_32 ly_169 (by decide) (fun j2 hj2 => ?_)
    refine sm_aload_n (pc := 33) dX10_free_33 rfl 0 rfl ?_
    refine sm_geti (pc := 34) dX10_free_34 fi_X10_297 ?_
    refine sm_aload_n (pc := 37) dX10_free_37 rfl 0 rfl ?_
    refine sm_iload_n (pc := 38) dX10_free_38 rfl 3 rfl ?_
    refine sm_callVi (pc := 39) (As := [.int x3]) (rest := [.int (μ1.1 10 0 43), .int (μ1.1 169 0 j2), .int x2]) dX10_free_39 (c_X10_pointsInAll G l N x3 μ1) (by omega) wl_X10_153 vm_X10_pointsInAll rfl rfl (Nat.le_of_ble_eq_true rfl) (fun y4 μ3 => ?_)
    refine sm_isub (pc := 42) dX10_free_42 ?_
    refine sm_imul (pc := 43) dX10_free_43 ?_
    refine sm_iadd (pc := 44) dX10_free_44 ?_
    refine sm_nmI (fun y5 => ?_)
    refine sm_istore_n (pc := 45) (lv' := [(2, .int y5), (0, .ref (am_ad G 10 0)), (1, .int x1), (3, .int x3)]) dX10_free_45 rfl (by decide) rfl ?_
    refine sm_iinc (pc := 46) (v := (x3 + (1 : Int32))) (lv' := [(3, .int (x3 + (1 : Int32))), (2, .int y5), (0, .ref (am_ad G 10 0)), (1, .int x1)]) dX10_free_46 3 rfl rfl (by decide) rfl ?_
    refine sm_goto (pc := 49) (tgt := 12) dX10_free_49 (by decide) ?_
    refine sm_sub [2, 3, 1, 0] rfl ?_
    exact H_12 x1 y5 (x3 + (1 : Int32)) μ3
theorem p_X10_free_12_lp (G : am_G) (l : Launch) (d : Nat) (hd0 : 107 ≤ d) (N : Nat) (r_2 : Int32 → am_M → Option (Int32 × am_M)) (H_2 : ∀ (x1 : Int32) (μ : am_M), sm_P G l am_ci d me_X10_free 2 [(0, .ref (am_ad G 10 0)), (1, .int x1)] [] μ (r_2 x1 μ)) : ∀ (n : Nat) (x1 : Int32) (x2 : Int32) (x3 : Int32) (μ : am_M), sm_P G l am_ci d me_X10_free 12 [(0, .ref (am_ad G 10 0)), (1, .int x1), (2, .int x2), (3, .int x3)] [] μ (f_X10_free_12_lp N r_2 n x1 x2 x3 μ) := by
  intro n
  induction n with
  | zero => intros; exact sm_none
  | succ n ih => exact fun x1 x2 x3 μ => p_X10_free_12 G l d hd0 N r_2 (f_X10_free_12_lp N r_2 n) H_2 ih x1 x2 x3 μ
set_option maxHeartbeats 4000000 in
set_option maxRecDepth 100000 in
theorem p_X10_free_2 (G : am_G) (l : Launch) (d : Nat) (hd0 : 107 ≤ d) (N : Nat) (r_2 : Int32 → am_M → Option (Int32 × am_M)) (H_2 : ∀ (x1 : Int32) (μ : am_M), sm_P G l am_ci d me_X10_free 2 [(0, .ref (am_ad G 10 0)), (1, .int x1)] [] μ (r_2 x1 μ)) (x1 : Int32) (μ : am_M) : sm_P G l am_ci d me_X10_free 2 [(0, .ref (am_ad G 10 0)), (1, .int x1)] [] μ (f_X10_free_2 N r_2 x1 μ) := by
  unfold f_X10_free_2
  refine sm_iload_n (pc := 2) dX10_free_2 rfl 1 rfl ?_
  refine sm_bipush (pc := 3) dX10_free_3 (v := 99) (by decide) ?_
  refine sm_icmp_gt (pc := 5) (tgt := 64) dX10_free_5 (by decide) ?_ ?_
  · refine sm_bipush (pc := 64) dX10_free_64 (v := -2) (by decide) ?_
    exact sm_iret (pc := 66) dX10_free_66 rfl
  · refine sm_iconst (pc := 8) dX10_free_8 (v := 0) (by decide) ?_
    refine sm_istore_n (pc := 9) (lv' := [(2, .int (0 : Int32)), (0, .ref (am_ad G 10 0)), (1, .int x1)]) dX10_free_9 rfl (by decide) rfl ?_
    refine sm_iconst (pc := 10) dX10_free_10 (v := 0) (by decide) ?_
    refine sm_istore_n (pc := 11) (lv' := [(3, .int (0 : Int32)), (2, .int (0 : Int32)), (0, .ref (am_ad G 10 0)), (1, .int x1)]) dX10_free_11 rfl (by decide) rfl ?_
    refine sm_sub [2, 3, 1, 0] rfl ?_
    exact p_X10_free_12_lp G l d hd0 N r_2 H_2 N x1 (0 : Int32) (0 : Int32) μ
theorem p_X10_free_2_lp (G : am_G) (l : Launch) (d : Nat) (hd0 : 107 ≤ d) (N : Nat) : ∀ (n : Nat) (x1 : Int32) (μ : am_M), sm_P G l am_ci d me_X10_free 2 [(0, .ref (am_ad G 10 0)), (1, .int x1)] [] μ (f_X10_free_2_lp N n x1 μ) := by
  intro n
  induction n with
  | zero => intros; exact sm_none
  | succ n ih => exact fun x1 μ => p_X10_free_2 G l d hd0 N (f_X10_free_2_lp N n) ih x1 μ
set_option maxHeartbeats 4000000 in
set_option maxRecDepth 100000 in
theorem p_X10_free_0 (G : am_G) (l : Launch) (d : Nat) (hd0 : 107 ≤ d) (N : Nat) (μ : am_M) : sm_P G l am_ci d me_X10_free 0 [(0, .ref (am_ad G 10 0))] [] μ (f_X10_free_0 N μ) := by
  unfold f_X10_free_0
  refine sm_iconst (pc := 0) dX10_free_0 (v := 1) (by decide) ?_
  refine sm_istore_n (pc := 1) (lv' := [(1, .int (1 : Int32)), (0, .ref (am_ad G 10 0))]) dX10_free_1 rfl (by decide) rfl ?_
  refine sm_sub [1, 0] rfl ?_
  exact p_X10_free_2_lp G l d hd0 N N (1 : Int32) μ
theorem c_X10_free (G : am_G) (l : Launch) (N : Nat) (μ : am_M) : ct_P G l am_ci 107 me_X10_free [.ref (am_ad G 10 0)] μ (f_X10_free N μ) := ct_of (by decide +kernel) (Nat.le_of_ble_eq_true rfl) rfl (p_X10_free_0 G l 107 (Nat.le_refl _) N μ)

def f_X10_black_145 (N : Nat) (r_66 : Int32 → Int32 → Int32 → Int32 → am_M → Option (Int32 × am_M)) (x1 : Int32) (x4 : Int32) (x6 : Int32) (s0 : Int32) (μ : am_M) : Option (Int32 × am_M) :=
r_66 x1 x4 s0 (x6 + (1 : Int32)) μ
def f_X10_black_143 (N : Nat) (r_66 : Int32 → Int32 → Int32 → Int32 → am_M → Option (Int32 × am_M)) (x1 : Int32) (x4 : Int32) (x5 : Int32) (x6 : Int32) (μ : am_M) : Option (Int32 × am_M) :=
f_X10_black_145 N r_66 x1 x4 x6 x5 μ
def f_X10_black_107 (N : Nat) (r_66 : Int32 → Int32 → Int32 → Int32 → am_M → Option (Int32 × am_M)) (x1 : Int32) (x4 : Int32) (x5 : Int32) (x6 : Int32) (s0 : Int32) (μ : am_M) : Option (Int32 × am_M) :=
am_bd (f_X10_purseOf N x1 μ) (fun y15 μ14 => if y15 < ((μ.1 10 0 27) + (s0 * x4)) then (f_X10_black_143 N r_66 x1 x4 x5 x6 μ14) else (if (μ14.1 10 0 26) ≤ x5 then (f_X10_black_143 N r_66 x1 x4 x5 x6 μ14) else (f_X10_black_145 N r_66 x1 x4 x6 (μ14.1 10 0 26) μ14)))
def f_X10_black_66 (N : Nat) (r_66 : Int32 → Int32 → Int32 → Int32 → am_M → Option (Int32 × am_M)) (x1 : Int32) (x4 : Int32) (x5 : Int32) (x6 : Int32) (μ : am_M) : Option (Int32 × am_M) :=
am_bd (f_X10_baskets N μ) (fun y10 μ9 => if y10 ≤ x6 then (some (x5, μ9)) else (am_bd (f_X10_unpack N x6 μ9) (fun _ μ11 => am_bd (f_X10_pointsInAll N x1 μ11) (fun y13 μ12 => if (μ11.1 10 0 28) ≤ y13 then (f_X10_black_107 N r_66 x1 x4 x5 x6 (0 : Int32) μ12) else (am_bd (f_X10_pointsInAll N x1 μ12) (fun y17 μ16 => f_X10_black_107 N r_66 x1 x4 x5 x6 ((μ12.1 10 0 28) - y17) μ16))))))
def f_X10_black_66_lp (N : Nat) : Nat → Int32 → Int32 → Int32 → Int32 → am_M → Option (Int32 × am_M)
  | 0, _, _, _, _, _ => none
  | n + 1, x1, x4, x5, x6, μ => f_X10_black_66 N (f_X10_black_66_lp N n) x1 x4 x5 x6 μ
def f_X10_black_0 (N : Nat) (a1 : Int32) (a2 : Int32) (a3 : Int32) (μ : am_M) : Option (Int32 × am_M) :=
am_bd (f_X10_isSort N a1 μ) (fun y2 μ1 => if y2 = 0 then (some ((-1 : Int32), μ1)) else (if a2 < 0 then (some ((-1 : Int32), μ1)) else (am_bd (f_X10_isRate N (a2 / (100 : Int32)) μ1) (fun y4 μ3 => if y4 = 0 then (some ((-1 : Int32), μ3)) else (am_bd (f_X10_within N a3.toInt64 (0 : Int64) (100 : Int64) μ3) (fun y6 μ5 => if y6 = 0 then (some ((-1 : Int32), μ5)) else (am_nm ((a2 / (100 : Int32)) + ((((am_rem a2 (100 : Int32)) * a3) + (99 : Int32)) / (100 : Int32))) (fun y7 => am_bd (f_X10_layWorths N a1 μ5) (fun _ μ8 => f_X10_black_66_lp N N a1 y7 (0 : Int32) (0 : Int32) μ8)))))))))
def f_X10_black (N : Nat) (a1 : Int32) (a2 : Int32) (a3 : Int32) (μ : am_M) : Option (Int32 × am_M) := f_X10_black_0 N a1 a2 a3 μ
set_option maxHeartbeats 4000000 in
set_option maxRecDepth 100000 in
theorem p_X10_black_145 (G : am_G) (l : Launch) (d : Nat) (hd0 : 106 ≤ d) (N : Nat) (r_66 : Int32 → Int32 → Int32 → Int32 → am_M → Option (Int32 × am_M)) (H_66 : ∀ (x1 : Int32) (x4 : Int32) (x5 : Int32) (x6 : Int32) (μ : am_M), sm_P G l am_ci d me_X10_black 66 [(0, .ref (am_ad G 10 0)), (1, .int x1), (4, .int x4), (5, .int x5), (6, .int x6)] [] μ (r_66 x1 x4 x5 x6 μ)) (x1 : Int32) (x4 : Int32) (x6 : Int32) (s0 : Int32) (μ : am_M) : sm_P G l am_ci d me_X10_black 145 [(0, .ref (am_ad G 10 0)), (1, .int x1), (4, .int x4), (6, .int x6)] [.int s0] μ (f_X10_black_145 N r_66 x1 x4 x6 s0 μ) := by
  unfold f_X10_black_145
  refine sm_istore (pc := 145) (lv' := [(5, .int s0), (0, .ref (am_ad G 10 0)), (1, .int x1), (4, .int x4), (6, .int x6)]) dX10_black_145 (by decide) rfl ?_
  refine sm_iinc (pc := 147) (v := (x6 + (1 : Int32))) (lv' := [(6, .int (x6 + (1 : Int32))), (5, .int s0), (0, .ref (am_ad G 10 0)), (1, .int x1), (4, .int x4)]) dX10_black_147 4 rfl rfl (by decide) rfl ?_
  refine sm_goto (pc := 150) (tgt := 66) dX10_black_150 (by decide) ?_
  refine sm_sub [2, 3, 4, 1, 0] rfl ?_
  exact H_66 x1 x4 s0 (x6 + (1 : Int32)) μ
set_option maxHeartbeats 4000000 in
set_option maxRecDepth 100000 in
theorem p_X10_black_143 (G : am_G) (l : Launch) (d : Nat) (hd0 : 106 ≤ d) (N : Nat) (r_66 : Int32 → Int32 → Int32 → Int32 → am_M → Option (Int32 × am_M)) (H_66 : ∀ (x1 : Int32) (x4 : Int32) (x5 : Int32) (x6 : Int32) (μ : am_M), sm_P G l am_ci d me_X10_black 66 [(0, .ref (am_ad G 10 0)), (1, .int x1), (4, .int x4), (5, .int x5), (6, .int x6)] [] μ (r_66 x1 x4 x5 x6 μ)) (x1 : Int32) (x4 : Int32) (x5 : Int32) (x6 : Int32) (μ : am_M) : sm_P G l am_ci d me_X10_black 143 [(0, .ref (am_ad G 10 0)), (1, .int x1), (4, .int x4), (5, .int x5), (6, .int x6)] [] μ (f_X10_black_143 N r_66 x1 x4 x5 x6 μ) := by
  unfold f_X10_black_143
  refine sm_iload (pc := 143) dX10_black_143 3 rfl ?_
  refine sm_sub [0, 1, 2, 4] rfl ?_
  exact p_X10_black_145 G l d hd0 N r_66 H_66 x1 x4 x6 x5 μ
set_option maxHeartbeats 4000000 in
set_option maxRecDepth 100000 in
theorem p_X10_black_107 (G : am_G) (l : Launch) (d : Nat) (hd0 : 106 ≤ d) (N : Nat) (r_66 : Int32 → Int32 → Int32 → Int32 → am_M → Option (Int32 × am_M)) (H_66 : ∀ (x1 : Int32) (x4 : Int32) (x5 : Int32) (x6 : Int32) (μ : am_M), sm_P G l am_ci d me_X10_black 66 [(0, .ref (am_ad G 10 0)), (1, .int x1), (4, .int x4), (5, .int x5), (6, .int x6)] [] μ (r_66 x1 x4 x5 x6 μ)) (x1 : Int32) (x4 : Int32) (x5 : Int32) (x6 : Int32) (s0 : Int32) (μ : am_M) : sm_P G l am_ci d me_X10_black 107 [(0, .ref (am_ad G 10 0)), (1, .int x1), (4, .int x4), (5, .int x5), (6, .int x6)] [.int s0] μ (f_X10_black_107 N r_66 x1 x4 x5 x6 s0 μ) := by
  unfold f_X10_black_107
  refine sm_istore (pc := 107) (lv' := [(7, .int s0), (0, .ref (am_ad G 10 0)), (1, .int x1), (4, .int x4), (5, .int x5), (6, .int x6)]) dX10_black_107 (by decide) rfl ?_
  refine sm_aload_n (pc := 109) dX10_black_109 rfl 1 rfl ?_
  refine sm_geti (pc := 110) dX10_black_110 fi_X10_216 ?_
  refine sm_iload (pc := 113) dX10_black_113 0 rfl ?_
  refine sm_iload (pc := 115) dX10_black_115 3 rfl ?_
  refine sm_imul (pc := 117) dX10_black_117 ?_
  refine sm_iadd (pc := 118) dX10_black_118 ?_
  refine sm_aload_n (pc := 119) dX10_black_119 rfl 1 rfl ?_
  refine sm_iload_n (pc := 120) dX10_black_120 rfl 2 rfl ?_
  refine sm_callVi (pc := 121) (As := [.int x1]) (rest := [.int ((μ.1 10 0 27) + (s0 * x4))]) dX10_black_121 (c_X10_purseOf G l N x1 μ) (by omega) wl_X10_149 vm_X10_purseOf rfl rfl (Nat.le_of_ble_eq_true rfl) (fun y15 μ14 => ?_)
  refine sm_icmp_gt (pc := 124) (tgt := 143) dX10_black_124 (by decide) ?_ ?_
  · refine sm_sub [1, 2, 3, 4, 5] rfl ?_
    exact p_X10_black_143 G l d hd0 N r_66 H_66 x1 x4 x5 x6 μ14
  · refine sm_aload_n (pc := 127) dX10_black_127 rfl 1 rfl ?_
    refine sm_geti (pc := 128) dX10_black_128 fi_X10_213 ?_
    refine sm_iload (pc := 131) dX10_black_131 4 rfl ?_
    refine sm_icmp_le (pc := 133) (tgt := 143) dX10_black_133 (by decide) ?_ ?_
    · refine sm_sub [1, 2, 3, 4, 5] rfl ?_
      exact p_X10_black_143 G l d hd0 N r_66 H_66 x1 x4 x5 x6 μ14
    · refine sm_aload_n (pc := 136) dX10_black_136 rfl 1 rfl ?_
      refine sm_geti (pc := 137) dX10_black_137 fi_X10_213 ?_
      refine sm_goto (pc := 140) (tgt := 145) dX10_black_140 (by decide) ?_
      refine sm_sub [1, 2, 3, 5] rfl ?_
      exact p_X10_black_145 G l d hd0 N r_66 H_66 x1 x4 x6 (μ14.1 10 0 26) μ14
set_option maxHeartbeats 4000000 in
set_option maxRecDepth 100000 in
theorem p_X10_black_66 (G : am_G) (l : Launch) (d : Nat) (hd0 : 106 ≤ d) (N : Nat) (r_66 : Int32 → Int32 → Int32 → Int32 → am_M → Option (Int32 × am_M)) (H_66 : ∀ (x1 : Int32) (x4 : Int32) (x5 : Int32) (x6 : Int32) (μ : am_M), sm_P G l am_ci d me_X10_black 66 [(0, .ref (am_ad G 10 0)), (1, .int x1), (4, .int x4), (5, .int x5), (6, .int x6)] [] μ (r_66 x1 x4 x5 x6 μ)) (x1 : Int32) (x4 : Int32) (x5 : Int32) (x6 : Int32) (μ : am_M) : sm_P G l am_ci d me_X10_black 66 [(0, .ref (am_ad G 10 0)), (1, .int x1), (4, .int x4), (5, .int x5), (6, .int x6)] [] μ (f_X10_black_66 N r_66 x1 x4 x5 x6 μ) := by
  unfold f_X10_black_66
  refine sm_iload (pc := 66) dX10_black_66 4 rfl ?_
  refine sm_aload_n (pc := 68) dX10_black_68 rfl 0 rfl ?_
  refine sm_callVi (pc := 69) (As := []) (rest := [.int x6]) dX10_black_69 (c_X10_baskets G l N μ) (by omega) wl_X10_226 vm_X10_baskets rfl rfl (Nat.le_of_ble_eq_true rfl) (fun y10 μ9 => ?_)
  refine sm_icmp_ge (pc := 72) (tgt := 153) dX10_black_72 (by decide) ?_ ?_
  · refine sm_iload (pc := 153) dX10_black_153 3 rfl ?_
    exact sm_iret (pc := 155) dX10_black_155 rfl
  · refine sm_aload_n (pc := 75) dX10_black_75 rfl 0 rfl ?_
    refine sm_iload (pc := 76) dX10_black_76 4 rfl ?_
    refine sm_callVv (pc := 78) (As := [.int x6]) (rest := []) dX10_black_78 (c_X10_unpack G l N x6 μ9) (by omega) wl_X10_229 vm_X10_unpack rfl rfl (Nat.le_of_ble_eq_true rfl) (fun _ μ11 => ?_)
    refine sm_aload_n (pc := 81) dX10_black_81 rfl 0 rfl ?_
    refine sm_geti (pc := 82) dX10_black_82 fi_X10_219 ?_
    refine sm_aload_n (pc := 85) dX10_black_85 rfl 0 rfl ?_
    refine sm_iload_n (pc := 86) dX10_black_86 rfl 1 rfl ?_
    refine sm_callVi (pc := 87) (As := [.int x1]) (rest := [.int (μ11.1 10 0 28)]) dX10_black_87 (c_X10_pointsInAll G l N x1 μ11) (by omega) wl_X10_153 vm_X10_pointsInAll rfl rfl (Nat.le_of_ble_eq_true rfl) (fun y13 μ12 => ?_)
    refine sm_icmp_le (pc := 90) (tgt := 106) dX10_black_90 (by decide) ?_ ?_
    · refine sm_iconst (pc := 106) dX10_black_106 (v := 0) (by decide) ?_
      exact p_X10_black_107 G l d hd0 N r_66 H_66 x1 x4 x5 x6 (0 : Int32) μ12
    · refine sm_aload_n (pc := 93) dX10_black_93 rfl 0 rfl ?_
      refine sm_geti (pc := 94) dX10_black_94 fi_X10_219 ?_
      refine sm_aload_n (pc := 97) dX10_black_97 rfl 0 rfl ?_
      refine sm_iload_n (pc := 98) dX10_black_98 rfl 1 rfl ?_
      refine sm_callVi (pc := 99) (As := [.int x1]) (rest := [.int (μ12.1 10 0 28)]) dX10_black_99 (c_X10_pointsInAll G l N x1 μ12) (by omega) wl_X10_153 vm_X10_pointsInAll rfl rfl (Nat.le_of_ble_eq_true rfl) (fun y17 μ16 => ?_)
      refine sm_isub (pc := 102) dX10_black_102 ?_
      refine sm_goto (pc := 103) (tgt := 107) dX10_black_103 (by decide) ?_
      exact p_X10_black_107 G l d hd0 N r_66 H_66 x1 x4 x5 x6 ((μ12.1 10 0 28) - y17) μ16
theorem p_X10_black_66_lp (G : am_G) (l : Launch) (d : Nat) (hd0 : 106 ≤ d) (N : Nat) : ∀ (n : Nat) (x1 : Int32) (x4 : Int32) (x5 : Int32) (x6 : Int32) (μ : am_M), sm_P G l am_ci d me_X10_black 66 [(0, .ref (am_ad G 10 0)), (1, .int x1), (4, .int x4), (5, .int x5), (6, .int x6)] [] μ (f_X10_black_66_lp N n x1 x4 x5 x6 μ) := by
  intro n
  induction n with
  | zero => intros; exact sm_none
  | succ n ih => exact fun x1 x4 x5 x6 μ => p_X10_black_66 G l d hd0 N (f_X10_black_66_lp N n) ih x1 x4 x5 x6 μ
set_option maxHeartbeats 4000000 in
set_option maxRecDepth 100000 in
theorem p_X10_black_0 (G : am_G) (l : Launch) (d : Nat) (hd0 : 106 ≤ d) (N : Nat) (a1 : Int32) (a2 : Int32) (a3 : Int32) (μ : am_M) : sm_P G l am_ci d me_X10_black 0 [(0, .ref (am_ad G 10 0)), (1, .int a1), (2, .int a2), (3, .int a3)] [] μ (f_X10_black_0 N a1 a2 a3 μ) := by
  unfold f_X10_black_0
  refine sm_aload_n (pc := 0) dX10_black_0 rfl 0 rfl ?_
  refine sm_iload_n (pc := 1) dX10_black_1 rfl 1 rfl ?_
  refine sm_callVi (pc := 2) (As := [.int a1]) (rest := []) dX10_black_2 (c_X10_isSort G l N a1 μ) (by omega) wl_X10_144 vm_X10_isSort rfl rfl (Nat.le_of_ble_eq_true rfl) (fun y2 μ1 => ?_)
  refine sm_if_eq (pc := 5) (tgt := 34) dX10_black_5 (by decide) ?_ ?_
  · refine sm_iconst (pc := 34) dX10_black_34 (v := -1) (by decide) ?_
    exact sm_iret (pc := 35) dX10_black_35 rfl
  · refine sm_iload_n (pc := 8) dX10_black_8 rfl 2 rfl ?_
    refine sm_if_lt (pc := 9) (tgt := 34) dX10_black_9 (by decide) ?_ ?_
    · refine sm_iconst (pc := 34) dX10_black_34 (v := -1) (by decide) ?_
      exact sm_iret (pc := 35) dX10_black_35 rfl
    · refine sm_iload_n (pc := 12) dX10_black_12 rfl 2 rfl ?_
      refine sm_bipush (pc := 13) dX10_black_13 (v := 100) (by decide) ?_
      refine sm_idivc (pc := 15) dX10_black_15 (by decide) ?_
      refine sm_callSi (pc := 16) (As := [.int (a2 / (100 : Int32))]) (rest := []) dX10_black_16 (c_X10_isRate G l N (a2 / (100 : Int32)) μ1) (by omega) wl_X10_300 st_X10_isRate rfl rfl (Nat.le_of_ble_eq_true rfl) (fun y4 μ3 => ?_)
      refine sm_if_eq (pc := 19) (tgt := 34) dX10_black_19 (by decide) ?_ ?_
      · refine sm_iconst (pc := 34) dX10_black_34 (v := -1) (by decide) ?_
        exact sm_iret (pc := 35) dX10_black_35 rfl
      · refine sm_iload_n (pc := 22) dX10_black_22 rfl 3 rfl ?_
        refine sm_i2l (pc := 23) dX10_black_23 ?_
        refine sm_lconst (pc := 24) dX10_black_24 (v := 0) (by decide) ?_
        refine sm_ldc2 (pc := 25) dX10_black_25 (v := 100) wk_X10_307 ?_
        refine sm_callSi (pc := 28) (As := [.long a3.toInt64, .long (0 : Int64), .long (100 : Int64)]) (rest := []) dX10_black_28 (c_X10_within G l N a3.toInt64 (0 : Int64) (100 : Int64) μ3) (by omega) wl_X10_105 st_X10_within rfl rfl (Nat.le_of_ble_eq_true rfl) (fun y6 μ5 => ?_)
        refine sm_if_ne (pc := 31) (tgt := 36) dX10_black_31 (by decide) ?_ ?_
        · refine sm_iload_n (pc := 36) dX10_black_36 rfl 2 rfl ?_
          refine sm_bipush (pc := 37) dX10_black_37 (v := 100) (by decide) ?_
          refine sm_idivc (pc := 39) dX10_black_39 (by decide) ?_
          refine sm_iload_n (pc := 40) dX10_black_40 rfl 2 rfl ?_
          refine sm_bipush (pc := 41) dX10_black_41 (v := 100) (by decide) ?_
          refine sm_iremc (pc := 43) dX10_black_43 (by decide) ?_
          refine sm_iload_n (pc := 44) dX10_black_44 rfl 3 rfl ?_
          refine sm_imul (pc := 45) dX10_black_45 ?_
          refine sm_bipush (pc := 46) dX10_black_46 (v := 99) (by decide) ?_
          refine sm_iadd (pc := 48) dX10_black_48 ?_
          refine sm_bipush (pc := 49) dX10_black_49 (v := 100) (by decide) ?_
          refine sm_idivc (pc := 51) dX10_black_51 (by decide) ?_
          refine sm_iadd (pc := 52) dX10_black_52 ?_
          refine sm_nmI (fun y7 => ?_)
          refine sm_istore (pc := 53) (lv' := [(4, .int y7), (0, .ref (am_ad G 10 0)), (1, .int a1), (2, .int a2), (3, .int a3)]) dX10_black_53 (by decide) rfl ?_
          refine sm_aload_n (pc := 55) dX10_black_55 rfl 1 rfl ?_
          refine sm_iload_n (pc := 56) dX10_black_56 rfl 2 rfl ?_
          refine sm_callVv (pc := 57) (As := [.int a1]) (rest := []) dX10_black_57 (c_X10_layWorths G l N a1 μ5) (by omega) wl_X10_222 vm_X10_layWorths rfl rfl (Nat.le_of_ble_eq_true rfl) (fun _ μ8 => ?_)
          refine sm_iconst (pc := 60) dX10_black_60 (v := 0) (by decide) ?_
          refine sm_istore (pc := 61) (lv' := [(5, .int (0 : Int32)), (4, .int y7), (0, .ref (am_ad G 10 0)), (1, .int a1), (2, .int a2), (3, .int a3)]) dX10_black_61 (by decide) rfl ?_
          refine sm_iconst (pc := 63) dX10_black_63 (v := 0) (by decide) ?_
          refine sm_istore (pc := 64) (lv' := [(6, .int (0 : Int32)), (5, .int (0 : Int32)), (4, .int y7), (0, .ref (am_ad G 10 0)), (1, .int a1), (2, .int a2), (3, .int a3)]) dX10_black_64 (by decide) rfl ?_
          refine sm_sub [3, 4, 2, 1, 0] rfl ?_
          exact p_X10_black_66_lp G l d hd0 N N a1 y7 (0 : Int32) (0 : Int32) μ8
        · refine sm_iconst (pc := 34) dX10_black_34 (v := -1) (by decide) ?_
          exact sm_iret (pc := 35) dX10_black_35 rfl
theorem c_X10_black (G : am_G) (l : Launch) (N : Nat) (a1 : Int32) (a2 : Int32) (a3 : Int32) (μ : am_M) : ct_P G l am_ci 106 me_X10_black [.ref (am_ad G 10 0), .int a1, .int a2, .int a3] μ (f_X10_black N a1 a2 a3 μ) := ct_of (by decide +kernel) (Nat.le_of_ble_eq_true rfl) rfl (p_X10_black_0 G l 106 (Nat.le_refl _) N a1 a2 a3 μ)

def f_X10_isHow_18 (N : Nat) (μ : am_M) : Option (Int32 × am_M) :=
am_z (1 : Int32) μ
def f_X10_isHow_0 (N : Nat) (a0 : Int32) (μ : am_M) : Option (Int32 × am_M) :=
if a0 = 0 then (f_X10_isHow_18 N μ) else (am_bd (f_X10_within N a0.toInt64 (100 : Int64) (900 : Int64) μ) (fun y2 μ1 => if y2 = 0 then (am_z (0 : Int32) μ1) else (f_X10_isHow_18 N μ1)))
def f_X10_isHow (N : Nat) (a0 : Int32) (μ : am_M) : Option (Int32 × am_M) := f_X10_isHow_0 N a0 μ
set_option maxHeartbeats 4000000 in
set_option maxRecDepth 100000 in
theorem p_X10_isHow_18 (G : am_G) (l : Launch) (d : Nat) (hd0 : 1 ≤ d) (N : Nat) (μ : am_M) : sm_P G l am_ci d me_X10_isHow 18 [] [] μ (f_X10_isHow_18 N μ) := by
  unfold f_X10_isHow_18
  refine sm_iconst (pc := 18) dX10_isHow_18 (v := 1) (by decide) ?_
  refine sm_goto (pc := 19) (tgt := 23) dX10_isHow_19 (by decide) ?_
  exact sm_zret (pc := 23) dX10_isHow_23 rfl
set_option maxHeartbeats 4000000 in
set_option maxRecDepth 100000 in
theorem p_X10_isHow_0 (G : am_G) (l : Launch) (d : Nat) (hd0 : 1 ≤ d) (N : Nat) (a0 : Int32) (μ : am_M) : sm_P G l am_ci d me_X10_isHow 0 [(0, .int a0)] [] μ (f_X10_isHow_0 N a0 μ) := by
  unfold f_X10_isHow_0
  refine sm_iload_n (pc := 0) dX10_isHow_0 rfl 0 rfl ?_
  refine sm_if_eq (pc := 1) (tgt := 18) dX10_isHow_1 (by decide) ?_ ?_
  · refine sm_sub [] rfl ?_
    exact p_X10_isHow_18 G l d hd0 N μ
  · refine sm_iload_n (pc := 4) dX10_isHow_4 rfl 0 rfl ?_
    refine sm_i2l (pc := 5) dX10_isHow_5 ?_
    refine sm_ldc2 (pc := 6) dX10_isHow_6 (v := 100) wk_X10_307 ?_
    refine sm_ldc2 (pc := 9) dX10_isHow_9 (v := 900) wk_X10_309 ?_
    refine sm_callSi (pc := 12) (As := [.long a0.toInt64, .long (100 : Int64), .long (900 : Int64)]) (rest := []) dX10_isHow_12 (c_X10_within G l N a0.toInt64 (100 : Int64) (900 : Int64) μ) (by omega) wl_X10_105 st_X10_within rfl rfl (Nat.le_of_ble_eq_true rfl) (fun y2 μ1 => ?_)
    refine sm_if_eq (pc := 15) (tgt := 22) dX10_isHow_15 (by decide) ?_ ?_
    · refine sm_iconst (pc := 22) dX10_isHow_22 (v := 0) (by decide) ?_
      exact sm_zret (pc := 23) dX10_isHow_23 rfl
    · refine sm_sub [] rfl ?_
      exact p_X10_isHow_18 G l d hd0 N μ1
theorem c_X10_isHow (G : am_G) (l : Launch) (N : Nat) (a0 : Int32) (μ : am_M) : ct_P G l am_ci 1 me_X10_isHow [.int a0] μ (f_X10_isHow N a0 μ) := ct_of (by decide +kernel) (Nat.le_of_ble_eq_true rfl) rfl (p_X10_isHow_0 G l 1 (Nat.le_refl _) N a0 μ)

def f_X10_besideOf_117 (N : Nat) (r_75 : Int32 → Int32 → Int32 → am_M → Option (Int32 × am_M)) (x3 : Int32) (x5 : Int32) (s0 : Int32) (s1 : Int32) (s3 : Int32) (μ : am_M) : Option (Int32 × am_M) :=
am_gd (s1 + s0) 24 (fun j4 => am_nm (s3 + (μ.1 184 0 j4)) (fun y5 => r_75 x3 y5 (x5 + (1 : Int32)) μ))
def f_X10_besideOf_75 (N : Nat) (r_75 : Int32 → Int32 → Int32 → am_M → Option (Int32 × am_M)) (x3 : Int32) (x4 : Int32) (x5 : Int32) (μ : am_M) : Option (Int32 × am_M) :=
if (μ.1 10 0 6) ≤ x5 then (some (x4, μ)) else (am_gd x5 28 (fun j2 => am_dv x3 (am_nm ((μ.1 160 0 j2) / x3) (fun y3 => if y3 ≤ (3 : Int32) then (f_X10_besideOf_117 N r_75 x3 x5 y3 ((4 : Int32) * x5) x4 μ) else (f_X10_besideOf_117 N r_75 x3 x5 (3 : Int32) ((4 : Int32) * x5) x4 μ)))))
def f_X10_besideOf_75_lp (N : Nat) : Nat → Int32 → Int32 → Int32 → am_M → Option (Int32 × am_M)
  | 0, _, _, _, _ => none
  | n + 1, x3, x4, x5, μ => f_X10_besideOf_75 N (f_X10_besideOf_75_lp N n) x3 x4 x5 μ
def f_X10_besideOf_39 (N : Nat) (r_39 : Int32 → Int32 → Int32 → am_M → Option (Int32 × am_M)) (x1 : Int32) (x3 : Int32) (x4 : Int32) (μ : am_M) : Option (Int32 × am_M) :=
if (μ.1 10 0 8) ≤ x4 then (am_bd (f_X10_layWorths N x1 μ) (fun _ μ1 => f_X10_besideOf_75_lp N N x3 (0 : Int32) (0 : Int32) μ1)) else (am_gd x4 5 (fun j6 => am_nm (x3 + (μ.1 169 0 j6)) (fun y7 => r_39 x1 y7 (x4 + (1 : Int32)) μ)))
def f_X10_besideOf_39_lp (N : Nat) : Nat → Int32 → Int32 → Int32 → am_M → Option (Int32 × am_M)
  | 0, _, _, _, _ => none
  | n + 1, x1, x3, x4, μ => f_X10_besideOf_39 N (f_X10_besideOf_39_lp N n) x1 x3 x4 μ
def f_X10_besideOf_0 (N : Nat) (a1 : Int32) (a2 : Int32) (μ : am_M) : Option (Int32 × am_M) :=
if a2 ≤ 0 then (f_X10_besideOf_39_lp N N a1 (0 : Int32) (0 : Int32) μ) else (am_nm (am_ui μ 10 0 29 a2) (fun μ8 => am_bd (f_X10_purseOf N a1 μ8) (fun y10 μ9 => am_bd (f_X10_findBest N a1 y10 (1000000000 : Int32) μ9) (fun y12 μ11 => am_nm (am_ui μ11 10 0 29 (100 : Int32)) (fun μ13 => some ((μ13.1 10 0 30), μ13))))))
def f_X10_besideOf (N : Nat) (a1 : Int32) (a2 : Int32) (μ : am_M) : Option (Int32 × am_M) := f_X10_besideOf_0 N a1 a2 μ
set_option maxHeartbeats 4000000 in
set_option maxRecDepth 100000 in
theorem p_X10_besideOf_117 (G : am_G) (l : Launch) (d : Nat) (hd0 : 107 ≤ d) (N : Nat) (r_75 : Int32 → Int32 → Int32 → am_M → Option (Int32 × am_M)) (H_75 : ∀ (x3 : Int32) (x4 : Int32) (x5 : Int32) (μ : am_M), sm_P G l am_ci d me_X10_besideOf 75 [(0, .ref (am_ad G 10 0)), (3, .int x3), (4, .int x4), (5, .int x5)] [] μ (r_75 x3 x4 x5 μ)) (x3 : Int32) (x5 : Int32) (s0 : Int32) (s1 : Int32) (s3 : Int32) (μ : am_M) : sm_P G l am_ci d me_X10_besideOf 117 [(0, .ref (am_ad G 10 0)), (3, .int x3), (5, .int x5)] [.int s0, .int s1, .ref (am_ad G 184 0), .int s3] μ (f_X10_besideOf_117 N r_75 x3 x5 s0 s1 s3 μ) := by
  unfold f_X10_besideOf_117
  refine sm_iadd (pc := 117) dX10_besideOf_117 ?_
  refine sm_iald (pc := 118) dX10_besideOf_118 ly_184 (by decide) (fun j4 hj4 => ?_)
  refine sm_iadd (pc := 119) dX10_besideOf_119 ?_
  refine sm_nmI (fun y5 => ?_)
  refine sm_istore (pc := 120) (lv' := [(4, .int y5), (0, .ref (am_ad G 10 0)), (3, .int x3), (5, .int x5)]) dX10_besideOf_120 (by decide) rfl ?_
  refine sm_iinc (pc := 122) (v := (x5 + (1 : Int32))) (lv' := [(5, .int (x5 + (1 : Int32))), (4, .int y5), (0, .ref (am_ad G 10 0)), (3, .int x3)]) dX10_besideOf_122 3 rfl rfl (by decide) rfl ?_
  refine sm_goto (pc := 125) (tgt := 75) dX10_besideOf_125 (by decide) ?_
  refine sm_sub [2, 3, 1, 0] rfl ?_
  exact H_75 x3 y5 (x5 + (1 : Int32)) μ
set_option maxHeartbeats 4000000 in
set_option maxRecDepth 100000 in
theorem p_X10_besideOf_75 (G : am_G) (l : Launch) (d : Nat) (hd0 : 107 ≤ d) (N : Nat) (r_75 : Int32 → Int32 → Int32 → am_M → Option (Int32 × am_M)) (H_75 : ∀ (x3 : Int32) (x4 : Int32) (x5 : Int32) (μ : am_M), sm_P G l am_ci d me_X10_besideOf 75 [(0, .ref (am_ad G 10 0)), (3, .int x3), (4, .int x4), (5, .int x5)] [] μ (r_75 x3 x4 x5 μ)) (x3 : Int32) (x4 : Int32) (x5 : Int32) (μ : am_M) : sm_P G l am_ci d me_X10_besideOf 75 [(0, .ref (am_ad G 10 0)), (3, .int x3), (4, .int x4), (5, .int x5)] [] μ (f_X10_besideOf_75 N r_75 x3 x4 x5 μ) := by
  unfold f_X10_besideOf_75
  refine sm_iload (pc := 75) dX10_besideOf_75 3 rfl ?_
  refine sm_aload_n (pc := 77) dX10_besideOf_77 rfl 0 rfl ?_
  refine sm_geti (pc := 78) dX10_besideOf_78 fi_X10_102 ?_
  refine sm_icmp_ge (pc := 81) (tgt := 128) dX10_besideOf_81 (by decide) ?_ ?_
  · refine sm_iload (pc := 128) dX10_besideOf_128 2 rfl ?_
    exact sm_iret (pc := 130) dX10_besideOf_130 rfl
  · refine sm_aload_n (pc := 84) dX10_besideOf_84 rfl 0 rfl ?_
    refine sm_getr (pc := 85) dX10_besideOf_85 fi_X10_9 ?_
    refine sm_iload (pc := 88) dX10_besideOf_88 3 rfl ?_
    refine sm_iald (pc := 90) dX10_besideOf_90 ly_160 (by decide) (fun j2 hj2 => ?_)
    refine sm_iload_n (pc := 91) dX10_besideOf_91 rfl 1 rfl ?_
    refine sm_idiv (pc := 92) dX10_besideOf_92 (fun _ => ?_)
    refine sm_nmI (fun y3 => ?_)
    refine sm_istore (pc := 93) (lv' := [(6, .int y3), (0, .ref (am_ad G 10 0)), (3, .int x3), (4, .int x4), (5, .int x5)]) dX10_besideOf_93 (by decide) rfl ?_
    refine sm_iload (pc := 95) dX10_besideOf_95 3 rfl ?_
    refine sm_aload_n (pc := 97) dX10_besideOf_97 rfl 1 rfl ?_
    refine sm_getr (pc := 98) dX10_besideOf_98 fi_X10_49 ?_
    refine sm_iconst (pc := 101) dX10_besideOf_101 (v := 4) (by decide) ?_
    refine sm_iload (pc := 102) dX10_besideOf_102 4 rfl ?_
    refine sm_imul (pc := 104) dX10_besideOf_104 ?_
    refine sm_iload (pc := 105) dX10_besideOf_105 0 rfl ?_
    refine sm_iconst (pc := 107) dX10_besideOf_107 (v := 3) (by decide) ?_
    refine sm_icmp_le (pc := 108) (tgt := 115) dX10_besideOf_108 (by decide) ?_ ?_
    · refine sm_iload (pc := 115) dX10_besideOf_115 0 rfl ?_
      refine sm_sub [1, 2, 4] rfl ?_
      exact p_X10_besideOf_117 G l d hd0 N r_75 H_75 x3 x5 y3 ((4 : Int32) * x5) x4 μ
    · refine sm_iconst (pc := 111) dX10_besideOf_111 (v := 3) (by decide) ?_
      refine sm_goto (pc := 112) (tgt := 117) dX10_besideOf_112 (by decide) ?_
      refine sm_sub [1, 2, 4] rfl ?_
      exact p_X10_besideOf_117 G l d hd0 N r_75 H_75 x3 x5 (3 : Int32) ((4 : Int32) * x5) x4 μ
theorem p_X10_besideOf_75_lp (G : am_G) (l : Launch) (d : Nat) (hd0 : 107 ≤ d) (N : Nat) : ∀ (n : Nat) (x3 : Int32) (x4 : Int32) (x5 : Int32) (μ : am_M), sm_P G l am_ci d me_X10_besideOf 75 [(0, .ref (am_ad G 10 0)), (3, .int x3), (4, .int x4), (5, .int x5)] [] μ (f_X10_besideOf_75_lp N n x3 x4 x5 μ) := by
  intro n
  induction n with
  | zero => intros; exact sm_none
  | succ n ih => exact fun x3 x4 x5 μ => p_X10_besideOf_75 G l d hd0 N (f_X10_besideOf_75_lp N n) ih x3 x4 x5 μ
set_option maxHeartbeats 4000000 in
set_option maxRecDepth 100000 in
theorem p_X10_besideOf_39 (G : am_G) (l : Launch) (d : Nat) (hd0 : 107 ≤ d) (N : Nat) (r_39 : Int32 → Int32 → Int32 → am_M → Option (Int32 × am_M)) (H_39 : ∀ (x1 : Int32) (x3 : Int32) (x4 : Int32) (μ : am_M), sm_P G l am_ci d me_X10_besideOf 39 [(0, .ref (am_ad G 10 0)), (1, .int x1), (3, .int x3), (4, .int x4)] [] μ (r_39 x1 x3 x4 μ)) (x1 : Int32) (x3 : Int32) (x4 : Int32) (μ : am_M) : sm_P G l am_ci d me_X10_besideOf 39 [(0, .ref (am_ad G 10 0)), (1, .int x1), (3, .int x3), (4, .int x4)] [] μ (f_X10_besideOf_39 N r_39 x1 x3 x4 μ) := by
  unfold f_X10_besideOf_39
  refine sm_iload (pc := 39) dX10_besideOf_39 3 rfl ?_
  refine sm_aload_n (pc := 41) dX10_besideOf_41 rfl 0 rfl ?_
  refine sm_geti (pc := 42) dX10_besideOf_42 fi_X10_109 ?_
  refine sm_icmp_ge (pc := 45) (tgt := 64) dX10_besideOf_45 (by decide) ?_ ?_
  · refine sm_aload_n (pc := 64) dX10_besideOf_64 rfl 0 rfl ?_
    refine sm_iload_n (pc := 65) dX10_besideOf_65 rfl 1 rfl ?_
    refine sm_callVv (pc := 66) (As := [.int x1]) (rest := []) dX10_besideOf_66 (c_X10_layWorths G l N x1 μ) (by omega) wl_X10_222 vm_X10_layWorths rfl rfl (Nat.le_of_ble_eq_true rfl) (fun _ μ1 => ?_)
    refine sm_iconst (pc := 69) dX10_besideOf_69 (v := 0) (by decide) ?_
    refine sm_istore (pc := 70) (lv' := [(4, .int (0 : Int32)), (0, .ref (am_ad G 10 0)), (1, .int x1), (3, .int x3)]) dX10_besideOf_70 (by decide) rfl ?_
    refine sm_iconst (pc := 72) dX10_besideOf_72 (v := 0) (by decide) ?_
    refine sm_istore (pc := 73) (lv' := [(5, .int (0 : Int32)), (4, .int (0 : Int32)), (0, .ref (am_ad G 10 0)), (1, .int x1), (3, .int x3)]) dX10_besideOf_73 (by decide) rfl ?_
    refine sm_sub [2, 4, 1, 0] rfl ?_
    exact p_X10_besideOf_75_lp G l d hd0 N N x3 (0 : Int32) (0 : Int32) μ1
  · refine sm_iload_n (pc := 48) dX10_besideOf_48 rfl 2 rfl ?_
    refine sm_aload_n (pc := 49) dX10_besideOf_49 rfl 0 rfl ?_
    refine sm_getr (pc := 50) dX10_besideOf_50 fi_X10_25 ?_
    refine sm_iload (pc := 53) dX10_besideOf_53 3 rfl ?_
    refine sm_iald (pc := 55) dX10_besideOf_55 ly_169 (by decide) (fun j6 hj6 => ?_)
    refine sm_iadd (pc := 56) dX10_besideOf_56 ?_
    refine sm_nmI (fun y7 => ?_)
    refine sm_istore_n (pc := 57) (lv' := [(3, .int y7), (0, .ref (am_ad G 10 0)), (1, .int x1), (4, .int x4)]) dX10_besideOf_57 rfl (by decide) rfl ?_
    refine sm_iinc (pc := 58) (v := (x4 + (1 : Int32))) (lv' := [(4, .int (x4 + (1 : Int32))), (3, .int y7), (0, .ref (am_ad G 10 0)), (1, .int x1)]) dX10_besideOf_58 3 rfl rfl (by decide) rfl ?_
    refine sm_goto (pc := 61) (tgt := 39) dX10_besideOf_61 (by decide) ?_
    refine sm_sub [2, 3, 1, 0] rfl ?_
    exact H_39 x1 y7 (x4 + (1 : Int32)) μ
theorem p_X10_besideOf_39_lp (G : am_G) (l : Launch) (d : Nat) (hd0 : 107 ≤ d) (N : Nat) : ∀ (n : Nat) (x1 : Int32) (x3 : Int32) (x4 : Int32) (μ : am_M), sm_P G l am_ci d me_X10_besideOf 39 [(0, .ref (am_ad G 10 0)), (1, .int x1), (3, .int x3), (4, .int x4)] [] μ (f_X10_besideOf_39_lp N n x1 x3 x4 μ) := by
  intro n
  induction n with
  | zero => intros; exact sm_none
  | succ n ih => exact fun x1 x3 x4 μ => p_X10_besideOf_39 G l d hd0 N (f_X10_besideOf_39_lp N n) ih x1 x3 x4 μ
set_option maxHeartbeats 4000000 in
set_option maxRecDepth 100000 in
theorem p_X10_besideOf_0 (G : am_G) (l : Launch) (d : Nat) (hd0 : 107 ≤ d) (N : Nat) (a1 : Int32) (a2 : Int32) (μ : am_M) : sm_P G l am_ci d me_X10_besideOf 0 [(0, .ref (am_ad G 10 0)), (1, .int a1), (2, .int a2)] [] μ (f_X10_besideOf_0 N a1 a2 μ) := by
  unfold f_X10_besideOf_0
  refine sm_iload_n (pc := 0) dX10_besideOf_0 rfl 2 rfl ?_
  refine sm_if_le (pc := 1) (tgt := 34) dX10_besideOf_1 (by decide) ?_ ?_
  · refine sm_iconst (pc := 34) dX10_besideOf_34 (v := 0) (by decide) ?_
    refine sm_istore_n (pc := 35) (lv' := [(3, .int (0 : Int32)), (0, .ref (am_ad G 10 0)), (1, .int a1), (2, .int a2)]) dX10_besideOf_35 rfl (by decide) rfl ?_
    refine sm_iconst (pc := 36) dX10_besideOf_36 (v := 0) (by decide) ?_
    refine sm_istore (pc := 37) (lv' := [(4, .int (0 : Int32)), (3, .int (0 : Int32)), (0, .ref (am_ad G 10 0)), (1, .int a1), (2, .int a2)]) dX10_besideOf_37 (by decide) rfl ?_
    refine sm_sub [2, 3, 1, 0] rfl ?_
    exact p_X10_besideOf_39_lp G l d hd0 N N a1 (0 : Int32) (0 : Int32) μ
  · refine sm_aload_n (pc := 4) dX10_besideOf_4 rfl 0 rfl ?_
    refine sm_iload_n (pc := 5) dX10_besideOf_5 rfl 2 rfl ?_
    refine sm_puti (pc := 6) dX10_besideOf_6 fi_X10_55 ?_
    refine sm_nmM (fun μ8 => ?_)
    refine sm_aload_n (pc := 9) dX10_besideOf_9 rfl 0 rfl ?_
    refine sm_iload_n (pc := 10) dX10_besideOf_10 rfl 1 rfl ?_
    refine sm_aload_n (pc := 11) dX10_besideOf_11 rfl 0 rfl ?_
    refine sm_iload_n (pc := 12) dX10_besideOf_12 rfl 1 rfl ?_
    refine sm_callVi (pc := 13) (As := [.int a1]) (rest := [.int a1, .ref (am_ad G 10 0)]) dX10_besideOf_13 (c_X10_purseOf G l N a1 μ8) (by omega) wl_X10_149 vm_X10_purseOf rfl rfl (Nat.le_of_ble_eq_true rfl) (fun y10 μ9 => ?_)
    refine sm_ldcw (pc := 16) dX10_besideOf_16 (v := 1000000000) wk_X10_311 ?_
    refine sm_callVi (pc := 19) (As := [.int a1, .int y10, .int (1000000000 : Int32)]) (rest := []) dX10_besideOf_19 (c_X10_findBest G l N a1 y10 (1000000000 : Int32) μ9) (by omega) wl_X10_241 vm_X10_findBest rfl rfl (Nat.le_of_ble_eq_true rfl) (fun y12 μ11 => ?_)
    refine sm_istore_n (pc := 22) (lv' := [(3, .int y12), (0, .ref (am_ad G 10 0)), (1, .int a1), (2, .int a2)]) dX10_besideOf_22 rfl (by decide) rfl ?_
    refine sm_aload_n (pc := 23) dX10_besideOf_23 rfl 1 rfl ?_
    refine sm_bipush (pc := 24) dX10_besideOf_24 (v := 100) (by decide) ?_
    refine sm_puti (pc := 26) dX10_besideOf_26 fi_X10_55 ?_
    refine sm_nmM (fun μ13 => ?_)
    refine sm_aload_n (pc := 29) dX10_besideOf_29 rfl 1 rfl ?_
    refine sm_geti (pc := 30) dX10_besideOf_30 fi_X10_232 ?_
    exact sm_iret (pc := 33) dX10_besideOf_33 rfl
theorem c_X10_besideOf (G : am_G) (l : Launch) (N : Nat) (a1 : Int32) (a2 : Int32) (μ : am_M) : ct_P G l am_ci 107 me_X10_besideOf [.ref (am_ad G 10 0), .int a1, .int a2] μ (f_X10_besideOf N a1 a2 μ) := ct_of (by decide +kernel) (Nat.le_of_ble_eq_true rfl) rfl (p_X10_besideOf_0 G l 107 (Nat.le_refl _) N a1 a2 μ)

def f_X10_beside_0 (N : Nat) (a1 : Int32) (a2 : Int32) (μ : am_M) : Option (Int32 × am_M) :=
am_bd (f_X10_isSort N a1 μ) (fun y2 μ1 => if y2 = 0 then (some ((-1 : Int32), μ1)) else (am_bd (f_X10_isHow N a2 μ1) (fun y4 μ3 => if y4 = 0 then (some ((-1 : Int32), μ3)) else (am_bd (f_X10_besideOf N a1 a2 μ3) (fun y6 μ5 => some (y6, μ5))))))
def f_X10_beside (N : Nat) (a1 : Int32) (a2 : Int32) (μ : am_M) : Option (Int32 × am_M) := f_X10_beside_0 N a1 a2 μ
set_option maxHeartbeats 4000000 in
set_option maxRecDepth 100000 in
theorem p_X10_beside_0 (G : am_G) (l : Launch) (d : Nat) (hd0 : 108 ≤ d) (N : Nat) (a1 : Int32) (a2 : Int32) (μ : am_M) : sm_P G l am_ci d me_X10_beside 0 [(0, .ref (am_ad G 10 0)), (1, .int a1), (2, .int a2)] [] μ (f_X10_beside_0 N a1 a2 μ) := by
  unfold f_X10_beside_0
  refine sm_aload_n (pc := 0) dX10_beside_0 rfl 0 rfl ?_
  refine sm_iload_n (pc := 1) dX10_beside_1 rfl 1 rfl ?_
  refine sm_callVi (pc := 2) (As := [.int a1]) (rest := []) dX10_beside_2 (c_X10_isSort G l N a1 μ) (by omega) wl_X10_144 vm_X10_isSort rfl rfl (Nat.le_of_ble_eq_true rfl) (fun y2 μ1 => ?_)
  refine sm_if_eq (pc := 5) (tgt := 24) dX10_beside_5 (by decide) ?_ ?_
  · refine sm_iconst (pc := 24) dX10_beside_24 (v := -1) (by decide) ?_
    exact sm_iret (pc := 25) dX10_beside_25 rfl
  · refine sm_iload_n (pc := 8) dX10_beside_8 rfl 2 rfl ?_
    refine sm_callSi (pc := 9) (As := [.int a2]) (rest := []) dX10_beside_9 (c_X10_isHow G l N a2 μ1) (by omega) wl_X10_312 st_X10_isHow rfl rfl (Nat.le_of_ble_eq_true rfl) (fun y4 μ3 => ?_)
    refine sm_if_eq (pc := 12) (tgt := 24) dX10_beside_12 (by decide) ?_ ?_
    · refine sm_iconst (pc := 24) dX10_beside_24 (v := -1) (by decide) ?_
      exact sm_iret (pc := 25) dX10_beside_25 rfl
    · refine sm_aload_n (pc := 15) dX10_beside_15 rfl 0 rfl ?_
      refine sm_iload_n (pc := 16) dX10_beside_16 rfl 1 rfl ?_
      refine sm_iload_n (pc := 17) dX10_beside_17 rfl 2 rfl ?_
      refine sm_callVi (pc := 18) (As := [.int a1, .int a2]) (rest := []) dX10_beside_18 (c_X10_besideOf G l N a1 a2 μ3) (by omega) wl_X10_315 vm_X10_besideOf rfl rfl (Nat.le_of_ble_eq_true rfl) (fun y6 μ5 => ?_)
      refine sm_goto (pc := 21) (tgt := 25) dX10_beside_21 (by decide) ?_
      exact sm_iret (pc := 25) dX10_beside_25 rfl
theorem c_X10_beside (G : am_G) (l : Launch) (N : Nat) (a1 : Int32) (a2 : Int32) (μ : am_M) : ct_P G l am_ci 108 me_X10_beside [.ref (am_ad G 10 0), .int a1, .int a2] μ (f_X10_beside N a1 a2 μ) := ct_of (by decide +kernel) (Nat.le_of_ble_eq_true rfl) rfl (p_X10_beside_0 G l 108 (Nat.le_refl _) N a1 a2 μ)

def f_X10_loses_53 (N : Nat) (r_13 : Int32 → Int32 → Int32 → am_M → Option (Int32 × am_M)) (x1 : Int32) (x3 : Int32) (s0 : Int32) (s1 : Int32) (μ : am_M) : Option (Int32 × am_M) :=
am_nm (s1 ||| s0) (fun y8 => r_13 x1 y8 (x3 + (1 : Int32)) μ)
def f_X10_loses_13 (N : Nat) (r_13 : Int32 → Int32 → Int32 → am_M → Option (Int32 × am_M)) (x1 : Int32) (x2 : Int32) (x3 : Int32) (μ : am_M) : Option (Int32 × am_M) :=
if (μ.1 10 0 8) ≤ x3 then (some (x2, μ)) else (am_bd (f_X10_bestOf N x3 μ) (fun y4 μ3 => am_nm (μ3.1 10 0 30) (fun y5 => am_bd (f_X10_besideOf N x3 x1 μ3) (fun y7 μ6 => if y7 ≤ y5 then (f_X10_loses_53 N r_13 x1 x3 (0 : Int32) x2 μ6) else (f_X10_loses_53 N r_13 x1 x3 ((1 : Int32) <<< (x3 &&& 31)) x2 μ6)))))
def f_X10_loses_13_lp (N : Nat) : Nat → Int32 → Int32 → Int32 → am_M → Option (Int32 × am_M)
  | 0, _, _, _, _ => none
  | n + 1, x1, x2, x3, μ => f_X10_loses_13 N (f_X10_loses_13_lp N n) x1 x2 x3 μ
def f_X10_loses_0 (N : Nat) (a1 : Int32) (μ : am_M) : Option (Int32 × am_M) :=
am_bd (f_X10_isHow N a1 μ) (fun y2 μ1 => if y2 = 0 then (some ((-1 : Int32), μ1)) else (f_X10_loses_13_lp N N a1 (0 : Int32) (0 : Int32) μ1))
def f_X10_loses (N : Nat) (a1 : Int32) (μ : am_M) : Option (Int32 × am_M) := f_X10_loses_0 N a1 μ
set_option maxHeartbeats 4000000 in
set_option maxRecDepth 100000 in
theorem p_X10_loses_53 (G : am_G) (l : Launch) (d : Nat) (hd0 : 108 ≤ d) (N : Nat) (r_13 : Int32 → Int32 → Int32 → am_M → Option (Int32 × am_M)) (H_13 : ∀ (x1 : Int32) (x2 : Int32) (x3 : Int32) (μ : am_M), sm_P G l am_ci d me_X10_loses 13 [(0, .ref (am_ad G 10 0)), (1, .int x1), (2, .int x2), (3, .int x3)] [] μ (r_13 x1 x2 x3 μ)) (x1 : Int32) (x3 : Int32) (s0 : Int32) (s1 : Int32) (μ : am_M) : sm_P G l am_ci d me_X10_loses 53 [(0, .ref (am_ad G 10 0)), (1, .int x1), (3, .int x3)] [.int s0, .int s1] μ (f_X10_loses_53 N r_13 x1 x3 s0 s1 μ) := by
  unfold f_X10_loses_53
  refine sm_ior (pc := 53) dX10_loses_53 ?_
  refine sm_nmI (fun y8 => ?_)
  refine sm_istore_n (pc := 54) (lv' := [(2, .int y8), (0, .ref (am_ad G 10 0)), (1, .int x1), (3, .int x3)]) dX10_loses_54 rfl (by decide) rfl ?_
  refine sm_iinc (pc := 55) (v := (x3 + (1 : Int32))) (lv' := [(3, .int (x3 + (1 : Int32))), (2, .int y8), (0, .ref (am_ad G 10 0)), (1, .int x1)]) dX10_loses_55 3 rfl rfl (by decide) rfl ?_
  refine sm_goto (pc := 58) (tgt := 13) dX10_loses_58 (by decide) ?_
  refine sm_sub [2, 3, 1, 0] rfl ?_
  exact H_13 x1 y8 (x3 + (1 : Int32)) μ
set_option maxHeartbeats 4000000 in
set_option maxRecDepth 100000 in
theorem p_X10_loses_13 (G : am_G) (l : Launch) (d : Nat) (hd0 : 108 ≤ d) (N : Nat) (r_13 : Int32 → Int32 → Int32 → am_M → Option (Int32 × am_M)) (H_13 : ∀ (x1 : Int32) (x2 : Int32) (x3 : Int32) (μ : am_M), sm_P G l am_ci d me_X10_loses 13 [(0, .ref (am_ad G 10 0)), (1, .int x1), (2, .int x2), (3, .int x3)] [] μ (r_13 x1 x2 x3 μ)) (x1 : Int32) (x2 : Int32) (x3 : Int32) (μ : am_M) : sm_P G l am_ci d me_X10_loses 13 [(0, .ref (am_ad G 10 0)), (1, .int x1), (2, .int x2), (3, .int x3)] [] μ (f_X10_loses_13 N r_13 x1 x2 x3 μ) := by
  unfold f_X10_loses_13
  refine sm_iload_n (pc := 13) dX10_loses_13 rfl 3 rfl ?_
  refine sm_aload_n (pc := 14) dX10_loses_14 rfl 0 rfl ?_
  refine sm_geti (pc := 15) dX10_loses_15 fi_X10_109 ?_
  refine sm_icmp_ge (pc := 18) (tgt := 61) dX10_loses_18 (by decide) ?_ ?_
  · refine sm_iload_n (pc := 61) dX10_loses_61 rfl 2 rfl ?_
    exact sm_iret (pc := 62) dX10_loses_62 rfl
  · refine sm_aload_n (pc := 21) dX10_loses_21 rfl 0 rfl ?_
    refine sm_iload_n (pc := 22) dX10_loses_22 rfl 3 rfl ?_
    refine sm_callVi (pc := 23) (As := [.int x3]) (rest := []) dX10_loses_23 (c_X10_bestOf G l N x3 μ) (by omega) wl_X10_244 vm_X10_bestOf rfl rfl (Nat.le_of_ble_eq_true rfl) (fun y4 μ3 => ?_)
    refine sm_istore (pc := 26) (lv' := [(4, .int y4), (0, .ref (am_ad G 10 0)), (1, .int x1), (2, .int x2), (3, .int x3)]) dX10_loses_26 (by decide) rfl ?_
    refine sm_aload_n (pc := 28) dX10_loses_28 rfl 1 rfl ?_
    refine sm_geti (pc := 29) dX10_loses_29 fi_X10_232 ?_
    refine sm_nmI (fun y5 => ?_)
    refine sm_istore (pc := 32) (lv' := [(5, .int y5), (4, .int y4), (0, .ref (am_ad G 10 0)), (1, .int x1), (2, .int x2), (3, .int x3)]) dX10_loses_32 (by decide) rfl ?_
    refine sm_iload_n (pc := 34) dX10_loses_34 rfl 4 rfl ?_
    refine sm_iload (pc := 35) dX10_loses_35 0 rfl ?_
    refine sm_aload_n (pc := 37) dX10_loses_37 rfl 2 rfl ?_
    refine sm_iload_n (pc := 38) dX10_loses_38 rfl 5 rfl ?_
    refine sm_iload_n (pc := 39) dX10_loses_39 rfl 3 rfl ?_
    refine sm_callVi (pc := 40) (As := [.int x3, .int x1]) (rest := [.int y5, .int x2]) dX10_loses_40 (c_X10_besideOf G l N x3 x1 μ3) (by omega) wl_X10_315 vm_X10_besideOf rfl rfl (Nat.le_of_ble_eq_true rfl) (fun y7 μ6 => ?_)
    refine sm_icmp_ge (pc := 43) (tgt := 52) dX10_loses_43 (by decide) ?_ ?_
    · refine sm_iconst (pc := 52) dX10_loses_52 (v := 0) (by decide) ?_
      refine sm_sub [2, 3, 5] rfl ?_
      exact p_X10_loses_53 G l d hd0 N r_13 H_13 x1 x3 (0 : Int32) x2 μ6
    · refine sm_iconst (pc := 46) dX10_loses_46 (v := 1) (by decide) ?_
      refine sm_iload_n (pc := 47) dX10_loses_47 rfl 5 rfl ?_
      refine sm_ishl (pc := 48) dX10_loses_48 ?_
      refine sm_goto (pc := 49) (tgt := 53) dX10_loses_49 (by decide) ?_
      refine sm_sub [2, 3, 5] rfl ?_
      exact p_X10_loses_53 G l d hd0 N r_13 H_13 x1 x3 ((1 : Int32) <<< (x3 &&& 31)) x2 μ6
theorem p_X10_loses_13_lp (G : am_G) (l : Launch) (d : Nat) (hd0 : 108 ≤ d) (N : Nat) : ∀ (n : Nat) (x1 : Int32) (x2 : Int32) (x3 : Int32) (μ : am_M), sm_P G l am_ci d me_X10_loses 13 [(0, .ref (am_ad G 10 0)), (1, .int x1), (2, .int x2), (3, .int x3)] [] μ (f_X10_loses_13_lp N n x1 x2 x3 μ) := by
  intro n
  induction n with
  | zero => intros; exact sm_none
  | succ n ih => exact fun x1 x2 x3 μ => p_X10_loses_13 G l d hd0 N (f_X10_loses_13_lp N n) ih x1 x2 x3 μ
set_option maxHeartbeats 4000000 in
set_option maxRecDepth 100000 in
theorem p_X10_loses_0 (G : am_G) (l : Launch) (d : Nat) (hd0 : 108 ≤ d) (N : Nat) (a1 : Int32) (μ : am_M) : sm_P G l am_ci d me_X10_loses 0 [(0, .ref (am_ad G 10 0)), (1, .int a1)] [] μ (f_X10_loses_0 N a1 μ) := by
  unfold f_X10_loses_0
  refine sm_iload_n (pc := 0) dX10_loses_0 rfl 1 rfl ?_
  refine sm_callSi (pc := 1) (As := [.int a1]) (rest := []) dX10_loses_1 (c_X10_isHow G l N a1 μ) (by omega) wl_X10_312 st_X10_isHow rfl rfl (Nat.le_of_ble_eq_true rfl) (fun y2 μ1 => ?_)
  refine sm_if_ne (pc := 4) (tgt := 9) dX10_loses_4 (by decide) ?_ ?_
  · refine sm_iconst (pc := 9) dX10_loses_9 (v := 0) (by decide) ?_
    refine sm_istore_n (pc := 10) (lv' := [(2, .int (0 : Int32)), (0, .ref (am_ad G 10 0)), (1, .int a1)]) dX10_loses_10 rfl (by decide) rfl ?_
    refine sm_iconst (pc := 11) dX10_loses_11 (v := 0) (by decide) ?_
    refine sm_istore_n (pc := 12) (lv' := [(3, .int (0 : Int32)), (2, .int (0 : Int32)), (0, .ref (am_ad G 10 0)), (1, .int a1)]) dX10_loses_12 rfl (by decide) rfl ?_
    refine sm_sub [2, 3, 1, 0] rfl ?_
    exact p_X10_loses_13_lp G l d hd0 N N a1 (0 : Int32) (0 : Int32) μ1
  · refine sm_iconst (pc := 7) dX10_loses_7 (v := -1) (by decide) ?_
    exact sm_iret (pc := 8) dX10_loses_8 rfl
theorem c_X10_loses (G : am_G) (l : Launch) (N : Nat) (a1 : Int32) (μ : am_M) : ct_P G l am_ci 108 me_X10_loses [.ref (am_ad G 10 0), .int a1] μ (f_X10_loses N a1 μ) := ct_of (by decide +kernel) (Nat.le_of_ble_eq_true rfl) rfl (p_X10_loses_0 G l 108 (Nat.le_refl _) N a1 μ)

def f_X10_bitsOf_4 (N : Nat) (r_4 : Int32 → Int32 → am_M → Option (Int32 × am_M)) (x1 : Int32) (x2 : Int32) (μ : am_M) : Option (Int32 × am_M) :=
if x2 = 0 then (some (x1, μ)) else (am_nm (x2 &&& (x2 - (1 : Int32))) (fun y1 => r_4 (x1 + (1 : Int32)) y1 μ))
def f_X10_bitsOf_4_lp (N : Nat) : Nat → Int32 → Int32 → am_M → Option (Int32 × am_M)
  | 0, _, _, _ => none
  | n + 1, x1, x2, μ => f_X10_bitsOf_4 N (f_X10_bitsOf_4_lp N n) x1 x2 μ
def f_X10_bitsOf_0 (N : Nat) (a0 : Int32) (μ : am_M) : Option (Int32 × am_M) :=
f_X10_bitsOf_4_lp N N (0 : Int32) a0 μ
def f_X10_bitsOf (N : Nat) (a0 : Int32) (μ : am_M) : Option (Int32 × am_M) := f_X10_bitsOf_0 N a0 μ
set_option maxHeartbeats 4000000 in
set_option maxRecDepth 100000 in
theorem p_X10_bitsOf_4 (G : am_G) (l : Launch) (d : Nat) (hd0 : 0 ≤ d) (N : Nat) (r_4 : Int32 → Int32 → am_M → Option (Int32 × am_M)) (H_4 : ∀ (x1 : Int32) (x2 : Int32) (μ : am_M), sm_P G l am_ci d me_X10_bitsOf 4 [(1, .int x1), (2, .int x2)] [] μ (r_4 x1 x2 μ)) (x1 : Int32) (x2 : Int32) (μ : am_M) : sm_P G l am_ci d me_X10_bitsOf 4 [(1, .int x1), (2, .int x2)] [] μ (f_X10_bitsOf_4 N r_4 x1 x2 μ) := by
  unfold f_X10_bitsOf_4
  refine sm_iload_n (pc := 4) dX10_bitsOf_4 rfl 1 rfl ?_
  refine sm_if_eq (pc := 5) (tgt := 20) dX10_bitsOf_5 (by decide) ?_ ?_
  · refine sm_iload_n (pc := 20) dX10_bitsOf_20 rfl 0 rfl ?_
    exact sm_iret (pc := 21) dX10_bitsOf_21 rfl
  · refine sm_iinc (pc := 8) (v := (x1 + (1 : Int32))) (lv' := [(1, .int (x1 + (1 : Int32))), (2, .int x2)]) dX10_bitsOf_8 0 rfl rfl (by decide) rfl ?_
    refine sm_iload_n (pc := 11) dX10_bitsOf_11 rfl 1 rfl ?_
    refine sm_iload_n (pc := 12) dX10_bitsOf_12 rfl 1 rfl ?_
    refine sm_iconst (pc := 13) dX10_bitsOf_13 (v := 1) (by decide) ?_
    refine sm_isub (pc := 14) dX10_bitsOf_14 ?_
    refine sm_iand (pc := 15) dX10_bitsOf_15 ?_
    refine sm_nmI (fun y1 => ?_)
    refine sm_istore_n (pc := 16) (lv' := [(2, .int y1), (1, .int (x1 + (1 : Int32)))]) dX10_bitsOf_16 rfl (by decide) rfl ?_
    refine sm_goto (pc := 17) (tgt := 4) dX10_bitsOf_17 (by decide) ?_
    refine sm_sub [1, 0] rfl ?_
    exact H_4 (x1 + (1 : Int32)) y1 μ
theorem p_X10_bitsOf_4_lp (G : am_G) (l : Launch) (d : Nat) (hd0 : 0 ≤ d) (N : Nat) : ∀ (n : Nat) (x1 : Int32) (x2 : Int32) (μ : am_M), sm_P G l am_ci d me_X10_bitsOf 4 [(1, .int x1), (2, .int x2)] [] μ (f_X10_bitsOf_4_lp N n x1 x2 μ) := by
  intro n
  induction n with
  | zero => intros; exact sm_none
  | succ n ih => exact fun x1 x2 μ => p_X10_bitsOf_4 G l d hd0 N (f_X10_bitsOf_4_lp N n) ih x1 x2 μ
set_option maxHeartbeats 4000000 in
set_option maxRecDepth 100000 in
theorem p_X10_bitsOf_0 (G : am_G) (l : Launch) (d : Nat) (hd0 : 0 ≤ d) (N : Nat) (a0 : Int32) (μ : am_M) : sm_P G l am_ci d me_X10_bitsOf 0 [(0, .int a0)] [] μ (f_X10_bitsOf_0 N a0 μ) := by
  unfold f_X10_bitsOf_0
  refine sm_iconst (pc := 0) dX10_bitsOf_0 (v := 0) (by decide) ?_
  refine sm_istore_n (pc := 1) (lv' := [(1, .int (0 : Int32)), (0, .int a0)]) dX10_bitsOf_1 rfl (by decide) rfl ?_
  refine sm_iload_n (pc := 2) dX10_bitsOf_2 rfl 1 rfl ?_
  refine sm_istore_n (pc := 3) (lv' := [(2, .int a0), (1, .int (0 : Int32)), (0, .int a0)]) dX10_bitsOf_3 rfl (by decide) rfl ?_
  refine sm_sub [1, 0] rfl ?_
  exact p_X10_bitsOf_4_lp G l d hd0 N N (0 : Int32) a0 μ
theorem c_X10_bitsOf (G : am_G) (l : Launch) (N : Nat) (a0 : Int32) (μ : am_M) : ct_P G l am_ci 0 me_X10_bitsOf [.int a0] μ (f_X10_bitsOf N a0 μ) := ct_of (by decide +kernel) (Nat.le_of_ble_eq_true rfl) rfl (p_X10_bitsOf_0 G l 0 (Nat.le_refl _) N a0 μ)

def f_X10_isGone_2 (N : Nat) (r_2 : Int32 → am_M → Option (Int32 × am_M)) (x1 : Int32) (μ : am_M) : Option (Int32 × am_M) :=
if (μ.1 10 0 6) ≤ x1 then (am_z (0 : Int32) μ) else (am_bd (f_X10_over N x1 μ) (fun y2 μ1 => if 0 ≤ y2 then (r_2 (x1 + (1 : Int32)) μ1) else (am_z (1 : Int32) μ1)))
def f_X10_isGone_2_lp (N : Nat) : Nat → Int32 → am_M → Option (Int32 × am_M)
  | 0, _, _ => none
  | n + 1, x1, μ => f_X10_isGone_2 N (f_X10_isGone_2_lp N n) x1 μ
def f_X10_isGone_0 (N : Nat) (μ : am_M) : Option (Int32 × am_M) :=
f_X10_isGone_2_lp N N (0 : Int32) μ
def f_X10_isGone (N : Nat) (μ : am_M) : Option (Int32 × am_M) := f_X10_isGone_0 N μ
set_option maxHeartbeats 4000000 in
set_option maxRecDepth 100000 in
theorem p_X10_isGone_2 (G : am_G) (l : Launch) (d : Nat) (hd0 : 1 ≤ d) (N : Nat) (r_2 : Int32 → am_M → Option (Int32 × am_M)) (H_2 : ∀ (x1 : Int32) (μ : am_M), sm_P G l am_ci d me_X10_isGone 2 [(0, .ref (am_ad G 10 0)), (1, .int x1)] [] μ (r_2 x1 μ)) (x1 : Int32) (μ : am_M) : sm_P G l am_ci d me_X10_isGone 2 [(0, .ref (am_ad G 10 0)), (1, .int x1)] [] μ (f_X10_isGone_2 N r_2 x1 μ) := by
  unfold f_X10_isGone_2
  refine sm_iload_n (pc := 2) dX10_isGone_2 rfl 1 rfl ?_
  refine sm_aload_n (pc := 3) dX10_isGone_3 rfl 0 rfl ?_
  refine sm_geti (pc := 4) dX10_isGone_4 fi_X10_102 ?_
  refine sm_icmp_ge (pc := 7) (tgt := 26) dX10_isGone_7 (by decide) ?_ ?_
  · refine sm_iconst (pc := 26) dX10_isGone_26 (v := 0) (by decide) ?_
    exact sm_zret (pc := 27) dX10_isGone_27 rfl
  · refine sm_aload_n (pc := 10) dX10_isGone_10 rfl 0 rfl ?_
    refine sm_iload_n (pc := 11) dX10_isGone_11 rfl 1 rfl ?_
    refine sm_callVi (pc := 12) (As := [.int x1]) (rest := []) dX10_isGone_12 (c_X10_over G l N x1 μ) (by omega) wl_X10_250 vm_X10_over rfl rfl (Nat.le_of_ble_eq_true rfl) (fun y2 μ1 => ?_)
    refine sm_if_ge (pc := 15) (tgt := 20) dX10_isGone_15 (by decide) ?_ ?_
    · refine sm_iinc (pc := 20) (v := (x1 + (1 : Int32))) (lv' := [(1, .int (x1 + (1 : Int32))), (0, .ref (am_ad G 10 0))]) dX10_isGone_20 1 rfl rfl (by decide) rfl ?_
      refine sm_goto (pc := 23) (tgt := 2) dX10_isGone_23 (by decide) ?_
      refine sm_sub [1, 0] rfl ?_
      exact H_2 (x1 + (1 : Int32)) μ1
    · refine sm_iconst (pc := 18) dX10_isGone_18 (v := 1) (by decide) ?_
      exact sm_zret (pc := 19) dX10_isGone_19 rfl
theorem p_X10_isGone_2_lp (G : am_G) (l : Launch) (d : Nat) (hd0 : 1 ≤ d) (N : Nat) : ∀ (n : Nat) (x1 : Int32) (μ : am_M), sm_P G l am_ci d me_X10_isGone 2 [(0, .ref (am_ad G 10 0)), (1, .int x1)] [] μ (f_X10_isGone_2_lp N n x1 μ) := by
  intro n
  induction n with
  | zero => intros; exact sm_none
  | succ n ih => exact fun x1 μ => p_X10_isGone_2 G l d hd0 N (f_X10_isGone_2_lp N n) ih x1 μ
set_option maxHeartbeats 4000000 in
set_option maxRecDepth 100000 in
theorem p_X10_isGone_0 (G : am_G) (l : Launch) (d : Nat) (hd0 : 1 ≤ d) (N : Nat) (μ : am_M) : sm_P G l am_ci d me_X10_isGone 0 [(0, .ref (am_ad G 10 0))] [] μ (f_X10_isGone_0 N μ) := by
  unfold f_X10_isGone_0
  refine sm_iconst (pc := 0) dX10_isGone_0 (v := 0) (by decide) ?_
  refine sm_istore_n (pc := 1) (lv' := [(1, .int (0 : Int32)), (0, .ref (am_ad G 10 0))]) dX10_isGone_1 rfl (by decide) rfl ?_
  refine sm_sub [1, 0] rfl ?_
  exact p_X10_isGone_2_lp G l d hd0 N N (0 : Int32) μ
theorem c_X10_isGone (G : am_G) (l : Launch) (N : Nat) (μ : am_M) : ct_P G l am_ci 1 me_X10_isGone [.ref (am_ad G 10 0)] μ (f_X10_isGone N μ) := ct_of (by decide +kernel) (Nat.le_of_ble_eq_true rfl) rfl (p_X10_isGone_0 G l 1 (Nat.le_refl _) N μ)

def f_X10_fewest_133 (N : Nat) (r_133 : Int32 → Int32 → am_M → Option (Int32 × am_M)) (x1 : Int32) (x2 : Int32) (μ : am_M) : Option (Int32 × am_M) :=
if (μ.1 10 0 6) ≤ x2 then (some (x1, μ)) else (am_gd x2 6 (fun j1 => am_gd ((12 : Int32) + x2) 28 (fun j2 => am_nm (am_ui μ 160 0 j2 (μ.1 201 0 j1)) (fun μ3 => r_133 x1 (x2 + (1 : Int32)) μ3))))
def f_X10_fewest_133_lp (N : Nat) : Nat → Int32 → Int32 → am_M → Option (Int32 × am_M)
  | 0, _, _, _ => none
  | n + 1, x1, x2, μ => f_X10_fewest_133 N (f_X10_fewest_133_lp N n) x1 x2 μ
def f_X10_fewest_125 (N : Nat) (r_36 : Int32 → Int32 → am_M → Option (Int32 × am_M)) (x1 : Int32) (x2 : Int32) (μ : am_M) : Option (Int32 × am_M) :=
r_36 x1 (x2 + (1 : Int32)) μ
def f_X10_fewest_124 (N : Nat) (r_36 : Int32 → Int32 → am_M → Option (Int32 × am_M)) (x2 : Int32) (s0 : Int32) (μ : am_M) : Option (Int32 × am_M) :=
f_X10_fewest_125 N r_36 s0 x2 μ
def f_X10_fewest_101 (N : Nat) (r_36 : Int32 → Int32 → am_M → Option (Int32 × am_M)) (r_66 : Int32 → Int32 → Int32 → am_M → Option (Int32 × am_M)) (x1 : Int32) (x2 : Int32) (x3 : Int32) (s0 : Int32) (s1 : Int32) (μ : am_M) : Option (Int32 × am_M) :=
am_gd s1 28 (fun j7 => am_nm (am_ui μ 160 0 j7 s0) (fun μ8 => r_66 x1 x2 (x3 + (1 : Int32)) μ8))
def f_X10_fewest_66 (N : Nat) (r_36 : Int32 → Int32 → am_M → Option (Int32 × am_M)) (r_66 : Int32 → Int32 → Int32 → am_M → Option (Int32 × am_M)) (x1 : Int32) (x2 : Int32) (x3 : Int32) (μ : am_M) : Option (Int32 × am_M) :=
if (μ.1 10 0 6) ≤ x3 then (am_bd (f_X10_findWanted N μ) (fun _ μ4 => am_bd (f_X10_isGone N μ4) (fun y6 μ5 => if y6 = 0 then (f_X10_fewest_124 N r_36 x2 x2 μ5) else (f_X10_fewest_124 N r_36 x2 x1 μ5)))) else (if ((x2 >>> (x3 &&& 31)) &&& (1 : Int32)) = (1 : Int32) then (am_gd x3 6 (fun j9 => f_X10_fewest_101 N r_36 r_66 x1 x2 x3 (μ.1 201 0 j9) ((12 : Int32) + x3) μ)) else (f_X10_fewest_101 N r_36 r_66 x1 x2 x3 (0 : Int32) ((12 : Int32) + x3) μ))
def f_X10_fewest_66_lp (N : Nat) (r_36 : Int32 → Int32 → am_M → Option (Int32 × am_M)) : Nat → Int32 → Int32 → Int32 → am_M → Option (Int32 × am_M)
  | 0, _, _, _, _ => none
  | n + 1, x1, x2, x3, μ => f_X10_fewest_66 N r_36 (f_X10_fewest_66_lp N r_36 n) x1 x2 x3 μ
def f_X10_fewest_64 (N : Nat) (r_36 : Int32 → Int32 → am_M → Option (Int32 × am_M)) (x1 : Int32) (x2 : Int32) (μ : am_M) : Option (Int32 × am_M) :=
f_X10_fewest_66_lp N r_36 N x1 x2 (0 : Int32) μ
def f_X10_fewest_36 (N : Nat) (r_36 : Int32 → Int32 → am_M → Option (Int32 × am_M)) (x1 : Int32) (x2 : Int32) (μ : am_M) : Option (Int32 × am_M) :=
if ((1 : Int32) <<< ((μ.1 10 0 6) &&& 31)) ≤ x2 then (f_X10_fewest_133_lp N N x1 (0 : Int32) μ) else (if x1 < 0 then (f_X10_fewest_64 N r_36 x1 x2 μ) else (am_bd (f_X10_bitsOf N x2 μ) (fun y11 μ10 => am_bd (f_X10_bitsOf N x1 μ10) (fun y13 μ12 => if y11 < y13 then (f_X10_fewest_64 N r_36 x1 x2 μ12) else (f_X10_fewest_125 N r_36 x1 x2 μ12)))))
def f_X10_fewest_36_lp (N : Nat) : Nat → Int32 → Int32 → am_M → Option (Int32 × am_M)
  | 0, _, _, _ => none
  | n + 1, x1, x2, μ => f_X10_fewest_36 N (f_X10_fewest_36_lp N n) x1 x2 μ
def f_X10_fewest_5 (N : Nat) (r_5 : Int32 → Int32 → am_M → Option (Int32 × am_M)) (x1 : Int32) (x2 : Int32) (μ : am_M) : Option (Int32 × am_M) :=
if (μ.1 10 0 6) ≤ x2 then (f_X10_fewest_36_lp N N x1 (0 : Int32) μ) else (am_gd ((12 : Int32) + x2) 28 (fun j14 => am_gd x2 6 (fun j15 => am_nm (am_ui μ 201 0 j15 (μ.1 160 0 j14)) (fun μ16 => r_5 x1 (x2 + (1 : Int32)) μ16))))
def f_X10_fewest_5_lp (N : Nat) : Nat → Int32 → Int32 → am_M → Option (Int32 × am_M)
  | 0, _, _, _ => none
  | n + 1, x1, x2, μ => f_X10_fewest_5 N (f_X10_fewest_5_lp N n) x1 x2 μ
def f_X10_fewest_0 (N : Nat) (μ : am_M) : Option (Int32 × am_M) :=
f_X10_fewest_5_lp N N (-2 : Int32) (0 : Int32) μ
def f_X10_fewest (N : Nat) (μ : am_M) : Option (Int32 × am_M) := f_X10_fewest_0 N μ
set_option maxHeartbeats 4000000 in
set_option maxRecDepth 100000 in
theorem p_X10_fewest_133 (G : am_G) (l : Launch) (d : Nat) (hd0 : 109 ≤ d) (N : Nat) (r_133 : Int32 → Int32 → am_M → Option (Int32 × am_M)) (H_133 : ∀ (x1 : Int32) (x2 : Int32) (μ : am_M), sm_P G l am_ci d me_X10_fewest 133 [(0, .ref (am_ad G 10 0)), (1, .int x1), (2, .int x2)] [] μ (r_133 x1 x2 μ)) (x1 : Int32) (x2 : Int32) (μ : am_M) : sm_P G l am_ci d me_X10_fewest 133 [(0, .ref (am_ad G 10 0)), (1, .int x1), (2, .int x2)] [] μ (f_X10_fewest_133 N r_133 x1 x2 μ) := by
  unfold f_X10_fewest_133
  refine sm_iload_n (pc := 133) dX10_fewest_133 rfl 2 rfl ?_
  refine sm_aload_n (pc := 134) dX10_fewest_134 rfl 0 rfl ?_
  refine sm_geti (pc := 135) dX10_fewest_135 fi_X10_102 ?_
  refine sm_icmp_ge (pc := 138) (tgt := 162) dX10_fewest_138 (by decide) ?_ ?_
  · refine sm_iload_n (pc := 162) dX10_fewest_162 rfl 1 rfl ?_
    exact sm_iret (pc := 163) dX10_fewest_163 rfl
  · refine sm_aload_n (pc := 141) dX10_fewest_141 rfl 0 rfl ?_
    refine sm_getr (pc := 142) dX10_fewest_142 fi_X10_9 ?_
    refine sm_bipush (pc := 145) dX10_fewest_145 (v := 12) (by decide) ?_
    refine sm_iload_n (pc := 147) dX10_fewest_147 rfl 2 rfl ?_
    refine sm_iadd (pc := 148) dX10_fewest_148 ?_
    refine sm_aload_n (pc := 149) dX10_fewest_149 rfl 0 rfl ?_
    refine sm_getr (pc := 150) dX10_fewest_150 fi_X10_71 ?_
    refine sm_iload_n (pc := 153) dX10_fewest_153 rfl 2 rfl ?_
    refine sm_iald (pc := 154) dX10_fewest_154 ly_201 (by decide) (fun j1 hj1 => ?_)
    refine sm_iast (pc := 155) dX10_fewest_155 ly_160 (by decide) (fun j2 hj2 => ?_)
    refine sm_nmM (fun μ3 => ?_)
    refine sm_iinc (pc := 156) (v := (x2 + (1 : Int32))) (lv' := [(2, .int (x2 + (1 : Int32))), (0, .ref (am_ad G 10 0)), (1, .int x1)]) dX10_fewest_156 2 rfl rfl (by decide) rfl ?_
    refine sm_goto (pc := 159) (tgt := 133) dX10_fewest_159 (by decide) ?_
    refine sm_sub [1, 2, 0] rfl ?_
    exact H_133 x1 (x2 + (1 : Int32)) μ3
theorem p_X10_fewest_133_lp (G : am_G) (l : Launch) (d : Nat) (hd0 : 109 ≤ d) (N : Nat) : ∀ (n : Nat) (x1 : Int32) (x2 : Int32) (μ : am_M), sm_P G l am_ci d me_X10_fewest 133 [(0, .ref (am_ad G 10 0)), (1, .int x1), (2, .int x2)] [] μ (f_X10_fewest_133_lp N n x1 x2 μ) := by
  intro n
  induction n with
  | zero => intros; exact sm_none
  | succ n ih => exact fun x1 x2 μ => p_X10_fewest_133 G l d hd0 N (f_X10_fewest_133_lp N n) ih x1 x2 μ
set_option maxHeartbeats 4000000 in
set_option maxRecDepth 100000 in
theorem p_X10_fewest_125 (G : am_G) (l : Launch) (d : Nat) (hd0 : 109 ≤ d) (N : Nat) (r_36 : Int32 → Int32 → am_M → Option (Int32 × am_M)) (H_36 : ∀ (x1 : Int32) (x2 : Int32) (μ : am_M), sm_P G l am_ci d me_X10_fewest 36 [(0, .ref (am_ad G 10 0)), (1, .int x1), (2, .int x2)] [] μ (r_36 x1 x2 μ)) (x1 : Int32) (x2 : Int32) (μ : am_M) : sm_P G l am_ci d me_X10_fewest 125 [(0, .ref (am_ad G 10 0)), (1, .int x1), (2, .int x2)] [] μ (f_X10_fewest_125 N r_36 x1 x2 μ) := by
  unfold f_X10_fewest_125
  refine sm_iinc (pc := 125) (v := (x2 + (1 : Int32))) (lv' := [(2, .int (x2 + (1 : Int32))), (0, .ref (am_ad G 10 0)), (1, .int x1)]) dX10_fewest_125 2 rfl rfl (by decide) rfl ?_
  refine sm_goto (pc := 128) (tgt := 36) dX10_fewest_128 (by decide) ?_
  refine sm_sub [1, 2, 0] rfl ?_
  exact H_36 x1 (x2 + (1 : Int32)) μ
set_option maxHeartbeats 4000000 in
set_option maxRecDepth 100000 in
theorem p_X10_fewest_124 (G : am_G) (l : Launch) (d : Nat) (hd0 : 109 ≤ d) (N : Nat) (r_36 : Int32 → Int32 → am_M → Option (Int32 × am_M)) (H_36 : ∀ (x1 : Int32) (x2 : Int32) (μ : am_M), sm_P G l am_ci d me_X10_fewest 36 [(0, .ref (am_ad G 10 0)), (1, .int x1), (2, .int x2)] [] μ (r_36 x1 x2 μ)) (x2 : Int32) (s0 : Int32) (μ : am_M) : sm_P G l am_ci d me_X10_fewest 124 [(0, .ref (am_ad G 10 0)), (2, .int x2)] [.int s0] μ (f_X10_fewest_124 N r_36 x2 s0 μ) := by
  unfold f_X10_fewest_124
  refine sm_istore_n (pc := 124) (lv' := [(1, .int s0), (0, .ref (am_ad G 10 0)), (2, .int x2)]) dX10_fewest_124 rfl (by decide) rfl ?_
  refine sm_sub [1, 0, 2] rfl ?_
  exact p_X10_fewest_125 G l d hd0 N r_36 H_36 s0 x2 μ
set_option maxHeartbeats 4000000 in
set_option maxRecDepth 100000 in
theorem p_X10_fewest_101 (G : am_G) (l : Launch) (d : Nat) (hd0 : 109 ≤ d) (N : Nat) (r_36 : Int32 → Int32 → am_M → Option (Int32 × am_M)) (r_66 : Int32 → Int32 → Int32 → am_M → Option (Int32 × am_M)) (H_36 : ∀ (x1 : Int32) (x2 : Int32) (μ : am_M), sm_P G l am_ci d me_X10_fewest 36 [(0, .ref (am_ad G 10 0)), (1, .int x1), (2, .int x2)] [] μ (r_36 x1 x2 μ)) (H_66 : ∀ (x1 : Int32) (x2 : Int32) (x3 : Int32) (μ : am_M), sm_P G l am_ci d me_X10_fewest 66 [(0, .ref (am_ad G 10 0)), (1, .int x1), (2, .int x2), (3, .int x3)] [] μ (r_66 x1 x2 x3 μ)) (x1 : Int32) (x2 : Int32) (x3 : Int32) (s0 : Int32) (s1 : Int32) (μ : am_M) : sm_P G l am_ci d me_X10_fewest 101 [(0, .ref (am_ad G 10 0)), (1, .int x1), (2, .int x2), (3, .int x3)] [.int s0, .int s1, .ref (am_ad G 160 0)] μ (f_X10_fewest_101 N r_36 r_66 x1 x2 x3 s0 s1 μ) := by
  unfold f_X10_fewest_101
  refine sm_iast (pc := 101) dX10_fewest_101 ly_160 (by decide) (fun j7 hj7 => ?_)
  refine sm_nmM (fun μ8 => ?_)
  refine sm_iinc (pc := 102) (v := (x3 + (1 : Int32))) (lv' := [(3, .int (x3 + (1 : Int32))), (0, .ref (am_ad G 10 0)), (1, .int x1), (2, .int x2)]) dX10_fewest_102 3 rfl rfl (by decide) rfl ?_
  refine sm_goto (pc := 105) (tgt := 66) dX10_fewest_105 (by decide) ?_
  refine sm_sub [1, 2, 3, 0] rfl ?_
  exact H_66 x1 x2 (x3 + (1 : Int32)) μ8
set_option maxHeartbeats 4000000 in
set_option maxRecDepth 100000 in
theorem p_X10_fewest_66 (G : am_G) (l : Launch) (d : Nat) (hd0 : 109 ≤ d) (N : Nat) (r_36 : Int32 → Int32 → am_M → Option (Int32 × am_M)) (r_66 : Int32 → Int32 → Int32 → am_M → Option (Int32 × am_M)) (H_36 : ∀ (x1 : Int32) (x2 : Int32) (μ : am_M), sm_P G l am_ci d me_X10_fewest 36 [(0, .ref (am_ad G 10 0)), (1, .int x1), (2, .int x2)] [] μ (r_36 x1 x2 μ)) (H_66 : ∀ (x1 : Int32) (x2 : Int32) (x3 : Int32) (μ : am_M), sm_P G l am_ci d me_X10_fewest 66 [(0, .ref (am_ad G 10 0)), (1, .int x1), (2, .int x2), (3, .int x3)] [] μ (r_66 x1 x2 x3 μ)) (x1 : Int32) (x2 : Int32) (x3 : Int32) (μ : am_M) : sm_P G l am_ci d me_X10_fewest 66 [(0, .ref (am_ad G 10 0)), (1, .int x1), (2, .int x2), (3, .int x3)] [] μ (f_X10_fewest_66 N r_36 r_66 x1 x2 x3 μ) := by
  unfold f_X10_fewest_66
  refine sm_iload_n (pc := 66) dX10_fewest_66 rfl 3 rfl ?_
  refine sm_aload_n (pc := 67) dX10_fewest_67 rfl 0 rfl ?_
  refine sm_geti (pc := 68) dX10_fewest_68 fi_X10_102 ?_
  refine sm_icmp_ge (pc := 71) (tgt := 108) dX10_fewest_71 (by decide) ?_ ?_
  · refine sm_aload_n (pc := 108) dX10_fewest_108 rfl 0 rfl ?_
    refine sm_callVv (pc := 109) (As := []) (rest := []) dX10_fewest_109 (c_X10_findWanted G l N μ) (by omega) wl_X10_257 vm_X10_findWanted rfl rfl (Nat.le_of_ble_eq_true rfl) (fun _ μ4 => ?_)
    refine sm_aload_n (pc := 112) dX10_fewest_112 rfl 0 rfl ?_
    refine sm_callVi (pc := 113) (As := []) (rest := []) dX10_fewest_113 (c_X10_isGone G l N μ4) (by omega) wl_X10_321 vm_X10_isGone rfl rfl (Nat.le_of_ble_eq_true rfl) (fun y6 μ5 => ?_)
    refine sm_if_eq (pc := 116) (tgt := 123) dX10_fewest_116 (by decide) ?_ ?_
    · refine sm_iload_n (pc := 123) dX10_fewest_123 rfl 2 rfl ?_
      refine sm_sub [0, 2] rfl ?_
      exact p_X10_fewest_124 G l d hd0 N r_36 H_36 x2 x2 μ5
    · refine sm_iload_n (pc := 119) dX10_fewest_119 rfl 1 rfl ?_
      refine sm_goto (pc := 120) (tgt := 124) dX10_fewest_120 (by decide) ?_
      refine sm_sub [0, 2] rfl ?_
      exact p_X10_fewest_124 G l d hd0 N r_36 H_36 x2 x1 μ5
  · refine sm_aload_n (pc := 74) dX10_fewest_74 rfl 0 rfl ?_
    refine sm_getr (pc := 75) dX10_fewest_75 fi_X10_9 ?_
    refine sm_bipush (pc := 78) dX10_fewest_78 (v := 12) (by decide) ?_
    refine sm_iload_n (pc := 80) dX10_fewest_80 rfl 3 rfl ?_
    refine sm_iadd (pc := 81) dX10_fewest_81 ?_
    refine sm_iload_n (pc := 82) dX10_fewest_82 rfl 2 rfl ?_
    refine sm_iload_n (pc := 83) dX10_fewest_83 rfl 3 rfl ?_
    refine sm_ishr (pc := 84) dX10_fewest_84 ?_
    refine sm_iconst (pc := 85) dX10_fewest_85 (v := 1) (by decide) ?_
    refine sm_iand (pc := 86) dX10_fewest_86 ?_
    refine sm_iconst (pc := 87) dX10_fewest_87 (v := 1) (by decide) ?_
    refine sm_icmp_ne (pc := 88) (tgt := 100) dX10_fewest_88 (by decide) ?_ ?_
    · refine sm_iconst (pc := 100) dX10_fewest_100 (v := 0) (by decide) ?_
      exact p_X10_fewest_101 G l d hd0 N r_36 r_66 H_36 H_66 x1 x2 x3 (0 : Int32) ((12 : Int32) + x3) μ
    · refine sm_aload_n (pc := 91) dX10_fewest_91 rfl 0 rfl ?_
      refine sm_getr (pc := 92) dX10_fewest_92 fi_X10_71 ?_
      refine sm_iload_n (pc := 95) dX10_fewest_95 rfl 3 rfl ?_
      refine sm_iald (pc := 96) dX10_fewest_96 ly_201 (by decide) (fun j9 hj9 => ?_)
      refine sm_goto (pc := 97) (tgt := 101) dX10_fewest_97 (by decide) ?_
      exact p_X10_fewest_101 G l d hd0 N r_36 r_66 H_36 H_66 x1 x2 x3 (μ.1 201 0 j9) ((12 : Int32) + x3) μ
theorem p_X10_fewest_66_lp (G : am_G) (l : Launch) (d : Nat) (hd0 : 109 ≤ d) (N : Nat) (r_36 : Int32 → Int32 → am_M → Option (Int32 × am_M)) (H_36 : ∀ (x1 : Int32) (x2 : Int32) (μ : am_M), sm_P G l am_ci d me_X10_fewest 36 [(0, .ref (am_ad G 10 0)), (1, .int x1), (2, .int x2)] [] μ (r_36 x1 x2 μ)) : ∀ (n : Nat) (x1 : Int32) (x2 : Int32) (x3 : Int32) (μ : am_M), sm_P G l am_ci d me_X10_fewest 66 [(0, .ref (am_ad G 10 0)), (1, .int x1), (2, .int x2), (3, .int x3)] [] μ (f_X10_fewest_66_lp N r_36 n x1 x2 x3 μ) := by
  intro n
  induction n with
  | zero => intros; exact sm_none
  | succ n ih => exact fun x1 x2 x3 μ => p_X10_fewest_66 G l d hd0 N r_36 (f_X10_fewest_66_lp N r_36 n) H_36 ih x1 x2 x3 μ
set_option maxHeartbeats 4000000 in
set_option maxRecDepth 100000 in
theorem p_X10_fewest_64 (G : am_G) (l : Launch) (d : Nat) (hd0 : 109 ≤ d) (N : Nat) (r_36 : Int32 → Int32 → am_M → Option (Int32 × am_M)) (H_36 : ∀ (x1 : Int32) (x2 : Int32) (μ : am_M), sm_P G l am_ci d me_X10_fewest 36 [(0, .ref (am_ad G 10 0)), (1, .int x1), (2, .int x2)] [] μ (r_36 x1 x2 μ)) (x1 : Int32) (x2 : Int32) (μ : am_M) : sm_P G l am_ci d me_X10_fewest 64 [(0, .ref (am_ad G 10 0)), (1, .int x1), (2, .int x2)] [] μ (f_X10_fewest_64 N r_36 x1 x2 μ) := by
  unfold f_X10_fewest_64
  refine sm_iconst (pc := 64) dX10_fewest_64 (v := 0) (by decide) ?_
  refine sm_istore_n (pc := 65) (lv' := [(3, .int (0 : Int32)), (0, .ref (am_ad G 10 0)), (1, .int x1), (2, .int x2)]) dX10_fewest_65 rfl (by decide) rfl ?_
  refine sm_sub [1, 2, 3, 0] rfl ?_
  exact p_X10_fewest_66_lp G l d hd0 N r_36 H_36 N x1 x2 (0 : Int32) μ
set_option maxHeartbeats 4000000 in
set_option maxRecDepth 100000 in
theorem p_X10_fewest_36 (G : am_G) (l : Launch) (d : Nat) (hd0 : 109 ≤ d) (N : Nat) (r_36 : Int32 → Int32 → am_M → Option (Int32 × am_M)) (H_36 : ∀ (x1 : Int32) (x2 : Int32) (μ : am_M), sm_P G l am_ci d me_X10_fewest 36 [(0, .ref (am_ad G 10 0)), (1, .int x1), (2, .int x2)] [] μ (r_36 x1 x2 μ)) (x1 : Int32) (x2 : Int32) (μ : am_M) : sm_P G l am_ci d me_X10_fewest 36 [(0, .ref (am_ad G 10 0)), (1, .int x1), (2, .int x2)] [] μ (f_X10_fewest_36 N r_36 x1 x2 μ) := by
  unfold f_X10_fewest_36
  refine sm_iload_n (pc := 36) dX10_fewest_36 rfl 2 rfl ?_
  refine sm_iconst (pc := 37) dX10_fewest_37 (v := 1) (by decide) ?_
  refine sm_aload_n (pc := 38) dX10_fewest_38 rfl 0 rfl ?_
  refine sm_geti (pc := 39) dX10_fewest_39 fi_X10_102 ?_
  refine sm_ishl (pc := 42) dX10_fewest_42 ?_
  refine sm_icmp_ge (pc := 43) (tgt := 131) dX10_fewest_43 (by decide) ?_ ?_
  · refine sm_iconst (pc := 131) dX10_fewest_131 (v := 0) (by decide) ?_
    refine sm_istore_n (pc := 132) (lv' := [(2, .int (0 : Int32)), (0, .ref (am_ad G 10 0)), (1, .int x1)]) dX10_fewest_132 rfl (by decide) rfl ?_
    refine sm_sub [1, 2, 0] rfl ?_
    exact p_X10_fewest_133_lp G l d hd0 N N x1 (0 : Int32) μ
  · refine sm_iload_n (pc := 46) dX10_fewest_46 rfl 1 rfl ?_
    refine sm_if_lt (pc := 47) (tgt := 64) dX10_fewest_47 (by decide) ?_ ?_
    · exact p_X10_fewest_64 G l d hd0 N r_36 H_36 x1 x2 μ
    · refine sm_iload_n (pc := 50) dX10_fewest_50 rfl 2 rfl ?_
      refine sm_callSi (pc := 51) (As := [.int x2]) (rest := []) dX10_fewest_51 (c_X10_bitsOf G l N x2 μ) (by omega) wl_X10_318 st_X10_bitsOf rfl rfl (Nat.le_of_ble_eq_true rfl) (fun y11 μ10 => ?_)
      refine sm_iload_n (pc := 54) dX10_fewest_54 rfl 1 rfl ?_
      refine sm_callSi (pc := 55) (As := [.int x1]) (rest := [.int y11]) dX10_fewest_55 (c_X10_bitsOf G l N x1 μ10) (by omega) wl_X10_318 st_X10_bitsOf rfl rfl (Nat.le_of_ble_eq_true rfl) (fun y13 μ12 => ?_)
      refine sm_icmp_lt (pc := 58) (tgt := 64) dX10_fewest_58 (by decide) ?_ ?_
      · exact p_X10_fewest_64 G l d hd0 N r_36 H_36 x1 x2 μ12
      · refine sm_goto (pc := 61) (tgt := 125) dX10_fewest_61 (by decide) ?_
        exact p_X10_fewest_125 G l d hd0 N r_36 H_36 x1 x2 μ12
theorem p_X10_fewest_36_lp (G : am_G) (l : Launch) (d : Nat) (hd0 : 109 ≤ d) (N : Nat) : ∀ (n : Nat) (x1 : Int32) (x2 : Int32) (μ : am_M), sm_P G l am_ci d me_X10_fewest 36 [(0, .ref (am_ad G 10 0)), (1, .int x1), (2, .int x2)] [] μ (f_X10_fewest_36_lp N n x1 x2 μ) := by
  intro n
  induction n with
  | zero => intros; exact sm_none
  | succ n ih => exact fun x1 x2 μ => p_X10_fewest_36 G l d hd0 N (f_X10_fewest_36_lp N n) ih x1 x2 μ
set_option maxHeartbeats 4000000 in
set_option maxRecDepth 100000 in
theorem p_X10_fewest_5 (G : am_G) (l : Launch) (d : Nat) (hd0 : 109 ≤ d) (N : Nat) (r_5 : Int32 → Int32 → am_M → Option (Int32 × am_M)) (H_5 : ∀ (x1 : Int32) (x2 : Int32) (μ : am_M), sm_P G l am_ci d me_X10_fewest 5 [(0, .ref (am_ad G 10 0)), (1, .int x1), (2, .int x2)] [] μ (r_5 x1 x2 μ)) (x1 : Int32) (x2 : Int32) (μ : am_M) : sm_P G l am_ci d me_X10_fewest 5 [(0, .ref (am_ad G 10 0)), (1, .int x1), (2, .int x2)] [] μ (f_X10_fewest_5 N r_5 x1 x2 μ) := by
  unfold f_X10_fewest_5
  refine sm_iload_n (pc := 5) dX10_fewest_5 rfl 2 rfl ?_
  refine sm_aload_n (pc := 6) dX10_fewest_6 rfl 0 rfl ?_
  refine sm_geti (pc := 7) dX10_fewest_7 fi_X10_102 ?_
  refine sm_icmp_ge (pc := 10) (tgt := 34) dX10_fewest_10 (by decide) ?_ ?_
  · refine sm_iconst (pc := 34) dX10_fewest_34 (v := 0) (by decide) ?_
    refine sm_istore_n (pc := 35) (lv' := [(2, .int (0 : Int32)), (0, .ref (am_ad G 10 0)), (1, .int x1)]) dX10_fewest_35 rfl (by decide) rfl ?_
    refine sm_sub [1, 2, 0] rfl ?_
    exact p_X10_fewest_36_lp G l d hd0 N N x1 (0 : Int32) μ
  · refine sm_aload_n (pc := 13) dX10_fewest_13 rfl 0 rfl ?_
    refine sm_getr (pc := 14) dX10_fewest_14 fi_X10_71 ?_
    refine sm_iload_n (pc := 17) dX10_fewest_17 rfl 2 rfl ?_
    refine sm_aload_n (pc := 18) dX10_fewest_18 rfl 0 rfl ?_
    refine sm_getr (pc := 19) dX10_fewest_19 fi_X10_9 ?_
    refine sm_bipush (pc := 22) dX10_fewest_22 (v := 12) (by decide) ?_
    refine sm_iload_n (pc := 24) dX10_fewest_24 rfl 2 rfl ?_
    refine sm_iadd (pc := 25) dX10_fewest_25 ?_
    refine sm_iald (pc := 26) dX10_fewest_26 ly_160 (by decide) (fun j14 hj14 => ?_)
    refine sm_iast (pc := 27) dX10_fewest_27 ly_201 (by decide) (fun j15 hj15 => ?_)
    refine sm_nmM (fun μ16 => ?_)
    refine sm_iinc (pc := 28) (v := (x2 + (1 : Int32))) (lv' := [(2, .int (x2 + (1 : Int32))), (0, .ref (am_ad G 10 0)), (1, .int x1)]) dX10_fewest_28 2 rfl rfl (by decide) rfl ?_
    refine sm_goto (pc := 31) (tgt := 5) dX10_fewest_31 (by decide) ?_
    refine sm_sub [1, 2, 0] rfl ?_
    exact H_5 x1 (x2 + (1 : Int32)) μ16
theorem p_X10_fewest_5_lp (G : am_G) (l : Launch) (d : Nat) (hd0 : 109 ≤ d) (N : Nat) : ∀ (n : Nat) (x1 : Int32) (x2 : Int32) (μ : am_M), sm_P G l am_ci d me_X10_fewest 5 [(0, .ref (am_ad G 10 0)), (1, .int x1), (2, .int x2)] [] μ (f_X10_fewest_5_lp N n x1 x2 μ) := by
  intro n
  induction n with
  | zero => intros; exact sm_none
  | succ n ih => exact fun x1 x2 μ => p_X10_fewest_5 G l d hd0 N (f_X10_fewest_5_lp N n) ih x1 x2 μ
set_option maxHeartbeats 4000000 in
set_option maxRecDepth 100000 in
theorem p_X10_fewest_0 (G : am_G) (l : Launch) (d : Nat) (hd0 : 109 ≤ d) (N : Nat) (μ : am_M) : sm_P G l am_ci d me_X10_fewest 0 [(0, .ref (am_ad G 10 0))] [] μ (f_X10_fewest_0 N μ) := by
  unfold f_X10_fewest_0
  refine sm_bipush (pc := 0) dX10_fewest_0 (v := -2) (by decide) ?_
  refine sm_istore_n (pc := 2) (lv' := [(1, .int (-2 : Int32)), (0, .ref (am_ad G 10 0))]) dX10_fewest_2 rfl (by decide) rfl ?_
  refine sm_iconst (pc := 3) dX10_fewest_3 (v := 0) (by decide) ?_
  refine sm_istore_n (pc := 4) (lv' := [(2, .int (0 : Int32)), (1, .int (-2 : Int32)), (0, .ref (am_ad G 10 0))]) dX10_fewest_4 rfl (by decide) rfl ?_
  refine sm_sub [2, 1, 0] rfl ?_
  exact p_X10_fewest_5_lp G l d hd0 N N (-2 : Int32) (0 : Int32) μ
theorem c_X10_fewest (G : am_G) (l : Launch) (N : Nat) (μ : am_M) : ct_P G l am_ci 109 me_X10_fewest [.ref (am_ad G 10 0)] μ (f_X10_fewest N μ) := ct_of (by decide +kernel) (Nat.le_of_ble_eq_true rfl) rfl (p_X10_fewest_0 G l 109 (Nat.le_refl _) N μ)

def f_X10_least_48 (N : Nat) (r_18 : Int32 → Int32 → Int32 → am_M → Option (Int32 × am_M)) (x1 : Int32) (x3 : Int32) (s0 : Int32) (s1 : Int32) (μ : am_M) : Option (Int32 × am_M) :=
am_nm (s1 ||| s0) (fun y5 => r_18 x1 y5 (x3 + (1 : Int32)) μ)
def f_X10_least_18 (N : Nat) (r_18 : Int32 → Int32 → Int32 → am_M → Option (Int32 × am_M)) (x1 : Int32) (x2 : Int32) (x3 : Int32) (μ : am_M) : Option (Int32 × am_M) :=
if (μ.1 10 0 8) ≤ x3 then (some (x2, μ)) else (am_gd (((6 : Int32) * x3) + x1) 30 (fun j4 => if (μ.1 194 0 j4) ≤ 0 then (f_X10_least_48 N r_18 x1 x3 (0 : Int32) x2 μ) else (f_X10_least_48 N r_18 x1 x3 ((1 : Int32) <<< (x3 &&& 31)) x2 μ)))
def f_X10_least_18_lp (N : Nat) : Nat → Int32 → Int32 → Int32 → am_M → Option (Int32 × am_M)
  | 0, _, _, _, _ => none
  | n + 1, x1, x2, x3, μ => f_X10_least_18 N (f_X10_least_18_lp N n) x1 x2 x3 μ
def f_X10_least_0 (N : Nat) (a1 : Int32) (μ : am_M) : Option (Int32 × am_M) :=
am_bd (f_X10_isThing N a1 μ) (fun y2 μ1 => if y2 = 0 then (some ((-1 : Int32), μ1)) else (am_bd (f_X10_findWanted N μ1) (fun _ μ3 => f_X10_least_18_lp N N a1 (0 : Int32) (0 : Int32) μ3)))
def f_X10_least (N : Nat) (a1 : Int32) (μ : am_M) : Option (Int32 × am_M) := f_X10_least_0 N a1 μ
set_option maxHeartbeats 4000000 in
set_option maxRecDepth 100000 in
theorem p_X10_least_48 (G : am_G) (l : Launch) (d : Nat) (hd0 : 109 ≤ d) (N : Nat) (r_18 : Int32 → Int32 → Int32 → am_M → Option (Int32 × am_M)) (H_18 : ∀ (x1 : Int32) (x2 : Int32) (x3 : Int32) (μ : am_M), sm_P G l am_ci d me_X10_least 18 [(0, .ref (am_ad G 10 0)), (1, .int x1), (2, .int x2), (3, .int x3)] [] μ (r_18 x1 x2 x3 μ)) (x1 : Int32) (x3 : Int32) (s0 : Int32) (s1 : Int32) (μ : am_M) : sm_P G l am_ci d me_X10_least 48 [(0, .ref (am_ad G 10 0)), (1, .int x1), (3, .int x3)] [.int s0, .int s1] μ (f_X10_least_48 N r_18 x1 x3 s0 s1 μ) := by
  unfold f_X10_least_48
  refine sm_ior (pc := 48) dX10_least_48 ?_
  refine sm_nmI (fun y5 => ?_)
  refine sm_istore_n (pc := 49) (lv' := [(2, .int y5), (0, .ref (am_ad G 10 0)), (1, .int x1), (3, .int x3)]) dX10_least_49 rfl (by decide) rfl ?_
  refine sm_iinc (pc := 50) (v := (x3 + (1 : Int32))) (lv' := [(3, .int (x3 + (1 : Int32))), (2, .int y5), (0, .ref (am_ad G 10 0)), (1, .int x1)]) dX10_least_50 3 rfl rfl (by decide) rfl ?_
  refine sm_goto (pc := 53) (tgt := 18) dX10_least_53 (by decide) ?_
  refine sm_sub [2, 3, 1, 0] rfl ?_
  exact H_18 x1 y5 (x3 + (1 : Int32)) μ
set_option maxHeartbeats 4000000 in
set_option maxRecDepth 100000 in
theorem p_X10_least_18 (G : am_G) (l : Launch) (d : Nat) (hd0 : 109 ≤ d) (N : Nat) (r_18 : Int32 → Int32 → Int32 → am_M → Option (Int32 × am_M)) (H_18 : ∀ (x1 : Int32) (x2 : Int32) (x3 : Int32) (μ : am_M), sm_P G l am_ci d me_X10_least 18 [(0, .ref (am_ad G 10 0)), (1, .int x1), (2, .int x2), (3, .int x3)] [] μ (r_18 x1 x2 x3 μ)) (x1 : Int32) (x2 : Int32) (x3 : Int32) (μ : am_M) : sm_P G l am_ci d me_X10_least 18 [(0, .ref (am_ad G 10 0)), (1, .int x1), (2, .int x2), (3, .int x3)] [] μ (f_X10_least_18 N r_18 x1 x2 x3 μ) := by
  unfold f_X10_least_18
  refine sm_iload_n (pc := 18) dX10_least_18 rfl 3 rfl ?_
  refine sm_aload_n (pc := 19) dX10_least_19 rfl 0 rfl ?_
  refine sm_geti (pc := 20) dX10_least_20 fi_X10_109 ?_
  refine sm_icmp_ge (pc := 23) (tgt := 56) dX10_least_23 (by decide) ?_ ?_
  · refine sm_iload_n (pc := 56) dX10_least_56 rfl 2 rfl ?_
    exact sm_iret (pc := 57) dX10_least_57 rfl
  · refine sm_iload_n (pc := 26) dX10_least_26 rfl 2 rfl ?_
    refine sm_aload_n (pc := 27) dX10_least_27 rfl 0 rfl ?_
    refine sm_getr (pc := 28) dX10_least_28 fi_X10_62 ?_
    refine sm_bipush (pc := 31) dX10_least_31 (v := 6) (by decide) ?_
    refine sm_iload_n (pc := 33) dX10_least_33 rfl 3 rfl ?_
    refine sm_imul (pc := 34) dX10_least_34 ?_
    refine sm_iload_n (pc := 35) dX10_least_35 rfl 1 rfl ?_
    refine sm_iadd (pc := 36) dX10_least_36 ?_
    refine sm_iald (pc := 37) dX10_least_37 ly_194 (by decide) (fun j4 hj4 => ?_)
    refine sm_if_le (pc := 38) (tgt := 47) dX10_least_38 (by decide) ?_ ?_
    · refine sm_iconst (pc := 47) dX10_least_47 (v := 0) (by decide) ?_
      refine sm_sub [0, 1, 3] rfl ?_
      exact p_X10_least_48 G l d hd0 N r_18 H_18 x1 x3 (0 : Int32) x2 μ
    · refine sm_iconst (pc := 41) dX10_least_41 (v := 1) (by decide) ?_
      refine sm_iload_n (pc := 42) dX10_least_42 rfl 3 rfl ?_
      refine sm_ishl (pc := 43) dX10_least_43 ?_
      refine sm_goto (pc := 44) (tgt := 48) dX10_least_44 (by decide) ?_
      refine sm_sub [0, 1, 3] rfl ?_
      exact p_X10_least_48 G l d hd0 N r_18 H_18 x1 x3 ((1 : Int32) <<< (x3 &&& 31)) x2 μ
theorem p_X10_least_18_lp (G : am_G) (l : Launch) (d : Nat) (hd0 : 109 ≤ d) (N : Nat) : ∀ (n : Nat) (x1 : Int32) (x2 : Int32) (x3 : Int32) (μ : am_M), sm_P G l am_ci d me_X10_least 18 [(0, .ref (am_ad G 10 0)), (1, .int x1), (2, .int x2), (3, .int x3)] [] μ (f_X10_least_18_lp N n x1 x2 x3 μ) := by
  intro n
  induction n with
  | zero => intros; exact sm_none
  | succ n ih => exact fun x1 x2 x3 μ => p_X10_least_18 G l d hd0 N (f_X10_least_18_lp N n) ih x1 x2 x3 μ
set_option maxHeartbeats 4000000 in
set_option maxRecDepth 100000 in
theorem p_X10_least_0 (G : am_G) (l : Launch) (d : Nat) (hd0 : 109 ≤ d) (N : Nat) (a1 : Int32) (μ : am_M) : sm_P G l am_ci d me_X10_least 0 [(0, .ref (am_ad G 10 0)), (1, .int a1)] [] μ (f_X10_least_0 N a1 μ) := by
  unfold f_X10_least_0
  refine sm_aload_n (pc := 0) dX10_least_0 rfl 0 rfl ?_
  refine sm_iload_n (pc := 1) dX10_least_1 rfl 1 rfl ?_
  refine sm_callVi (pc := 2) (As := [.int a1]) (rest := []) dX10_least_2 (c_X10_isThing G l N a1 μ) (by omega) wl_X10_132 vm_X10_isThing rfl rfl (Nat.le_of_ble_eq_true rfl) (fun y2 μ1 => ?_)
  refine sm_if_ne (pc := 5) (tgt := 10) dX10_least_5 (by decide) ?_ ?_
  · refine sm_aload_n (pc := 10) dX10_least_10 rfl 0 rfl ?_
    refine sm_callVv (pc := 11) (As := []) (rest := []) dX10_least_11 (c_X10_findWanted G l N μ1) (by omega) wl_X10_257 vm_X10_findWanted rfl rfl (Nat.le_of_ble_eq_true rfl) (fun _ μ3 => ?_)
    refine sm_iconst (pc := 14) dX10_least_14 (v := 0) (by decide) ?_
    refine sm_istore_n (pc := 15) (lv' := [(2, .int (0 : Int32)), (0, .ref (am_ad G 10 0)), (1, .int a1)]) dX10_least_15 rfl (by decide) rfl ?_
    refine sm_iconst (pc := 16) dX10_least_16 (v := 0) (by decide) ?_
    refine sm_istore_n (pc := 17) (lv' := [(3, .int (0 : Int32)), (2, .int (0 : Int32)), (0, .ref (am_ad G 10 0)), (1, .int a1)]) dX10_least_17 rfl (by decide) rfl ?_
    refine sm_sub [2, 3, 1, 0] rfl ?_
    exact p_X10_least_18_lp G l d hd0 N N a1 (0 : Int32) (0 : Int32) μ3
  · refine sm_iconst (pc := 8) dX10_least_8 (v := -1) (by decide) ?_
    exact sm_iret (pc := 9) dX10_least_9 rfl
theorem c_X10_least (G : am_G) (l : Launch) (N : Nat) (a1 : Int32) (μ : am_M) : ct_P G l am_ci 109 me_X10_least [.ref (am_ad G 10 0), .int a1] μ (f_X10_least N a1 μ) := ct_of (by decide +kernel) (Nat.le_of_ble_eq_true rfl) rfl (p_X10_least_0 G l 109 (Nat.le_refl _) N a1 μ)

def f_X10_months_125 (N : Nat) (r_53 : Int32 → Int32 → Int32 → Int32 → Int32 → Int32 → Int32 → Int32 → am_M → Option (Int32 × am_M)) (x1 : Int32) (x2 : Int32) (x3 : Int32) (x4 : Int32) (x5 : Int32) (x6 : Int32) (x8 : Int32) (x11 : Int32) (s0 : Int32) (μ : am_M) : Option (Int32 × am_M) :=
am_nm (x6 + (x11 - s0)) (fun y18 => r_53 x1 x2 x3 x4 x5 y18 s0 (x8 + (1 : Int32)) μ)
def f_X10_months_53 (N : Nat) (r_53 : Int32 → Int32 → Int32 → Int32 → Int32 → Int32 → Int32 → Int32 → am_M → Option (Int32 × am_M)) (x1 : Int32) (x2 : Int32) (x3 : Int32) (x4 : Int32) (x5 : Int32) (x6 : Int32) (x7 : Int32) (x8 : Int32) (μ : am_M) : Option (Int32 × am_M) :=
if x2 ≤ x8 then (if x4 = 0 then (some (x5, μ)) else (some (x6, μ))) else (am_bd (f_X10_pointsInAll N x1 μ) (fun y10 μ9 => am_nm (y10 + x7) (fun y11 => am_bd (f_X10_purseOf N x1 μ9) (fun y13 μ12 => am_bd (f_X10_findBest N x1 y13 y11 μ12) (fun y15 μ14 => am_nm (x5 + (μ14.1 10 0 30)) (fun y16 => am_nm (y11 - (μ14.1 10 0 32)) (fun y17 => if (x8 + (1 : Int32)) = x2 then (f_X10_months_125 N r_53 x1 x2 x3 x4 y16 x6 x8 y17 (0 : Int32) μ14) else (if x3 ≤ y17 then (f_X10_months_125 N r_53 x1 x2 x3 x4 y16 x6 x8 y17 x3 μ14) else (f_X10_months_125 N r_53 x1 x2 x3 x4 y16 x6 x8 y17 y17 μ14)))))))))
def f_X10_months_53_lp (N : Nat) : Nat → Int32 → Int32 → Int32 → Int32 → Int32 → Int32 → Int32 → Int32 → am_M → Option (Int32 × am_M)
  | 0, _, _, _, _, _, _, _, _, _ => none
  | n + 1, x1, x2, x3, x4, x5, x6, x7, x8, μ => f_X10_months_53 N (f_X10_months_53_lp N n) x1 x2 x3 x4 x5 x6 x7 x8 μ
def f_X10_months_0 (N : Nat) (a1 : Int32) (a2 : Int32) (a3 : Int32) (a4 : Int32) (μ : am_M) : Option (Int32 × am_M) :=
am_bd (f_X10_isSort N a1 μ) (fun y2 μ1 => if y2 = 0 then (some ((-1 : Int32), μ1)) else (am_bd (f_X10_within N a2.toInt64 (1 : Int64) (12 : Int64) μ1) (fun y4 μ3 => if y4 = 0 then (some ((-1 : Int32), μ3)) else (am_bd (f_X10_isTwo N a3.toInt64 μ3) (fun y6 μ5 => if y6 = 0 then (some ((-1 : Int32), μ5)) else (am_bd (f_X10_within N a4.toInt64 (0 : Int64) (1 : Int64) μ5) (fun y8 μ7 => if y8 = 0 then (some ((-1 : Int32), μ7)) else (f_X10_months_53_lp N N a1 a2 a3 a4 (0 : Int32) (0 : Int32) (0 : Int32) (0 : Int32) μ7))))))))
def f_X10_months (N : Nat) (a1 : Int32) (a2 : Int32) (a3 : Int32) (a4 : Int32) (μ : am_M) : Option (Int32 × am_M) := f_X10_months_0 N a1 a2 a3 a4 μ
set_option maxHeartbeats 4000000 in
set_option maxRecDepth 100000 in
theorem p_X10_months_125 (G : am_G) (l : Launch) (d : Nat) (hd0 : 107 ≤ d) (N : Nat) (r_53 : Int32 → Int32 → Int32 → Int32 → Int32 → Int32 → Int32 → Int32 → am_M → Option (Int32 × am_M)) (H_53 : ∀ (x1 : Int32) (x2 : Int32) (x3 : Int32) (x4 : Int32) (x5 : Int32) (x6 : Int32) (x7 : Int32) (x8 : Int32) (μ : am_M), sm_P G l am_ci d me_X10_months 53 [(0, .ref (am_ad G 10 0)), (1, .int x1), (2, .int x2), (3, .int x3), (4, .int x4), (5, .int x5), (6, .int x6), (7, .int x7), (8, .int x8)] [] μ (r_53 x1 x2 x3 x4 x5 x6 x7 x8 μ)) (x1 : Int32) (x2 : Int32) (x3 : Int32) (x4 : Int32) (x5 : Int32) (x6 : Int32) (x8 : Int32) (x11 : Int32) (s0 : Int32) (μ : am_M) : sm_P G l am_ci d me_X10_months 125 [(0, .ref (am_ad G 10 0)), (1, .int x1), (2, .int x2), (3, .int x3), (4, .int x4), (5, .int x5), (6, .int x6), (8, .int x8), (11, .int x11)] [.int s0] μ (f_X10_months_125 N r_53 x1 x2 x3 x4 x5 x6 x8 x11 s0 μ) := by
  unfold f_X10_months_125
  refine sm_istore (pc := 125) (lv' := [(7, .int s0), (0, .ref (am_ad G 10 0)), (1, .int x1), (2, .int x2), (3, .int x3), (4, .int x4), (5, .int x5), (6, .int x6), (8, .int x8), (11, .int x11)]) dX10_months_125 (by decide) rfl ?_
  refine sm_iload (pc := 127) dX10_months_127 7 rfl ?_
  refine sm_iload (pc := 129) dX10_months_129 9 rfl ?_
  refine sm_iload (pc := 131) dX10_months_131 0 rfl ?_
  refine sm_isub (pc := 133) dX10_months_133 ?_
  refine sm_iadd (pc := 134) dX10_months_134 ?_
  refine sm_nmI (fun y18 => ?_)
  refine sm_istore (pc := 135) (lv' := [(6, .int y18), (7, .int s0), (0, .ref (am_ad G 10 0)), (1, .int x1), (2, .int x2), (3, .int x3), (4, .int x4), (5, .int x5), (8, .int x8), (11, .int x11)]) dX10_months_135 (by decide) rfl ?_
  refine sm_iinc (pc := 137) (v := (x8 + (1 : Int32))) (lv' := [(8, .int (x8 + (1 : Int32))), (6, .int y18), (7, .int s0), (0, .ref (am_ad G 10 0)), (1, .int x1), (2, .int x2), (3, .int x3), (4, .int x4), (5, .int x5), (11, .int x11)]) dX10_months_137 8 rfl rfl (by decide) rfl ?_
  refine sm_goto (pc := 140) (tgt := 53) dX10_months_140 (by decide) ?_
  refine sm_sub [3, 4, 5, 6, 7, 8, 1, 2, 0] rfl ?_
  exact H_53 x1 x2 x3 x4 x5 y18 s0 (x8 + (1 : Int32)) μ
set_option maxHeartbeats 4000000 in
set_option maxRecDepth 100000 in
theorem p_X10_months_53 (G : am_G) (l : Launch) (d : Nat) (hd0 : 107 ≤ d) (N : Nat) (r_53 : Int32 → Int32 → Int32 → Int32 → Int32 → Int32 → Int32 → Int32 → am_M → Option (Int32 × am_M)) (H_53 : ∀ (x1 : Int32) (x2 : Int32) (x3 : Int32) (x4 : Int32) (x5 : Int32) (x6 : Int32) (x7 : Int32) (x8 : Int32) (μ : am_M), sm_P G l am_ci d me_X10_months 53 [(0, .ref (am_ad G 10 0)), (1, .int x1), (2, .int x2), (3, .int x3), (4, .int x4), (5, .int x5), (6, .int x6), (7, .int x7), (8, .int x8)] [] μ (r_53 x1 x2 x3 x4 x5 x6 x7 x8 μ)) (x1 : Int32) (x2 : Int32) (x3 : Int32) (x4 : Int32) (x5 : Int32) (x6 : Int32) (x7 : Int32) (x8 : Int32) (μ : am_M) : sm_P G l am_ci d me_X10_months 53 [(0, .ref (am_ad G 10 0)), (1, .int x1), (2, .int x2), (3, .int x3), (4, .int x4), (5, .int x5), (6, .int x6), (7, .int x7), (8, .int x8)] [] μ (f_X10_months_53 N r_53 x1 x2 x3 x4 x5 x6 x7 x8 μ) := by
  unfold f_X10_months_53
  refine sm_iload (pc := 53) dX10_months_53 8 rfl ?_
  refine sm_iload_n (pc := 55) dX10_months_55 rfl 2 rfl ?_
  refine sm_icmp_ge (pc := 56) (tgt := 143) dX10_months_56 (by decide) ?_ ?_
  · refine sm_iload (pc := 143) dX10_months_143 4 rfl ?_
    refine sm_if_ne (pc := 145) (tgt := 153) dX10_months_145 (by decide) ?_ ?_
    · refine sm_iload (pc := 153) dX10_months_153 6 rfl ?_
      exact sm_iret (pc := 155) dX10_months_155 rfl
    · refine sm_iload (pc := 148) dX10_months_148 5 rfl ?_
      refine sm_goto (pc := 150) (tgt := 155) dX10_months_150 (by decide) ?_
      exact sm_iret (pc := 155) dX10_months_155 rfl
  · refine sm_aload_n (pc := 59) dX10_months_59 rfl 0 rfl ?_
    refine sm_iload_n (pc := 60) dX10_months_60 rfl 1 rfl ?_
    refine sm_callVi (pc := 61) (As := [.int x1]) (rest := []) dX10_months_61 (c_X10_pointsInAll G l N x1 μ) (by omega) wl_X10_153 vm_X10_pointsInAll rfl rfl (Nat.le_of_ble_eq_true rfl) (fun y10 μ9 => ?_)
    refine sm_iload (pc := 64) dX10_months_64 7 rfl ?_
    refine sm_iadd (pc := 66) dX10_months_66 ?_
    refine sm_nmI (fun y11 => ?_)
    refine sm_istore (pc := 67) (lv' := [(9, .int y11), (0, .ref (am_ad G 10 0)), (1, .int x1), (2, .int x2), (3, .int x3), (4, .int x4), (5, .int x5), (6, .int x6), (7, .int x7), (8, .int x8)]) dX10_months_67 (by decide) rfl ?_
    refine sm_aload_n (pc := 69) dX10_months_69 rfl 1 rfl ?_
    refine sm_iload_n (pc := 70) dX10_months_70 rfl 2 rfl ?_
    refine sm_aload_n (pc := 71) dX10_months_71 rfl 1 rfl ?_
    refine sm_iload_n (pc := 72) dX10_months_72 rfl 2 rfl ?_
    refine sm_callVi (pc := 73) (As := [.int x1]) (rest := [.int x1, .ref (am_ad G 10 0)]) dX10_months_73 (c_X10_purseOf G l N x1 μ9) (by omega) wl_X10_149 vm_X10_purseOf rfl rfl (Nat.le_of_ble_eq_true rfl) (fun y13 μ12 => ?_)
    refine sm_iload (pc := 76) dX10_months_76 0 rfl ?_
    refine sm_callVi (pc := 78) (As := [.int x1, .int y13, .int y11]) (rest := []) dX10_months_78 (c_X10_findBest G l N x1 y13 y11 μ12) (by omega) wl_X10_241 vm_X10_findBest rfl rfl (Nat.le_of_ble_eq_true rfl) (fun y15 μ14 => ?_)
    refine sm_istore (pc := 81) (lv' := [(10, .int y15), (9, .int y11), (0, .ref (am_ad G 10 0)), (1, .int x1), (2, .int x2), (3, .int x3), (4, .int x4), (5, .int x5), (6, .int x6), (7, .int x7), (8, .int x8)]) dX10_months_81 (by decide) rfl ?_
    refine sm_iload (pc := 83) dX10_months_83 7 rfl ?_
    refine sm_aload_n (pc := 85) dX10_months_85 rfl 2 rfl ?_
    refine sm_geti (pc := 86) dX10_months_86 fi_X10_232 ?_
    refine sm_iadd (pc := 89) dX10_months_89 ?_
    refine sm_nmI (fun y16 => ?_)
    refine sm_istore (pc := 90) (lv' := [(5, .int y16), (10, .int y15), (9, .int y11), (0, .ref (am_ad G 10 0)), (1, .int x1), (2, .int x2), (3, .int x3), (4, .int x4), (6, .int x6), (7, .int x7), (8, .int x8)]) dX10_months_90 (by decide) rfl ?_
    refine sm_iload (pc := 92) dX10_months_92 2 rfl ?_
    refine sm_aload_n (pc := 94) dX10_months_94 rfl 3 rfl ?_
    refine sm_geti (pc := 95) dX10_months_95 fi_X10_238 ?_
    refine sm_isub (pc := 98) dX10_months_98 ?_
    refine sm_nmI (fun y17 => ?_)
    refine sm_istore (pc := 99) (lv' := [(11, .int y17), (5, .int y16), (10, .int y15), (9, .int y11), (0, .ref (am_ad G 10 0)), (1, .int x1), (2, .int x2), (3, .int x3), (4, .int x4), (6, .int x6), (7, .int x7), (8, .int x8)]) dX10_months_99 (by decide) rfl ?_
    refine sm_iload (pc := 101) dX10_months_101 11 rfl ?_
    refine sm_iconst (pc := 103) dX10_months_103 (v := 1) (by decide) ?_
    refine sm_iadd (pc := 104) dX10_months_104 ?_
    refine sm_iload_n (pc := 105) dX10_months_105 rfl 6 rfl ?_
    refine sm_icmp_ne (pc := 106) (tgt := 113) dX10_months_106 (by decide) ?_ ?_
    · refine sm_iload (pc := 113) dX10_months_113 0 rfl ?_
      refine sm_iload_n (pc := 115) dX10_months_115 rfl 7 rfl ?_
      refine sm_icmp_ge (pc := 116) (tgt := 124) dX10_months_116 (by decide) ?_ ?_
      · refine sm_iload_n (pc := 124) dX10_months_124 rfl 7 rfl ?_
        refine sm_sub [4, 5, 6, 7, 8, 1, 9, 11, 0] rfl ?_
        exact p_X10_months_125 G l d hd0 N r_53 H_53 x1 x2 x3 x4 y16 x6 x8 y17 x3 μ14
      · refine sm_iload (pc := 119) dX10_months_119 0 rfl ?_
        refine sm_goto (pc := 121) (tgt := 125) dX10_months_121 (by decide) ?_
        refine sm_sub [4, 5, 6, 7, 8, 1, 9, 11, 0] rfl ?_
        exact p_X10_months_125 G l d hd0 N r_53 H_53 x1 x2 x3 x4 y16 x6 x8 y17 y17 μ14
    · refine sm_iconst (pc := 109) dX10_months_109 (v := 0) (by decide) ?_
      refine sm_goto (pc := 110) (tgt := 125) dX10_months_110 (by decide) ?_
      refine sm_sub [4, 5, 6, 7, 8, 1, 9, 11, 0] rfl ?_
      exact p_X10_months_125 G l d hd0 N r_53 H_53 x1 x2 x3 x4 y16 x6 x8 y17 (0 : Int32) μ14
theorem p_X10_months_53_lp (G : am_G) (l : Launch) (d : Nat) (hd0 : 107 ≤ d) (N : Nat) : ∀ (n : Nat) (x1 : Int32) (x2 : Int32) (x3 : Int32) (x4 : Int32) (x5 : Int32) (x6 : Int32) (x7 : Int32) (x8 : Int32) (μ : am_M), sm_P G l am_ci d me_X10_months 53 [(0, .ref (am_ad G 10 0)), (1, .int x1), (2, .int x2), (3, .int x3), (4, .int x4), (5, .int x5), (6, .int x6), (7, .int x7), (8, .int x8)] [] μ (f_X10_months_53_lp N n x1 x2 x3 x4 x5 x6 x7 x8 μ) := by
  intro n
  induction n with
  | zero => intros; exact sm_none
  | succ n ih => exact fun x1 x2 x3 x4 x5 x6 x7 x8 μ => p_X10_months_53 G l d hd0 N (f_X10_months_53_lp N n) ih x1 x2 x3 x4 x5 x6 x7 x8 μ
set_option maxHeartbeats 4000000 in
set_option maxRecDepth 100000 in
theorem p_X10_months_0 (G : am_G) (l : Launch) (d : Nat) (hd0 : 107 ≤ d) (N : Nat) (a1 : Int32) (a2 : Int32) (a3 : Int32) (a4 : Int32) (μ : am_M) : sm_P G l am_ci d me_X10_months 0 [(0, .ref (am_ad G 10 0)), (1, .int a1), (2, .int a2), (3, .int a3), (4, .int a4)] [] μ (f_X10_months_0 N a1 a2 a3 a4 μ) := by
  unfold f_X10_months_0
  refine sm_aload_n (pc := 0) dX10_months_0 rfl 0 rfl ?_
  refine sm_iload_n (pc := 1) dX10_months_1 rfl 1 rfl ?_
  refine sm_callVi (pc := 2) (As := [.int a1]) (rest := []) dX10_months_2 (c_X10_isSort G l N a1 μ) (by omega) wl_X10_144 vm_X10_isSort rfl rfl (Nat.le_of_ble_eq_true rfl) (fun y2 μ1 => ?_)
  refine sm_if_eq (pc := 5) (tgt := 39) dX10_months_5 (by decide) ?_ ?_
  · refine sm_iconst (pc := 39) dX10_months_39 (v := -1) (by decide) ?_
    exact sm_iret (pc := 40) dX10_months_40 rfl
  · refine sm_iload_n (pc := 8) dX10_months_8 rfl 2 rfl ?_
    refine sm_i2l (pc := 9) dX10_months_9 ?_
    refine sm_lconst (pc := 10) dX10_months_10 (v := 1) (by decide) ?_
    refine sm_ldc2 (pc := 11) dX10_months_11 (v := 12) wk_X10_325 ?_
    refine sm_callSi (pc := 14) (As := [.long a2.toInt64, .long (1 : Int64), .long (12 : Int64)]) (rest := []) dX10_months_14 (c_X10_within G l N a2.toInt64 (1 : Int64) (12 : Int64) μ1) (by omega) wl_X10_105 st_X10_within rfl rfl (Nat.le_of_ble_eq_true rfl) (fun y4 μ3 => ?_)
    refine sm_if_eq (pc := 17) (tgt := 39) dX10_months_17 (by decide) ?_ ?_
    · refine sm_iconst (pc := 39) dX10_months_39 (v := -1) (by decide) ?_
      exact sm_iret (pc := 40) dX10_months_40 rfl
    · refine sm_iload_n (pc := 20) dX10_months_20 rfl 3 rfl ?_
      refine sm_i2l (pc := 21) dX10_months_21 ?_
      refine sm_callSi (pc := 22) (As := [.long a3.toInt64]) (rest := []) dX10_months_22 (c_X10_isTwo G l N a3.toInt64 μ3) (by omega) wl_X10_118 st_X10_isTwo rfl rfl (Nat.le_of_ble_eq_true rfl) (fun y6 μ5 => ?_)
      refine sm_if_eq (pc := 25) (tgt := 39) dX10_months_25 (by decide) ?_ ?_
      · refine sm_iconst (pc := 39) dX10_months_39 (v := -1) (by decide) ?_
        exact sm_iret (pc := 40) dX10_months_40 rfl
      · refine sm_iload (pc := 28) dX10_months_28 4 rfl ?_
        refine sm_i2l (pc := 30) dX10_months_30 ?_
        refine sm_lconst (pc := 31) dX10_months_31 (v := 0) (by decide) ?_
        refine sm_lconst (pc := 32) dX10_months_32 (v := 1) (by decide) ?_
        refine sm_callSi (pc := 33) (As := [.long a4.toInt64, .long (0 : Int64), .long (1 : Int64)]) (rest := []) dX10_months_33 (c_X10_within G l N a4.toInt64 (0 : Int64) (1 : Int64) μ5) (by omega) wl_X10_105 st_X10_within rfl rfl (Nat.le_of_ble_eq_true rfl) (fun y8 μ7 => ?_)
        refine sm_if_ne (pc := 36) (tgt := 41) dX10_months_36 (by decide) ?_ ?_
        · refine sm_iconst (pc := 41) dX10_months_41 (v := 0) (by decide) ?_
          refine sm_istore (pc := 42) (lv' := [(5, .int (0 : Int32)), (0, .ref (am_ad G 10 0)), (1, .int a1), (2, .int a2), (3, .int a3), (4, .int a4)]) dX10_months_42 (by decide) rfl ?_
          refine sm_iconst (pc := 44) dX10_months_44 (v := 0) (by decide) ?_
          refine sm_istore (pc := 45) (lv' := [(6, .int (0 : Int32)), (5, .int (0 : Int32)), (0, .ref (am_ad G 10 0)), (1, .int a1), (2, .int a2), (3, .int a3), (4, .int a4)]) dX10_months_45 (by decide) rfl ?_
          refine sm_iconst (pc := 47) dX10_months_47 (v := 0) (by decide) ?_
          refine sm_istore (pc := 48) (lv' := [(7, .int (0 : Int32)), (6, .int (0 : Int32)), (5, .int (0 : Int32)), (0, .ref (am_ad G 10 0)), (1, .int a1), (2, .int a2), (3, .int a3), (4, .int a4)]) dX10_months_48 (by decide) rfl ?_
          refine sm_iconst (pc := 50) dX10_months_50 (v := 0) (by decide) ?_
          refine sm_istore (pc := 51) (lv' := [(8, .int (0 : Int32)), (7, .int (0 : Int32)), (6, .int (0 : Int32)), (5, .int (0 : Int32)), (0, .ref (am_ad G 10 0)), (1, .int a1), (2, .int a2), (3, .int a3), (4, .int a4)]) dX10_months_51 (by decide) rfl ?_
          refine sm_sub [4, 5, 6, 7, 8, 3, 2, 1, 0] rfl ?_
          exact p_X10_months_53_lp G l d hd0 N N a1 a2 a3 a4 (0 : Int32) (0 : Int32) (0 : Int32) (0 : Int32) μ7
        · refine sm_iconst (pc := 39) dX10_months_39 (v := -1) (by decide) ?_
          exact sm_iret (pc := 40) dX10_months_40 rfl
theorem c_X10_months (G : am_G) (l : Launch) (N : Nat) (a1 : Int32) (a2 : Int32) (a3 : Int32) (a4 : Int32) (μ : am_M) : ct_P G l am_ci 107 me_X10_months [.ref (am_ad G 10 0), .int a1, .int a2, .int a3, .int a4] μ (f_X10_months N a1 a2 a3 a4 μ) := ct_of (by decide +kernel) (Nat.le_of_ble_eq_true rfl) rfl (p_X10_months_0 G l 107 (Nat.le_refl _) N a1 a2 a3 a4 μ)

