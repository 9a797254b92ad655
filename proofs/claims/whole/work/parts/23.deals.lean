def f_X0_plainWorth_0 (N : Nat) (a1 : Int32) (μ : am_M) : Option (Int32 × am_M) :=
am_bd (f_X7_recall N μ) (fun _ μ1 => am_bd (f_X7_weigh N a1 μ1) (fun _ μ2 => am_bd (f_X7_choose N a1 μ2) (fun _ μ3 => some ((μ3.1 5 0 9), μ3))))
def f_X0_plainWorth (N : Nat) (a1 : Int32) (μ : am_M) : Option (Int32 × am_M) := f_X0_plainWorth_0 N a1 μ
set_option maxHeartbeats 4000000 in
set_option maxRecDepth 100000 in
theorem p_X0_plainWorth_0 (G : am_G) (l : Launch) (d : Nat) (hd0 : 104 ≤ d) (N : Nat) (a1 : Int32) (μ : am_M) : sm_P G l am_ci d me_X0_plainWorth 0 [(0, .ref (am_ad G 7 0)), (1, .int a1)] [] μ (f_X0_plainWorth_0 N a1 μ) := by
  unfold f_X0_plainWorth_0
  refine sm_aload_n (pc := 0) dX0_plainWorth_0 rfl 0 rfl ?_
  refine sm_getr (pc := 1) dX0_plainWorth_1 fi_X0_19 ?_
  refine sm_callVv (pc := 4) (As := []) (rest := []) dX0_plainWorth_4 (c_X7_recall G l N μ) (by omega) wl_X0_23 vm_X7_recall rfl rfl (Nat.le_of_ble_eq_true rfl) (fun _ μ1 => ?_)
  refine sm_aload_n (pc := 7) dX0_plainWorth_7 rfl 0 rfl ?_
  refine sm_getr (pc := 8) dX0_plainWorth_8 fi_X0_19 ?_
  refine sm_iload_n (pc := 11) dX0_plainWorth_11 rfl 1 rfl ?_
  refine sm_callVv (pc := 12) (As := [.int a1]) (rest := []) dX0_plainWorth_12 (c_X7_weigh G l N a1 μ1) (by omega) wl_X0_28 vm_X7_weigh rfl rfl (Nat.le_of_ble_eq_true rfl) (fun _ μ2 => ?_)
  refine sm_aload_n (pc := 15) dX0_plainWorth_15 rfl 0 rfl ?_
  refine sm_getr (pc := 16) dX0_plainWorth_16 fi_X0_19 ?_
  refine sm_iload_n (pc := 19) dX0_plainWorth_19 rfl 1 rfl ?_
  refine sm_callVv (pc := 20) (As := [.int a1]) (rest := []) dX0_plainWorth_20 (c_X7_choose G l N a1 μ2) (by omega) wl_X0_32 vm_X7_choose rfl rfl (Nat.le_of_ble_eq_true rfl) (fun _ μ3 => ?_)
  refine sm_aload_n (pc := 23) dX0_plainWorth_23 rfl 0 rfl ?_
  refine sm_getr (pc := 24) dX0_plainWorth_24 fi_X0_19 ?_
  refine sm_geti (pc := 27) dX0_plainWorth_27 fi_X0_35 ?_
  exact sm_iret (pc := 30) dX0_plainWorth_30 rfl
theorem c_X0_plainWorth (G : am_G) (l : Launch) (N : Nat) (a1 : Int32) (μ : am_M) : ct_P G l am_ci 104 me_X0_plainWorth [.ref (am_ad G 7 0), .int a1] μ (f_X0_plainWorth N a1 μ) := ct_of (by decide +kernel) (Nat.le_of_ble_eq_true rfl) rfl (p_X0_plainWorth_0 G l 104 (Nat.le_refl _) N a1 μ)

def f_X0_exchange_17 (N : Nat) (r_17 : Int32 → Int32 → Int32 → am_M → Option (Unit × am_M)) (x1 : Int32) (x2 : Int32) (x3 : Int32) (μ : am_M) : Option (Unit × am_M) :=
if (μ.1 1 0 1) ≤ x3 then (am_bd (f_X5_at N (5 : Int32) x1 μ) (fun y4 μ3 => am_bd (f_X5_pointsInAll N x1 μ3) (fun y6 μ5 => am_bd (f_X7_search N (y4 + (x2 * y6)) (0 : Int32) (0 : Int32) μ5) (fun _ μ7 => some ((), μ7))))) else (am_bd (f_X7_pointsOf N x3 μ) (fun y9 μ8 => am_bd (f_X7_coinOf N x3 μ8) (fun y11 μ10 => am_bd (f_X7_think N x3 (y11 + (x2 * y9)) y9 μ10) (fun _ μ12 => r_17 x1 x2 (x3 + (1 : Int32)) μ12))))
def f_X0_exchange_17_lp (N : Nat) : Nat → Int32 → Int32 → Int32 → am_M → Option (Unit × am_M)
  | 0, _, _, _, _ => none
  | n + 1, x1, x2, x3, μ => f_X0_exchange_17 N (f_X0_exchange_17_lp N n) x1 x2 x3 μ
def f_X0_exchange_0 (N : Nat) (a1 : Int32) (a2 : Int32) (μ : am_M) : Option (Unit × am_M) :=
am_bd (f_X7_recall N μ) (fun _ μ1 => am_bd (f_X7_weigh N a1 μ1) (fun _ μ2 => f_X0_exchange_17_lp N N a1 a2 (0 : Int32) μ2))
def f_X0_exchange (N : Nat) (a1 : Int32) (a2 : Int32) (μ : am_M) : Option (Unit × am_M) := f_X0_exchange_0 N a1 a2 μ
set_option maxHeartbeats 4000000 in
set_option maxRecDepth 100000 in
theorem p_X0_exchange_17 (G : am_G) (l : Launch) (d : Nat) (hd0 : 103 ≤ d) (N : Nat) (r_17 : Int32 → Int32 → Int32 → am_M → Option (Unit × am_M)) (H_17 : ∀ (x1 : Int32) (x2 : Int32) (x3 : Int32) (μ : am_M), sm_P G l am_cu d me_X0_exchange 17 [(0, .ref (am_ad G 7 0)), (1, .int x1), (2, .int x2), (3, .int x3)] [] μ (r_17 x1 x2 x3 μ)) (x1 : Int32) (x2 : Int32) (x3 : Int32) (μ : am_M) : sm_P G l am_cu d me_X0_exchange 17 [(0, .ref (am_ad G 7 0)), (1, .int x1), (2, .int x2), (3, .int x3)] [] μ (f_X0_exchange_17 N r_17 x1 x2 x3 μ) := by
  unfold f_X0_exchange_17
  refine sm_iload_n (pc := 17) dX0_exchange_17 rfl 3 rfl ?_
  refine sm_aload_n (pc := 18) dX0_exchange_18 rfl 0 rfl ?_
  refine sm_getr (pc := 19) dX0_exchange_19 fi_X0_15 ?_
  refine sm_geti (pc := 22) dX0_exchange_22 fi_X0_39 ?_
  refine sm_icmp_ge (pc := 25) (tgt := 67) dX0_exchange_25 (by decide) ?_ ?_
  · refine sm_aload_n (pc := 67) dX0_exchange_67 rfl 0 rfl ?_
    refine sm_getr (pc := 68) dX0_exchange_68 fi_X0_19 ?_
    refine sm_aload_n (pc := 71) dX0_exchange_71 rfl 0 rfl ?_
    refine sm_getr (pc := 72) dX0_exchange_72 fi_X0_15 ?_
    refine sm_iconst (pc := 75) dX0_exchange_75 (v := 5) (by decide) ?_
    refine sm_iload_n (pc := 76) dX0_exchange_76 rfl 1 rfl ?_
    refine sm_callVi (pc := 77) (As := [.int (5 : Int32), .int x1]) (rest := [.ref (am_ad G 5 0)]) dX0_exchange_77 (c_X5_at G l N (5 : Int32) x1 μ) (by omega) wl_X0_55 vm_X5_at rfl rfl (Nat.le_of_ble_eq_true rfl) (fun y4 μ3 => ?_)
    refine sm_iload_n (pc := 80) dX0_exchange_80 rfl 2 rfl ?_
    refine sm_aload_n (pc := 81) dX0_exchange_81 rfl 0 rfl ?_
    refine sm_getr (pc := 82) dX0_exchange_82 fi_X0_15 ?_
    refine sm_iload_n (pc := 85) dX0_exchange_85 rfl 1 rfl ?_
    refine sm_callVi (pc := 86) (As := [.int x1]) (rest := [.int x2, .int y4, .ref (am_ad G 5 0)]) dX0_exchange_86 (c_X5_pointsInAll G l N x1 μ3) (by omega) wl_X0_59 vm_X5_pointsInAll rfl rfl (Nat.le_of_ble_eq_true rfl) (fun y6 μ5 => ?_)
    refine sm_imul (pc := 89) dX0_exchange_89 ?_
    refine sm_iadd (pc := 90) dX0_exchange_90 ?_
    refine sm_iconst (pc := 91) dX0_exchange_91 (v := 0) (by decide) ?_
    refine sm_iconst (pc := 92) dX0_exchange_92 (v := 0) (by decide) ?_
    refine sm_callVv (pc := 93) (As := [.int (y4 + (x2 * y6)), .int (0 : Int32), .int (0 : Int32)]) (rest := []) dX0_exchange_93 (c_X7_search G l N (y4 + (x2 * y6)) (0 : Int32) (0 : Int32) μ5) (by omega) wl_X0_62 vm_X7_search rfl rfl (Nat.le_of_ble_eq_true rfl) (fun _ μ7 => ?_)
    exact sm_vret (pc := 96) dX0_exchange_96 rfl
  · refine sm_aload_n (pc := 28) dX0_exchange_28 rfl 0 rfl ?_
    refine sm_getr (pc := 29) dX0_exchange_29 fi_X0_19 ?_
    refine sm_iload_n (pc := 32) dX0_exchange_32 rfl 3 rfl ?_
    refine sm_callVi (pc := 33) (As := [.int x3]) (rest := []) dX0_exchange_33 (c_X7_pointsOf G l N x3 μ) (by omega) wl_X0_44 vm_X7_pointsOf rfl rfl (Nat.le_of_ble_eq_true rfl) (fun y9 μ8 => ?_)
    refine sm_istore (pc := 36) (lv' := [(4, .int y9), (0, .ref (am_ad G 7 0)), (1, .int x1), (2, .int x2), (3, .int x3)]) dX0_exchange_36 (by decide) rfl ?_
    refine sm_aload_n (pc := 38) dX0_exchange_38 rfl 1 rfl ?_
    refine sm_getr (pc := 39) dX0_exchange_39 fi_X0_19 ?_
    refine sm_iload_n (pc := 42) dX0_exchange_42 rfl 4 rfl ?_
    refine sm_aload_n (pc := 43) dX0_exchange_43 rfl 1 rfl ?_
    refine sm_getr (pc := 44) dX0_exchange_44 fi_X0_19 ?_
    refine sm_iload_n (pc := 47) dX0_exchange_47 rfl 4 rfl ?_
    refine sm_callVi (pc := 48) (As := [.int x3]) (rest := [.int x3, .ref (am_ad G 5 0)]) dX0_exchange_48 (c_X7_coinOf G l N x3 μ8) (by omega) wl_X0_48 vm_X7_coinOf rfl rfl (Nat.le_of_ble_eq_true rfl) (fun y11 μ10 => ?_)
    refine sm_iload_n (pc := 51) dX0_exchange_51 rfl 3 rfl ?_
    refine sm_iload (pc := 52) dX0_exchange_52 0 rfl ?_
    refine sm_imul (pc := 54) dX0_exchange_54 ?_
    refine sm_iadd (pc := 55) dX0_exchange_55 ?_
    refine sm_iload (pc := 56) dX0_exchange_56 0 rfl ?_
    refine sm_callVv (pc := 58) (As := [.int x3, .int (y11 + (x2 * y9)), .int y9]) (rest := []) dX0_exchange_58 (c_X7_think G l N x3 (y11 + (x2 * y9)) y9 μ10) (by omega) wl_X0_51 vm_X7_think rfl rfl (Nat.le_of_ble_eq_true rfl) (fun _ μ12 => ?_)
    refine sm_iinc (pc := 61) (v := (x3 + (1 : Int32))) (lv' := [(3, .int (x3 + (1 : Int32))), (4, .int y9), (0, .ref (am_ad G 7 0)), (1, .int x1), (2, .int x2)]) dX0_exchange_61 4 rfl rfl (by decide) rfl ?_
    refine sm_goto (pc := 64) (tgt := 17) dX0_exchange_64 (by decide) ?_
    refine sm_sub [2, 3, 4, 0] rfl ?_
    exact H_17 x1 x2 (x3 + (1 : Int32)) μ12
theorem p_X0_exchange_17_lp (G : am_G) (l : Launch) (d : Nat) (hd0 : 103 ≤ d) (N : Nat) : ∀ (n : Nat) (x1 : Int32) (x2 : Int32) (x3 : Int32) (μ : am_M), sm_P G l am_cu d me_X0_exchange 17 [(0, .ref (am_ad G 7 0)), (1, .int x1), (2, .int x2), (3, .int x3)] [] μ (f_X0_exchange_17_lp N n x1 x2 x3 μ) := by
  intro n
  induction n with
  | zero => intros; exact sm_none
  | succ n ih => exact fun x1 x2 x3 μ => p_X0_exchange_17 G l d hd0 N (f_X0_exchange_17_lp N n) ih x1 x2 x3 μ
set_option maxHeartbeats 4000000 in
set_option maxRecDepth 100000 in
theorem p_X0_exchange_0 (G : am_G) (l : Launch) (d : Nat) (hd0 : 103 ≤ d) (N : Nat) (a1 : Int32) (a2 : Int32) (μ : am_M) : sm_P G l am_cu d me_X0_exchange 0 [(0, .ref (am_ad G 7 0)), (1, .int a1), (2, .int a2)] [] μ (f_X0_exchange_0 N a1 a2 μ) := by
  unfold f_X0_exchange_0
  refine sm_aload_n (pc := 0) dX0_exchange_0 rfl 0 rfl ?_
  refine sm_getr (pc := 1) dX0_exchange_1 fi_X0_19 ?_
  refine sm_callVv (pc := 4) (As := []) (rest := []) dX0_exchange_4 (c_X7_recall G l N μ) (by omega) wl_X0_23 vm_X7_recall rfl rfl (Nat.le_of_ble_eq_true rfl) (fun _ μ1 => ?_)
  refine sm_aload_n (pc := 7) dX0_exchange_7 rfl 0 rfl ?_
  refine sm_getr (pc := 8) dX0_exchange_8 fi_X0_19 ?_
  refine sm_iload_n (pc := 11) dX0_exchange_11 rfl 1 rfl ?_
  refine sm_callVv (pc := 12) (As := [.int a1]) (rest := []) dX0_exchange_12 (c_X7_weigh G l N a1 μ1) (by omega) wl_X0_28 vm_X7_weigh rfl rfl (Nat.le_of_ble_eq_true rfl) (fun _ μ2 => ?_)
  refine sm_iconst (pc := 15) dX0_exchange_15 (v := 0) (by decide) ?_
  refine sm_istore_n (pc := 16) (lv' := [(3, .int (0 : Int32)), (0, .ref (am_ad G 7 0)), (1, .int a1), (2, .int a2)]) dX0_exchange_16 rfl (by decide) rfl ?_
  refine sm_sub [1, 2, 3, 0] rfl ?_
  exact p_X0_exchange_17_lp G l d hd0 N N a1 a2 (0 : Int32) μ2
theorem c_X0_exchange (G : am_G) (l : Launch) (N : Nat) (a1 : Int32) (a2 : Int32) (μ : am_M) : ct_P G l am_cu 103 me_X0_exchange [.ref (am_ad G 7 0), .int a1, .int a2] μ (f_X0_exchange N a1 a2 μ) := ct_of (by decide +kernel) (Nat.le_of_ble_eq_true rfl) rfl (p_X0_exchange_0 G l 103 (Nat.le_refl _) N a1 a2 μ)

def f_X0_pointsThere_4 (N : Nat) (r_4 : Int32 → Int32 → am_M → Option (Int32 × am_M)) (x1 : Int32) (x2 : Int32) (μ : am_M) : Option (Int32 × am_M) :=
if (μ.1 1 0 2) ≤ x2 then (some (x1, μ)) else (am_bd (f_X5_at N (4 : Int32) x2 μ) (fun y2 μ1 => am_bd (f_X5_pointsInAll N x2 μ1) (fun y4 μ3 => am_nm (x1 + (y2 * y4)) (fun y5 => r_4 y5 (x2 + (1 : Int32)) μ3))))
def f_X0_pointsThere_4_lp (N : Nat) : Nat → Int32 → Int32 → am_M → Option (Int32 × am_M)
  | 0, _, _, _ => none
  | n + 1, x1, x2, μ => f_X0_pointsThere_4 N (f_X0_pointsThere_4_lp N n) x1 x2 μ
def f_X0_pointsThere_0 (N : Nat) (μ : am_M) : Option (Int32 × am_M) :=
f_X0_pointsThere_4_lp N N (0 : Int32) (0 : Int32) μ
def f_X0_pointsThere (N : Nat) (μ : am_M) : Option (Int32 × am_M) := f_X0_pointsThere_0 N μ
set_option maxHeartbeats 4000000 in
set_option maxRecDepth 100000 in
theorem p_X0_pointsThere_4 (G : am_G) (l : Launch) (d : Nat) (hd0 : 3 ≤ d) (N : Nat) (r_4 : Int32 → Int32 → am_M → Option (Int32 × am_M)) (H_4 : ∀ (x1 : Int32) (x2 : Int32) (μ : am_M), sm_P G l am_ci d me_X0_pointsThere 4 [(0, .ref (am_ad G 7 0)), (1, .int x1), (2, .int x2)] [] μ (r_4 x1 x2 μ)) (x1 : Int32) (x2 : Int32) (μ : am_M) : sm_P G l am_ci d me_X0_pointsThere 4 [(0, .ref (am_ad G 7 0)), (1, .int x1), (2, .int x2)] [] μ (f_X0_pointsThere_4 N r_4 x1 x2 μ) := by
  unfold f_X0_pointsThere_4
  refine sm_iload_n (pc := 4) dX0_pointsThere_4 rfl 2 rfl ?_
  refine sm_aload_n (pc := 5) dX0_pointsThere_5 rfl 0 rfl ?_
  refine sm_getr (pc := 6) dX0_pointsThere_6 fi_X0_15 ?_
  refine sm_geti (pc := 9) dX0_pointsThere_9 fi_X0_65 ?_
  refine sm_icmp_ge (pc := 12) (tgt := 42) dX0_pointsThere_12 (by decide) ?_ ?_
  · refine sm_iload_n (pc := 42) dX0_pointsThere_42 rfl 1 rfl ?_
    exact sm_iret (pc := 43) dX0_pointsThere_43 rfl
  · refine sm_iload_n (pc := 15) dX0_pointsThere_15 rfl 1 rfl ?_
    refine sm_aload_n (pc := 16) dX0_pointsThere_16 rfl 0 rfl ?_
    refine sm_getr (pc := 17) dX0_pointsThere_17 fi_X0_15 ?_
    refine sm_iconst (pc := 20) dX0_pointsThere_20 (v := 4) (by decide) ?_
    refine sm_iload_n (pc := 21) dX0_pointsThere_21 rfl 2 rfl ?_
    refine sm_callVi (pc := 22) (As := [.int (4 : Int32), .int x2]) (rest := [.int x1]) dX0_pointsThere_22 (c_X5_at G l N (4 : Int32) x2 μ) (by omega) wl_X0_55 vm_X5_at rfl rfl (Nat.le_of_ble_eq_true rfl) (fun y2 μ1 => ?_)
    refine sm_aload_n (pc := 25) dX0_pointsThere_25 rfl 0 rfl ?_
    refine sm_getr (pc := 26) dX0_pointsThere_26 fi_X0_15 ?_
    refine sm_iload_n (pc := 29) dX0_pointsThere_29 rfl 2 rfl ?_
    refine sm_callVi (pc := 30) (As := [.int x2]) (rest := [.int y2, .int x1]) dX0_pointsThere_30 (c_X5_pointsInAll G l N x2 μ1) (by omega) wl_X0_59 vm_X5_pointsInAll rfl rfl (Nat.le_of_ble_eq_true rfl) (fun y4 μ3 => ?_)
    refine sm_imul (pc := 33) dX0_pointsThere_33 ?_
    refine sm_iadd (pc := 34) dX0_pointsThere_34 ?_
    refine sm_nmI (fun y5 => ?_)
    refine sm_istore_n (pc := 35) (lv' := [(1, .int y5), (0, .ref (am_ad G 7 0)), (2, .int x2)]) dX0_pointsThere_35 rfl (by decide) rfl ?_
    refine sm_iinc (pc := 36) (v := (x2 + (1 : Int32))) (lv' := [(2, .int (x2 + (1 : Int32))), (1, .int y5), (0, .ref (am_ad G 7 0))]) dX0_pointsThere_36 2 rfl rfl (by decide) rfl ?_
    refine sm_goto (pc := 39) (tgt := 4) dX0_pointsThere_39 (by decide) ?_
    refine sm_sub [2, 1, 0] rfl ?_
    exact H_4 y5 (x2 + (1 : Int32)) μ3
theorem p_X0_pointsThere_4_lp (G : am_G) (l : Launch) (d : Nat) (hd0 : 3 ≤ d) (N : Nat) : ∀ (n : Nat) (x1 : Int32) (x2 : Int32) (μ : am_M), sm_P G l am_ci d me_X0_pointsThere 4 [(0, .ref (am_ad G 7 0)), (1, .int x1), (2, .int x2)] [] μ (f_X0_pointsThere_4_lp N n x1 x2 μ) := by
  intro n
  induction n with
  | zero => intros; exact sm_none
  | succ n ih => exact fun x1 x2 μ => p_X0_pointsThere_4 G l d hd0 N (f_X0_pointsThere_4_lp N n) ih x1 x2 μ
set_option maxHeartbeats 4000000 in
set_option maxRecDepth 100000 in
theorem p_X0_pointsThere_0 (G : am_G) (l : Launch) (d : Nat) (hd0 : 3 ≤ d) (N : Nat) (μ : am_M) : sm_P G l am_ci d me_X0_pointsThere 0 [(0, .ref (am_ad G 7 0))] [] μ (f_X0_pointsThere_0 N μ) := by
  unfold f_X0_pointsThere_0
  refine sm_iconst (pc := 0) dX0_pointsThere_0 (v := 0) (by decide) ?_
  refine sm_istore_n (pc := 1) (lv' := [(1, .int (0 : Int32)), (0, .ref (am_ad G 7 0))]) dX0_pointsThere_1 rfl (by decide) rfl ?_
  refine sm_iconst (pc := 2) dX0_pointsThere_2 (v := 0) (by decide) ?_
  refine sm_istore_n (pc := 3) (lv' := [(2, .int (0 : Int32)), (1, .int (0 : Int32)), (0, .ref (am_ad G 7 0))]) dX0_pointsThere_3 rfl (by decide) rfl ?_
  refine sm_sub [2, 1, 0] rfl ?_
  exact p_X0_pointsThere_4_lp G l d hd0 N N (0 : Int32) (0 : Int32) μ
theorem c_X0_pointsThere (G : am_G) (l : Launch) (N : Nat) (μ : am_M) : ct_P G l am_ci 3 me_X0_pointsThere [.ref (am_ad G 7 0)] μ (f_X0_pointsThere N μ) := ct_of (by decide +kernel) (Nat.le_of_ble_eq_true rfl) rfl (p_X0_pointsThere_0 G l 3 (Nat.le_refl _) N μ)

def f_X0_pointsTaken_4 (N : Nat) (r_4 : Int32 → Int32 → Int32 → am_M → Option (Int32 × am_M)) (x1 : Int32) (x2 : Int32) (x3 : Int32) (μ : am_M) : Option (Int32 × am_M) :=
if (μ.1 1 0 2) ≤ x3 then (some (x2, μ)) else (am_bd (f_X0_exchange N x3 x1 μ) (fun _ μ1 => am_bd (f_X5_at N (4 : Int32) x3 μ1) (fun y3 μ2 => am_nm (x2 + (y3 * (μ2.1 5 0 11))) (fun y4 => r_4 x1 y4 (x3 + (1 : Int32)) μ2))))
def f_X0_pointsTaken_4_lp (N : Nat) : Nat → Int32 → Int32 → Int32 → am_M → Option (Int32 × am_M)
  | 0, _, _, _, _ => none
  | n + 1, x1, x2, x3, μ => f_X0_pointsTaken_4 N (f_X0_pointsTaken_4_lp N n) x1 x2 x3 μ
def f_X0_pointsTaken_0 (N : Nat) (a1 : Int32) (μ : am_M) : Option (Int32 × am_M) :=
f_X0_pointsTaken_4_lp N N a1 (0 : Int32) (0 : Int32) μ
def f_X0_pointsTaken (N : Nat) (a1 : Int32) (μ : am_M) : Option (Int32 × am_M) := f_X0_pointsTaken_0 N a1 μ
set_option maxHeartbeats 4000000 in
set_option maxRecDepth 100000 in
theorem p_X0_pointsTaken_4 (G : am_G) (l : Launch) (d : Nat) (hd0 : 104 ≤ d) (N : Nat) (r_4 : Int32 → Int32 → Int32 → am_M → Option (Int32 × am_M)) (H_4 : ∀ (x1 : Int32) (x2 : Int32) (x3 : Int32) (μ : am_M), sm_P G l am_ci d me_X0_pointsTaken 4 [(0, .ref (am_ad G 7 0)), (1, .int x1), (2, .int x2), (3, .int x3)] [] μ (r_4 x1 x2 x3 μ)) (x1 : Int32) (x2 : Int32) (x3 : Int32) (μ : am_M) : sm_P G l am_ci d me_X0_pointsTaken 4 [(0, .ref (am_ad G 7 0)), (1, .int x1), (2, .int x2), (3, .int x3)] [] μ (f_X0_pointsTaken_4 N r_4 x1 x2 x3 μ) := by
  unfold f_X0_pointsTaken_4
  refine sm_iload_n (pc := 4) dX0_pointsTaken_4 rfl 3 rfl ?_
  refine sm_aload_n (pc := 5) dX0_pointsTaken_5 rfl 0 rfl ?_
  refine sm_getr (pc := 6) dX0_pointsTaken_6 fi_X0_15 ?_
  refine sm_geti (pc := 9) dX0_pointsTaken_9 fi_X0_65 ?_
  refine sm_icmp_ge (pc := 12) (tgt := 47) dX0_pointsTaken_12 (by decide) ?_ ?_
  · refine sm_iload_n (pc := 47) dX0_pointsTaken_47 rfl 2 rfl ?_
    exact sm_iret (pc := 48) dX0_pointsTaken_48 rfl
  · refine sm_aload_n (pc := 15) dX0_pointsTaken_15 rfl 0 rfl ?_
    refine sm_iload_n (pc := 16) dX0_pointsTaken_16 rfl 3 rfl ?_
    refine sm_iload_n (pc := 17) dX0_pointsTaken_17 rfl 1 rfl ?_
    refine sm_callVv (pc := 18) (As := [.int x3, .int x1]) (rest := []) dX0_pointsTaken_18 (c_X0_exchange G l N x3 x1 μ) (by omega) wl_X0_68 vm_X0_exchange rfl rfl (Nat.le_of_ble_eq_true rfl) (fun _ μ1 => ?_)
    refine sm_iload_n (pc := 21) dX0_pointsTaken_21 rfl 2 rfl ?_
    refine sm_aload_n (pc := 22) dX0_pointsTaken_22 rfl 0 rfl ?_
    refine sm_getr (pc := 23) dX0_pointsTaken_23 fi_X0_15 ?_
    refine sm_iconst (pc := 26) dX0_pointsTaken_26 (v := 4) (by decide) ?_
    refine sm_iload_n (pc := 27) dX0_pointsTaken_27 rfl 3 rfl ?_
    refine sm_callVi (pc := 28) (As := [.int (4 : Int32), .int x3]) (rest := [.int x2]) dX0_pointsTaken_28 (c_X5_at G l N (4 : Int32) x3 μ1) (by omega) wl_X0_55 vm_X5_at rfl rfl (Nat.le_of_ble_eq_true rfl) (fun y3 μ2 => ?_)
    refine sm_aload_n (pc := 31) dX0_pointsTaken_31 rfl 0 rfl ?_
    refine sm_getr (pc := 32) dX0_pointsTaken_32 fi_X0_19 ?_
    refine sm_geti (pc := 35) dX0_pointsTaken_35 fi_X0_72 ?_
    refine sm_imul (pc := 38) dX0_pointsTaken_38 ?_
    refine sm_iadd (pc := 39) dX0_pointsTaken_39 ?_
    refine sm_nmI (fun y4 => ?_)
    refine sm_istore_n (pc := 40) (lv' := [(2, .int y4), (0, .ref (am_ad G 7 0)), (1, .int x1), (3, .int x3)]) dX0_pointsTaken_40 rfl (by decide) rfl ?_
    refine sm_iinc (pc := 41) (v := (x3 + (1 : Int32))) (lv' := [(3, .int (x3 + (1 : Int32))), (2, .int y4), (0, .ref (am_ad G 7 0)), (1, .int x1)]) dX0_pointsTaken_41 3 rfl rfl (by decide) rfl ?_
    refine sm_goto (pc := 44) (tgt := 4) dX0_pointsTaken_44 (by decide) ?_
    refine sm_sub [2, 3, 1, 0] rfl ?_
    exact H_4 x1 y4 (x3 + (1 : Int32)) μ2
theorem p_X0_pointsTaken_4_lp (G : am_G) (l : Launch) (d : Nat) (hd0 : 104 ≤ d) (N : Nat) : ∀ (n : Nat) (x1 : Int32) (x2 : Int32) (x3 : Int32) (μ : am_M), sm_P G l am_ci d me_X0_pointsTaken 4 [(0, .ref (am_ad G 7 0)), (1, .int x1), (2, .int x2), (3, .int x3)] [] μ (f_X0_pointsTaken_4_lp N n x1 x2 x3 μ) := by
  intro n
  induction n with
  | zero => intros; exact sm_none
  | succ n ih => exact fun x1 x2 x3 μ => p_X0_pointsTaken_4 G l d hd0 N (f_X0_pointsTaken_4_lp N n) ih x1 x2 x3 μ
set_option maxHeartbeats 4000000 in
set_option maxRecDepth 100000 in
theorem p_X0_pointsTaken_0 (G : am_G) (l : Launch) (d : Nat) (hd0 : 104 ≤ d) (N : Nat) (a1 : Int32) (μ : am_M) : sm_P G l am_ci d me_X0_pointsTaken 0 [(0, .ref (am_ad G 7 0)), (1, .int a1)] [] μ (f_X0_pointsTaken_0 N a1 μ) := by
  unfold f_X0_pointsTaken_0
  refine sm_iconst (pc := 0) dX0_pointsTaken_0 (v := 0) (by decide) ?_
  refine sm_istore_n (pc := 1) (lv' := [(2, .int (0 : Int32)), (0, .ref (am_ad G 7 0)), (1, .int a1)]) dX0_pointsTaken_1 rfl (by decide) rfl ?_
  refine sm_iconst (pc := 2) dX0_pointsTaken_2 (v := 0) (by decide) ?_
  refine sm_istore_n (pc := 3) (lv' := [(3, .int (0 : Int32)), (2, .int (0 : Int32)), (0, .ref (am_ad G 7 0)), (1, .int a1)]) dX0_pointsTaken_3 rfl (by decide) rfl ?_
  refine sm_sub [2, 3, 1, 0] rfl ?_
  exact p_X0_pointsTaken_4_lp G l d hd0 N N a1 (0 : Int32) (0 : Int32) μ
theorem c_X0_pointsTaken (G : am_G) (l : Launch) (N : Nat) (a1 : Int32) (μ : am_M) : ct_P G l am_ci 104 me_X0_pointsTaken [.ref (am_ad G 7 0), .int a1] μ (f_X0_pointsTaken N a1 μ) := ct_of (by decide +kernel) (Nat.le_of_ble_eq_true rfl) rfl (p_X0_pointsTaken_0 G l 104 (Nat.le_refl _) N a1 μ)

def f_X0_byStealth_0 (N : Nat) (a1 : Int32) (a2 : Int32) (a3 : Int32) (a4 : Int32) (μ : am_M) : Option (Int32 × am_M) :=
am_bd (f_X7_recall N μ) (fun _ μ1 => am_bd (f_X7_weigh N a1 μ1) (fun _ μ2 => am_nm (a2 + (((a3 * a4) + (99 : Int32)) / (100 : Int32))) (fun y3 => am_bd (f_X5_at N (5 : Int32) a1 μ2) (fun y5 μ4 => am_bd (f_X5_pointsInAll N a1 μ4) (fun y7 μ6 => am_bd (f_X7_search N y5 y7 y3 μ6) (fun _ μ8 => some ((μ8.1 5 0 9), μ8)))))))
def f_X0_byStealth (N : Nat) (a1 : Int32) (a2 : Int32) (a3 : Int32) (a4 : Int32) (μ : am_M) : Option (Int32 × am_M) := f_X0_byStealth_0 N a1 a2 a3 a4 μ
set_option maxHeartbeats 4000000 in
set_option maxRecDepth 100000 in
theorem p_X0_byStealth_0 (G : am_G) (l : Launch) (d : Nat) (hd0 : 103 ≤ d) (N : Nat) (a1 : Int32) (a2 : Int32) (a3 : Int32) (a4 : Int32) (μ : am_M) : sm_P G l am_ci d me_X0_byStealth 0 [(0, .ref (am_ad G 7 0)), (1, .int a1), (2, .int a2), (3, .int a3), (4, .int a4)] [] μ (f_X0_byStealth_0 N a1 a2 a3 a4 μ) := by
  unfold f_X0_byStealth_0
  refine sm_aload_n (pc := 0) dX0_byStealth_0 rfl 0 rfl ?_
  refine sm_getr (pc := 1) dX0_byStealth_1 fi_X0_19 ?_
  refine sm_callVv (pc := 4) (As := []) (rest := []) dX0_byStealth_4 (c_X7_recall G l N μ) (by omega) wl_X0_23 vm_X7_recall rfl rfl (Nat.le_of_ble_eq_true rfl) (fun _ μ1 => ?_)
  refine sm_aload_n (pc := 7) dX0_byStealth_7 rfl 0 rfl ?_
  refine sm_getr (pc := 8) dX0_byStealth_8 fi_X0_19 ?_
  refine sm_iload_n (pc := 11) dX0_byStealth_11 rfl 1 rfl ?_
  refine sm_callVv (pc := 12) (As := [.int a1]) (rest := []) dX0_byStealth_12 (c_X7_weigh G l N a1 μ1) (by omega) wl_X0_28 vm_X7_weigh rfl rfl (Nat.le_of_ble_eq_true rfl) (fun _ μ2 => ?_)
  refine sm_iload_n (pc := 15) dX0_byStealth_15 rfl 2 rfl ?_
  refine sm_iload_n (pc := 16) dX0_byStealth_16 rfl 3 rfl ?_
  refine sm_iload (pc := 17) dX0_byStealth_17 4 rfl ?_
  refine sm_imul (pc := 19) dX0_byStealth_19 ?_
  refine sm_bipush (pc := 20) dX0_byStealth_20 (v := 99) (by decide) ?_
  refine sm_iadd (pc := 22) dX0_byStealth_22 ?_
  refine sm_bipush (pc := 23) dX0_byStealth_23 (v := 100) (by decide) ?_
  refine sm_idivc (pc := 25) dX0_byStealth_25 (by decide) ?_
  refine sm_iadd (pc := 26) dX0_byStealth_26 ?_
  refine sm_nmI (fun y3 => ?_)
  refine sm_istore (pc := 27) (lv' := [(5, .int y3), (0, .ref (am_ad G 7 0)), (1, .int a1), (2, .int a2), (3, .int a3), (4, .int a4)]) dX0_byStealth_27 (by decide) rfl ?_
  refine sm_aload_n (pc := 29) dX0_byStealth_29 rfl 1 rfl ?_
  refine sm_getr (pc := 30) dX0_byStealth_30 fi_X0_19 ?_
  refine sm_aload_n (pc := 33) dX0_byStealth_33 rfl 1 rfl ?_
  refine sm_getr (pc := 34) dX0_byStealth_34 fi_X0_15 ?_
  refine sm_iconst (pc := 37) dX0_byStealth_37 (v := 5) (by decide) ?_
  refine sm_iload_n (pc := 38) dX0_byStealth_38 rfl 2 rfl ?_
  refine sm_callVi (pc := 39) (As := [.int (5 : Int32), .int a1]) (rest := [.ref (am_ad G 5 0)]) dX0_byStealth_39 (c_X5_at G l N (5 : Int32) a1 μ2) (by omega) wl_X0_55 vm_X5_at rfl rfl (Nat.le_of_ble_eq_true rfl) (fun y5 μ4 => ?_)
  refine sm_aload_n (pc := 42) dX0_byStealth_42 rfl 1 rfl ?_
  refine sm_getr (pc := 43) dX0_byStealth_43 fi_X0_15 ?_
  refine sm_iload_n (pc := 46) dX0_byStealth_46 rfl 2 rfl ?_
  refine sm_callVi (pc := 47) (As := [.int a1]) (rest := [.int y5, .ref (am_ad G 5 0)]) dX0_byStealth_47 (c_X5_pointsInAll G l N a1 μ4) (by omega) wl_X0_59 vm_X5_pointsInAll rfl rfl (Nat.le_of_ble_eq_true rfl) (fun y7 μ6 => ?_)
  refine sm_iload (pc := 50) dX0_byStealth_50 0 rfl ?_
  refine sm_callVv (pc := 52) (As := [.int y5, .int y7, .int y3]) (rest := []) dX0_byStealth_52 (c_X7_search G l N y5 y7 y3 μ6) (by omega) wl_X0_62 vm_X7_search rfl rfl (Nat.le_of_ble_eq_true rfl) (fun _ μ8 => ?_)
  refine sm_aload_n (pc := 55) dX0_byStealth_55 rfl 1 rfl ?_
  refine sm_getr (pc := 56) dX0_byStealth_56 fi_X0_19 ?_
  refine sm_geti (pc := 59) dX0_byStealth_59 fi_X0_35 ?_
  exact sm_iret (pc := 62) dX0_byStealth_62 rfl
theorem c_X0_byStealth (G : am_G) (l : Launch) (N : Nat) (a1 : Int32) (a2 : Int32) (a3 : Int32) (a4 : Int32) (μ : am_M) : ct_P G l am_ci 103 me_X0_byStealth [.ref (am_ad G 7 0), .int a1, .int a2, .int a3, .int a4] μ (f_X0_byStealth N a1 a2 a3 a4 μ) := ct_of (by decide +kernel) (Nat.le_of_ble_eq_true rfl) rfl (p_X0_byStealth_0 G l 103 (Nat.le_refl _) N a1 a2 a3 a4 μ)

def f_X0_equalWorth_42 (N : Nat) (r_12 : Int32 → Int32 → Int32 → am_M → Option (Int32 × am_M)) (x1 : Int32) (x2 : Int32) (x3 : Int32) (s0 : Int32) (μ : am_M) : Option (Int32 × am_M) :=
am_nm (if s0 < (3 : Int32) then s0 else (3 : Int32)) (fun y5 => am_bd (f_X7_worthOfFirst N x3 y5 μ) (fun y7 μ6 => am_nm (x2 + y7) (fun y8 => r_12 x1 y8 (x3 + (1 : Int32)) μ6)))
def f_X0_equalWorth_12 (N : Nat) (r_12 : Int32 → Int32 → Int32 → am_M → Option (Int32 × am_M)) (x1 : Int32) (x2 : Int32) (x3 : Int32) (μ : am_M) : Option (Int32 × am_M) :=
if (μ.1 1 0 1) ≤ x3 then (some (x2, μ)) else (if x1 = 0 then (f_X0_equalWorth_42 N r_12 x1 x2 x3 (0 : Int32) μ) else (am_bd (f_X5_at N (0 : Int32) x3 μ) (fun y4 μ3 => am_dv x1 (f_X0_equalWorth_42 N r_12 x1 x2 x3 (y4 / x1) μ3))))
def f_X0_equalWorth_12_lp (N : Nat) : Nat → Int32 → Int32 → Int32 → am_M → Option (Int32 × am_M)
  | 0, _, _, _, _ => none
  | n + 1, x1, x2, x3, μ => f_X0_equalWorth_12 N (f_X0_equalWorth_12_lp N n) x1 x2 x3 μ
def f_X0_equalWorth_0 (N : Nat) (μ : am_M) : Option (Int32 × am_M) :=
am_bd (f_X5_allHeads N μ) (fun y2 μ1 => f_X0_equalWorth_12_lp N N y2 (0 : Int32) (0 : Int32) μ1)
def f_X0_equalWorth (N : Nat) (μ : am_M) : Option (Int32 × am_M) := f_X0_equalWorth_0 N μ
set_option maxHeartbeats 4000000 in
set_option maxRecDepth 100000 in
theorem p_X0_equalWorth_42 (G : am_G) (l : Launch) (d : Nat) (hd0 : 3 ≤ d) (N : Nat) (r_12 : Int32 → Int32 → Int32 → am_M → Option (Int32 × am_M)) (H_12 : ∀ (x1 : Int32) (x2 : Int32) (x3 : Int32) (μ : am_M), sm_P G l am_ci d me_X0_equalWorth 12 [(0, .ref (am_ad G 7 0)), (1, .int x1), (2, .int x2), (3, .int x3)] [] μ (r_12 x1 x2 x3 μ)) (x1 : Int32) (x2 : Int32) (x3 : Int32) (s0 : Int32) (μ : am_M) : sm_P G l am_ci d me_X0_equalWorth 42 [(0, .ref (am_ad G 7 0)), (1, .int x1), (2, .int x2), (3, .int x3)] [.int s0] μ (f_X0_equalWorth_42 N r_12 x1 x2 x3 s0 μ) := by
  unfold f_X0_equalWorth_42
  refine sm_istore (pc := 42) (lv' := [(4, .int s0), (0, .ref (am_ad G 7 0)), (1, .int x1), (2, .int x2), (3, .int x3)]) dX0_equalWorth_42 (by decide) rfl ?_
  refine sm_iload_n (pc := 44) dX0_equalWorth_44 rfl 3 rfl ?_
  refine sm_aload_n (pc := 45) dX0_equalWorth_45 rfl 1 rfl ?_
  refine sm_getr (pc := 46) dX0_equalWorth_46 fi_X0_19 ?_
  refine sm_iload_n (pc := 49) dX0_equalWorth_49 rfl 4 rfl ?_
  refine sm_iconst (pc := 50) dX0_equalWorth_50 (v := 3) (by decide) ?_
  refine sm_iload (pc := 51) dX0_equalWorth_51 0 rfl ?_
  refine sm_min (pc := 53) dX0_equalWorth_53 (by omega) (Nat.le_of_ble_eq_true rfl) wl_X0_85 wd_min wd_minit wd_minc ?_
  refine sm_nmI (fun y5 => ?_)
  refine sm_callVi (pc := 56) (As := [.int x3, .int y5]) (rest := [.int x2]) dX0_equalWorth_56 (c_X7_worthOfFirst G l N x3 y5 μ) (by omega) wl_X0_90 vm_X7_worthOfFirst rfl rfl (Nat.le_of_ble_eq_true rfl) (fun y7 μ6 => ?_)
  refine sm_iadd (pc := 59) dX0_equalWorth_59 ?_
  refine sm_nmI (fun y8 => ?_)
  refine sm_istore_n (pc := 60) (lv' := [(2, .int y8), (4, .int s0), (0, .ref (am_ad G 7 0)), (1, .int x1), (3, .int x3)]) dX0_equalWorth_60 rfl (by decide) rfl ?_
  refine sm_iinc (pc := 61) (v := (x3 + (1 : Int32))) (lv' := [(3, .int (x3 + (1 : Int32))), (2, .int y8), (4, .int s0), (0, .ref (am_ad G 7 0)), (1, .int x1)]) dX0_equalWorth_61 4 rfl rfl (by decide) rfl ?_
  refine sm_goto (pc := 64) (tgt := 12) dX0_equalWorth_64 (by decide) ?_
  refine sm_sub [3, 4, 1, 0] rfl ?_
  exact H_12 x1 y8 (x3 + (1 : Int32)) μ6
set_option maxHeartbeats 4000000 in
set_option maxRecDepth 100000 in
theorem p_X0_equalWorth_12 (G : am_G) (l : Launch) (d : Nat) (hd0 : 3 ≤ d) (N : Nat) (r_12 : Int32 → Int32 → Int32 → am_M → Option (Int32 × am_M)) (H_12 : ∀ (x1 : Int32) (x2 : Int32) (x3 : Int32) (μ : am_M), sm_P G l am_ci d me_X0_equalWorth 12 [(0, .ref (am_ad G 7 0)), (1, .int x1), (2, .int x2), (3, .int x3)] [] μ (r_12 x1 x2 x3 μ)) (x1 : Int32) (x2 : Int32) (x3 : Int32) (μ : am_M) : sm_P G l am_ci d me_X0_equalWorth 12 [(0, .ref (am_ad G 7 0)), (1, .int x1), (2, .int x2), (3, .int x3)] [] μ (f_X0_equalWorth_12 N r_12 x1 x2 x3 μ) := by
  unfold f_X0_equalWorth_12
  refine sm_iload_n (pc := 12) dX0_equalWorth_12 rfl 3 rfl ?_
  refine sm_aload_n (pc := 13) dX0_equalWorth_13 rfl 0 rfl ?_
  refine sm_getr (pc := 14) dX0_equalWorth_14 fi_X0_15 ?_
  refine sm_geti (pc := 17) dX0_equalWorth_17 fi_X0_39 ?_
  refine sm_icmp_ge (pc := 20) (tgt := 67) dX0_equalWorth_20 (by decide) ?_ ?_
  · refine sm_iload_n (pc := 67) dX0_equalWorth_67 rfl 2 rfl ?_
    exact sm_iret (pc := 68) dX0_equalWorth_68 rfl
  · refine sm_iload_n (pc := 23) dX0_equalWorth_23 rfl 1 rfl ?_
    refine sm_if_ne (pc := 24) (tgt := 31) dX0_equalWorth_24 (by decide) ?_ ?_
    · refine sm_aload_n (pc := 31) dX0_equalWorth_31 rfl 0 rfl ?_
      refine sm_getr (pc := 32) dX0_equalWorth_32 fi_X0_15 ?_
      refine sm_iconst (pc := 35) dX0_equalWorth_35 (v := 0) (by decide) ?_
      refine sm_iload_n (pc := 36) dX0_equalWorth_36 rfl 3 rfl ?_
      refine sm_callVi (pc := 37) (As := [.int (0 : Int32), .int x3]) (rest := []) dX0_equalWorth_37 (c_X5_at G l N (0 : Int32) x3 μ) (by omega) wl_X0_55 vm_X5_at rfl rfl (Nat.le_of_ble_eq_true rfl) (fun y4 μ3 => ?_)
      refine sm_iload_n (pc := 40) dX0_equalWorth_40 rfl 1 rfl ?_
      refine sm_idiv (pc := 41) dX0_equalWorth_41 (fun _ => ?_)
      exact p_X0_equalWorth_42 G l d hd0 N r_12 H_12 x1 x2 x3 (y4 / x1) μ3
    · refine sm_iconst (pc := 27) dX0_equalWorth_27 (v := 0) (by decide) ?_
      refine sm_goto (pc := 28) (tgt := 42) dX0_equalWorth_28 (by decide) ?_
      exact p_X0_equalWorth_42 G l d hd0 N r_12 H_12 x1 x2 x3 (0 : Int32) μ
theorem p_X0_equalWorth_12_lp (G : am_G) (l : Launch) (d : Nat) (hd0 : 3 ≤ d) (N : Nat) : ∀ (n : Nat) (x1 : Int32) (x2 : Int32) (x3 : Int32) (μ : am_M), sm_P G l am_ci d me_X0_equalWorth 12 [(0, .ref (am_ad G 7 0)), (1, .int x1), (2, .int x2), (3, .int x3)] [] μ (f_X0_equalWorth_12_lp N n x1 x2 x3 μ) := by
  intro n
  induction n with
  | zero => intros; exact sm_none
  | succ n ih => exact fun x1 x2 x3 μ => p_X0_equalWorth_12 G l d hd0 N (f_X0_equalWorth_12_lp N n) ih x1 x2 x3 μ
set_option maxHeartbeats 4000000 in
set_option maxRecDepth 100000 in
theorem p_X0_equalWorth_0 (G : am_G) (l : Launch) (d : Nat) (hd0 : 3 ≤ d) (N : Nat) (μ : am_M) : sm_P G l am_ci d me_X0_equalWorth 0 [(0, .ref (am_ad G 7 0))] [] μ (f_X0_equalWorth_0 N μ) := by
  unfold f_X0_equalWorth_0
  refine sm_aload_n (pc := 0) dX0_equalWorth_0 rfl 0 rfl ?_
  refine sm_getr (pc := 1) dX0_equalWorth_1 fi_X0_15 ?_
  refine sm_callVi (pc := 4) (As := []) (rest := []) dX0_equalWorth_4 (c_X5_allHeads G l N μ) (by omega) wl_X0_82 vm_X5_allHeads rfl rfl (Nat.le_of_ble_eq_true rfl) (fun y2 μ1 => ?_)
  refine sm_istore_n (pc := 7) (lv' := [(1, .int y2), (0, .ref (am_ad G 7 0))]) dX0_equalWorth_7 rfl (by decide) rfl ?_
  refine sm_iconst (pc := 8) dX0_equalWorth_8 (v := 0) (by decide) ?_
  refine sm_istore_n (pc := 9) (lv' := [(2, .int (0 : Int32)), (1, .int y2), (0, .ref (am_ad G 7 0))]) dX0_equalWorth_9 rfl (by decide) rfl ?_
  refine sm_iconst (pc := 10) dX0_equalWorth_10 (v := 0) (by decide) ?_
  refine sm_istore_n (pc := 11) (lv' := [(3, .int (0 : Int32)), (2, .int (0 : Int32)), (1, .int y2), (0, .ref (am_ad G 7 0))]) dX0_equalWorth_11 rfl (by decide) rfl ?_
  refine sm_sub [3, 2, 1, 0] rfl ?_
  exact p_X0_equalWorth_12_lp G l d hd0 N N y2 (0 : Int32) (0 : Int32) μ1
theorem c_X0_equalWorth (G : am_G) (l : Launch) (N : Nat) (μ : am_M) : ct_P G l am_ci 3 me_X0_equalWorth [.ref (am_ad G 7 0)] μ (f_X0_equalWorth N μ) := ct_of (by decide +kernel) (Nat.le_of_ble_eq_true rfl) rfl (p_X0_equalWorth_0 G l 3 (Nat.le_refl _) N μ)

def f_X0_coinWorth_2 (N : Nat) (r_2 : Int32 → Int32 → Int32 → am_M → Option (Int32 × am_M)) (x1 : Int32) (x2 : Int32) (x3 : Int32) (μ : am_M) : Option (Int32 × am_M) :=
if (μ.1 1 0 1) ≤ x3 then (am_bd (f_X5_at N (5 : Int32) x1 μ) (fun y2 μ1 => am_bd (f_X7_search N y2 (0 : Int32) (0 : Int32) μ1) (fun _ μ3 => some ((μ3.1 5 0 9), μ3)))) else (am_bd (f_X7_coinOf N x3 μ) (fun y5 μ4 => am_bd (f_X7_think N x3 ((y5 * x2) / (100 : Int32)) (0 : Int32) μ4) (fun _ μ6 => r_2 x1 x2 (x3 + (1 : Int32)) μ6)))
def f_X0_coinWorth_2_lp (N : Nat) : Nat → Int32 → Int32 → Int32 → am_M → Option (Int32 × am_M)
  | 0, _, _, _, _ => none
  | n + 1, x1, x2, x3, μ => f_X0_coinWorth_2 N (f_X0_coinWorth_2_lp N n) x1 x2 x3 μ
def f_X0_coinWorth_0 (N : Nat) (a1 : Int32) (a2 : Int32) (μ : am_M) : Option (Int32 × am_M) :=
f_X0_coinWorth_2_lp N N a1 a2 (0 : Int32) μ
def f_X0_coinWorth (N : Nat) (a1 : Int32) (a2 : Int32) (μ : am_M) : Option (Int32 × am_M) := f_X0_coinWorth_0 N a1 a2 μ
set_option maxHeartbeats 4000000 in
set_option maxRecDepth 100000 in
theorem p_X0_coinWorth_2 (G : am_G) (l : Launch) (d : Nat) (hd0 : 103 ≤ d) (N : Nat) (r_2 : Int32 → Int32 → Int32 → am_M → Option (Int32 × am_M)) (H_2 : ∀ (x1 : Int32) (x2 : Int32) (x3 : Int32) (μ : am_M), sm_P G l am_ci d me_X0_coinWorth 2 [(0, .ref (am_ad G 7 0)), (1, .int x1), (2, .int x2), (3, .int x3)] [] μ (r_2 x1 x2 x3 μ)) (x1 : Int32) (x2 : Int32) (x3 : Int32) (μ : am_M) : sm_P G l am_ci d me_X0_coinWorth 2 [(0, .ref (am_ad G 7 0)), (1, .int x1), (2, .int x2), (3, .int x3)] [] μ (f_X0_coinWorth_2 N r_2 x1 x2 x3 μ) := by
  unfold f_X0_coinWorth_2
  refine sm_iload_n (pc := 2) dX0_coinWorth_2 rfl 3 rfl ?_
  refine sm_aload_n (pc := 3) dX0_coinWorth_3 rfl 0 rfl ?_
  refine sm_getr (pc := 4) dX0_coinWorth_4 fi_X0_15 ?_
  refine sm_geti (pc := 7) dX0_coinWorth_7 fi_X0_39 ?_
  refine sm_icmp_ge (pc := 10) (tgt := 41) dX0_coinWorth_10 (by decide) ?_ ?_
  · refine sm_aload_n (pc := 41) dX0_coinWorth_41 rfl 0 rfl ?_
    refine sm_getr (pc := 42) dX0_coinWorth_42 fi_X0_19 ?_
    refine sm_aload_n (pc := 45) dX0_coinWorth_45 rfl 0 rfl ?_
    refine sm_getr (pc := 46) dX0_coinWorth_46 fi_X0_15 ?_
    refine sm_iconst (pc := 49) dX0_coinWorth_49 (v := 5) (by decide) ?_
    refine sm_iload_n (pc := 50) dX0_coinWorth_50 rfl 1 rfl ?_
    refine sm_callVi (pc := 51) (As := [.int (5 : Int32), .int x1]) (rest := [.ref (am_ad G 5 0)]) dX0_coinWorth_51 (c_X5_at G l N (5 : Int32) x1 μ) (by omega) wl_X0_55 vm_X5_at rfl rfl (Nat.le_of_ble_eq_true rfl) (fun y2 μ1 => ?_)
    refine sm_iconst (pc := 54) dX0_coinWorth_54 (v := 0) (by decide) ?_
    refine sm_iconst (pc := 55) dX0_coinWorth_55 (v := 0) (by decide) ?_
    refine sm_callVv (pc := 56) (As := [.int y2, .int (0 : Int32), .int (0 : Int32)]) (rest := []) dX0_coinWorth_56 (c_X7_search G l N y2 (0 : Int32) (0 : Int32) μ1) (by omega) wl_X0_62 vm_X7_search rfl rfl (Nat.le_of_ble_eq_true rfl) (fun _ μ3 => ?_)
    refine sm_aload_n (pc := 59) dX0_coinWorth_59 rfl 0 rfl ?_
    refine sm_getr (pc := 60) dX0_coinWorth_60 fi_X0_19 ?_
    refine sm_geti (pc := 63) dX0_coinWorth_63 fi_X0_35 ?_
    exact sm_iret (pc := 66) dX0_coinWorth_66 rfl
  · refine sm_aload_n (pc := 13) dX0_coinWorth_13 rfl 0 rfl ?_
    refine sm_getr (pc := 14) dX0_coinWorth_14 fi_X0_19 ?_
    refine sm_iload_n (pc := 17) dX0_coinWorth_17 rfl 3 rfl ?_
    refine sm_aload_n (pc := 18) dX0_coinWorth_18 rfl 0 rfl ?_
    refine sm_getr (pc := 19) dX0_coinWorth_19 fi_X0_19 ?_
    refine sm_iload_n (pc := 22) dX0_coinWorth_22 rfl 3 rfl ?_
    refine sm_callVi (pc := 23) (As := [.int x3]) (rest := [.int x3, .ref (am_ad G 5 0)]) dX0_coinWorth_23 (c_X7_coinOf G l N x3 μ) (by omega) wl_X0_48 vm_X7_coinOf rfl rfl (Nat.le_of_ble_eq_true rfl) (fun y5 μ4 => ?_)
    refine sm_iload_n (pc := 26) dX0_coinWorth_26 rfl 2 rfl ?_
    refine sm_imul (pc := 27) dX0_coinWorth_27 ?_
    refine sm_bipush (pc := 28) dX0_coinWorth_28 (v := 100) (by decide) ?_
    refine sm_idivc (pc := 30) dX0_coinWorth_30 (by decide) ?_
    refine sm_iconst (pc := 31) dX0_coinWorth_31 (v := 0) (by decide) ?_
    refine sm_callVv (pc := 32) (As := [.int x3, .int ((y5 * x2) / (100 : Int32)), .int (0 : Int32)]) (rest := []) dX0_coinWorth_32 (c_X7_think G l N x3 ((y5 * x2) / (100 : Int32)) (0 : Int32) μ4) (by omega) wl_X0_51 vm_X7_think rfl rfl (Nat.le_of_ble_eq_true rfl) (fun _ μ6 => ?_)
    refine sm_iinc (pc := 35) (v := (x3 + (1 : Int32))) (lv' := [(3, .int (x3 + (1 : Int32))), (0, .ref (am_ad G 7 0)), (1, .int x1), (2, .int x2)]) dX0_coinWorth_35 3 rfl rfl (by decide) rfl ?_
    refine sm_goto (pc := 38) (tgt := 2) dX0_coinWorth_38 (by decide) ?_
    refine sm_sub [1, 2, 3, 0] rfl ?_
    exact H_2 x1 x2 (x3 + (1 : Int32)) μ6
theorem p_X0_coinWorth_2_lp (G : am_G) (l : Launch) (d : Nat) (hd0 : 103 ≤ d) (N : Nat) : ∀ (n : Nat) (x1 : Int32) (x2 : Int32) (x3 : Int32) (μ : am_M), sm_P G l am_ci d me_X0_coinWorth 2 [(0, .ref (am_ad G 7 0)), (1, .int x1), (2, .int x2), (3, .int x3)] [] μ (f_X0_coinWorth_2_lp N n x1 x2 x3 μ) := by
  intro n
  induction n with
  | zero => intros; exact sm_none
  | succ n ih => exact fun x1 x2 x3 μ => p_X0_coinWorth_2 G l d hd0 N (f_X0_coinWorth_2_lp N n) ih x1 x2 x3 μ
set_option maxHeartbeats 4000000 in
set_option maxRecDepth 100000 in
theorem p_X0_coinWorth_0 (G : am_G) (l : Launch) (d : Nat) (hd0 : 103 ≤ d) (N : Nat) (a1 : Int32) (a2 : Int32) (μ : am_M) : sm_P G l am_ci d me_X0_coinWorth 0 [(0, .ref (am_ad G 7 0)), (1, .int a1), (2, .int a2)] [] μ (f_X0_coinWorth_0 N a1 a2 μ) := by
  unfold f_X0_coinWorth_0
  refine sm_iconst (pc := 0) dX0_coinWorth_0 (v := 0) (by decide) ?_
  refine sm_istore_n (pc := 1) (lv' := [(3, .int (0 : Int32)), (0, .ref (am_ad G 7 0)), (1, .int a1), (2, .int a2)]) dX0_coinWorth_1 rfl (by decide) rfl ?_
  refine sm_sub [1, 2, 3, 0] rfl ?_
  exact p_X0_coinWorth_2_lp G l d hd0 N N a1 a2 (0 : Int32) μ
theorem c_X0_coinWorth (G : am_G) (l : Launch) (N : Nat) (a1 : Int32) (a2 : Int32) (μ : am_M) : ct_P G l am_ci 103 me_X0_coinWorth [.ref (am_ad G 7 0), .int a1, .int a2] μ (f_X0_coinWorth N a1 a2 μ) := ct_of (by decide +kernel) (Nat.le_of_ble_eq_true rfl) rfl (p_X0_coinWorth_0 G l 103 (Nat.le_refl _) N a1 a2 μ)

def f_X0_otherwise_0 (N : Nat) (a1 : Int32) (a2 : Int32) (μ : am_M) : Option (Int32 × am_M) :=
am_bd (f_X7_recall N μ) (fun _ μ1 => am_bd (f_X7_weigh N a1 μ1) (fun _ μ2 => if a2 = 0 then (am_bd (f_X0_equalWorth N μ2) (fun y6 μ5 => some (y6, μ5))) else (am_bd (f_X0_coinWorth N a1 a2 μ2) (fun y4 μ3 => some (y4, μ3)))))
def f_X0_otherwise (N : Nat) (a1 : Int32) (a2 : Int32) (μ : am_M) : Option (Int32 × am_M) := f_X0_otherwise_0 N a1 a2 μ
set_option maxHeartbeats 4000000 in
set_option maxRecDepth 100000 in
theorem p_X0_otherwise_0 (G : am_G) (l : Launch) (d : Nat) (hd0 : 104 ≤ d) (N : Nat) (a1 : Int32) (a2 : Int32) (μ : am_M) : sm_P G l am_ci d me_X0_otherwise 0 [(0, .ref (am_ad G 7 0)), (1, .int a1), (2, .int a2)] [] μ (f_X0_otherwise_0 N a1 a2 μ) := by
  unfold f_X0_otherwise_0
  refine sm_aload_n (pc := 0) dX0_otherwise_0 rfl 0 rfl ?_
  refine sm_getr (pc := 1) dX0_otherwise_1 fi_X0_19 ?_
  refine sm_callVv (pc := 4) (As := []) (rest := []) dX0_otherwise_4 (c_X7_recall G l N μ) (by omega) wl_X0_23 vm_X7_recall rfl rfl (Nat.le_of_ble_eq_true rfl) (fun _ μ1 => ?_)
  refine sm_aload_n (pc := 7) dX0_otherwise_7 rfl 0 rfl ?_
  refine sm_getr (pc := 8) dX0_otherwise_8 fi_X0_19 ?_
  refine sm_iload_n (pc := 11) dX0_otherwise_11 rfl 1 rfl ?_
  refine sm_callVv (pc := 12) (As := [.int a1]) (rest := []) dX0_otherwise_12 (c_X7_weigh G l N a1 μ1) (by omega) wl_X0_28 vm_X7_weigh rfl rfl (Nat.le_of_ble_eq_true rfl) (fun _ μ2 => ?_)
  refine sm_iload_n (pc := 15) dX0_otherwise_15 rfl 2 rfl ?_
  refine sm_if_ne (pc := 16) (tgt := 26) dX0_otherwise_16 (by decide) ?_ ?_
  · refine sm_aload_n (pc := 26) dX0_otherwise_26 rfl 0 rfl ?_
    refine sm_iload_n (pc := 27) dX0_otherwise_27 rfl 1 rfl ?_
    refine sm_iload_n (pc := 28) dX0_otherwise_28 rfl 2 rfl ?_
    refine sm_callVi (pc := 29) (As := [.int a1, .int a2]) (rest := []) dX0_otherwise_29 (c_X0_coinWorth G l N a1 a2 μ2) (by omega) wl_X0_79 vm_X0_coinWorth rfl rfl (Nat.le_of_ble_eq_true rfl) (fun y4 μ3 => ?_)
    exact sm_iret (pc := 32) dX0_otherwise_32 rfl
  · refine sm_aload_n (pc := 19) dX0_otherwise_19 rfl 0 rfl ?_
    refine sm_callVi (pc := 20) (As := []) (rest := []) dX0_otherwise_20 (c_X0_equalWorth G l N μ2) (by omega) wl_X0_75 vm_X0_equalWorth rfl rfl (Nat.le_of_ble_eq_true rfl) (fun y6 μ5 => ?_)
    refine sm_goto (pc := 23) (tgt := 32) dX0_otherwise_23 (by decide) ?_
    exact sm_iret (pc := 32) dX0_otherwise_32 rfl
theorem c_X0_otherwise (G : am_G) (l : Launch) (N : Nat) (a1 : Int32) (a2 : Int32) (μ : am_M) : ct_P G l am_ci 104 me_X0_otherwise [.ref (am_ad G 7 0), .int a1, .int a2] μ (f_X0_otherwise N a1 a2 μ) := ct_of (by decide +kernel) (Nat.le_of_ble_eq_true rfl) rfl (p_X0_otherwise_0 G l 104 (Nat.le_refl _) N a1 a2 μ)

def f_X0_losers_35 (N : Nat) (r_4 : Int32 → Int32 → Int32 → am_M → Option (Int32 × am_M)) (x1 : Int32) (x2 : Int32) (x3 : Int32) (μ : am_M) : Option (Int32 × am_M) :=
r_4 x1 x2 (x3 + (1 : Int32)) μ
def f_X0_losers_4 (N : Nat) (r_4 : Int32 → Int32 → Int32 → am_M → Option (Int32 × am_M)) (x1 : Int32) (x2 : Int32) (x3 : Int32) (μ : am_M) : Option (Int32 × am_M) :=
if (μ.1 1 0 2) ≤ x3 then (some (x2, μ)) else (am_bd (f_X0_plainWorth N x3 μ) (fun y2 μ1 => am_bd (f_X0_otherwise N x3 x1 μ1) (fun y4 μ3 => if y4 ≤ y2 then (f_X0_losers_35 N r_4 x1 x2 x3 μ3) else (am_nm (x2 ||| ((1 : Int32) <<< (x3 &&& 31))) (fun y5 => f_X0_losers_35 N r_4 x1 y5 x3 μ3)))))
def f_X0_losers_4_lp (N : Nat) : Nat → Int32 → Int32 → Int32 → am_M → Option (Int32 × am_M)
  | 0, _, _, _, _ => none
  | n + 1, x1, x2, x3, μ => f_X0_losers_4 N (f_X0_losers_4_lp N n) x1 x2 x3 μ
def f_X0_losers_0 (N : Nat) (a1 : Int32) (μ : am_M) : Option (Int32 × am_M) :=
f_X0_losers_4_lp N N a1 (0 : Int32) (0 : Int32) μ
def f_X0_losers (N : Nat) (a1 : Int32) (μ : am_M) : Option (Int32 × am_M) := f_X0_losers_0 N a1 μ
set_option maxHeartbeats 4000000 in
set_option maxRecDepth 100000 in
theorem p_X0_losers_35 (G : am_G) (l : Launch) (d : Nat) (hd0 : 105 ≤ d) (N : Nat) (r_4 : Int32 → Int32 → Int32 → am_M → Option (Int32 × am_M)) (H_4 : ∀ (x1 : Int32) (x2 : Int32) (x3 : Int32) (μ : am_M), sm_P G l am_ci d me_X0_losers 4 [(0, .ref (am_ad G 7 0)), (1, .int x1), (2, .int x2), (3, .int x3)] [] μ (r_4 x1 x2 x3 μ)) (x1 : Int32) (x2 : Int32) (x3 : Int32) (μ : am_M) : sm_P G l am_ci d me_X0_losers 35 [(0, .ref (am_ad G 7 0)), (1, .int x1), (2, .int x2), (3, .int x3)] [] μ (f_X0_losers_35 N r_4 x1 x2 x3 μ) := by
  unfold f_X0_losers_35
  refine sm_iinc (pc := 35) (v := (x3 + (1 : Int32))) (lv' := [(3, .int (x3 + (1 : Int32))), (0, .ref (am_ad G 7 0)), (1, .int x1), (2, .int x2)]) dX0_losers_35 3 rfl rfl (by decide) rfl ?_
  refine sm_goto (pc := 38) (tgt := 4) dX0_losers_38 (by decide) ?_
  refine sm_sub [1, 2, 3, 0] rfl ?_
  exact H_4 x1 x2 (x3 + (1 : Int32)) μ
set_option maxHeartbeats 4000000 in
set_option maxRecDepth 100000 in
theorem p_X0_losers_4 (G : am_G) (l : Launch) (d : Nat) (hd0 : 105 ≤ d) (N : Nat) (r_4 : Int32 → Int32 → Int32 → am_M → Option (Int32 × am_M)) (H_4 : ∀ (x1 : Int32) (x2 : Int32) (x3 : Int32) (μ : am_M), sm_P G l am_ci d me_X0_losers 4 [(0, .ref (am_ad G 7 0)), (1, .int x1), (2, .int x2), (3, .int x3)] [] μ (r_4 x1 x2 x3 μ)) (x1 : Int32) (x2 : Int32) (x3 : Int32) (μ : am_M) : sm_P G l am_ci d me_X0_losers 4 [(0, .ref (am_ad G 7 0)), (1, .int x1), (2, .int x2), (3, .int x3)] [] μ (f_X0_losers_4 N r_4 x1 x2 x3 μ) := by
  unfold f_X0_losers_4
  refine sm_iload_n (pc := 4) dX0_losers_4 rfl 3 rfl ?_
  refine sm_aload_n (pc := 5) dX0_losers_5 rfl 0 rfl ?_
  refine sm_getr (pc := 6) dX0_losers_6 fi_X0_15 ?_
  refine sm_geti (pc := 9) dX0_losers_9 fi_X0_65 ?_
  refine sm_icmp_ge (pc := 12) (tgt := 41) dX0_losers_12 (by decide) ?_ ?_
  · refine sm_iload_n (pc := 41) dX0_losers_41 rfl 2 rfl ?_
    exact sm_iret (pc := 42) dX0_losers_42 rfl
  · refine sm_aload_n (pc := 15) dX0_losers_15 rfl 0 rfl ?_
    refine sm_iload_n (pc := 16) dX0_losers_16 rfl 3 rfl ?_
    refine sm_callVi (pc := 17) (As := [.int x3]) (rest := []) dX0_losers_17 (c_X0_plainWorth G l N x3 μ) (by omega) wl_X0_93 vm_X0_plainWorth rfl rfl (Nat.le_of_ble_eq_true rfl) (fun y2 μ1 => ?_)
    refine sm_aload_n (pc := 20) dX0_losers_20 rfl 0 rfl ?_
    refine sm_iload_n (pc := 21) dX0_losers_21 rfl 3 rfl ?_
    refine sm_iload_n (pc := 22) dX0_losers_22 rfl 1 rfl ?_
    refine sm_callVi (pc := 23) (As := [.int x3, .int x1]) (rest := [.int y2]) dX0_losers_23 (c_X0_otherwise G l N x3 x1 μ1) (by omega) wl_X0_96 vm_X0_otherwise rfl rfl (Nat.le_of_ble_eq_true rfl) (fun y4 μ3 => ?_)
    refine sm_icmp_ge (pc := 26) (tgt := 35) dX0_losers_26 (by decide) ?_ ?_
    · exact p_X0_losers_35 G l d hd0 N r_4 H_4 x1 x2 x3 μ3
    · refine sm_iload_n (pc := 29) dX0_losers_29 rfl 2 rfl ?_
      refine sm_iconst (pc := 30) dX0_losers_30 (v := 1) (by decide) ?_
      refine sm_iload_n (pc := 31) dX0_losers_31 rfl 3 rfl ?_
      refine sm_ishl (pc := 32) dX0_losers_32 ?_
      refine sm_ior (pc := 33) dX0_losers_33 ?_
      refine sm_nmI (fun y5 => ?_)
      refine sm_istore_n (pc := 34) (lv' := [(2, .int y5), (0, .ref (am_ad G 7 0)), (1, .int x1), (3, .int x3)]) dX0_losers_34 rfl (by decide) rfl ?_
      refine sm_sub [1, 2, 0, 3] rfl ?_
      exact p_X0_losers_35 G l d hd0 N r_4 H_4 x1 y5 x3 μ3
theorem p_X0_losers_4_lp (G : am_G) (l : Launch) (d : Nat) (hd0 : 105 ≤ d) (N : Nat) : ∀ (n : Nat) (x1 : Int32) (x2 : Int32) (x3 : Int32) (μ : am_M), sm_P G l am_ci d me_X0_losers 4 [(0, .ref (am_ad G 7 0)), (1, .int x1), (2, .int x2), (3, .int x3)] [] μ (f_X0_losers_4_lp N n x1 x2 x3 μ) := by
  intro n
  induction n with
  | zero => intros; exact sm_none
  | succ n ih => exact fun x1 x2 x3 μ => p_X0_losers_4 G l d hd0 N (f_X0_losers_4_lp N n) ih x1 x2 x3 μ
set_option maxHeartbeats 4000000 in
set_option maxRecDepth 100000 in
theorem p_X0_losers_0 (G : am_G) (l : Launch) (d : Nat) (hd0 : 105 ≤ d) (N : Nat) (a1 : Int32) (μ : am_M) : sm_P G l am_ci d me_X0_losers 0 [(0, .ref (am_ad G 7 0)), (1, .int a1)] [] μ (f_X0_losers_0 N a1 μ) := by
  unfold f_X0_losers_0
  refine sm_iconst (pc := 0) dX0_losers_0 (v := 0) (by decide) ?_
  refine sm_istore_n (pc := 1) (lv' := [(2, .int (0 : Int32)), (0, .ref (am_ad G 7 0)), (1, .int a1)]) dX0_losers_1 rfl (by decide) rfl ?_
  refine sm_iconst (pc := 2) dX0_losers_2 (v := 0) (by decide) ?_
  refine sm_istore_n (pc := 3) (lv' := [(3, .int (0 : Int32)), (2, .int (0 : Int32)), (0, .ref (am_ad G 7 0)), (1, .int a1)]) dX0_losers_3 rfl (by decide) rfl ?_
  refine sm_sub [2, 3, 1, 0] rfl ?_
  exact p_X0_losers_4_lp G l d hd0 N N a1 (0 : Int32) (0 : Int32) μ
theorem c_X0_losers (G : am_G) (l : Launch) (N : Nat) (a1 : Int32) (μ : am_M) : ct_P G l am_ci 105 me_X0_losers [.ref (am_ad G 7 0), .int a1] μ (f_X0_losers N a1 μ) := ct_of (by decide +kernel) (Nat.le_of_ble_eq_true rfl) rfl (p_X0_losers_0 G l 105 (Nat.le_refl _) N a1 μ)

def f_X0_live_31 (N : Nat) (r_31 : Int32 → Int32 → Int32 → Int32 → Int32 → am_M → Option (Unit × am_M)) (x1 : Int32) (x2 : Int32) (x3 : Int32) (x4 : Int32) (x5 : Int32) (μ : am_M) : Option (Unit × am_M) :=
if x2 ≤ x5 then (am_nm (am_ui μ 7 0 4 ((μ.1 7 0 4) + x4)) (fun μ5 => some ((), μ5))) else (am_nm (if x3 < x4 then x3 else x4) (fun y6 => am_bd (f_X5_pointsInAll N x1 μ) (fun y8 μ7 => am_nm (y8 + y6) (fun y9 => am_bd (f_X5_at N (5 : Int32) x1 μ7) (fun y11 μ10 => am_bd (f_X7_search N y11 y9 (100 : Int32) μ10) (fun _ μ12 => am_nm (am_ui μ12 7 0 3 ((μ12.1 7 0 3) + (μ12.1 5 0 9))) (fun μ13 => am_nm (am_ui μ13 7 0 4 ((μ13.1 7 0 4) + (x4 - y6))) (fun μ14 => am_nm (y9 - (μ14.1 5 0 11)) (fun y15 => r_31 x1 x2 x3 y15 (x5 + (1 : Int32)) μ14)))))))))
def f_X0_live_31_lp (N : Nat) : Nat → Int32 → Int32 → Int32 → Int32 → Int32 → am_M → Option (Unit × am_M)
  | 0, _, _, _, _, _, _ => none
  | n + 1, x1, x2, x3, x4, x5, μ => f_X0_live_31 N (f_X0_live_31_lp N n) x1 x2 x3 x4 x5 μ
def f_X0_live_0 (N : Nat) (a1 : Int32) (a2 : Int32) (a3 : Int32) (μ : am_M) : Option (Unit × am_M) :=
am_bd (f_X7_recall N μ) (fun _ μ1 => am_bd (f_X7_weigh N a1 μ1) (fun _ μ2 => am_nm (am_ui μ2 7 0 3 (0 : Int32)) (fun μ3 => am_nm (am_ui μ3 7 0 4 (0 : Int32)) (fun μ4 => f_X0_live_31_lp N N a1 a2 a3 (0 : Int32) (0 : Int32) μ4))))
def f_X0_live (N : Nat) (a1 : Int32) (a2 : Int32) (a3 : Int32) (μ : am_M) : Option (Unit × am_M) := f_X0_live_0 N a1 a2 a3 μ
set_option maxHeartbeats 4000000 in
set_option maxRecDepth 100000 in
theorem p_X0_live_31 (G : am_G) (l : Launch) (d : Nat) (hd0 : 103 ≤ d) (N : Nat) (r_31 : Int32 → Int32 → Int32 → Int32 → Int32 → am_M → Option (Unit × am_M)) (H_31 : ∀ (x1 : Int32) (x2 : Int32) (x3 : Int32) (x4 : Int32) (x5 : Int32) (μ : am_M), sm_P G l am_cu d me_X0_live 31 [(0, .ref (am_ad G 7 0)), (1, .int x1), (2, .int x2), (3, .int x3), (4, .int x4), (5, .int x5)] [] μ (r_31 x1 x2 x3 x4 x5 μ)) (x1 : Int32) (x2 : Int32) (x3 : Int32) (x4 : Int32) (x5 : Int32) (μ : am_M) : sm_P G l am_cu d me_X0_live 31 [(0, .ref (am_ad G 7 0)), (1, .int x1), (2, .int x2), (3, .int x3), (4, .int x4), (5, .int x5)] [] μ (f_X0_live_31 N r_31 x1 x2 x3 x4 x5 μ) := by
  unfold f_X0_live_31
  refine sm_iload (pc := 31) dX0_live_31 5 rfl ?_
  refine sm_iload_n (pc := 33) dX0_live_33 rfl 2 rfl ?_
  refine sm_icmp_ge (pc := 34) (tgt := 126) dX0_live_34 (by decide) ?_ ?_
  · refine sm_aload_n (pc := 126) dX0_live_126 rfl 0 rfl ?_
    refine sm_dup (pc := 127) dX0_live_127 rfl ?_
    refine sm_geti (pc := 128) dX0_live_128 fi_X0_102 ?_
    refine sm_iload (pc := 131) dX0_live_131 4 rfl ?_
    refine sm_iadd (pc := 133) dX0_live_133 ?_
    refine sm_puti (pc := 134) dX0_live_134 fi_X0_102 ?_
    refine sm_nmM (fun μ5 => ?_)
    exact sm_vret (pc := 137) dX0_live_137 rfl
  · refine sm_iload (pc := 37) dX0_live_37 4 rfl ?_
    refine sm_iload_n (pc := 39) dX0_live_39 rfl 3 rfl ?_
    refine sm_min (pc := 40) dX0_live_40 (by omega) (Nat.le_of_ble_eq_true rfl) wl_X0_85 wd_min wd_minit wd_minc ?_
    refine sm_nmI (fun y6 => ?_)
    refine sm_istore (pc := 43) (lv' := [(6, .int y6), (0, .ref (am_ad G 7 0)), (1, .int x1), (2, .int x2), (3, .int x3), (4, .int x4), (5, .int x5)]) dX0_live_43 (by decide) rfl ?_
    refine sm_aload_n (pc := 45) dX0_live_45 rfl 1 rfl ?_
    refine sm_getr (pc := 46) dX0_live_46 fi_X0_15 ?_
    refine sm_iload_n (pc := 49) dX0_live_49 rfl 2 rfl ?_
    refine sm_callVi (pc := 50) (As := [.int x1]) (rest := []) dX0_live_50 (c_X5_pointsInAll G l N x1 μ) (by omega) wl_X0_59 vm_X5_pointsInAll rfl rfl (Nat.le_of_ble_eq_true rfl) (fun y8 μ7 => ?_)
    refine sm_iload (pc := 53) dX0_live_53 0 rfl ?_
    refine sm_iadd (pc := 55) dX0_live_55 ?_
    refine sm_nmI (fun y9 => ?_)
    refine sm_istore (pc := 56) (lv' := [(7, .int y9), (6, .int y6), (0, .ref (am_ad G 7 0)), (1, .int x1), (2, .int x2), (3, .int x3), (4, .int x4), (5, .int x5)]) dX0_live_56 (by decide) rfl ?_
    refine sm_aload_n (pc := 58) dX0_live_58 rfl 2 rfl ?_
    refine sm_getr (pc := 59) dX0_live_59 fi_X0_19 ?_
    refine sm_aload_n (pc := 62) dX0_live_62 rfl 2 rfl ?_
    refine sm_getr (pc := 63) dX0_live_63 fi_X0_15 ?_
    refine sm_iconst (pc := 66) dX0_live_66 (v := 5) (by decide) ?_
    refine sm_iload_n (pc := 67) dX0_live_67 rfl 3 rfl ?_
    refine sm_callVi (pc := 68) (As := [.int (5 : Int32), .int x1]) (rest := [.ref (am_ad G 5 0)]) dX0_live_68 (c_X5_at G l N (5 : Int32) x1 μ7) (by omega) wl_X0_55 vm_X5_at rfl rfl (Nat.le_of_ble_eq_true rfl) (fun y11 μ10 => ?_)
    refine sm_iload (pc := 71) dX0_live_71 0 rfl ?_
    refine sm_bipush (pc := 73) dX0_live_73 (v := 100) (by decide) ?_
    refine sm_callVv (pc := 75) (As := [.int y11, .int y9, .int (100 : Int32)]) (rest := []) dX0_live_75 (c_X7_search G l N y11 y9 (100 : Int32) μ10) (by omega) wl_X0_62 vm_X7_search rfl rfl (Nat.le_of_ble_eq_true rfl) (fun _ μ12 => ?_)
    refine sm_aload_n (pc := 78) dX0_live_78 rfl 2 rfl ?_
    refine sm_dup (pc := 79) dX0_live_79 rfl ?_
    refine sm_geti (pc := 80) dX0_live_80 fi_X0_99 ?_
    refine sm_aload_n (pc := 83) dX0_live_83 rfl 2 rfl ?_
    refine sm_getr (pc := 84) dX0_live_84 fi_X0_19 ?_
    refine sm_geti (pc := 87) dX0_live_87 fi_X0_35 ?_
    refine sm_iadd (pc := 90) dX0_live_90 ?_
    refine sm_puti (pc := 91) dX0_live_91 fi_X0_99 ?_
    refine sm_nmM (fun μ13 => ?_)
    refine sm_aload_n (pc := 94) dX0_live_94 rfl 2 rfl ?_
    refine sm_dup (pc := 95) dX0_live_95 rfl ?_
    refine sm_geti (pc := 96) dX0_live_96 fi_X0_102 ?_
    refine sm_iload (pc := 99) dX0_live_99 6 rfl ?_
    refine sm_iload (pc := 101) dX0_live_101 1 rfl ?_
    refine sm_isub (pc := 103) dX0_live_103 ?_
    refine sm_iadd (pc := 104) dX0_live_104 ?_
    refine sm_puti (pc := 105) dX0_live_105 fi_X0_102 ?_
    refine sm_nmM (fun μ14 => ?_)
    refine sm_iload (pc := 108) dX0_live_108 0 rfl ?_
    refine sm_aload_n (pc := 110) dX0_live_110 rfl 2 rfl ?_
    refine sm_getr (pc := 111) dX0_live_111 fi_X0_19 ?_
    refine sm_geti (pc := 114) dX0_live_114 fi_X0_72 ?_
    refine sm_isub (pc := 117) dX0_live_117 ?_
    refine sm_nmI (fun y15 => ?_)
    refine sm_istore (pc := 118) (lv' := [(4, .int y15), (7, .int y9), (6, .int y6), (0, .ref (am_ad G 7 0)), (1, .int x1), (2, .int x2), (3, .int x3), (5, .int x5)]) dX0_live_118 (by decide) rfl ?_
    refine sm_iinc (pc := 120) (v := (x5 + (1 : Int32))) (lv' := [(5, .int (x5 + (1 : Int32))), (4, .int y15), (7, .int y9), (6, .int y6), (0, .ref (am_ad G 7 0)), (1, .int x1), (2, .int x2), (3, .int x3)]) dX0_live_120 7 rfl rfl (by decide) rfl ?_
    refine sm_goto (pc := 123) (tgt := 31) dX0_live_123 (by decide) ?_
    refine sm_sub [4, 5, 6, 7, 1, 0] rfl ?_
    exact H_31 x1 x2 x3 y15 (x5 + (1 : Int32)) μ14
theorem p_X0_live_31_lp (G : am_G) (l : Launch) (d : Nat) (hd0 : 103 ≤ d) (N : Nat) : ∀ (n : Nat) (x1 : Int32) (x2 : Int32) (x3 : Int32) (x4 : Int32) (x5 : Int32) (μ : am_M), sm_P G l am_cu d me_X0_live 31 [(0, .ref (am_ad G 7 0)), (1, .int x1), (2, .int x2), (3, .int x3), (4, .int x4), (5, .int x5)] [] μ (f_X0_live_31_lp N n x1 x2 x3 x4 x5 μ) := by
  intro n
  induction n with
  | zero => intros; exact sm_none
  | succ n ih => exact fun x1 x2 x3 x4 x5 μ => p_X0_live_31 G l d hd0 N (f_X0_live_31_lp N n) ih x1 x2 x3 x4 x5 μ
set_option maxHeartbeats 4000000 in
set_option maxRecDepth 100000 in
theorem p_X0_live_0 (G : am_G) (l : Launch) (d : Nat) (hd0 : 103 ≤ d) (N : Nat) (a1 : Int32) (a2 : Int32) (a3 : Int32) (μ : am_M) : sm_P G l am_cu d me_X0_live 0 [(0, .ref (am_ad G 7 0)), (1, .int a1), (2, .int a2), (3, .int a3)] [] μ (f_X0_live_0 N a1 a2 a3 μ) := by
  unfold f_X0_live_0
  refine sm_aload_n (pc := 0) dX0_live_0 rfl 0 rfl ?_
  refine sm_getr (pc := 1) dX0_live_1 fi_X0_19 ?_
  refine sm_callVv (pc := 4) (As := []) (rest := []) dX0_live_4 (c_X7_recall G l N μ) (by omega) wl_X0_23 vm_X7_recall rfl rfl (Nat.le_of_ble_eq_true rfl) (fun _ μ1 => ?_)
  refine sm_aload_n (pc := 7) dX0_live_7 rfl 0 rfl ?_
  refine sm_getr (pc := 8) dX0_live_8 fi_X0_19 ?_
  refine sm_iload_n (pc := 11) dX0_live_11 rfl 1 rfl ?_
  refine sm_callVv (pc := 12) (As := [.int a1]) (rest := []) dX0_live_12 (c_X7_weigh G l N a1 μ1) (by omega) wl_X0_28 vm_X7_weigh rfl rfl (Nat.le_of_ble_eq_true rfl) (fun _ μ2 => ?_)
  refine sm_aload_n (pc := 15) dX0_live_15 rfl 0 rfl ?_
  refine sm_iconst (pc := 16) dX0_live_16 (v := 0) (by decide) ?_
  refine sm_puti (pc := 17) dX0_live_17 fi_X0_99 ?_
  refine sm_nmM (fun μ3 => ?_)
  refine sm_aload_n (pc := 20) dX0_live_20 rfl 0 rfl ?_
  refine sm_iconst (pc := 21) dX0_live_21 (v := 0) (by decide) ?_
  refine sm_puti (pc := 22) dX0_live_22 fi_X0_102 ?_
  refine sm_nmM (fun μ4 => ?_)
  refine sm_iconst (pc := 25) dX0_live_25 (v := 0) (by decide) ?_
  refine sm_istore (pc := 26) (lv' := [(4, .int (0 : Int32)), (0, .ref (am_ad G 7 0)), (1, .int a1), (2, .int a2), (3, .int a3)]) dX0_live_26 (by decide) rfl ?_
  refine sm_iconst (pc := 28) dX0_live_28 (v := 0) (by decide) ?_
  refine sm_istore (pc := 29) (lv' := [(5, .int (0 : Int32)), (4, .int (0 : Int32)), (0, .ref (am_ad G 7 0)), (1, .int a1), (2, .int a2), (3, .int a3)]) dX0_live_29 (by decide) rfl ?_
  refine sm_sub [2, 3, 4, 5, 1, 0] rfl ?_
  exact p_X0_live_31_lp G l d hd0 N N a1 a2 a3 (0 : Int32) (0 : Int32) μ4
theorem c_X0_live (G : am_G) (l : Launch) (N : Nat) (a1 : Int32) (a2 : Int32) (a3 : Int32) (μ : am_M) : ct_P G l am_cu 103 me_X0_live [.ref (am_ad G 7 0), .int a1, .int a2, .int a3] μ (f_X0_live N a1 a2 a3 μ) := ct_of (by decide +kernel) (Nat.le_of_ble_eq_true rfl) rfl (p_X0_live_0 G l 103 (Nat.le_refl _) N a1 a2 a3 μ)

def f_X0_spread_32 (N : Nat) (g_X0_spread : Int32 → Int32 → Int32 → Int32 → am_M → Option (Unit × am_M)) (x2 : Int32) (x4 : Int32) (μ : am_M) : Option (Unit × am_M) :=
am_gd x4 259 (fun j1 => am_nm (if (μ.1 114 0 j1) < x2 then x2 else (μ.1 114 0 j1)) (fun y2 => am_gd x4 259 (fun j3 => am_nm (am_ui μ 114 0 j3 y2) (fun μ4 => some ((), μ4)))))
def f_X0_spread_74 (N : Nat) (g_X0_spread : Int32 → Int32 → Int32 → Int32 → am_M → Option (Unit × am_M)) (r_74 : Int32 → Int32 → Int32 → Int32 → Int32 → Int32 → Int32 → am_M → Option (Unit × am_M)) (x1 : Int32) (x2 : Int32) (x3 : Int32) (x4 : Int32) (x5 : Int32) (x6 : Int32) (x7 : Int32) (μ : am_M) : Option (Unit × am_M) :=
if (3 : Int32) < x7 then (some ((), μ)) else (am_bd (f_X7_worthOfFirst N x1 x7 μ) (fun y10 μ9 => am_bd (g_X0_spread (x1 + (1 : Int32)) (x2 + y10) (x3 - (x7 * x5)) (x4 + (x7 * x6)) μ9) (fun _ μ11 => r_74 x1 x2 x3 x4 x5 x6 (x7 + (1 : Int32)) μ11)))
def f_X0_spread_74_lp (N : Nat) (g_X0_spread : Int32 → Int32 → Int32 → Int32 → am_M → Option (Unit × am_M)) : Nat → Int32 → Int32 → Int32 → Int32 → Int32 → Int32 → Int32 → am_M → Option (Unit × am_M)
  | 0, _, _, _, _, _, _, _, _ => none
  | n + 1, x1, x2, x3, x4, x5, x6, x7, μ => f_X0_spread_74 N g_X0_spread (f_X0_spread_74_lp N g_X0_spread n) x1 x2 x3 x4 x5 x6 x7 μ
def f_X0_spread_0 (N : Nat) (g_X0_spread : Int32 → Int32 → Int32 → Int32 → am_M → Option (Unit × am_M)) (a1 : Int32) (a2 : Int32) (a3 : Int32) (a4 : Int32) (μ : am_M) : Option (Unit × am_M) :=
if a3 < 0 then (some ((), μ)) else (if a4 < (259 : Int32) then (if (μ.1 1 0 1) ≤ a1 then (f_X0_spread_32 N g_X0_spread a2 a4 μ) else (if a1 < (6 : Int32) then (am_bd (f_X7_coinOf N a1 μ) (fun y6 μ5 => am_bd (f_X7_pointsOf N a1 μ5) (fun y8 μ7 => f_X0_spread_74_lp N g_X0_spread N a1 a2 a3 a4 y6 y8 (0 : Int32) μ7))) else (f_X0_spread_32 N g_X0_spread a2 a4 μ))) else (some ((), μ)))
def f_X0_spread_r (N : Nat) : Nat → Int32 → Int32 → Int32 → Int32 → am_M → Option (Unit × am_M)
  | 0, _, _, _, _, _ => none
  | D + 1, a1, a2, a3, a4, μ => f_X0_spread_0 N (f_X0_spread_r N D) a1 a2 a3 a4 μ
def f_X0_spread (N : Nat) (a1 : Int32) (a2 : Int32) (a3 : Int32) (a4 : Int32) (μ : am_M) : Option (Unit × am_M) := f_X0_spread_r N 100 a1 a2 a3 a4 μ
set_option maxHeartbeats 4000000 in
set_option maxRecDepth 100000 in
theorem p_X0_spread_32 (G : am_G) (l : Launch) (d : Nat) (hd0 : 2 ≤ d) (dd : Nat) (hdd : dd + 1 ≤ d) (N : Nat) (g_X0_spread : Int32 → Int32 → Int32 → Int32 → am_M → Option (Unit × am_M)) (Hg_X0_spread : ∀ (z0 : Int32) (z1 : Int32) (z2 : Int32) (z3 : Int32) (μ : am_M), ct_P G l am_cu dd me_X0_spread [.ref (am_ad G 7 0), .int z0, .int z1, .int z2, .int z3] μ (g_X0_spread z0 z1 z2 z3 μ)) (x2 : Int32) (x4 : Int32) (μ : am_M) : sm_P G l am_cu d me_X0_spread 32 [(0, .ref (am_ad G 7 0)), (2, .int x2), (4, .int x4)] [] μ (f_X0_spread_32 N g_X0_spread x2 x4 μ) := by
  unfold f_X0_spread_32
  refine sm_aload_n (pc := 32) dX0_spread_32 rfl 0 rfl ?_
  refine sm_getr (pc := 33) dX0_spread_33 fi_X0_9 ?_
  refine sm_iload (pc := 36) dX0_spread_36 2 rfl ?_
  refine sm_aload_n (pc := 38) dX0_spread_38 rfl 0 rfl ?_
  refine sm_getr (pc := 39) dX0_spread_39 fi_X0_9 ?_
  refine sm_iload (pc := 42) dX0_spread_42 2 rfl ?_
  refine sm_iald (pc := 44) dX0_spread_44 ly_114 (by decide) (fun j1 hj1 => ?_)
  refine sm_iload_n (pc := 45) dX0_spread_45 rfl 1 rfl ?_
  refine sm_max (pc := 46) dX0_spread_46 (by omega) (Nat.le_of_ble_eq_true rfl) wl_X0_108 wd_max wd_minit wd_maxc ?_
  refine sm_nmI (fun y2 => ?_)
  refine sm_iast (pc := 49) dX0_spread_49 ly_114 (by decide) (fun j3 hj3 => ?_)
  refine sm_nmM (fun μ4 => ?_)
  exact sm_vret (pc := 50) dX0_spread_50 rfl
set_option maxHeartbeats 4000000 in
set_option maxRecDepth 100000 in
theorem p_X0_spread_74 (G : am_G) (l : Launch) (d : Nat) (hd0 : 2 ≤ d) (dd : Nat) (hdd : dd + 1 ≤ d) (N : Nat) (g_X0_spread : Int32 → Int32 → Int32 → Int32 → am_M → Option (Unit × am_M)) (r_74 : Int32 → Int32 → Int32 → Int32 → Int32 → Int32 → Int32 → am_M → Option (Unit × am_M)) (Hg_X0_spread : ∀ (z0 : Int32) (z1 : Int32) (z2 : Int32) (z3 : Int32) (μ : am_M), ct_P G l am_cu dd me_X0_spread [.ref (am_ad G 7 0), .int z0, .int z1, .int z2, .int z3] μ (g_X0_spread z0 z1 z2 z3 μ)) (H_74 : ∀ (x1 : Int32) (x2 : Int32) (x3 : Int32) (x4 : Int32) (x5 : Int32) (x6 : Int32) (x7 : Int32) (μ : am_M), sm_P G l am_cu d me_X0_spread 74 [(0, .ref (am_ad G 7 0)), (1, .int x1), (2, .int x2), (3, .int x3), (4, .int x4), (5, .int x5), (6, .int x6), (7, .int x7)] [] μ (r_74 x1 x2 x3 x4 x5 x6 x7 μ)) (x1 : Int32) (x2 : Int32) (x3 : Int32) (x4 : Int32) (x5 : Int32) (x6 : Int32) (x7 : Int32) (μ : am_M) : sm_P G l am_cu d me_X0_spread 74 [(0, .ref (am_ad G 7 0)), (1, .int x1), (2, .int x2), (3, .int x3), (4, .int x4), (5, .int x5), (6, .int x6), (7, .int x7)] [] μ (f_X0_spread_74 N g_X0_spread r_74 x1 x2 x3 x4 x5 x6 x7 μ) := by
  unfold f_X0_spread_74
  refine sm_iload (pc := 74) dX0_spread_74 7 rfl ?_
  refine sm_iconst (pc := 76) dX0_spread_76 (v := 3) (by decide) ?_
  refine sm_icmp_gt (pc := 77) (tgt := 124) dX0_spread_77 (by decide) ?_ ?_
  · exact sm_vret (pc := 124) dX0_spread_124 rfl
  · refine sm_aload_n (pc := 80) dX0_spread_80 rfl 0 rfl ?_
    refine sm_getr (pc := 81) dX0_spread_81 fi_X0_19 ?_
    refine sm_iload_n (pc := 84) dX0_spread_84 rfl 1 rfl ?_
    refine sm_iload (pc := 85) dX0_spread_85 7 rfl ?_
    refine sm_callVi (pc := 87) (As := [.int x1, .int x7]) (rest := []) dX0_spread_87 (c_X7_worthOfFirst G l N x1 x7 μ) (by omega) wl_X0_90 vm_X7_worthOfFirst rfl rfl (Nat.le_of_ble_eq_true rfl) (fun y10 μ9 => ?_)
    refine sm_istore (pc := 90) (lv' := [(8, .int y10), (0, .ref (am_ad G 7 0)), (1, .int x1), (2, .int x2), (3, .int x3), (4, .int x4), (5, .int x5), (6, .int x6), (7, .int x7)]) dX0_spread_90 (by decide) rfl ?_
    refine sm_aload_n (pc := 92) dX0_spread_92 rfl 1 rfl ?_
    refine sm_iload_n (pc := 93) dX0_spread_93 rfl 2 rfl ?_
    refine sm_iconst (pc := 94) dX0_spread_94 (v := 1) (by decide) ?_
    refine sm_iadd (pc := 95) dX0_spread_95 ?_
    refine sm_iload_n (pc := 96) dX0_spread_96 rfl 3 rfl ?_
    refine sm_iload (pc := 97) dX0_spread_97 0 rfl ?_
    refine sm_iadd (pc := 99) dX0_spread_99 ?_
    refine sm_iload_n (pc := 100) dX0_spread_100 rfl 4 rfl ?_
    refine sm_iload (pc := 101) dX0_spread_101 8 rfl ?_
    refine sm_iload (pc := 103) dX0_spread_103 6 rfl ?_
    refine sm_imul (pc := 105) dX0_spread_105 ?_
    refine sm_isub (pc := 106) dX0_spread_106 ?_
    refine sm_iload (pc := 107) dX0_spread_107 5 rfl ?_
    refine sm_iload (pc := 109) dX0_spread_109 8 rfl ?_
    refine sm_iload (pc := 111) dX0_spread_111 7 rfl ?_
    refine sm_imul (pc := 113) dX0_spread_113 ?_
    refine sm_iadd (pc := 114) dX0_spread_114 ?_
    refine sm_callSv (pc := 115) (As := [.ref (am_ad G 7 0), .int (x1 + (1 : Int32)), .int (x2 + y10), .int (x3 - (x7 * x5)), .int (x4 + (x7 * x6))]) (rest := []) dX0_spread_115 (Hg_X0_spread (x1 + (1 : Int32)) (x2 + y10) (x3 - (x7 * x5)) (x4 + (x7 * x6)) μ9) (by omega) wl_X0_111 st_X0_spread rfl rfl (Nat.le_of_ble_eq_true rfl) (fun _ μ11 => ?_)
    refine sm_iinc (pc := 118) (v := (x7 + (1 : Int32))) (lv' := [(7, .int (x7 + (1 : Int32))), (8, .int y10), (0, .ref (am_ad G 7 0)), (1, .int x1), (2, .int x2), (3, .int x3), (4, .int x4), (5, .int x5), (6, .int x6)]) dX0_spread_118 8 rfl rfl (by decide) rfl ?_
    refine sm_goto (pc := 121) (tgt := 74) dX0_spread_121 (by decide) ?_
    refine sm_sub [2, 3, 4, 5, 6, 7, 8, 0] rfl ?_
    exact H_74 x1 x2 x3 x4 x5 x6 (x7 + (1 : Int32)) μ11
theorem p_X0_spread_74_lp (G : am_G) (l : Launch) (d : Nat) (hd0 : 2 ≤ d) (dd : Nat) (hdd : dd + 1 ≤ d) (N : Nat) (g_X0_spread : Int32 → Int32 → Int32 → Int32 → am_M → Option (Unit × am_M)) (Hg_X0_spread : ∀ (z0 : Int32) (z1 : Int32) (z2 : Int32) (z3 : Int32) (μ : am_M), ct_P G l am_cu dd me_X0_spread [.ref (am_ad G 7 0), .int z0, .int z1, .int z2, .int z3] μ (g_X0_spread z0 z1 z2 z3 μ)) : ∀ (n : Nat) (x1 : Int32) (x2 : Int32) (x3 : Int32) (x4 : Int32) (x5 : Int32) (x6 : Int32) (x7 : Int32) (μ : am_M), sm_P G l am_cu d me_X0_spread 74 [(0, .ref (am_ad G 7 0)), (1, .int x1), (2, .int x2), (3, .int x3), (4, .int x4), (5, .int x5), (6, .int x6), (7, .int x7)] [] μ (f_X0_spread_74_lp N g_X0_spread n x1 x2 x3 x4 x5 x6 x7 μ) := by
  intro n
  induction n with
  | zero => intros; exact sm_none
  | succ n ih => exact fun x1 x2 x3 x4 x5 x6 x7 μ => p_X0_spread_74 G l d hd0 dd hdd N g_X0_spread (f_X0_spread_74_lp N g_X0_spread n) Hg_X0_spread ih x1 x2 x3 x4 x5 x6 x7 μ
set_option maxHeartbeats 4000000 in
set_option maxRecDepth 100000 in
theorem p_X0_spread_0 (G : am_G) (l : Launch) (d : Nat) (hd0 : 2 ≤ d) (dd : Nat) (hdd : dd + 1 ≤ d) (N : Nat) (g_X0_spread : Int32 → Int32 → Int32 → Int32 → am_M → Option (Unit × am_M)) (Hg_X0_spread : ∀ (z0 : Int32) (z1 : Int32) (z2 : Int32) (z3 : Int32) (μ : am_M), ct_P G l am_cu dd me_X0_spread [.ref (am_ad G 7 0), .int z0, .int z1, .int z2, .int z3] μ (g_X0_spread z0 z1 z2 z3 μ)) (a1 : Int32) (a2 : Int32) (a3 : Int32) (a4 : Int32) (μ : am_M) : sm_P G l am_cu d me_X0_spread 0 [(0, .ref (am_ad G 7 0)), (1, .int a1), (2, .int a2), (3, .int a3), (4, .int a4)] [] μ (f_X0_spread_0 N g_X0_spread a1 a2 a3 a4 μ) := by
  unfold f_X0_spread_0
  refine sm_iload_n (pc := 0) dX0_spread_0 rfl 3 rfl ?_
  refine sm_if_lt (pc := 1) (tgt := 14) dX0_spread_1 (by decide) ?_ ?_
  · exact sm_vret (pc := 14) dX0_spread_14 rfl
  · refine sm_iload (pc := 4) dX0_spread_4 4 rfl ?_
    refine sm_aload_n (pc := 6) dX0_spread_6 rfl 0 rfl ?_
    refine sm_getr (pc := 7) dX0_spread_7 fi_X0_9 ?_
    refine sm_alen (rows := 0) (pc := 10) (v := 259) dX0_spread_10 ly_114 (by decide) ?_
    refine sm_icmp_lt (pc := 11) (tgt := 15) dX0_spread_11 (by decide) ?_ ?_
    · refine sm_iload_n (pc := 15) dX0_spread_15 rfl 1 rfl ?_
      refine sm_aload_n (pc := 16) dX0_spread_16 rfl 0 rfl ?_
      refine sm_getr (pc := 17) dX0_spread_17 fi_X0_15 ?_
      refine sm_geti (pc := 20) dX0_spread_20 fi_X0_39 ?_
      refine sm_icmp_ge (pc := 23) (tgt := 32) dX0_spread_23 (by decide) ?_ ?_
      · refine sm_sub [0, 2, 4] rfl ?_
        exact p_X0_spread_32 G l d hd0 dd hdd N g_X0_spread Hg_X0_spread a2 a4 μ
      · refine sm_iload_n (pc := 26) dX0_spread_26 rfl 1 rfl ?_
        refine sm_bipush (pc := 27) dX0_spread_27 (v := 6) (by decide) ?_
        refine sm_icmp_lt (pc := 29) (tgt := 51) dX0_spread_29 (by decide) ?_ ?_
        · refine sm_aload_n (pc := 51) dX0_spread_51 rfl 0 rfl ?_
          refine sm_getr (pc := 52) dX0_spread_52 fi_X0_19 ?_
          refine sm_iload_n (pc := 55) dX0_spread_55 rfl 1 rfl ?_
          refine sm_callVi (pc := 56) (As := [.int a1]) (rest := []) dX0_spread_56 (c_X7_coinOf G l N a1 μ) (by omega) wl_X0_48 vm_X7_coinOf rfl rfl (Nat.le_of_ble_eq_true rfl) (fun y6 μ5 => ?_)
          refine sm_istore (pc := 59) (lv' := [(5, .int y6), (0, .ref (am_ad G 7 0)), (1, .int a1), (2, .int a2), (3, .int a3), (4, .int a4)]) dX0_spread_59 (by decide) rfl ?_
          refine sm_aload_n (pc := 61) dX0_spread_61 rfl 1 rfl ?_
          refine sm_getr (pc := 62) dX0_spread_62 fi_X0_19 ?_
          refine sm_iload_n (pc := 65) dX0_spread_65 rfl 2 rfl ?_
          refine sm_callVi (pc := 66) (As := [.int a1]) (rest := []) dX0_spread_66 (c_X7_pointsOf G l N a1 μ5) (by omega) wl_X0_44 vm_X7_pointsOf rfl rfl (Nat.le_of_ble_eq_true rfl) (fun y8 μ7 => ?_)
          refine sm_istore (pc := 69) (lv' := [(6, .int y8), (5, .int y6), (0, .ref (am_ad G 7 0)), (1, .int a1), (2, .int a2), (3, .int a3), (4, .int a4)]) dX0_spread_69 (by decide) rfl ?_
          refine sm_iconst (pc := 71) dX0_spread_71 (v := 0) (by decide) ?_
          refine sm_istore (pc := 72) (lv' := [(7, .int (0 : Int32)), (6, .int y8), (5, .int y6), (0, .ref (am_ad G 7 0)), (1, .int a1), (2, .int a2), (3, .int a3), (4, .int a4)]) dX0_spread_72 (by decide) rfl ?_
          refine sm_sub [3, 4, 5, 6, 7, 2, 1, 0] rfl ?_
          exact p_X0_spread_74_lp G l d hd0 dd hdd N g_X0_spread Hg_X0_spread N a1 a2 a3 a4 y6 y8 (0 : Int32) μ7
        · refine sm_sub [0, 2, 4] rfl ?_
          exact p_X0_spread_32 G l d hd0 dd hdd N g_X0_spread Hg_X0_spread a2 a4 μ
    · exact sm_vret (pc := 14) dX0_spread_14 rfl
theorem cr_X0_spread (G : am_G) (l : Launch) (N : Nat) : ∀ (D : Nat) (a1 : Int32) (a2 : Int32) (a3 : Int32) (a4 : Int32) (μ : am_M), ct_P G l am_cu (2 + D) me_X0_spread [.ref (am_ad G 7 0), .int a1, .int a2, .int a3, .int a4] μ (f_X0_spread_r N D a1 a2 a3 a4 μ) := by
  intro D
  induction D with
  | zero => intros; exact fun a μ1 ho => by cases ho
  | succ D ih => exact fun a1 a2 a3 a4 μ => ct_of (by decide +kernel) (Nat.le_of_ble_eq_true rfl) rfl (p_X0_spread_0 G l (2 + (D + 1)) (by omega) (2 + D) (by omega) N (f_X0_spread_r N D) ih a1 a2 a3 a4 μ)
theorem c_X0_spread (G : am_G) (l : Launch) (N : Nat) (a1 : Int32) (a2 : Int32) (a3 : Int32) (a4 : Int32) (μ : am_M) : ct_P G l am_cu 102 me_X0_spread [.ref (am_ad G 7 0), .int a1, .int a2, .int a3, .int a4] μ (f_X0_spread N a1 a2 a3 a4 μ) := cr_X0_spread G l N 100 a1 a2 a3 a4 μ

def f_X0_reachAll_34 (N : Nat) (r_34 : Int32 → am_M → Option (Unit × am_M)) (x2 : Int32) (μ : am_M) : Option (Unit × am_M) :=
if (259 : Int32) ≤ x2 then (some ((), μ)) else (am_gd x2 259 (fun j2 => am_gd (x2 - (1 : Int32)) 259 (fun j3 => am_nm (if (μ.1 114 0 j2) < (μ.1 114 0 j3) then (μ.1 114 0 j3) else (μ.1 114 0 j2)) (fun y4 => am_gd x2 259 (fun j5 => am_nm (am_ui μ 114 0 j5 y4) (fun μ6 => r_34 (x2 + (1 : Int32)) μ6))))))
def f_X0_reachAll_34_lp (N : Nat) : Nat → Int32 → am_M → Option (Unit × am_M)
  | 0, _, _ => none
  | n + 1, x2, μ => f_X0_reachAll_34 N (f_X0_reachAll_34_lp N n) x2 μ
def f_X0_reachAll_2 (N : Nat) (r_2 : Int32 → Int32 → am_M → Option (Unit × am_M)) (x1 : Int32) (x2 : Int32) (μ : am_M) : Option (Unit × am_M) :=
if (259 : Int32) ≤ x2 then (am_bd (f_X0_spread N (0 : Int32) (0 : Int32) x1 (0 : Int32) μ) (fun _ μ1 => f_X0_reachAll_34_lp N N (1 : Int32) μ1)) else (am_gd x2 259 (fun j7 => am_nm (am_ui μ 114 0 j7 (0 : Int32)) (fun μ8 => r_2 x1 (x2 + (1 : Int32)) μ8)))
def f_X0_reachAll_2_lp (N : Nat) : Nat → Int32 → Int32 → am_M → Option (Unit × am_M)
  | 0, _, _, _ => none
  | n + 1, x1, x2, μ => f_X0_reachAll_2 N (f_X0_reachAll_2_lp N n) x1 x2 μ
def f_X0_reachAll_0 (N : Nat) (a1 : Int32) (μ : am_M) : Option (Unit × am_M) :=
f_X0_reachAll_2_lp N N a1 (0 : Int32) μ
def f_X0_reachAll (N : Nat) (a1 : Int32) (μ : am_M) : Option (Unit × am_M) := f_X0_reachAll_0 N a1 μ
set_option maxHeartbeats 4000000 in
set_option maxRecDepth 100000 in
theorem p_X0_reachAll_34 (G : am_G) (l : Launch) (d : Nat) (hd0 : 103 ≤ d) (N : Nat) (r_34 : Int32 → am_M → Option (Unit × am_M)) (H_34 : ∀ (x2 : Int32) (μ : am_M), sm_P G l am_cu d me_X0_reachAll 34 [(0, .ref (am_ad G 7 0)), (2, .int x2)] [] μ (r_34 x2 μ)) (x2 : Int32) (μ : am_M) : sm_P G l am_cu d me_X0_reachAll 34 [(0, .ref (am_ad G 7 0)), (2, .int x2)] [] μ (f_X0_reachAll_34 N r_34 x2 μ) := by
  unfold f_X0_reachAll_34
  refine sm_iload_n (pc := 34) dX0_reachAll_34 rfl 1 rfl ?_
  refine sm_aload_n (pc := 35) dX0_reachAll_35 rfl 0 rfl ?_
  refine sm_getr (pc := 36) dX0_reachAll_36 fi_X0_9 ?_
  refine sm_alen (rows := 0) (pc := 39) (v := 259) dX0_reachAll_39 ly_114 (by decide) ?_
  refine sm_icmp_ge (pc := 40) (tgt := 72) dX0_reachAll_40 (by decide) ?_ ?_
  · exact sm_vret (pc := 72) dX0_reachAll_72 rfl
  · refine sm_aload_n (pc := 43) dX0_reachAll_43 rfl 0 rfl ?_
    refine sm_getr (pc := 44) dX0_reachAll_44 fi_X0_9 ?_
    refine sm_iload_n (pc := 47) dX0_reachAll_47 rfl 1 rfl ?_
    refine sm_aload_n (pc := 48) dX0_reachAll_48 rfl 0 rfl ?_
    refine sm_getr (pc := 49) dX0_reachAll_49 fi_X0_9 ?_
    refine sm_iload_n (pc := 52) dX0_reachAll_52 rfl 1 rfl ?_
    refine sm_iald (pc := 53) dX0_reachAll_53 ly_114 (by decide) (fun j2 hj2 => ?_)
    refine sm_aload_n (pc := 54) dX0_reachAll_54 rfl 0 rfl ?_
    refine sm_getr (pc := 55) dX0_reachAll_55 fi_X0_9 ?_
    refine sm_iload_n (pc := 58) dX0_reachAll_58 rfl 1 rfl ?_
    refine sm_iconst (pc := 59) dX0_reachAll_59 (v := 1) (by decide) ?_
    refine sm_isub (pc := 60) dX0_reachAll_60 ?_
    refine sm_iald (pc := 61) dX0_reachAll_61 ly_114 (by decide) (fun j3 hj3 => ?_)
    refine sm_max (pc := 62) dX0_reachAll_62 (by omega) (Nat.le_of_ble_eq_true rfl) wl_X0_108 wd_max wd_minit wd_maxc ?_
    refine sm_nmI (fun y4 => ?_)
    refine sm_iast (pc := 65) dX0_reachAll_65 ly_114 (by decide) (fun j5 hj5 => ?_)
    refine sm_nmM (fun μ6 => ?_)
    refine sm_iinc (pc := 66) (v := (x2 + (1 : Int32))) (lv' := [(2, .int (x2 + (1 : Int32))), (0, .ref (am_ad G 7 0))]) dX0_reachAll_66 1 rfl rfl (by decide) rfl ?_
    refine sm_goto (pc := 69) (tgt := 34) dX0_reachAll_69 (by decide) ?_
    refine sm_sub [1, 0] rfl ?_
    exact H_34 (x2 + (1 : Int32)) μ6
theorem p_X0_reachAll_34_lp (G : am_G) (l : Launch) (d : Nat) (hd0 : 103 ≤ d) (N : Nat) : ∀ (n : Nat) (x2 : Int32) (μ : am_M), sm_P G l am_cu d me_X0_reachAll 34 [(0, .ref (am_ad G 7 0)), (2, .int x2)] [] μ (f_X0_reachAll_34_lp N n x2 μ) := by
  intro n
  induction n with
  | zero => intros; exact sm_none
  | succ n ih => exact fun x2 μ => p_X0_reachAll_34 G l d hd0 N (f_X0_reachAll_34_lp N n) ih x2 μ
set_option maxHeartbeats 4000000 in
set_option maxRecDepth 100000 in
theorem p_X0_reachAll_2 (G : am_G) (l : Launch) (d : Nat) (hd0 : 103 ≤ d) (N : Nat) (r_2 : Int32 → Int32 → am_M → Option (Unit × am_M)) (H_2 : ∀ (x1 : Int32) (x2 : Int32) (μ : am_M), sm_P G l am_cu d me_X0_reachAll 2 [(0, .ref (am_ad G 7 0)), (1, .int x1), (2, .int x2)] [] μ (r_2 x1 x2 μ)) (x1 : Int32) (x2 : Int32) (μ : am_M) : sm_P G l am_cu d me_X0_reachAll 2 [(0, .ref (am_ad G 7 0)), (1, .int x1), (2, .int x2)] [] μ (f_X0_reachAll_2 N r_2 x1 x2 μ) := by
  unfold f_X0_reachAll_2
  refine sm_iload_n (pc := 2) dX0_reachAll_2 rfl 2 rfl ?_
  refine sm_aload_n (pc := 3) dX0_reachAll_3 rfl 0 rfl ?_
  refine sm_getr (pc := 4) dX0_reachAll_4 fi_X0_9 ?_
  refine sm_alen (rows := 0) (pc := 7) (v := 259) dX0_reachAll_7 ly_114 (by decide) ?_
  refine sm_icmp_ge (pc := 8) (tgt := 24) dX0_reachAll_8 (by decide) ?_ ?_
  · refine sm_aload_n (pc := 24) dX0_reachAll_24 rfl 0 rfl ?_
    refine sm_iconst (pc := 25) dX0_reachAll_25 (v := 0) (by decide) ?_
    refine sm_iconst (pc := 26) dX0_reachAll_26 (v := 0) (by decide) ?_
    refine sm_iload_n (pc := 27) dX0_reachAll_27 rfl 1 rfl ?_
    refine sm_iconst (pc := 28) dX0_reachAll_28 (v := 0) (by decide) ?_
    refine sm_callSv (pc := 29) (As := [.ref (am_ad G 7 0), .int (0 : Int32), .int (0 : Int32), .int x1, .int (0 : Int32)]) (rest := []) dX0_reachAll_29 (c_X0_spread G l N (0 : Int32) (0 : Int32) x1 (0 : Int32) μ) (by omega) wl_X0_111 st_X0_spread rfl rfl (Nat.le_of_ble_eq_true rfl) (fun _ μ1 => ?_)
    refine sm_iconst (pc := 32) dX0_reachAll_32 (v := 1) (by decide) ?_
    refine sm_istore_n (pc := 33) (lv' := [(2, .int (1 : Int32)), (0, .ref (am_ad G 7 0)), (1, .int x1)]) dX0_reachAll_33 rfl (by decide) rfl ?_
    refine sm_sub [1, 0] rfl ?_
    exact p_X0_reachAll_34_lp G l d hd0 N N (1 : Int32) μ1
  · refine sm_aload_n (pc := 11) dX0_reachAll_11 rfl 0 rfl ?_
    refine sm_getr (pc := 12) dX0_reachAll_12 fi_X0_9 ?_
    refine sm_iload_n (pc := 15) dX0_reachAll_15 rfl 2 rfl ?_
    refine sm_iconst (pc := 16) dX0_reachAll_16 (v := 0) (by decide) ?_
    refine sm_iast (pc := 17) dX0_reachAll_17 ly_114 (by decide) (fun j7 hj7 => ?_)
    refine sm_nmM (fun μ8 => ?_)
    refine sm_iinc (pc := 18) (v := (x2 + (1 : Int32))) (lv' := [(2, .int (x2 + (1 : Int32))), (0, .ref (am_ad G 7 0)), (1, .int x1)]) dX0_reachAll_18 2 rfl rfl (by decide) rfl ?_
    refine sm_goto (pc := 21) (tgt := 2) dX0_reachAll_21 (by decide) ?_
    refine sm_sub [1, 2, 0] rfl ?_
    exact H_2 x1 (x2 + (1 : Int32)) μ8
theorem p_X0_reachAll_2_lp (G : am_G) (l : Launch) (d : Nat) (hd0 : 103 ≤ d) (N : Nat) : ∀ (n : Nat) (x1 : Int32) (x2 : Int32) (μ : am_M), sm_P G l am_cu d me_X0_reachAll 2 [(0, .ref (am_ad G 7 0)), (1, .int x1), (2, .int x2)] [] μ (f_X0_reachAll_2_lp N n x1 x2 μ) := by
  intro n
  induction n with
  | zero => intros; exact sm_none
  | succ n ih => exact fun x1 x2 μ => p_X0_reachAll_2 G l d hd0 N (f_X0_reachAll_2_lp N n) ih x1 x2 μ
set_option maxHeartbeats 4000000 in
set_option maxRecDepth 100000 in
theorem p_X0_reachAll_0 (G : am_G) (l : Launch) (d : Nat) (hd0 : 103 ≤ d) (N : Nat) (a1 : Int32) (μ : am_M) : sm_P G l am_cu d me_X0_reachAll 0 [(0, .ref (am_ad G 7 0)), (1, .int a1)] [] μ (f_X0_reachAll_0 N a1 μ) := by
  unfold f_X0_reachAll_0
  refine sm_iconst (pc := 0) dX0_reachAll_0 (v := 0) (by decide) ?_
  refine sm_istore_n (pc := 1) (lv' := [(2, .int (0 : Int32)), (0, .ref (am_ad G 7 0)), (1, .int a1)]) dX0_reachAll_1 rfl (by decide) rfl ?_
  refine sm_sub [1, 2, 0] rfl ?_
  exact p_X0_reachAll_2_lp G l d hd0 N N a1 (0 : Int32) μ
theorem c_X0_reachAll (G : am_G) (l : Launch) (N : Nat) (a1 : Int32) (μ : am_M) : ct_P G l am_cu 103 me_X0_reachAll [.ref (am_ad G 7 0), .int a1] μ (f_X0_reachAll N a1 μ) := ct_of (by decide +kernel) (Nat.le_of_ble_eq_true rfl) rfl (p_X0_reachAll_0 G l 103 (Nat.le_refl _) N a1 μ)

def f_X0_gainByForesight_40 (N : Nat) (r_40 : Int32 → Int32 → Int32 → Int32 → am_M → Option (Int32 × am_M)) (x2 : Int32) (x3 : Int32) (x4 : Int32) (x5 : Int32) (μ : am_M) : Option (Int32 × am_M) :=
if x3 < x5 then (some ((x4 - ((2 : Int32) * x2)), μ)) else (am_gd x5 259 (fun j9 => am_gd (((2 : Int32) * x3) - x5) 259 (fun j10 => am_nm (if x4 < ((μ.1 114 0 j9) + (μ.1 114 0 j10)) then ((μ.1 114 0 j9) + (μ.1 114 0 j10)) else x4) (fun y11 => r_40 x2 x3 y11 (x5 + (1 : Int32)) μ))))
def f_X0_gainByForesight_40_lp (N : Nat) : Nat → Int32 → Int32 → Int32 → Int32 → am_M → Option (Int32 × am_M)
  | 0, _, _, _, _, _ => none
  | n + 1, x2, x3, x4, x5, μ => f_X0_gainByForesight_40 N (f_X0_gainByForesight_40_lp N n) x2 x3 x4 x5 μ
def f_X0_gainByForesight_0 (N : Nat) (a1 : Int32) (μ : am_M) : Option (Int32 × am_M) :=
am_bd (f_X0_plainWorth N a1 μ) (fun y2 μ1 => am_bd (f_X5_pointsInAll N a1 μ1) (fun y4 μ3 => am_nm (if y4 < (129 : Int32) then y4 else (129 : Int32)) (fun y5 => am_bd (f_X5_at N (5 : Int32) a1 μ3) (fun y7 μ6 => am_bd (f_X0_reachAll N y7 μ6) (fun _ μ8 => f_X0_gainByForesight_40_lp N N y2 y5 (0 : Int32) (0 : Int32) μ8)))))
def f_X0_gainByForesight (N : Nat) (a1 : Int32) (μ : am_M) : Option (Int32 × am_M) := f_X0_gainByForesight_0 N a1 μ
set_option maxHeartbeats 4000000 in
set_option maxRecDepth 100000 in
theorem p_X0_gainByForesight_40 (G : am_G) (l : Launch) (d : Nat) (hd0 : 105 ≤ d) (N : Nat) (r_40 : Int32 → Int32 → Int32 → Int32 → am_M → Option (Int32 × am_M)) (H_40 : ∀ (x2 : Int32) (x3 : Int32) (x4 : Int32) (x5 : Int32) (μ : am_M), sm_P G l am_ci d me_X0_gainByForesight 40 [(0, .ref (am_ad G 7 0)), (2, .int x2), (3, .int x3), (4, .int x4), (5, .int x5)] [] μ (r_40 x2 x3 x4 x5 μ)) (x2 : Int32) (x3 : Int32) (x4 : Int32) (x5 : Int32) (μ : am_M) : sm_P G l am_ci d me_X0_gainByForesight 40 [(0, .ref (am_ad G 7 0)), (2, .int x2), (3, .int x3), (4, .int x4), (5, .int x5)] [] μ (f_X0_gainByForesight_40 N r_40 x2 x3 x4 x5 μ) := by
  unfold f_X0_gainByForesight_40
  refine sm_iload (pc := 40) dX0_gainByForesight_40 4 rfl ?_
  refine sm_iload_n (pc := 42) dX0_gainByForesight_42 rfl 2 rfl ?_
  refine sm_icmp_gt (pc := 43) (tgt := 78) dX0_gainByForesight_43 (by decide) ?_ ?_
  · refine sm_iload (pc := 78) dX0_gainByForesight_78 3 rfl ?_
    refine sm_iconst (pc := 80) dX0_gainByForesight_80 (v := 2) (by decide) ?_
    refine sm_iload_n (pc := 81) dX0_gainByForesight_81 rfl 1 rfl ?_
    refine sm_imul (pc := 82) dX0_gainByForesight_82 ?_
    refine sm_isub (pc := 83) dX0_gainByForesight_83 ?_
    exact sm_iret (pc := 84) dX0_gainByForesight_84 rfl
  · refine sm_iload (pc := 46) dX0_gainByForesight_46 3 rfl ?_
    refine sm_aload_n (pc := 48) dX0_gainByForesight_48 rfl 0 rfl ?_
    refine sm_getr (pc := 49) dX0_gainByForesight_49 fi_X0_9 ?_
    refine sm_iload (pc := 52) dX0_gainByForesight_52 4 rfl ?_
    refine sm_iald (pc := 54) dX0_gainByForesight_54 ly_114 (by decide) (fun j9 hj9 => ?_)
    refine sm_aload_n (pc := 55) dX0_gainByForesight_55 rfl 0 rfl ?_
    refine sm_getr (pc := 56) dX0_gainByForesight_56 fi_X0_9 ?_
    refine sm_iconst (pc := 59) dX0_gainByForesight_59 (v := 2) (by decide) ?_
    refine sm_iload_n (pc := 60) dX0_gainByForesight_60 rfl 2 rfl ?_
    refine sm_imul (pc := 61) dX0_gainByForesight_61 ?_
    refine sm_iload (pc := 62) dX0_gainByForesight_62 4 rfl ?_
    refine sm_isub (pc := 64) dX0_gainByForesight_64 ?_
    refine sm_iald (pc := 65) dX0_gainByForesight_65 ly_114 (by decide) (fun j10 hj10 => ?_)
    refine sm_iadd (pc := 66) dX0_gainByForesight_66 ?_
    refine sm_max (pc := 67) dX0_gainByForesight_67 (by omega) (Nat.le_of_ble_eq_true rfl) wl_X0_108 wd_max wd_minit wd_maxc ?_
    refine sm_nmI (fun y11 => ?_)
    refine sm_istore (pc := 70) (lv' := [(4, .int y11), (0, .ref (am_ad G 7 0)), (2, .int x2), (3, .int x3), (5, .int x5)]) dX0_gainByForesight_70 (by decide) rfl ?_
    refine sm_iinc (pc := 72) (v := (x5 + (1 : Int32))) (lv' := [(5, .int (x5 + (1 : Int32))), (4, .int y11), (0, .ref (am_ad G 7 0)), (2, .int x2), (3, .int x3)]) dX0_gainByForesight_72 4 rfl rfl (by decide) rfl ?_
    refine sm_goto (pc := 75) (tgt := 40) dX0_gainByForesight_75 (by decide) ?_
    refine sm_sub [2, 3, 4, 1, 0] rfl ?_
    exact H_40 x2 x3 y11 (x5 + (1 : Int32)) μ
theorem p_X0_gainByForesight_40_lp (G : am_G) (l : Launch) (d : Nat) (hd0 : 105 ≤ d) (N : Nat) : ∀ (n : Nat) (x2 : Int32) (x3 : Int32) (x4 : Int32) (x5 : Int32) (μ : am_M), sm_P G l am_ci d me_X0_gainByForesight 40 [(0, .ref (am_ad G 7 0)), (2, .int x2), (3, .int x3), (4, .int x4), (5, .int x5)] [] μ (f_X0_gainByForesight_40_lp N n x2 x3 x4 x5 μ) := by
  intro n
  induction n with
  | zero => intros; exact sm_none
  | succ n ih => exact fun x2 x3 x4 x5 μ => p_X0_gainByForesight_40 G l d hd0 N (f_X0_gainByForesight_40_lp N n) ih x2 x3 x4 x5 μ
set_option maxHeartbeats 4000000 in
set_option maxRecDepth 100000 in
theorem p_X0_gainByForesight_0 (G : am_G) (l : Launch) (d : Nat) (hd0 : 105 ≤ d) (N : Nat) (a1 : Int32) (μ : am_M) : sm_P G l am_ci d me_X0_gainByForesight 0 [(0, .ref (am_ad G 7 0)), (1, .int a1)] [] μ (f_X0_gainByForesight_0 N a1 μ) := by
  unfold f_X0_gainByForesight_0
  refine sm_aload_n (pc := 0) dX0_gainByForesight_0 rfl 0 rfl ?_
  refine sm_iload_n (pc := 1) dX0_gainByForesight_1 rfl 1 rfl ?_
  refine sm_callVi (pc := 2) (As := [.int a1]) (rest := []) dX0_gainByForesight_2 (c_X0_plainWorth G l N a1 μ) (by omega) wl_X0_93 vm_X0_plainWorth rfl rfl (Nat.le_of_ble_eq_true rfl) (fun y2 μ1 => ?_)
  refine sm_istore_n (pc := 5) (lv' := [(2, .int y2), (0, .ref (am_ad G 7 0)), (1, .int a1)]) dX0_gainByForesight_5 rfl (by decide) rfl ?_
  refine sm_sipush (pc := 6) dX0_gainByForesight_6 (v := 129) (by decide) ?_
  refine sm_aload_n (pc := 9) dX0_gainByForesight_9 rfl 1 rfl ?_
  refine sm_getr (pc := 10) dX0_gainByForesight_10 fi_X0_15 ?_
  refine sm_iload_n (pc := 13) dX0_gainByForesight_13 rfl 2 rfl ?_
  refine sm_callVi (pc := 14) (As := [.int a1]) (rest := [.int (129 : Int32)]) dX0_gainByForesight_14 (c_X5_pointsInAll G l N a1 μ1) (by omega) wl_X0_59 vm_X5_pointsInAll rfl rfl (Nat.le_of_ble_eq_true rfl) (fun y4 μ3 => ?_)
  refine sm_min (pc := 17) dX0_gainByForesight_17 (by omega) (Nat.le_of_ble_eq_true rfl) wl_X0_85 wd_min wd_minit wd_minc ?_
  refine sm_nmI (fun y5 => ?_)
  refine sm_istore_n (pc := 20) (lv' := [(3, .int y5), (2, .int y2), (0, .ref (am_ad G 7 0)), (1, .int a1)]) dX0_gainByForesight_20 rfl (by decide) rfl ?_
  refine sm_aload_n (pc := 21) dX0_gainByForesight_21 rfl 2 rfl ?_
  refine sm_aload_n (pc := 22) dX0_gainByForesight_22 rfl 2 rfl ?_
  refine sm_getr (pc := 23) dX0_gainByForesight_23 fi_X0_15 ?_
  refine sm_iconst (pc := 26) dX0_gainByForesight_26 (v := 5) (by decide) ?_
  refine sm_iload_n (pc := 27) dX0_gainByForesight_27 rfl 3 rfl ?_
  refine sm_callVi (pc := 28) (As := [.int (5 : Int32), .int a1]) (rest := [.ref (am_ad G 7 0)]) dX0_gainByForesight_28 (c_X5_at G l N (5 : Int32) a1 μ3) (by omega) wl_X0_55 vm_X5_at rfl rfl (Nat.le_of_ble_eq_true rfl) (fun y7 μ6 => ?_)
  refine sm_callVv (pc := 31) (As := [.int y7]) (rest := []) dX0_gainByForesight_31 (c_X0_reachAll G l N y7 μ6) (by omega) wl_X0_105 vm_X0_reachAll rfl rfl (Nat.le_of_ble_eq_true rfl) (fun _ μ8 => ?_)
  refine sm_iconst (pc := 34) dX0_gainByForesight_34 (v := 0) (by decide) ?_
  refine sm_istore (pc := 35) (lv' := [(4, .int (0 : Int32)), (3, .int y5), (2, .int y2), (0, .ref (am_ad G 7 0)), (1, .int a1)]) dX0_gainByForesight_35 (by decide) rfl ?_
  refine sm_iconst (pc := 37) dX0_gainByForesight_37 (v := 0) (by decide) ?_
  refine sm_istore (pc := 38) (lv' := [(5, .int (0 : Int32)), (4, .int (0 : Int32)), (3, .int y5), (2, .int y2), (0, .ref (am_ad G 7 0)), (1, .int a1)]) dX0_gainByForesight_38 (by decide) rfl ?_
  refine sm_sub [4, 3, 2, 1, 0] rfl ?_
  exact p_X0_gainByForesight_40_lp G l d hd0 N N y2 y5 (0 : Int32) (0 : Int32) μ8
theorem c_X0_gainByForesight (G : am_G) (l : Launch) (N : Nat) (a1 : Int32) (μ : am_M) : ct_P G l am_ci 105 me_X0_gainByForesight [.ref (am_ad G 7 0), .int a1] μ (f_X0_gainByForesight N a1 μ) := ct_of (by decide +kernel) (Nat.le_of_ble_eq_true rfl) rfl (p_X0_gainByForesight_0 G l 105 (Nat.le_refl _) N a1 μ)
