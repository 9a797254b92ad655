def f_X10_workOut_96 (N : Nat) (r_33 : Int32 → Int32 → Int32 → am_M → Option (Int32 × am_M)) (x3 : Int32) (x4 : Int32) (μ : am_M) : Option (Int32 × am_M) :=
am_bd (f_X10_takes N (59 : Int32) μ) (fun y13 μ12 => r_33 x3 x4 y13 μ12)
def f_X10_workOut_74 (N : Nat) (r_33 : Int32 → Int32 → Int32 → am_M → Option (Int32 × am_M)) (x3 : Int32) (x4 : Int32) (x6 : Int32) (x7 : Int32) (μ : am_M) : Option (Int32 × am_M) :=
if 0 ≤ (μ.1 10 0 21) then (f_X10_workOut_96 N r_33 x3 x4 μ) else (if x7 = 0 then (f_X10_workOut_96 N r_33 x3 x4 μ) else (if x3 = 0 then (f_X10_workOut_96 N r_33 (1 : Int32) x6 μ) else (f_X10_workOut_96 N r_33 x3 x4 μ)))
def f_X10_workOut_66 (N : Nat) (r_33 : Int32 → Int32 → Int32 → am_M → Option (Int32 × am_M)) (x3 : Int32) (x4 : Int32) (s0 : Int32) (μ : am_M) : Option (Int32 × am_M) :=
am_bd (f_X10_either N μ) (fun y15 μ14 => f_X10_workOut_74 N r_33 x3 x4 y15 s0 μ14)
def f_X10_workOut_33 (N : Nat) (r_33 : Int32 → Int32 → Int32 → am_M → Option (Int32 × am_M)) (x3 : Int32) (x4 : Int32) (x5 : Int32) (μ : am_M) : Option (Int32 × am_M) :=
if x5 = 0 then (if 0 ≤ (μ.1 10 0 21) then (some (x4, μ)) else (if (μ.1 10 0 20) ≤ (μ.1 10 0 19) then (some (x4, μ)) else (am_bd (f_X10_fails N μ) (fun y7 μ6 => some (y7, μ6))))) else (am_bd (f_X10_either N μ) (fun y9 μ8 => am_bd (f_X10_takes N (63 : Int32) μ8) (fun y11 μ10 => if y11 = 0 then (f_X10_workOut_74 N r_33 x3 x4 y9 (1 : Int32) μ10) else (if y9 = 0 then (f_X10_workOut_66 N r_33 x3 x4 (0 : Int32) μ10) else (f_X10_workOut_66 N r_33 x3 x4 (1 : Int32) μ10)))))
def f_X10_workOut_33_lp (N : Nat) : Nat → Int32 → Int32 → Int32 → am_M → Option (Int32 × am_M)
  | 0, _, _, _, _ => none
  | n + 1, x3, x4, x5, μ => f_X10_workOut_33 N (f_X10_workOut_33_lp N n) x3 x4 x5 μ
def f_X10_workOut_0 (N : Nat) (a1 : Int32) (a2 : Int32) (μ : am_M) : Option (Int32 × am_M) :=
am_nm (am_ui μ 10 0 18 a1) (fun μ1 => am_nm (am_ui μ1 10 0 19 (0 : Int32)) (fun μ2 => am_nm (am_ui μ2 10 0 20 a2) (fun μ3 => am_nm (am_ui μ3 10 0 21 (-1 : Int32)) (fun μ4 => am_nm (am_ui μ4 10 0 22 (0 : Int32)) (fun μ5 => f_X10_workOut_33_lp N N (0 : Int32) (0 : Int32) (1 : Int32) μ5)))))
def f_X10_workOut (N : Nat) (a1 : Int32) (a2 : Int32) (μ : am_M) : Option (Int32 × am_M) := f_X10_workOut_0 N a1 a2 μ
set_option maxHeartbeats 4000000 in
set_option maxRecDepth 100000 in
theorem p_X10_workOut_96 (G : am_G) (l : Launch) (d : Nat) (hd0 : 103 ≤ d) (N : Nat) (r_33 : Int32 → Int32 → Int32 → am_M → Option (Int32 × am_M)) (H_33 : ∀ (x3 : Int32) (x4 : Int32) (x5 : Int32) (μ : am_M), sm_P G l am_ci d me_X10_workOut 33 [(0, .ref (am_ad G 10 0)), (3, .int x3), (4, .int x4), (5, .int x5)] [] μ (r_33 x3 x4 x5 μ)) (x3 : Int32) (x4 : Int32) (μ : am_M) : sm_P G l am_ci d me_X10_workOut 96 [(0, .ref (am_ad G 10 0)), (3, .int x3), (4, .int x4)] [] μ (f_X10_workOut_96 N r_33 x3 x4 μ) := by
  unfold f_X10_workOut_96
  refine sm_aload_n (pc := 96) dX10_workOut_96 rfl 0 rfl ?_
  refine sm_bipush (pc := 97) dX10_workOut_97 (v := 59) (by decide) ?_
  refine sm_callVi (pc := 99) (As := [.int (59 : Int32)]) (rest := []) dX10_workOut_99 (c_X10_takes G l N (59 : Int32) μ) (by omega) wl_X10_180 vm_X10_takes rfl rfl (Nat.le_of_ble_eq_true rfl) (fun y13 μ12 => ?_)
  refine sm_istore (pc := 102) (lv' := [(5, .int y13), (0, .ref (am_ad G 10 0)), (3, .int x3), (4, .int x4)]) dX10_workOut_102 (by decide) rfl ?_
  refine sm_goto (pc := 104) (tgt := 33) dX10_workOut_104 (by decide) ?_
  refine sm_sub [1, 2, 3, 0] rfl ?_
  exact H_33 x3 x4 y13 μ12
set_option maxHeartbeats 4000000 in
set_option maxRecDepth 100000 in
theorem p_X10_workOut_74 (G : am_G) (l : Launch) (d : Nat) (hd0 : 103 ≤ d) (N : Nat) (r_33 : Int32 → Int32 → Int32 → am_M → Option (Int32 × am_M)) (H_33 : ∀ (x3 : Int32) (x4 : Int32) (x5 : Int32) (μ : am_M), sm_P G l am_ci d me_X10_workOut 33 [(0, .ref (am_ad G 10 0)), (3, .int x3), (4, .int x4), (5, .int x5)] [] μ (r_33 x3 x4 x5 μ)) (x3 : Int32) (x4 : Int32) (x6 : Int32) (x7 : Int32) (μ : am_M) : sm_P G l am_ci d me_X10_workOut 74 [(0, .ref (am_ad G 10 0)), (3, .int x3), (4, .int x4), (6, .int x6), (7, .int x7)] [] μ (f_X10_workOut_74 N r_33 x3 x4 x6 x7 μ) := by
  unfold f_X10_workOut_74
  refine sm_aload_n (pc := 74) dX10_workOut_74 rfl 0 rfl ?_
  refine sm_geti (pc := 75) dX10_workOut_75 fi_X10_170 ?_
  refine sm_if_ge (pc := 78) (tgt := 96) dX10_workOut_78 (by decide) ?_ ?_
  · refine sm_sub [0, 1, 2] rfl ?_
    exact p_X10_workOut_96 G l d hd0 N r_33 H_33 x3 x4 μ
  · refine sm_iload (pc := 81) dX10_workOut_81 4 rfl ?_
    refine sm_if_eq (pc := 83) (tgt := 96) dX10_workOut_83 (by decide) ?_ ?_
    · refine sm_sub [0, 1, 2] rfl ?_
      exact p_X10_workOut_96 G l d hd0 N r_33 H_33 x3 x4 μ
    · refine sm_iload_n (pc := 86) dX10_workOut_86 rfl 1 rfl ?_
      refine sm_if_ne (pc := 87) (tgt := 96) dX10_workOut_87 (by decide) ?_ ?_
      · refine sm_sub [0, 1, 2] rfl ?_
        exact p_X10_workOut_96 G l d hd0 N r_33 H_33 x3 x4 μ
      · refine sm_iconst (pc := 90) dX10_workOut_90 (v := 1) (by decide) ?_
        refine sm_istore_n (pc := 91) (lv' := [(3, .int (1 : Int32)), (0, .ref (am_ad G 10 0)), (4, .int x4), (6, .int x6), (7, .int x7)]) dX10_workOut_91 rfl (by decide) rfl ?_
        refine sm_iload (pc := 92) dX10_workOut_92 3 rfl ?_
        refine sm_istore (pc := 94) (lv' := [(4, .int x6), (3, .int (1 : Int32)), (0, .ref (am_ad G 10 0)), (6, .int x6), (7, .int x7)]) dX10_workOut_94 (by decide) rfl ?_
        refine sm_sub [2, 1, 0] rfl ?_
        exact p_X10_workOut_96 G l d hd0 N r_33 H_33 (1 : Int32) x6 μ
set_option maxHeartbeats 4000000 in
set_option maxRecDepth 100000 in
theorem p_X10_workOut_66 (G : am_G) (l : Launch) (d : Nat) (hd0 : 103 ≤ d) (N : Nat) (r_33 : Int32 → Int32 → Int32 → am_M → Option (Int32 × am_M)) (H_33 : ∀ (x3 : Int32) (x4 : Int32) (x5 : Int32) (μ : am_M), sm_P G l am_ci d me_X10_workOut 33 [(0, .ref (am_ad G 10 0)), (3, .int x3), (4, .int x4), (5, .int x5)] [] μ (r_33 x3 x4 x5 μ)) (x3 : Int32) (x4 : Int32) (s0 : Int32) (μ : am_M) : sm_P G l am_ci d me_X10_workOut 66 [(0, .ref (am_ad G 10 0)), (3, .int x3), (4, .int x4)] [.int s0] μ (f_X10_workOut_66 N r_33 x3 x4 s0 μ) := by
  unfold f_X10_workOut_66
  refine sm_istore (pc := 66) (lv' := [(7, .int s0), (0, .ref (am_ad G 10 0)), (3, .int x3), (4, .int x4)]) dX10_workOut_66 (by decide) rfl ?_
  refine sm_aload_n (pc := 68) dX10_workOut_68 rfl 1 rfl ?_
  refine sm_callVi (pc := 69) (As := []) (rest := []) dX10_workOut_69 (c_X10_either G l N μ) (by omega) wl_X10_200 vm_X10_either rfl rfl (Nat.le_of_ble_eq_true rfl) (fun y15 μ14 => ?_)
  refine sm_istore (pc := 72) (lv' := [(6, .int y15), (7, .int s0), (0, .ref (am_ad G 10 0)), (3, .int x3), (4, .int x4)]) dX10_workOut_72 (by decide) rfl ?_
  refine sm_sub [2, 3, 4, 0, 1] rfl ?_
  exact p_X10_workOut_74 G l d hd0 N r_33 H_33 x3 x4 y15 s0 μ14
set_option maxHeartbeats 4000000 in
set_option maxRecDepth 100000 in
theorem p_X10_workOut_33 (G : am_G) (l : Launch) (d : Nat) (hd0 : 103 ≤ d) (N : Nat) (r_33 : Int32 → Int32 → Int32 → am_M → Option (Int32 × am_M)) (H_33 : ∀ (x3 : Int32) (x4 : Int32) (x5 : Int32) (μ : am_M), sm_P G l am_ci d me_X10_workOut 33 [(0, .ref (am_ad G 10 0)), (3, .int x3), (4, .int x4), (5, .int x5)] [] μ (r_33 x3 x4 x5 μ)) (x3 : Int32) (x4 : Int32) (x5 : Int32) (μ : am_M) : sm_P G l am_ci d me_X10_workOut 33 [(0, .ref (am_ad G 10 0)), (3, .int x3), (4, .int x4), (5, .int x5)] [] μ (f_X10_workOut_33 N r_33 x3 x4 x5 μ) := by
  unfold f_X10_workOut_33
  refine sm_iload (pc := 33) dX10_workOut_33 3 rfl ?_
  refine sm_if_eq (pc := 35) (tgt := 107) dX10_workOut_35 (by decide) ?_ ?_
  · refine sm_aload_n (pc := 107) dX10_workOut_107 rfl 0 rfl ?_
    refine sm_geti (pc := 108) dX10_workOut_108 fi_X10_170 ?_
    refine sm_if_ge (pc := 111) (tgt := 130) dX10_workOut_111 (by decide) ?_ ?_
    · refine sm_iload (pc := 130) dX10_workOut_130 2 rfl ?_
      exact sm_iret (pc := 132) dX10_workOut_132 rfl
    · refine sm_aload_n (pc := 114) dX10_workOut_114 rfl 0 rfl ?_
      refine sm_geti (pc := 115) dX10_workOut_115 fi_X10_161 ?_
      refine sm_aload_n (pc := 118) dX10_workOut_118 rfl 0 rfl ?_
      refine sm_geti (pc := 119) dX10_workOut_119 fi_X10_164 ?_
      refine sm_icmp_ge (pc := 122) (tgt := 130) dX10_workOut_122 (by decide) ?_ ?_
      · refine sm_iload (pc := 130) dX10_workOut_130 2 rfl ?_
        exact sm_iret (pc := 132) dX10_workOut_132 rfl
      · refine sm_aload_n (pc := 125) dX10_workOut_125 rfl 0 rfl ?_
        refine sm_callVi (pc := 126) (As := []) (rest := []) dX10_workOut_126 (c_X10_fails G l N μ) (by omega) wl_X10_197 vm_X10_fails rfl rfl (Nat.le_of_ble_eq_true rfl) (fun y7 μ6 => ?_)
        exact sm_iret (pc := 129) dX10_workOut_129 rfl
  · refine sm_aload_n (pc := 38) dX10_workOut_38 rfl 0 rfl ?_
    refine sm_callVi (pc := 39) (As := []) (rest := []) dX10_workOut_39 (c_X10_either G l N μ) (by omega) wl_X10_200 vm_X10_either rfl rfl (Nat.le_of_ble_eq_true rfl) (fun y9 μ8 => ?_)
    refine sm_istore (pc := 42) (lv' := [(6, .int y9), (0, .ref (am_ad G 10 0)), (3, .int x3), (4, .int x4), (5, .int x5)]) dX10_workOut_42 (by decide) rfl ?_
    refine sm_iconst (pc := 44) dX10_workOut_44 (v := 1) (by decide) ?_
    refine sm_istore (pc := 45) (lv' := [(7, .int (1 : Int32)), (6, .int y9), (0, .ref (am_ad G 10 0)), (3, .int x3), (4, .int x4), (5, .int x5)]) dX10_workOut_45 (by decide) rfl ?_
    refine sm_aload_n (pc := 47) dX10_workOut_47 rfl 2 rfl ?_
    refine sm_bipush (pc := 48) dX10_workOut_48 (v := 63) (by decide) ?_
    refine sm_callVi (pc := 50) (As := [.int (63 : Int32)]) (rest := []) dX10_workOut_50 (c_X10_takes G l N (63 : Int32) μ8) (by omega) wl_X10_180 vm_X10_takes rfl rfl (Nat.le_of_ble_eq_true rfl) (fun y11 μ10 => ?_)
    refine sm_if_eq (pc := 53) (tgt := 74) dX10_workOut_53 (by decide) ?_ ?_
    · refine sm_sub [2, 3, 4, 1, 0] rfl ?_
      exact p_X10_workOut_74 G l d hd0 N r_33 H_33 x3 x4 y9 (1 : Int32) μ10
    · refine sm_iload (pc := 56) dX10_workOut_56 1 rfl ?_
      refine sm_if_eq (pc := 58) (tgt := 65) dX10_workOut_58 (by decide) ?_ ?_
      · refine sm_iconst (pc := 65) dX10_workOut_65 (v := 0) (by decide) ?_
        refine sm_sub [2, 3, 4] rfl ?_
        exact p_X10_workOut_66 G l d hd0 N r_33 H_33 x3 x4 (0 : Int32) μ10
      · refine sm_iconst (pc := 61) dX10_workOut_61 (v := 1) (by decide) ?_
        refine sm_goto (pc := 62) (tgt := 66) dX10_workOut_62 (by decide) ?_
        refine sm_sub [2, 3, 4] rfl ?_
        exact p_X10_workOut_66 G l d hd0 N r_33 H_33 x3 x4 (1 : Int32) μ10
theorem p_X10_workOut_33_lp (G : am_G) (l : Launch) (d : Nat) (hd0 : 103 ≤ d) (N : Nat) : ∀ (n : Nat) (x3 : Int32) (x4 : Int32) (x5 : Int32) (μ : am_M), sm_P G l am_ci d me_X10_workOut 33 [(0, .ref (am_ad G 10 0)), (3, .int x3), (4, .int x4), (5, .int x5)] [] μ (f_X10_workOut_33_lp N n x3 x4 x5 μ) := by
  intro n
  induction n with
  | zero => intros; exact sm_none
  | succ n ih => exact fun x3 x4 x5 μ => p_X10_workOut_33 G l d hd0 N (f_X10_workOut_33_lp N n) ih x3 x4 x5 μ
set_option maxHeartbeats 4000000 in
set_option maxRecDepth 100000 in
theorem p_X10_workOut_0 (G : am_G) (l : Launch) (d : Nat) (hd0 : 103 ≤ d) (N : Nat) (a1 : Int32) (a2 : Int32) (μ : am_M) : sm_P G l am_ci d me_X10_workOut 0 [(0, .ref (am_ad G 10 0)), (1, .int a1), (2, .int a2)] [] μ (f_X10_workOut_0 N a1 a2 μ) := by
  unfold f_X10_workOut_0
  refine sm_aload_n (pc := 0) dX10_workOut_0 rfl 0 rfl ?_
  refine sm_iload_n (pc := 1) dX10_workOut_1 rfl 1 rfl ?_
  refine sm_puti (pc := 2) dX10_workOut_2 fi_X10_167 ?_
  refine sm_nmM (fun μ1 => ?_)
  refine sm_aload_n (pc := 5) dX10_workOut_5 rfl 0 rfl ?_
  refine sm_iconst (pc := 6) dX10_workOut_6 (v := 0) (by decide) ?_
  refine sm_puti (pc := 7) dX10_workOut_7 fi_X10_161 ?_
  refine sm_nmM (fun μ2 => ?_)
  refine sm_aload_n (pc := 10) dX10_workOut_10 rfl 0 rfl ?_
  refine sm_iload_n (pc := 11) dX10_workOut_11 rfl 2 rfl ?_
  refine sm_puti (pc := 12) dX10_workOut_12 fi_X10_164 ?_
  refine sm_nmM (fun μ3 => ?_)
  refine sm_aload_n (pc := 15) dX10_workOut_15 rfl 0 rfl ?_
  refine sm_iconst (pc := 16) dX10_workOut_16 (v := -1) (by decide) ?_
  refine sm_puti (pc := 17) dX10_workOut_17 fi_X10_170 ?_
  refine sm_nmM (fun μ4 => ?_)
  refine sm_aload_n (pc := 20) dX10_workOut_20 rfl 0 rfl ?_
  refine sm_iconst (pc := 21) dX10_workOut_21 (v := 0) (by decide) ?_
  refine sm_puti (pc := 22) dX10_workOut_22 fi_X10_194 ?_
  refine sm_nmM (fun μ5 => ?_)
  refine sm_iconst (pc := 25) dX10_workOut_25 (v := 0) (by decide) ?_
  refine sm_istore_n (pc := 26) (lv' := [(3, .int (0 : Int32)), (0, .ref (am_ad G 10 0)), (1, .int a1), (2, .int a2)]) dX10_workOut_26 rfl (by decide) rfl ?_
  refine sm_iconst (pc := 27) dX10_workOut_27 (v := 0) (by decide) ?_
  refine sm_istore (pc := 28) (lv' := [(4, .int (0 : Int32)), (3, .int (0 : Int32)), (0, .ref (am_ad G 10 0)), (1, .int a1), (2, .int a2)]) dX10_workOut_28 (by decide) rfl ?_
  refine sm_iconst (pc := 30) dX10_workOut_30 (v := 1) (by decide) ?_
  refine sm_istore (pc := 31) (lv' := [(5, .int (1 : Int32)), (4, .int (0 : Int32)), (3, .int (0 : Int32)), (0, .ref (am_ad G 10 0)), (1, .int a1), (2, .int a2)]) dX10_workOut_31 (by decide) rfl ?_
  refine sm_sub [3, 2, 1, 0] rfl ?_
  exact p_X10_workOut_33_lp G l d hd0 N N (0 : Int32) (0 : Int32) (1 : Int32) μ5
theorem c_X10_workOut (G : am_G) (l : Launch) (N : Nat) (a1 : Int32) (a2 : Int32) (μ : am_M) : ct_P G l am_ci 103 me_X10_workOut [.ref (am_ad G 10 0), .int a1, .int a2] μ (f_X10_workOut N a1 a2 μ) := ct_of (by decide +kernel) (Nat.le_of_ble_eq_true rfl) rfl (p_X10_workOut_0 G l 103 (Nat.le_refl _) N a1 a2 μ)

def f_X10_want_48 (N : Nat) (r_48 : Int32 → Int32 → am_M → Option (Int32 × am_M)) (x2 : Int32) (x3 : Int32) (μ : am_M) : Option (Int32 × am_M) :=
if x2 ≤ x3 then (am_gd (μ.1 10 0 15) 4 (fun j5 => am_nm (am_ui μ 177 0 j5 x2) (fun μ6 => am_nm (am_ui μ6 10 0 15 ((μ6.1 10 0 15) + (1 : Int32))) (fun μ7 => some (((μ7.1 10 0 15) - (1 : Int32)), μ7))))) else (am_gd x3 120 (fun j8 => am_gd (((120 : Int32) * (μ.1 10 0 15)) + x3) 480 (fun j9 => am_nm (am_ui μ 176 0 j9 (μ.1 173 0 j8)) (fun μ10 => r_48 x2 (x3 + (1 : Int32)) μ10))))
def f_X10_want_48_lp (N : Nat) : Nat → Int32 → Int32 → am_M → Option (Int32 × am_M)
  | 0, _, _, _ => none
  | n + 1, x2, x3, μ => f_X10_want_48 N (f_X10_want_48_lp N n) x2 x3 μ
def f_X10_want_0 (N : Nat) (μ : am_M) : Option (Int32 × am_M) :=
if (μ.1 10 0 15) = (4 : Int32) then (some ((-3 : Int32), μ)) else (am_bd (f_X10_workOut N (-1 : Int32) (μ.1 10 0 14) μ) (fun y2 μ1 => am_nm (μ1.1 10 0 14) (fun y3 => am_nm (am_ui μ1 10 0 14 (0 : Int32)) (fun μ4 => if (μ4.1 10 0 21) < 0 then (f_X10_want_48_lp N N y3 (0 : Int32) μ4) else (some (((-100 : Int32) - (μ4.1 10 0 21)), μ4))))))
def f_X10_want (N : Nat) (μ : am_M) : Option (Int32 × am_M) := f_X10_want_0 N μ
set_option maxHeartbeats 4000000 in
set_option maxRecDepth 100000 in
theorem p_X10_want_48 (G : am_G) (l : Launch) (d : Nat) (hd0 : 104 ≤ d) (N : Nat) (r_48 : Int32 → Int32 → am_M → Option (Int32 × am_M)) (H_48 : ∀ (x2 : Int32) (x3 : Int32) (μ : am_M), sm_P G l am_ci d me_X10_want 48 [(0, .ref (am_ad G 10 0)), (2, .int x2), (3, .int x3)] [] μ (r_48 x2 x3 μ)) (x2 : Int32) (x3 : Int32) (μ : am_M) : sm_P G l am_ci d me_X10_want 48 [(0, .ref (am_ad G 10 0)), (2, .int x2), (3, .int x3)] [] μ (f_X10_want_48 N r_48 x2 x3 μ) := by
  unfold f_X10_want_48
  refine sm_iload_n (pc := 48) dX10_want_48 rfl 2 rfl ?_
  refine sm_iload_n (pc := 49) dX10_want_49 rfl 1 rfl ?_
  refine sm_icmp_ge (pc := 50) (tgt := 79) dX10_want_50 (by decide) ?_ ?_
  · refine sm_aload_n (pc := 79) dX10_want_79 rfl 0 rfl ?_
    refine sm_getr (pc := 80) dX10_want_80 fi_X10_43 ?_
    refine sm_aload_n (pc := 83) dX10_want_83 rfl 0 rfl ?_
    refine sm_geti (pc := 84) dX10_want_84 fi_X10_141 ?_
    refine sm_iload_n (pc := 87) dX10_want_87 rfl 1 rfl ?_
    refine sm_iast (pc := 88) dX10_want_88 ly_177 (by decide) (fun j5 hj5 => ?_)
    refine sm_nmM (fun μ6 => ?_)
    refine sm_aload_n (pc := 89) dX10_want_89 rfl 0 rfl ?_
    refine sm_dup (pc := 90) dX10_want_90 rfl ?_
    refine sm_geti (pc := 91) dX10_want_91 fi_X10_141 ?_
    refine sm_iconst (pc := 94) dX10_want_94 (v := 1) (by decide) ?_
    refine sm_iadd (pc := 95) dX10_want_95 ?_
    refine sm_puti (pc := 96) dX10_want_96 fi_X10_141 ?_
    refine sm_nmM (fun μ7 => ?_)
    refine sm_aload_n (pc := 99) dX10_want_99 rfl 0 rfl ?_
    refine sm_geti (pc := 100) dX10_want_100 fi_X10_141 ?_
    refine sm_iconst (pc := 103) dX10_want_103 (v := 1) (by decide) ?_
    refine sm_isub (pc := 104) dX10_want_104 ?_
    exact sm_iret (pc := 105) dX10_want_105 rfl
  · refine sm_aload_n (pc := 53) dX10_want_53 rfl 0 rfl ?_
    refine sm_getr (pc := 54) dX10_want_54 fi_X10_40 ?_
    refine sm_bipush (pc := 57) dX10_want_57 (v := 120) (by decide) ?_
    refine sm_aload_n (pc := 59) dX10_want_59 rfl 0 rfl ?_
    refine sm_geti (pc := 60) dX10_want_60 fi_X10_141 ?_
    refine sm_imul (pc := 63) dX10_want_63 ?_
    refine sm_iload_n (pc := 64) dX10_want_64 rfl 2 rfl ?_
    refine sm_iadd (pc := 65) dX10_want_65 ?_
    refine sm_aload_n (pc := 66) dX10_want_66 rfl 0 rfl ?_
    refine sm_getr (pc := 67) dX10_want_67 fi_X10_37 ?_
    refine sm_iload_n (pc := 70) dX10_want_70 rfl 2 rfl ?_
    refine sm_iald (pc := 71) dX10_want_71 ly_173 (by decide) (fun j8 hj8 => ?_)
    refine sm_iast (pc := 72) dX10_want_72 ly_176 (by decide) (fun j9 hj9 => ?_)
    refine sm_nmM (fun μ10 => ?_)
    refine sm_iinc (pc := 73) (v := (x3 + (1 : Int32))) (lv' := [(3, .int (x3 + (1 : Int32))), (0, .ref (am_ad G 10 0)), (2, .int x2)]) dX10_want_73 2 rfl rfl (by decide) rfl ?_
    refine sm_goto (pc := 76) (tgt := 48) dX10_want_76 (by decide) ?_
    refine sm_sub [1, 2, 0] rfl ?_
    exact H_48 x2 (x3 + (1 : Int32)) μ10
theorem p_X10_want_48_lp (G : am_G) (l : Launch) (d : Nat) (hd0 : 104 ≤ d) (N : Nat) : ∀ (n : Nat) (x2 : Int32) (x3 : Int32) (μ : am_M), sm_P G l am_ci d me_X10_want 48 [(0, .ref (am_ad G 10 0)), (2, .int x2), (3, .int x3)] [] μ (f_X10_want_48_lp N n x2 x3 μ) := by
  intro n
  induction n with
  | zero => intros; exact sm_none
  | succ n ih => exact fun x2 x3 μ => p_X10_want_48 G l d hd0 N (f_X10_want_48_lp N n) ih x2 x3 μ
set_option maxHeartbeats 4000000 in
set_option maxRecDepth 100000 in
theorem p_X10_want_0 (G : am_G) (l : Launch) (d : Nat) (hd0 : 104 ≤ d) (N : Nat) (μ : am_M) : sm_P G l am_ci d me_X10_want 0 [(0, .ref (am_ad G 10 0))] [] μ (f_X10_want_0 N μ) := by
  unfold f_X10_want_0
  refine sm_aload_n (pc := 0) dX10_want_0 rfl 0 rfl ?_
  refine sm_geti (pc := 1) dX10_want_1 fi_X10_141 ?_
  refine sm_iconst (pc := 4) dX10_want_4 (v := 4) (by decide) ?_
  refine sm_icmp_ne (pc := 5) (tgt := 11) dX10_want_5 (by decide) ?_ ?_
  · refine sm_aload_n (pc := 11) dX10_want_11 rfl 0 rfl ?_
    refine sm_iconst (pc := 12) dX10_want_12 (v := -1) (by decide) ?_
    refine sm_aload_n (pc := 13) dX10_want_13 rfl 0 rfl ?_
    refine sm_geti (pc := 14) dX10_want_14 fi_X10_158 ?_
    refine sm_callVi (pc := 17) (As := [.int (-1 : Int32), .int (μ.1 10 0 14)]) (rest := []) dX10_want_17 (c_X10_workOut G l N (-1 : Int32) (μ.1 10 0 14) μ) (by omega) wl_X10_206 vm_X10_workOut rfl rfl (Nat.le_of_ble_eq_true rfl) (fun y2 μ1 => ?_)
    refine sm_istore_n (pc := 20) (lv' := [(1, .int y2), (0, .ref (am_ad G 10 0))]) dX10_want_20 rfl (by decide) rfl ?_
    refine sm_aload_n (pc := 21) dX10_want_21 rfl 1 rfl ?_
    refine sm_geti (pc := 22) dX10_want_22 fi_X10_158 ?_
    refine sm_nmI (fun y3 => ?_)
    refine sm_istore_n (pc := 25) (lv' := [(2, .int y3), (1, .int y2), (0, .ref (am_ad G 10 0))]) dX10_want_25 rfl (by decide) rfl ?_
    refine sm_aload_n (pc := 26) dX10_want_26 rfl 2 rfl ?_
    refine sm_iconst (pc := 27) dX10_want_27 (v := 0) (by decide) ?_
    refine sm_puti (pc := 28) dX10_want_28 fi_X10_158 ?_
    refine sm_nmM (fun μ4 => ?_)
    refine sm_aload_n (pc := 31) dX10_want_31 rfl 2 rfl ?_
    refine sm_geti (pc := 32) dX10_want_32 fi_X10_170 ?_
    refine sm_if_lt (pc := 35) (tgt := 46) dX10_want_35 (by decide) ?_ ?_
    · refine sm_iconst (pc := 46) dX10_want_46 (v := 0) (by decide) ?_
      refine sm_istore_n (pc := 47) (lv' := [(3, .int (0 : Int32)), (2, .int y3), (1, .int y2), (0, .ref (am_ad G 10 0))]) dX10_want_47 rfl (by decide) rfl ?_
      refine sm_sub [3, 1, 0] rfl ?_
      exact p_X10_want_48_lp G l d hd0 N N y3 (0 : Int32) μ4
    · refine sm_bipush (pc := 38) dX10_want_38 (v := -100) (by decide) ?_
      refine sm_aload_n (pc := 40) dX10_want_40 rfl 2 rfl ?_
      refine sm_geti (pc := 41) dX10_want_41 fi_X10_170 ?_
      refine sm_isub (pc := 44) dX10_want_44 ?_
      exact sm_iret (pc := 45) dX10_want_45 rfl
  · refine sm_bipush (pc := 8) dX10_want_8 (v := -3) (by decide) ?_
    exact sm_iret (pc := 10) dX10_want_10 rfl
theorem c_X10_want (G : am_G) (l : Launch) (N : Nat) (μ : am_M) : ct_P G l am_ci 104 me_X10_want [.ref (am_ad G 10 0)] μ (f_X10_want N μ) := ct_of (by decide +kernel) (Nat.le_of_ble_eq_true rfl) rfl (p_X10_want_0 G l 104 (Nat.le_refl _) N μ)

def f_X10_worthOf_0 (N : Nat) (a1 : Int32) (a2 : Int32) (a3 : Int32) (μ : am_M) : Option (Int32 × am_M) :=
am_gd (0 : Int32) 7 (fun j1 => am_nm (am_ui μ 183 0 j1 a2) (fun μ2 => am_gd (1 : Int32) 7 (fun j3 => am_nm (am_ui μ2 183 0 j3 a3) (fun μ4 => am_gd ((6 : Int32) + a2) 28 (fun j5 => am_gd (2 : Int32) 7 (fun j6 => am_nm (am_ui μ4 183 0 j6 (μ4.1 160 0 j5)) (fun μ7 => am_gd ((12 : Int32) + a2) 28 (fun j8 => am_gd (3 : Int32) 7 (fun j9 => am_nm (am_ui μ7 183 0 j9 (μ7.1 160 0 j8)) (fun μ10 => am_gd (4 : Int32) 7 (fun j11 => am_nm (am_ui μ10 183 0 j11 a1) (fun μ12 => am_gd a1 5 (fun j13 => am_gd (5 : Int32) 7 (fun j14 => am_nm (am_ui μ12 183 0 j14 (μ12.1 170 0 j13)) (fun μ15 => am_gd (6 : Int32) 7 (fun j16 => am_nm (am_ui μ15 183 0 j16 (μ15.1 10 0 6)) (fun μ17 => am_gd a1 5 (fun j18 => am_gd a1 5 (fun j19 => am_gd (μ17.1 171 0 j19) 4 (fun j20 => am_bd (f_X10_workOut N ((120 : Int32) * (μ17.1 171 0 j18)) (μ17.1 177 0 j20) μ17) (fun y22 μ21 => if 0 ≤ y22 then (if y22 ≤ (999 : Int32) then (some (y22, μ21)) else (some ((999 : Int32), μ21))) else (some ((0 : Int32), μ21)))))))))))))))))))))))
def f_X10_worthOf (N : Nat) (a1 : Int32) (a2 : Int32) (a3 : Int32) (μ : am_M) : Option (Int32 × am_M) := f_X10_worthOf_0 N a1 a2 a3 μ
set_option maxHeartbeats 4000000 in
set_option maxRecDepth 100000 in
theorem p_X10_worthOf_0 (G : am_G) (l : Launch) (d : Nat) (hd0 : 104 ≤ d) (N : Nat) (a1 : Int32) (a2 : Int32) (a3 : Int32) (μ : am_M) : sm_P G l am_ci d me_X10_worthOf 0 [(0, .ref (am_ad G 10 0)), (1, .int a1), (2, .int a2), (3, .int a3)] [] μ (f_X10_worthOf_0 N a1 a2 a3 μ) := by
  unfold f_X10_worthOf_0
  refine sm_aload_n (pc := 0) dX10_worthOf_0 rfl 0 rfl ?_
  refine sm_getr (pc := 1) dX10_worthOf_1 fi_X10_46 ?_
  refine sm_iconst (pc := 4) dX10_worthOf_4 (v := 0) (by decide) ?_
  refine sm_iload_n (pc := 5) dX10_worthOf_5 rfl 2 rfl ?_
  refine sm_iast (pc := 6) dX10_worthOf_6 ly_183 (by decide) (fun j1 hj1 => ?_)
  refine sm_nmM (fun μ2 => ?_)
  refine sm_aload_n (pc := 7) dX10_worthOf_7 rfl 0 rfl ?_
  refine sm_getr (pc := 8) dX10_worthOf_8 fi_X10_46 ?_
  refine sm_iconst (pc := 11) dX10_worthOf_11 (v := 1) (by decide) ?_
  refine sm_iload_n (pc := 12) dX10_worthOf_12 rfl 3 rfl ?_
  refine sm_iast (pc := 13) dX10_worthOf_13 ly_183 (by decide) (fun j3 hj3 => ?_)
  refine sm_nmM (fun μ4 => ?_)
  refine sm_aload_n (pc := 14) dX10_worthOf_14 rfl 0 rfl ?_
  refine sm_getr (pc := 15) dX10_worthOf_15 fi_X10_46 ?_
  refine sm_iconst (pc := 18) dX10_worthOf_18 (v := 2) (by decide) ?_
  refine sm_aload_n (pc := 19) dX10_worthOf_19 rfl 0 rfl ?_
  refine sm_getr (pc := 20) dX10_worthOf_20 fi_X10_9 ?_
  refine sm_bipush (pc := 23) dX10_worthOf_23 (v := 6) (by decide) ?_
  refine sm_iload_n (pc := 25) dX10_worthOf_25 rfl 2 rfl ?_
  refine sm_iadd (pc := 26) dX10_worthOf_26 ?_
  refine sm_iald (pc := 27) dX10_worthOf_27 ly_160 (by decide) (fun j5 hj5 => ?_)
  refine sm_iast (pc := 28) dX10_worthOf_28 ly_183 (by decide) (fun j6 hj6 => ?_)
  refine sm_nmM (fun μ7 => ?_)
  refine sm_aload_n (pc := 29) dX10_worthOf_29 rfl 0 rfl ?_
  refine sm_getr (pc := 30) dX10_worthOf_30 fi_X10_46 ?_
  refine sm_iconst (pc := 33) dX10_worthOf_33 (v := 3) (by decide) ?_
  refine sm_aload_n (pc := 34) dX10_worthOf_34 rfl 0 rfl ?_
  refine sm_getr (pc := 35) dX10_worthOf_35 fi_X10_9 ?_
  refine sm_bipush (pc := 38) dX10_worthOf_38 (v := 12) (by decide) ?_
  refine sm_iload_n (pc := 40) dX10_worthOf_40 rfl 2 rfl ?_
  refine sm_iadd (pc := 41) dX10_worthOf_41 ?_
  refine sm_iald (pc := 42) dX10_worthOf_42 ly_160 (by decide) (fun j8 hj8 => ?_)
  refine sm_iast (pc := 43) dX10_worthOf_43 ly_183 (by decide) (fun j9 hj9 => ?_)
  refine sm_nmM (fun μ10 => ?_)
  refine sm_aload_n (pc := 44) dX10_worthOf_44 rfl 0 rfl ?_
  refine sm_getr (pc := 45) dX10_worthOf_45 fi_X10_46 ?_
  refine sm_iconst (pc := 48) dX10_worthOf_48 (v := 4) (by decide) ?_
  refine sm_iload_n (pc := 49) dX10_worthOf_49 rfl 1 rfl ?_
  refine sm_iast (pc := 50) dX10_worthOf_50 ly_183 (by decide) (fun j11 hj11 => ?_)
  refine sm_nmM (fun μ12 => ?_)
  refine sm_aload_n (pc := 51) dX10_worthOf_51 rfl 0 rfl ?_
  refine sm_getr (pc := 52) dX10_worthOf_52 fi_X10_46 ?_
  refine sm_iconst (pc := 55) dX10_worthOf_55 (v := 5) (by decide) ?_
  refine sm_aload_n (pc := 56) dX10_worthOf_56 rfl 0 rfl ?_
  refine sm_getr (pc := 57) dX10_worthOf_57 fi_X10_28 ?_
  refine sm_iload_n (pc := 60) dX10_worthOf_60 rfl 1 rfl ?_
  refine sm_iald (pc := 61) dX10_worthOf_61 ly_170 (by decide) (fun j13 hj13 => ?_)
  refine sm_iast (pc := 62) dX10_worthOf_62 ly_183 (by decide) (fun j14 hj14 => ?_)
  refine sm_nmM (fun μ15 => ?_)
  refine sm_aload_n (pc := 63) dX10_worthOf_63 rfl 0 rfl ?_
  refine sm_getr (pc := 64) dX10_worthOf_64 fi_X10_46 ?_
  refine sm_bipush (pc := 67) dX10_worthOf_67 (v := 6) (by decide) ?_
  refine sm_aload_n (pc := 69) dX10_worthOf_69 rfl 0 rfl ?_
  refine sm_geti (pc := 70) dX10_worthOf_70 fi_X10_102 ?_
  refine sm_iast (pc := 73) dX10_worthOf_73 ly_183 (by decide) (fun j16 hj16 => ?_)
  refine sm_nmM (fun μ17 => ?_)
  refine sm_aload_n (pc := 74) dX10_worthOf_74 rfl 0 rfl ?_
  refine sm_bipush (pc := 75) dX10_worthOf_75 (v := 120) (by decide) ?_
  refine sm_aload_n (pc := 77) dX10_worthOf_77 rfl 0 rfl ?_
  refine sm_getr (pc := 78) dX10_worthOf_78 fi_X10_31 ?_
  refine sm_iload_n (pc := 81) dX10_worthOf_81 rfl 1 rfl ?_
  refine sm_iald (pc := 82) dX10_worthOf_82 ly_171 (by decide) (fun j18 hj18 => ?_)
  refine sm_imul (pc := 83) dX10_worthOf_83 ?_
  refine sm_aload_n (pc := 84) dX10_worthOf_84 rfl 0 rfl ?_
  refine sm_getr (pc := 85) dX10_worthOf_85 fi_X10_43 ?_
  refine sm_aload_n (pc := 88) dX10_worthOf_88 rfl 0 rfl ?_
  refine sm_getr (pc := 89) dX10_worthOf_89 fi_X10_31 ?_
  refine sm_iload_n (pc := 92) dX10_worthOf_92 rfl 1 rfl ?_
  refine sm_iald (pc := 93) dX10_worthOf_93 ly_171 (by decide) (fun j19 hj19 => ?_)
  refine sm_iald (pc := 94) dX10_worthOf_94 ly_177 (by decide) (fun j20 hj20 => ?_)
  refine sm_callVi (pc := 95) (As := [.int ((120 : Int32) * (μ17.1 171 0 j18)), .int (μ17.1 177 0 j20)]) (rest := []) dX10_worthOf_95 (c_X10_workOut G l N ((120 : Int32) * (μ17.1 171 0 j18)) (μ17.1 177 0 j20) μ17) (by omega) wl_X10_206 vm_X10_workOut rfl rfl (Nat.le_of_ble_eq_true rfl) (fun y22 μ21 => ?_)
  refine sm_istore (pc := 98) (lv' := [(4, .int y22), (0, .ref (am_ad G 10 0)), (1, .int a1), (2, .int a2), (3, .int a3)]) dX10_worthOf_98 (by decide) rfl ?_
  refine sm_iload (pc := 100) dX10_worthOf_100 0 rfl ?_
  refine sm_if_ge (pc := 102) (tgt := 109) dX10_worthOf_102 (by decide) ?_ ?_
  · refine sm_iload (pc := 109) dX10_worthOf_109 0 rfl ?_
    refine sm_sipush (pc := 111) dX10_worthOf_111 (v := 999) (by decide) ?_
    refine sm_icmp_le (pc := 114) (tgt := 123) dX10_worthOf_114 (by decide) ?_ ?_
    · refine sm_iload (pc := 123) dX10_worthOf_123 0 rfl ?_
      exact sm_iret (pc := 125) dX10_worthOf_125 rfl
    · refine sm_sipush (pc := 117) dX10_worthOf_117 (v := 999) (by decide) ?_
      refine sm_goto (pc := 120) (tgt := 125) dX10_worthOf_120 (by decide) ?_
      exact sm_iret (pc := 125) dX10_worthOf_125 rfl
  · refine sm_iconst (pc := 105) dX10_worthOf_105 (v := 0) (by decide) ?_
    refine sm_goto (pc := 106) (tgt := 125) dX10_worthOf_106 (by decide) ?_
    exact sm_iret (pc := 125) dX10_worthOf_125 rfl
theorem c_X10_worthOf (G : am_G) (l : Launch) (N : Nat) (a1 : Int32) (a2 : Int32) (a3 : Int32) (μ : am_M) : ct_P G l am_ci 104 me_X10_worthOf [.ref (am_ad G 10 0), .int a1, .int a2, .int a3] μ (f_X10_worthOf N a1 a2 a3 μ) := ct_of (by decide +kernel) (Nat.le_of_ble_eq_true rfl) rfl (p_X10_worthOf_0 G l 104 (Nat.le_refl _) N a1 a2 a3 μ)

def f_X10_worth_0 (N : Nat) (a1 : Int32) (a2 : Int32) (μ : am_M) : Option (Int32 × am_M) :=
am_bd (f_X10_isSort N a1 μ) (fun y2 μ1 => if y2 = 0 then (some ((-1 : Int32), μ1)) else (if a2 < 0 then (some ((-1 : Int32), μ1)) else (am_bd (f_X10_isThing N (a2 / (10 : Int32)) μ1) (fun y4 μ3 => if y4 = 0 then (some ((-1 : Int32), μ3)) else (am_bd (f_X10_within N (am_rem a2 (10 : Int32)).toInt64 (1 : Int64) (3 : Int64) μ3) (fun y6 μ5 => if y6 = 0 then (some ((-1 : Int32), μ5)) else (am_bd (f_X10_worthOf N a1 (a2 / (10 : Int32)) (am_rem a2 (10 : Int32)) μ5) (fun y8 μ7 => some (y8, μ7)))))))))
def f_X10_worth (N : Nat) (a1 : Int32) (a2 : Int32) (μ : am_M) : Option (Int32 × am_M) := f_X10_worth_0 N a1 a2 μ
set_option maxHeartbeats 4000000 in
set_option maxRecDepth 100000 in
theorem p_X10_worth_0 (G : am_G) (l : Launch) (d : Nat) (hd0 : 105 ≤ d) (N : Nat) (a1 : Int32) (a2 : Int32) (μ : am_M) : sm_P G l am_ci d me_X10_worth 0 [(0, .ref (am_ad G 10 0)), (1, .int a1), (2, .int a2)] [] μ (f_X10_worth_0 N a1 a2 μ) := by
  unfold f_X10_worth_0
  refine sm_aload_n (pc := 0) dX10_worth_0 rfl 0 rfl ?_
  refine sm_iload_n (pc := 1) dX10_worth_1 rfl 1 rfl ?_
  refine sm_callVi (pc := 2) (As := [.int a1]) (rest := []) dX10_worth_2 (c_X10_isSort G l N a1 μ) (by omega) wl_X10_144 vm_X10_isSort rfl rfl (Nat.le_of_ble_eq_true rfl) (fun y2 μ1 => ?_)
  refine sm_if_eq (pc := 5) (tgt := 54) dX10_worth_5 (by decide) ?_ ?_
  · refine sm_iconst (pc := 54) dX10_worth_54 (v := -1) (by decide) ?_
    exact sm_iret (pc := 55) dX10_worth_55 rfl
  · refine sm_iload_n (pc := 8) dX10_worth_8 rfl 2 rfl ?_
    refine sm_if_lt (pc := 9) (tgt := 54) dX10_worth_9 (by decide) ?_ ?_
    · refine sm_iconst (pc := 54) dX10_worth_54 (v := -1) (by decide) ?_
      exact sm_iret (pc := 55) dX10_worth_55 rfl
    · refine sm_aload_n (pc := 12) dX10_worth_12 rfl 0 rfl ?_
      refine sm_iload_n (pc := 13) dX10_worth_13 rfl 2 rfl ?_
      refine sm_bipush (pc := 14) dX10_worth_14 (v := 10) (by decide) ?_
      refine sm_idivc (pc := 16) dX10_worth_16 (by decide) ?_
      refine sm_callVi (pc := 17) (As := [.int (a2 / (10 : Int32))]) (rest := []) dX10_worth_17 (c_X10_isThing G l N (a2 / (10 : Int32)) μ1) (by omega) wl_X10_132 vm_X10_isThing rfl rfl (Nat.le_of_ble_eq_true rfl) (fun y4 μ3 => ?_)
      refine sm_if_eq (pc := 20) (tgt := 54) dX10_worth_20 (by decide) ?_ ?_
      · refine sm_iconst (pc := 54) dX10_worth_54 (v := -1) (by decide) ?_
        exact sm_iret (pc := 55) dX10_worth_55 rfl
      · refine sm_iload_n (pc := 23) dX10_worth_23 rfl 2 rfl ?_
        refine sm_bipush (pc := 24) dX10_worth_24 (v := 10) (by decide) ?_
        refine sm_iremc (pc := 26) dX10_worth_26 (by decide) ?_
        refine sm_i2l (pc := 27) dX10_worth_27 ?_
        refine sm_lconst (pc := 28) dX10_worth_28 (v := 1) (by decide) ?_
        refine sm_ldc2 (pc := 29) dX10_worth_29 (v := 3) wk_X10_147 ?_
        refine sm_callSi (pc := 32) (As := [.long (am_rem a2 (10 : Int32)).toInt64, .long (1 : Int64), .long (3 : Int64)]) (rest := []) dX10_worth_32 (c_X10_within G l N (am_rem a2 (10 : Int32)).toInt64 (1 : Int64) (3 : Int64) μ3) (by omega) wl_X10_105 st_X10_within rfl rfl (Nat.le_of_ble_eq_true rfl) (fun y6 μ5 => ?_)
        refine sm_if_eq (pc := 35) (tgt := 54) dX10_worth_35 (by decide) ?_ ?_
        · refine sm_iconst (pc := 54) dX10_worth_54 (v := -1) (by decide) ?_
          exact sm_iret (pc := 55) dX10_worth_55 rfl
        · refine sm_aload_n (pc := 38) dX10_worth_38 rfl 0 rfl ?_
          refine sm_iload_n (pc := 39) dX10_worth_39 rfl 1 rfl ?_
          refine sm_iload_n (pc := 40) dX10_worth_40 rfl 2 rfl ?_
          refine sm_bipush (pc := 41) dX10_worth_41 (v := 10) (by decide) ?_
          refine sm_idivc (pc := 43) dX10_worth_43 (by decide) ?_
          refine sm_iload_n (pc := 44) dX10_worth_44 rfl 2 rfl ?_
          refine sm_bipush (pc := 45) dX10_worth_45 (v := 10) (by decide) ?_
          refine sm_iremc (pc := 47) dX10_worth_47 (by decide) ?_
          refine sm_callVi (pc := 48) (As := [.int a1, .int (a2 / (10 : Int32)), .int (am_rem a2 (10 : Int32))]) (rest := []) dX10_worth_48 (c_X10_worthOf G l N a1 (a2 / (10 : Int32)) (am_rem a2 (10 : Int32)) μ5) (by omega) wl_X10_209 vm_X10_worthOf rfl rfl (Nat.le_of_ble_eq_true rfl) (fun y8 μ7 => ?_)
          refine sm_goto (pc := 51) (tgt := 55) dX10_worth_51 (by decide) ?_
          exact sm_iret (pc := 55) dX10_worth_55 rfl
theorem c_X10_worth (G : am_G) (l : Launch) (N : Nat) (a1 : Int32) (a2 : Int32) (μ : am_M) : ct_P G l am_ci 105 me_X10_worth [.ref (am_ad G 10 0), .int a1, .int a2] μ (f_X10_worth N a1 a2 μ) := ct_of (by decide +kernel) (Nat.le_of_ble_eq_true rfl) rfl (p_X10_worth_0 G l 105 (Nat.le_refl _) N a1 a2 μ)

def f_X10_layWorths_21 (N : Nat) (r_2 : Int32 → Int32 → am_M → Option (Unit × am_M)) (r_21 : Int32 → Int32 → Int32 → am_M → Option (Unit × am_M)) (x1 : Int32) (x2 : Int32) (x3 : Int32) (μ : am_M) : Option (Unit × am_M) :=
if (3 : Int32) < x3 then (r_2 x1 (x2 + (1 : Int32)) μ) else (am_gd ((((4 : Int32) * x2) + x3) - (1 : Int32)) 24 (fun j3 => am_bd (f_X10_worthOf N x1 x2 x3 μ) (fun y5 μ4 => am_gd (((4 : Int32) * x2) + x3) 24 (fun j6 => am_nm (am_ui μ4 184 0 j6 ((μ.1 184 0 j3) + y5)) (fun μ7 => r_21 x1 x2 (x3 + (1 : Int32)) μ7)))))
def f_X10_layWorths_21_lp (N : Nat) (r_2 : Int32 → Int32 → am_M → Option (Unit × am_M)) : Nat → Int32 → Int32 → Int32 → am_M → Option (Unit × am_M)
  | 0, _, _, _, _ => none
  | n + 1, x1, x2, x3, μ => f_X10_layWorths_21 N r_2 (f_X10_layWorths_21_lp N r_2 n) x1 x2 x3 μ
def f_X10_layWorths_2 (N : Nat) (r_2 : Int32 → Int32 → am_M → Option (Unit × am_M)) (x1 : Int32) (x2 : Int32) (μ : am_M) : Option (Unit × am_M) :=
if (μ.1 10 0 6) ≤ x2 then (some ((), μ)) else (am_gd ((4 : Int32) * x2) 24 (fun j1 => am_nm (am_ui μ 184 0 j1 (0 : Int32)) (fun μ2 => f_X10_layWorths_21_lp N r_2 N x1 x2 (1 : Int32) μ2)))
def f_X10_layWorths_2_lp (N : Nat) : Nat → Int32 → Int32 → am_M → Option (Unit × am_M)
  | 0, _, _, _ => none
  | n + 1, x1, x2, μ => f_X10_layWorths_2 N (f_X10_layWorths_2_lp N n) x1 x2 μ
def f_X10_layWorths_0 (N : Nat) (a1 : Int32) (μ : am_M) : Option (Unit × am_M) :=
f_X10_layWorths_2_lp N N a1 (0 : Int32) μ
def f_X10_layWorths (N : Nat) (a1 : Int32) (μ : am_M) : Option (Unit × am_M) := f_X10_layWorths_0 N a1 μ
set_option maxHeartbeats 4000000 in
set_option maxRecDepth 100000 in
theorem p_X10_layWorths_21 (G : am_G) (l : Launch) (d : Nat) (hd0 : 105 ≤ d) (N : Nat) (r_2 : Int32 → Int32 → am_M → Option (Unit × am_M)) (r_21 : Int32 → Int32 → Int32 → am_M → Option (Unit × am_M)) (H_2 : ∀ (x1 : Int32) (x2 : Int32) (μ : am_M), sm_P G l am_cu d me_X10_layWorths 2 [(0, .ref (am_ad G 10 0)), (1, .int x1), (2, .int x2)] [] μ (r_2 x1 x2 μ)) (H_21 : ∀ (x1 : Int32) (x2 : Int32) (x3 : Int32) (μ : am_M), sm_P G l am_cu d me_X10_layWorths 21 [(0, .ref (am_ad G 10 0)), (1, .int x1), (2, .int x2), (3, .int x3)] [] μ (r_21 x1 x2 x3 μ)) (x1 : Int32) (x2 : Int32) (x3 : Int32) (μ : am_M) : sm_P G l am_cu d me_X10_layWorths 21 [(0, .ref (am_ad G 10 0)), (1, .int x1), (2, .int x2), (3, .int x3)] [] μ (f_X10_layWorths_21 N r_2 r_21 x1 x2 x3 μ) := by
  unfold f_X10_layWorths_21
  refine sm_iload_n (pc := 21) dX10_layWorths_21 rfl 3 rfl ?_
  refine sm_iconst (pc := 22) dX10_layWorths_22 (v := 3) (by decide) ?_
  refine sm_icmp_gt (pc := 23) (tgt := 62) dX10_layWorths_23 (by decide) ?_ ?_
  · refine sm_iinc (pc := 62) (v := (x2 + (1 : Int32))) (lv' := [(2, .int (x2 + (1 : Int32))), (0, .ref (am_ad G 10 0)), (1, .int x1), (3, .int x3)]) dX10_layWorths_62 2 rfl rfl (by decide) rfl ?_
    refine sm_goto (pc := 65) (tgt := 2) dX10_layWorths_65 (by decide) ?_
    refine sm_sub [1, 2, 0] rfl ?_
    exact H_2 x1 (x2 + (1 : Int32)) μ
  · refine sm_aload_n (pc := 26) dX10_layWorths_26 rfl 0 rfl ?_
    refine sm_getr (pc := 27) dX10_layWorths_27 fi_X10_49 ?_
    refine sm_iconst (pc := 30) dX10_layWorths_30 (v := 4) (by decide) ?_
    refine sm_iload_n (pc := 31) dX10_layWorths_31 rfl 2 rfl ?_
    refine sm_imul (pc := 32) dX10_layWorths_32 ?_
    refine sm_iload_n (pc := 33) dX10_layWorths_33 rfl 3 rfl ?_
    refine sm_iadd (pc := 34) dX10_layWorths_34 ?_
    refine sm_aload_n (pc := 35) dX10_layWorths_35 rfl 0 rfl ?_
    refine sm_getr (pc := 36) dX10_layWorths_36 fi_X10_49 ?_
    refine sm_iconst (pc := 39) dX10_layWorths_39 (v := 4) (by decide) ?_
    refine sm_iload_n (pc := 40) dX10_layWorths_40 rfl 2 rfl ?_
    refine sm_imul (pc := 41) dX10_layWorths_41 ?_
    refine sm_iload_n (pc := 42) dX10_layWorths_42 rfl 3 rfl ?_
    refine sm_iadd (pc := 43) dX10_layWorths_43 ?_
    refine sm_iconst (pc := 44) dX10_layWorths_44 (v := 1) (by decide) ?_
    refine sm_isub (pc := 45) dX10_layWorths_45 ?_
    refine sm_iald (pc := 46) dX10_layWorths_46 ly_184 (by decide) (fun j3 hj3 => ?_)
    refine sm_aload_n (pc := 47) dX10_layWorths_47 rfl 0 rfl ?_
    refine sm_iload_n (pc := 48) dX10_layWorths_48 rfl 1 rfl ?_
    refine sm_iload_n (pc := 49) dX10_layWorths_49 rfl 2 rfl ?_
    refine sm_iload_n (pc := 50) dX10_layWorths_50 rfl 3 rfl ?_
    refine sm_callVi (pc := 51) (As := [.int x1, .int x2, .int x3]) (rest := [.int (μ.1 184 0 j3), .int (((4 : Int32) * x2) + x3), .ref (am_ad G 184 0)]) dX10_layWorths_51 (c_X10_worthOf G l N x1 x2 x3 μ) (by omega) wl_X10_209 vm_X10_worthOf rfl rfl (Nat.le_of_ble_eq_true rfl) (fun y5 μ4 => ?_)
    refine sm_iadd (pc := 54) dX10_layWorths_54 ?_
    refine sm_iast (pc := 55) dX10_layWorths_55 ly_184 (by decide) (fun j6 hj6 => ?_)
    refine sm_nmM (fun μ7 => ?_)
    refine sm_iinc (pc := 56) (v := (x3 + (1 : Int32))) (lv' := [(3, .int (x3 + (1 : Int32))), (0, .ref (am_ad G 10 0)), (1, .int x1), (2, .int x2)]) dX10_layWorths_56 3 rfl rfl (by decide) rfl ?_
    refine sm_goto (pc := 59) (tgt := 21) dX10_layWorths_59 (by decide) ?_
    refine sm_sub [1, 2, 3, 0] rfl ?_
    exact H_21 x1 x2 (x3 + (1 : Int32)) μ7
theorem p_X10_layWorths_21_lp (G : am_G) (l : Launch) (d : Nat) (hd0 : 105 ≤ d) (N : Nat) (r_2 : Int32 → Int32 → am_M → Option (Unit × am_M)) (H_2 : ∀ (x1 : Int32) (x2 : Int32) (μ : am_M), sm_P G l am_cu d me_X10_layWorths 2 [(0, .ref (am_ad G 10 0)), (1, .int x1), (2, .int x2)] [] μ (r_2 x1 x2 μ)) : ∀ (n : Nat) (x1 : Int32) (x2 : Int32) (x3 : Int32) (μ : am_M), sm_P G l am_cu d me_X10_layWorths 21 [(0, .ref (am_ad G 10 0)), (1, .int x1), (2, .int x2), (3, .int x3)] [] μ (f_X10_layWorths_21_lp N r_2 n x1 x2 x3 μ) := by
  intro n
  induction n with
  | zero => intros; exact sm_none
  | succ n ih => exact fun x1 x2 x3 μ => p_X10_layWorths_21 G l d hd0 N r_2 (f_X10_layWorths_21_lp N r_2 n) H_2 ih x1 x2 x3 μ
set_option maxHeartbeats 4000000 in
set_option maxRecDepth 100000 in
theorem p_X10_layWorths_2 (G : am_G) (l : Launch) (d : Nat) (hd0 : 105 ≤ d) (N : Nat) (r_2 : Int32 → Int32 → am_M → Option (Unit × am_M)) (H_2 : ∀ (x1 : Int32) (x2 : Int32) (μ : am_M), sm_P G l am_cu d me_X10_layWorths 2 [(0, .ref (am_ad G 10 0)), (1, .int x1), (2, .int x2)] [] μ (r_2 x1 x2 μ)) (x1 : Int32) (x2 : Int32) (μ : am_M) : sm_P G l am_cu d me_X10_layWorths 2 [(0, .ref (am_ad G 10 0)), (1, .int x1), (2, .int x2)] [] μ (f_X10_layWorths_2 N r_2 x1 x2 μ) := by
  unfold f_X10_layWorths_2
  refine sm_iload_n (pc := 2) dX10_layWorths_2 rfl 2 rfl ?_
  refine sm_aload_n (pc := 3) dX10_layWorths_3 rfl 0 rfl ?_
  refine sm_geti (pc := 4) dX10_layWorths_4 fi_X10_102 ?_
  refine sm_icmp_ge (pc := 7) (tgt := 68) dX10_layWorths_7 (by decide) ?_ ?_
  · exact sm_vret (pc := 68) dX10_layWorths_68 rfl
  · refine sm_aload_n (pc := 10) dX10_layWorths_10 rfl 0 rfl ?_
    refine sm_getr (pc := 11) dX10_layWorths_11 fi_X10_49 ?_
    refine sm_iconst (pc := 14) dX10_layWorths_14 (v := 4) (by decide) ?_
    refine sm_iload_n (pc := 15) dX10_layWorths_15 rfl 2 rfl ?_
    refine sm_imul (pc := 16) dX10_layWorths_16 ?_
    refine sm_iconst (pc := 17) dX10_layWorths_17 (v := 0) (by decide) ?_
    refine sm_iast (pc := 18) dX10_layWorths_18 ly_184 (by decide) (fun j1 hj1 => ?_)
    refine sm_nmM (fun μ2 => ?_)
    refine sm_iconst (pc := 19) dX10_layWorths_19 (v := 1) (by decide) ?_
    refine sm_istore_n (pc := 20) (lv' := [(3, .int (1 : Int32)), (0, .ref (am_ad G 10 0)), (1, .int x1), (2, .int x2)]) dX10_layWorths_20 rfl (by decide) rfl ?_
    refine sm_sub [1, 2, 3, 0] rfl ?_
    exact p_X10_layWorths_21_lp G l d hd0 N r_2 H_2 N x1 x2 (1 : Int32) μ2
theorem p_X10_layWorths_2_lp (G : am_G) (l : Launch) (d : Nat) (hd0 : 105 ≤ d) (N : Nat) : ∀ (n : Nat) (x1 : Int32) (x2 : Int32) (μ : am_M), sm_P G l am_cu d me_X10_layWorths 2 [(0, .ref (am_ad G 10 0)), (1, .int x1), (2, .int x2)] [] μ (f_X10_layWorths_2_lp N n x1 x2 μ) := by
  intro n
  induction n with
  | zero => intros; exact sm_none
  | succ n ih => exact fun x1 x2 μ => p_X10_layWorths_2 G l d hd0 N (f_X10_layWorths_2_lp N n) ih x1 x2 μ
set_option maxHeartbeats 4000000 in
set_option maxRecDepth 100000 in
theorem p_X10_layWorths_0 (G : am_G) (l : Launch) (d : Nat) (hd0 : 105 ≤ d) (N : Nat) (a1 : Int32) (μ : am_M) : sm_P G l am_cu d me_X10_layWorths 0 [(0, .ref (am_ad G 10 0)), (1, .int a1)] [] μ (f_X10_layWorths_0 N a1 μ) := by
  unfold f_X10_layWorths_0
  refine sm_iconst (pc := 0) dX10_layWorths_0 (v := 0) (by decide) ?_
  refine sm_istore_n (pc := 1) (lv' := [(2, .int (0 : Int32)), (0, .ref (am_ad G 10 0)), (1, .int a1)]) dX10_layWorths_1 rfl (by decide) rfl ?_
  refine sm_sub [1, 2, 0] rfl ?_
  exact p_X10_layWorths_2_lp G l d hd0 N N a1 (0 : Int32) μ
theorem c_X10_layWorths (G : am_G) (l : Launch) (N : Nat) (a1 : Int32) (μ : am_M) : ct_P G l am_cu 105 me_X10_layWorths [.ref (am_ad G 10 0), .int a1] μ (f_X10_layWorths N a1 μ) := ct_of (by decide +kernel) (Nat.le_of_ble_eq_true rfl) rfl (p_X10_layWorths_0 G l 105 (Nat.le_refl _) N a1 μ)

def f_X10_baskets_0 (N : Nat) (μ : am_M) : Option (Int32 × am_M) :=
some (((1 : Int32) <<< (((2 : Int32) * (μ.1 10 0 6)) &&& 31)), μ)
def f_X10_baskets (N : Nat) (μ : am_M) : Option (Int32 × am_M) := f_X10_baskets_0 N μ
set_option maxHeartbeats 4000000 in
set_option maxRecDepth 100000 in
theorem p_X10_baskets_0 (G : am_G) (l : Launch) (d : Nat) (hd0 : 0 ≤ d) (N : Nat) (μ : am_M) : sm_P G l am_ci d me_X10_baskets 0 [(0, .ref (am_ad G 10 0))] [] μ (f_X10_baskets_0 N μ) := by
  unfold f_X10_baskets_0
  refine sm_iconst (pc := 0) dX10_baskets_0 (v := 1) (by decide) ?_
  refine sm_iconst (pc := 1) dX10_baskets_1 (v := 2) (by decide) ?_
  refine sm_aload_n (pc := 2) dX10_baskets_2 rfl 0 rfl ?_
  refine sm_geti (pc := 3) dX10_baskets_3 fi_X10_102 ?_
  refine sm_imul (pc := 6) dX10_baskets_6 ?_
  refine sm_ishl (pc := 7) dX10_baskets_7 ?_
  exact sm_iret (pc := 8) dX10_baskets_8 rfl
theorem c_X10_baskets (G : am_G) (l : Launch) (N : Nat) (μ : am_M) : ct_P G l am_ci 0 me_X10_baskets [.ref (am_ad G 10 0)] μ (f_X10_baskets N μ) := ct_of (by decide +kernel) (Nat.le_of_ble_eq_true rfl) rfl (p_X10_baskets_0 G l 0 (Nat.le_refl _) N μ)

def f_X10_unpack_17 (N : Nat) (r_17 : Int32 → Int32 → am_M → Option (Unit × am_M)) (x1 : Int32) (x2 : Int32) (μ : am_M) : Option (Unit × am_M) :=
if (μ.1 10 0 6) ≤ x2 then (some ((), μ)) else (am_nm ((x1 >>> (((2 : Int32) * (((μ.1 10 0 6) - (1 : Int32)) - x2)) &&& 31)) &&& (3 : Int32)) (fun y4 => am_gd x2 6 (fun j5 => am_nm (am_ui μ 185 0 j5 y4) (fun μ6 => am_gd (((4 : Int32) * x2) + y4) 24 (fun j7 => am_nm (am_ui μ6 10 0 26 ((μ6.1 10 0 26) + (μ6.1 184 0 j7))) (fun μ8 => am_gd ((6 : Int32) + x2) 28 (fun j9 => am_nm (am_ui μ8 10 0 27 ((μ8.1 10 0 27) + (y4 * (((μ8.1 160 0 j9) * (μ8.1 10 0 29)) / (100 : Int32))))) (fun μ10 => am_gd ((12 : Int32) + x2) 28 (fun j11 => am_nm (am_ui μ10 10 0 28 ((μ10.1 10 0 28) + (y4 * (μ10.1 160 0 j11)))) (fun μ12 => r_17 x1 (x2 + (1 : Int32)) μ12))))))))))
def f_X10_unpack_17_lp (N : Nat) : Nat → Int32 → Int32 → am_M → Option (Unit × am_M)
  | 0, _, _, _ => none
  | n + 1, x1, x2, μ => f_X10_unpack_17 N (f_X10_unpack_17_lp N n) x1 x2 μ
def f_X10_unpack_0 (N : Nat) (a1 : Int32) (μ : am_M) : Option (Unit × am_M) :=
am_nm (am_ui μ 10 0 26 (0 : Int32)) (fun μ1 => am_nm (am_ui μ1 10 0 27 (0 : Int32)) (fun μ2 => am_nm (am_ui μ2 10 0 28 (0 : Int32)) (fun μ3 => f_X10_unpack_17_lp N N a1 (0 : Int32) μ3)))
def f_X10_unpack (N : Nat) (a1 : Int32) (μ : am_M) : Option (Unit × am_M) := f_X10_unpack_0 N a1 μ
set_option maxHeartbeats 4000000 in
set_option maxRecDepth 100000 in
theorem p_X10_unpack_17 (G : am_G) (l : Launch) (d : Nat) (hd0 : 0 ≤ d) (N : Nat) (r_17 : Int32 → Int32 → am_M → Option (Unit × am_M)) (H_17 : ∀ (x1 : Int32) (x2 : Int32) (μ : am_M), sm_P G l am_cu d me_X10_unpack 17 [(0, .ref (am_ad G 10 0)), (1, .int x1), (2, .int x2)] [] μ (r_17 x1 x2 μ)) (x1 : Int32) (x2 : Int32) (μ : am_M) : sm_P G l am_cu d me_X10_unpack 17 [(0, .ref (am_ad G 10 0)), (1, .int x1), (2, .int x2)] [] μ (f_X10_unpack_17 N r_17 x1 x2 μ) := by
  unfold f_X10_unpack_17
  refine sm_iload_n (pc := 17) dX10_unpack_17 rfl 2 rfl ?_
  refine sm_aload_n (pc := 18) dX10_unpack_18 rfl 0 rfl ?_
  refine sm_geti (pc := 19) dX10_unpack_19 fi_X10_102 ?_
  refine sm_icmp_ge (pc := 22) (tgt := 120) dX10_unpack_22 (by decide) ?_ ?_
  · exact sm_vret (pc := 120) dX10_unpack_120 rfl
  · refine sm_iload_n (pc := 25) dX10_unpack_25 rfl 1 rfl ?_
    refine sm_iconst (pc := 26) dX10_unpack_26 (v := 2) (by decide) ?_
    refine sm_aload_n (pc := 27) dX10_unpack_27 rfl 0 rfl ?_
    refine sm_geti (pc := 28) dX10_unpack_28 fi_X10_102 ?_
    refine sm_iconst (pc := 31) dX10_unpack_31 (v := 1) (by decide) ?_
    refine sm_isub (pc := 32) dX10_unpack_32 ?_
    refine sm_iload_n (pc := 33) dX10_unpack_33 rfl 2 rfl ?_
    refine sm_isub (pc := 34) dX10_unpack_34 ?_
    refine sm_imul (pc := 35) dX10_unpack_35 ?_
    refine sm_ishr (pc := 36) dX10_unpack_36 ?_
    refine sm_iconst (pc := 37) dX10_unpack_37 (v := 3) (by decide) ?_
    refine sm_iand (pc := 38) dX10_unpack_38 ?_
    refine sm_nmI (fun y4 => ?_)
    refine sm_istore_n (pc := 39) (lv' := [(3, .int y4), (0, .ref (am_ad G 10 0)), (1, .int x1), (2, .int x2)]) dX10_unpack_39 rfl (by decide) rfl ?_
    refine sm_aload_n (pc := 40) dX10_unpack_40 rfl 1 rfl ?_
    refine sm_getr (pc := 41) dX10_unpack_41 fi_X10_52 ?_
    refine sm_iload_n (pc := 44) dX10_unpack_44 rfl 3 rfl ?_
    refine sm_iload_n (pc := 45) dX10_unpack_45 rfl 0 rfl ?_
    refine sm_iast (pc := 46) dX10_unpack_46 ly_185 (by decide) (fun j5 hj5 => ?_)
    refine sm_nmM (fun μ6 => ?_)
    refine sm_aload_n (pc := 47) dX10_unpack_47 rfl 1 rfl ?_
    refine sm_dup (pc := 48) dX10_unpack_48 rfl ?_
    refine sm_geti (pc := 49) dX10_unpack_49 fi_X10_213 ?_
    refine sm_aload_n (pc := 52) dX10_unpack_52 rfl 1 rfl ?_
    refine sm_getr (pc := 53) dX10_unpack_53 fi_X10_49 ?_
    refine sm_iconst (pc := 56) dX10_unpack_56 (v := 4) (by decide) ?_
    refine sm_iload_n (pc := 57) dX10_unpack_57 rfl 3 rfl ?_
    refine sm_imul (pc := 58) dX10_unpack_58 ?_
    refine sm_iload_n (pc := 59) dX10_unpack_59 rfl 0 rfl ?_
    refine sm_iadd (pc := 60) dX10_unpack_60 ?_
    refine sm_iald (pc := 61) dX10_unpack_61 ly_184 (by decide) (fun j7 hj7 => ?_)
    refine sm_iadd (pc := 62) dX10_unpack_62 ?_
    refine sm_puti (pc := 63) dX10_unpack_63 fi_X10_213 ?_
    refine sm_nmM (fun μ8 => ?_)
    refine sm_aload_n (pc := 66) dX10_unpack_66 rfl 1 rfl ?_
    refine sm_dup (pc := 67) dX10_unpack_67 rfl ?_
    refine sm_geti (pc := 68) dX10_unpack_68 fi_X10_216 ?_
    refine sm_iload_n (pc := 71) dX10_unpack_71 rfl 0 rfl ?_
    refine sm_aload_n (pc := 72) dX10_unpack_72 rfl 1 rfl ?_
    refine sm_getr (pc := 73) dX10_unpack_73 fi_X10_9 ?_
    refine sm_bipush (pc := 76) dX10_unpack_76 (v := 6) (by decide) ?_
    refine sm_iload_n (pc := 78) dX10_unpack_78 rfl 3 rfl ?_
    refine sm_iadd (pc := 79) dX10_unpack_79 ?_
    refine sm_iald (pc := 80) dX10_unpack_80 ly_160 (by decide) (fun j9 hj9 => ?_)
    refine sm_aload_n (pc := 81) dX10_unpack_81 rfl 1 rfl ?_
    refine sm_geti (pc := 82) dX10_unpack_82 fi_X10_55 ?_
    refine sm_imul (pc := 85) dX10_unpack_85 ?_
    refine sm_bipush (pc := 86) dX10_unpack_86 (v := 100) (by decide) ?_
    refine sm_idivc (pc := 88) dX10_unpack_88 (by decide) ?_
    refine sm_imul (pc := 89) dX10_unpack_89 ?_
    refine sm_iadd (pc := 90) dX10_unpack_90 ?_
    refine sm_puti (pc := 91) dX10_unpack_91 fi_X10_216 ?_
    refine sm_nmM (fun μ10 => ?_)
    refine sm_aload_n (pc := 94) dX10_unpack_94 rfl 1 rfl ?_
    refine sm_dup (pc := 95) dX10_unpack_95 rfl ?_
    refine sm_geti (pc := 96) dX10_unpack_96 fi_X10_219 ?_
    refine sm_iload_n (pc := 99) dX10_unpack_99 rfl 0 rfl ?_
    refine sm_aload_n (pc := 100) dX10_unpack_100 rfl 1 rfl ?_
    refine sm_getr (pc := 101) dX10_unpack_101 fi_X10_9 ?_
    refine sm_bipush (pc := 104) dX10_unpack_104 (v := 12) (by decide) ?_
    refine sm_iload_n (pc := 106) dX10_unpack_106 rfl 3 rfl ?_
    refine sm_iadd (pc := 107) dX10_unpack_107 ?_
    refine sm_iald (pc := 108) dX10_unpack_108 ly_160 (by decide) (fun j11 hj11 => ?_)
    refine sm_imul (pc := 109) dX10_unpack_109 ?_
    refine sm_iadd (pc := 110) dX10_unpack_110 ?_
    refine sm_puti (pc := 111) dX10_unpack_111 fi_X10_219 ?_
    refine sm_nmM (fun μ12 => ?_)
    refine sm_iinc (pc := 114) (v := (x2 + (1 : Int32))) (lv' := [(2, .int (x2 + (1 : Int32))), (3, .int y4), (0, .ref (am_ad G 10 0)), (1, .int x1)]) dX10_unpack_114 3 rfl rfl (by decide) rfl ?_
    refine sm_goto (pc := 117) (tgt := 17) dX10_unpack_117 (by decide) ?_
    refine sm_sub [2, 3, 0] rfl ?_
    exact H_17 x1 (x2 + (1 : Int32)) μ12
theorem p_X10_unpack_17_lp (G : am_G) (l : Launch) (d : Nat) (hd0 : 0 ≤ d) (N : Nat) : ∀ (n : Nat) (x1 : Int32) (x2 : Int32) (μ : am_M), sm_P G l am_cu d me_X10_unpack 17 [(0, .ref (am_ad G 10 0)), (1, .int x1), (2, .int x2)] [] μ (f_X10_unpack_17_lp N n x1 x2 μ) := by
  intro n
  induction n with
  | zero => intros; exact sm_none
  | succ n ih => exact fun x1 x2 μ => p_X10_unpack_17 G l d hd0 N (f_X10_unpack_17_lp N n) ih x1 x2 μ
set_option maxHeartbeats 4000000 in
set_option maxRecDepth 100000 in
theorem p_X10_unpack_0 (G : am_G) (l : Launch) (d : Nat) (hd0 : 0 ≤ d) (N : Nat) (a1 : Int32) (μ : am_M) : sm_P G l am_cu d me_X10_unpack 0 [(0, .ref (am_ad G 10 0)), (1, .int a1)] [] μ (f_X10_unpack_0 N a1 μ) := by
  unfold f_X10_unpack_0
  refine sm_aload_n (pc := 0) dX10_unpack_0 rfl 0 rfl ?_
  refine sm_iconst (pc := 1) dX10_unpack_1 (v := 0) (by decide) ?_
  refine sm_puti (pc := 2) dX10_unpack_2 fi_X10_213 ?_
  refine sm_nmM (fun μ1 => ?_)
  refine sm_aload_n (pc := 5) dX10_unpack_5 rfl 0 rfl ?_
  refine sm_iconst (pc := 6) dX10_unpack_6 (v := 0) (by decide) ?_
  refine sm_puti (pc := 7) dX10_unpack_7 fi_X10_216 ?_
  refine sm_nmM (fun μ2 => ?_)
  refine sm_aload_n (pc := 10) dX10_unpack_10 rfl 0 rfl ?_
  refine sm_iconst (pc := 11) dX10_unpack_11 (v := 0) (by decide) ?_
  refine sm_puti (pc := 12) dX10_unpack_12 fi_X10_219 ?_
  refine sm_nmM (fun μ3 => ?_)
  refine sm_iconst (pc := 15) dX10_unpack_15 (v := 0) (by decide) ?_
  refine sm_istore_n (pc := 16) (lv' := [(2, .int (0 : Int32)), (0, .ref (am_ad G 10 0)), (1, .int a1)]) dX10_unpack_16 rfl (by decide) rfl ?_
  refine sm_sub [1, 2, 0] rfl ?_
  exact p_X10_unpack_17_lp G l d hd0 N N a1 (0 : Int32) μ3
theorem c_X10_unpack (G : am_G) (l : Launch) (N : Nat) (a1 : Int32) (μ : am_M) : ct_P G l am_cu 0 me_X10_unpack [.ref (am_ad G 10 0), .int a1] μ (f_X10_unpack N a1 μ) := ct_of (by decide +kernel) (Nat.le_of_ble_eq_true rfl) rfl (p_X10_unpack_0 G l 0 (Nat.le_refl _) N a1 μ)

def f_X10_findBest_145 (N : Nat) (r_11 : Int32 → Int32 → Int32 → Int32 → am_M → Option (Int32 × am_M)) (x2 : Int32) (x3 : Int32) (x4 : Int32) (x5 : Int32) (μ : am_M) : Option (Int32 × am_M) :=
r_11 x2 x3 x4 (x5 + (1 : Int32)) μ
def f_X10_findBest_110 (N : Nat) (r_11 : Int32 → Int32 → Int32 → Int32 → am_M → Option (Int32 × am_M)) (x2 : Int32) (x3 : Int32) (x4 : Int32) (x5 : Int32) (s0 : Int32) (μ : am_M) : Option (Int32 × am_M) :=
if s0 = 0 then (f_X10_findBest_145 N r_11 x2 x3 x4 x5 μ) else (am_nm (am_ui μ 10 0 30 (μ.1 10 0 26)) (fun μ6 => am_nm (am_ui μ6 10 0 31 (μ6.1 10 0 27)) (fun μ7 => am_nm (am_ui μ7 10 0 32 (μ7.1 10 0 28)) (fun μ8 => f_X10_findBest_145 N r_11 x2 x3 x5 x5 μ8))))
def f_X10_findBest_105 (N : Nat) (r_11 : Int32 → Int32 → Int32 → Int32 → am_M → Option (Int32 × am_M)) (x2 : Int32) (x3 : Int32) (x4 : Int32) (x5 : Int32) (μ : am_M) : Option (Int32 × am_M) :=
f_X10_findBest_110 N r_11 x2 x3 x4 x5 (1 : Int32) μ
def f_X10_findBest_109 (N : Nat) (r_11 : Int32 → Int32 → Int32 → Int32 → am_M → Option (Int32 × am_M)) (x2 : Int32) (x3 : Int32) (x4 : Int32) (x5 : Int32) (μ : am_M) : Option (Int32 × am_M) :=
f_X10_findBest_110 N r_11 x2 x3 x4 x5 (0 : Int32) μ
def f_X10_findBest_11 (N : Nat) (r_11 : Int32 → Int32 → Int32 → Int32 → am_M → Option (Int32 × am_M)) (x2 : Int32) (x3 : Int32) (x4 : Int32) (x5 : Int32) (μ : am_M) : Option (Int32 × am_M) :=
am_bd (f_X10_baskets N μ) (fun y3 μ2 => if y3 ≤ x5 then (am_bd (f_X10_unpack N x4 μ2) (fun _ μ4 => some (x4, μ4))) else (am_bd (f_X10_unpack N x5 μ2) (fun _ μ5 => if x2 < (μ5.1 10 0 27) then (f_X10_findBest_145 N r_11 x2 x3 x4 x5 μ5) else (if (μ5.1 10 0 28) ≤ x3 then (if x4 < 0 then (f_X10_findBest_105 N r_11 x2 x3 x4 x5 μ5) else (if (μ5.1 10 0 30) < (μ5.1 10 0 26) then (f_X10_findBest_105 N r_11 x2 x3 x4 x5 μ5) else (if (μ5.1 10 0 26) = (μ5.1 10 0 30) then (if (μ5.1 10 0 27) < (μ5.1 10 0 31) then (f_X10_findBest_105 N r_11 x2 x3 x4 x5 μ5) else (if (μ5.1 10 0 27) = (μ5.1 10 0 31) then (if (μ5.1 10 0 32) ≤ (μ5.1 10 0 28) then (f_X10_findBest_109 N r_11 x2 x3 x4 x5 μ5) else (f_X10_findBest_105 N r_11 x2 x3 x4 x5 μ5)) else (f_X10_findBest_109 N r_11 x2 x3 x4 x5 μ5))) else (f_X10_findBest_109 N r_11 x2 x3 x4 x5 μ5)))) else (f_X10_findBest_145 N r_11 x2 x3 x4 x5 μ5)))))
def f_X10_findBest_11_lp (N : Nat) : Nat → Int32 → Int32 → Int32 → Int32 → am_M → Option (Int32 × am_M)
  | 0, _, _, _, _, _ => none
  | n + 1, x2, x3, x4, x5, μ => f_X10_findBest_11 N (f_X10_findBest_11_lp N n) x2 x3 x4 x5 μ
def f_X10_findBest_0 (N : Nat) (a1 : Int32) (a2 : Int32) (a3 : Int32) (μ : am_M) : Option (Int32 × am_M) :=
am_bd (f_X10_layWorths N a1 μ) (fun _ μ1 => f_X10_findBest_11_lp N N a2 a3 (-1 : Int32) (0 : Int32) μ1)
def f_X10_findBest (N : Nat) (a1 : Int32) (a2 : Int32) (a3 : Int32) (μ : am_M) : Option (Int32 × am_M) := f_X10_findBest_0 N a1 a2 a3 μ
set_option maxHeartbeats 4000000 in
set_option maxRecDepth 100000 in
theorem p_X10_findBest_145 (G : am_G) (l : Launch) (d : Nat) (hd0 : 106 ≤ d) (N : Nat) (r_11 : Int32 → Int32 → Int32 → Int32 → am_M → Option (Int32 × am_M)) (H_11 : ∀ (x2 : Int32) (x3 : Int32) (x4 : Int32) (x5 : Int32) (μ : am_M), sm_P G l am_ci d me_X10_findBest 11 [(0, .ref (am_ad G 10 0)), (2, .int x2), (3, .int x3), (4, .int x4), (5, .int x5)] [] μ (r_11 x2 x3 x4 x5 μ)) (x2 : Int32) (x3 : Int32) (x4 : Int32) (x5 : Int32) (μ : am_M) : sm_P G l am_ci d me_X10_findBest 145 [(0, .ref (am_ad G 10 0)), (2, .int x2), (3, .int x3), (4, .int x4), (5, .int x5)] [] μ (f_X10_findBest_145 N r_11 x2 x3 x4 x5 μ) := by
  unfold f_X10_findBest_145
  refine sm_iinc (pc := 145) (v := (x5 + (1 : Int32))) (lv' := [(5, .int (x5 + (1 : Int32))), (0, .ref (am_ad G 10 0)), (2, .int x2), (3, .int x3), (4, .int x4)]) dX10_findBest_145 4 rfl rfl (by decide) rfl ?_
  refine sm_goto (pc := 148) (tgt := 11) dX10_findBest_148 (by decide) ?_
  refine sm_sub [1, 2, 3, 4, 0] rfl ?_
  exact H_11 x2 x3 x4 (x5 + (1 : Int32)) μ
set_option maxHeartbeats 4000000 in
set_option maxRecDepth 100000 in
theorem p_X10_findBest_110 (G : am_G) (l : Launch) (d : Nat) (hd0 : 106 ≤ d) (N : Nat) (r_11 : Int32 → Int32 → Int32 → Int32 → am_M → Option (Int32 × am_M)) (H_11 : ∀ (x2 : Int32) (x3 : Int32) (x4 : Int32) (x5 : Int32) (μ : am_M), sm_P G l am_ci d me_X10_findBest 11 [(0, .ref (am_ad G 10 0)), (2, .int x2), (3, .int x3), (4, .int x4), (5, .int x5)] [] μ (r_11 x2 x3 x4 x5 μ)) (x2 : Int32) (x3 : Int32) (x4 : Int32) (x5 : Int32) (s0 : Int32) (μ : am_M) : sm_P G l am_ci d me_X10_findBest 110 [(0, .ref (am_ad G 10 0)), (2, .int x2), (3, .int x3), (4, .int x4), (5, .int x5)] [.int s0] μ (f_X10_findBest_110 N r_11 x2 x3 x4 x5 s0 μ) := by
  unfold f_X10_findBest_110
  refine sm_istore (pc := 110) (lv' := [(6, .int s0), (0, .ref (am_ad G 10 0)), (2, .int x2), (3, .int x3), (4, .int x4), (5, .int x5)]) dX10_findBest_110 (by decide) rfl ?_
  refine sm_iload (pc := 112) dX10_findBest_112 0 rfl ?_
  refine sm_if_eq (pc := 114) (tgt := 145) dX10_findBest_114 (by decide) ?_ ?_
  · refine sm_sub [1, 2, 3, 4, 5] rfl ?_
    exact p_X10_findBest_145 G l d hd0 N r_11 H_11 x2 x3 x4 x5 μ
  · refine sm_iload (pc := 117) dX10_findBest_117 5 rfl ?_
    refine sm_istore (pc := 119) (lv' := [(4, .int x5), (6, .int s0), (0, .ref (am_ad G 10 0)), (2, .int x2), (3, .int x3), (5, .int x5)]) dX10_findBest_119 (by decide) rfl ?_
    refine sm_aload_n (pc := 121) dX10_findBest_121 rfl 2 rfl ?_
    refine sm_aload_n (pc := 122) dX10_findBest_122 rfl 2 rfl ?_
    refine sm_geti (pc := 123) dX10_findBest_123 fi_X10_213 ?_
    refine sm_puti (pc := 126) dX10_findBest_126 fi_X10_232 ?_
    refine sm_nmM (fun μ6 => ?_)
    refine sm_aload_n (pc := 129) dX10_findBest_129 rfl 2 rfl ?_
    refine sm_aload_n (pc := 130) dX10_findBest_130 rfl 2 rfl ?_
    refine sm_geti (pc := 131) dX10_findBest_131 fi_X10_216 ?_
    refine sm_puti (pc := 134) dX10_findBest_134 fi_X10_235 ?_
    refine sm_nmM (fun μ7 => ?_)
    refine sm_aload_n (pc := 137) dX10_findBest_137 rfl 2 rfl ?_
    refine sm_aload_n (pc := 138) dX10_findBest_138 rfl 2 rfl ?_
    refine sm_geti (pc := 139) dX10_findBest_139 fi_X10_219 ?_
    refine sm_puti (pc := 142) dX10_findBest_142 fi_X10_238 ?_
    refine sm_nmM (fun μ8 => ?_)
    refine sm_sub [2, 3, 4, 0, 5] rfl ?_
    exact p_X10_findBest_145 G l d hd0 N r_11 H_11 x2 x3 x5 x5 μ8
set_option maxHeartbeats 4000000 in
set_option maxRecDepth 100000 in
theorem p_X10_findBest_105 (G : am_G) (l : Launch) (d : Nat) (hd0 : 106 ≤ d) (N : Nat) (r_11 : Int32 → Int32 → Int32 → Int32 → am_M → Option (Int32 × am_M)) (H_11 : ∀ (x2 : Int32) (x3 : Int32) (x4 : Int32) (x5 : Int32) (μ : am_M), sm_P G l am_ci d me_X10_findBest 11 [(0, .ref (am_ad G 10 0)), (2, .int x2), (3, .int x3), (4, .int x4), (5, .int x5)] [] μ (r_11 x2 x3 x4 x5 μ)) (x2 : Int32) (x3 : Int32) (x4 : Int32) (x5 : Int32) (μ : am_M) : sm_P G l am_ci d me_X10_findBest 105 [(0, .ref (am_ad G 10 0)), (2, .int x2), (3, .int x3), (4, .int x4), (5, .int x5)] [] μ (f_X10_findBest_105 N r_11 x2 x3 x4 x5 μ) := by
  unfold f_X10_findBest_105
  refine sm_iconst (pc := 105) dX10_findBest_105 (v := 1) (by decide) ?_
  refine sm_goto (pc := 106) (tgt := 110) dX10_findBest_106 (by decide) ?_
  exact p_X10_findBest_110 G l d hd0 N r_11 H_11 x2 x3 x4 x5 (1 : Int32) μ
set_option maxHeartbeats 4000000 in
set_option maxRecDepth 100000 in
theorem p_X10_findBest_109 (G : am_G) (l : Launch) (d : Nat) (hd0 : 106 ≤ d) (N : Nat) (r_11 : Int32 → Int32 → Int32 → Int32 → am_M → Option (Int32 × am_M)) (H_11 : ∀ (x2 : Int32) (x3 : Int32) (x4 : Int32) (x5 : Int32) (μ : am_M), sm_P G l am_ci d me_X10_findBest 11 [(0, .ref (am_ad G 10 0)), (2, .int x2), (3, .int x3), (4, .int x4), (5, .int x5)] [] μ (r_11 x2 x3 x4 x5 μ)) (x2 : Int32) (x3 : Int32) (x4 : Int32) (x5 : Int32) (μ : am_M) : sm_P G l am_ci d me_X10_findBest 109 [(0, .ref (am_ad G 10 0)), (2, .int x2), (3, .int x3), (4, .int x4), (5, .int x5)] [] μ (f_X10_findBest_109 N r_11 x2 x3 x4 x5 μ) := by
  unfold f_X10_findBest_109
  refine sm_iconst (pc := 109) dX10_findBest_109 (v := 0) (by decide) ?_
  exact p_X10_findBest_110 G l d hd0 N r_11 H_11 x2 x3 x4 x5 (0 : Int32) μ
set_option maxHeartbeats 4000000 in
set_option maxRecDepth 100000 in
theorem p_X10_findBest_11 (G : am_G) (l : Launch) (d : Nat) (hd0 : 106 ≤ d) (N : Nat) (r_11 : Int32 → Int32 → Int32 → Int32 → am_M → Option (Int32 × am_M)) (H_11 : ∀ (x2 : Int32) (x3 : Int32) (x4 : Int32) (x5 : Int32) (μ : am_M), sm_P G l am_ci d me_X10_findBest 11 [(0, .ref (am_ad G 10 0)), (2, .int x2), (3, .int x3), (4, .int x4), (5, .int x5)] [] μ (r_11 x2 x3 x4 x5 μ)) (x2 : Int32) (x3 : Int32) (x4 : Int32) (x5 : Int32) (μ : am_M) : sm_P G l am_ci d me_X10_findBest 11 [(0, .ref (am_ad G 10 0)), (2, .int x2), (3, .int x3), (4, .int x4), (5, .int x5)] [] μ (f_X10_findBest_11 N r_11 x2 x3 x4 x5 μ) := by
  unfold f_X10_findBest_11
  refine sm_iload (pc := 11) dX10_findBest_11 4 rfl ?_
  refine sm_aload_n (pc := 13) dX10_findBest_13 rfl 0 rfl ?_
  refine sm_callVi (pc := 14) (As := []) (rest := [.int x5]) dX10_findBest_14 (c_X10_baskets G l N μ) (by omega) wl_X10_226 vm_X10_baskets rfl rfl (Nat.le_of_ble_eq_true rfl) (fun y3 μ2 => ?_)
  refine sm_icmp_ge (pc := 17) (tgt := 151) dX10_findBest_17 (by decide) ?_ ?_
  · refine sm_aload_n (pc := 151) dX10_findBest_151 rfl 0 rfl ?_
    refine sm_iload (pc := 152) dX10_findBest_152 3 rfl ?_
    refine sm_callVv (pc := 154) (As := [.int x4]) (rest := []) dX10_findBest_154 (c_X10_unpack G l N x4 μ2) (by omega) wl_X10_229 vm_X10_unpack rfl rfl (Nat.le_of_ble_eq_true rfl) (fun _ μ4 => ?_)
    refine sm_iload (pc := 157) dX10_findBest_157 3 rfl ?_
    exact sm_iret (pc := 159) dX10_findBest_159 rfl
  · refine sm_aload_n (pc := 20) dX10_findBest_20 rfl 0 rfl ?_
    refine sm_iload (pc := 21) dX10_findBest_21 4 rfl ?_
    refine sm_callVv (pc := 23) (As := [.int x5]) (rest := []) dX10_findBest_23 (c_X10_unpack G l N x5 μ2) (by omega) wl_X10_229 vm_X10_unpack rfl rfl (Nat.le_of_ble_eq_true rfl) (fun _ μ5 => ?_)
    refine sm_aload_n (pc := 26) dX10_findBest_26 rfl 0 rfl ?_
    refine sm_geti (pc := 27) dX10_findBest_27 fi_X10_216 ?_
    refine sm_iload_n (pc := 30) dX10_findBest_30 rfl 1 rfl ?_
    refine sm_icmp_gt (pc := 31) (tgt := 145) dX10_findBest_31 (by decide) ?_ ?_
    · exact p_X10_findBest_145 G l d hd0 N r_11 H_11 x2 x3 x4 x5 μ5
    · refine sm_aload_n (pc := 34) dX10_findBest_34 rfl 0 rfl ?_
      refine sm_geti (pc := 35) dX10_findBest_35 fi_X10_219 ?_
      refine sm_iload_n (pc := 38) dX10_findBest_38 rfl 2 rfl ?_
      refine sm_icmp_le (pc := 39) (tgt := 45) dX10_findBest_39 (by decide) ?_ ?_
      · refine sm_iload (pc := 45) dX10_findBest_45 3 rfl ?_
        refine sm_if_lt (pc := 47) (tgt := 105) dX10_findBest_47 (by decide) ?_ ?_
        · exact p_X10_findBest_105 G l d hd0 N r_11 H_11 x2 x3 x4 x5 μ5
        · refine sm_aload_n (pc := 50) dX10_findBest_50 rfl 0 rfl ?_
          refine sm_geti (pc := 51) dX10_findBest_51 fi_X10_213 ?_
          refine sm_aload_n (pc := 54) dX10_findBest_54 rfl 0 rfl ?_
          refine sm_geti (pc := 55) dX10_findBest_55 fi_X10_232 ?_
          refine sm_icmp_gt (pc := 58) (tgt := 105) dX10_findBest_58 (by decide) ?_ ?_
          · exact p_X10_findBest_105 G l d hd0 N r_11 H_11 x2 x3 x4 x5 μ5
          · refine sm_aload_n (pc := 61) dX10_findBest_61 rfl 0 rfl ?_
            refine sm_geti (pc := 62) dX10_findBest_62 fi_X10_213 ?_
            refine sm_aload_n (pc := 65) dX10_findBest_65 rfl 0 rfl ?_
            refine sm_geti (pc := 66) dX10_findBest_66 fi_X10_232 ?_
            refine sm_icmp_ne (pc := 69) (tgt := 109) dX10_findBest_69 (by decide) ?_ ?_
            · exact p_X10_findBest_109 G l d hd0 N r_11 H_11 x2 x3 x4 x5 μ5
            · refine sm_aload_n (pc := 72) dX10_findBest_72 rfl 0 rfl ?_
              refine sm_geti (pc := 73) dX10_findBest_73 fi_X10_216 ?_
              refine sm_aload_n (pc := 76) dX10_findBest_76 rfl 0 rfl ?_
              refine sm_geti (pc := 77) dX10_findBest_77 fi_X10_235 ?_
              refine sm_icmp_lt (pc := 80) (tgt := 105) dX10_findBest_80 (by decide) ?_ ?_
              · exact p_X10_findBest_105 G l d hd0 N r_11 H_11 x2 x3 x4 x5 μ5
              · refine sm_aload_n (pc := 83) dX10_findBest_83 rfl 0 rfl ?_
                refine sm_geti (pc := 84) dX10_findBest_84 fi_X10_216 ?_
                refine sm_aload_n (pc := 87) dX10_findBest_87 rfl 0 rfl ?_
                refine sm_geti (pc := 88) dX10_findBest_88 fi_X10_235 ?_
                refine sm_icmp_ne (pc := 91) (tgt := 109) dX10_findBest_91 (by decide) ?_ ?_
                · exact p_X10_findBest_109 G l d hd0 N r_11 H_11 x2 x3 x4 x5 μ5
                · refine sm_aload_n (pc := 94) dX10_findBest_94 rfl 0 rfl ?_
                  refine sm_geti (pc := 95) dX10_findBest_95 fi_X10_219 ?_
                  refine sm_aload_n (pc := 98) dX10_findBest_98 rfl 0 rfl ?_
                  refine sm_geti (pc := 99) dX10_findBest_99 fi_X10_238 ?_
                  refine sm_icmp_ge (pc := 102) (tgt := 109) dX10_findBest_102 (by decide) ?_ ?_
                  · exact p_X10_findBest_109 G l d hd0 N r_11 H_11 x2 x3 x4 x5 μ5
                  · exact p_X10_findBest_105 G l d hd0 N r_11 H_11 x2 x3 x4 x5 μ5
      · refine sm_goto (pc := 42) (tgt := 145) dX10_findBest_42 (by decide) ?_
        exact p_X10_findBest_145 G l d hd0 N r_11 H_11 x2 x3 x4 x5 μ5
theorem p_X10_findBest_11_lp (G : am_G) (l : Launch) (d : Nat) (hd0 : 106 ≤ d) (N : Nat) : ∀ (n : Nat) (x2 : Int32) (x3 : Int32) (x4 : Int32) (x5 : Int32) (μ : am_M), sm_P G l am_ci d me_X10_findBest 11 [(0, .ref (am_ad G 10 0)), (2, .int x2), (3, .int x3), (4, .int x4), (5, .int x5)] [] μ (f_X10_findBest_11_lp N n x2 x3 x4 x5 μ) := by
  intro n
  induction n with
  | zero => intros; exact sm_none
  | succ n ih => exact fun x2 x3 x4 x5 μ => p_X10_findBest_11 G l d hd0 N (f_X10_findBest_11_lp N n) ih x2 x3 x4 x5 μ
set_option maxHeartbeats 4000000 in
set_option maxRecDepth 100000 in
theorem p_X10_findBest_0 (G : am_G) (l : Launch) (d : Nat) (hd0 : 106 ≤ d) (N : Nat) (a1 : Int32) (a2 : Int32) (a3 : Int32) (μ : am_M) : sm_P G l am_ci d me_X10_findBest 0 [(0, .ref (am_ad G 10 0)), (1, .int a1), (2, .int a2), (3, .int a3)] [] μ (f_X10_findBest_0 N a1 a2 a3 μ) := by
  unfold f_X10_findBest_0
  refine sm_aload_n (pc := 0) dX10_findBest_0 rfl 0 rfl ?_
  refine sm_iload_n (pc := 1) dX10_findBest_1 rfl 1 rfl ?_
  refine sm_callVv (pc := 2) (As := [.int a1]) (rest := []) dX10_findBest_2 (c_X10_layWorths G l N a1 μ) (by omega) wl_X10_222 vm_X10_layWorths rfl rfl (Nat.le_of_ble_eq_true rfl) (fun _ μ1 => ?_)
  refine sm_iconst (pc := 5) dX10_findBest_5 (v := -1) (by decide) ?_
  refine sm_istore (pc := 6) (lv' := [(4, .int (-1 : Int32)), (0, .ref (am_ad G 10 0)), (1, .int a1), (2, .int a2), (3, .int a3)]) dX10_findBest_6 (by decide) rfl ?_
  refine sm_iconst (pc := 8) dX10_findBest_8 (v := 0) (by decide) ?_
  refine sm_istore (pc := 9) (lv' := [(5, .int (0 : Int32)), (4, .int (-1 : Int32)), (0, .ref (am_ad G 10 0)), (1, .int a1), (2, .int a2), (3, .int a3)]) dX10_findBest_9 (by decide) rfl ?_
  refine sm_sub [2, 4, 5, 1, 0] rfl ?_
  exact p_X10_findBest_11_lp G l d hd0 N N a2 a3 (-1 : Int32) (0 : Int32) μ1
theorem c_X10_findBest (G : am_G) (l : Launch) (N : Nat) (a1 : Int32) (a2 : Int32) (a3 : Int32) (μ : am_M) : ct_P G l am_ci 106 me_X10_findBest [.ref (am_ad G 10 0), .int a1, .int a2, .int a3] μ (f_X10_findBest N a1 a2 a3 μ) := ct_of (by decide +kernel) (Nat.le_of_ble_eq_true rfl) rfl (p_X10_findBest_0 G l 106 (Nat.le_refl _) N a1 a2 a3 μ)

def f_X10_bestOf_0 (N : Nat) (a1 : Int32) (μ : am_M) : Option (Int32 × am_M) :=
am_bd (f_X10_purseOf N a1 μ) (fun y2 μ1 => am_bd (f_X10_pointsInAll N a1 μ1) (fun y4 μ3 => am_bd (f_X10_findBest N a1 y2 y4 μ3) (fun y6 μ5 => some (y6, μ5))))
def f_X10_bestOf (N : Nat) (a1 : Int32) (μ : am_M) : Option (Int32 × am_M) := f_X10_bestOf_0 N a1 μ
set_option maxHeartbeats 4000000 in
set_option maxRecDepth 100000 in
theorem p_X10_bestOf_0 (G : am_G) (l : Launch) (d : Nat) (hd0 : 107 ≤ d) (N : Nat) (a1 : Int32) (μ : am_M) : sm_P G l am_ci d me_X10_bestOf 0 [(0, .ref (am_ad G 10 0)), (1, .int a1)] [] μ (f_X10_bestOf_0 N a1 μ) := by
  unfold f_X10_bestOf_0
  refine sm_aload_n (pc := 0) dX10_bestOf_0 rfl 0 rfl ?_
  refine sm_iload_n (pc := 1) dX10_bestOf_1 rfl 1 rfl ?_
  refine sm_aload_n (pc := 2) dX10_bestOf_2 rfl 0 rfl ?_
  refine sm_iload_n (pc := 3) dX10_bestOf_3 rfl 1 rfl ?_
  refine sm_callVi (pc := 4) (As := [.int a1]) (rest := [.int a1, .ref (am_ad G 10 0)]) dX10_bestOf_4 (c_X10_purseOf G l N a1 μ) (by omega) wl_X10_149 vm_X10_purseOf rfl rfl (Nat.le_of_ble_eq_true rfl) (fun y2 μ1 => ?_)
  refine sm_aload_n (pc := 7) dX10_bestOf_7 rfl 0 rfl ?_
  refine sm_iload_n (pc := 8) dX10_bestOf_8 rfl 1 rfl ?_
  refine sm_callVi (pc := 9) (As := [.int a1]) (rest := [.int y2, .int a1, .ref (am_ad G 10 0)]) dX10_bestOf_9 (c_X10_pointsInAll G l N a1 μ1) (by omega) wl_X10_153 vm_X10_pointsInAll rfl rfl (Nat.le_of_ble_eq_true rfl) (fun y4 μ3 => ?_)
  refine sm_callVi (pc := 12) (As := [.int a1, .int y2, .int y4]) (rest := []) dX10_bestOf_12 (c_X10_findBest G l N a1 y2 y4 μ3) (by omega) wl_X10_241 vm_X10_findBest rfl rfl (Nat.le_of_ble_eq_true rfl) (fun y6 μ5 => ?_)
  exact sm_iret (pc := 15) dX10_bestOf_15 rfl
theorem c_X10_bestOf (G : am_G) (l : Launch) (N : Nat) (a1 : Int32) (μ : am_M) : ct_P G l am_ci 107 me_X10_bestOf [.ref (am_ad G 10 0), .int a1] μ (f_X10_bestOf N a1 μ) := ct_of (by decide +kernel) (Nat.le_of_ble_eq_true rfl) rfl (p_X10_bestOf_0 G l 107 (Nat.le_refl _) N a1 μ)

def f_X10_digitsNow_4 (N : Nat) (r_4 : Int32 → Int32 → am_M → Option (Int32 × am_M)) (x1 : Int32) (x2 : Int32) (μ : am_M) : Option (Int32 × am_M) :=
if (μ.1 10 0 6) ≤ x2 then (some (x1, μ)) else (am_gd x2 6 (fun j1 => am_nm (((10 : Int32) * x1) + (μ.1 185 0 j1)) (fun y2 => r_4 y2 (x2 + (1 : Int32)) μ)))
def f_X10_digitsNow_4_lp (N : Nat) : Nat → Int32 → Int32 → am_M → Option (Int32 × am_M)
  | 0, _, _, _ => none
  | n + 1, x1, x2, μ => f_X10_digitsNow_4 N (f_X10_digitsNow_4_lp N n) x1 x2 μ
def f_X10_digitsNow_0 (N : Nat) (μ : am_M) : Option (Int32 × am_M) :=
f_X10_digitsNow_4_lp N N (0 : Int32) (0 : Int32) μ
def f_X10_digitsNow (N : Nat) (μ : am_M) : Option (Int32 × am_M) := f_X10_digitsNow_0 N μ
set_option maxHeartbeats 4000000 in
set_option maxRecDepth 100000 in
theorem p_X10_digitsNow_4 (G : am_G) (l : Launch) (d : Nat) (hd0 : 0 ≤ d) (N : Nat) (r_4 : Int32 → Int32 → am_M → Option (Int32 × am_M)) (H_4 : ∀ (x1 : Int32) (x2 : Int32) (μ : am_M), sm_P G l am_ci d me_X10_digitsNow 4 [(0, .ref (am_ad G 10 0)), (1, .int x1), (2, .int x2)] [] μ (r_4 x1 x2 μ)) (x1 : Int32) (x2 : Int32) (μ : am_M) : sm_P G l am_ci d me_X10_digitsNow 4 [(0, .ref (am_ad G 10 0)), (1, .int x1), (2, .int x2)] [] μ (f_X10_digitsNow_4 N r_4 x1 x2 μ) := by
  unfold f_X10_digitsNow_4
  refine sm_iload_n (pc := 4) dX10_digitsNow_4 rfl 2 rfl ?_
  refine sm_aload_n (pc := 5) dX10_digitsNow_5 rfl 0 rfl ?_
  refine sm_geti (pc := 6) dX10_digitsNow_6 fi_X10_102 ?_
  refine sm_icmp_ge (pc := 9) (tgt := 30) dX10_digitsNow_9 (by decide) ?_ ?_
  · refine sm_iload_n (pc := 30) dX10_digitsNow_30 rfl 1 rfl ?_
    exact sm_iret (pc := 31) dX10_digitsNow_31 rfl
  · refine sm_bipush (pc := 12) dX10_digitsNow_12 (v := 10) (by decide) ?_
    refine sm_iload_n (pc := 14) dX10_digitsNow_14 rfl 1 rfl ?_
    refine sm_imul (pc := 15) dX10_digitsNow_15 ?_
    refine sm_aload_n (pc := 16) dX10_digitsNow_16 rfl 0 rfl ?_
    refine sm_getr (pc := 17) dX10_digitsNow_17 fi_X10_52 ?_
    refine sm_iload_n (pc := 20) dX10_digitsNow_20 rfl 2 rfl ?_
    refine sm_iald (pc := 21) dX10_digitsNow_21 ly_185 (by decide) (fun j1 hj1 => ?_)
    refine sm_iadd (pc := 22) dX10_digitsNow_22 ?_
    refine sm_nmI (fun y2 => ?_)
    refine sm_istore_n (pc := 23) (lv' := [(1, .int y2), (0, .ref (am_ad G 10 0)), (2, .int x2)]) dX10_digitsNow_23 rfl (by decide) rfl ?_
    refine sm_iinc (pc := 24) (v := (x2 + (1 : Int32))) (lv' := [(2, .int (x2 + (1 : Int32))), (1, .int y2), (0, .ref (am_ad G 10 0))]) dX10_digitsNow_24 2 rfl rfl (by decide) rfl ?_
    refine sm_goto (pc := 27) (tgt := 4) dX10_digitsNow_27 (by decide) ?_
    refine sm_sub [2, 1, 0] rfl ?_
    exact H_4 y2 (x2 + (1 : Int32)) μ
theorem p_X10_digitsNow_4_lp (G : am_G) (l : Launch) (d : Nat) (hd0 : 0 ≤ d) (N : Nat) : ∀ (n : Nat) (x1 : Int32) (x2 : Int32) (μ : am_M), sm_P G l am_ci d me_X10_digitsNow 4 [(0, .ref (am_ad G 10 0)), (1, .int x1), (2, .int x2)] [] μ (f_X10_digitsNow_4_lp N n x1 x2 μ) := by
  intro n
  induction n with
  | zero => intros; exact sm_none
  | succ n ih => exact fun x1 x2 μ => p_X10_digitsNow_4 G l d hd0 N (f_X10_digitsNow_4_lp N n) ih x1 x2 μ
set_option maxHeartbeats 4000000 in
set_option maxRecDepth 100000 in
theorem p_X10_digitsNow_0 (G : am_G) (l : Launch) (d : Nat) (hd0 : 0 ≤ d) (N : Nat) (μ : am_M) : sm_P G l am_ci d me_X10_digitsNow 0 [(0, .ref (am_ad G 10 0))] [] μ (f_X10_digitsNow_0 N μ) := by
  unfold f_X10_digitsNow_0
  refine sm_iconst (pc := 0) dX10_digitsNow_0 (v := 0) (by decide) ?_
  refine sm_istore_n (pc := 1) (lv' := [(1, .int (0 : Int32)), (0, .ref (am_ad G 10 0))]) dX10_digitsNow_1 rfl (by decide) rfl ?_
  refine sm_iconst (pc := 2) dX10_digitsNow_2 (v := 0) (by decide) ?_
  refine sm_istore_n (pc := 3) (lv' := [(2, .int (0 : Int32)), (1, .int (0 : Int32)), (0, .ref (am_ad G 10 0))]) dX10_digitsNow_3 rfl (by decide) rfl ?_
  refine sm_sub [2, 1, 0] rfl ?_
  exact p_X10_digitsNow_4_lp G l d hd0 N N (0 : Int32) (0 : Int32) μ
theorem c_X10_digitsNow (G : am_G) (l : Launch) (N : Nat) (μ : am_M) : ct_P G l am_ci 0 me_X10_digitsNow [.ref (am_ad G 10 0)] μ (f_X10_digitsNow N μ) := ct_of (by decide +kernel) (Nat.le_of_ble_eq_true rfl) rfl (p_X10_digitsNow_0 G l 0 (Nat.le_refl _) N μ)

def f_X10_basket_0 (N : Nat) (a1 : Int32) (a2 : Int32) (μ : am_M) : Option (Int32 × am_M) :=
am_bd (f_X10_isSort N a1 μ) (fun y2 μ1 => if y2 = 0 then (some ((-1 : Int32), μ1)) else (am_bd (f_X10_within N a2.toInt64 (0 : Int64) (3 : Int64) μ1) (fun y4 μ3 => if y4 = 0 then (some ((-1 : Int32), μ3)) else (am_bd (f_X10_bestOf N a1 μ3) (fun y6 μ5 => if a2 = 0 then (am_bd (f_X10_digitsNow N μ5) (fun y8 μ7 => some (y8, μ7))) else (if a2 = (1 : Int32) then (some ((μ5.1 10 0 30), μ5)) else (if a2 = (2 : Int32) then (some ((μ5.1 10 0 31), μ5)) else (some ((μ5.1 10 0 32), μ5)))))))))
def f_X10_basket (N : Nat) (a1 : Int32) (a2 : Int32) (μ : am_M) : Option (Int32 × am_M) := f_X10_basket_0 N a1 a2 μ
set_option maxHeartbeats 4000000 in
set_option maxRecDepth 100000 in
theorem p_X10_basket_0 (G : am_G) (l : Launch) (d : Nat) (hd0 : 108 ≤ d) (N : Nat) (a1 : Int32) (a2 : Int32) (μ : am_M) : sm_P G l am_ci d me_X10_basket 0 [(0, .ref (am_ad G 10 0)), (1, .int a1), (2, .int a2)] [] μ (f_X10_basket_0 N a1 a2 μ) := by
  unfold f_X10_basket_0
  refine sm_aload_n (pc := 0) dX10_basket_0 rfl 0 rfl ?_
  refine sm_iload_n (pc := 1) dX10_basket_1 rfl 1 rfl ?_
  refine sm_callVi (pc := 2) (As := [.int a1]) (rest := []) dX10_basket_2 (c_X10_isSort G l N a1 μ) (by omega) wl_X10_144 vm_X10_isSort rfl rfl (Nat.le_of_ble_eq_true rfl) (fun y2 μ1 => ?_)
  refine sm_if_eq (pc := 5) (tgt := 20) dX10_basket_5 (by decide) ?_ ?_
  · refine sm_iconst (pc := 20) dX10_basket_20 (v := -1) (by decide) ?_
    exact sm_iret (pc := 21) dX10_basket_21 rfl
  · refine sm_iload_n (pc := 8) dX10_basket_8 rfl 2 rfl ?_
    refine sm_i2l (pc := 9) dX10_basket_9 ?_
    refine sm_lconst (pc := 10) dX10_basket_10 (v := 0) (by decide) ?_
    refine sm_ldc2 (pc := 11) dX10_basket_11 (v := 3) wk_X10_147 ?_
    refine sm_callSi (pc := 14) (As := [.long a2.toInt64, .long (0 : Int64), .long (3 : Int64)]) (rest := []) dX10_basket_14 (c_X10_within G l N a2.toInt64 (0 : Int64) (3 : Int64) μ1) (by omega) wl_X10_105 st_X10_within rfl rfl (Nat.le_of_ble_eq_true rfl) (fun y4 μ3 => ?_)
    refine sm_if_ne (pc := 17) (tgt := 22) dX10_basket_17 (by decide) ?_ ?_
    · refine sm_aload_n (pc := 22) dX10_basket_22 rfl 0 rfl ?_
      refine sm_iload_n (pc := 23) dX10_basket_23 rfl 1 rfl ?_
      refine sm_callVi (pc := 24) (As := [.int a1]) (rest := []) dX10_basket_24 (c_X10_bestOf G l N a1 μ3) (by omega) wl_X10_244 vm_X10_bestOf rfl rfl (Nat.le_of_ble_eq_true rfl) (fun y6 μ5 => ?_)
      refine sm_istore_n (pc := 27) (lv' := [(3, .int y6), (0, .ref (am_ad G 10 0)), (1, .int a1), (2, .int a2)]) dX10_basket_27 rfl (by decide) rfl ?_
      refine sm_iload_n (pc := 28) dX10_basket_28 rfl 3 rfl ?_
      refine sm_if_ne (pc := 29) (tgt := 39) dX10_basket_29 (by decide) ?_ ?_
      · refine sm_iload_n (pc := 39) dX10_basket_39 rfl 3 rfl ?_
        refine sm_iconst (pc := 40) dX10_basket_40 (v := 1) (by decide) ?_
        refine sm_icmp_ne (pc := 41) (tgt := 51) dX10_basket_41 (by decide) ?_ ?_
        · refine sm_iload_n (pc := 51) dX10_basket_51 rfl 3 rfl ?_
          refine sm_iconst (pc := 52) dX10_basket_52 (v := 2) (by decide) ?_
          refine sm_icmp_ne (pc := 53) (tgt := 63) dX10_basket_53 (by decide) ?_ ?_
          · refine sm_aload_n (pc := 63) dX10_basket_63 rfl 1 rfl ?_
            refine sm_geti (pc := 64) dX10_basket_64 fi_X10_238 ?_
            exact sm_iret (pc := 67) dX10_basket_67 rfl
          · refine sm_aload_n (pc := 56) dX10_basket_56 rfl 1 rfl ?_
            refine sm_geti (pc := 57) dX10_basket_57 fi_X10_235 ?_
            refine sm_goto (pc := 60) (tgt := 67) dX10_basket_60 (by decide) ?_
            exact sm_iret (pc := 67) dX10_basket_67 rfl
        · refine sm_aload_n (pc := 44) dX10_basket_44 rfl 1 rfl ?_
          refine sm_geti (pc := 45) dX10_basket_45 fi_X10_232 ?_
          refine sm_goto (pc := 48) (tgt := 67) dX10_basket_48 (by decide) ?_
          exact sm_iret (pc := 67) dX10_basket_67 rfl
      · refine sm_aload_n (pc := 32) dX10_basket_32 rfl 1 rfl ?_
        refine sm_callVi (pc := 33) (As := []) (rest := []) dX10_basket_33 (c_X10_digitsNow G l N μ5) (by omega) wl_X10_247 vm_X10_digitsNow rfl rfl (Nat.le_of_ble_eq_true rfl) (fun y8 μ7 => ?_)
        refine sm_goto (pc := 36) (tgt := 67) dX10_basket_36 (by decide) ?_
        exact sm_iret (pc := 67) dX10_basket_67 rfl
    · refine sm_iconst (pc := 20) dX10_basket_20 (v := -1) (by decide) ?_
      exact sm_iret (pc := 21) dX10_basket_21 rfl
theorem c_X10_basket (G : am_G) (l : Launch) (N : Nat) (a1 : Int32) (a2 : Int32) (μ : am_M) : ct_P G l am_ci 108 me_X10_basket [.ref (am_ad G 10 0), .int a1, .int a2] μ (f_X10_basket N a1 a2 μ) := ct_of (by decide +kernel) (Nat.le_of_ble_eq_true rfl) rfl (p_X10_basket_0 G l 108 (Nat.le_refl _) N a1 a2 μ)

def f_X10_findWanted_41 (N : Nat) (r_25 : Int32 → am_M → Option (Unit × am_M)) (r_41 : Int32 → Int32 → am_M → Option (Unit × am_M)) (x1 : Int32) (x3 : Int32) (μ : am_M) : Option (Unit × am_M) :=
if (μ.1 10 0 6) ≤ x3 then (r_25 (x1 + (1 : Int32)) μ) else (am_gd x1 5 (fun j3 => am_gd x3 6 (fun j4 => am_gd (((6 : Int32) * x1) + x3) 30 (fun j5 => am_nm (am_ui μ 194 0 j5 ((μ.1 169 0 j3) * (μ.1 185 0 j4))) (fun μ6 => am_gd x3 6 (fun j7 => am_gd x1 5 (fun j8 => am_gd x3 6 (fun j9 => am_gd x3 6 (fun j10 => am_nm (am_ui μ6 193 0 j10 ((μ6.1 193 0 j7) + ((μ6.1 169 0 j8) * (μ6.1 185 0 j9)))) (fun μ11 => r_41 x1 (x3 + (1 : Int32)) μ11))))))))))
def f_X10_findWanted_41_lp (N : Nat) (r_25 : Int32 → am_M → Option (Unit × am_M)) : Nat → Int32 → Int32 → am_M → Option (Unit × am_M)
  | 0, _, _, _ => none
  | n + 1, x1, x3, μ => f_X10_findWanted_41 N r_25 (f_X10_findWanted_41_lp N r_25 n) x1 x3 μ
def f_X10_findWanted_25 (N : Nat) (r_25 : Int32 → am_M → Option (Unit × am_M)) (x1 : Int32) (μ : am_M) : Option (Unit × am_M) :=
if (μ.1 10 0 8) ≤ x1 then (some ((), μ)) else (am_bd (f_X10_bestOf N x1 μ) (fun y2 μ1 => f_X10_findWanted_41_lp N r_25 N x1 (0 : Int32) μ1))
def f_X10_findWanted_25_lp (N : Nat) : Nat → Int32 → am_M → Option (Unit × am_M)
  | 0, _, _ => none
  | n + 1, x1, μ => f_X10_findWanted_25 N (f_X10_findWanted_25_lp N n) x1 μ
def f_X10_findWanted_2 (N : Nat) (r_2 : Int32 → am_M → Option (Unit × am_M)) (x1 : Int32) (μ : am_M) : Option (Unit × am_M) :=
if (μ.1 10 0 6) ≤ x1 then (f_X10_findWanted_25_lp N N (0 : Int32) μ) else (am_gd x1 6 (fun j12 => am_nm (am_ui μ 193 0 j12 (0 : Int32)) (fun μ13 => r_2 (x1 + (1 : Int32)) μ13)))
def f_X10_findWanted_2_lp (N : Nat) : Nat → Int32 → am_M → Option (Unit × am_M)
  | 0, _, _ => none
  | n + 1, x1, μ => f_X10_findWanted_2 N (f_X10_findWanted_2_lp N n) x1 μ
def f_X10_findWanted_0 (N : Nat) (μ : am_M) : Option (Unit × am_M) :=
f_X10_findWanted_2_lp N N (0 : Int32) μ
def f_X10_findWanted (N : Nat) (μ : am_M) : Option (Unit × am_M) := f_X10_findWanted_0 N μ
set_option maxHeartbeats 4000000 in
set_option maxRecDepth 100000 in
theorem p_X10_findWanted_41 (G : am_G) (l : Launch) (d : Nat) (hd0 : 108 ≤ d) (N : Nat) (r_25 : Int32 → am_M → Option (Unit × am_M)) (r_41 : Int32 → Int32 → am_M → Option (Unit × am_M)) (H_25 : ∀ (x1 : Int32) (μ : am_M), sm_P G l am_cu d me_X10_findWanted 25 [(0, .ref (am_ad G 10 0)), (1, .int x1)] [] μ (r_25 x1 μ)) (H_41 : ∀ (x1 : Int32) (x3 : Int32) (μ : am_M), sm_P G l am_cu d me_X10_findWanted 41 [(0, .ref (am_ad G 10 0)), (1, .int x1), (3, .int x3)] [] μ (r_41 x1 x3 μ)) (x1 : Int32) (x3 : Int32) (μ : am_M) : sm_P G l am_cu d me_X10_findWanted 41 [(0, .ref (am_ad G 10 0)), (1, .int x1), (3, .int x3)] [] μ (f_X10_findWanted_41 N r_25 r_41 x1 x3 μ) := by
  unfold f_X10_findWanted_41
  refine sm_iload_n (pc := 41) dX10_findWanted_41 rfl 2 rfl ?_
  refine sm_aload_n (pc := 42) dX10_findWanted_42 rfl 0 rfl ?_
  refine sm_geti (pc := 43) dX10_findWanted_43 fi_X10_102 ?_
  refine sm_icmp_ge (pc := 46) (tgt := 101) dX10_findWanted_46 (by decide) ?_ ?_
  · refine sm_iinc (pc := 101) (v := (x1 + (1 : Int32))) (lv' := [(1, .int (x1 + (1 : Int32))), (0, .ref (am_ad G 10 0)), (3, .int x3)]) dX10_findWanted_101 1 rfl rfl (by decide) rfl ?_
    refine sm_goto (pc := 104) (tgt := 25) dX10_findWanted_104 (by decide) ?_
    refine sm_sub [1, 0] rfl ?_
    exact H_25 (x1 + (1 : Int32)) μ
  · refine sm_aload_n (pc := 49) dX10_findWanted_49 rfl 0 rfl ?_
    refine sm_getr (pc := 50) dX10_findWanted_50 fi_X10_62 ?_
    refine sm_bipush (pc := 53) dX10_findWanted_53 (v := 6) (by decide) ?_
    refine sm_iload_n (pc := 55) dX10_findWanted_55 rfl 1 rfl ?_
    refine sm_imul (pc := 56) dX10_findWanted_56 ?_
    refine sm_iload_n (pc := 57) dX10_findWanted_57 rfl 2 rfl ?_
    refine sm_iadd (pc := 58) dX10_findWanted_58 ?_
    refine sm_aload_n (pc := 59) dX10_findWanted_59 rfl 0 rfl ?_
    refine sm_getr (pc := 60) dX10_findWanted_60 fi_X10_25 ?_
    refine sm_iload_n (pc := 63) dX10_findWanted_63 rfl 1 rfl ?_
    refine sm_iald (pc := 64) dX10_findWanted_64 ly_169 (by decide) (fun j3 hj3 => ?_)
    refine sm_aload_n (pc := 65) dX10_findWanted_65 rfl 0 rfl ?_
    refine sm_getr (pc := 66) dX10_findWanted_66 fi_X10_52 ?_
    refine sm_iload_n (pc := 69) dX10_findWanted_69 rfl 2 rfl ?_
    refine sm_iald (pc := 70) dX10_findWanted_70 ly_185 (by decide) (fun j4 hj4 => ?_)
    refine sm_imul (pc := 71) dX10_findWanted_71 ?_
    refine sm_iast (pc := 72) dX10_findWanted_72 ly_194 (by decide) (fun j5 hj5 => ?_)
    refine sm_nmM (fun μ6 => ?_)
    refine sm_aload_n (pc := 73) dX10_findWanted_73 rfl 0 rfl ?_
    refine sm_getr (pc := 74) dX10_findWanted_74 fi_X10_59 ?_
    refine sm_iload_n (pc := 77) dX10_findWanted_77 rfl 2 rfl ?_
    refine sm_dup2 (pc := 78) dX10_findWanted_78 rfl rfl ?_
    refine sm_iald (pc := 79) dX10_findWanted_79 ly_193 (by decide) (fun j7 hj7 => ?_)
    refine sm_aload_n (pc := 80) dX10_findWanted_80 rfl 0 rfl ?_
    refine sm_getr (pc := 81) dX10_findWanted_81 fi_X10_25 ?_
    refine sm_iload_n (pc := 84) dX10_findWanted_84 rfl 1 rfl ?_
    refine sm_iald (pc := 85) dX10_findWanted_85 ly_169 (by decide) (fun j8 hj8 => ?_)
    refine sm_aload_n (pc := 86) dX10_findWanted_86 rfl 0 rfl ?_
    refine sm_getr (pc := 87) dX10_findWanted_87 fi_X10_52 ?_
    refine sm_iload_n (pc := 90) dX10_findWanted_90 rfl 2 rfl ?_
    refine sm_iald (pc := 91) dX10_findWanted_91 ly_185 (by decide) (fun j9 hj9 => ?_)
    refine sm_imul (pc := 92) dX10_findWanted_92 ?_
    refine sm_iadd (pc := 93) dX10_findWanted_93 ?_
    refine sm_iast (pc := 94) dX10_findWanted_94 ly_193 (by decide) (fun j10 hj10 => ?_)
    refine sm_nmM (fun μ11 => ?_)
    refine sm_iinc (pc := 95) (v := (x3 + (1 : Int32))) (lv' := [(3, .int (x3 + (1 : Int32))), (0, .ref (am_ad G 10 0)), (1, .int x1)]) dX10_findWanted_95 2 rfl rfl (by decide) rfl ?_
    refine sm_goto (pc := 98) (tgt := 41) dX10_findWanted_98 (by decide) ?_
    refine sm_sub [1, 2, 0] rfl ?_
    exact H_41 x1 (x3 + (1 : Int32)) μ11
theorem p_X10_findWanted_41_lp (G : am_G) (l : Launch) (d : Nat) (hd0 : 108 ≤ d) (N : Nat) (r_25 : Int32 → am_M → Option (Unit × am_M)) (H_25 : ∀ (x1 : Int32) (μ : am_M), sm_P G l am_cu d me_X10_findWanted 25 [(0, .ref (am_ad G 10 0)), (1, .int x1)] [] μ (r_25 x1 μ)) : ∀ (n : Nat) (x1 : Int32) (x3 : Int32) (μ : am_M), sm_P G l am_cu d me_X10_findWanted 41 [(0, .ref (am_ad G 10 0)), (1, .int x1), (3, .int x3)] [] μ (f_X10_findWanted_41_lp N r_25 n x1 x3 μ) := by
  intro n
  induction n with
  | zero => intros; exact sm_none
  | succ n ih => exact fun x1 x3 μ => p_X10_findWanted_41 G l d hd0 N r_25 (f_X10_findWanted_41_lp N r_25 n) H_25 ih x1 x3 μ
set_option maxHeartbeats 4000000 in
set_option maxRecDepth 100000 in
theorem p_X10_findWanted_25 (G : am_G) (l : Launch) (d : Nat) (hd0 : 108 ≤ d) (N : Nat) (r_25 : Int32 → am_M → Option (Unit × am_M)) (H_25 : ∀ (x1 : Int32) (μ : am_M), sm_P G l am_cu d me_X10_findWanted 25 [(0, .ref (am_ad G 10 0)), (1, .int x1)] [] μ (r_25 x1 μ)) (x1 : Int32) (μ : am_M) : sm_P G l am_cu d me_X10_findWanted 25 [(0, .ref (am_ad G 10 0)), (1, .int x1)] [] μ (f_X10_findWanted_25 N r_25 x1 μ) := by
  unfold f_X10_findWanted_25
  refine sm_iload_n (pc := 25) dX10_findWanted_25 rfl 1 rfl ?_
  refine sm_aload_n (pc := 26) dX10_findWanted_26 rfl 0 rfl ?_
  refine sm_geti (pc := 27) dX10_findWanted_27 fi_X10_109 ?_
  refine sm_icmp_ge (pc := 30) (tgt := 107) dX10_findWanted_30 (by decide) ?_ ?_
  · exact sm_vret (pc := 107) dX10_findWanted_107 rfl
  · refine sm_aload_n (pc := 33) dX10_findWanted_33 rfl 0 rfl ?_
    refine sm_iload_n (pc := 34) dX10_findWanted_34 rfl 1 rfl ?_
    refine sm_callVi (pc := 35) (As := [.int x1]) (rest := []) dX10_findWanted_35 (c_X10_bestOf G l N x1 μ) (by omega) wl_X10_244 vm_X10_bestOf rfl rfl (Nat.le_of_ble_eq_true rfl) (fun y2 μ1 => ?_)
    refine sm_istore_n (pc := 38) (lv' := [(2, .int y2), (0, .ref (am_ad G 10 0)), (1, .int x1)]) dX10_findWanted_38 rfl (by decide) rfl ?_
    refine sm_iconst (pc := 39) dX10_findWanted_39 (v := 0) (by decide) ?_
    refine sm_istore_n (pc := 40) (lv' := [(3, .int (0 : Int32)), (2, .int y2), (0, .ref (am_ad G 10 0)), (1, .int x1)]) dX10_findWanted_40 rfl (by decide) rfl ?_
    refine sm_sub [2, 3, 0] rfl ?_
    exact p_X10_findWanted_41_lp G l d hd0 N r_25 H_25 N x1 (0 : Int32) μ1
theorem p_X10_findWanted_25_lp (G : am_G) (l : Launch) (d : Nat) (hd0 : 108 ≤ d) (N : Nat) : ∀ (n : Nat) (x1 : Int32) (μ : am_M), sm_P G l am_cu d me_X10_findWanted 25 [(0, .ref (am_ad G 10 0)), (1, .int x1)] [] μ (f_X10_findWanted_25_lp N n x1 μ) := by
  intro n
  induction n with
  | zero => intros; exact sm_none
  | succ n ih => exact fun x1 μ => p_X10_findWanted_25 G l d hd0 N (f_X10_findWanted_25_lp N n) ih x1 μ
set_option maxHeartbeats 4000000 in
set_option maxRecDepth 100000 in
theorem p_X10_findWanted_2 (G : am_G) (l : Launch) (d : Nat) (hd0 : 108 ≤ d) (N : Nat) (r_2 : Int32 → am_M → Option (Unit × am_M)) (H_2 : ∀ (x1 : Int32) (μ : am_M), sm_P G l am_cu d me_X10_findWanted 2 [(0, .ref (am_ad G 10 0)), (1, .int x1)] [] μ (r_2 x1 μ)) (x1 : Int32) (μ : am_M) : sm_P G l am_cu d me_X10_findWanted 2 [(0, .ref (am_ad G 10 0)), (1, .int x1)] [] μ (f_X10_findWanted_2 N r_2 x1 μ) := by
  unfold f_X10_findWanted_2
  refine sm_iload_n (pc := 2) dX10_findWanted_2 rfl 1 rfl ?_
  refine sm_aload_n (pc := 3) dX10_findWanted_3 rfl 0 rfl ?_
  refine sm_geti (pc := 4) dX10_findWanted_4 fi_X10_102 ?_
  refine sm_icmp_ge (pc := 7) (tgt := 23) dX10_findWanted_7 (by decide) ?_ ?_
  · refine sm_iconst (pc := 23) dX10_findWanted_23 (v := 0) (by decide) ?_
    refine sm_istore_n (pc := 24) (lv' := [(1, .int (0 : Int32)), (0, .ref (am_ad G 10 0))]) dX10_findWanted_24 rfl (by decide) rfl ?_
    refine sm_sub [1, 0] rfl ?_
    exact p_X10_findWanted_25_lp G l d hd0 N N (0 : Int32) μ
  · refine sm_aload_n (pc := 10) dX10_findWanted_10 rfl 0 rfl ?_
    refine sm_getr (pc := 11) dX10_findWanted_11 fi_X10_59 ?_
    refine sm_iload_n (pc := 14) dX10_findWanted_14 rfl 1 rfl ?_
    refine sm_iconst (pc := 15) dX10_findWanted_15 (v := 0) (by decide) ?_
    refine sm_iast (pc := 16) dX10_findWanted_16 ly_193 (by decide) (fun j12 hj12 => ?_)
    refine sm_nmM (fun μ13 => ?_)
    refine sm_iinc (pc := 17) (v := (x1 + (1 : Int32))) (lv' := [(1, .int (x1 + (1 : Int32))), (0, .ref (am_ad G 10 0))]) dX10_findWanted_17 1 rfl rfl (by decide) rfl ?_
    refine sm_goto (pc := 20) (tgt := 2) dX10_findWanted_20 (by decide) ?_
    refine sm_sub [1, 0] rfl ?_
    exact H_2 (x1 + (1 : Int32)) μ13
theorem p_X10_findWanted_2_lp (G : am_G) (l : Launch) (d : Nat) (hd0 : 108 ≤ d) (N : Nat) : ∀ (n : Nat) (x1 : Int32) (μ : am_M), sm_P G l am_cu d me_X10_findWanted 2 [(0, .ref (am_ad G 10 0)), (1, .int x1)] [] μ (f_X10_findWanted_2_lp N n x1 μ) := by
  intro n
  induction n with
  | zero => intros; exact sm_none
  | succ n ih => exact fun x1 μ => p_X10_findWanted_2 G l d hd0 N (f_X10_findWanted_2_lp N n) ih x1 μ
set_option maxHeartbeats 4000000 in
set_option maxRecDepth 100000 in
theorem p_X10_findWanted_0 (G : am_G) (l : Launch) (d : Nat) (hd0 : 108 ≤ d) (N : Nat) (μ : am_M) : sm_P G l am_cu d me_X10_findWanted 0 [(0, .ref (am_ad G 10 0))] [] μ (f_X10_findWanted_0 N μ) := by
  unfold f_X10_findWanted_0
  refine sm_iconst (pc := 0) dX10_findWanted_0 (v := 0) (by decide) ?_
  refine sm_istore_n (pc := 1) (lv' := [(1, .int (0 : Int32)), (0, .ref (am_ad G 10 0))]) dX10_findWanted_1 rfl (by decide) rfl ?_
  refine sm_sub [1, 0] rfl ?_
  exact p_X10_findWanted_2_lp G l d hd0 N N (0 : Int32) μ
theorem c_X10_findWanted (G : am_G) (l : Launch) (N : Nat) (μ : am_M) : ct_P G l am_cu 108 me_X10_findWanted [.ref (am_ad G 10 0)] μ (f_X10_findWanted N μ) := ct_of (by decide +kernel) (Nat.le_of_ble_eq_true rfl) rfl (p_X10_findWanted_0 G l 108 (Nat.le_refl _) N μ)

def f_X10_over_0 (N : Nat) (a1 : Int32) (μ : am_M) : Option (Int32 × am_M) :=
am_gd a1 28 (fun j1 => am_gd a1 6 (fun j2 => some (((μ.1 160 0 j1) - (μ.1 193 0 j2)), μ)))
def f_X10_over (N : Nat) (a1 : Int32) (μ : am_M) : Option (Int32 × am_M) := f_X10_over_0 N a1 μ
set_option maxHeartbeats 4000000 in
set_option maxRecDepth 100000 in
theorem p_X10_over_0 (G : am_G) (l : Launch) (d : Nat) (hd0 : 0 ≤ d) (N : Nat) (a1 : Int32) (μ : am_M) : sm_P G l am_ci d me_X10_over 0 [(0, .ref (am_ad G 10 0)), (1, .int a1)] [] μ (f_X10_over_0 N a1 μ) := by
  unfold f_X10_over_0
  refine sm_aload_n (pc := 0) dX10_over_0 rfl 0 rfl ?_
  refine sm_getr (pc := 1) dX10_over_1 fi_X10_9 ?_
  refine sm_iload_n (pc := 4) dX10_over_4 rfl 1 rfl ?_
  refine sm_iald (pc := 5) dX10_over_5 ly_160 (by decide) (fun j1 hj1 => ?_)
  refine sm_aload_n (pc := 6) dX10_over_6 rfl 0 rfl ?_
  refine sm_getr (pc := 7) dX10_over_7 fi_X10_59 ?_
  refine sm_iload_n (pc := 10) dX10_over_10 rfl 1 rfl ?_
  refine sm_iald (pc := 11) dX10_over_11 ly_193 (by decide) (fun j2 hj2 => ?_)
  refine sm_isub (pc := 12) dX10_over_12 ?_
  exact sm_iret (pc := 13) dX10_over_13 rfl
theorem c_X10_over (G : am_G) (l : Launch) (N : Nat) (a1 : Int32) (μ : am_M) : ct_P G l am_ci 0 me_X10_over [.ref (am_ad G 10 0), .int a1] μ (f_X10_over N a1 μ) := ct_of (by decide +kernel) (Nat.le_of_ble_eq_true rfl) rfl (p_X10_over_0 G l 0 (Nat.le_refl _) N a1 μ)

def f_X10_bothOver_4 (N : Nat) (r_4 : Int32 → Int32 → am_M → Option (Int32 × am_M)) (x1 : Int32) (x2 : Int32) (μ : am_M) : Option (Int32 × am_M) :=
if (μ.1 10 0 6) ≤ x2 then (some (x1, μ)) else (am_bd (f_X10_over N x2 μ) (fun y2 μ1 => am_bd (f_X10_size N y2 μ1) (fun y4 μ3 => am_nm (x1 + y4) (fun y5 => r_4 y5 (x2 + (1 : Int32)) μ3))))
def f_X10_bothOver_4_lp (N : Nat) : Nat → Int32 → Int32 → am_M → Option (Int32 × am_M)
  | 0, _, _, _ => none
  | n + 1, x1, x2, μ => f_X10_bothOver_4 N (f_X10_bothOver_4_lp N n) x1 x2 μ
def f_X10_bothOver_0 (N : Nat) (μ : am_M) : Option (Int32 × am_M) :=
f_X10_bothOver_4_lp N N (0 : Int32) (0 : Int32) μ
def f_X10_bothOver (N : Nat) (μ : am_M) : Option (Int32 × am_M) := f_X10_bothOver_0 N μ
set_option maxHeartbeats 4000000 in
set_option maxRecDepth 100000 in
theorem p_X10_bothOver_4 (G : am_G) (l : Launch) (d : Nat) (hd0 : 1 ≤ d) (N : Nat) (r_4 : Int32 → Int32 → am_M → Option (Int32 × am_M)) (H_4 : ∀ (x1 : Int32) (x2 : Int32) (μ : am_M), sm_P G l am_ci d me_X10_bothOver 4 [(0, .ref (am_ad G 10 0)), (1, .int x1), (2, .int x2)] [] μ (r_4 x1 x2 μ)) (x1 : Int32) (x2 : Int32) (μ : am_M) : sm_P G l am_ci d me_X10_bothOver 4 [(0, .ref (am_ad G 10 0)), (1, .int x1), (2, .int x2)] [] μ (f_X10_bothOver_4 N r_4 x1 x2 μ) := by
  unfold f_X10_bothOver_4
  refine sm_iload_n (pc := 4) dX10_bothOver_4 rfl 2 rfl ?_
  refine sm_aload_n (pc := 5) dX10_bothOver_5 rfl 0 rfl ?_
  refine sm_geti (pc := 6) dX10_bothOver_6 fi_X10_102 ?_
  refine sm_icmp_ge (pc := 9) (tgt := 29) dX10_bothOver_9 (by decide) ?_ ?_
  · refine sm_iload_n (pc := 29) dX10_bothOver_29 rfl 1 rfl ?_
    exact sm_iret (pc := 30) dX10_bothOver_30 rfl
  · refine sm_iload_n (pc := 12) dX10_bothOver_12 rfl 1 rfl ?_
    refine sm_aload_n (pc := 13) dX10_bothOver_13 rfl 0 rfl ?_
    refine sm_iload_n (pc := 14) dX10_bothOver_14 rfl 2 rfl ?_
    refine sm_callVi (pc := 15) (As := [.int x2]) (rest := [.int x1]) dX10_bothOver_15 (c_X10_over G l N x2 μ) (by omega) wl_X10_250 vm_X10_over rfl rfl (Nat.le_of_ble_eq_true rfl) (fun y2 μ1 => ?_)
    refine sm_callSi (pc := 18) (As := [.int y2]) (rest := [.int x1]) dX10_bothOver_18 (c_X10_size G l N y2 μ1) (by omega) wl_X10_253 st_X10_size rfl rfl (Nat.le_of_ble_eq_true rfl) (fun y4 μ3 => ?_)
    refine sm_iadd (pc := 21) dX10_bothOver_21 ?_
    refine sm_nmI (fun y5 => ?_)
    refine sm_istore_n (pc := 22) (lv' := [(1, .int y5), (0, .ref (am_ad G 10 0)), (2, .int x2)]) dX10_bothOver_22 rfl (by decide) rfl ?_
    refine sm_iinc (pc := 23) (v := (x2 + (1 : Int32))) (lv' := [(2, .int (x2 + (1 : Int32))), (1, .int y5), (0, .ref (am_ad G 10 0))]) dX10_bothOver_23 2 rfl rfl (by decide) rfl ?_
    refine sm_goto (pc := 26) (tgt := 4) dX10_bothOver_26 (by decide) ?_
    refine sm_sub [2, 1, 0] rfl ?_
    exact H_4 y5 (x2 + (1 : Int32)) μ3
theorem p_X10_bothOver_4_lp (G : am_G) (l : Launch) (d : Nat) (hd0 : 1 ≤ d) (N : Nat) : ∀ (n : Nat) (x1 : Int32) (x2 : Int32) (μ : am_M), sm_P G l am_ci d me_X10_bothOver 4 [(0, .ref (am_ad G 10 0)), (1, .int x1), (2, .int x2)] [] μ (f_X10_bothOver_4_lp N n x1 x2 μ) := by
  intro n
  induction n with
  | zero => intros; exact sm_none
  | succ n ih => exact fun x1 x2 μ => p_X10_bothOver_4 G l d hd0 N (f_X10_bothOver_4_lp N n) ih x1 x2 μ
set_option maxHeartbeats 4000000 in
set_option maxRecDepth 100000 in
theorem p_X10_bothOver_0 (G : am_G) (l : Launch) (d : Nat) (hd0 : 1 ≤ d) (N : Nat) (μ : am_M) : sm_P G l am_ci d me_X10_bothOver 0 [(0, .ref (am_ad G 10 0))] [] μ (f_X10_bothOver_0 N μ) := by
  unfold f_X10_bothOver_0
  refine sm_iconst (pc := 0) dX10_bothOver_0 (v := 0) (by decide) ?_
  refine sm_istore_n (pc := 1) (lv' := [(1, .int (0 : Int32)), (0, .ref (am_ad G 10 0))]) dX10_bothOver_1 rfl (by decide) rfl ?_
  refine sm_iconst (pc := 2) dX10_bothOver_2 (v := 0) (by decide) ?_
  refine sm_istore_n (pc := 3) (lv' := [(2, .int (0 : Int32)), (1, .int (0 : Int32)), (0, .ref (am_ad G 10 0))]) dX10_bothOver_3 rfl (by decide) rfl ?_
  refine sm_sub [2, 1, 0] rfl ?_
  exact p_X10_bothOver_4_lp G l d hd0 N N (0 : Int32) (0 : Int32) μ
theorem c_X10_bothOver (G : am_G) (l : Launch) (N : Nat) (μ : am_M) : ct_P G l am_ci 1 me_X10_bothOver [.ref (am_ad G 10 0)] μ (f_X10_bothOver N μ) := ct_of (by decide +kernel) (Nat.le_of_ble_eq_true rfl) rfl (p_X10_bothOver_0 G l 1 (Nat.le_refl _) N μ)

def f_X10_wanted_42 (N : Nat) (x1 : Int32) (x2 : Int32) (x3 : Int32) (μ : am_M) : Option (Int32 × am_M) :=
am_bd (f_X10_findWanted N μ) (fun _ μ1 => if x3 = 0 then (if x2 = 0 then (am_gd x1 6 (fun j4 => some ((μ1.1 193 0 j4), μ1))) else (am_bd (f_X10_over N x1 μ1) (fun y3 μ2 => some (y3, μ2)))) else (am_bd (f_X10_bothOver N μ1) (fun y6 μ5 => some (y6, μ5))))
def f_X10_wanted_15 (N : Nat) (x1 : Int32) (x2 : Int32) (s0 : Int32) (μ : am_M) : Option (Int32 × am_M) :=
if s0 = 0 then (am_bd (f_X10_isThing N x1 μ) (fun y8 μ7 => if y8 = 0 then (some ((-2000000000 : Int32), μ7)) else (am_bd (f_X10_within N x2.toInt64 (0 : Int64) (1 : Int64) μ7) (fun y10 μ9 => if y10 = 0 then (some ((-2000000000 : Int32), μ9)) else (f_X10_wanted_42 N x1 x2 s0 μ9))))) else (f_X10_wanted_42 N x1 x2 s0 μ)
def f_X10_wanted_14 (N : Nat) (x1 : Int32) (x2 : Int32) (μ : am_M) : Option (Int32 × am_M) :=
f_X10_wanted_15 N x1 x2 (0 : Int32) μ
def f_X10_wanted_0 (N : Nat) (a1 : Int32) (a2 : Int32) (μ : am_M) : Option (Int32 × am_M) :=
if a1 = (-1 : Int32) then (if a2 = (1 : Int32) then (f_X10_wanted_15 N a1 a2 (1 : Int32) μ) else (f_X10_wanted_14 N a1 a2 μ)) else (f_X10_wanted_14 N a1 a2 μ)
def f_X10_wanted (N : Nat) (a1 : Int32) (a2 : Int32) (μ : am_M) : Option (Int32 × am_M) := f_X10_wanted_0 N a1 a2 μ
set_option maxHeartbeats 4000000 in
set_option maxRecDepth 100000 in
theorem p_X10_wanted_42 (G : am_G) (l : Launch) (d : Nat) (hd0 : 109 ≤ d) (N : Nat) (x1 : Int32) (x2 : Int32) (x3 : Int32) (μ : am_M) : sm_P G l am_ci d me_X10_wanted 42 [(0, .ref (am_ad G 10 0)), (1, .int x1), (2, .int x2), (3, .int x3)] [] μ (f_X10_wanted_42 N x1 x2 x3 μ) := by
  unfold f_X10_wanted_42
  refine sm_aload_n (pc := 42) dX10_wanted_42 rfl 0 rfl ?_
  refine sm_callVv (pc := 43) (As := []) (rest := []) dX10_wanted_43 (c_X10_findWanted G l N μ) (by omega) wl_X10_257 vm_X10_findWanted rfl rfl (Nat.le_of_ble_eq_true rfl) (fun _ μ1 => ?_)
  refine sm_iload_n (pc := 46) dX10_wanted_46 rfl 3 rfl ?_
  refine sm_if_eq (pc := 47) (tgt := 57) dX10_wanted_47 (by decide) ?_ ?_
  · refine sm_iload_n (pc := 57) dX10_wanted_57 rfl 2 rfl ?_
    refine sm_if_ne (pc := 58) (tgt := 70) dX10_wanted_58 (by decide) ?_ ?_
    · refine sm_aload_n (pc := 70) dX10_wanted_70 rfl 0 rfl ?_
      refine sm_iload_n (pc := 71) dX10_wanted_71 rfl 1 rfl ?_
      refine sm_callVi (pc := 72) (As := [.int x1]) (rest := []) dX10_wanted_72 (c_X10_over G l N x1 μ1) (by omega) wl_X10_250 vm_X10_over rfl rfl (Nat.le_of_ble_eq_true rfl) (fun y3 μ2 => ?_)
      exact sm_iret (pc := 75) dX10_wanted_75 rfl
    · refine sm_aload_n (pc := 61) dX10_wanted_61 rfl 0 rfl ?_
      refine sm_getr (pc := 62) dX10_wanted_62 fi_X10_59 ?_
      refine sm_iload_n (pc := 65) dX10_wanted_65 rfl 1 rfl ?_
      refine sm_iald (pc := 66) dX10_wanted_66 ly_193 (by decide) (fun j4 hj4 => ?_)
      refine sm_goto (pc := 67) (tgt := 75) dX10_wanted_67 (by decide) ?_
      exact sm_iret (pc := 75) dX10_wanted_75 rfl
  · refine sm_aload_n (pc := 50) dX10_wanted_50 rfl 0 rfl ?_
    refine sm_callVi (pc := 51) (As := []) (rest := []) dX10_wanted_51 (c_X10_bothOver G l N μ1) (by omega) wl_X10_260 vm_X10_bothOver rfl rfl (Nat.le_of_ble_eq_true rfl) (fun y6 μ5 => ?_)
    refine sm_goto (pc := 54) (tgt := 75) dX10_wanted_54 (by decide) ?_
    exact sm_iret (pc := 75) dX10_wanted_75 rfl
set_option maxHeartbeats 4000000 in
set_option maxRecDepth 100000 in
theorem p_X10_wanted_15 (G : am_G) (l : Launch) (d : Nat) (hd0 : 109 ≤ d) (N : Nat) (x1 : Int32) (x2 : Int32) (s0 : Int32) (μ : am_M) : sm_P G l am_ci d me_X10_wanted 15 [(0, .ref (am_ad G 10 0)), (1, .int x1), (2, .int x2)] [.int s0] μ (f_X10_wanted_15 N x1 x2 s0 μ) := by
  unfold f_X10_wanted_15
  refine sm_istore_n (pc := 15) (lv' := [(3, .int s0), (0, .ref (am_ad G 10 0)), (1, .int x1), (2, .int x2)]) dX10_wanted_15 rfl (by decide) rfl ?_
  refine sm_iload_n (pc := 16) dX10_wanted_16 rfl 0 rfl ?_
  refine sm_if_ne (pc := 17) (tgt := 42) dX10_wanted_17 (by decide) ?_ ?_
  · refine sm_sub [1, 2, 3, 0] rfl ?_
    exact p_X10_wanted_42 G l d hd0 N x1 x2 s0 μ
  · refine sm_aload_n (pc := 20) dX10_wanted_20 rfl 1 rfl ?_
    refine sm_iload_n (pc := 21) dX10_wanted_21 rfl 2 rfl ?_
    refine sm_callVi (pc := 22) (As := [.int x1]) (rest := []) dX10_wanted_22 (c_X10_isThing G l N x1 μ) (by omega) wl_X10_132 vm_X10_isThing rfl rfl (Nat.le_of_ble_eq_true rfl) (fun y8 μ7 => ?_)
    refine sm_if_eq (pc := 25) (tgt := 38) dX10_wanted_25 (by decide) ?_ ?_
    · refine sm_ldcw (pc := 38) dX10_wanted_38 (v := -2000000000) wk_X10_256 ?_
      exact sm_iret (pc := 41) dX10_wanted_41 rfl
    · refine sm_iload_n (pc := 28) dX10_wanted_28 rfl 3 rfl ?_
      refine sm_i2l (pc := 29) dX10_wanted_29 ?_
      refine sm_lconst (pc := 30) dX10_wanted_30 (v := 0) (by decide) ?_
      refine sm_lconst (pc := 31) dX10_wanted_31 (v := 1) (by decide) ?_
      refine sm_callSi (pc := 32) (As := [.long x2.toInt64, .long (0 : Int64), .long (1 : Int64)]) (rest := []) dX10_wanted_32 (c_X10_within G l N x2.toInt64 (0 : Int64) (1 : Int64) μ7) (by omega) wl_X10_105 st_X10_within rfl rfl (Nat.le_of_ble_eq_true rfl) (fun y10 μ9 => ?_)
      refine sm_if_ne (pc := 35) (tgt := 42) dX10_wanted_35 (by decide) ?_ ?_
      · refine sm_sub [1, 2, 3, 0] rfl ?_
        exact p_X10_wanted_42 G l d hd0 N x1 x2 s0 μ9
      · refine sm_ldcw (pc := 38) dX10_wanted_38 (v := -2000000000) wk_X10_256 ?_
        exact sm_iret (pc := 41) dX10_wanted_41 rfl
set_option maxHeartbeats 4000000 in
set_option maxRecDepth 100000 in
theorem p_X10_wanted_14 (G : am_G) (l : Launch) (d : Nat) (hd0 : 109 ≤ d) (N : Nat) (x1 : Int32) (x2 : Int32) (μ : am_M) : sm_P G l am_ci d me_X10_wanted 14 [(0, .ref (am_ad G 10 0)), (1, .int x1), (2, .int x2)] [] μ (f_X10_wanted_14 N x1 x2 μ) := by
  unfold f_X10_wanted_14
  refine sm_iconst (pc := 14) dX10_wanted_14 (v := 0) (by decide) ?_
  exact p_X10_wanted_15 G l d hd0 N x1 x2 (0 : Int32) μ
set_option maxHeartbeats 4000000 in
set_option maxRecDepth 100000 in
theorem p_X10_wanted_0 (G : am_G) (l : Launch) (d : Nat) (hd0 : 109 ≤ d) (N : Nat) (a1 : Int32) (a2 : Int32) (μ : am_M) : sm_P G l am_ci d me_X10_wanted 0 [(0, .ref (am_ad G 10 0)), (1, .int a1), (2, .int a2)] [] μ (f_X10_wanted_0 N a1 a2 μ) := by
  unfold f_X10_wanted_0
  refine sm_iload_n (pc := 0) dX10_wanted_0 rfl 1 rfl ?_
  refine sm_iconst (pc := 1) dX10_wanted_1 (v := -1) (by decide) ?_
  refine sm_icmp_ne (pc := 2) (tgt := 14) dX10_wanted_2 (by decide) ?_ ?_
  · exact p_X10_wanted_14 G l d hd0 N a1 a2 μ
  · refine sm_iload_n (pc := 5) dX10_wanted_5 rfl 2 rfl ?_
    refine sm_iconst (pc := 6) dX10_wanted_6 (v := 1) (by decide) ?_
    refine sm_icmp_ne (pc := 7) (tgt := 14) dX10_wanted_7 (by decide) ?_ ?_
    · exact p_X10_wanted_14 G l d hd0 N a1 a2 μ
    · refine sm_iconst (pc := 10) dX10_wanted_10 (v := 1) (by decide) ?_
      refine sm_goto (pc := 11) (tgt := 15) dX10_wanted_11 (by decide) ?_
      exact p_X10_wanted_15 G l d hd0 N a1 a2 (1 : Int32) μ
theorem c_X10_wanted (G : am_G) (l : Launch) (N : Nat) (a1 : Int32) (a2 : Int32) (μ : am_M) : ct_P G l am_ci 109 me_X10_wanted [.ref (am_ad G 10 0), .int a1, .int a2] μ (f_X10_wanted N a1 a2 μ) := ct_of (by decide +kernel) (Nat.le_of_ble_eq_true rfl) rfl (p_X10_wanted_0 G l 109 (Nat.le_refl _) N a1 a2 μ)

def f_X10_led_0 (N : Nat) (a1 : Int32) (a2 : Int32) (μ : am_M) : Option (Int32 × am_M) :=
am_bd (f_X10_isThing N a1 μ) (fun y2 μ1 => if y2 = 0 then (some ((-1 : Int32), μ1)) else (am_bd (f_X10_isSort N a2 μ1) (fun y4 μ3 => if y4 = 0 then (some ((-1 : Int32), μ3)) else (am_bd (f_X10_findWanted N μ3) (fun _ μ5 => am_gd (((6 : Int32) * a2) + a1) 30 (fun j6 => some ((μ5.1 194 0 j6), μ5)))))))
def f_X10_led (N : Nat) (a1 : Int32) (a2 : Int32) (μ : am_M) : Option (Int32 × am_M) := f_X10_led_0 N a1 a2 μ
set_option maxHeartbeats 4000000 in
set_option maxRecDepth 100000 in
theorem p_X10_led_0 (G : am_G) (l : Launch) (d : Nat) (hd0 : 109 ≤ d) (N : Nat) (a1 : Int32) (a2 : Int32) (μ : am_M) : sm_P G l am_ci d me_X10_led 0 [(0, .ref (am_ad G 10 0)), (1, .int a1), (2, .int a2)] [] μ (f_X10_led_0 N a1 a2 μ) := by
  unfold f_X10_led_0
  refine sm_aload_n (pc := 0) dX10_led_0 rfl 0 rfl ?_
  refine sm_iload_n (pc := 1) dX10_led_1 rfl 1 rfl ?_
  refine sm_callVi (pc := 2) (As := [.int a1]) (rest := []) dX10_led_2 (c_X10_isThing G l N a1 μ) (by omega) wl_X10_132 vm_X10_isThing rfl rfl (Nat.le_of_ble_eq_true rfl) (fun y2 μ1 => ?_)
  refine sm_if_eq (pc := 5) (tgt := 16) dX10_led_5 (by decide) ?_ ?_
  · refine sm_iconst (pc := 16) dX10_led_16 (v := -1) (by decide) ?_
    exact sm_iret (pc := 17) dX10_led_17 rfl
  · refine sm_aload_n (pc := 8) dX10_led_8 rfl 0 rfl ?_
    refine sm_iload_n (pc := 9) dX10_led_9 rfl 2 rfl ?_
    refine sm_callVi (pc := 10) (As := [.int a2]) (rest := []) dX10_led_10 (c_X10_isSort G l N a2 μ1) (by omega) wl_X10_144 vm_X10_isSort rfl rfl (Nat.le_of_ble_eq_true rfl) (fun y4 μ3 => ?_)
    refine sm_if_ne (pc := 13) (tgt := 18) dX10_led_13 (by decide) ?_ ?_
    · refine sm_aload_n (pc := 18) dX10_led_18 rfl 0 rfl ?_
      refine sm_callVv (pc := 19) (As := []) (rest := []) dX10_led_19 (c_X10_findWanted G l N μ3) (by omega) wl_X10_257 vm_X10_findWanted rfl rfl (Nat.le_of_ble_eq_true rfl) (fun _ μ5 => ?_)
      refine sm_aload_n (pc := 22) dX10_led_22 rfl 0 rfl ?_
      refine sm_getr (pc := 23) dX10_led_23 fi_X10_62 ?_
      refine sm_bipush (pc := 26) dX10_led_26 (v := 6) (by decide) ?_
      refine sm_iload_n (pc := 28) dX10_led_28 rfl 2 rfl ?_
      refine sm_imul (pc := 29) dX10_led_29 ?_
      refine sm_iload_n (pc := 30) dX10_led_30 rfl 1 rfl ?_
      refine sm_iadd (pc := 31) dX10_led_31 ?_
      refine sm_iald (pc := 32) dX10_led_32 ly_194 (by decide) (fun j6 hj6 => ?_)
      exact sm_iret (pc := 33) dX10_led_33 rfl
    · refine sm_iconst (pc := 16) dX10_led_16 (v := -1) (by decide) ?_
      exact sm_iret (pc := 17) dX10_led_17 rfl
theorem c_X10_led (G : am_G) (l : Launch) (N : Nat) (a1 : Int32) (a2 : Int32) (μ : am_M) : ct_P G l am_ci 109 me_X10_led [.ref (am_ad G 10 0), .int a1, .int a2] μ (f_X10_led N a1 a2 μ) := ct_of (by decide +kernel) (Nat.le_of_ble_eq_true rfl) rfl (p_X10_led_0 G l 109 (Nat.le_refl _) N a1 a2 μ)

def f_X10_keepsLeast_27 (N : Nat) (r_27 : Int32 → am_M → Option (Unit × am_M)) (x2 : Int32) (μ : am_M) : Option (Unit × am_M) :=
if (μ.1 10 0 6) ≤ x2 then (some ((), μ)) else (am_gd ((12 : Int32) + x2) 28 (fun j3 => am_gd x2 6 (fun j4 => am_nm (am_ui μ 200 0 j4 (μ.1 160 0 j3)) (fun μ5 => r_27 (x2 + (1 : Int32)) μ5))))
def f_X10_keepsLeast_27_lp (N : Nat) : Nat → Int32 → am_M → Option (Unit × am_M)
  | 0, _, _ => none
  | n + 1, x2, μ => f_X10_keepsLeast_27 N (f_X10_keepsLeast_27_lp N n) x2 μ
def f_X10_keepsLeast_0 (N : Nat) (a1 : Int32) (μ : am_M) : Option (Unit × am_M) :=
if (μ.1 10 0 36) < (μ.1 10 0 37) then (am_nm (am_ui μ 10 0 37 (μ.1 10 0 36)) (fun μ1 => am_nm (am_ui μ1 10 0 38 a1) (fun μ2 => f_X10_keepsLeast_27_lp N N (0 : Int32) μ2))) else (some ((), μ))
def f_X10_keepsLeast (N : Nat) (a1 : Int32) (μ : am_M) : Option (Unit × am_M) := f_X10_keepsLeast_0 N a1 μ
set_option maxHeartbeats 4000000 in
set_option maxRecDepth 100000 in
theorem p_X10_keepsLeast_27 (G : am_G) (l : Launch) (d : Nat) (hd0 : 0 ≤ d) (N : Nat) (r_27 : Int32 → am_M → Option (Unit × am_M)) (H_27 : ∀ (x2 : Int32) (μ : am_M), sm_P G l am_cu d me_X10_keepsLeast 27 [(0, .ref (am_ad G 10 0)), (2, .int x2)] [] μ (r_27 x2 μ)) (x2 : Int32) (μ : am_M) : sm_P G l am_cu d me_X10_keepsLeast 27 [(0, .ref (am_ad G 10 0)), (2, .int x2)] [] μ (f_X10_keepsLeast_27 N r_27 x2 μ) := by
  unfold f_X10_keepsLeast_27
  refine sm_iload_n (pc := 27) dX10_keepsLeast_27 rfl 1 rfl ?_
  refine sm_aload_n (pc := 28) dX10_keepsLeast_28 rfl 0 rfl ?_
  refine sm_geti (pc := 29) dX10_keepsLeast_29 fi_X10_102 ?_
  refine sm_icmp_ge (pc := 32) (tgt := 56) dX10_keepsLeast_32 (by decide) ?_ ?_
  · exact sm_vret (pc := 56) dX10_keepsLeast_56 rfl
  · refine sm_aload_n (pc := 35) dX10_keepsLeast_35 rfl 0 rfl ?_
    refine sm_getr (pc := 36) dX10_keepsLeast_36 fi_X10_68 ?_
    refine sm_iload_n (pc := 39) dX10_keepsLeast_39 rfl 1 rfl ?_
    refine sm_aload_n (pc := 40) dX10_keepsLeast_40 rfl 0 rfl ?_
    refine sm_getr (pc := 41) dX10_keepsLeast_41 fi_X10_9 ?_
    refine sm_bipush (pc := 44) dX10_keepsLeast_44 (v := 12) (by decide) ?_
    refine sm_iload_n (pc := 46) dX10_keepsLeast_46 rfl 1 rfl ?_
    refine sm_iadd (pc := 47) dX10_keepsLeast_47 ?_
    refine sm_iald (pc := 48) dX10_keepsLeast_48 ly_160 (by decide) (fun j3 hj3 => ?_)
    refine sm_iast (pc := 49) dX10_keepsLeast_49 ly_200 (by decide) (fun j4 hj4 => ?_)
    refine sm_nmM (fun μ5 => ?_)
    refine sm_iinc (pc := 50) (v := (x2 + (1 : Int32))) (lv' := [(2, .int (x2 + (1 : Int32))), (0, .ref (am_ad G 10 0))]) dX10_keepsLeast_50 1 rfl rfl (by decide) rfl ?_
    refine sm_goto (pc := 53) (tgt := 27) dX10_keepsLeast_53 (by decide) ?_
    refine sm_sub [1, 0] rfl ?_
    exact H_27 (x2 + (1 : Int32)) μ5
theorem p_X10_keepsLeast_27_lp (G : am_G) (l : Launch) (d : Nat) (hd0 : 0 ≤ d) (N : Nat) : ∀ (n : Nat) (x2 : Int32) (μ : am_M), sm_P G l am_cu d me_X10_keepsLeast 27 [(0, .ref (am_ad G 10 0)), (2, .int x2)] [] μ (f_X10_keepsLeast_27_lp N n x2 μ) := by
  intro n
  induction n with
  | zero => intros; exact sm_none
  | succ n ih => exact fun x2 μ => p_X10_keepsLeast_27 G l d hd0 N (f_X10_keepsLeast_27_lp N n) ih x2 μ
set_option maxHeartbeats 4000000 in
set_option maxRecDepth 100000 in
theorem p_X10_keepsLeast_0 (G : am_G) (l : Launch) (d : Nat) (hd0 : 0 ≤ d) (N : Nat) (a1 : Int32) (μ : am_M) : sm_P G l am_cu d me_X10_keepsLeast 0 [(0, .ref (am_ad G 10 0)), (1, .int a1)] [] μ (f_X10_keepsLeast_0 N a1 μ) := by
  unfold f_X10_keepsLeast_0
  refine sm_aload_n (pc := 0) dX10_keepsLeast_0 rfl 0 rfl ?_
  refine sm_geti (pc := 1) dX10_keepsLeast_1 fi_X10_266 ?_
  refine sm_aload_n (pc := 4) dX10_keepsLeast_4 rfl 0 rfl ?_
  refine sm_geti (pc := 5) dX10_keepsLeast_5 fi_X10_269 ?_
  refine sm_icmp_lt (pc := 8) (tgt := 12) dX10_keepsLeast_8 (by decide) ?_ ?_
  · refine sm_aload_n (pc := 12) dX10_keepsLeast_12 rfl 0 rfl ?_
    refine sm_aload_n (pc := 13) dX10_keepsLeast_13 rfl 0 rfl ?_
    refine sm_geti (pc := 14) dX10_keepsLeast_14 fi_X10_266 ?_
    refine sm_puti (pc := 17) dX10_keepsLeast_17 fi_X10_269 ?_
    refine sm_nmM (fun μ1 => ?_)
    refine sm_aload_n (pc := 20) dX10_keepsLeast_20 rfl 0 rfl ?_
    refine sm_iload_n (pc := 21) dX10_keepsLeast_21 rfl 1 rfl ?_
    refine sm_puti (pc := 22) dX10_keepsLeast_22 fi_X10_272 ?_
    refine sm_nmM (fun μ2 => ?_)
    refine sm_iconst (pc := 25) dX10_keepsLeast_25 (v := 0) (by decide) ?_
    refine sm_istore_n (pc := 26) (lv' := [(2, .int (0 : Int32)), (0, .ref (am_ad G 10 0)), (1, .int a1)]) dX10_keepsLeast_26 rfl (by decide) rfl ?_
    refine sm_sub [1, 0] rfl ?_
    exact p_X10_keepsLeast_27_lp G l d hd0 N N (0 : Int32) μ2
  · exact sm_vret (pc := 11) dX10_keepsLeast_11 rfl
theorem c_X10_keepsLeast (G : am_G) (l : Launch) (N : Nat) (a1 : Int32) (μ : am_M) : ct_P G l am_cu 0 me_X10_keepsLeast [.ref (am_ad G 10 0), .int a1] μ (f_X10_keepsLeast N a1 μ) := ct_of (by decide +kernel) (Nat.le_of_ble_eq_true rfl) rfl (p_X10_keepsLeast_0 G l 0 (Nat.le_refl _) N a1 μ)

def f_X10_goRounds_226 (N : Nat) (r_226 : Int32 → am_M → Option (Unit × am_M)) (x3 : Int32) (μ : am_M) : Option (Unit × am_M) :=
if (μ.1 10 0 6) ≤ x3 then (some ((), μ)) else (am_gd ((12 : Int32) + x3) 28 (fun j8 => am_gd x3 6 (fun j9 => am_nm (am_ui μ 199 0 j9 (μ.1 160 0 j8)) (fun μ10 => am_gd x3 6 (fun j11 => am_gd ((12 : Int32) + x3) 28 (fun j12 => am_nm (am_ui μ10 160 0 j12 (μ10.1 201 0 j11)) (fun μ13 => r_226 (x3 + (1 : Int32)) μ13)))))))
def f_X10_goRounds_226_lp (N : Nat) : Nat → Int32 → am_M → Option (Unit × am_M)
  | 0, _, _ => none
  | n + 1, x3, μ => f_X10_goRounds_226 N (f_X10_goRounds_226_lp N n) x3 μ
def f_X10_goRounds_224 (N : Nat) (μ : am_M) : Option (Unit × am_M) :=
f_X10_goRounds_226_lp N N (0 : Int32) μ
def f_X10_goRounds_218 (N : Nat) (r_80 : Int32 → Int32 → Int32 → am_M → Option (Unit × am_M)) (x1 : Int32) (x2 : Int32) (x3 : Int32) (μ : am_M) : Option (Unit × am_M) :=
r_80 x1 x2 (x3 + (1 : Int32)) μ
def f_X10_goRounds_185 (N : Nat) (r_80 : Int32 → Int32 → Int32 → am_M → Option (Unit × am_M)) (r_94 : Int32 → Int32 → Int32 → Int32 → am_M → Option (Unit × am_M)) (x1 : Int32) (x3 : Int32) (x4 : Int32) (s0 : Int32) (μ : am_M) : Option (Unit × am_M) :=
r_94 x1 s0 x3 (x4 + (1 : Int32)) μ
def f_X10_goRounds_180 (N : Nat) (r_80 : Int32 → Int32 → Int32 → am_M → Option (Unit × am_M)) (r_94 : Int32 → Int32 → Int32 → Int32 → am_M → Option (Unit × am_M)) (x1 : Int32) (x3 : Int32) (x4 : Int32) (μ : am_M) : Option (Unit × am_M) :=
f_X10_goRounds_185 N r_80 r_94 x1 x3 x4 (1 : Int32) μ
def f_X10_goRounds_154 (N : Nat) (r_80 : Int32 → Int32 → Int32 → am_M → Option (Unit × am_M)) (r_94 : Int32 → Int32 → Int32 → Int32 → am_M → Option (Unit × am_M)) (x1 : Int32) (x2 : Int32) (x3 : Int32) (x4 : Int32) (x5 : Int32) (s0 : Int32) (μ : am_M) : Option (Unit × am_M) :=
am_gd ((12 : Int32) + x4) 28 (fun j26 => am_nm (am_ui μ 160 0 j26 (x5 + s0)) (fun μ27 => if x2 = 0 then (if s0 = 0 then (f_X10_goRounds_185 N r_80 r_94 x1 x3 x4 (0 : Int32) μ27) else (f_X10_goRounds_180 N r_80 r_94 x1 x3 x4 μ27)) else (f_X10_goRounds_180 N r_80 r_94 x1 x3 x4 μ27)))
def f_X10_goRounds_153 (N : Nat) (r_80 : Int32 → Int32 → Int32 → am_M → Option (Unit × am_M)) (r_94 : Int32 → Int32 → Int32 → Int32 → am_M → Option (Unit × am_M)) (x1 : Int32) (x2 : Int32) (x3 : Int32) (x4 : Int32) (x5 : Int32) (μ : am_M) : Option (Unit × am_M) :=
f_X10_goRounds_154 N r_80 r_94 x1 x2 x3 x4 x5 (0 : Int32) μ
def f_X10_goRounds_135 (N : Nat) (r_80 : Int32 → Int32 → Int32 → am_M → Option (Unit × am_M)) (r_94 : Int32 → Int32 → Int32 → Int32 → am_M → Option (Unit × am_M)) (x1 : Int32) (x2 : Int32) (x3 : Int32) (x4 : Int32) (x5 : Int32) (μ : am_M) : Option (Unit × am_M) :=
am_bd (f_X10_over N x4 μ) (fun y25 μ24 => if y25 ≤ 0 then (f_X10_goRounds_153 N r_80 r_94 x1 x2 x3 x4 x5 μ24) else (if x5 ≤ 0 then (f_X10_goRounds_153 N r_80 r_94 x1 x2 x3 x4 x5 μ24) else (f_X10_goRounds_154 N r_80 r_94 x1 x2 x3 x4 x5 (-1 : Int32) μ24)))
def f_X10_goRounds_94 (N : Nat) (r_80 : Int32 → Int32 → Int32 → am_M → Option (Unit × am_M)) (r_94 : Int32 → Int32 → Int32 → Int32 → am_M → Option (Unit × am_M)) (x1 : Int32) (x2 : Int32) (x3 : Int32) (x4 : Int32) (μ : am_M) : Option (Unit × am_M) :=
if (μ.1 10 0 6) ≤ x4 then (if x2 = 0 then (f_X10_goRounds_218 N r_80 x1 x2 x3 μ) else (am_bd (f_X10_findWanted N μ) (fun _ μ14 => am_nm (am_ui μ14 10 0 35 x3) (fun μ15 => am_bd (f_X10_bothOver N μ15) (fun y17 μ16 => am_nm (am_ui μ16 10 0 36 y17) (fun μ18 => am_bd (f_X10_keepsLeast N x3 μ18) (fun _ μ19 => f_X10_goRounds_218 N r_80 x1 x2 x3 μ19))))))) else (am_gd ((12 : Int32) + x4) 28 (fun j20 => am_nm (μ.1 160 0 j20) (fun y21 => am_bd (f_X10_over N x4 μ) (fun y23 μ22 => if 0 ≤ y23 then (f_X10_goRounds_135 N r_80 r_94 x1 x2 x3 x4 y21 μ22) else (if (99 : Int32) ≤ y21 then (f_X10_goRounds_135 N r_80 r_94 x1 x2 x3 x4 y21 μ22) else (f_X10_goRounds_154 N r_80 r_94 x1 x2 x3 x4 y21 (1 : Int32) μ22))))))
def f_X10_goRounds_94_lp (N : Nat) (r_80 : Int32 → Int32 → Int32 → am_M → Option (Unit × am_M)) : Nat → Int32 → Int32 → Int32 → Int32 → am_M → Option (Unit × am_M)
  | 0, _, _, _, _, _ => none
  | n + 1, x1, x2, x3, x4, μ => f_X10_goRounds_94 N r_80 (f_X10_goRounds_94_lp N r_80 n) x1 x2 x3 x4 μ
def f_X10_goRounds_80 (N : Nat) (r_80 : Int32 → Int32 → Int32 → am_M → Option (Unit × am_M)) (x1 : Int32) (x2 : Int32) (x3 : Int32) (μ : am_M) : Option (Unit × am_M) :=
if x1 < x3 then (f_X10_goRounds_224 N μ) else (if x2 = 0 then (f_X10_goRounds_224 N μ) else (f_X10_goRounds_94_lp N r_80 N x1 (0 : Int32) x3 (0 : Int32) μ))
def f_X10_goRounds_80_lp (N : Nat) : Nat → Int32 → Int32 → Int32 → am_M → Option (Unit × am_M)
  | 0, _, _, _, _ => none
  | n + 1, x1, x2, x3, μ => f_X10_goRounds_80 N (f_X10_goRounds_80_lp N n) x1 x2 x3 μ
def f_X10_goRounds_2 (N : Nat) (r_2 : Int32 → Int32 → am_M → Option (Unit × am_M)) (x1 : Int32) (x2 : Int32) (μ : am_M) : Option (Unit × am_M) :=
if (μ.1 10 0 6) ≤ x2 then (am_bd (f_X10_findWanted N μ) (fun _ μ1 => am_nm (am_ui μ1 10 0 35 (0 : Int32)) (fun μ2 => am_bd (f_X10_bothOver N μ2) (fun y4 μ3 => am_nm (am_ui μ3 10 0 36 y4) (fun μ5 => am_nm (am_ui μ5 10 0 37 (μ5.1 10 0 36)) (fun μ6 => am_nm (am_ui μ6 10 0 38 (0 : Int32)) (fun μ7 => f_X10_goRounds_80_lp N N x1 (1 : Int32) (1 : Int32) μ7))))))) else (am_gd ((12 : Int32) + x2) 28 (fun j28 => am_gd x2 6 (fun j29 => am_nm (am_ui μ 201 0 j29 (μ.1 160 0 j28)) (fun μ30 => am_gd ((12 : Int32) + x2) 28 (fun j31 => am_gd x2 6 (fun j32 => am_nm (am_ui μ30 200 0 j32 (μ30.1 160 0 j31)) (fun μ33 => r_2 x1 (x2 + (1 : Int32)) μ33)))))))
def f_X10_goRounds_2_lp (N : Nat) : Nat → Int32 → Int32 → am_M → Option (Unit × am_M)
  | 0, _, _, _ => none
  | n + 1, x1, x2, μ => f_X10_goRounds_2 N (f_X10_goRounds_2_lp N n) x1 x2 μ
def f_X10_goRounds_0 (N : Nat) (a1 : Int32) (μ : am_M) : Option (Unit × am_M) :=
f_X10_goRounds_2_lp N N a1 (0 : Int32) μ
def f_X10_goRounds (N : Nat) (a1 : Int32) (μ : am_M) : Option (Unit × am_M) := f_X10_goRounds_0 N a1 μ
set_option maxHeartbeats 4000000 in
set_option maxRecDepth 100000 in
theorem p_X10_goRounds_226 (G : am_G) (l : Launch) (d : Nat) (hd0 : 109 ≤ d) (N : Nat) (r_226 : Int32 → am_M → Option (Unit × am_M)) (H_226 : ∀ (x3 : Int32) (μ : am_M), sm_P G l am_cu d me_X10_goRounds 226 [(0, .ref (am_ad G 10 0)), (3, .int x3)] [] μ (r_226 x3 μ)) (x3 : Int32) (μ : am_M) : sm_P G l am_cu d me_X10_goRounds 226 [(0, .ref (am_ad G 10 0)), (3, .int x3)] [] μ (f_X10_goRounds_226 N r_226 x3 μ) := by
  unfold f_X10_goRounds_226
  refine sm_iload_n (pc := 226) dX10_goRounds_226 rfl 1 rfl ?_
  refine sm_aload_n (pc := 227) dX10_goRounds_227 rfl 0 rfl ?_
  refine sm_geti (pc := 228) dX10_goRounds_228 fi_X10_102 ?_
  refine sm_icmp_ge (pc := 231) (tgt := 270) dX10_goRounds_231 (by decide) ?_ ?_
  · exact sm_vret (pc := 270) dX10_goRounds_270 rfl
  · refine sm_aload_n (pc := 234) dX10_goRounds_234 rfl 0 rfl ?_
    refine sm_getr (pc := 235) dX10_goRounds_235 fi_X10_65 ?_
    refine sm_iload_n (pc := 238) dX10_goRounds_238 rfl 1 rfl ?_
    refine sm_aload_n (pc := 239) dX10_goRounds_239 rfl 0 rfl ?_
    refine sm_getr (pc := 240) dX10_goRounds_240 fi_X10_9 ?_
    refine sm_bipush (pc := 243) dX10_goRounds_243 (v := 12) (by decide) ?_
    refine sm_iload_n (pc := 245) dX10_goRounds_245 rfl 1 rfl ?_
    refine sm_iadd (pc := 246) dX10_goRounds_246 ?_
    refine sm_iald (pc := 247) dX10_goRounds_247 ly_160 (by decide) (fun j8 hj8 => ?_)
    refine sm_iast (pc := 248) dX10_goRounds_248 ly_199 (by decide) (fun j9 hj9 => ?_)
    refine sm_nmM (fun μ10 => ?_)
    refine sm_aload_n (pc := 249) dX10_goRounds_249 rfl 0 rfl ?_
    refine sm_getr (pc := 250) dX10_goRounds_250 fi_X10_9 ?_
    refine sm_bipush (pc := 253) dX10_goRounds_253 (v := 12) (by decide) ?_
    refine sm_iload_n (pc := 255) dX10_goRounds_255 rfl 1 rfl ?_
    refine sm_iadd (pc := 256) dX10_goRounds_256 ?_
    refine sm_aload_n (pc := 257) dX10_goRounds_257 rfl 0 rfl ?_
    refine sm_getr (pc := 258) dX10_goRounds_258 fi_X10_71 ?_
    refine sm_iload_n (pc := 261) dX10_goRounds_261 rfl 1 rfl ?_
    refine sm_iald (pc := 262) dX10_goRounds_262 ly_201 (by decide) (fun j11 hj11 => ?_)
    refine sm_iast (pc := 263) dX10_goRounds_263 ly_160 (by decide) (fun j12 hj12 => ?_)
    refine sm_nmM (fun μ13 => ?_)
    refine sm_iinc (pc := 264) (v := (x3 + (1 : Int32))) (lv' := [(3, .int (x3 + (1 : Int32))), (0, .ref (am_ad G 10 0))]) dX10_goRounds_264 1 rfl rfl (by decide) rfl ?_
    refine sm_goto (pc := 267) (tgt := 226) dX10_goRounds_267 (by decide) ?_
    refine sm_sub [1, 0] rfl ?_
    exact H_226 (x3 + (1 : Int32)) μ13
theorem p_X10_goRounds_226_lp (G : am_G) (l : Launch) (d : Nat) (hd0 : 109 ≤ d) (N : Nat) : ∀ (n : Nat) (x3 : Int32) (μ : am_M), sm_P G l am_cu d me_X10_goRounds 226 [(0, .ref (am_ad G 10 0)), (3, .int x3)] [] μ (f_X10_goRounds_226_lp N n x3 μ) := by
  intro n
  induction n with
  | zero => intros; exact sm_none
  | succ n ih => exact fun x3 μ => p_X10_goRounds_226 G l d hd0 N (f_X10_goRounds_226_lp N n) ih x3 μ
set_option maxHeartbeats 4000000 in
set_option maxRecDepth 100000 in
theorem p_X10_goRounds_224 (G : am_G) (l : Launch) (d : Nat) (hd0 : 109 ≤ d) (N : Nat) (μ : am_M) : sm_P G l am_cu d me_X10_goRounds 224 [(0, .ref (am_ad G 10 0))] [] μ (f_X10_goRounds_224 N μ) := by
  unfold f_X10_goRounds_224
  refine sm_iconst (pc := 224) dX10_goRounds_224 (v := 0) (by decide) ?_
  refine sm_istore_n (pc := 225) (lv' := [(3, .int (0 : Int32)), (0, .ref (am_ad G 10 0))]) dX10_goRounds_225 rfl (by decide) rfl ?_
  refine sm_sub [1, 0] rfl ?_
  exact p_X10_goRounds_226_lp G l d hd0 N N (0 : Int32) μ
set_option maxHeartbeats 4000000 in
set_option maxRecDepth 100000 in
theorem p_X10_goRounds_218 (G : am_G) (l : Launch) (d : Nat) (hd0 : 109 ≤ d) (N : Nat) (r_80 : Int32 → Int32 → Int32 → am_M → Option (Unit × am_M)) (H_80 : ∀ (x1 : Int32) (x2 : Int32) (x3 : Int32) (μ : am_M), sm_P G l am_cu d me_X10_goRounds 80 [(0, .ref (am_ad G 10 0)), (1, .int x1), (2, .int x2), (3, .int x3)] [] μ (r_80 x1 x2 x3 μ)) (x1 : Int32) (x2 : Int32) (x3 : Int32) (μ : am_M) : sm_P G l am_cu d me_X10_goRounds 218 [(0, .ref (am_ad G 10 0)), (1, .int x1), (2, .int x2), (3, .int x3)] [] μ (f_X10_goRounds_218 N r_80 x1 x2 x3 μ) := by
  unfold f_X10_goRounds_218
  refine sm_iinc (pc := 218) (v := (x3 + (1 : Int32))) (lv' := [(3, .int (x3 + (1 : Int32))), (0, .ref (am_ad G 10 0)), (1, .int x1), (2, .int x2)]) dX10_goRounds_218 3 rfl rfl (by decide) rfl ?_
  refine sm_goto (pc := 221) (tgt := 80) dX10_goRounds_221 (by decide) ?_
  refine sm_sub [1, 2, 3, 0] rfl ?_
  exact H_80 x1 x2 (x3 + (1 : Int32)) μ
set_option maxHeartbeats 4000000 in
set_option maxRecDepth 100000 in
theorem p_X10_goRounds_185 (G : am_G) (l : Launch) (d : Nat) (hd0 : 109 ≤ d) (N : Nat) (r_80 : Int32 → Int32 → Int32 → am_M → Option (Unit × am_M)) (r_94 : Int32 → Int32 → Int32 → Int32 → am_M → Option (Unit × am_M)) (H_80 : ∀ (x1 : Int32) (x2 : Int32) (x3 : Int32) (μ : am_M), sm_P G l am_cu d me_X10_goRounds 80 [(0, .ref (am_ad G 10 0)), (1, .int x1), (2, .int x2), (3, .int x3)] [] μ (r_80 x1 x2 x3 μ)) (H_94 : ∀ (x1 : Int32) (x2 : Int32) (x3 : Int32) (x4 : Int32) (μ : am_M), sm_P G l am_cu d me_X10_goRounds 94 [(0, .ref (am_ad G 10 0)), (1, .int x1), (2, .int x2), (3, .int x3), (4, .int x4)] [] μ (r_94 x1 x2 x3 x4 μ)) (x1 : Int32) (x3 : Int32) (x4 : Int32) (s0 : Int32) (μ : am_M) : sm_P G l am_cu d me_X10_goRounds 185 [(0, .ref (am_ad G 10 0)), (1, .int x1), (3, .int x3), (4, .int x4)] [.int s0] μ (f_X10_goRounds_185 N r_80 r_94 x1 x3 x4 s0 μ) := by
  unfold f_X10_goRounds_185
  refine sm_istore_n (pc := 185) (lv' := [(2, .int s0), (0, .ref (am_ad G 10 0)), (1, .int x1), (3, .int x3), (4, .int x4)]) dX10_goRounds_185 rfl (by decide) rfl ?_
  refine sm_iinc (pc := 186) (v := (x4 + (1 : Int32))) (lv' := [(4, .int (x4 + (1 : Int32))), (2, .int s0), (0, .ref (am_ad G 10 0)), (1, .int x1), (3, .int x3)]) dX10_goRounds_186 4 rfl rfl (by decide) rfl ?_
  refine sm_goto (pc := 189) (tgt := 94) dX10_goRounds_189 (by decide) ?_
  refine sm_sub [2, 3, 1, 4, 0] rfl ?_
  exact H_94 x1 s0 x3 (x4 + (1 : Int32)) μ
set_option maxHeartbeats 4000000 in
set_option maxRecDepth 100000 in
theorem p_X10_goRounds_180 (G : am_G) (l : Launch) (d : Nat) (hd0 : 109 ≤ d) (N : Nat) (r_80 : Int32 → Int32 → Int32 → am_M → Option (Unit × am_M)) (r_94 : Int32 → Int32 → Int32 → Int32 → am_M → Option (Unit × am_M)) (H_80 : ∀ (x1 : Int32) (x2 : Int32) (x3 : Int32) (μ : am_M), sm_P G l am_cu d me_X10_goRounds 80 [(0, .ref (am_ad G 10 0)), (1, .int x1), (2, .int x2), (3, .int x3)] [] μ (r_80 x1 x2 x3 μ)) (H_94 : ∀ (x1 : Int32) (x2 : Int32) (x3 : Int32) (x4 : Int32) (μ : am_M), sm_P G l am_cu d me_X10_goRounds 94 [(0, .ref (am_ad G 10 0)), (1, .int x1), (2, .int x2), (3, .int x3), (4, .int x4)] [] μ (r_94 x1 x2 x3 x4 μ)) (x1 : Int32) (x3 : Int32) (x4 : Int32) (μ : am_M) : sm_P G l am_cu d me_X10_goRounds 180 [(0, .ref (am_ad G 10 0)), (1, .int x1), (3, .int x3), (4, .int x4)] [] μ (f_X10_goRounds_180 N r_80 r_94 x1 x3 x4 μ) := by
  unfold f_X10_goRounds_180
  refine sm_iconst (pc := 180) dX10_goRounds_180 (v := 1) (by decide) ?_
  refine sm_goto (pc := 181) (tgt := 185) dX10_goRounds_181 (by decide) ?_
  exact p_X10_goRounds_185 G l d hd0 N r_80 r_94 H_80 H_94 x1 x3 x4 (1 : Int32) μ
set_option maxHeartbeats 4000000 in
set_option maxRecDepth 100000 in
theorem p_X10_goRounds_154 (G : am_G) (l : Launch) (d : Nat) (hd0 : 109 ≤ d) (N : Nat) (r_80 : Int32 → Int32 → Int32 → am_M → Option (Unit × am_M)) (r_94 : Int32 → Int32 → Int32 → Int32 → am_M → Option (Unit × am_M)) (H_80 : ∀ (x1 : Int32) (x2 : Int32) (x3 : Int32) (μ : am_M), sm_P G l am_cu d me_X10_goRounds 80 [(0, .ref (am_ad G 10 0)), (1, .int x1), (2, .int x2), (3, .int x3)] [] μ (r_80 x1 x2 x3 μ)) (H_94 : ∀ (x1 : Int32) (x2 : Int32) (x3 : Int32) (x4 : Int32) (μ : am_M), sm_P G l am_cu d me_X10_goRounds 94 [(0, .ref (am_ad G 10 0)), (1, .int x1), (2, .int x2), (3, .int x3), (4, .int x4)] [] μ (r_94 x1 x2 x3 x4 μ)) (x1 : Int32) (x2 : Int32) (x3 : Int32) (x4 : Int32) (x5 : Int32) (s0 : Int32) (μ : am_M) : sm_P G l am_cu d me_X10_goRounds 154 [(0, .ref (am_ad G 10 0)), (1, .int x1), (2, .int x2), (3, .int x3), (4, .int x4), (5, .int x5)] [.int s0] μ (f_X10_goRounds_154 N r_80 r_94 x1 x2 x3 x4 x5 s0 μ) := by
  unfold f_X10_goRounds_154
  refine sm_istore (pc := 154) (lv' := [(6, .int s0), (0, .ref (am_ad G 10 0)), (1, .int x1), (2, .int x2), (3, .int x3), (4, .int x4), (5, .int x5)]) dX10_goRounds_154 (by decide) rfl ?_
  refine sm_aload_n (pc := 156) dX10_goRounds_156 rfl 1 rfl ?_
  refine sm_getr (pc := 157) dX10_goRounds_157 fi_X10_9 ?_
  refine sm_bipush (pc := 160) dX10_goRounds_160 (v := 12) (by decide) ?_
  refine sm_iload (pc := 162) dX10_goRounds_162 5 rfl ?_
  refine sm_iadd (pc := 164) dX10_goRounds_164 ?_
  refine sm_iload (pc := 165) dX10_goRounds_165 6 rfl ?_
  refine sm_iload (pc := 167) dX10_goRounds_167 0 rfl ?_
  refine sm_iadd (pc := 169) dX10_goRounds_169 ?_
  refine sm_iast (pc := 170) dX10_goRounds_170 ly_160 (by decide) (fun j26 hj26 => ?_)
  refine sm_nmM (fun μ27 => ?_)
  refine sm_iload_n (pc := 171) dX10_goRounds_171 rfl 3 rfl ?_
  refine sm_if_ne (pc := 172) (tgt := 180) dX10_goRounds_172 (by decide) ?_ ?_
  · refine sm_sub [1, 2, 4, 5] rfl ?_
    exact p_X10_goRounds_180 G l d hd0 N r_80 r_94 H_80 H_94 x1 x3 x4 μ27
  · refine sm_iload (pc := 175) dX10_goRounds_175 0 rfl ?_
    refine sm_if_eq (pc := 177) (tgt := 184) dX10_goRounds_177 (by decide) ?_ ?_
    · refine sm_iconst (pc := 184) dX10_goRounds_184 (v := 0) (by decide) ?_
      refine sm_sub [1, 2, 4, 5] rfl ?_
      exact p_X10_goRounds_185 G l d hd0 N r_80 r_94 H_80 H_94 x1 x3 x4 (0 : Int32) μ27
    · refine sm_sub [1, 2, 4, 5] rfl ?_
      exact p_X10_goRounds_180 G l d hd0 N r_80 r_94 H_80 H_94 x1 x3 x4 μ27
set_option maxHeartbeats 4000000 in
set_option maxRecDepth 100000 in
theorem p_X10_goRounds_153 (G : am_G) (l : Launch) (d : Nat) (hd0 : 109 ≤ d) (N : Nat) (r_80 : Int32 → Int32 → Int32 → am_M → Option (Unit × am_M)) (r_94 : Int32 → Int32 → Int32 → Int32 → am_M → Option (Unit × am_M)) (H_80 : ∀ (x1 : Int32) (x2 : Int32) (x3 : Int32) (μ : am_M), sm_P G l am_cu d me_X10_goRounds 80 [(0, .ref (am_ad G 10 0)), (1, .int x1), (2, .int x2), (3, .int x3)] [] μ (r_80 x1 x2 x3 μ)) (H_94 : ∀ (x1 : Int32) (x2 : Int32) (x3 : Int32) (x4 : Int32) (μ : am_M), sm_P G l am_cu d me_X10_goRounds 94 [(0, .ref (am_ad G 10 0)), (1, .int x1), (2, .int x2), (3, .int x3), (4, .int x4)] [] μ (r_94 x1 x2 x3 x4 μ)) (x1 : Int32) (x2 : Int32) (x3 : Int32) (x4 : Int32) (x5 : Int32) (μ : am_M) : sm_P G l am_cu d me_X10_goRounds 153 [(0, .ref (am_ad G 10 0)), (1, .int x1), (2, .int x2), (3, .int x3), (4, .int x4), (5, .int x5)] [] μ (f_X10_goRounds_153 N r_80 r_94 x1 x2 x3 x4 x5 μ) := by
  unfold f_X10_goRounds_153
  refine sm_iconst (pc := 153) dX10_goRounds_153 (v := 0) (by decide) ?_
  exact p_X10_goRounds_154 G l d hd0 N r_80 r_94 H_80 H_94 x1 x2 x3 x4 x5 (0 : Int32) μ
set_option maxHeartbeats 4000000 in
set_option maxRecDepth 100000 in
theorem p_X10_goRounds_135 (G : am_G) (l : Launch) (d : Nat) (hd0 : 109 ≤ d) (N : Nat) (r_80 : Int32 → Int32 → Int32 → am_M → Option (Unit × am_M)) (r_94 : Int32 → Int32 → Int32 → Int32 → am_M → Option (Unit × am_M)) (H_80 : ∀ (x1 : Int32) (x2 : Int32) (x3 : Int32) (μ : am_M), sm_P G l am_cu d me_X10_goRounds 80 [(0, .ref (am_ad G 10 0)), (1, .int x1), (2, .int x2), (3, .int x3)] [] μ (r_80 x1 x2 x3 μ)) (H_94 : ∀ (x1 : Int32) (x2 : Int32) (x3 : Int32) (x4 : Int32) (μ : am_M), sm_P G l am_cu d me_X10_goRounds 94 [(0, .ref (am_ad G 10 0)), (1, .int x1), (2, .int x2), (3, .int x3), (4, .int x4)] [] μ (r_94 x1 x2 x3 x4 μ)) (x1 : Int32) (x2 : Int32) (x3 : Int32) (x4 : Int32) (x5 : Int32) (μ : am_M) : sm_P G l am_cu d me_X10_goRounds 135 [(0, .ref (am_ad G 10 0)), (1, .int x1), (2, .int x2), (3, .int x3), (4, .int x4), (5, .int x5)] [] μ (f_X10_goRounds_135 N r_80 r_94 x1 x2 x3 x4 x5 μ) := by
  unfold f_X10_goRounds_135
  refine sm_aload_n (pc := 135) dX10_goRounds_135 rfl 0 rfl ?_
  refine sm_iload (pc := 136) dX10_goRounds_136 4 rfl ?_
  refine sm_callVi (pc := 138) (As := [.int x4]) (rest := []) dX10_goRounds_138 (c_X10_over G l N x4 μ) (by omega) wl_X10_250 vm_X10_over rfl rfl (Nat.le_of_ble_eq_true rfl) (fun y25 μ24 => ?_)
  refine sm_if_le (pc := 141) (tgt := 153) dX10_goRounds_141 (by decide) ?_ ?_
  · exact p_X10_goRounds_153 G l d hd0 N r_80 r_94 H_80 H_94 x1 x2 x3 x4 x5 μ24
  · refine sm_iload (pc := 144) dX10_goRounds_144 5 rfl ?_
    refine sm_if_le (pc := 146) (tgt := 153) dX10_goRounds_146 (by decide) ?_ ?_
    · exact p_X10_goRounds_153 G l d hd0 N r_80 r_94 H_80 H_94 x1 x2 x3 x4 x5 μ24
    · refine sm_iconst (pc := 149) dX10_goRounds_149 (v := -1) (by decide) ?_
      refine sm_goto (pc := 150) (tgt := 154) dX10_goRounds_150 (by decide) ?_
      exact p_X10_goRounds_154 G l d hd0 N r_80 r_94 H_80 H_94 x1 x2 x3 x4 x5 (-1 : Int32) μ24
set_option maxHeartbeats 4000000 in
set_option maxRecDepth 100000 in
theorem p_X10_goRounds_94 (G : am_G) (l : Launch) (d : Nat) (hd0 : 109 ≤ d) (N : Nat) (r_80 : Int32 → Int32 → Int32 → am_M → Option (Unit × am_M)) (r_94 : Int32 → Int32 → Int32 → Int32 → am_M → Option (Unit × am_M)) (H_80 : ∀ (x1 : Int32) (x2 : Int32) (x3 : Int32) (μ : am_M), sm_P G l am_cu d me_X10_goRounds 80 [(0, .ref (am_ad G 10 0)), (1, .int x1), (2, .int x2), (3, .int x3)] [] μ (r_80 x1 x2 x3 μ)) (H_94 : ∀ (x1 : Int32) (x2 : Int32) (x3 : Int32) (x4 : Int32) (μ : am_M), sm_P G l am_cu d me_X10_goRounds 94 [(0, .ref (am_ad G 10 0)), (1, .int x1), (2, .int x2), (3, .int x3), (4, .int x4)] [] μ (r_94 x1 x2 x3 x4 μ)) (x1 : Int32) (x2 : Int32) (x3 : Int32) (x4 : Int32) (μ : am_M) : sm_P G l am_cu d me_X10_goRounds 94 [(0, .ref (am_ad G 10 0)), (1, .int x1), (2, .int x2), (3, .int x3), (4, .int x4)] [] μ (f_X10_goRounds_94 N r_80 r_94 x1 x2 x3 x4 μ) := by
  unfold f_X10_goRounds_94
  refine sm_iload (pc := 94) dX10_goRounds_94 4 rfl ?_
  refine sm_aload_n (pc := 96) dX10_goRounds_96 rfl 0 rfl ?_
  refine sm_geti (pc := 97) dX10_goRounds_97 fi_X10_102 ?_
  refine sm_icmp_ge (pc := 100) (tgt := 192) dX10_goRounds_100 (by decide) ?_ ?_
  · refine sm_iload_n (pc := 192) dX10_goRounds_192 rfl 2 rfl ?_
    refine sm_if_eq (pc := 193) (tgt := 218) dX10_goRounds_193 (by decide) ?_ ?_
    · refine sm_sub [0, 1, 2, 3] rfl ?_
      exact p_X10_goRounds_218 G l d hd0 N r_80 H_80 x1 x2 x3 μ
    · refine sm_aload_n (pc := 196) dX10_goRounds_196 rfl 0 rfl ?_
      refine sm_callVv (pc := 197) (As := []) (rest := []) dX10_goRounds_197 (c_X10_findWanted G l N μ) (by omega) wl_X10_257 vm_X10_findWanted rfl rfl (Nat.le_of_ble_eq_true rfl) (fun _ μ14 => ?_)
      refine sm_aload_n (pc := 200) dX10_goRounds_200 rfl 0 rfl ?_
      refine sm_iload_n (pc := 201) dX10_goRounds_201 rfl 3 rfl ?_
      refine sm_puti (pc := 202) dX10_goRounds_202 fi_X10_263 ?_
      refine sm_nmM (fun μ15 => ?_)
      refine sm_aload_n (pc := 205) dX10_goRounds_205 rfl 0 rfl ?_
      refine sm_aload_n (pc := 206) dX10_goRounds_206 rfl 0 rfl ?_
      refine sm_callVi (pc := 207) (As := []) (rest := [.ref (am_ad G 10 0)]) dX10_goRounds_207 (c_X10_bothOver G l N μ15) (by omega) wl_X10_260 vm_X10_bothOver rfl rfl (Nat.le_of_ble_eq_true rfl) (fun y17 μ16 => ?_)
      refine sm_puti (pc := 210) dX10_goRounds_210 fi_X10_266 ?_
      refine sm_nmM (fun μ18 => ?_)
      refine sm_aload_n (pc := 213) dX10_goRounds_213 rfl 0 rfl ?_
      refine sm_iload_n (pc := 214) dX10_goRounds_214 rfl 3 rfl ?_
      refine sm_callVv (pc := 215) (As := [.int x3]) (rest := []) dX10_goRounds_215 (c_X10_keepsLeast G l N x3 μ18) (by omega) wl_X10_275 vm_X10_keepsLeast rfl rfl (Nat.le_of_ble_eq_true rfl) (fun _ μ19 => ?_)
      refine sm_sub [0, 1, 2, 3] rfl ?_
      exact p_X10_goRounds_218 G l d hd0 N r_80 H_80 x1 x2 x3 μ19
  · refine sm_aload_n (pc := 103) dX10_goRounds_103 rfl 0 rfl ?_
    refine sm_getr (pc := 104) dX10_goRounds_104 fi_X10_9 ?_
    refine sm_bipush (pc := 107) dX10_goRounds_107 (v := 12) (by decide) ?_
    refine sm_iload (pc := 109) dX10_goRounds_109 4 rfl ?_
    refine sm_iadd (pc := 111) dX10_goRounds_111 ?_
    refine sm_iald (pc := 112) dX10_goRounds_112 ly_160 (by decide) (fun j20 hj20 => ?_)
    refine sm_nmI (fun y21 => ?_)
    refine sm_istore (pc := 113) (lv' := [(5, .int y21), (0, .ref (am_ad G 10 0)), (1, .int x1), (2, .int x2), (3, .int x3), (4, .int x4)]) dX10_goRounds_113 (by decide) rfl ?_
    refine sm_aload_n (pc := 115) dX10_goRounds_115 rfl 1 rfl ?_
    refine sm_iload (pc := 116) dX10_goRounds_116 5 rfl ?_
    refine sm_callVi (pc := 118) (As := [.int x4]) (rest := []) dX10_goRounds_118 (c_X10_over G l N x4 μ) (by omega) wl_X10_250 vm_X10_over rfl rfl (Nat.le_of_ble_eq_true rfl) (fun y23 μ22 => ?_)
    refine sm_if_ge (pc := 121) (tgt := 135) dX10_goRounds_121 (by decide) ?_ ?_
    · refine sm_sub [1, 2, 3, 4, 5, 0] rfl ?_
      exact p_X10_goRounds_135 G l d hd0 N r_80 r_94 H_80 H_94 x1 x2 x3 x4 y21 μ22
    · refine sm_iload (pc := 124) dX10_goRounds_124 0 rfl ?_
      refine sm_bipush (pc := 126) dX10_goRounds_126 (v := 99) (by decide) ?_
      refine sm_icmp_ge (pc := 128) (tgt := 135) dX10_goRounds_128 (by decide) ?_ ?_
      · refine sm_sub [1, 2, 3, 4, 5, 0] rfl ?_
        exact p_X10_goRounds_135 G l d hd0 N r_80 r_94 H_80 H_94 x1 x2 x3 x4 y21 μ22
      · refine sm_iconst (pc := 131) dX10_goRounds_131 (v := 1) (by decide) ?_
        refine sm_goto (pc := 132) (tgt := 154) dX10_goRounds_132 (by decide) ?_
        refine sm_sub [1, 2, 3, 4, 5, 0] rfl ?_
        exact p_X10_goRounds_154 G l d hd0 N r_80 r_94 H_80 H_94 x1 x2 x3 x4 y21 (1 : Int32) μ22
theorem p_X10_goRounds_94_lp (G : am_G) (l : Launch) (d : Nat) (hd0 : 109 ≤ d) (N : Nat) (r_80 : Int32 → Int32 → Int32 → am_M → Option (Unit × am_M)) (H_80 : ∀ (x1 : Int32) (x2 : Int32) (x3 : Int32) (μ : am_M), sm_P G l am_cu d me_X10_goRounds 80 [(0, .ref (am_ad G 10 0)), (1, .int x1), (2, .int x2), (3, .int x3)] [] μ (r_80 x1 x2 x3 μ)) : ∀ (n : Nat) (x1 : Int32) (x2 : Int32) (x3 : Int32) (x4 : Int32) (μ : am_M), sm_P G l am_cu d me_X10_goRounds 94 [(0, .ref (am_ad G 10 0)), (1, .int x1), (2, .int x2), (3, .int x3), (4, .int x4)] [] μ (f_X10_goRounds_94_lp N r_80 n x1 x2 x3 x4 μ) := by
  intro n
  induction n with
  | zero => intros; exact sm_none
  | succ n ih => exact fun x1 x2 x3 x4 μ => p_X10_goRounds_94 G l d hd0 N r_80 (f_X10_goRounds_94_lp N r_80 n) H_80 ih x1 x2 x3 x4 μ
set_option maxHeartbeats 4000000 in
set_option maxRecDepth 100000 in
theorem p_X10_goRounds_80 (G : am_G) (l : Launch) (d : Nat) (hd0 : 109 ≤ d) (N : Nat) (r_80 : Int32 → Int32 → Int32 → am_M → Option (Unit × am_M)) (H_80 : ∀ (x1 : Int32) (x2 : Int32) (x3 : Int32) (μ : am_M), sm_P G l am_cu d me_X10_goRounds 80 [(0, .ref (am_ad G 10 0)), (1, .int x1), (2, .int x2), (3, .int x3)] [] μ (r_80 x1 x2 x3 μ)) (x1 : Int32) (x2 : Int32) (x3 : Int32) (μ : am_M) : sm_P G l am_cu d me_X10_goRounds 80 [(0, .ref (am_ad G 10 0)), (1, .int x1), (2, .int x2), (3, .int x3)] [] μ (f_X10_goRounds_80 N r_80 x1 x2 x3 μ) := by
  unfold f_X10_goRounds_80
  refine sm_iload_n (pc := 80) dX10_goRounds_80 rfl 3 rfl ?_
  refine sm_iload_n (pc := 81) dX10_goRounds_81 rfl 1 rfl ?_
  refine sm_icmp_gt (pc := 82) (tgt := 224) dX10_goRounds_82 (by decide) ?_ ?_
  · refine sm_sub [0] rfl ?_
    exact p_X10_goRounds_224 G l d hd0 N μ
  · refine sm_iload_n (pc := 85) dX10_goRounds_85 rfl 2 rfl ?_
    refine sm_if_eq (pc := 86) (tgt := 224) dX10_goRounds_86 (by decide) ?_ ?_
    · refine sm_sub [0] rfl ?_
      exact p_X10_goRounds_224 G l d hd0 N μ
    · refine sm_iconst (pc := 89) dX10_goRounds_89 (v := 0) (by decide) ?_
      refine sm_istore_n (pc := 90) (lv' := [(2, .int (0 : Int32)), (0, .ref (am_ad G 10 0)), (1, .int x1), (3, .int x3)]) dX10_goRounds_90 rfl (by decide) rfl ?_
      refine sm_iconst (pc := 91) dX10_goRounds_91 (v := 0) (by decide) ?_
      refine sm_istore (pc := 92) (lv' := [(4, .int (0 : Int32)), (2, .int (0 : Int32)), (0, .ref (am_ad G 10 0)), (1, .int x1), (3, .int x3)]) dX10_goRounds_92 (by decide) rfl ?_
      refine sm_sub [2, 3, 1, 4, 0] rfl ?_
      exact p_X10_goRounds_94_lp G l d hd0 N r_80 H_80 N x1 (0 : Int32) x3 (0 : Int32) μ
theorem p_X10_goRounds_80_lp (G : am_G) (l : Launch) (d : Nat) (hd0 : 109 ≤ d) (N : Nat) : ∀ (n : Nat) (x1 : Int32) (x2 : Int32) (x3 : Int32) (μ : am_M), sm_P G l am_cu d me_X10_goRounds 80 [(0, .ref (am_ad G 10 0)), (1, .int x1), (2, .int x2), (3, .int x3)] [] μ (f_X10_goRounds_80_lp N n x1 x2 x3 μ) := by
  intro n
  induction n with
  | zero => intros; exact sm_none
  | succ n ih => exact fun x1 x2 x3 μ => p_X10_goRounds_80 G l d hd0 N (f_X10_goRounds_80_lp N n) ih x1 x2 x3 μ
set_option maxHeartbeats 4000000 in
set_option maxRecDepth 100000 in
theorem p_X10_goRounds_2 (G : am_G) (l : Launch) (d : Nat) (hd0 : 109 ≤ d) (N : Nat) (r_2 : Int32 → Int32 → am_M → Option (Unit × am_M)) (H_2 : ∀ (x1 : Int32) (x2 : Int32) (μ : am_M), sm_P G l am_cu d me_X10_goRounds 2 [(0, .ref (am_ad G 10 0)), (1, .int x1), (2, .int x2)] [] μ (r_2 x1 x2 μ)) (x1 : Int32) (x2 : Int32) (μ : am_M) : sm_P G l am_cu d me_X10_goRounds 2 [(0, .ref (am_ad G 10 0)), (1, .int x1), (2, .int x2)] [] μ (f_X10_goRounds_2 N r_2 x1 x2 μ) := by
  unfold f_X10_goRounds_2
  refine sm_iload_n (pc := 2) dX10_goRounds_2 rfl 2 rfl ?_
  refine sm_aload_n (pc := 3) dX10_goRounds_3 rfl 0 rfl ?_
  refine sm_geti (pc := 4) dX10_goRounds_4 fi_X10_102 ?_
  refine sm_icmp_ge (pc := 7) (tgt := 46) dX10_goRounds_7 (by decide) ?_ ?_
  · refine sm_aload_n (pc := 46) dX10_goRounds_46 rfl 0 rfl ?_
    refine sm_callVv (pc := 47) (As := []) (rest := []) dX10_goRounds_47 (c_X10_findWanted G l N μ) (by omega) wl_X10_257 vm_X10_findWanted rfl rfl (Nat.le_of_ble_eq_true rfl) (fun _ μ1 => ?_)
    refine sm_aload_n (pc := 50) dX10_goRounds_50 rfl 0 rfl ?_
    refine sm_iconst (pc := 51) dX10_goRounds_51 (v := 0) (by decide) ?_
    refine sm_puti (pc := 52) dX10_goRounds_52 fi_X10_263 ?_
    refine sm_nmM (fun μ2 => ?_)
    refine sm_aload_n (pc := 55) dX10_goRounds_55 rfl 0 rfl ?_
    refine sm_aload_n (pc := 56) dX10_goRounds_56 rfl 0 rfl ?_
    refine sm_callVi (pc := 57) (As := []) (rest := [.ref (am_ad G 10 0)]) dX10_goRounds_57 (c_X10_bothOver G l N μ2) (by omega) wl_X10_260 vm_X10_bothOver rfl rfl (Nat.le_of_ble_eq_true rfl) (fun y4 μ3 => ?_)
    refine sm_puti (pc := 60) dX10_goRounds_60 fi_X10_266 ?_
    refine sm_nmM (fun μ5 => ?_)
    refine sm_aload_n (pc := 63) dX10_goRounds_63 rfl 0 rfl ?_
    refine sm_aload_n (pc := 64) dX10_goRounds_64 rfl 0 rfl ?_
    refine sm_geti (pc := 65) dX10_goRounds_65 fi_X10_266 ?_
    refine sm_puti (pc := 68) dX10_goRounds_68 fi_X10_269 ?_
    refine sm_nmM (fun μ6 => ?_)
    refine sm_aload_n (pc := 71) dX10_goRounds_71 rfl 0 rfl ?_
    refine sm_iconst (pc := 72) dX10_goRounds_72 (v := 0) (by decide) ?_
    refine sm_puti (pc := 73) dX10_goRounds_73 fi_X10_272 ?_
    refine sm_nmM (fun μ7 => ?_)
    refine sm_iconst (pc := 76) dX10_goRounds_76 (v := 1) (by decide) ?_
    refine sm_istore_n (pc := 77) (lv' := [(2, .int (1 : Int32)), (0, .ref (am_ad G 10 0)), (1, .int x1)]) dX10_goRounds_77 rfl (by decide) rfl ?_
    refine sm_iconst (pc := 78) dX10_goRounds_78 (v := 1) (by decide) ?_
    refine sm_istore_n (pc := 79) (lv' := [(3, .int (1 : Int32)), (2, .int (1 : Int32)), (0, .ref (am_ad G 10 0)), (1, .int x1)]) dX10_goRounds_79 rfl (by decide) rfl ?_
    refine sm_sub [2, 3, 1, 0] rfl ?_
    exact p_X10_goRounds_80_lp G l d hd0 N N x1 (1 : Int32) (1 : Int32) μ7
  · refine sm_aload_n (pc := 10) dX10_goRounds_10 rfl 0 rfl ?_
    refine sm_getr (pc := 11) dX10_goRounds_11 fi_X10_71 ?_
    refine sm_iload_n (pc := 14) dX10_goRounds_14 rfl 2 rfl ?_
    refine sm_aload_n (pc := 15) dX10_goRounds_15 rfl 0 rfl ?_
    refine sm_getr (pc := 16) dX10_goRounds_16 fi_X10_9 ?_
    refine sm_bipush (pc := 19) dX10_goRounds_19 (v := 12) (by decide) ?_
    refine sm_iload_n (pc := 21) dX10_goRounds_21 rfl 2 rfl ?_
    refine sm_iadd (pc := 22) dX10_goRounds_22 ?_
    refine sm_iald (pc := 23) dX10_goRounds_23 ly_160 (by decide) (fun j28 hj28 => ?_)
    refine sm_iast (pc := 24) dX10_goRounds_24 ly_201 (by decide) (fun j29 hj29 => ?_)
    refine sm_nmM (fun μ30 => ?_)
    refine sm_aload_n (pc := 25) dX10_goRounds_25 rfl 0 rfl ?_
    refine sm_getr (pc := 26) dX10_goRounds_26 fi_X10_68 ?_
    refine sm_iload_n (pc := 29) dX10_goRounds_29 rfl 2 rfl ?_
    refine sm_aload_n (pc := 30) dX10_goRounds_30 rfl 0 rfl ?_
    refine sm_getr (pc := 31) dX10_goRounds_31 fi_X10_9 ?_
    refine sm_bipush (pc := 34) dX10_goRounds_34 (v := 12) (by decide) ?_
    refine sm_iload_n (pc := 36) dX10_goRounds_36 rfl 2 rfl ?_
    refine sm_iadd (pc := 37) dX10_goRounds_37 ?_
    refine sm_iald (pc := 38) dX10_goRounds_38 ly_160 (by decide) (fun j31 hj31 => ?_)
    refine sm_iast (pc := 39) dX10_goRounds_39 ly_200 (by decide) (fun j32 hj32 => ?_)
    refine sm_nmM (fun μ33 => ?_)
    refine sm_iinc (pc := 40) (v := (x2 + (1 : Int32))) (lv' := [(2, .int (x2 + (1 : Int32))), (0, .ref (am_ad G 10 0)), (1, .int x1)]) dX10_goRounds_40 2 rfl rfl (by decide) rfl ?_
    refine sm_goto (pc := 43) (tgt := 2) dX10_goRounds_43 (by decide) ?_
    refine sm_sub [1, 2, 0] rfl ?_
    exact H_2 x1 (x2 + (1 : Int32)) μ33
theorem p_X10_goRounds_2_lp (G : am_G) (l : Launch) (d : Nat) (hd0 : 109 ≤ d) (N : Nat) : ∀ (n : Nat) (x1 : Int32) (x2 : Int32) (μ : am_M), sm_P G l am_cu d me_X10_goRounds 2 [(0, .ref (am_ad G 10 0)), (1, .int x1), (2, .int x2)] [] μ (f_X10_goRounds_2_lp N n x1 x2 μ) := by
  intro n
  induction n with
  | zero => intros; exact sm_none
  | succ n ih => exact fun x1 x2 μ => p_X10_goRounds_2 G l d hd0 N (f_X10_goRounds_2_lp N n) ih x1 x2 μ
set_option maxHeartbeats 4000000 in
set_option maxRecDepth 100000 in
theorem p_X10_goRounds_0 (G : am_G) (l : Launch) (d : Nat) (hd0 : 109 ≤ d) (N : Nat) (a1 : Int32) (μ : am_M) : sm_P G l am_cu d me_X10_goRounds 0 [(0, .ref (am_ad G 10 0)), (1, .int a1)] [] μ (f_X10_goRounds_0 N a1 μ) := by
  unfold f_X10_goRounds_0
  refine sm_iconst (pc := 0) dX10_goRounds_0 (v := 0) (by decide) ?_
  refine sm_istore_n (pc := 1) (lv' := [(2, .int (0 : Int32)), (0, .ref (am_ad G 10 0)), (1, .int a1)]) dX10_goRounds_1 rfl (by decide) rfl ?_
  refine sm_sub [1, 2, 0] rfl ?_
  exact p_X10_goRounds_2_lp G l d hd0 N N a1 (0 : Int32) μ
theorem c_X10_goRounds (G : am_G) (l : Launch) (N : Nat) (a1 : Int32) (μ : am_M) : ct_P G l am_cu 109 me_X10_goRounds [.ref (am_ad G 10 0), .int a1] μ (f_X10_goRounds N a1 μ) := ct_of (by decide +kernel) (Nat.le_of_ble_eq_true rfl) rfl (p_X10_goRounds_0 G l 109 (Nat.le_refl _) N a1 μ)

def f_X10_areRounds_0 (N : Nat) (a0 : Int32) (μ : am_M) : Option (Int32 × am_M) :=
am_bd (f_X10_within N a0.toInt64 (1 : Int64) (60 : Int64) μ) (fun y2 μ1 => am_z y2 μ1)
def f_X10_areRounds (N : Nat) (a0 : Int32) (μ : am_M) : Option (Int32 × am_M) := f_X10_areRounds_0 N a0 μ
set_option maxHeartbeats 4000000 in
set_option maxRecDepth 100000 in
theorem p_X10_areRounds_0 (G : am_G) (l : Launch) (d : Nat) (hd0 : 1 ≤ d) (N : Nat) (a0 : Int32) (μ : am_M) : sm_P G l am_ci d me_X10_areRounds 0 [(0, .int a0)] [] μ (f_X10_areRounds_0 N a0 μ) := by
  unfold f_X10_areRounds_0
  refine sm_iload_n (pc := 0) dX10_areRounds_0 rfl 0 rfl ?_
  refine sm_i2l (pc := 1) dX10_areRounds_1 ?_
  refine sm_lconst (pc := 2) dX10_areRounds_2 (v := 1) (by decide) ?_
  refine sm_ldc2 (pc := 3) dX10_areRounds_3 (v := 60) wk_X10_278 ?_
  refine sm_callSi (pc := 6) (As := [.long a0.toInt64, .long (1 : Int64), .long (60 : Int64)]) (rest := []) dX10_areRounds_6 (c_X10_within G l N a0.toInt64 (1 : Int64) (60 : Int64) μ) (by omega) wl_X10_105 st_X10_within rfl rfl (Nat.le_of_ble_eq_true rfl) (fun y2 μ1 => ?_)
  exact sm_zret (pc := 9) dX10_areRounds_9 rfl
theorem c_X10_areRounds (G : am_G) (l : Launch) (N : Nat) (a0 : Int32) (μ : am_M) : ct_P G l am_ci 1 me_X10_areRounds [.int a0] μ (f_X10_areRounds N a0 μ) := ct_of (by decide +kernel) (Nat.le_of_ble_eq_true rfl) rfl (p_X10_areRounds_0 G l 1 (Nat.le_refl _) N a0 μ)

def f_X10_found_0 (N : Nat) (a1 : Int32) (a2 : Int32) (μ : am_M) : Option (Int32 × am_M) :=
am_bd (f_X10_areRounds N a1 μ) (fun y2 μ1 => if y2 = 0 then (some ((-1 : Int32), μ1)) else (am_bd (f_X10_within N a2.toInt64 (-4 : Int64) ((μ1.1 10 0 6) - (1 : Int32)).toInt64 μ1) (fun y4 μ3 => if y4 = 0 then (some ((-1 : Int32), μ3)) else (am_bd (f_X10_goRounds N a1 μ3) (fun _ μ5 => if a2 = (-4 : Int32) then (some ((μ5.1 10 0 38), μ5)) else (if a2 = (-3 : Int32) then (some ((μ5.1 10 0 37), μ5)) else (if a2 = (-2 : Int32) then (some ((μ5.1 10 0 36), μ5)) else (if a2 = (-1 : Int32) then (some ((μ5.1 10 0 35), μ5)) else (am_gd a2 6 (fun j10 => some ((μ5.1 199 0 j10), μ5)))))))))))
def f_X10_found (N : Nat) (a1 : Int32) (a2 : Int32) (μ : am_M) : Option (Int32 × am_M) := f_X10_found_0 N a1 a2 μ
set_option maxHeartbeats 4000000 in
set_option maxRecDepth 100000 in
theorem p_X10_found_0 (G : am_G) (l : Launch) (d : Nat) (hd0 : 110 ≤ d) (N : Nat) (a1 : Int32) (a2 : Int32) (μ : am_M) : sm_P G l am_ci d me_X10_found 0 [(0, .ref (am_ad G 10 0)), (1, .int a1), (2, .int a2)] [] μ (f_X10_found_0 N a1 a2 μ) := by
  unfold f_X10_found_0
  refine sm_iload_n (pc := 0) dX10_found_0 rfl 1 rfl ?_
  refine sm_callSi (pc := 1) (As := [.int a1]) (rest := []) dX10_found_1 (c_X10_areRounds G l N a1 μ) (by omega) wl_X10_280 st_X10_areRounds rfl rfl (Nat.le_of_ble_eq_true rfl) (fun y2 μ1 => ?_)
  refine sm_if_eq (pc := 4) (tgt := 25) dX10_found_4 (by decide) ?_ ?_
  · refine sm_iconst (pc := 25) dX10_found_25 (v := -1) (by decide) ?_
    exact sm_iret (pc := 26) dX10_found_26 rfl
  · refine sm_iload_n (pc := 7) dX10_found_7 rfl 2 rfl ?_
    refine sm_i2l (pc := 8) dX10_found_8 ?_
    refine sm_ldc2 (pc := 9) dX10_found_9 (v := -4) wk_X10_283 ?_
    refine sm_aload_n (pc := 12) dX10_found_12 rfl 0 rfl ?_
    refine sm_geti (pc := 13) dX10_found_13 fi_X10_102 ?_
    refine sm_iconst (pc := 16) dX10_found_16 (v := 1) (by decide) ?_
    refine sm_isub (pc := 17) dX10_found_17 ?_
    refine sm_i2l (pc := 18) dX10_found_18 ?_
    refine sm_callSi (pc := 19) (As := [.long a2.toInt64, .long (-4 : Int64), .long ((μ1.1 10 0 6) - (1 : Int32)).toInt64]) (rest := []) dX10_found_19 (c_X10_within G l N a2.toInt64 (-4 : Int64) ((μ1.1 10 0 6) - (1 : Int32)).toInt64 μ1) (by omega) wl_X10_105 st_X10_within rfl rfl (Nat.le_of_ble_eq_true rfl) (fun y4 μ3 => ?_)
    refine sm_if_ne (pc := 22) (tgt := 27) dX10_found_22 (by decide) ?_ ?_
    · refine sm_aload_n (pc := 27) dX10_found_27 rfl 0 rfl ?_
      refine sm_iload_n (pc := 28) dX10_found_28 rfl 1 rfl ?_
      refine sm_callVv (pc := 29) (As := [.int a1]) (rest := []) dX10_found_29 (c_X10_goRounds G l N a1 μ3) (by omega) wl_X10_285 vm_X10_goRounds rfl rfl (Nat.le_of_ble_eq_true rfl) (fun _ μ5 => ?_)
      refine sm_iload_n (pc := 32) dX10_found_32 rfl 2 rfl ?_
      refine sm_ite (fun e6 => ?_) (fun e6 => ?_)
      · refine sm_tsi (pc := 33) (c1 := -4) (off := 46) (tgt := 79) e6 dX10_found_33 (by decide) (by decide) (by decide) (by decide) ?_
        refine sm_aload_n (pc := 79) dX10_found_79 rfl 0 rfl ?_
        refine sm_geti (pc := 80) dX10_found_80 fi_X10_272 ?_
        exact sm_iret (pc := 83) dX10_found_83 rfl
      refine sm_ite (fun e7 => ?_) (fun e7 => ?_)
      · refine sm_tsi (pc := 33) (c1 := -3) (off := 41) (tgt := 74) e7 dX10_found_33 (by decide) (by decide) (by decide) (by decide) ?_
        refine sm_aload_n (pc := 74) dX10_found_74 rfl 0 rfl ?_
        refine sm_geti (pc := 75) dX10_found_75 fi_X10_269 ?_
        exact sm_iret (pc := 78) dX10_found_78 rfl
      refine sm_ite (fun e8 => ?_) (fun e8 => ?_)
      · refine sm_tsi (pc := 33) (c1 := -2) (off := 36) (tgt := 69) e8 dX10_found_33 (by decide) (by decide) (by decide) (by decide) ?_
        refine sm_aload_n (pc := 69) dX10_found_69 rfl 0 rfl ?_
        refine sm_geti (pc := 70) dX10_found_70 fi_X10_266 ?_
        exact sm_iret (pc := 73) dX10_found_73 rfl
      refine sm_ite (fun e9 => ?_) (fun e9 => ?_)
      · refine sm_tsi (pc := 33) (c1 := -1) (off := 31) (tgt := 64) e9 dX10_found_33 (by decide) (by decide) (by decide) (by decide) ?_
        refine sm_aload_n (pc := 64) dX10_found_64 rfl 0 rfl ?_
        refine sm_geti (pc := 65) dX10_found_65 fi_X10_263 ?_
        exact sm_iret (pc := 68) dX10_found_68 rfl
      replace e6 := am_ne (n := -4) (by decide) e6
      replace e7 := am_ne (n := -3) (by decide) e7
      replace e8 := am_ne (n := -2) (by decide) e8
      replace e9 := am_ne (n := -1) (by decide) e9
      refine sm_tso (pc := 33) (tgt := 84) dX10_found_33 (by omega) (by decide) ?_
      refine sm_aload_n (pc := 84) dX10_found_84 rfl 0 rfl ?_
      refine sm_getr (pc := 85) dX10_found_85 fi_X10_65 ?_
      refine sm_iload_n (pc := 88) dX10_found_88 rfl 2 rfl ?_
      refine sm_iald (pc := 89) dX10_found_89 ly_199 (by decide) (fun j10 hj10 => ?_)
      exact sm_iret (pc := 90) dX10_found_90 rfl
    · refine sm_iconst (pc := 25) dX10_found_25 (v := -1) (by decide) ?_
      exact sm_iret (pc := 26) dX10_found_26 rfl
theorem c_X10_found (G : am_G) (l : Launch) (N : Nat) (a1 : Int32) (a2 : Int32) (μ : am_M) : ct_P G l am_ci 110 me_X10_found [.ref (am_ad G 10 0), .int a1, .int a2] μ (f_X10_found N a1 a2 μ) := ct_of (by decide +kernel) (Nat.le_of_ble_eq_true rfl) rfl (p_X10_found_0 G l 110 (Nat.le_refl _) N a1 a2 μ)

def f_X10_set_21 (N : Nat) (r_21 : Int32 → Int32 → am_M → Option (Int32 × am_M)) (x2 : Int32) (x3 : Int32) (μ : am_M) : Option (Int32 × am_M) :=
if (μ.1 10 0 6) ≤ x3 then (some (x2, μ)) else (am_gd x3 6 (fun j5 => am_bd (f_X10_becomes N ((12 : Int32) + x3) (μ.1 200 0 j5) μ) (fun y7 μ6 => r_21 x2 (x3 + (1 : Int32)) μ6)))
def f_X10_set_21_lp (N : Nat) : Nat → Int32 → Int32 → am_M → Option (Int32 × am_M)
  | 0, _, _, _ => none
  | n + 1, x2, x3, μ => f_X10_set_21 N (f_X10_set_21_lp N n) x2 x3 μ
def f_X10_set_0 (N : Nat) (a1 : Int32) (μ : am_M) : Option (Int32 × am_M) :=
am_bd (f_X10_areRounds N a1 μ) (fun y2 μ1 => if y2 = 0 then (some ((-1 : Int32), μ1)) else (am_bd (f_X10_goRounds N a1 μ1) (fun _ μ3 => am_nm (μ3.1 10 0 37) (fun y4 => f_X10_set_21_lp N N y4 (0 : Int32) μ3))))
def f_X10_set (N : Nat) (a1 : Int32) (μ : am_M) : Option (Int32 × am_M) := f_X10_set_0 N a1 μ
set_option maxHeartbeats 4000000 in
set_option maxRecDepth 100000 in
theorem p_X10_set_21 (G : am_G) (l : Launch) (d : Nat) (hd0 : 110 ≤ d) (N : Nat) (r_21 : Int32 → Int32 → am_M → Option (Int32 × am_M)) (H_21 : ∀ (x2 : Int32) (x3 : Int32) (μ : am_M), sm_P G l am_ci d me_X10_set 21 [(0, .ref (am_ad G 10 0)), (2, .int x2), (3, .int x3)] [] μ (r_21 x2 x3 μ)) (x2 : Int32) (x3 : Int32) (μ : am_M) : sm_P G l am_ci d me_X10_set 21 [(0, .ref (am_ad G 10 0)), (2, .int x2), (3, .int x3)] [] μ (f_X10_set_21 N r_21 x2 x3 μ) := by
  unfold f_X10_set_21
  refine sm_iload_n (pc := 21) dX10_set_21 rfl 2 rfl ?_
  refine sm_aload_n (pc := 22) dX10_set_22 rfl 0 rfl ?_
  refine sm_geti (pc := 23) dX10_set_23 fi_X10_102 ?_
  refine sm_icmp_ge (pc := 26) (tgt := 51) dX10_set_26 (by decide) ?_ ?_
  · refine sm_iload_n (pc := 51) dX10_set_51 rfl 1 rfl ?_
    exact sm_iret (pc := 52) dX10_set_52 rfl
  · refine sm_aload_n (pc := 29) dX10_set_29 rfl 0 rfl ?_
    refine sm_bipush (pc := 30) dX10_set_30 (v := 12) (by decide) ?_
    refine sm_iload_n (pc := 32) dX10_set_32 rfl 2 rfl ?_
    refine sm_iadd (pc := 33) dX10_set_33 ?_
    refine sm_aload_n (pc := 34) dX10_set_34 rfl 0 rfl ?_
    refine sm_getr (pc := 35) dX10_set_35 fi_X10_68 ?_
    refine sm_iload_n (pc := 38) dX10_set_38 rfl 2 rfl ?_
    refine sm_iald (pc := 39) dX10_set_39 ly_200 (by decide) (fun j5 hj5 => ?_)
    refine sm_callVi (pc := 40) (As := [.int ((12 : Int32) + x3), .int (μ.1 200 0 j5)]) (rest := []) dX10_set_40 (c_X10_becomes G l N ((12 : Int32) + x3) (μ.1 200 0 j5) μ) (by omega) wl_X10_137 vm_X10_becomes rfl rfl (Nat.le_of_ble_eq_true rfl) (fun y7 μ6 => ?_)
    refine sm_istore (pc := 43) (lv' := [(4, .int y7), (0, .ref (am_ad G 10 0)), (2, .int x2), (3, .int x3)]) dX10_set_43 (by decide) rfl ?_
    refine sm_iinc (pc := 45) (v := (x3 + (1 : Int32))) (lv' := [(3, .int (x3 + (1 : Int32))), (4, .int y7), (0, .ref (am_ad G 10 0)), (2, .int x2)]) dX10_set_45 3 rfl rfl (by decide) rfl ?_
    refine sm_goto (pc := 48) (tgt := 21) dX10_set_48 (by decide) ?_
    refine sm_sub [2, 3, 0] rfl ?_
    exact H_21 x2 (x3 + (1 : Int32)) μ6
theorem p_X10_set_21_lp (G : am_G) (l : Launch) (d : Nat) (hd0 : 110 ≤ d) (N : Nat) : ∀ (n : Nat) (x2 : Int32) (x3 : Int32) (μ : am_M), sm_P G l am_ci d me_X10_set 21 [(0, .ref (am_ad G 10 0)), (2, .int x2), (3, .int x3)] [] μ (f_X10_set_21_lp N n x2 x3 μ) := by
  intro n
  induction n with
  | zero => intros; exact sm_none
  | succ n ih => exact fun x2 x3 μ => p_X10_set_21 G l d hd0 N (f_X10_set_21_lp N n) ih x2 x3 μ
set_option maxHeartbeats 4000000 in
set_option maxRecDepth 100000 in
theorem p_X10_set_0 (G : am_G) (l : Launch) (d : Nat) (hd0 : 110 ≤ d) (N : Nat) (a1 : Int32) (μ : am_M) : sm_P G l am_ci d me_X10_set 0 [(0, .ref (am_ad G 10 0)), (1, .int a1)] [] μ (f_X10_set_0 N a1 μ) := by
  unfold f_X10_set_0
  refine sm_iload_n (pc := 0) dX10_set_0 rfl 1 rfl ?_
  refine sm_callSi (pc := 1) (As := [.int a1]) (rest := []) dX10_set_1 (c_X10_areRounds G l N a1 μ) (by omega) wl_X10_280 st_X10_areRounds rfl rfl (Nat.le_of_ble_eq_true rfl) (fun y2 μ1 => ?_)
  refine sm_if_ne (pc := 4) (tgt := 9) dX10_set_4 (by decide) ?_ ?_
  · refine sm_aload_n (pc := 9) dX10_set_9 rfl 0 rfl ?_
    refine sm_iload_n (pc := 10) dX10_set_10 rfl 1 rfl ?_
    refine sm_callVv (pc := 11) (As := [.int a1]) (rest := []) dX10_set_11 (c_X10_goRounds G l N a1 μ1) (by omega) wl_X10_285 vm_X10_goRounds rfl rfl (Nat.le_of_ble_eq_true rfl) (fun _ μ3 => ?_)
    refine sm_aload_n (pc := 14) dX10_set_14 rfl 0 rfl ?_
    refine sm_geti (pc := 15) dX10_set_15 fi_X10_269 ?_
    refine sm_nmI (fun y4 => ?_)
    refine sm_istore_n (pc := 18) (lv' := [(2, .int y4), (0, .ref (am_ad G 10 0)), (1, .int a1)]) dX10_set_18 rfl (by decide) rfl ?_
    refine sm_iconst (pc := 19) dX10_set_19 (v := 0) (by decide) ?_
    refine sm_istore_n (pc := 20) (lv' := [(3, .int (0 : Int32)), (2, .int y4), (0, .ref (am_ad G 10 0)), (1, .int a1)]) dX10_set_20 rfl (by decide) rfl ?_
    refine sm_sub [2, 1, 0] rfl ?_
    exact p_X10_set_21_lp G l d hd0 N N y4 (0 : Int32) μ3
  · refine sm_iconst (pc := 7) dX10_set_7 (v := -1) (by decide) ?_
    exact sm_iret (pc := 8) dX10_set_8 rfl
theorem c_X10_set (G : am_G) (l : Launch) (N : Nat) (a1 : Int32) (μ : am_M) : ct_P G l am_ci 110 me_X10_set [.ref (am_ad G 10 0), .int a1] μ (f_X10_set N a1 μ) := ct_of (by decide +kernel) (Nat.le_of_ble_eq_true rfl) rfl (p_X10_set_0 G l 110 (Nat.le_refl _) N a1 μ)

